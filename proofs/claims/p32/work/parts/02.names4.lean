theorem dL_cell_0 : decode cL_cell 0 = .ok (.iload_n 1, 1) := by decide +kernel
theorem dL_cell_1 : decode cL_cell 1 = .ok (.aload_n 0, 1) := by decide +kernel
theorem dL_cell_2 : decode cL_cell 2 = .ok (.arraylength, 1) := by decide +kernel
theorem dL_cell_3 : decode cL_cell 3 = .ok (.if_icmp .ge 9, 3) := by decide +kernel
theorem dL_cell_6 : decode cL_cell 6 = .ok (.aload_n 0, 1) := by decide +kernel
theorem dL_cell_7 : decode cL_cell 7 = .ok (.iload_n 1, 1) := by decide +kernel
theorem dL_cell_8 : decode cL_cell 8 = .ok (.iaload, 1) := by decide +kernel
theorem dL_cell_9 : decode cL_cell 9 = .ok (.goto 15, 3) := by decide +kernel
theorem dL_cell_12 : decode cL_cell 12 = .ok (.sipush 7919, 3) := by decide +kernel
theorem dL_cell_15 : decode cL_cell 15 = .ok (.iload_n 1, 1) := by decide +kernel
theorem dL_cell_16 : decode cL_cell 16 = .ok (.iconst 3, 1) := by decide +kernel
theorem dL_cell_17 : decode cL_cell 17 = .ok (.iadd, 1) := by decide +kernel
theorem dL_cell_18 : decode cL_cell 18 = .ok (.imul, 1) := by decide +kernel
theorem dL_cell_19 : decode cL_cell 19 = .ok (.iload_n 1, 1) := by decide +kernel
theorem dL_cell_20 : decode cL_cell 20 = .ok (.bipush 11, 2) := by decide +kernel
theorem dL_cell_22 : decode cL_cell 22 = .ok (.iadd, 1) := by decide +kernel
theorem dL_cell_23 : decode cL_cell 23 = .ok (.imul, 1) := by decide +kernel
theorem dL_cell_24 : decode cL_cell 24 = .ok (.ireturn, 1) := by decide +kernel
theorem dL_low_0 : decode cL_low 0 = .ok (.iload_n 0, 1) := by decide +kernel
theorem dL_low_1 : decode cL_low 1 = .ok (.ldc 7, 2) := by decide +kernel
theorem dL_low_3 : decode cL_low 3 = .ok (.iand, 1) := by decide +kernel
theorem dL_low_4 : decode cL_low 4 = .ok (.iload_n 1, 1) := by decide +kernel
theorem dL_low_5 : decode cL_low 5 = .ok (.irem, 1) := by decide +kernel
theorem dL_low_6 : decode cL_low 6 = .ok (.ireturn, 1) := by decide +kernel
set_option maxRecDepth 20000 in
theorem ggL_told_X6_count : GoodIn wsL_told wsX6_count := goodIn_r _ [7, 8, 9, 10, 11, 12, 13, 14, 6, 15, 16, 17, 18, 19, 20, 21, 22, 23, 24, 25, 26, 27, 28, 29, 30, 31, 32, 33, 34, 35, 36, 37, 38, 39, 40, 41, 42, 43, 44, 45, 46, 47, 48, 49, 50, 51, 52, 53, 54, 55, 56, 57, 58, 59, 60, 61, 62, 63, 64, 65, 66, 67, 68, 69, 70, 71, 72, 73, 74, 75, 76, 77, 78, 79, 80, 81, 82, 83, 84, 85, 86, 87, 88, 89, 90, 91, 92, 93, 94, 95, 96, 97, 98, 99, 166, 167, 168, 169, 170, 171, 172, 173, 174, 175, 176, 177, 178, 179, 180, 181, 182, 183, 184, 185, 186, 187, 188, 189, 190, 191, 192, 193, 194, 195, 196, 197, 198, 199, 200, 201, 202, 203, 204, 205, 206, 207, 208] (by decide +kernel) (by decide +kernel)
set_option maxRecDepth 20000 in
theorem gL_told_X6_count : GoodIn wsL_told (wsV RL 12 RX6 yX6_count wsX6_count) := goodIn_app (goodIn_of _ (by decide +kernel)) ggL_told_X6_count
set_option maxRecDepth 20000 in
theorem ggL_told_X6_floor : GoodIn wsL_told wsX6_floor := goodIn_r _ [103, 8, 104, 58, 6, 59, 105, 106, 107, 97, 108, 99, 109, 110, 111, 112, 113, 166, 167, 168, 169, 170, 171, 172, 173, 174, 175, 176, 177, 178, 179, 180, 181, 192, 193, 194, 195, 196, 197, 198] (by decide +kernel) (by decide +kernel)
set_option maxRecDepth 20000 in
theorem gL_told_X6_floor : GoodIn wsL_told (wsV RL 18 RX6 yX6_floor wsX6_floor) := goodIn_app (goodIn_of _ (by decide +kernel)) ggL_told_X6_floor
set_option maxRecDepth 20000 in
theorem ggL_told_X6_row : GoodIn wsL_told wsX6_row := goodIn_r _ [117, 8, 104, 58, 6, 59, 118, 65, 66, 41, 67, 68, 69, 166, 167, 168, 169, 170, 171, 172, 173, 174, 175, 176, 177, 178, 179, 180, 181] (by decide +kernel) (by decide +kernel)
set_option maxRecDepth 20000 in
theorem gL_told_X6_row : GoodIn wsL_told (wsV RL 22 RX6 yX6_row wsX6_row) := goodIn_app (goodIn_of _ (by decide +kernel)) ggL_told_X6_row
set_option maxRecDepth 20000 in
theorem ggL_told_X6_log : GoodIn wsL_told wsX6_log := goodIn_r _ [122, 8, 104, 58, 6, 59, 123, 112, 113, 105, 106, 107, 97, 108, 99, 109, 110, 111, 166, 167, 168, 169, 170, 171, 172, 173, 174, 175, 176, 177, 178, 179, 180, 181, 192, 193, 194, 195, 196, 197, 198] (by decide +kernel) (by decide +kernel)
set_option maxRecDepth 20000 in
theorem gL_told_X6_log : GoodIn wsL_told (wsV RL 25 RX6 yX6_log wsX6_log) := goodIn_app (goodIn_of _ (by decide +kernel)) ggL_told_X6_log
set_option maxRecDepth 20000 in
theorem ggL_told_X6_person : GoodIn wsL_told wsX6_person := goodIn_r _ [127, 8, 9, 128, 129, 6, 130, 131, 132, 133, 48, 134, 50, 53, 135, 136, 137, 138, 52, 51, 139, 140, 141, 41, 142, 143, 144, 145, 146, 147, 65, 66, 67, 68, 69, 16, 17, 18, 19, 20, 21, 22, 23, 24, 25, 26, 27, 28, 29, 30, 31, 32, 33, 34, 35, 36, 37, 38, 39, 40, 42, 43, 44, 45, 46, 47, 49, 54, 55, 56, 57, 58, 59, 60, 61, 62, 63, 64, 70, 71, 72, 73, 74, 75, 76, 77, 78, 79, 80, 148, 149, 150, 151, 152, 153, 154, 155, 112, 113, 166, 167, 168, 169, 170, 171, 172, 173, 174, 175, 176, 177, 178, 179, 180, 181, 192, 193, 194, 195, 196, 197, 198, 188, 189, 190, 191, 182, 183, 184, 185, 186, 187] (by decide +kernel) (by decide +kernel)
set_option maxRecDepth 20000 in
theorem gL_told_X6_person : GoodIn wsL_told (wsV RL 29 RX6 yX6_person wsX6_person) := goodIn_app (goodIn_of _ (by decide +kernel)) ggL_told_X6_person
set_option maxRecDepth 20000 in
theorem ggL_told_X6_due : GoodIn wsL_told wsX6_due := goodIn_r _ [159, 8, 123, 112, 6, 113, 160, 161, 162, 41, 163, 164, 165, 70, 71, 166, 167, 168, 169, 170, 171, 172, 173, 174, 175, 176, 177, 178, 179, 180, 181, 192, 193, 194, 195, 196, 197, 198] (by decide +kernel) (by decide +kernel)
set_option maxRecDepth 20000 in
theorem gL_told_X6_due : GoodIn wsL_told (wsV RL 32 RX6 yX6_due wsX6_due) := goodIn_app (goodIn_of _ (by decide +kernel)) ggL_told_X6_due
theorem dL_told_0 : decode cL_told 0 = .ok (.ldc2_w 8, 3) := by decide +kernel
theorem dL_told_3 : decode cL_told 3 = .ok (.lstore_n 1, 1) := by decide +kernel
theorem dL_told_4 : decode cL_told 4 = .ok (.iconst 0, 1) := by decide +kernel
theorem dL_told_5 : decode cL_told 5 = .ok (.istore_n 3, 1) := by decide +kernel
theorem dL_told_6 : decode cL_told 6 = .ok (.iload_n 3, 1) := by decide +kernel
theorem dL_told_7 : decode cL_told 7 = .ok (.bipush 12, 2) := by decide +kernel
theorem dL_told_9 : decode cL_told 9 = .ok (.if_icmp .ge 22, 3) := by decide +kernel
theorem dL_told_12 : decode cL_told 12 = .ok (.ldc2_w 10, 3) := by decide +kernel
theorem dL_told_15 : decode cL_told 15 = .ok (.lload_n 1, 1) := by decide +kernel
theorem dL_told_16 : decode cL_told 16 = .ok (.lmul, 1) := by decide +kernel
theorem dL_told_17 : decode cL_told 17 = .ok (.aload_n 0, 1) := by decide +kernel
theorem dL_told_18 : decode cL_told 18 = .ok (.iload_n 3, 1) := by decide +kernel
theorem dL_told_19 : decode cL_told 19 = .ok (.invokevirtual 12, 3) := by decide +kernel
theorem dL_told_22 : decode cL_told 22 = .ok (.i2l, 1) := by decide +kernel
theorem dL_told_23 : decode cL_told 23 = .ok (.ladd, 1) := by decide +kernel
theorem dL_told_24 : decode cL_told 24 = .ok (.lstore_n 1, 1) := by decide +kernel
theorem dL_told_25 : decode cL_told 25 = .ok (.iinc 3 1, 3) := by decide +kernel
theorem dL_told_28 : decode cL_told 28 = .ok (.goto (-22), 3) := by decide +kernel
theorem dL_told_31 : decode cL_told 31 = .ok (.iconst 0, 1) := by decide +kernel
theorem dL_told_32 : decode cL_told 32 = .ok (.istore_n 3, 1) := by decide +kernel
theorem dL_told_33 : decode cL_told 33 = .ok (.iload_n 3, 1) := by decide +kernel
theorem dL_told_34 : decode cL_told 34 = .ok (.bipush 10, 2) := by decide +kernel
theorem dL_told_36 : decode cL_told 36 = .ok (.if_icmp .ge 129, 3) := by decide +kernel
theorem dL_told_39 : decode cL_told 39 = .ok (.iconst 0, 1) := by decide +kernel
theorem dL_told_40 : decode cL_told 40 = .ok (.istore 4, 2) := by decide +kernel
theorem dL_told_42 : decode cL_told 42 = .ok (.iload 4, 2) := by decide +kernel
theorem dL_told_44 : decode cL_told 44 = .ok (.iconst 4, 1) := by decide +kernel
theorem dL_told_45 : decode cL_told 45 = .ok (.if_icmp .ge 24, 3) := by decide +kernel
theorem dL_told_48 : decode cL_told 48 = .ok (.ldc2_w 10, 3) := by decide +kernel
theorem dL_told_51 : decode cL_told 51 = .ok (.lload_n 1, 1) := by decide +kernel
theorem dL_told_52 : decode cL_told 52 = .ok (.lmul, 1) := by decide +kernel
theorem dL_told_53 : decode cL_told 53 = .ok (.aload_n 0, 1) := by decide +kernel
theorem dL_told_54 : decode cL_told 54 = .ok (.iload_n 3, 1) := by decide +kernel
theorem dL_told_55 : decode cL_told 55 = .ok (.iload 4, 2) := by decide +kernel
theorem dL_told_57 : decode cL_told 57 = .ok (.invokevirtual 18, 3) := by decide +kernel
theorem dL_told_60 : decode cL_told 60 = .ok (.i2l, 1) := by decide +kernel
theorem dL_told_61 : decode cL_told 61 = .ok (.ladd, 1) := by decide +kernel
theorem dL_told_62 : decode cL_told 62 = .ok (.lstore_n 1, 1) := by decide +kernel
theorem dL_told_63 : decode cL_told 63 = .ok (.iinc 4 1, 3) := by decide +kernel
theorem dL_told_66 : decode cL_told 66 = .ok (.goto (-24), 3) := by decide +kernel
theorem dL_told_69 : decode cL_told 69 = .ok (.iconst 0, 1) := by decide +kernel
theorem dL_told_70 : decode cL_told 70 = .ok (.istore 4, 2) := by decide +kernel
theorem dL_told_72 : decode cL_told 72 = .ok (.iload 4, 2) := by decide +kernel
theorem dL_told_74 : decode cL_told 74 = .ok (.iconst 5, 1) := by decide +kernel
theorem dL_told_75 : decode cL_told 75 = .ok (.if_icmp .ge 24, 3) := by decide +kernel
theorem dL_told_78 : decode cL_told 78 = .ok (.ldc2_w 10, 3) := by decide +kernel
theorem dL_told_81 : decode cL_told 81 = .ok (.lload_n 1, 1) := by decide +kernel
theorem dL_told_82 : decode cL_told 82 = .ok (.lmul, 1) := by decide +kernel
theorem dL_told_83 : decode cL_told 83 = .ok (.aload_n 0, 1) := by decide +kernel
theorem dL_told_84 : decode cL_told 84 = .ok (.iload_n 3, 1) := by decide +kernel
theorem dL_told_85 : decode cL_told 85 = .ok (.iload 4, 2) := by decide +kernel
theorem dL_told_87 : decode cL_told 87 = .ok (.invokevirtual 22, 3) := by decide +kernel
theorem dL_told_90 : decode cL_told 90 = .ok (.i2l, 1) := by decide +kernel
theorem dL_told_91 : decode cL_told 91 = .ok (.ladd, 1) := by decide +kernel
theorem dL_told_92 : decode cL_told 92 = .ok (.lstore_n 1, 1) := by decide +kernel
theorem dL_told_93 : decode cL_told 93 = .ok (.iinc 4 1, 3) := by decide +kernel
theorem dL_told_96 : decode cL_told 96 = .ok (.goto (-24), 3) := by decide +kernel
theorem dL_told_99 : decode cL_told 99 = .ok (.iconst 0, 1) := by decide +kernel
theorem dL_told_100 : decode cL_told 100 = .ok (.istore 4, 2) := by decide +kernel
theorem dL_told_102 : decode cL_told 102 = .ok (.iload 4, 2) := by decide +kernel
theorem dL_told_104 : decode cL_told 104 = .ok (.bipush 6, 2) := by decide +kernel
theorem dL_told_106 : decode cL_told 106 = .ok (.if_icmp .ge 53, 3) := by decide +kernel
theorem dL_told_109 : decode cL_told 109 = .ok (.ldc2_w 10, 3) := by decide +kernel
theorem dL_told_112 : decode cL_told 112 = .ok (.ldc2_w 10, 3) := by decide +kernel
theorem dL_told_115 : decode cL_told 115 = .ok (.ldc2_w 10, 3) := by decide +kernel
theorem dL_told_118 : decode cL_told 118 = .ok (.lload_n 1, 1) := by decide +kernel
theorem dL_told_119 : decode cL_told 119 = .ok (.lmul, 1) := by decide +kernel
theorem dL_told_120 : decode cL_told 120 = .ok (.aload_n 0, 1) := by decide +kernel
theorem dL_told_121 : decode cL_told 121 = .ok (.iload_n 3, 1) := by decide +kernel
theorem dL_told_122 : decode cL_told 122 = .ok (.iload 4, 2) := by decide +kernel
theorem dL_told_124 : decode cL_told 124 = .ok (.iconst 0, 1) := by decide +kernel
theorem dL_told_125 : decode cL_told 125 = .ok (.invokevirtual 25, 3) := by decide +kernel
theorem dL_told_128 : decode cL_told 128 = .ok (.i2l, 1) := by decide +kernel
theorem dL_told_129 : decode cL_told 129 = .ok (.ladd, 1) := by decide +kernel
theorem dL_told_130 : decode cL_told 130 = .ok (.lmul, 1) := by decide +kernel
theorem dL_told_131 : decode cL_told 131 = .ok (.aload_n 0, 1) := by decide +kernel
theorem dL_told_132 : decode cL_told 132 = .ok (.iload_n 3, 1) := by decide +kernel
theorem dL_told_133 : decode cL_told 133 = .ok (.iload 4, 2) := by decide +kernel
theorem dL_told_135 : decode cL_told 135 = .ok (.iconst 1, 1) := by decide +kernel
theorem dL_told_136 : decode cL_told 136 = .ok (.invokevirtual 25, 3) := by decide +kernel
theorem dL_told_139 : decode cL_told 139 = .ok (.i2l, 1) := by decide +kernel
theorem dL_told_140 : decode cL_told 140 = .ok (.ladd, 1) := by decide +kernel
theorem dL_told_141 : decode cL_told 141 = .ok (.lmul, 1) := by decide +kernel
theorem dL_told_142 : decode cL_told 142 = .ok (.aload_n 0, 1) := by decide +kernel
theorem dL_told_143 : decode cL_told 143 = .ok (.iload_n 3, 1) := by decide +kernel
theorem dL_told_144 : decode cL_told 144 = .ok (.iload 4, 2) := by decide +kernel
theorem dL_told_146 : decode cL_told 146 = .ok (.iconst 2, 1) := by decide +kernel
theorem dL_told_147 : decode cL_told 147 = .ok (.invokevirtual 25, 3) := by decide +kernel
theorem dL_told_150 : decode cL_told 150 = .ok (.i2l, 1) := by decide +kernel
theorem dL_told_151 : decode cL_told 151 = .ok (.ladd, 1) := by decide +kernel
theorem dL_told_152 : decode cL_told 152 = .ok (.lstore_n 1, 1) := by decide +kernel
theorem dL_told_153 : decode cL_told 153 = .ok (.iinc 4 1, 3) := by decide +kernel
theorem dL_told_156 : decode cL_told 156 = .ok (.goto (-54), 3) := by decide +kernel
theorem dL_told_159 : decode cL_told 159 = .ok (.iinc 3 1, 3) := by decide +kernel
theorem dL_told_162 : decode cL_told 162 = .ok (.goto (-129), 3) := by decide +kernel
theorem dL_told_165 : decode cL_told 165 = .ok (.iconst 0, 1) := by decide +kernel
theorem dL_told_166 : decode cL_told 166 = .ok (.istore_n 3, 1) := by decide +kernel
theorem dL_told_167 : decode cL_told 167 = .ok (.iload_n 3, 1) := by decide +kernel
theorem dL_told_168 : decode cL_told 168 = .ok (.bipush 16, 2) := by decide +kernel
theorem dL_told_170 : decode cL_told 170 = .ok (.if_icmp .ge 40, 3) := by decide +kernel
theorem dL_told_173 : decode cL_told 173 = .ok (.iconst 0, 1) := by decide +kernel
theorem dL_told_174 : decode cL_told 174 = .ok (.istore 4, 2) := by decide +kernel
theorem dL_told_176 : decode cL_told 176 = .ok (.iload 4, 2) := by decide +kernel
theorem dL_told_178 : decode cL_told 178 = .ok (.bipush 6, 2) := by decide +kernel
theorem dL_told_180 : decode cL_told 180 = .ok (.if_icmp .ge 24, 3) := by decide +kernel
theorem dL_told_183 : decode cL_told 183 = .ok (.ldc2_w 10, 3) := by decide +kernel
theorem dL_told_186 : decode cL_told 186 = .ok (.lload_n 1, 1) := by decide +kernel
theorem dL_told_187 : decode cL_told 187 = .ok (.lmul, 1) := by decide +kernel
theorem dL_told_188 : decode cL_told 188 = .ok (.aload_n 0, 1) := by decide +kernel
theorem dL_told_189 : decode cL_told 189 = .ok (.iload_n 3, 1) := by decide +kernel
theorem dL_told_190 : decode cL_told 190 = .ok (.iload 4, 2) := by decide +kernel
theorem dL_told_192 : decode cL_told 192 = .ok (.invokevirtual 29, 3) := by decide +kernel
theorem dL_told_195 : decode cL_told 195 = .ok (.i2l, 1) := by decide +kernel
theorem dL_told_196 : decode cL_told 196 = .ok (.ladd, 1) := by decide +kernel
theorem dL_told_197 : decode cL_told 197 = .ok (.lstore_n 1, 1) := by decide +kernel
theorem dL_told_198 : decode cL_told 198 = .ok (.iinc 4 1, 3) := by decide +kernel
theorem dL_told_201 : decode cL_told 201 = .ok (.goto (-25), 3) := by decide +kernel
theorem dL_told_204 : decode cL_told 204 = .ok (.iinc 3 1, 3) := by decide +kernel
theorem dL_told_207 : decode cL_told 207 = .ok (.goto (-40), 3) := by decide +kernel
theorem dL_told_210 : decode cL_told 210 = .ok (.iconst 0, 1) := by decide +kernel
theorem dL_told_211 : decode cL_told 211 = .ok (.istore_n 3, 1) := by decide +kernel
theorem dL_told_212 : decode cL_told 212 = .ok (.iload_n 3, 1) := by decide +kernel
theorem dL_told_213 : decode cL_told 213 = .ok (.iconst 4, 1) := by decide +kernel
theorem dL_told_214 : decode cL_told 214 = .ok (.if_icmp .ge 22, 3) := by decide +kernel
theorem dL_told_217 : decode cL_told 217 = .ok (.ldc2_w 10, 3) := by decide +kernel
theorem dL_told_220 : decode cL_told 220 = .ok (.lload_n 1, 1) := by decide +kernel
theorem dL_told_221 : decode cL_told 221 = .ok (.lmul, 1) := by decide +kernel
theorem dL_told_222 : decode cL_told 222 = .ok (.aload_n 0, 1) := by decide +kernel
theorem dL_told_223 : decode cL_told 223 = .ok (.iload_n 3, 1) := by decide +kernel
theorem dL_told_224 : decode cL_told 224 = .ok (.invokevirtual 32, 3) := by decide +kernel
theorem dL_told_227 : decode cL_told 227 = .ok (.i2l, 1) := by decide +kernel
theorem dL_told_228 : decode cL_told 228 = .ok (.ladd, 1) := by decide +kernel
theorem dL_told_229 : decode cL_told 229 = .ok (.lstore_n 1, 1) := by decide +kernel
theorem dL_told_230 : decode cL_told 230 = .ok (.iinc 3 1, 3) := by decide +kernel
theorem dL_told_233 : decode cL_told 233 = .ok (.goto (-21), 3) := by decide +kernel
theorem dL_told_236 : decode cL_told 236 = .ok (.lload_n 1, 1) := by decide +kernel
theorem dL_told_237 : decode cL_told 237 = .ok (.lreturn, 1) := by decide +kernel
set_option maxRecDepth 20000 in
theorem ggL_act_L_low : GoodIn wsL_act wsL_low := goodIn_r _ [4, 5] (by decide +kernel) (by decide +kernel)
set_option maxRecDepth 20000 in
theorem gL_act_L_low : GoodIn wsL_act (va_wsS RL 35 yL_low wsL_low) := goodIn_app (goodIn_of _ (by decide +kernel)) ggL_act_L_low
set_option maxRecDepth 20000 in
theorem ggL_act_X6_enlist : GoodIn wsL_act wsX6_enlist := goodIn_r _ [10, 11, 12, 13, 14, 15, 16, 17, 18, 19, 20, 21, 22, 23, 24, 25, 26, 9, 27, 28, 29, 30, 31, 32, 33, 34, 35, 36, 37, 38, 39, 40, 41, 42, 43, 44, 45, 46, 47, 48, 49, 50, 51, 52, 53, 54, 55, 56, 57, 58, 59, 60, 61, 62, 63, 64, 65, 66, 67, 68, 69, 70, 71, 72, 73, 74, 75, 76, 77, 78, 79, 80, 81, 82, 83, 84, 85, 86, 87, 88, 89, 90, 91, 92, 93, 259, 260, 261, 262, 263, 264, 265, 266, 267, 268, 269, 270, 271, 272, 273, 274, 275, 276, 277, 278, 279, 280, 281, 282, 283, 284, 285, 286, 287, 288, 289] (by decide +kernel) (by decide +kernel)
set_option maxRecDepth 20000 in
theorem gL_act_X6_enlist : GoodIn wsL_act (wsV RL 40 RX6 yX6_enlist wsX6_enlist) := goodIn_app (goodIn_of _ (by decide +kernel)) ggL_act_X6_enlist
set_option maxRecDepth 20000 in
theorem ggL_act_X6_strike : GoodIn wsL_act wsX6_strike := goodIn_r _ [97, 11, 12, 13, 14, 15, 16, 17, 18, 19, 20, 21, 22, 23, 24, 25, 26, 9, 27, 28, 29, 30, 31, 32, 33, 34, 35, 36, 37, 38, 39, 40, 41, 42, 43, 44, 45, 46, 47, 48, 49, 50, 51, 52, 98, 99, 100, 101, 57, 58, 59, 60, 61, 62, 63, 64, 65, 66, 67, 68, 69, 70, 102, 103, 104, 105, 106, 107, 108, 109, 77, 78, 79, 80, 81, 82, 83, 84, 85, 86, 87, 88, 89, 90, 91, 92, 75, 76, 93, 259, 260, 261, 262, 263, 264, 265, 266, 267, 268, 269, 270, 271, 272, 273, 274, 275, 276, 277, 278, 279, 280, 281, 282, 283, 284, 285, 286, 287, 288, 289] (by decide +kernel) (by decide +kernel)
set_option maxRecDepth 20000 in
theorem gL_act_X6_strike : GoodIn wsL_act (wsV RL 43 RX6 yX6_strike wsX6_strike) := goodIn_app (goodIn_of _ (by decide +kernel)) ggL_act_X6_strike
set_option maxRecDepth 20000 in
theorem ggL_act_X6_setNeed : GoodIn wsL_act wsX6_setNeed := goodIn_r _ [113, 12, 81, 57, 58, 9, 59, 114, 75, 76, 82, 83, 84, 85, 86, 87, 88, 89, 90, 91, 92, 93, 14, 15, 16, 17, 18, 19, 20, 21, 22, 23, 24, 25, 26, 27, 28, 29, 30, 31, 32, 33, 34, 35, 36, 37, 38, 39, 40, 41, 42, 43, 44, 45, 46, 47, 48, 49, 50, 51, 52, 259, 260, 261, 262, 263, 264, 265, 266, 267, 268, 269, 270, 271, 272, 273, 274, 286, 287, 288, 289, 275, 276, 277, 278, 279, 280, 281, 282, 283, 284, 285] (by decide +kernel) (by decide +kernel)
set_option maxRecDepth 20000 in
theorem gL_act_X6_setNeed : GoodIn wsL_act (wsV RL 46 RX6 yX6_setNeed wsX6_setNeed) := goodIn_app (goodIn_of _ (by decide +kernel)) ggL_act_X6_setNeed
set_option maxRecDepth 20000 in
theorem ggL_act_X6_train : GoodIn wsL_act wsX6_train := goodIn_r _ [118, 12, 81, 60, 61, 9, 62, 119, 120, 121, 82, 83, 84, 85, 86, 87, 88, 89, 90, 91, 92, 75, 76, 93, 14, 15, 16, 17, 18, 19, 20, 21, 22, 23, 24, 25, 26, 27, 28, 29, 30, 31, 32, 33, 34, 35, 36, 37, 38, 39, 40, 41, 42, 43, 44, 45, 46, 47, 48, 49, 50, 51, 52, 259, 260, 261, 262, 263, 264, 265, 266, 267, 268, 269, 270, 271, 272, 273, 274, 286, 287, 288, 289, 275, 276, 277, 278, 279, 280, 281, 282, 283, 284, 285] (by decide +kernel) (by decide +kernel)
set_option maxRecDepth 20000 in
theorem gL_act_X6_train : GoodIn wsL_act (wsV RL 49 RX6 yX6_train wsX6_train) := goodIn_app (goodIn_of _ (by decide +kernel)) ggL_act_X6_train
set_option maxRecDepth 20000 in
theorem ggL_act_X6_set : GoodIn wsL_act wsX6_set := goodIn_r _ [125, 12, 81, 114, 75, 9, 76, 82, 83, 84, 85, 86, 87, 88, 89, 90, 91, 92, 93, 14, 15, 16, 17, 18, 19, 20, 21, 22, 23, 24, 25, 26, 27, 28, 29, 30, 31, 32, 33, 34, 35, 36, 37, 38, 39, 40, 41, 42, 43, 44, 45, 46, 47, 48, 49, 50, 51, 52, 259, 260, 261, 262, 263, 264, 265, 266, 267, 268, 269, 270, 271, 272, 273, 274, 286, 287, 288, 289, 275, 276, 277, 278, 279, 280, 281, 282, 283, 284, 285] (by decide +kernel) (by decide +kernel)
set_option maxRecDepth 20000 in
theorem gL_act_X6_set : GoodIn wsL_act (wsV RL 52 RX6 yX6_set wsX6_set) := goodIn_app (goodIn_of _ (by decide +kernel)) ggL_act_X6_set
set_option maxRecDepth 20000 in
theorem ggL_act_X6_leave : GoodIn wsL_act wsX6_leave := goodIn_r _ [129, 11, 12, 13, 14, 15, 16, 17, 18, 19, 20, 21, 22, 23, 24, 25, 26, 9, 27, 28, 29, 30, 31, 32, 33, 34, 35, 36, 37, 38, 39, 40, 41, 42, 43, 44, 45, 46, 47, 48, 49, 50, 51, 52, 130, 131, 132, 133, 134, 135, 136, 137, 60, 61, 62, 119, 120, 121, 114, 75, 76, 138, 139, 140, 141, 142, 143, 144, 145, 146, 147, 148, 149, 150, 151, 152, 153, 154, 155, 156, 157, 158, 159, 160, 161, 162, 163, 164, 165, 166, 167, 168, 169, 170, 171, 172, 173, 174, 175, 176, 177, 178, 179, 180, 181, 58, 59, 182, 183, 184, 185, 186, 68, 69, 70, 187, 188, 189, 190, 191, 192, 193, 194, 195, 196, 197, 198, 199, 200, 201, 202, 203, 204, 205, 206, 207, 208, 209, 210, 107, 108, 109, 211, 212, 213, 214, 77, 78, 79, 80, 81, 82, 83, 84, 85, 86, 87, 88, 89, 90, 91, 92, 93, 259, 260, 261, 262, 263, 264, 265, 266, 267, 268, 269, 270, 271, 272, 273, 274, 275, 276, 277, 278, 279, 280, 281, 282, 283, 284, 285, 290, 291, 292, 293, 294, 295, 286, 287, 288, 289] (by decide +kernel) (by decide +kernel)
set_option maxRecDepth 20000 in
theorem gL_act_X6_leave : GoodIn wsL_act (wsV RL 55 RX6 yX6_leave wsX6_leave) := goodIn_app (goodIn_of _ (by decide +kernel)) ggL_act_X6_leave
set_option maxRecDepth 20000 in
theorem ggL_act_X6_restore : GoodIn wsL_act wsX6_restore := goodIn_r _ [218, 11, 12, 81, 13, 14, 15, 16, 17, 18, 19, 20, 21, 22, 23, 24, 25, 26, 9, 27, 28, 29, 30, 31, 32, 33, 34, 35, 36, 37, 38, 39, 40, 41, 42, 43, 44, 45, 46, 47, 48, 49, 50, 51, 52, 219, 220, 221, 85, 222, 223, 224, 93, 77, 78, 79, 80, 82, 83, 84, 86, 87, 88, 89, 90, 91, 92, 75, 76, 259, 260, 261, 262, 263, 264, 265, 266, 267, 268, 269, 270, 271, 272, 273, 274, 275, 276, 277, 278, 279, 280, 281, 282, 283, 284, 285, 286, 287, 288, 289] (by decide +kernel) (by decide +kernel)
set_option maxRecDepth 20000 in
theorem gL_act_X6_restore : GoodIn wsL_act (wsV RL 58 RX6 yX6_restore wsX6_restore) := goodIn_app (goodIn_of _ (by decide +kernel)) ggL_act_X6_restore
set_option maxRecDepth 20000 in
theorem ggL_act_X6_takeBack : GoodIn wsL_act wsX6_takeBack := goodIn_r _ [228, 12, 81, 60, 61, 9, 62, 119, 120, 121, 138, 139, 140, 35, 141, 37, 38, 39, 40, 82, 83, 84, 85, 86, 87, 88, 89, 90, 91, 92, 75, 76, 93, 14, 15, 16, 17, 18, 19, 20, 21, 22, 23, 24, 25, 26, 27, 28, 29, 30, 31, 32, 33, 34, 36, 41, 42, 43, 44, 45, 46, 47, 48, 49, 50, 51, 52, 229, 230, 231, 232, 259, 260, 261, 262, 263, 264, 265, 266, 267, 268, 269, 270, 271, 272, 273, 274, 275, 276, 277, 278, 286, 287, 288, 289, 279, 280, 281, 282, 283, 284, 285] (by decide +kernel) (by decide +kernel)
set_option maxRecDepth 20000 in
theorem gL_act_X6_takeBack : GoodIn wsL_act (wsV RL 62 RX6 yX6_takeBack wsX6_takeBack) := goodIn_app (goodIn_of _ (by decide +kernel)) ggL_act_X6_takeBack
set_option maxRecDepth 20000 in
theorem ggL_act_X6_drill : GoodIn wsL_act wsX6_drill := goodIn_r _ [236, 11, 12, 13, 14, 15, 16, 17, 18, 19, 20, 21, 22, 23, 24, 25, 26, 9, 27, 28, 29, 30, 31, 32, 33, 34, 35, 36, 37, 38, 39, 40, 41, 42, 43, 44, 45, 46, 47, 48, 49, 50, 51, 52, 237, 238, 239, 240, 146, 57, 58, 59, 114, 75, 76, 148, 149, 150, 151, 152, 153, 154, 155, 156, 157, 158, 159, 160, 161, 162, 163, 164, 165, 166, 167, 168, 169, 170, 171, 172, 173, 174, 175, 176, 177, 178, 179, 180, 181, 182, 183, 184, 185, 186, 68, 69, 70, 187, 188, 189, 190, 191, 192, 193, 194, 195, 196, 197, 241, 203, 204, 205, 242, 243, 244, 245, 246, 61, 62, 77, 78, 79, 80, 81, 82, 83, 84, 85, 86, 87, 88, 89, 90, 91, 92, 93, 259, 260, 261, 262, 263, 264, 265, 266, 267, 268, 269, 270, 271, 272, 273, 274, 275, 276, 277, 278, 279, 280, 281, 282, 283, 284, 285, 290, 291, 292, 293, 294, 295, 286, 287, 288, 289] (by decide +kernel) (by decide +kernel)
set_option maxRecDepth 20000 in
theorem gL_act_X6_drill : GoodIn wsL_act (wsV RL 65 RX6 yX6_drill wsX6_drill) := goodIn_app (goodIn_of _ (by decide +kernel)) ggL_act_X6_drill
set_option maxRecDepth 20000 in
theorem ggL_act_X6_pass : GoodIn wsL_act wsX6_pass := goodIn_r _ [250, 11, 12, 13, 14, 15, 16, 17, 18, 19, 20, 21, 22, 23, 24, 25, 26, 9, 27, 28, 29, 30, 31, 32, 33, 34, 35, 36, 37, 38, 39, 40, 41, 42, 43, 44, 45, 46, 47, 48, 49, 50, 51, 52, 251, 252, 253, 254, 114, 75, 76, 255, 256, 257, 258, 146, 148, 149, 150, 151, 152, 153, 154, 155, 156, 157, 158, 159, 160, 161, 162, 163, 164, 165, 166, 167, 168, 169, 170, 171, 172, 173, 174, 175, 176, 177, 178, 179, 180, 181, 58, 59, 182, 183, 184, 185, 186, 68, 69, 70, 187, 188, 189, 190, 191, 192, 193, 194, 195, 196, 197, 242, 77, 78, 79, 80, 81, 82, 83, 84, 85, 86, 87, 88, 89, 90, 91, 92, 93, 259, 260, 261, 262, 263, 264, 265, 266, 267, 268, 269, 270, 271, 272, 273, 274, 275, 276, 277, 278, 279, 280, 281, 282, 283, 284, 285, 290, 291, 292, 293, 294, 295, 286, 287, 288, 289] (by decide +kernel) (by decide +kernel)
set_option maxRecDepth 20000 in
theorem gL_act_X6_pass : GoodIn wsL_act (wsV RL 68 RX6 yX6_pass wsX6_pass) := goodIn_app (goodIn_of _ (by decide +kernel)) ggL_act_X6_pass
theorem dL_act_0 : decode cL_act 0 = .ok (.iload_n 1, 1) := by decide +kernel
theorem dL_act_1 : decode cL_act 1 = .ok (.iconst 4, 1) := by decide +kernel
theorem dL_act_2 : decode cL_act 2 = .ok (.ishr, 1) := by decide +kernel
theorem dL_act_3 : decode cL_act 3 = .ok (.bipush 11, 2) := by decide +kernel
theorem dL_act_5 : decode cL_act 5 = .ok (.invokestatic 35, 3) := by decide +kernel
theorem dL_act_8 : decode cL_act 8 = .ok (.istore_n 3, 1) := by decide +kernel
theorem dL_act_9 : decode cL_act 9 = .ok (.iload_n 2, 1) := by decide +kernel
theorem dL_act_10 : decode cL_act 10 = .ok (.iconst 5, 1) := by decide +kernel
theorem dL_act_11 : decode cL_act 11 = .ok (.ishr, 1) := by decide +kernel
theorem dL_act_12 : decode cL_act 12 = .ok (.bipush 17, 2) := by decide +kernel
theorem dL_act_14 : decode cL_act 14 = .ok (.invokestatic 35, 3) := by decide +kernel
theorem dL_act_17 : decode cL_act 17 = .ok (.istore 4, 2) := by decide +kernel
theorem dL_act_19 : decode cL_act 19 = .ok (.iload_n 1, 1) := by decide +kernel
theorem dL_act_20 : decode cL_act 20 = .ok (.bipush 15, 2) := by decide +kernel
theorem dL_act_22 : decode cL_act 22 = .ok (.iand, 1) := by decide +kernel
theorem dL_act_23 : decode cL_act 23 = .ok (.tableswitch 218 0 14 #[73, 73, 73, 73, 81, 89, 100, 117, 117, 134, 134, 134, 180, 206, 206], 73) := by decide +kernel
theorem dL_act_96 : decode cL_act 96 = .ok (.aload_n 0, 1) := by decide +kernel
theorem dL_act_97 : decode cL_act 97 = .ok (.iload_n 3, 1) := by decide +kernel
theorem dL_act_98 : decode cL_act 98 = .ok (.iload 4, 2) := by decide +kernel
theorem dL_act_100 : decode cL_act 100 = .ok (.invokevirtual 40, 3) := by decide +kernel
theorem dL_act_103 : decode cL_act 103 = .ok (.ireturn, 1) := by decide +kernel
theorem dL_act_104 : decode cL_act 104 = .ok (.aload_n 0, 1) := by decide +kernel
theorem dL_act_105 : decode cL_act 105 = .ok (.iload_n 3, 1) := by decide +kernel
theorem dL_act_106 : decode cL_act 106 = .ok (.iload 4, 2) := by decide +kernel
theorem dL_act_108 : decode cL_act 108 = .ok (.invokevirtual 43, 3) := by decide +kernel
theorem dL_act_111 : decode cL_act 111 = .ok (.ireturn, 1) := by decide +kernel
theorem dL_act_112 : decode cL_act 112 = .ok (.aload_n 0, 1) := by decide +kernel
theorem dL_act_113 : decode cL_act 113 = .ok (.iload_n 3, 1) := by decide +kernel
theorem dL_act_114 : decode cL_act 114 = .ok (.iload_n 2, 1) := by decide +kernel
theorem dL_act_115 : decode cL_act 115 = .ok (.iconst 5, 1) := by decide +kernel
theorem dL_act_116 : decode cL_act 116 = .ok (.invokestatic 35, 3) := by decide +kernel
theorem dL_act_119 : decode cL_act 119 = .ok (.invokevirtual 46, 3) := by decide +kernel
theorem dL_act_122 : decode cL_act 122 = .ok (.ireturn, 1) := by decide +kernel
theorem dL_act_123 : decode cL_act 123 = .ok (.aload_n 0, 1) := by decide +kernel
theorem dL_act_124 : decode cL_act 124 = .ok (.iload 4, 2) := by decide +kernel
theorem dL_act_126 : decode cL_act 126 = .ok (.iload_n 2, 1) := by decide +kernel
theorem dL_act_127 : decode cL_act 127 = .ok (.bipush 10, 2) := by decide +kernel
theorem dL_act_129 : decode cL_act 129 = .ok (.ishr, 1) := by decide +kernel
theorem dL_act_130 : decode cL_act 130 = .ok (.sipush 402, 3) := by decide +kernel
theorem dL_act_133 : decode cL_act 133 = .ok (.invokestatic 35, 3) := by decide +kernel
theorem dL_act_136 : decode cL_act 136 = .ok (.invokevirtual 49, 3) := by decide +kernel
theorem dL_act_139 : decode cL_act 139 = .ok (.ireturn, 1) := by decide +kernel
theorem dL_act_140 : decode cL_act 140 = .ok (.aload_n 0, 1) := by decide +kernel
theorem dL_act_141 : decode cL_act 141 = .ok (.iload_n 2, 1) := by decide +kernel
theorem dL_act_142 : decode cL_act 142 = .ok (.iconst 4, 1) := by decide +kernel
theorem dL_act_143 : decode cL_act 143 = .ok (.invokestatic 35, 3) := by decide +kernel
theorem dL_act_146 : decode cL_act 146 = .ok (.iload_n 2, 1) := by decide +kernel
theorem dL_act_147 : decode cL_act 147 = .ok (.iconst 2, 1) := by decide +kernel
theorem dL_act_148 : decode cL_act 148 = .ok (.ishr, 1) := by decide +kernel
theorem dL_act_149 : decode cL_act 149 = .ok (.iconst 4, 1) := by decide +kernel
theorem dL_act_150 : decode cL_act 150 = .ok (.invokestatic 35, 3) := by decide +kernel
theorem dL_act_153 : decode cL_act 153 = .ok (.invokevirtual 52, 3) := by decide +kernel
theorem dL_act_156 : decode cL_act 156 = .ok (.ireturn, 1) := by decide +kernel
theorem dL_act_157 : decode cL_act 157 = .ok (.iload_n 2, 1) := by decide +kernel
theorem dL_act_158 : decode cL_act 158 = .ok (.iload_n 2, 1) := by decide +kernel
theorem dL_act_159 : decode cL_act 159 = .ok (.bipush 20, 2) := by decide +kernel
theorem dL_act_161 : decode cL_act 161 = .ok (.ishr, 1) := by decide +kernel
theorem dL_act_162 : decode cL_act 162 = .ok (.iconst 1, 1) := by decide +kernel
theorem dL_act_163 : decode cL_act 163 = .ok (.iand, 1) := by decide +kernel
theorem dL_act_164 : decode cL_act 164 = .ok (.ifCond .ne 8, 3) := by decide +kernel
theorem dL_act_167 : decode cL_act 167 = .ok (.bipush 20, 2) := by decide +kernel
theorem dL_act_169 : decode cL_act 169 = .ok (.goto 6, 3) := by decide +kernel
theorem dL_act_172 : decode cL_act 172 = .ok (.sipush 402, 3) := by decide +kernel
theorem dL_act_175 : decode cL_act 175 = .ok (.invokestatic 35, 3) := by decide +kernel
theorem dL_act_178 : decode cL_act 178 = .ok (.istore 5, 2) := by decide +kernel
theorem dL_act_180 : decode cL_act 180 = .ok (.aload_n 0, 1) := by decide +kernel
theorem dL_act_181 : decode cL_act 181 = .ok (.iload 4, 2) := by decide +kernel
theorem dL_act_183 : decode cL_act 183 = .ok (.iload 5, 2) := by decide +kernel
theorem dL_act_185 : decode cL_act 185 = .ok (.iload 5, 2) := by decide +kernel
theorem dL_act_187 : decode cL_act 187 = .ok (.iload_n 2, 1) := by decide +kernel
theorem dL_act_188 : decode cL_act 188 = .ok (.bipush 10, 2) := by decide +kernel
theorem dL_act_190 : decode cL_act 190 = .ok (.ishr, 1) := by decide +kernel
theorem dL_act_191 : decode cL_act 191 = .ok (.bipush 8, 2) := by decide +kernel
theorem dL_act_193 : decode cL_act 193 = .ok (.invokestatic 35, 3) := by decide +kernel
theorem dL_act_196 : decode cL_act 196 = .ok (.iadd, 1) := by decide +kernel
theorem dL_act_197 : decode cL_act 197 = .ok (.iconst 1, 1) := by decide +kernel
theorem dL_act_198 : decode cL_act 198 = .ok (.isub, 1) := by decide +kernel
theorem dL_act_199 : decode cL_act 199 = .ok (.invokevirtual 55, 3) := by decide +kernel
theorem dL_act_202 : decode cL_act 202 = .ok (.ireturn, 1) := by decide +kernel
theorem dL_act_203 : decode cL_act 203 = .ok (.iload_n 2, 1) := by decide +kernel
theorem dL_act_204 : decode cL_act 204 = .ok (.iconst 3, 1) := by decide +kernel
theorem dL_act_205 : decode cL_act 205 = .ok (.iand, 1) := by decide +kernel
theorem dL_act_206 : decode cL_act 206 = .ok (.ifCond .ne 10, 3) := by decide +kernel
theorem dL_act_209 : decode cL_act 209 = .ok (.aload_n 0, 1) := by decide +kernel
theorem dL_act_210 : decode cL_act 210 = .ok (.invokevirtual 58, 3) := by decide +kernel
theorem dL_act_213 : decode cL_act 213 = .ok (.goto 15, 3) := by decide +kernel
theorem dL_act_216 : decode cL_act 216 = .ok (.aload_n 0, 1) := by decide +kernel
theorem dL_act_217 : decode cL_act 217 = .ok (.iload 4, 2) := by decide +kernel
theorem dL_act_219 : decode cL_act 219 = .ok (.iload_n 2, 1) := by decide +kernel
theorem dL_act_220 : decode cL_act 220 = .ok (.bipush 30, 2) := by decide +kernel
theorem dL_act_222 : decode cL_act 222 = .ok (.invokestatic 35, 3) := by decide +kernel
theorem dL_act_225 : decode cL_act 225 = .ok (.invokevirtual 62, 3) := by decide +kernel
theorem dL_act_228 : decode cL_act 228 = .ok (.ireturn, 1) := by decide +kernel
theorem dL_act_229 : decode cL_act 229 = .ok (.aload_n 0, 1) := by decide +kernel
theorem dL_act_230 : decode cL_act 230 = .ok (.iload_n 3, 1) := by decide +kernel
theorem dL_act_231 : decode cL_act 231 = .ok (.iload_n 2, 1) := by decide +kernel
theorem dL_act_232 : decode cL_act 232 = .ok (.bipush 62, 2) := by decide +kernel
theorem dL_act_234 : decode cL_act 234 = .ok (.invokestatic 35, 3) := by decide +kernel
theorem dL_act_237 : decode cL_act 237 = .ok (.invokevirtual 65, 3) := by decide +kernel
theorem dL_act_240 : decode cL_act 240 = .ok (.ireturn, 1) := by decide +kernel
theorem dL_act_241 : decode cL_act 241 = .ok (.aload_n 0, 1) := by decide +kernel
theorem dL_act_242 : decode cL_act 242 = .ok (.iload_n 2, 1) := by decide +kernel
theorem dL_act_243 : decode cL_act 243 = .ok (.iload_n 2, 1) := by decide +kernel
theorem dL_act_244 : decode cL_act 244 = .ok (.bipush 20, 2) := by decide +kernel
theorem dL_act_246 : decode cL_act 246 = .ok (.ishr, 1) := by decide +kernel
theorem dL_act_247 : decode cL_act 247 = .ok (.iconst 1, 1) := by decide +kernel
theorem dL_act_248 : decode cL_act 248 = .ok (.iand, 1) := by decide +kernel
theorem dL_act_249 : decode cL_act 249 = .ok (.ifCond .ne 8, 3) := by decide +kernel
theorem dL_act_252 : decode cL_act 252 = .ok (.bipush 9, 2) := by decide +kernel
theorem dL_act_254 : decode cL_act 254 = .ok (.goto 5, 3) := by decide +kernel
theorem dL_act_257 : decode cL_act 257 = .ok (.bipush 101, 2) := by decide +kernel
theorem dL_act_259 : decode cL_act 259 = .ok (.invokestatic 35, 3) := by decide +kernel
theorem dL_act_262 : decode cL_act 262 = .ok (.invokevirtual 68, 3) := by decide +kernel
theorem dL_act_265 : decode cL_act 265 = .ok (.ireturn, 1) := by decide +kernel
set_option maxRecDepth 20000 in
theorem ggL_isStaffed_X6_staff : GoodIn wsL_isStaffed wsX6_staff := goodIn_r _ [5, 6, 7, 8, 9, 4, 10, 11, 12, 13, 14, 15, 16, 17, 18, 19, 20, 21, 22, 23, 24, 25, 26, 27, 28, 29, 30, 31, 32, 33, 34, 35, 36, 37, 38, 39, 40, 41, 42, 43, 44, 45, 46, 47, 48, 49, 50, 51, 52, 53, 54, 55, 56, 57, 58, 59, 60, 61, 62, 63, 64, 65, 66, 67, 68, 69, 70, 71, 72, 73, 74, 75, 76, 77, 78, 79, 80, 166, 167, 168, 169, 170, 171, 172, 173, 174, 175, 176, 177, 178, 179, 180, 181, 182, 183, 184, 185, 186, 187, 188, 189, 190, 191] (by decide +kernel) (by decide +kernel)
set_option maxRecDepth 20000 in
theorem gL_isStaffed_X6_staff : GoodIn wsL_isStaffed (wsV RL 71 RX6 yX6_staff wsX6_staff) := goodIn_app (goodIn_of _ (by decide +kernel)) ggL_isStaffed_X6_staff
set_option maxRecDepth 20000 in
theorem ggL_isStaffed_X6_floor : GoodIn wsL_isStaffed wsX6_floor := goodIn_r _ [84, 7, 8, 9, 4, 10, 85, 86, 87, 88, 89, 90, 91, 92, 93, 15, 16, 166, 167, 168, 169, 170, 171, 172, 173, 180, 181, 182, 183, 184, 185, 186, 187, 192, 193, 194, 195, 196, 197, 198] (by decide +kernel) (by decide +kernel)
set_option maxRecDepth 20000 in
theorem gL_isStaffed_X6_floor : GoodIn wsL_isStaffed (wsV RL 18 RX6 yX6_floor wsX6_floor) := goodIn_app (goodIn_of _ (by decide +kernel)) ggL_isStaffed_X6_floor
set_option maxRecDepth 20000 in
theorem ggL_isStaffed_X6_warden : GoodIn wsL_isStaffed wsX6_warden := goodIn_r _ [97, 6, 7, 8, 9, 4, 10, 11, 12, 13, 17, 18, 19, 20, 21, 22, 23, 24, 25, 26, 27, 28, 29, 30, 31, 32, 33, 34, 35, 36, 37, 38, 39, 40, 41, 42, 43, 44, 45, 46, 47, 48, 49, 50, 51, 52, 53, 54, 55, 56, 57, 58, 59, 60, 61, 62, 63, 64, 65, 66, 67, 68, 69, 70, 71, 72, 73, 74, 75, 76, 77, 78, 79, 98, 99, 100, 101, 15, 16, 166, 167, 168, 169, 170, 171, 172, 173, 174, 175, 176, 177, 178, 179, 180, 181, 182, 183, 184, 185, 186, 187, 188, 189, 190, 191] (by decide +kernel) (by decide +kernel)
set_option maxRecDepth 20000 in
theorem gL_isStaffed_X6_warden : GoodIn wsL_isStaffed (wsV RL 74 RX6 yX6_warden wsX6_warden) := goodIn_app (goodIn_of _ (by decide +kernel)) ggL_isStaffed_X6_warden
set_option maxRecDepth 20000 in
theorem ggL_isStaffed_X6_count : GoodIn wsL_isStaffed wsX6_count := goodIn_r _ [105, 7, 6, 106, 107, 108, 109, 110, 4, 111, 17, 18, 19, 20, 21, 22, 23, 24, 25, 26, 27, 28, 29, 30, 31, 32, 33, 34, 35, 36, 37, 38, 39, 40, 41, 42, 43, 44, 45, 46, 47, 48, 49, 50, 51, 52, 53, 54, 55, 56, 57, 58, 9, 10, 59, 60, 61, 62, 63, 64, 65, 66, 67, 68, 69, 70, 71, 72, 73, 74, 75, 76, 77, 78, 79, 80, 112, 113, 114, 115, 116, 117, 118, 119, 120, 121, 122, 123, 124, 125, 126, 88, 127, 90, 166, 167, 168, 169, 170, 171, 172, 173, 180, 181, 182, 183, 184, 185, 186, 187, 174, 175, 176, 177, 178, 179, 188, 189, 190, 191, 192, 193, 194, 195, 196, 197, 198, 199, 200, 201, 202, 203, 204, 205, 206, 207, 208] (by decide +kernel) (by decide +kernel)
set_option maxRecDepth 20000 in
theorem gL_isStaffed_X6_count : GoodIn wsL_isStaffed (wsV RL 12 RX6 yX6_count wsX6_count) := goodIn_app (goodIn_of _ (by decide +kernel)) ggL_isStaffed_X6_count
set_option maxRecDepth 20000 in
theorem ggL_isStaffed_X6_person : GoodIn wsL_isStaffed wsX6_person := goodIn_r _ [131, 7, 6, 132, 133, 4, 134, 135, 136, 137, 49, 138, 51, 54, 139, 140, 141, 142, 53, 52, 143, 144, 145, 42, 146, 147, 148, 149, 150, 151, 64, 65, 66, 67, 68, 17, 18, 19, 20, 21, 22, 23, 24, 25, 26, 27, 28, 29, 30, 31, 32, 33, 34, 35, 36, 37, 38, 39, 40, 41, 43, 44, 45, 46, 47, 48, 50, 55, 56, 57, 58, 9, 10, 59, 60, 61, 62, 63, 69, 70, 71, 72, 73, 74, 75, 76, 77, 78, 79, 152, 153, 154, 155, 156, 99, 100, 101, 15, 16, 166, 167, 168, 169, 170, 171, 172, 173, 180, 181, 182, 183, 184, 185, 186, 187, 192, 193, 194, 195, 196, 197, 198, 188, 189, 190, 191, 174, 175, 176, 177, 178, 179] (by decide +kernel) (by decide +kernel)
set_option maxRecDepth 20000 in
theorem gL_isStaffed_X6_person : GoodIn wsL_isStaffed (wsV RL 29 RX6 yX6_person wsX6_person) := goodIn_app (goodIn_of _ (by decide +kernel)) ggL_isStaffed_X6_person
set_option maxRecDepth 20000 in
theorem ggL_isStaffed_X6_reason : GoodIn wsL_isStaffed wsX6_reason := goodIn_r _ [160, 6, 7, 8, 9, 4, 10, 132, 133, 134, 11, 12, 13, 17, 18, 19, 20, 21, 22, 23, 24, 25, 26, 27, 28, 29, 30, 31, 32, 33, 34, 35, 36, 37, 38, 39, 40, 41, 42, 43, 44, 45, 46, 47, 48, 49, 50, 51, 52, 53, 54, 55, 56, 57, 58, 59, 60, 61, 62, 63, 64, 65, 66, 67, 68, 69, 70, 71, 72, 73, 74, 75, 76, 77, 78, 79, 152, 153, 154, 155, 156, 99, 100, 101, 15, 16, 161, 162, 163, 164, 165, 148, 149, 150, 151, 166, 167, 168, 169, 170, 171, 172, 173, 180, 181, 182, 183, 184, 185, 186, 187, 174, 175, 176, 177, 178, 179, 188, 189, 190, 191] (by decide +kernel) (by decide +kernel)
set_option maxRecDepth 20000 in
theorem gL_isStaffed_X6_reason : GoodIn wsL_isStaffed (wsV RL 77 RX6 yX6_reason wsX6_reason) := goodIn_app (goodIn_of _ (by decide +kernel)) ggL_isStaffed_X6_reason
theorem dL_isStaffed_0 : decode cL_isStaffed 0 = .ok (.iconst 0, 1) := by decide +kernel
theorem dL_isStaffed_1 : decode cL_isStaffed 1 = .ok (.istore_n 2, 1) := by decide +kernel
theorem dL_isStaffed_2 : decode cL_isStaffed 2 = .ok (.iconst 0, 1) := by decide +kernel
theorem dL_isStaffed_3 : decode cL_isStaffed 3 = .ok (.istore_n 3, 1) := by decide +kernel
theorem dL_isStaffed_4 : decode cL_isStaffed 4 = .ok (.iconst 0, 1) := by decide +kernel
theorem dL_isStaffed_5 : decode cL_isStaffed 5 = .ok (.istore 4, 2) := by decide +kernel
theorem dL_isStaffed_7 : decode cL_isStaffed 7 = .ok (.iconst 0, 1) := by decide +kernel
theorem dL_isStaffed_8 : decode cL_isStaffed 8 = .ok (.istore 5, 2) := by decide +kernel
theorem dL_isStaffed_10 : decode cL_isStaffed 10 = .ok (.iload 5, 2) := by decide +kernel
theorem dL_isStaffed_12 : decode cL_isStaffed 12 = .ok (.bipush 10, 2) := by decide +kernel
theorem dL_isStaffed_14 : decode cL_isStaffed 14 = .ok (.if_icmp .ge 207, 3) := by decide +kernel
theorem dL_isStaffed_17 : decode cL_isStaffed 17 = .ok (.aload_n 0, 1) := by decide +kernel
theorem dL_isStaffed_18 : decode cL_isStaffed 18 = .ok (.iload_n 1, 1) := by decide +kernel
theorem dL_isStaffed_19 : decode cL_isStaffed 19 = .ok (.iload 5, 2) := by decide +kernel
theorem dL_isStaffed_21 : decode cL_isStaffed 21 = .ok (.iconst 0, 1) := by decide +kernel
theorem dL_isStaffed_22 : decode cL_isStaffed 22 = .ok (.invokevirtual 71, 3) := by decide +kernel
theorem dL_isStaffed_25 : decode cL_isStaffed 25 = .ok (.istore 6, 2) := by decide +kernel
theorem dL_isStaffed_27 : decode cL_isStaffed 27 = .ok (.aload_n 0, 1) := by decide +kernel
theorem dL_isStaffed_28 : decode cL_isStaffed 28 = .ok (.iload_n 1, 1) := by decide +kernel
theorem dL_isStaffed_29 : decode cL_isStaffed 29 = .ok (.iload 5, 2) := by decide +kernel
theorem dL_isStaffed_31 : decode cL_isStaffed 31 = .ok (.iconst 1, 1) := by decide +kernel
theorem dL_isStaffed_32 : decode cL_isStaffed 32 = .ok (.invokevirtual 71, 3) := by decide +kernel
theorem dL_isStaffed_35 : decode cL_isStaffed 35 = .ok (.istore 7, 2) := by decide +kernel
theorem dL_isStaffed_37 : decode cL_isStaffed 37 = .ok (.iload 6, 2) := by decide +kernel
theorem dL_isStaffed_39 : decode cL_isStaffed 39 = .ok (.iload 7, 2) := by decide +kernel
theorem dL_isStaffed_41 : decode cL_isStaffed 41 = .ok (.iadd, 1) := by decide +kernel
theorem dL_isStaffed_42 : decode cL_isStaffed 42 = .ok (.aload_n 0, 1) := by decide +kernel
theorem dL_isStaffed_43 : decode cL_isStaffed 43 = .ok (.iload 5, 2) := by decide +kernel
theorem dL_isStaffed_45 : decode cL_isStaffed 45 = .ok (.iconst 0, 1) := by decide +kernel
theorem dL_isStaffed_46 : decode cL_isStaffed 46 = .ok (.invokevirtual 18, 3) := by decide +kernel
theorem dL_isStaffed_49 : decode cL_isStaffed 49 = .ok (.if_icmp .ne 55, 3) := by decide +kernel
theorem dL_isStaffed_52 : decode cL_isStaffed 52 = .ok (.iload 7, 2) := by decide +kernel
theorem dL_isStaffed_54 : decode cL_isStaffed 54 = .ok (.ifCond .lt 50, 3) := by decide +kernel
theorem dL_isStaffed_57 : decode cL_isStaffed 57 = .ok (.aload_n 0, 1) := by decide +kernel
theorem dL_isStaffed_58 : decode cL_isStaffed 58 = .ok (.iload_n 1, 1) := by decide +kernel
theorem dL_isStaffed_59 : decode cL_isStaffed 59 = .ok (.iload 5, 2) := by decide +kernel
theorem dL_isStaffed_61 : decode cL_isStaffed 61 = .ok (.iload 6, 2) := by decide +kernel
theorem dL_isStaffed_63 : decode cL_isStaffed 63 = .ok (.invokevirtual 74, 3) := by decide +kernel
theorem dL_isStaffed_66 : decode cL_isStaffed 66 = .ok (.bipush (-5), 2) := by decide +kernel
theorem dL_isStaffed_68 : decode cL_isStaffed 68 = .ok (.if_icmp .ne 36, 3) := by decide +kernel
theorem dL_isStaffed_71 : decode cL_isStaffed 71 = .ok (.aload_n 0, 1) := by decide +kernel
theorem dL_isStaffed_72 : decode cL_isStaffed 72 = .ok (.iload_n 1, 1) := by decide +kernel
theorem dL_isStaffed_73 : decode cL_isStaffed 73 = .ok (.iload 5, 2) := by decide +kernel
theorem dL_isStaffed_75 : decode cL_isStaffed 75 = .ok (.iconst 2, 1) := by decide +kernel
theorem dL_isStaffed_76 : decode cL_isStaffed 76 = .ok (.invokevirtual 71, 3) := by decide +kernel
theorem dL_isStaffed_79 : decode cL_isStaffed 79 = .ok (.iload 6, 2) := by decide +kernel
theorem dL_isStaffed_81 : decode cL_isStaffed 81 = .ok (.if_icmp .gt 23, 3) := by decide +kernel
theorem dL_isStaffed_84 : decode cL_isStaffed 84 = .ok (.aload_n 0, 1) := by decide +kernel
theorem dL_isStaffed_85 : decode cL_isStaffed 85 = .ok (.bipush 10, 2) := by decide +kernel
theorem dL_isStaffed_87 : decode cL_isStaffed 87 = .ok (.invokevirtual 12, 3) := by decide +kernel
theorem dL_isStaffed_90 : decode cL_isStaffed 90 = .ok (.ifCond .ne 16, 3) := by decide +kernel
theorem dL_isStaffed_93 : decode cL_isStaffed 93 = .ok (.aload_n 0, 1) := by decide +kernel
theorem dL_isStaffed_94 : decode cL_isStaffed 94 = .ok (.iload_n 1, 1) := by decide +kernel
theorem dL_isStaffed_95 : decode cL_isStaffed 95 = .ok (.iload 5, 2) := by decide +kernel
theorem dL_isStaffed_97 : decode cL_isStaffed 97 = .ok (.iconst 2, 1) := by decide +kernel
theorem dL_isStaffed_98 : decode cL_isStaffed 98 = .ok (.invokevirtual 71, 3) := by decide +kernel
theorem dL_isStaffed_101 : decode cL_isStaffed 101 = .ok (.ifCond .eq 5, 3) := by decide +kernel
theorem dL_isStaffed_104 : decode cL_isStaffed 104 = .ok (.iconst 0, 1) := by decide +kernel
theorem dL_isStaffed_105 : decode cL_isStaffed 105 = .ok (.ireturn, 1) := by decide +kernel
theorem dL_isStaffed_106 : decode cL_isStaffed 106 = .ok (.iload_n 3, 1) := by decide +kernel
theorem dL_isStaffed_107 : decode cL_isStaffed 107 = .ok (.iload 7, 2) := by decide +kernel
theorem dL_isStaffed_109 : decode cL_isStaffed 109 = .ok (.ifCond .le 10, 3) := by decide +kernel
theorem dL_isStaffed_112 : decode cL_isStaffed 112 = .ok (.iconst 1, 1) := by decide +kernel
theorem dL_isStaffed_113 : decode cL_isStaffed 113 = .ok (.iload 5, 2) := by decide +kernel
theorem dL_isStaffed_115 : decode cL_isStaffed 115 = .ok (.ishl, 1) := by decide +kernel
theorem dL_isStaffed_116 : decode cL_isStaffed 116 = .ok (.goto 4, 3) := by decide +kernel
theorem dL_isStaffed_119 : decode cL_isStaffed 119 = .ok (.iconst 0, 1) := by decide +kernel
theorem dL_isStaffed_120 : decode cL_isStaffed 120 = .ok (.ior, 1) := by decide +kernel
theorem dL_isStaffed_121 : decode cL_isStaffed 121 = .ok (.istore_n 3, 1) := by decide +kernel
theorem dL_isStaffed_122 : decode cL_isStaffed 122 = .ok (.iconst 0, 1) := by decide +kernel
theorem dL_isStaffed_123 : decode cL_isStaffed 123 = .ok (.istore 8, 2) := by decide +kernel
theorem dL_isStaffed_125 : decode cL_isStaffed 125 = .ok (.iload 8, 2) := by decide +kernel
theorem dL_isStaffed_127 : decode cL_isStaffed 127 = .ok (.iload 6, 2) := by decide +kernel
theorem dL_isStaffed_129 : decode cL_isStaffed 129 = .ok (.if_icmp .ge 86, 3) := by decide +kernel
theorem dL_isStaffed_132 : decode cL_isStaffed 132 = .ok (.aload_n 0, 1) := by decide +kernel
theorem dL_isStaffed_133 : decode cL_isStaffed 133 = .ok (.iload_n 1, 1) := by decide +kernel
theorem dL_isStaffed_134 : decode cL_isStaffed 134 = .ok (.iload 5, 2) := by decide +kernel
theorem dL_isStaffed_136 : decode cL_isStaffed 136 = .ok (.iload 8, 2) := by decide +kernel
theorem dL_isStaffed_138 : decode cL_isStaffed 138 = .ok (.invokevirtual 74, 3) := by decide +kernel
theorem dL_isStaffed_141 : decode cL_isStaffed 141 = .ok (.istore 9, 2) := by decide +kernel
theorem dL_isStaffed_143 : decode cL_isStaffed 143 = .ok (.iload_n 2, 1) := by decide +kernel
theorem dL_isStaffed_144 : decode cL_isStaffed 144 = .ok (.iload 9, 2) := by decide +kernel
theorem dL_isStaffed_146 : decode cL_isStaffed 146 = .ok (.ishr, 1) := by decide +kernel
theorem dL_isStaffed_147 : decode cL_isStaffed 147 = .ok (.iconst 1, 1) := by decide +kernel
theorem dL_isStaffed_148 : decode cL_isStaffed 148 = .ok (.iand, 1) := by decide +kernel
theorem dL_isStaffed_149 : decode cL_isStaffed 149 = .ok (.iconst 1, 1) := by decide +kernel
theorem dL_isStaffed_150 : decode cL_isStaffed 150 = .ok (.if_icmp .eq 50, 3) := by decide +kernel
theorem dL_isStaffed_153 : decode cL_isStaffed 153 = .ok (.aload_n 0, 1) := by decide +kernel
theorem dL_isStaffed_154 : decode cL_isStaffed 154 = .ok (.iload 9, 2) := by decide +kernel
theorem dL_isStaffed_156 : decode cL_isStaffed 156 = .ok (.iconst 0, 1) := by decide +kernel
theorem dL_isStaffed_157 : decode cL_isStaffed 157 = .ok (.invokevirtual 29, 3) := by decide +kernel
theorem dL_isStaffed_160 : decode cL_isStaffed 160 = .ok (.iload_n 1, 1) := by decide +kernel
theorem dL_isStaffed_161 : decode cL_isStaffed 161 = .ok (.if_icmp .lt 39, 3) := by decide +kernel
theorem dL_isStaffed_164 : decode cL_isStaffed 164 = .ok (.aload_n 0, 1) := by decide +kernel
theorem dL_isStaffed_165 : decode cL_isStaffed 165 = .ok (.iload_n 1, 1) := by decide +kernel
theorem dL_isStaffed_166 : decode cL_isStaffed 166 = .ok (.iload 5, 2) := by decide +kernel
theorem dL_isStaffed_168 : decode cL_isStaffed 168 = .ok (.iload 9, 2) := by decide +kernel
theorem dL_isStaffed_170 : decode cL_isStaffed 170 = .ok (.invokevirtual 77, 3) := by decide +kernel
theorem dL_isStaffed_173 : decode cL_isStaffed 173 = .ok (.ifCond .ne 27, 3) := by decide +kernel
theorem dL_isStaffed_176 : decode cL_isStaffed 176 = .ok (.aload_n 0, 1) := by decide +kernel
theorem dL_isStaffed_177 : decode cL_isStaffed 177 = .ok (.bipush 10, 2) := by decide +kernel
theorem dL_isStaffed_179 : decode cL_isStaffed 179 = .ok (.invokevirtual 12, 3) := by decide +kernel
theorem dL_isStaffed_182 : decode cL_isStaffed 182 = .ok (.ifCond .ne 20, 3) := by decide +kernel
theorem dL_isStaffed_185 : decode cL_isStaffed 185 = .ok (.aload_n 0, 1) := by decide +kernel
theorem dL_isStaffed_186 : decode cL_isStaffed 186 = .ok (.iload 9, 2) := by decide +kernel
theorem dL_isStaffed_188 : decode cL_isStaffed 188 = .ok (.iconst 3, 1) := by decide +kernel
theorem dL_isStaffed_189 : decode cL_isStaffed 189 = .ok (.invokevirtual 29, 3) := by decide +kernel
theorem dL_isStaffed_192 : decode cL_isStaffed 192 = .ok (.iload 5, 2) := by decide +kernel
theorem dL_isStaffed_194 : decode cL_isStaffed 194 = .ok (.ishr, 1) := by decide +kernel
theorem dL_isStaffed_195 : decode cL_isStaffed 195 = .ok (.iconst 1, 1) := by decide +kernel
theorem dL_isStaffed_196 : decode cL_isStaffed 196 = .ok (.iand, 1) := by decide +kernel
theorem dL_isStaffed_197 : decode cL_isStaffed 197 = .ok (.ifCond .ne 5, 3) := by decide +kernel
theorem dL_isStaffed_200 : decode cL_isStaffed 200 = .ok (.iconst 0, 1) := by decide +kernel
theorem dL_isStaffed_201 : decode cL_isStaffed 201 = .ok (.ireturn, 1) := by decide +kernel
theorem dL_isStaffed_202 : decode cL_isStaffed 202 = .ok (.iload_n 2, 1) := by decide +kernel
theorem dL_isStaffed_203 : decode cL_isStaffed 203 = .ok (.iconst 1, 1) := by decide +kernel
theorem dL_isStaffed_204 : decode cL_isStaffed 204 = .ok (.iload 9, 2) := by decide +kernel
theorem dL_isStaffed_206 : decode cL_isStaffed 206 = .ok (.ishl, 1) := by decide +kernel
theorem dL_isStaffed_207 : decode cL_isStaffed 207 = .ok (.ior, 1) := by decide +kernel
theorem dL_isStaffed_208 : decode cL_isStaffed 208 = .ok (.istore_n 2, 1) := by decide +kernel
theorem dL_isStaffed_209 : decode cL_isStaffed 209 = .ok (.iinc 8 1, 3) := by decide +kernel
theorem dL_isStaffed_212 : decode cL_isStaffed 212 = .ok (.goto (-87), 3) := by decide +kernel
theorem dL_isStaffed_215 : decode cL_isStaffed 215 = .ok (.iinc 5 1, 3) := by decide +kernel
theorem dL_isStaffed_218 : decode cL_isStaffed 218 = .ok (.goto (-208), 3) := by decide +kernel
theorem dL_isStaffed_221 : decode cL_isStaffed 221 = .ok (.iconst 0, 1) := by decide +kernel
theorem dL_isStaffed_222 : decode cL_isStaffed 222 = .ok (.istore 5, 2) := by decide +kernel
theorem dL_isStaffed_224 : decode cL_isStaffed 224 = .ok (.iload 5, 2) := by decide +kernel
theorem dL_isStaffed_226 : decode cL_isStaffed 226 = .ok (.bipush 16, 2) := by decide +kernel
theorem dL_isStaffed_228 : decode cL_isStaffed 228 = .ok (.if_icmp .ge 162, 3) := by decide +kernel
theorem dL_isStaffed_231 : decode cL_isStaffed 231 = .ok (.iconst 0, 1) := by decide +kernel
theorem dL_isStaffed_232 : decode cL_isStaffed 232 = .ok (.istore 6, 2) := by decide +kernel
theorem dL_isStaffed_234 : decode cL_isStaffed 234 = .ok (.iload 6, 2) := by decide +kernel
theorem dL_isStaffed_236 : decode cL_isStaffed 236 = .ok (.bipush 10, 2) := by decide +kernel
theorem dL_isStaffed_238 : decode cL_isStaffed 238 = .ok (.if_icmp .ge 146, 3) := by decide +kernel
theorem dL_isStaffed_241 : decode cL_isStaffed 241 = .ok (.aload_n 0, 1) := by decide +kernel
theorem dL_isStaffed_242 : decode cL_isStaffed 242 = .ok (.iload_n 1, 1) := by decide +kernel
theorem dL_isStaffed_243 : decode cL_isStaffed 243 = .ok (.iload 6, 2) := by decide +kernel
theorem dL_isStaffed_245 : decode cL_isStaffed 245 = .ok (.iload 5, 2) := by decide +kernel
theorem dL_isStaffed_247 : decode cL_isStaffed 247 = .ok (.invokevirtual 77, 3) := by decide +kernel
theorem dL_isStaffed_250 : decode cL_isStaffed 250 = .ok (.istore 7, 2) := by decide +kernel
theorem dL_isStaffed_252 : decode cL_isStaffed 252 = .ok (.iload_n 2, 1) := by decide +kernel
theorem dL_isStaffed_253 : decode cL_isStaffed 253 = .ok (.iload 5, 2) := by decide +kernel
theorem dL_isStaffed_255 : decode cL_isStaffed 255 = .ok (.ishr, 1) := by decide +kernel
theorem dL_isStaffed_256 : decode cL_isStaffed 256 = .ok (.iconst 1, 1) := by decide +kernel
theorem dL_isStaffed_257 : decode cL_isStaffed 257 = .ok (.iand, 1) := by decide +kernel
theorem dL_isStaffed_258 : decode cL_isStaffed 258 = .ok (.iconst 1, 1) := by decide +kernel
theorem dL_isStaffed_259 : decode cL_isStaffed 259 = .ok (.if_icmp .ne 7, 3) := by decide +kernel
theorem dL_isStaffed_262 : decode cL_isStaffed 262 = .ok (.iconst 1, 1) := by decide +kernel
theorem dL_isStaffed_263 : decode cL_isStaffed 263 = .ok (.goto 4, 3) := by decide +kernel
theorem dL_isStaffed_266 : decode cL_isStaffed 266 = .ok (.iconst 0, 1) := by decide +kernel
theorem dL_isStaffed_267 : decode cL_isStaffed 267 = .ok (.istore 8, 2) := by decide +kernel
theorem dL_isStaffed_269 : decode cL_isStaffed 269 = .ok (.iload 8, 2) := by decide +kernel
theorem dL_isStaffed_271 : decode cL_isStaffed 271 = .ok (.ifCond .eq 14, 3) := by decide +kernel
theorem dL_isStaffed_274 : decode cL_isStaffed 274 = .ok (.iload 7, 2) := by decide +kernel
theorem dL_isStaffed_276 : decode cL_isStaffed 276 = .ok (.ifCond .eq 9, 3) := by decide +kernel
theorem dL_isStaffed_279 : decode cL_isStaffed 279 = .ok (.iload 7, 2) := by decide +kernel
theorem dL_isStaffed_281 : decode cL_isStaffed 281 = .ok (.iconst 3, 1) := by decide +kernel
theorem dL_isStaffed_282 : decode cL_isStaffed 282 = .ok (.if_icmp .ne 76, 3) := by decide +kernel
theorem dL_isStaffed_285 : decode cL_isStaffed 285 = .ok (.iload 8, 2) := by decide +kernel
theorem dL_isStaffed_287 : decode cL_isStaffed 287 = .ok (.ifCond .ne 14, 3) := by decide +kernel
theorem dL_isStaffed_290 : decode cL_isStaffed 290 = .ok (.iload 7, 2) := by decide +kernel
theorem dL_isStaffed_292 : decode cL_isStaffed 292 = .ok (.ifCond .eq 66, 3) := by decide +kernel
theorem dL_isStaffed_295 : decode cL_isStaffed 295 = .ok (.iload 7, 2) := by decide +kernel
theorem dL_isStaffed_297 : decode cL_isStaffed 297 = .ok (.iconst 3, 1) := by decide +kernel
theorem dL_isStaffed_298 : decode cL_isStaffed 298 = .ok (.if_icmp .eq 60, 3) := by decide +kernel
theorem dL_isStaffed_301 : decode cL_isStaffed 301 = .ok (.iload 7, 2) := by decide +kernel
theorem dL_isStaffed_303 : decode cL_isStaffed 303 = .ok (.iconst 3, 1) := by decide +kernel
theorem dL_isStaffed_304 : decode cL_isStaffed 304 = .ok (.if_icmp .le 38, 3) := by decide +kernel
theorem dL_isStaffed_307 : decode cL_isStaffed 307 = .ok (.iload 7, 2) := by decide +kernel
theorem dL_isStaffed_309 : decode cL_isStaffed 309 = .ok (.iconst 5, 1) := by decide +kernel
theorem dL_isStaffed_310 : decode cL_isStaffed 310 = .ok (.if_icmp .ne 7, 3) := by decide +kernel
theorem dL_isStaffed_313 : decode cL_isStaffed 313 = .ok (.iconst 1, 1) := by decide +kernel
theorem dL_isStaffed_314 : decode cL_isStaffed 314 = .ok (.goto 4, 3) := by decide +kernel
theorem dL_isStaffed_317 : decode cL_isStaffed 317 = .ok (.iconst 0, 1) := by decide +kernel
theorem dL_isStaffed_318 : decode cL_isStaffed 318 = .ok (.aload_n 0, 1) := by decide +kernel
theorem dL_isStaffed_319 : decode cL_isStaffed 319 = .ok (.iload 5, 2) := by decide +kernel
theorem dL_isStaffed_321 : decode cL_isStaffed 321 = .ok (.iconst 3, 1) := by decide +kernel
theorem dL_isStaffed_322 : decode cL_isStaffed 322 = .ok (.invokevirtual 29, 3) := by decide +kernel
theorem dL_isStaffed_325 : decode cL_isStaffed 325 = .ok (.iload 6, 2) := by decide +kernel
theorem dL_isStaffed_327 : decode cL_isStaffed 327 = .ok (.ishr, 1) := by decide +kernel
theorem dL_isStaffed_328 : decode cL_isStaffed 328 = .ok (.iconst 1, 1) := by decide +kernel
theorem dL_isStaffed_329 : decode cL_isStaffed 329 = .ok (.iand, 1) := by decide +kernel
theorem dL_isStaffed_330 : decode cL_isStaffed 330 = .ok (.iconst 1, 1) := by decide +kernel
theorem dL_isStaffed_331 : decode cL_isStaffed 331 = .ok (.if_icmp .ne 7, 3) := by decide +kernel
theorem dL_isStaffed_334 : decode cL_isStaffed 334 = .ok (.iconst 1, 1) := by decide +kernel
theorem dL_isStaffed_335 : decode cL_isStaffed 335 = .ok (.goto 4, 3) := by decide +kernel
theorem dL_isStaffed_338 : decode cL_isStaffed 338 = .ok (.iconst 0, 1) := by decide +kernel
theorem dL_isStaffed_339 : decode cL_isStaffed 339 = .ok (.if_icmp .ne 19, 3) := by decide +kernel
theorem dL_isStaffed_342 : decode cL_isStaffed 342 = .ok (.iload 7, 2) := by decide +kernel
theorem dL_isStaffed_344 : decode cL_isStaffed 344 = .ok (.iconst 5, 1) := by decide +kernel
theorem dL_isStaffed_345 : decode cL_isStaffed 345 = .ok (.if_icmp .ne 15, 3) := by decide +kernel
theorem dL_isStaffed_348 : decode cL_isStaffed 348 = .ok (.iload_n 3, 1) := by decide +kernel
theorem dL_isStaffed_349 : decode cL_isStaffed 349 = .ok (.iload 6, 2) := by decide +kernel
theorem dL_isStaffed_351 : decode cL_isStaffed 351 = .ok (.ishr, 1) := by decide +kernel
theorem dL_isStaffed_352 : decode cL_isStaffed 352 = .ok (.iconst 1, 1) := by decide +kernel
theorem dL_isStaffed_353 : decode cL_isStaffed 353 = .ok (.iand, 1) := by decide +kernel
theorem dL_isStaffed_354 : decode cL_isStaffed 354 = .ok (.iconst 1, 1) := by decide +kernel
theorem dL_isStaffed_355 : decode cL_isStaffed 355 = .ok (.if_icmp .ne 5, 3) := by decide +kernel
theorem dL_isStaffed_358 : decode cL_isStaffed 358 = .ok (.iconst 0, 1) := by decide +kernel
theorem dL_isStaffed_359 : decode cL_isStaffed 359 = .ok (.ireturn, 1) := by decide +kernel
theorem dL_isStaffed_360 : decode cL_isStaffed 360 = .ok (.iload 4, 2) := by decide +kernel
theorem dL_isStaffed_362 : decode cL_isStaffed 362 = .ok (.ifCond .ne 9, 3) := by decide +kernel
theorem dL_isStaffed_365 : decode cL_isStaffed 365 = .ok (.iload 7, 2) := by decide +kernel
theorem dL_isStaffed_367 : decode cL_isStaffed 367 = .ok (.iconst 3, 1) := by decide +kernel
theorem dL_isStaffed_368 : decode cL_isStaffed 368 = .ok (.if_icmp .le 7, 3) := by decide +kernel
theorem dL_isStaffed_371 : decode cL_isStaffed 371 = .ok (.iconst 1, 1) := by decide +kernel
theorem dL_isStaffed_372 : decode cL_isStaffed 372 = .ok (.goto 4, 3) := by decide +kernel
theorem dL_isStaffed_375 : decode cL_isStaffed 375 = .ok (.iconst 0, 1) := by decide +kernel
theorem dL_isStaffed_376 : decode cL_isStaffed 376 = .ok (.istore 4, 2) := by decide +kernel
theorem dL_isStaffed_378 : decode cL_isStaffed 378 = .ok (.iinc 6 1, 3) := by decide +kernel
theorem dL_isStaffed_381 : decode cL_isStaffed 381 = .ok (.goto (-147), 3) := by decide +kernel
theorem dL_isStaffed_384 : decode cL_isStaffed 384 = .ok (.iinc 5 1, 3) := by decide +kernel
theorem dL_isStaffed_387 : decode cL_isStaffed 387 = .ok (.goto (-163), 3) := by decide +kernel
theorem dL_isStaffed_390 : decode cL_isStaffed 390 = .ok (.aload_n 0, 1) := by decide +kernel
theorem dL_isStaffed_391 : decode cL_isStaffed 391 = .ok (.bipush 10, 2) := by decide +kernel
theorem dL_isStaffed_393 : decode cL_isStaffed 393 = .ok (.invokevirtual 12, 3) := by decide +kernel
theorem dL_isStaffed_396 : decode cL_isStaffed 396 = .ok (.ifCond .eq 12, 3) := by decide +kernel
theorem dL_isStaffed_399 : decode cL_isStaffed 399 = .ok (.iload_n 3, 1) := by decide +kernel
theorem dL_isStaffed_400 : decode cL_isStaffed 400 = .ok (.ifCond .eq 8, 3) := by decide +kernel
theorem dL_isStaffed_403 : decode cL_isStaffed 403 = .ok (.iload 4, 2) := by decide +kernel
theorem dL_isStaffed_405 : decode cL_isStaffed 405 = .ok (.ifCond .ne 7, 3) := by decide +kernel
theorem dL_isStaffed_408 : decode cL_isStaffed 408 = .ok (.iconst 1, 1) := by decide +kernel
theorem dL_isStaffed_409 : decode cL_isStaffed 409 = .ok (.goto 4, 3) := by decide +kernel
theorem dL_isStaffed_412 : decode cL_isStaffed 412 = .ok (.iconst 0, 1) := by decide +kernel
theorem dL_isStaffed_413 : decode cL_isStaffed 413 = .ok (.ireturn, 1) := by decide +kernel
set_option maxRecDepth 20000 in
theorem ggL_holds_X6_count : GoodIn wsL_holds wsX6_count := goodIn_r _ [5, 6, 7, 8, 9, 10, 11, 12, 4, 13, 14, 15, 16, 17, 18, 19, 20, 21, 22, 23, 24, 25, 26, 27, 28, 29, 30, 31, 32, 33, 34, 35, 36, 37, 38, 39, 40, 41, 42, 43, 44, 45, 46, 47, 48, 49, 50, 51, 52, 53, 54, 55, 56, 57, 58, 59, 60, 61, 62, 63, 64, 65, 66, 67, 68, 69, 70, 71, 72, 73, 74, 75, 76, 77, 78, 79, 80, 81, 82, 83, 84, 85, 86, 87, 88, 89, 90, 91, 92, 93, 94, 95, 96, 97, 159, 160, 161, 162, 163, 164, 165, 166, 167, 168, 169, 170, 171, 172, 173, 174, 175, 176, 177, 178, 179, 180, 181, 182, 183, 184, 185, 186, 187, 188, 189, 190, 191, 192, 193, 194, 195, 196, 197, 198, 199, 200, 201] (by decide +kernel) (by decide +kernel)
set_option maxRecDepth 20000 in
theorem gL_holds_X6_count : GoodIn wsL_holds (wsV RL 12 RX6 yX6_count wsX6_count) := goodIn_app (goodIn_of _ (by decide +kernel)) ggL_holds_X6_count
set_option maxRecDepth 20000 in
theorem ggL_holds_X6_floor : GoodIn wsL_holds wsX6_floor := goodIn_r _ [101, 6, 102, 56, 4, 57, 103, 104, 105, 95, 106, 97, 107, 108, 109, 110, 111, 159, 160, 161, 162, 163, 164, 165, 166, 167, 168, 169, 170, 171, 172, 173, 174, 185, 186, 187, 188, 189, 190, 191] (by decide +kernel) (by decide +kernel)
set_option maxRecDepth 20000 in
theorem gL_holds_X6_floor : GoodIn wsL_holds (wsV RL 18 RX6 yX6_floor wsX6_floor) := goodIn_app (goodIn_of _ (by decide +kernel)) ggL_holds_X6_floor
set_option maxRecDepth 20000 in
theorem ggL_holds_X6_log : GoodIn wsL_holds wsX6_log := goodIn_r _ [115, 6, 102, 56, 4, 57, 116, 110, 111, 103, 104, 105, 95, 106, 97, 107, 108, 109, 159, 160, 161, 162, 163, 164, 165, 166, 167, 168, 169, 170, 171, 172, 173, 174, 185, 186, 187, 188, 189, 190, 191] (by decide +kernel) (by decide +kernel)
set_option maxRecDepth 20000 in
theorem gL_holds_X6_log : GoodIn wsL_holds (wsV RL 25 RX6 yX6_log wsX6_log) := goodIn_app (goodIn_of _ (by decide +kernel)) ggL_holds_X6_log
set_option maxRecDepth 20000 in
theorem ggL_holds_X6_due : GoodIn wsL_holds wsX6_due := goodIn_r _ [120, 6, 116, 110, 4, 111, 121, 122, 123, 39, 124, 125, 126, 68, 69, 159, 160, 161, 162, 163, 164, 165, 166, 167, 168, 169, 170, 171, 172, 173, 174, 185, 186, 187, 188, 189, 190, 191] (by decide +kernel) (by decide +kernel)
set_option maxRecDepth 20000 in
theorem gL_holds_X6_due : GoodIn wsL_holds (wsV RL 32 RX6 yX6_due wsX6_due) := goodIn_app (goodIn_of _ (by decide +kernel)) ggL_holds_X6_due
set_option maxRecDepth 20000 in
theorem ggL_holds_X6_person : GoodIn wsL_holds wsX6_person := goodIn_r _ [130, 6, 7, 131, 132, 4, 133, 134, 135, 136, 46, 137, 48, 51, 138, 139, 140, 141, 50, 49, 142, 143, 144, 39, 145, 146, 147, 148, 149, 150, 63, 64, 65, 66, 67, 14, 15, 16, 17, 18, 19, 20, 21, 22, 23, 24, 25, 26, 27, 28, 29, 30, 31, 32, 33, 34, 35, 36, 37, 38, 40, 41, 42, 43, 44, 45, 47, 52, 53, 54, 55, 56, 57, 58, 59, 60, 61, 62, 68, 69, 70, 71, 72, 73, 74, 75, 76, 77, 78, 151, 152, 153, 154, 155, 156, 157, 158, 110, 111, 159, 160, 161, 162, 163, 164, 165, 166, 167, 168, 169, 170, 171, 172, 173, 174, 185, 186, 187, 188, 189, 190, 191, 181, 182, 183, 184, 175, 176, 177, 178, 179, 180] (by decide +kernel) (by decide +kernel)
set_option maxRecDepth 20000 in
theorem gL_holds_X6_person : GoodIn wsL_holds (wsV RL 29 RX6 yX6_person wsX6_person) := goodIn_app (goodIn_of _ (by decide +kernel)) ggL_holds_X6_person
theorem dL_holds_0 : decode cL_holds 0 = .ok (.iconst 0, 1) := by decide +kernel
theorem dL_holds_1 : decode cL_holds 1 = .ok (.istore_n 1, 1) := by decide +kernel
theorem dL_holds_2 : decode cL_holds 2 = .ok (.iconst 0, 1) := by decide +kernel
theorem dL_holds_3 : decode cL_holds 3 = .ok (.istore_n 2, 1) := by decide +kernel
theorem dL_holds_4 : decode cL_holds 4 = .ok (.iconst 0, 1) := by decide +kernel
theorem dL_holds_5 : decode cL_holds 5 = .ok (.istore_n 3, 1) := by decide +kernel
theorem dL_holds_6 : decode cL_holds 6 = .ok (.aload_n 0, 1) := by decide +kernel
theorem dL_holds_7 : decode cL_holds 7 = .ok (.iconst 1, 1) := by decide +kernel
theorem dL_holds_8 : decode cL_holds 8 = .ok (.invokevirtual 12, 3) := by decide +kernel
theorem dL_holds_11 : decode cL_holds 11 = .ok (.istore 4, 2) := by decide +kernel
theorem dL_holds_13 : decode cL_holds 13 = .ok (.iconst 0, 1) := by decide +kernel
theorem dL_holds_14 : decode cL_holds 14 = .ok (.istore 5, 2) := by decide +kernel
theorem dL_holds_16 : decode cL_holds 16 = .ok (.iload 5, 2) := by decide +kernel
theorem dL_holds_18 : decode cL_holds 18 = .ok (.bipush 10, 2) := by decide +kernel
theorem dL_holds_20 : decode cL_holds 20 = .ok (.if_icmp .ge 170, 3) := by decide +kernel
theorem dL_holds_23 : decode cL_holds 23 = .ok (.aload_n 0, 1) := by decide +kernel
theorem dL_holds_24 : decode cL_holds 24 = .ok (.iload 5, 2) := by decide +kernel
theorem dL_holds_26 : decode cL_holds 26 = .ok (.iconst 2, 1) := by decide +kernel
theorem dL_holds_27 : decode cL_holds 27 = .ok (.invokevirtual 18, 3) := by decide +kernel
theorem dL_holds_30 : decode cL_holds 30 = .ok (.istore 6, 2) := by decide +kernel
theorem dL_holds_32 : decode cL_holds 32 = .ok (.iload_n 1, 1) := by decide +kernel
theorem dL_holds_33 : decode cL_holds 33 = .ok (.iload 6, 2) := by decide +kernel
theorem dL_holds_35 : decode cL_holds 35 = .ok (.iadd, 1) := by decide +kernel
theorem dL_holds_36 : decode cL_holds 36 = .ok (.istore_n 1, 1) := by decide +kernel
theorem dL_holds_37 : decode cL_holds 37 = .ok (.iconst 0, 1) := by decide +kernel
theorem dL_holds_38 : decode cL_holds 38 = .ok (.istore 7, 2) := by decide +kernel
theorem dL_holds_40 : decode cL_holds 40 = .ok (.iload 7, 2) := by decide +kernel
theorem dL_holds_42 : decode cL_holds 42 = .ok (.bipush 7, 2) := by decide +kernel
theorem dL_holds_44 : decode cL_holds 44 = .ok (.if_icmp .ge 76, 3) := by decide +kernel
theorem dL_holds_47 : decode cL_holds 47 = .ok (.aload_n 0, 1) := by decide +kernel
theorem dL_holds_48 : decode cL_holds 48 = .ok (.iload 5, 2) := by decide +kernel
theorem dL_holds_50 : decode cL_holds 50 = .ok (.iload 7, 2) := by decide +kernel
theorem dL_holds_52 : decode cL_holds 52 = .ok (.iconst 0, 1) := by decide +kernel
theorem dL_holds_53 : decode cL_holds 53 = .ok (.invokevirtual 25, 3) := by decide +kernel
theorem dL_holds_56 : decode cL_holds 56 = .ok (.ifCond .lt 64, 3) := by decide +kernel
theorem dL_holds_59 : decode cL_holds 59 = .ok (.iload 7, 2) := by decide +kernel
theorem dL_holds_61 : decode cL_holds 61 = .ok (.ifCond .le 26, 3) := by decide +kernel
theorem dL_holds_64 : decode cL_holds 64 = .ok (.aload_n 0, 1) := by decide +kernel
theorem dL_holds_65 : decode cL_holds 65 = .ok (.iload 5, 2) := by decide +kernel
theorem dL_holds_67 : decode cL_holds 67 = .ok (.iload 7, 2) := by decide +kernel
theorem dL_holds_69 : decode cL_holds 69 = .ok (.iconst 0, 1) := by decide +kernel
theorem dL_holds_70 : decode cL_holds 70 = .ok (.invokevirtual 25, 3) := by decide +kernel
theorem dL_holds_73 : decode cL_holds 73 = .ok (.aload_n 0, 1) := by decide +kernel
theorem dL_holds_74 : decode cL_holds 74 = .ok (.iload 5, 2) := by decide +kernel
theorem dL_holds_76 : decode cL_holds 76 = .ok (.iload 7, 2) := by decide +kernel
theorem dL_holds_78 : decode cL_holds 78 = .ok (.iconst 1, 1) := by decide +kernel
theorem dL_holds_79 : decode cL_holds 79 = .ok (.isub, 1) := by decide +kernel
theorem dL_holds_80 : decode cL_holds 80 = .ok (.iconst 0, 1) := by decide +kernel
theorem dL_holds_81 : decode cL_holds 81 = .ok (.invokevirtual 25, 3) := by decide +kernel
theorem dL_holds_84 : decode cL_holds 84 = .ok (.if_icmp .gt 28, 3) := by decide +kernel
theorem dL_holds_87 : decode cL_holds 87 = .ok (.aload_n 0, 1) := by decide +kernel
theorem dL_holds_88 : decode cL_holds 88 = .ok (.aload_n 0, 1) := by decide +kernel
theorem dL_holds_89 : decode cL_holds 89 = .ok (.iload 5, 2) := by decide +kernel
theorem dL_holds_91 : decode cL_holds 91 = .ok (.iload 7, 2) := by decide +kernel
theorem dL_holds_93 : decode cL_holds 93 = .ok (.iconst 0, 1) := by decide +kernel
theorem dL_holds_94 : decode cL_holds 94 = .ok (.invokevirtual 25, 3) := by decide +kernel
theorem dL_holds_97 : decode cL_holds 97 = .ok (.bipush 100, 2) := by decide +kernel
theorem dL_holds_99 : decode cL_holds 99 = .ok (.idiv, 1) := by decide +kernel
theorem dL_holds_100 : decode cL_holds 100 = .ok (.invokevirtual 32, 3) := by decide +kernel
theorem dL_holds_103 : decode cL_holds 103 = .ok (.iload 5, 2) := by decide +kernel
theorem dL_holds_105 : decode cL_holds 105 = .ok (.ishr, 1) := by decide +kernel
theorem dL_holds_106 : decode cL_holds 106 = .ok (.iconst 1, 1) := by decide +kernel
theorem dL_holds_107 : decode cL_holds 107 = .ok (.iand, 1) := by decide +kernel
theorem dL_holds_108 : decode cL_holds 108 = .ok (.iconst 1, 1) := by decide +kernel
theorem dL_holds_109 : decode cL_holds 109 = .ok (.if_icmp .ne 5, 3) := by decide +kernel
theorem dL_holds_112 : decode cL_holds 112 = .ok (.iconst 0, 1) := by decide +kernel
theorem dL_holds_113 : decode cL_holds 113 = .ok (.ireturn, 1) := by decide +kernel
theorem dL_holds_114 : decode cL_holds 114 = .ok (.iinc 7 1, 3) := by decide +kernel
theorem dL_holds_117 : decode cL_holds 117 = .ok (.goto (-77), 3) := by decide +kernel
theorem dL_holds_120 : decode cL_holds 120 = .ok (.iload 7, 2) := by decide +kernel
theorem dL_holds_122 : decode cL_holds 122 = .ok (.iload 6, 2) := by decide +kernel
theorem dL_holds_124 : decode cL_holds 124 = .ok (.bipush 6, 2) := by decide +kernel
theorem dL_holds_126 : decode cL_holds 126 = .ok (.if_icmp .ge 8, 3) := by decide +kernel
theorem dL_holds_129 : decode cL_holds 129 = .ok (.iload 6, 2) := by decide +kernel
theorem dL_holds_131 : decode cL_holds 131 = .ok (.goto 5, 3) := by decide +kernel
theorem dL_holds_134 : decode cL_holds 134 = .ok (.bipush 6, 2) := by decide +kernel
theorem dL_holds_136 : decode cL_holds 136 = .ok (.if_icmp .ne 46, 3) := by decide +kernel
theorem dL_holds_139 : decode cL_holds 139 = .ok (.aload_n 0, 1) := by decide +kernel
theorem dL_holds_140 : decode cL_holds 140 = .ok (.iload 5, 2) := by decide +kernel
theorem dL_holds_142 : decode cL_holds 142 = .ok (.iconst 3, 1) := by decide +kernel
theorem dL_holds_143 : decode cL_holds 143 = .ok (.invokevirtual 18, 3) := by decide +kernel
theorem dL_holds_146 : decode cL_holds 146 = .ok (.aload_n 0, 1) := by decide +kernel
theorem dL_holds_147 : decode cL_holds 147 = .ok (.iload 5, 2) := by decide +kernel
theorem dL_holds_149 : decode cL_holds 149 = .ok (.iconst 0, 1) := by decide +kernel
theorem dL_holds_150 : decode cL_holds 150 = .ok (.iconst 0, 1) := by decide +kernel
theorem dL_holds_151 : decode cL_holds 151 = .ok (.invokevirtual 25, 3) := by decide +kernel
theorem dL_holds_154 : decode cL_holds 154 = .ok (.if_icmp .ne 28, 3) := by decide +kernel
theorem dL_holds_157 : decode cL_holds 157 = .ok (.aload_n 0, 1) := by decide +kernel
theorem dL_holds_158 : decode cL_holds 158 = .ok (.iload 4, 2) := by decide +kernel
theorem dL_holds_160 : decode cL_holds 160 = .ok (.invokevirtual 32, 3) := by decide +kernel
theorem dL_holds_163 : decode cL_holds 163 = .ok (.iload 5, 2) := by decide +kernel
theorem dL_holds_165 : decode cL_holds 165 = .ok (.ishr, 1) := by decide +kernel
theorem dL_holds_166 : decode cL_holds 166 = .ok (.iconst 1, 1) := by decide +kernel
theorem dL_holds_167 : decode cL_holds 167 = .ok (.iand, 1) := by decide +kernel
theorem dL_holds_168 : decode cL_holds 168 = .ok (.iconst 1, 1) := by decide +kernel
theorem dL_holds_169 : decode cL_holds 169 = .ok (.if_icmp .ne 15, 3) := by decide +kernel
theorem dL_holds_172 : decode cL_holds 172 = .ok (.aload_n 0, 1) := by decide +kernel
theorem dL_holds_173 : decode cL_holds 173 = .ok (.iload 5, 2) := by decide +kernel
theorem dL_holds_175 : decode cL_holds 175 = .ok (.iconst 0, 1) := by decide +kernel
theorem dL_holds_176 : decode cL_holds 176 = .ok (.invokevirtual 18, 3) := by decide +kernel
theorem dL_holds_179 : decode cL_holds 179 = .ok (.ifCond .ne 5, 3) := by decide +kernel
theorem dL_holds_182 : decode cL_holds 182 = .ok (.iconst 0, 1) := by decide +kernel
theorem dL_holds_183 : decode cL_holds 183 = .ok (.ireturn, 1) := by decide +kernel
theorem dL_holds_184 : decode cL_holds 184 = .ok (.iinc 5 1, 3) := by decide +kernel
theorem dL_holds_187 : decode cL_holds 187 = .ok (.goto (-171), 3) := by decide +kernel
theorem dL_holds_190 : decode cL_holds 190 = .ok (.iconst 0, 1) := by decide +kernel
theorem dL_holds_191 : decode cL_holds 191 = .ok (.istore 5, 2) := by decide +kernel
theorem dL_holds_193 : decode cL_holds 193 = .ok (.iload 5, 2) := by decide +kernel
theorem dL_holds_195 : decode cL_holds 195 = .ok (.bipush 16, 2) := by decide +kernel
theorem dL_holds_197 : decode cL_holds 197 = .ok (.if_icmp .ge 29, 3) := by decide +kernel
theorem dL_holds_200 : decode cL_holds 200 = .ok (.iload_n 2, 1) := by decide +kernel
theorem dL_holds_201 : decode cL_holds 201 = .ok (.aload_n 0, 1) := by decide +kernel
theorem dL_holds_202 : decode cL_holds 202 = .ok (.iload 5, 2) := by decide +kernel
theorem dL_holds_204 : decode cL_holds 204 = .ok (.iconst 4, 1) := by decide +kernel
theorem dL_holds_205 : decode cL_holds 205 = .ok (.invokevirtual 29, 3) := by decide +kernel
theorem dL_holds_208 : decode cL_holds 208 = .ok (.iadd, 1) := by decide +kernel
theorem dL_holds_209 : decode cL_holds 209 = .ok (.istore_n 2, 1) := by decide +kernel
theorem dL_holds_210 : decode cL_holds 210 = .ok (.iload_n 3, 1) := by decide +kernel
theorem dL_holds_211 : decode cL_holds 211 = .ok (.aload_n 0, 1) := by decide +kernel
theorem dL_holds_212 : decode cL_holds 212 = .ok (.iload 5, 2) := by decide +kernel
theorem dL_holds_214 : decode cL_holds 214 = .ok (.iconst 1, 1) := by decide +kernel
theorem dL_holds_215 : decode cL_holds 215 = .ok (.invokevirtual 29, 3) := by decide +kernel
theorem dL_holds_218 : decode cL_holds 218 = .ok (.iadd, 1) := by decide +kernel
theorem dL_holds_219 : decode cL_holds 219 = .ok (.istore_n 3, 1) := by decide +kernel
theorem dL_holds_220 : decode cL_holds 220 = .ok (.iinc 5 1, 3) := by decide +kernel
theorem dL_holds_223 : decode cL_holds 223 = .ok (.goto (-30), 3) := by decide +kernel
theorem dL_holds_226 : decode cL_holds 226 = .ok (.iload_n 1, 1) := by decide +kernel
theorem dL_holds_227 : decode cL_holds 227 = .ok (.aload_n 0, 1) := by decide +kernel
theorem dL_holds_228 : decode cL_holds 228 = .ok (.bipush 7, 2) := by decide +kernel
theorem dL_holds_230 : decode cL_holds 230 = .ok (.invokevirtual 12, 3) := by decide +kernel
theorem dL_holds_233 : decode cL_holds 233 = .ok (.if_icmp .ne 33, 3) := by decide +kernel
theorem dL_holds_236 : decode cL_holds 236 = .ok (.iload_n 2, 1) := by decide +kernel
theorem dL_holds_237 : decode cL_holds 237 = .ok (.iload_n 1, 1) := by decide +kernel
theorem dL_holds_238 : decode cL_holds 238 = .ok (.if_icmp .ne 28, 3) := by decide +kernel
theorem dL_holds_241 : decode cL_holds 241 = .ok (.iload_n 3, 1) := by decide +kernel
theorem dL_holds_242 : decode cL_holds 242 = .ok (.aload_n 0, 1) := by decide +kernel
theorem dL_holds_243 : decode cL_holds 243 = .ok (.bipush 6, 2) := by decide +kernel
theorem dL_holds_245 : decode cL_holds 245 = .ok (.invokevirtual 12, 3) := by decide +kernel
theorem dL_holds_248 : decode cL_holds 248 = .ok (.if_icmp .ne 18, 3) := by decide +kernel
theorem dL_holds_251 : decode cL_holds 251 = .ok (.aload_n 0, 1) := by decide +kernel
theorem dL_holds_252 : decode cL_holds 252 = .ok (.bipush 6, 2) := by decide +kernel
theorem dL_holds_254 : decode cL_holds 254 = .ok (.invokevirtual 12, 3) := by decide +kernel
theorem dL_holds_257 : decode cL_holds 257 = .ok (.bipush 40, 2) := by decide +kernel
theorem dL_holds_259 : decode cL_holds 259 = .ok (.if_icmp .gt 7, 3) := by decide +kernel
theorem dL_holds_262 : decode cL_holds 262 = .ok (.iconst 1, 1) := by decide +kernel
theorem dL_holds_263 : decode cL_holds 263 = .ok (.goto 4, 3) := by decide +kernel
theorem dL_holds_266 : decode cL_holds 266 = .ok (.iconst 0, 1) := by decide +kernel
theorem dL_holds_267 : decode cL_holds 267 = .ok (.ireturn, 1) := by decide +kernel
