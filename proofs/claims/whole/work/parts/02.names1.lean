theorem wsL_in_x0 : ∀ w ∈ wsX00, w ∈ lw_tbl := fun w h => (goodIn_r (big := lw_tbl) wsX00 [136, 138, 140, 142, 144, 146, 148] (by decide +kernel) (by decide +kernel) w h).1
theorem wsL_in_x1 : ∀ w ∈ wsX10, w ∈ lw_tbl := fun w h => (goodIn_r (big := lw_tbl) wsX10 [200, 202, 204, 206] (by decide +kernel) (by decide +kernel) w h).1
theorem wsL_in_x2 : ∀ w ∈ wsX20, w ∈ lw_tbl := fun w h => (goodIn_r (big := lw_tbl) wsX20 [109, 111, 113, 115] (by decide +kernel) (by decide +kernel) w h).1
theorem wsL_in_x3 : ∀ w ∈ wsX30, w ∈ lw_tbl := fun w h => (goodIn_r (big := lw_tbl) wsX30 [222, 224, 226, 228, 230, 232] (by decide +kernel) (by decide +kernel) w h).1
theorem wsL_in_x4 : ∀ w ∈ wsX40, w ∈ lw_tbl := fun w h => (goodIn_r (big := lw_tbl) wsX40 [251, 253, 255, 257, 259, 261] (by decide +kernel) (by decide +kernel) w h).1
theorem wsL_in_x5 : ∀ w ∈ wsX50, w ∈ lw_tbl := fun w h => (goodIn_r (big := lw_tbl) wsX50 [169, 171, 173, 175, 177, 179, 181, 183] (by decide +kernel) (by decide +kernel) w h).1
theorem wsL_in_x6 : ∀ w ∈ wsX60, w ∈ lw_tbl := fun w h => (goodIn_r (big := lw_tbl) wsX60 [272, 274, 276, 278, 280, 282, 284, 286] (by decide +kernel) (by decide +kernel) w h).1
theorem wsL_in_x7 : ∀ w ∈ wsX70, w ∈ lw_tbl := fun w h => (goodIn_r (big := lw_tbl) wsX70 [802, 804, 806, 808, 810, 812, 814, 816, 818, 820, 822, 824, 826, 828, 830, 832, 834, 836, 838, 840] (by decide +kernel) (by decide +kernel) w h).1
theorem wsL_law_in : ∀ w ∈ wsL_law, w ∈ lw_tbl := by
  intro w h
  unfold wsL_law at h
  simp only [List.mem_append] at h
  rcases h with (((((((((h | h) | h) | h) | h) | h) | h) | h) | h) | h)
  · rcases h with h | h | h | h | h | h | h | h | h | h | h | h | h | h | h | h | h | h | h | h | h | h | h | h | h | h | h | h | h | h | h | h | h | h | h | h | h | h
    · exact wsL_in_r1 w h
    · exact wsL_in_r2 w h
    · exact wsL_in_r3 w h
    · exact wsL_in_r4 w h
    · exact wsL_in_r5 w h
    · exact wsL_in_r6 w h
    · exact wsL_in_r7 w h
    · exact wsL_in_r8 w h
    · exact wsL_in_r9 w h
    · exact wsL_in_r10 w h
    · exact wsL_in_r11 w h
    · exact wsL_in_r12 w h
    · exact wsL_in_r13 w h
    · exact wsL_in_r14 w h
    · exact wsL_in_r15 w h
    · exact wsL_in_r16 w h
    · exact wsL_in_r17 w h
    · exact wsL_in_r18 w h
    · exact wsL_in_r19 w h
    · exact wsL_in_r20 w h
    · exact wsL_in_r21 w h
    · exact wsL_in_r22 w h
    · exact wsL_in_r23 w h
    · exact wsL_in_r24 w h
    · exact wsL_in_r25 w h
    · exact wsL_in_r26 w h
    · exact wsL_in_r27 w h
    · exact wsL_in_r28 w h
    · exact wsL_in_r29 w h
    · exact wsL_in_r30 w h
    · exact wsL_in_r31 w h
    · exact wsL_in_r32 w h
    · exact wsL_in_r33 w h
    · exact wsL_in_r34 w h
    · exact wsL_in_r35 w h
    · exact wsL_in_r36 w h
    · exact wsL_in_r37 w h
    · exact wsL_in_r38 w h
  · exact wsL_in_x6 w h
  · exact wsL_in_x7 w h
  · exact wsL_in_x5 w h
  · exact wsL_in_x1 w h
  · exact wsL_in_x3 w h
  · exact wsL_in_x4 w h
  · exact wsL_in_x2 w h
  · exact wsL_in_x0 w h
  · exact absurd h List.not_mem_nil
theorem inlX0 : ∀ w ∈ wsX00, w ∈ wsL_law := fun _ h => List.mem_append_left _ (List.mem_append_right _ h)
theorem inX0 : ∀ w ∈ wsX00, w ∈ lw_tbl := fun w h => wsL_law_in w (inlX0 w h)
theorem inlX1 : ∀ w ∈ wsX10, w ∈ wsL_law := fun _ h => List.mem_append_left _ (List.mem_append_left _ (List.mem_append_left _ (List.mem_append_left _ (List.mem_append_left _ (List.mem_append_right _ h)))))
theorem inX1 : ∀ w ∈ wsX10, w ∈ lw_tbl := fun w h => wsL_law_in w (inlX1 w h)
theorem inlX2 : ∀ w ∈ wsX20, w ∈ wsL_law := fun _ h => List.mem_append_left _ (List.mem_append_left _ (List.mem_append_right _ h))
theorem inX2 : ∀ w ∈ wsX20, w ∈ lw_tbl := fun w h => wsL_law_in w (inlX2 w h)
theorem inlX3 : ∀ w ∈ wsX30, w ∈ wsL_law := fun _ h => List.mem_append_left _ (List.mem_append_left _ (List.mem_append_left _ (List.mem_append_left _ (List.mem_append_right _ h))))
theorem inX3 : ∀ w ∈ wsX30, w ∈ lw_tbl := fun w h => wsL_law_in w (inlX3 w h)
theorem inlX4 : ∀ w ∈ wsX40, w ∈ wsL_law := fun _ h => List.mem_append_left _ (List.mem_append_left _ (List.mem_append_left _ (List.mem_append_right _ h)))
theorem inX4 : ∀ w ∈ wsX40, w ∈ lw_tbl := fun w h => wsL_law_in w (inlX4 w h)
theorem inlX5 : ∀ w ∈ wsX50, w ∈ wsL_law := fun _ h => List.mem_append_left _ (List.mem_append_left _ (List.mem_append_left _ (List.mem_append_left _ (List.mem_append_left _ (List.mem_append_left _ (List.mem_append_right _ h))))))
theorem inX5 : ∀ w ∈ wsX50, w ∈ lw_tbl := fun w h => wsL_law_in w (inlX5 w h)
theorem inlX6 : ∀ w ∈ wsX60, w ∈ wsL_law := fun _ h => List.mem_append_left _ (List.mem_append_left _ (List.mem_append_left _ (List.mem_append_left _ (List.mem_append_left _ (List.mem_append_left _ (List.mem_append_left _ (List.mem_append_left _ (List.mem_append_right _ h))))))))
theorem inX6 : ∀ w ∈ wsX60, w ∈ lw_tbl := fun w h => wsL_law_in w (inlX6 w h)
theorem inlX7 : ∀ w ∈ wsX70, w ∈ wsL_law := fun _ h => List.mem_append_left _ (List.mem_append_left _ (List.mem_append_left _ (List.mem_append_left _ (List.mem_append_left _ (List.mem_append_left _ (List.mem_append_left _ (List.mem_append_right _ h)))))))
theorem inX7 : ∀ w ∈ wsX70, w ∈ lw_tbl := fun w h => wsL_law_in w (inlX7 w h)
theorem inJ6 : ∀ w ∈ wsJ60, w ∈ lw_tbl := by decide +kernel
theorem inJ9 : ∀ w ∈ wsJ90, w ∈ lw_tbl := by decide +kernel
theorem inJ0 : ∀ w ∈ wsJ00, w ∈ lw_tbl := by decide +kernel
theorem inJ1 : ∀ w ∈ wsJ10, w ∈ lw_tbl := by decide +kernel
theorem inJ2 : ∀ w ∈ wsJ20, w ∈ lw_tbl := by decide +kernel
theorem inJ10 : ∀ w ∈ wsJ100, w ∈ lw_tbl := by decide +kernel
theorem inJ3 : ∀ w ∈ wsJ30, w ∈ lw_tbl := by decide +kernel
theorem dX0_init_0 : decode cX0_init 0 = .ok (.aload_n 0, 1) := by decide +kernel
theorem dX0_init_1 : decode cX0_init 1 = .ok (.invokespecial 3, 3) := by decide +kernel
theorem dX0_init_4 : decode cX0_init 4 = .ok (.aload_n 0, 1) := by decide +kernel
theorem dX0_init_5 : decode cX0_init 5 = .ok (.bipush 10, 2) := by decide +kernel
theorem dX0_init_7 : decode cX0_init 7 = .ok (.newarray .int, 2) := by decide +kernel
theorem dX0_init_9 : decode cX0_init 9 = .ok (.putfield 9, 3) := by decide +kernel
theorem dX0_init_12 : decode cX0_init 12 = .ok (.aload_n 0, 1) := by decide +kernel
theorem dX0_init_13 : decode cX0_init 13 = .ok (.bipush 10, 2) := by decide +kernel
theorem dX0_init_15 : decode cX0_init 15 = .ok (.newarray .int, 2) := by decide +kernel
theorem dX0_init_17 : decode cX0_init 17 = .ok (.putfield 15, 3) := by decide +kernel
theorem dX0_init_20 : decode cX0_init 20 = .ok (.aload_n 0, 1) := by decide +kernel
theorem dX0_init_21 : decode cX0_init 21 = .ok (.bipush 16, 2) := by decide +kernel
theorem dX0_init_23 : decode cX0_init 23 = .ok (.newarray .int, 2) := by decide +kernel
theorem dX0_init_25 : decode cX0_init 25 = .ok (.putfield 18, 3) := by decide +kernel
theorem dX0_init_28 : decode cX0_init 28 = .ok (.aload_n 0, 1) := by decide +kernel
theorem dX0_init_29 : decode cX0_init 29 = .ok (.bipush 60, 2) := by decide +kernel
theorem dX0_init_31 : decode cX0_init 31 = .ok (.newarray .int, 2) := by decide +kernel
theorem dX0_init_33 : decode cX0_init 33 = .ok (.putfield 21, 3) := by decide +kernel
theorem dX0_init_36 : decode cX0_init 36 = .ok (.aload_n 0, 1) := by decide +kernel
theorem dX0_init_37 : decode cX0_init 37 = .ok (.bipush 60, 2) := by decide +kernel
theorem dX0_init_39 : decode cX0_init 39 = .ok (.newarray .int, 2) := by decide +kernel
theorem dX0_init_41 : decode cX0_init 41 = .ok (.putfield 24, 3) := by decide +kernel
theorem dX0_init_44 : decode cX0_init 44 = .ok (.aload_n 0, 1) := by decide +kernel
theorem dX0_init_45 : decode cX0_init 45 = .ok (.bipush 60, 2) := by decide +kernel
theorem dX0_init_47 : decode cX0_init 47 = .ok (.newarray .int, 2) := by decide +kernel
theorem dX0_init_49 : decode cX0_init 49 = .ok (.putfield 27, 3) := by decide +kernel
theorem dX0_init_52 : decode cX0_init 52 = .ok (.return_, 1) := by decide +kernel
set_option maxRecDepth 20000 in
theorem ggX0_copyFrom_X6_copy : GoodIn wsX0_copyFrom wsX6_copy := goodIn_r _ [10, 11, 12, 13, 14] (by decide +kernel) (by decide +kernel)
set_option maxRecDepth 20000 in
theorem gX0_copyFrom_X6_copy_n34 : GoodIn wsX0_copyFrom (wsX6_copy) := ggX0_copyFrom_X6_copy
theorem dX0_copyFrom_0 : decode cX0_copyFrom 0 = .ok (.aload_n 0, 1) := by decide +kernel
theorem dX0_copyFrom_1 : decode cX0_copyFrom 1 = .ok (.aload_n 1, 1) := by decide +kernel
theorem dX0_copyFrom_2 : decode cX0_copyFrom 2 = .ok (.getfield 30, 3) := by decide +kernel
theorem dX0_copyFrom_5 : decode cX0_copyFrom 5 = .ok (.putfield 30, 3) := by decide +kernel
theorem dX0_copyFrom_8 : decode cX0_copyFrom 8 = .ok (.aload_n 1, 1) := by decide +kernel
theorem dX0_copyFrom_9 : decode cX0_copyFrom 9 = .ok (.getfield 9, 3) := by decide +kernel
theorem dX0_copyFrom_12 : decode cX0_copyFrom 12 = .ok (.aload_n 0, 1) := by decide +kernel
theorem dX0_copyFrom_13 : decode cX0_copyFrom 13 = .ok (.getfield 9, 3) := by decide +kernel
theorem dX0_copyFrom_16 : decode cX0_copyFrom 16 = .ok (.invokestatic 34, 3) := by decide +kernel
theorem dX0_copyFrom_19 : decode cX0_copyFrom 19 = .ok (.aload_n 1, 1) := by decide +kernel
theorem dX0_copyFrom_20 : decode cX0_copyFrom 20 = .ok (.getfield 15, 3) := by decide +kernel
theorem dX0_copyFrom_23 : decode cX0_copyFrom 23 = .ok (.aload_n 0, 1) := by decide +kernel
theorem dX0_copyFrom_24 : decode cX0_copyFrom 24 = .ok (.getfield 15, 3) := by decide +kernel
theorem dX0_copyFrom_27 : decode cX0_copyFrom 27 = .ok (.invokestatic 34, 3) := by decide +kernel
theorem dX0_copyFrom_30 : decode cX0_copyFrom 30 = .ok (.aload_n 1, 1) := by decide +kernel
theorem dX0_copyFrom_31 : decode cX0_copyFrom 31 = .ok (.getfield 18, 3) := by decide +kernel
theorem dX0_copyFrom_34 : decode cX0_copyFrom 34 = .ok (.aload_n 0, 1) := by decide +kernel
theorem dX0_copyFrom_35 : decode cX0_copyFrom 35 = .ok (.getfield 18, 3) := by decide +kernel
theorem dX0_copyFrom_38 : decode cX0_copyFrom 38 = .ok (.invokestatic 34, 3) := by decide +kernel
theorem dX0_copyFrom_41 : decode cX0_copyFrom 41 = .ok (.aload_n 1, 1) := by decide +kernel
theorem dX0_copyFrom_42 : decode cX0_copyFrom 42 = .ok (.getfield 21, 3) := by decide +kernel
theorem dX0_copyFrom_45 : decode cX0_copyFrom 45 = .ok (.aload_n 0, 1) := by decide +kernel
theorem dX0_copyFrom_46 : decode cX0_copyFrom 46 = .ok (.getfield 21, 3) := by decide +kernel
theorem dX0_copyFrom_49 : decode cX0_copyFrom 49 = .ok (.invokestatic 34, 3) := by decide +kernel
theorem dX0_copyFrom_52 : decode cX0_copyFrom 52 = .ok (.aload_n 1, 1) := by decide +kernel
theorem dX0_copyFrom_53 : decode cX0_copyFrom 53 = .ok (.getfield 24, 3) := by decide +kernel
theorem dX0_copyFrom_56 : decode cX0_copyFrom 56 = .ok (.aload_n 0, 1) := by decide +kernel
theorem dX0_copyFrom_57 : decode cX0_copyFrom 57 = .ok (.getfield 24, 3) := by decide +kernel
theorem dX0_copyFrom_60 : decode cX0_copyFrom 60 = .ok (.invokestatic 34, 3) := by decide +kernel
theorem dX0_copyFrom_63 : decode cX0_copyFrom 63 = .ok (.aload_n 1, 1) := by decide +kernel
theorem dX0_copyFrom_64 : decode cX0_copyFrom 64 = .ok (.getfield 27, 3) := by decide +kernel
theorem dX0_copyFrom_67 : decode cX0_copyFrom 67 = .ok (.aload_n 0, 1) := by decide +kernel
theorem dX0_copyFrom_68 : decode cX0_copyFrom 68 = .ok (.getfield 27, 3) := by decide +kernel
theorem dX0_copyFrom_71 : decode cX0_copyFrom 71 = .ok (.invokestatic 34, 3) := by decide +kernel
theorem dX0_copyFrom_74 : decode cX0_copyFrom 74 = .ok (.return_, 1) := by decide +kernel
set_option maxRecDepth 20000 in
theorem ggX0_add_X6_isFloor : GoodIn wsX0_add wsX6_isFloor := goodIn_r _ [10] (by decide +kernel) (by decide +kernel)
set_option maxRecDepth 20000 in
theorem gX0_add_X6_isFloor_n38 : GoodIn wsX0_add (wsX6_isFloor) := ggX0_add_X6_isFloor
set_option maxRecDepth 20000 in
theorem ggX0_add_X6_isPerson : GoodIn wsX0_add wsX6_isPerson := goodIn_r _ [12] (by decide +kernel) (by decide +kernel)
set_option maxRecDepth 20000 in
theorem gX0_add_X6_isPerson_n42 : GoodIn wsX0_add (wsX6_isPerson) := ggX0_add_X6_isPerson
theorem dX0_add_0 : decode cX0_add 0 = .ok (.iload_n 1, 1) := by decide +kernel
theorem dX0_add_1 : decode cX0_add 1 = .ok (.invokestatic 38, 3) := by decide +kernel
theorem dX0_add_4 : decode cX0_add 4 = .ok (.ifCond .eq 11, 3) := by decide +kernel
theorem dX0_add_7 : decode cX0_add 7 = .ok (.iload 4, 2) := by decide +kernel
theorem dX0_add_9 : decode cX0_add 9 = .ok (.invokestatic 42, 3) := by decide +kernel
theorem dX0_add_12 : decode cX0_add 12 = .ok (.ifCond .ne 4, 3) := by decide +kernel
theorem dX0_add_15 : decode cX0_add 15 = .ok (.return_, 1) := by decide +kernel
theorem dX0_add_16 : decode cX0_add 16 = .ok (.iload_n 1, 1) := by decide +kernel
theorem dX0_add_17 : decode cX0_add 17 = .ok (.bipush 6, 2) := by decide +kernel
theorem dX0_add_19 : decode cX0_add 19 = .ok (.imul, 1) := by decide +kernel
theorem dX0_add_20 : decode cX0_add 20 = .ok (.istore 5, 2) := by decide +kernel
theorem dX0_add_22 : decode cX0_add 22 = .ok (.iload 5, 2) := by decide +kernel
theorem dX0_add_24 : decode cX0_add 24 = .ok (.bipush 6, 2) := by decide +kernel
theorem dX0_add_26 : decode cX0_add 26 = .ok (.iadd, 1) := by decide +kernel
theorem dX0_add_27 : decode cX0_add 27 = .ok (.iconst 1, 1) := by decide +kernel
theorem dX0_add_28 : decode cX0_add 28 = .ok (.isub, 1) := by decide +kernel
theorem dX0_add_29 : decode cX0_add 29 = .ok (.istore 6, 2) := by decide +kernel
theorem dX0_add_31 : decode cX0_add 31 = .ok (.iload 6, 2) := by decide +kernel
theorem dX0_add_33 : decode cX0_add 33 = .ok (.iload 5, 2) := by decide +kernel
theorem dX0_add_35 : decode cX0_add 35 = .ok (.if_icmp .le 57, 3) := by decide +kernel
theorem dX0_add_38 : decode cX0_add 38 = .ok (.aload_n 0, 1) := by decide +kernel
theorem dX0_add_39 : decode cX0_add 39 = .ok (.getfield 21, 3) := by decide +kernel
theorem dX0_add_42 : decode cX0_add 42 = .ok (.iload 6, 2) := by decide +kernel
theorem dX0_add_44 : decode cX0_add 44 = .ok (.aload_n 0, 1) := by decide +kernel
theorem dX0_add_45 : decode cX0_add 45 = .ok (.getfield 21, 3) := by decide +kernel
theorem dX0_add_48 : decode cX0_add 48 = .ok (.iload 6, 2) := by decide +kernel
theorem dX0_add_50 : decode cX0_add 50 = .ok (.iconst 1, 1) := by decide +kernel
theorem dX0_add_51 : decode cX0_add 51 = .ok (.isub, 1) := by decide +kernel
theorem dX0_add_52 : decode cX0_add 52 = .ok (.iaload, 1) := by decide +kernel
theorem dX0_add_53 : decode cX0_add 53 = .ok (.iastore, 1) := by decide +kernel
theorem dX0_add_54 : decode cX0_add 54 = .ok (.aload_n 0, 1) := by decide +kernel
theorem dX0_add_55 : decode cX0_add 55 = .ok (.getfield 24, 3) := by decide +kernel
theorem dX0_add_58 : decode cX0_add 58 = .ok (.iload 6, 2) := by decide +kernel
theorem dX0_add_60 : decode cX0_add 60 = .ok (.aload_n 0, 1) := by decide +kernel
theorem dX0_add_61 : decode cX0_add 61 = .ok (.getfield 24, 3) := by decide +kernel
theorem dX0_add_64 : decode cX0_add 64 = .ok (.iload 6, 2) := by decide +kernel
theorem dX0_add_66 : decode cX0_add 66 = .ok (.iconst 1, 1) := by decide +kernel
theorem dX0_add_67 : decode cX0_add 67 = .ok (.isub, 1) := by decide +kernel
theorem dX0_add_68 : decode cX0_add 68 = .ok (.iaload, 1) := by decide +kernel
theorem dX0_add_69 : decode cX0_add 69 = .ok (.iastore, 1) := by decide +kernel
theorem dX0_add_70 : decode cX0_add 70 = .ok (.aload_n 0, 1) := by decide +kernel
theorem dX0_add_71 : decode cX0_add 71 = .ok (.getfield 27, 3) := by decide +kernel
theorem dX0_add_74 : decode cX0_add 74 = .ok (.iload 6, 2) := by decide +kernel
theorem dX0_add_76 : decode cX0_add 76 = .ok (.aload_n 0, 1) := by decide +kernel
theorem dX0_add_77 : decode cX0_add 77 = .ok (.getfield 27, 3) := by decide +kernel
theorem dX0_add_80 : decode cX0_add 80 = .ok (.iload 6, 2) := by decide +kernel
theorem dX0_add_82 : decode cX0_add 82 = .ok (.iconst 1, 1) := by decide +kernel
theorem dX0_add_83 : decode cX0_add 83 = .ok (.isub, 1) := by decide +kernel
theorem dX0_add_84 : decode cX0_add 84 = .ok (.iaload, 1) := by decide +kernel
theorem dX0_add_85 : decode cX0_add 85 = .ok (.iastore, 1) := by decide +kernel
theorem dX0_add_86 : decode cX0_add 86 = .ok (.iinc 6 (-1), 3) := by decide +kernel
theorem dX0_add_89 : decode cX0_add 89 = .ok (.goto (-58), 3) := by decide +kernel
theorem dX0_add_92 : decode cX0_add 92 = .ok (.aload_n 0, 1) := by decide +kernel
theorem dX0_add_93 : decode cX0_add 93 = .ok (.getfield 21, 3) := by decide +kernel
theorem dX0_add_96 : decode cX0_add 96 = .ok (.iload 5, 2) := by decide +kernel
theorem dX0_add_98 : decode cX0_add 98 = .ok (.iload_n 2, 1) := by decide +kernel
theorem dX0_add_99 : decode cX0_add 99 = .ok (.iastore, 1) := by decide +kernel
theorem dX0_add_100 : decode cX0_add 100 = .ok (.aload_n 0, 1) := by decide +kernel
theorem dX0_add_101 : decode cX0_add 101 = .ok (.getfield 24, 3) := by decide +kernel
theorem dX0_add_104 : decode cX0_add 104 = .ok (.iload 5, 2) := by decide +kernel
theorem dX0_add_106 : decode cX0_add 106 = .ok (.iload_n 3, 1) := by decide +kernel
theorem dX0_add_107 : decode cX0_add 107 = .ok (.iastore, 1) := by decide +kernel
theorem dX0_add_108 : decode cX0_add 108 = .ok (.aload_n 0, 1) := by decide +kernel
theorem dX0_add_109 : decode cX0_add 109 = .ok (.getfield 27, 3) := by decide +kernel
theorem dX0_add_112 : decode cX0_add 112 = .ok (.iload 5, 2) := by decide +kernel
theorem dX0_add_114 : decode cX0_add 114 = .ok (.iload 4, 2) := by decide +kernel
theorem dX0_add_116 : decode cX0_add 116 = .ok (.iastore, 1) := by decide +kernel
theorem dX0_add_117 : decode cX0_add 117 = .ok (.aload_n 0, 1) := by decide +kernel
theorem dX0_add_118 : decode cX0_add 118 = .ok (.getfield 9, 3) := by decide +kernel
theorem dX0_add_121 : decode cX0_add 121 = .ok (.iload_n 1, 1) := by decide +kernel
theorem dX0_add_122 : decode cX0_add 122 = .ok (.dup2, 1) := by decide +kernel
theorem dX0_add_123 : decode cX0_add 123 = .ok (.iaload, 1) := by decide +kernel
theorem dX0_add_124 : decode cX0_add 124 = .ok (.iconst 1, 1) := by decide +kernel
theorem dX0_add_125 : decode cX0_add 125 = .ok (.iadd, 1) := by decide +kernel
theorem dX0_add_126 : decode cX0_add 126 = .ok (.iastore, 1) := by decide +kernel
theorem dX0_add_127 : decode cX0_add 127 = .ok (.aload_n 0, 1) := by decide +kernel
theorem dX0_add_128 : decode cX0_add 128 = .ok (.getfield 15, 3) := by decide +kernel
theorem dX0_add_131 : decode cX0_add 131 = .ok (.iload_n 1, 1) := by decide +kernel
theorem dX0_add_132 : decode cX0_add 132 = .ok (.dup2, 1) := by decide +kernel
theorem dX0_add_133 : decode cX0_add 133 = .ok (.iaload, 1) := by decide +kernel
theorem dX0_add_134 : decode cX0_add 134 = .ok (.iconst 1, 1) := by decide +kernel
theorem dX0_add_135 : decode cX0_add 135 = .ok (.iload_n 2, 1) := by decide +kernel
theorem dX0_add_136 : decode cX0_add 136 = .ok (.bipush 100, 2) := by decide +kernel
theorem dX0_add_138 : decode cX0_add 138 = .ok (.idiv, 1) := by decide +kernel
theorem dX0_add_139 : decode cX0_add 139 = .ok (.ishl, 1) := by decide +kernel
theorem dX0_add_140 : decode cX0_add 140 = .ok (.ior, 1) := by decide +kernel
theorem dX0_add_141 : decode cX0_add 141 = .ok (.iastore, 1) := by decide +kernel
theorem dX0_add_142 : decode cX0_add 142 = .ok (.aload_n 0, 1) := by decide +kernel
theorem dX0_add_143 : decode cX0_add 143 = .ok (.getfield 18, 3) := by decide +kernel
theorem dX0_add_146 : decode cX0_add 146 = .ok (.iload 4, 2) := by decide +kernel
theorem dX0_add_148 : decode cX0_add 148 = .ok (.dup2, 1) := by decide +kernel
theorem dX0_add_149 : decode cX0_add 149 = .ok (.iaload, 1) := by decide +kernel
theorem dX0_add_150 : decode cX0_add 150 = .ok (.iconst 1, 1) := by decide +kernel
theorem dX0_add_151 : decode cX0_add 151 = .ok (.iadd, 1) := by decide +kernel
theorem dX0_add_152 : decode cX0_add 152 = .ok (.iastore, 1) := by decide +kernel
theorem dX0_add_153 : decode cX0_add 153 = .ok (.aload_n 0, 1) := by decide +kernel
theorem dX0_add_154 : decode cX0_add 154 = .ok (.dup, 1) := by decide +kernel
theorem dX0_add_155 : decode cX0_add 155 = .ok (.getfield 30, 3) := by decide +kernel
theorem dX0_add_158 : decode cX0_add 158 = .ok (.iload_n 3, 1) := by decide +kernel
theorem dX0_add_159 : decode cX0_add 159 = .ok (.iadd, 1) := by decide +kernel
theorem dX0_add_160 : decode cX0_add 160 = .ok (.putfield 30, 3) := by decide +kernel
theorem dX0_add_163 : decode cX0_add 163 = .ok (.return_, 1) := by decide +kernel
set_option maxRecDepth 20000 in
theorem ggX0_logged_X6_isFloor : GoodIn wsX0_logged wsX6_isFloor := goodIn_r _ [7] (by decide +kernel) (by decide +kernel)
set_option maxRecDepth 20000 in
theorem gX0_logged_X6_isFloor_n38 : GoodIn wsX0_logged (wsX6_isFloor) := ggX0_logged_X6_isFloor
set_option maxRecDepth 20000 in
theorem ggX0_logged_X6_isWithin : GoodIn wsX0_logged wsX6_isWithin := goodIn_r _ [9] (by decide +kernel) (by decide +kernel)
set_option maxRecDepth 20000 in
theorem gX0_logged_X6_isWithin_n45 : GoodIn wsX0_logged (wsX6_isWithin) := ggX0_logged_X6_isWithin
theorem dX0_logged_0 : decode cX0_logged 0 = .ok (.iload_n 1, 1) := by decide +kernel
theorem dX0_logged_1 : decode cX0_logged 1 = .ok (.invokestatic 38, 3) := by decide +kernel
theorem dX0_logged_4 : decode cX0_logged 4 = .ok (.ifCond .eq 22, 3) := by decide +kernel
theorem dX0_logged_7 : decode cX0_logged 7 = .ok (.iload_n 2, 1) := by decide +kernel
theorem dX0_logged_8 : decode cX0_logged 8 = .ok (.iconst 0, 1) := by decide +kernel
theorem dX0_logged_9 : decode cX0_logged 9 = .ok (.iconst 5, 1) := by decide +kernel
theorem dX0_logged_10 : decode cX0_logged 10 = .ok (.invokestatic 45, 3) := by decide +kernel
theorem dX0_logged_13 : decode cX0_logged 13 = .ok (.ifCond .eq 13, 3) := by decide +kernel
theorem dX0_logged_16 : decode cX0_logged 16 = .ok (.iload_n 2, 1) := by decide +kernel
theorem dX0_logged_17 : decode cX0_logged 17 = .ok (.aload_n 0, 1) := by decide +kernel
theorem dX0_logged_18 : decode cX0_logged 18 = .ok (.getfield 9, 3) := by decide +kernel
theorem dX0_logged_21 : decode cX0_logged 21 = .ok (.iload_n 1, 1) := by decide +kernel
theorem dX0_logged_22 : decode cX0_logged 22 = .ok (.iaload, 1) := by decide +kernel
theorem dX0_logged_23 : decode cX0_logged 23 = .ok (.if_icmp .lt 6, 3) := by decide +kernel
theorem dX0_logged_26 : decode cX0_logged 26 = .ok (.bipush (-5), 2) := by decide +kernel
theorem dX0_logged_28 : decode cX0_logged 28 = .ok (.ireturn, 1) := by decide +kernel
theorem dX0_logged_29 : decode cX0_logged 29 = .ok (.iload_n 1, 1) := by decide +kernel
theorem dX0_logged_30 : decode cX0_logged 30 = .ok (.bipush 6, 2) := by decide +kernel
theorem dX0_logged_32 : decode cX0_logged 32 = .ok (.imul, 1) := by decide +kernel
theorem dX0_logged_33 : decode cX0_logged 33 = .ok (.iload_n 2, 1) := by decide +kernel
theorem dX0_logged_34 : decode cX0_logged 34 = .ok (.iadd, 1) := by decide +kernel
theorem dX0_logged_35 : decode cX0_logged 35 = .ok (.istore 4, 2) := by decide +kernel
theorem dX0_logged_37 : decode cX0_logged 37 = .ok (.iload_n 3, 1) := by decide +kernel
theorem dX0_logged_38 : decode cX0_logged 38 = .ok (.lookupswitch 42 #[(0, 26), (1, 34)], 26) := by decide +kernel
theorem dX0_logged_64 : decode cX0_logged 64 = .ok (.aload_n 0, 1) := by decide +kernel
theorem dX0_logged_65 : decode cX0_logged 65 = .ok (.getfield 21, 3) := by decide +kernel
theorem dX0_logged_68 : decode cX0_logged 68 = .ok (.iload 4, 2) := by decide +kernel
theorem dX0_logged_70 : decode cX0_logged 70 = .ok (.iaload, 1) := by decide +kernel
theorem dX0_logged_71 : decode cX0_logged 71 = .ok (.ireturn, 1) := by decide +kernel
theorem dX0_logged_72 : decode cX0_logged 72 = .ok (.aload_n 0, 1) := by decide +kernel
theorem dX0_logged_73 : decode cX0_logged 73 = .ok (.getfield 24, 3) := by decide +kernel
theorem dX0_logged_76 : decode cX0_logged 76 = .ok (.iload 4, 2) := by decide +kernel
theorem dX0_logged_78 : decode cX0_logged 78 = .ok (.iaload, 1) := by decide +kernel
theorem dX0_logged_79 : decode cX0_logged 79 = .ok (.ireturn, 1) := by decide +kernel
theorem dX0_logged_80 : decode cX0_logged 80 = .ok (.aload_n 0, 1) := by decide +kernel
theorem dX0_logged_81 : decode cX0_logged 81 = .ok (.getfield 27, 3) := by decide +kernel
theorem dX0_logged_84 : decode cX0_logged 84 = .ok (.iload 4, 2) := by decide +kernel
theorem dX0_logged_86 : decode cX0_logged 86 = .ok (.iaload, 1) := by decide +kernel
theorem dX0_logged_87 : decode cX0_logged 87 = .ok (.ireturn, 1) := by decide +kernel
theorem dX0_total_0 : decode cX0_total 0 = .ok (.iconst 0, 1) := by decide +kernel
theorem dX0_total_1 : decode cX0_total 1 = .ok (.istore_n 1, 1) := by decide +kernel
theorem dX0_total_2 : decode cX0_total 2 = .ok (.iconst 0, 1) := by decide +kernel
theorem dX0_total_3 : decode cX0_total 3 = .ok (.istore_n 2, 1) := by decide +kernel
theorem dX0_total_4 : decode cX0_total 4 = .ok (.iload_n 2, 1) := by decide +kernel
theorem dX0_total_5 : decode cX0_total 5 = .ok (.bipush 10, 2) := by decide +kernel
theorem dX0_total_7 : decode cX0_total 7 = .ok (.if_icmp .ge 18, 3) := by decide +kernel
theorem dX0_total_10 : decode cX0_total 10 = .ok (.iload_n 1, 1) := by decide +kernel
theorem dX0_total_11 : decode cX0_total 11 = .ok (.aload_n 0, 1) := by decide +kernel
theorem dX0_total_12 : decode cX0_total 12 = .ok (.getfield 9, 3) := by decide +kernel
theorem dX0_total_15 : decode cX0_total 15 = .ok (.iload_n 2, 1) := by decide +kernel
theorem dX0_total_16 : decode cX0_total 16 = .ok (.iaload, 1) := by decide +kernel
theorem dX0_total_17 : decode cX0_total 17 = .ok (.iadd, 1) := by decide +kernel
theorem dX0_total_18 : decode cX0_total 18 = .ok (.istore_n 1, 1) := by decide +kernel
theorem dX0_total_19 : decode cX0_total 19 = .ok (.iinc 2 1, 3) := by decide +kernel
theorem dX0_total_22 : decode cX0_total 22 = .ok (.goto (-18), 3) := by decide +kernel
theorem dX0_total_25 : decode cX0_total 25 = .ok (.iload_n 1, 1) := by decide +kernel
theorem dX0_total_26 : decode cX0_total 26 = .ok (.ireturn, 1) := by decide +kernel
set_option maxRecDepth 20000 in
theorem ggX1_init_X5_init : GoodIn wsX1_init wsX5_init := goodIn_r _ [11, 12, 2, 3, 13, 14, 15, 16, 17, 18, 19, 20, 21, 22, 23, 24, 25, 26, 27, 28, 29, 30, 31, 32, 33, 34, 35, 36, 37, 38, 39, 40, 41, 42, 43, 48, 49, 50, 51, 52, 53, 54, 55, 56, 57, 58, 59, 60, 61, 62, 63, 64, 65, 66] (by decide +kernel) (by decide +kernel)
set_option maxRecDepth 20000 in
theorem gX1_init_X5_init : GoodIn wsX1_init (wsX5_init) := ggX1_init_X5_init
theorem dX1_init_0 : decode cX1_init 0 = .ok (.aload_n 0, 1) := by decide +kernel
theorem dX1_init_1 : decode cX1_init 1 = .ok (.invokespecial 3, 3) := by decide +kernel
theorem dX1_init_4 : decode cX1_init 4 = .ok (.aload_n 0, 1) := by decide +kernel
theorem dX1_init_5 : decode cX1_init 5 = .ok (.iconst 4, 1) := by decide +kernel
theorem dX1_init_6 : decode cX1_init 6 = .ok (.anewarray 9, 3) := by decide +kernel
theorem dX1_init_9 : decode cX1_init 9 = .ok (.putfield 11, 3) := by decide +kernel
theorem dX1_init_12 : decode cX1_init 12 = .ok (.iconst 0, 1) := by decide +kernel
theorem dX1_init_13 : decode cX1_init 13 = .ok (.istore_n 1, 1) := by decide +kernel
theorem dX1_init_14 : decode cX1_init 14 = .ok (.iload_n 1, 1) := by decide +kernel
theorem dX1_init_15 : decode cX1_init 15 = .ok (.iconst 4, 1) := by decide +kernel
theorem dX1_init_16 : decode cX1_init 16 = .ok (.if_icmp .ge 22, 3) := by decide +kernel
theorem dX1_init_19 : decode cX1_init 19 = .ok (.aload_n 0, 1) := by decide +kernel
theorem dX1_init_20 : decode cX1_init 20 = .ok (.getfield 11, 3) := by decide +kernel
theorem dX1_init_23 : decode cX1_init 23 = .ok (.iload_n 1, 1) := by decide +kernel
theorem dX1_init_24 : decode cX1_init 24 = .ok (.new 9, 3) := by decide +kernel
theorem dX1_init_27 : decode cX1_init 27 = .ok (.dup, 1) := by decide +kernel
theorem dX1_init_28 : decode cX1_init 28 = .ok (.invokespecial 17, 3) := by decide +kernel
theorem dX1_init_31 : decode cX1_init 31 = .ok (.aastore, 1) := by decide +kernel
theorem dX1_init_32 : decode cX1_init 32 = .ok (.iinc 1 1, 3) := by decide +kernel
theorem dX1_init_35 : decode cX1_init 35 = .ok (.goto (-21), 3) := by decide +kernel
theorem dX1_init_38 : decode cX1_init 38 = .ok (.aload_n 0, 1) := by decide +kernel
theorem dX1_init_39 : decode cX1_init 39 = .ok (.new 9, 3) := by decide +kernel
theorem dX1_init_42 : decode cX1_init 42 = .ok (.dup, 1) := by decide +kernel
theorem dX1_init_43 : decode cX1_init 43 = .ok (.invokespecial 17, 3) := by decide +kernel
theorem dX1_init_46 : decode cX1_init 46 = .ok (.putfield 18, 3) := by decide +kernel
theorem dX1_init_49 : decode cX1_init 49 = .ok (.return_, 1) := by decide +kernel
set_option maxRecDepth 20000 in
theorem ggX1_push_X1_dropOldest : GoodIn wsX1_push wsX1_dropOldest := goodIn_r _ [7, 2, 1, 51, 52, 53, 54] (by decide +kernel) (by decide +kernel)
set_option maxRecDepth 20000 in
theorem gX1_push_X1_dropOldest : GoodIn wsX1_push (wsV RX1 26 RX1 yX1_dropOldest wsX1_dropOldest) := goodIn_app (goodIn_of _ (by decide +kernel)) ggX1_push_X1_dropOldest
set_option maxRecDepth 20000 in
theorem ggX1_push_X6_isWithin : GoodIn wsX1_push wsX6_isWithin := goodIn_r _ [10] (by decide +kernel) (by decide +kernel)
set_option maxRecDepth 20000 in
theorem gX1_push_X6_isWithin_n29 : GoodIn wsX1_push (wsX6_isWithin) := ggX1_push_X6_isWithin
set_option maxRecDepth 20000 in
theorem ggX1_push_X5_copyFrom : GoodIn wsX1_push wsX5_copyFrom := goodIn_r _ [15, 16, 17, 18, 19, 20, 21, 22, 23, 24, 9, 25, 26, 27, 28, 29, 30, 31, 32, 33, 34, 35, 36, 37, 38, 39, 40, 41, 42, 43, 44, 45, 46, 47, 48, 49, 50, 55, 56, 57, 58, 59, 60, 61, 62, 63, 64, 65, 66, 67, 68, 69, 70, 71, 72, 73] (by decide +kernel) (by decide +kernel)
set_option maxRecDepth 20000 in
theorem gX1_push_X5_copyFrom : GoodIn wsX1_push (wsV RX1 33 RX5 yX5_copyFrom wsX5_copyFrom) := goodIn_app (goodIn_of _ (by decide +kernel)) ggX1_push_X5_copyFrom
theorem dX1_push_0 : decode cX1_push 0 = .ok (.aload_n 0, 1) := by decide +kernel
theorem dX1_push_1 : decode cX1_push 1 = .ok (.getfield 22, 3) := by decide +kernel
theorem dX1_push_4 : decode cX1_push 4 = .ok (.iconst 4, 1) := by decide +kernel
theorem dX1_push_5 : decode cX1_push 5 = .ok (.if_icmp .lt 7, 3) := by decide +kernel
theorem dX1_push_8 : decode cX1_push 8 = .ok (.aload_n 0, 1) := by decide +kernel
theorem dX1_push_9 : decode cX1_push 9 = .ok (.invokevirtual 26, 3) := by decide +kernel
theorem dX1_push_12 : decode cX1_push 12 = .ok (.aload_n 0, 1) := by decide +kernel
theorem dX1_push_13 : decode cX1_push 13 = .ok (.getfield 22, 3) := by decide +kernel
theorem dX1_push_16 : decode cX1_push 16 = .ok (.iconst 0, 1) := by decide +kernel
theorem dX1_push_17 : decode cX1_push 17 = .ok (.iconst 3, 1) := by decide +kernel
theorem dX1_push_18 : decode cX1_push 18 = .ok (.invokestatic 29, 3) := by decide +kernel
theorem dX1_push_21 : decode cX1_push 21 = .ok (.ifCond .eq 38, 3) := by decide +kernel
theorem dX1_push_24 : decode cX1_push 24 = .ok (.aload_n 0, 1) := by decide +kernel
theorem dX1_push_25 : decode cX1_push 25 = .ok (.getfield 11, 3) := by decide +kernel
theorem dX1_push_28 : decode cX1_push 28 = .ok (.aload_n 0, 1) := by decide +kernel
theorem dX1_push_29 : decode cX1_push 29 = .ok (.getfield 22, 3) := by decide +kernel
theorem dX1_push_32 : decode cX1_push 32 = .ok (.aaload, 1) := by decide +kernel
theorem dX1_push_33 : decode cX1_push 33 = .ok (.ifnull 26, 3) := by decide +kernel
theorem dX1_push_36 : decode cX1_push 36 = .ok (.aload_n 0, 1) := by decide +kernel
theorem dX1_push_37 : decode cX1_push 37 = .ok (.getfield 11, 3) := by decide +kernel
theorem dX1_push_40 : decode cX1_push 40 = .ok (.aload_n 0, 1) := by decide +kernel
theorem dX1_push_41 : decode cX1_push 41 = .ok (.getfield 22, 3) := by decide +kernel
theorem dX1_push_44 : decode cX1_push 44 = .ok (.aaload, 1) := by decide +kernel
theorem dX1_push_45 : decode cX1_push 45 = .ok (.aload_n 1, 1) := by decide +kernel
theorem dX1_push_46 : decode cX1_push 46 = .ok (.invokevirtual 33, 3) := by decide +kernel
theorem dX1_push_49 : decode cX1_push 49 = .ok (.aload_n 0, 1) := by decide +kernel
theorem dX1_push_50 : decode cX1_push 50 = .ok (.dup, 1) := by decide +kernel
theorem dX1_push_51 : decode cX1_push 51 = .ok (.getfield 22, 3) := by decide +kernel
theorem dX1_push_54 : decode cX1_push 54 = .ok (.iconst 1, 1) := by decide +kernel
theorem dX1_push_55 : decode cX1_push 55 = .ok (.iadd, 1) := by decide +kernel
theorem dX1_push_56 : decode cX1_push 56 = .ok (.putfield 22, 3) := by decide +kernel
theorem dX1_push_59 : decode cX1_push 59 = .ok (.return_, 1) := by decide +kernel
theorem dX1_dropOldest_0 : decode cX1_dropOldest 0 = .ok (.aload_n 0, 1) := by decide +kernel
theorem dX1_dropOldest_1 : decode cX1_dropOldest 1 = .ok (.getfield 11, 3) := by decide +kernel
theorem dX1_dropOldest_4 : decode cX1_dropOldest 4 = .ok (.iconst 0, 1) := by decide +kernel
theorem dX1_dropOldest_5 : decode cX1_dropOldest 5 = .ok (.aaload, 1) := by decide +kernel
theorem dX1_dropOldest_6 : decode cX1_dropOldest 6 = .ok (.astore_n 1, 1) := by decide +kernel
theorem dX1_dropOldest_7 : decode cX1_dropOldest 7 = .ok (.iconst 1, 1) := by decide +kernel
theorem dX1_dropOldest_8 : decode cX1_dropOldest 8 = .ok (.istore_n 2, 1) := by decide +kernel
theorem dX1_dropOldest_9 : decode cX1_dropOldest 9 = .ok (.iload_n 2, 1) := by decide +kernel
theorem dX1_dropOldest_10 : decode cX1_dropOldest 10 = .ok (.iconst 4, 1) := by decide +kernel
theorem dX1_dropOldest_11 : decode cX1_dropOldest 11 = .ok (.if_icmp .ge 23, 3) := by decide +kernel
theorem dX1_dropOldest_14 : decode cX1_dropOldest 14 = .ok (.aload_n 0, 1) := by decide +kernel
theorem dX1_dropOldest_15 : decode cX1_dropOldest 15 = .ok (.getfield 11, 3) := by decide +kernel
theorem dX1_dropOldest_18 : decode cX1_dropOldest 18 = .ok (.iload_n 2, 1) := by decide +kernel
theorem dX1_dropOldest_19 : decode cX1_dropOldest 19 = .ok (.iconst 1, 1) := by decide +kernel
theorem dX1_dropOldest_20 : decode cX1_dropOldest 20 = .ok (.isub, 1) := by decide +kernel
theorem dX1_dropOldest_21 : decode cX1_dropOldest 21 = .ok (.aload_n 0, 1) := by decide +kernel
theorem dX1_dropOldest_22 : decode cX1_dropOldest 22 = .ok (.getfield 11, 3) := by decide +kernel
theorem dX1_dropOldest_25 : decode cX1_dropOldest 25 = .ok (.iload_n 2, 1) := by decide +kernel
theorem dX1_dropOldest_26 : decode cX1_dropOldest 26 = .ok (.aaload, 1) := by decide +kernel
theorem dX1_dropOldest_27 : decode cX1_dropOldest 27 = .ok (.aastore, 1) := by decide +kernel
theorem dX1_dropOldest_28 : decode cX1_dropOldest 28 = .ok (.iinc 2 1, 3) := by decide +kernel
theorem dX1_dropOldest_31 : decode cX1_dropOldest 31 = .ok (.goto (-22), 3) := by decide +kernel
theorem dX1_dropOldest_34 : decode cX1_dropOldest 34 = .ok (.aload_n 0, 1) := by decide +kernel
theorem dX1_dropOldest_35 : decode cX1_dropOldest 35 = .ok (.getfield 11, 3) := by decide +kernel
theorem dX1_dropOldest_38 : decode cX1_dropOldest 38 = .ok (.iconst 3, 1) := by decide +kernel
theorem dX1_dropOldest_39 : decode cX1_dropOldest 39 = .ok (.aload_n 1, 1) := by decide +kernel
theorem dX1_dropOldest_40 : decode cX1_dropOldest 40 = .ok (.aastore, 1) := by decide +kernel
theorem dX1_dropOldest_41 : decode cX1_dropOldest 41 = .ok (.aload_n 0, 1) := by decide +kernel
theorem dX1_dropOldest_42 : decode cX1_dropOldest 42 = .ok (.iconst 3, 1) := by decide +kernel
theorem dX1_dropOldest_43 : decode cX1_dropOldest 43 = .ok (.putfield 22, 3) := by decide +kernel
theorem dX1_dropOldest_46 : decode cX1_dropOldest 46 = .ok (.return_, 1) := by decide +kernel
set_option maxRecDepth 20000 in
theorem ggX1_popInto_X6_isWithin : GoodIn wsX1_popInto wsX6_isWithin := goodIn_r _ [5] (by decide +kernel) (by decide +kernel)
set_option maxRecDepth 20000 in
theorem gX1_popInto_X6_isWithin_n29 : GoodIn wsX1_popInto (wsX6_isWithin) := ggX1_popInto_X6_isWithin
set_option maxRecDepth 20000 in
theorem ggX1_popInto_X5_copyFrom : GoodIn wsX1_popInto wsX5_copyFrom := goodIn_r _ [10, 11, 12, 13, 14, 15, 16, 17, 18, 19, 4, 20, 21, 22, 23, 24, 25, 26, 27, 28, 29, 30, 31, 32, 33, 34, 35, 36, 37, 38, 39, 40, 41, 42, 43, 44, 45, 50, 51, 52, 53, 54, 55, 56, 57, 58, 59, 60, 61, 62, 63, 64, 65, 66, 67, 68] (by decide +kernel) (by decide +kernel)
set_option maxRecDepth 20000 in
theorem gX1_popInto_X5_copyFrom : GoodIn wsX1_popInto (wsV RX1 33 RX5 yX5_copyFrom wsX5_copyFrom) := goodIn_app (goodIn_of _ (by decide +kernel)) ggX1_popInto_X5_copyFrom
theorem dX1_popInto_0 : decode cX1_popInto 0 = .ok (.aload_n 0, 1) := by decide +kernel
theorem dX1_popInto_1 : decode cX1_popInto 1 = .ok (.getfield 22, 3) := by decide +kernel
theorem dX1_popInto_4 : decode cX1_popInto 4 = .ok (.iconst 1, 1) := by decide +kernel
theorem dX1_popInto_5 : decode cX1_popInto 5 = .ok (.isub, 1) := by decide +kernel
theorem dX1_popInto_6 : decode cX1_popInto 6 = .ok (.istore_n 2, 1) := by decide +kernel
theorem dX1_popInto_7 : decode cX1_popInto 7 = .ok (.iload_n 2, 1) := by decide +kernel
theorem dX1_popInto_8 : decode cX1_popInto 8 = .ok (.iconst 0, 1) := by decide +kernel
theorem dX1_popInto_9 : decode cX1_popInto 9 = .ok (.iconst 3, 1) := by decide +kernel
theorem dX1_popInto_10 : decode cX1_popInto 10 = .ok (.invokestatic 29, 3) := by decide +kernel
theorem dX1_popInto_13 : decode cX1_popInto 13 = .ok (.ifCond .eq 12, 3) := by decide +kernel
theorem dX1_popInto_16 : decode cX1_popInto 16 = .ok (.aload_n 0, 1) := by decide +kernel
theorem dX1_popInto_17 : decode cX1_popInto 17 = .ok (.getfield 11, 3) := by decide +kernel
theorem dX1_popInto_20 : decode cX1_popInto 20 = .ok (.iload_n 2, 1) := by decide +kernel
theorem dX1_popInto_21 : decode cX1_popInto 21 = .ok (.aaload, 1) := by decide +kernel
theorem dX1_popInto_22 : decode cX1_popInto 22 = .ok (.ifnonnull 6, 3) := by decide +kernel
theorem dX1_popInto_25 : decode cX1_popInto 25 = .ok (.bipush (-5), 2) := by decide +kernel
theorem dX1_popInto_27 : decode cX1_popInto 27 = .ok (.ireturn, 1) := by decide +kernel
theorem dX1_popInto_28 : decode cX1_popInto 28 = .ok (.aload_n 1, 1) := by decide +kernel
theorem dX1_popInto_29 : decode cX1_popInto 29 = .ok (.aload_n 0, 1) := by decide +kernel
theorem dX1_popInto_30 : decode cX1_popInto 30 = .ok (.getfield 11, 3) := by decide +kernel
theorem dX1_popInto_33 : decode cX1_popInto 33 = .ok (.iload_n 2, 1) := by decide +kernel
theorem dX1_popInto_34 : decode cX1_popInto 34 = .ok (.aaload, 1) := by decide +kernel
theorem dX1_popInto_35 : decode cX1_popInto 35 = .ok (.invokevirtual 33, 3) := by decide +kernel
theorem dX1_popInto_38 : decode cX1_popInto 38 = .ok (.aload_n 0, 1) := by decide +kernel
theorem dX1_popInto_39 : decode cX1_popInto 39 = .ok (.iload_n 2, 1) := by decide +kernel
theorem dX1_popInto_40 : decode cX1_popInto 40 = .ok (.putfield 22, 3) := by decide +kernel
theorem dX1_popInto_43 : decode cX1_popInto 43 = .ok (.aload_n 0, 1) := by decide +kernel
theorem dX1_popInto_44 : decode cX1_popInto 44 = .ok (.getfield 22, 3) := by decide +kernel
theorem dX1_popInto_47 : decode cX1_popInto 47 = .ok (.ireturn, 1) := by decide +kernel
set_option maxRecDepth 20000 in
theorem ggX1_keepSnapshot_X5_copyFrom : GoodIn wsX1_keepSnapshot wsX5_copyFrom := goodIn_r _ [7, 8, 9, 10, 11, 12, 13, 14, 15, 16, 17, 18, 19, 20, 21, 22, 23, 24, 25, 26, 27, 28, 29, 30, 31, 32, 33, 34, 35, 36, 37, 38, 39, 40, 41, 42, 43, 48, 49, 50, 51, 52, 53, 54, 55, 56, 57, 58, 59, 60, 61, 62, 63, 64, 65, 66] (by decide +kernel) (by decide +kernel)
set_option maxRecDepth 20000 in
theorem gX1_keepSnapshot_X5_copyFrom : GoodIn wsX1_keepSnapshot (wsV RX1 33 RX5 yX5_copyFrom wsX5_copyFrom) := goodIn_app (goodIn_of _ (by decide +kernel)) ggX1_keepSnapshot_X5_copyFrom
theorem dX1_keepSnapshot_0 : decode cX1_keepSnapshot 0 = .ok (.aload_n 0, 1) := by decide +kernel
theorem dX1_keepSnapshot_1 : decode cX1_keepSnapshot 1 = .ok (.getfield 18, 3) := by decide +kernel
theorem dX1_keepSnapshot_4 : decode cX1_keepSnapshot 4 = .ok (.aload_n 1, 1) := by decide +kernel
theorem dX1_keepSnapshot_5 : decode cX1_keepSnapshot 5 = .ok (.invokevirtual 33, 3) := by decide +kernel
theorem dX1_keepSnapshot_8 : decode cX1_keepSnapshot 8 = .ok (.aload_n 0, 1) := by decide +kernel
theorem dX1_keepSnapshot_9 : decode cX1_keepSnapshot 9 = .ok (.iconst 1, 1) := by decide +kernel
theorem dX1_keepSnapshot_10 : decode cX1_keepSnapshot 10 = .ok (.putfield 37, 3) := by decide +kernel
theorem dX1_keepSnapshot_13 : decode cX1_keepSnapshot 13 = .ok (.return_, 1) := by decide +kernel
set_option maxRecDepth 20000 in
theorem ggX1_snapshotInto_X5_copyFrom : GoodIn wsX1_snapshotInto wsX5_copyFrom := goodIn_r _ [7, 8, 9, 10, 11, 12, 13, 14, 15, 16, 17, 18, 19, 20, 21, 22, 23, 24, 25, 26, 27, 28, 29, 30, 31, 32, 33, 34, 35, 36, 37, 38, 39, 40, 41, 42, 43, 48, 49, 50, 51, 52, 53, 54, 55, 56, 57, 58, 59, 60, 61, 62, 63, 64, 65, 66] (by decide +kernel) (by decide +kernel)
set_option maxRecDepth 20000 in
theorem gX1_snapshotInto_X5_copyFrom : GoodIn wsX1_snapshotInto (wsV RX1 33 RX5 yX5_copyFrom wsX5_copyFrom) := goodIn_app (goodIn_of _ (by decide +kernel)) ggX1_snapshotInto_X5_copyFrom
theorem dX1_snapshotInto_0 : decode cX1_snapshotInto 0 = .ok (.aload_n 0, 1) := by decide +kernel
theorem dX1_snapshotInto_1 : decode cX1_snapshotInto 1 = .ok (.getfield 37, 3) := by decide +kernel
theorem dX1_snapshotInto_4 : decode cX1_snapshotInto 4 = .ok (.ifCond .eq 11, 3) := by decide +kernel
theorem dX1_snapshotInto_7 : decode cX1_snapshotInto 7 = .ok (.aload_n 1, 1) := by decide +kernel
theorem dX1_snapshotInto_8 : decode cX1_snapshotInto 8 = .ok (.aload_n 0, 1) := by decide +kernel
theorem dX1_snapshotInto_9 : decode cX1_snapshotInto 9 = .ok (.getfield 18, 3) := by decide +kernel
theorem dX1_snapshotInto_12 : decode cX1_snapshotInto 12 = .ok (.invokevirtual 33, 3) := by decide +kernel
theorem dX1_snapshotInto_15 : decode cX1_snapshotInto 15 = .ok (.aload_n 0, 1) := by decide +kernel
theorem dX1_snapshotInto_16 : decode cX1_snapshotInto 16 = .ok (.getfield 37, 3) := by decide +kernel
theorem dX1_snapshotInto_19 : decode cX1_snapshotInto 19 = .ok (.ireturn, 1) := by decide +kernel
theorem dX2_init_0 : decode cX2_init 0 = .ok (.aload_n 0, 1) := by decide +kernel
theorem dX2_init_1 : decode cX2_init 1 = .ok (.invokespecial 3, 3) := by decide +kernel
theorem dX2_init_4 : decode cX2_init 4 = .ok (.aload_n 0, 1) := by decide +kernel
theorem dX2_init_5 : decode cX2_init 5 = .ok (.bipush 40, 2) := by decide +kernel
theorem dX2_init_7 : decode cX2_init 7 = .ok (.newarray .int, 2) := by decide +kernel
theorem dX2_init_9 : decode cX2_init 9 = .ok (.putfield 9, 3) := by decide +kernel
theorem dX2_init_12 : decode cX2_init 12 = .ok (.aload_n 0, 1) := by decide +kernel
theorem dX2_init_13 : decode cX2_init 13 = .ok (.bipush 40, 2) := by decide +kernel
theorem dX2_init_15 : decode cX2_init 15 = .ok (.newarray .int, 2) := by decide +kernel
theorem dX2_init_17 : decode cX2_init 17 = .ok (.putfield 15, 3) := by decide +kernel
theorem dX2_init_20 : decode cX2_init 20 = .ok (.aload_n 0, 1) := by decide +kernel
theorem dX2_init_21 : decode cX2_init 21 = .ok (.bipush 40, 2) := by decide +kernel
theorem dX2_init_23 : decode cX2_init 23 = .ok (.newarray .int, 2) := by decide +kernel
theorem dX2_init_25 : decode cX2_init 25 = .ok (.putfield 18, 3) := by decide +kernel
theorem dX2_init_28 : decode cX2_init 28 = .ok (.return_, 1) := by decide +kernel
set_option maxRecDepth 20000 in
theorem ggX2_copyFrom_X6_copy : GoodIn wsX2_copyFrom wsX6_copy := goodIn_r _ [7, 8, 9, 10, 11] (by decide +kernel) (by decide +kernel)
set_option maxRecDepth 20000 in
theorem gX2_copyFrom_X6_copy_n25 : GoodIn wsX2_copyFrom (wsX6_copy) := ggX2_copyFrom_X6_copy
theorem dX2_copyFrom_0 : decode cX2_copyFrom 0 = .ok (.aload_n 0, 1) := by decide +kernel
theorem dX2_copyFrom_1 : decode cX2_copyFrom 1 = .ok (.aload_n 1, 1) := by decide +kernel
theorem dX2_copyFrom_2 : decode cX2_copyFrom 2 = .ok (.getfield 21, 3) := by decide +kernel
theorem dX2_copyFrom_5 : decode cX2_copyFrom 5 = .ok (.putfield 21, 3) := by decide +kernel
theorem dX2_copyFrom_8 : decode cX2_copyFrom 8 = .ok (.aload_n 1, 1) := by decide +kernel
theorem dX2_copyFrom_9 : decode cX2_copyFrom 9 = .ok (.getfield 9, 3) := by decide +kernel
theorem dX2_copyFrom_12 : decode cX2_copyFrom 12 = .ok (.aload_n 0, 1) := by decide +kernel
theorem dX2_copyFrom_13 : decode cX2_copyFrom 13 = .ok (.getfield 9, 3) := by decide +kernel
theorem dX2_copyFrom_16 : decode cX2_copyFrom 16 = .ok (.invokestatic 25, 3) := by decide +kernel
theorem dX2_copyFrom_19 : decode cX2_copyFrom 19 = .ok (.aload_n 1, 1) := by decide +kernel
theorem dX2_copyFrom_20 : decode cX2_copyFrom 20 = .ok (.getfield 15, 3) := by decide +kernel
theorem dX2_copyFrom_23 : decode cX2_copyFrom 23 = .ok (.aload_n 0, 1) := by decide +kernel
theorem dX2_copyFrom_24 : decode cX2_copyFrom 24 = .ok (.getfield 15, 3) := by decide +kernel
theorem dX2_copyFrom_27 : decode cX2_copyFrom 27 = .ok (.invokestatic 25, 3) := by decide +kernel
theorem dX2_copyFrom_30 : decode cX2_copyFrom 30 = .ok (.aload_n 1, 1) := by decide +kernel
theorem dX2_copyFrom_31 : decode cX2_copyFrom 31 = .ok (.getfield 18, 3) := by decide +kernel
theorem dX2_copyFrom_34 : decode cX2_copyFrom 34 = .ok (.aload_n 0, 1) := by decide +kernel
theorem dX2_copyFrom_35 : decode cX2_copyFrom 35 = .ok (.getfield 18, 3) := by decide +kernel
theorem dX2_copyFrom_38 : decode cX2_copyFrom 38 = .ok (.invokestatic 25, 3) := by decide +kernel
theorem dX2_copyFrom_41 : decode cX2_copyFrom 41 = .ok (.return_, 1) := by decide +kernel
theorem dX2_find_0 : decode cX2_find 0 = .ok (.iconst 0, 1) := by decide +kernel
theorem dX2_find_1 : decode cX2_find 1 = .ok (.istore 4, 2) := by decide +kernel
theorem dX2_find_3 : decode cX2_find 3 = .ok (.iload 4, 2) := by decide +kernel
theorem dX2_find_5 : decode cX2_find 5 = .ok (.aload_n 0, 1) := by decide +kernel
theorem dX2_find_6 : decode cX2_find 6 = .ok (.getfield 21, 3) := by decide +kernel
theorem dX2_find_9 : decode cX2_find 9 = .ok (.if_icmp .ge 52, 3) := by decide +kernel
theorem dX2_find_12 : decode cX2_find 12 = .ok (.iload 4, 2) := by decide +kernel
theorem dX2_find_14 : decode cX2_find 14 = .ok (.bipush 40, 2) := by decide +kernel
theorem dX2_find_16 : decode cX2_find 16 = .ok (.if_icmp .ge 45, 3) := by decide +kernel
theorem dX2_find_19 : decode cX2_find 19 = .ok (.aload_n 0, 1) := by decide +kernel
theorem dX2_find_20 : decode cX2_find 20 = .ok (.getfield 9, 3) := by decide +kernel
theorem dX2_find_23 : decode cX2_find 23 = .ok (.iload 4, 2) := by decide +kernel
theorem dX2_find_25 : decode cX2_find 25 = .ok (.iaload, 1) := by decide +kernel
theorem dX2_find_26 : decode cX2_find 26 = .ok (.iload_n 1, 1) := by decide +kernel
theorem dX2_find_27 : decode cX2_find 27 = .ok (.if_icmp .ne 28, 3) := by decide +kernel
theorem dX2_find_30 : decode cX2_find 30 = .ok (.aload_n 0, 1) := by decide +kernel
theorem dX2_find_31 : decode cX2_find 31 = .ok (.getfield 15, 3) := by decide +kernel
theorem dX2_find_34 : decode cX2_find 34 = .ok (.iload 4, 2) := by decide +kernel
theorem dX2_find_36 : decode cX2_find 36 = .ok (.iaload, 1) := by decide +kernel
theorem dX2_find_37 : decode cX2_find 37 = .ok (.iload_n 3, 1) := by decide +kernel
theorem dX2_find_38 : decode cX2_find 38 = .ok (.if_icmp .gt 17, 3) := by decide +kernel
theorem dX2_find_41 : decode cX2_find 41 = .ok (.iload_n 2, 1) := by decide +kernel
theorem dX2_find_42 : decode cX2_find 42 = .ok (.aload_n 0, 1) := by decide +kernel
theorem dX2_find_43 : decode cX2_find 43 = .ok (.getfield 18, 3) := by decide +kernel
theorem dX2_find_46 : decode cX2_find 46 = .ok (.iload 4, 2) := by decide +kernel
theorem dX2_find_48 : decode cX2_find 48 = .ok (.iaload, 1) := by decide +kernel
theorem dX2_find_49 : decode cX2_find 49 = .ok (.if_icmp .gt 6, 3) := by decide +kernel
theorem dX2_find_52 : decode cX2_find 52 = .ok (.iload 4, 2) := by decide +kernel
theorem dX2_find_54 : decode cX2_find 54 = .ok (.ireturn, 1) := by decide +kernel
theorem dX2_find_55 : decode cX2_find 55 = .ok (.iinc 4 1, 3) := by decide +kernel
theorem dX2_find_58 : decode cX2_find 58 = .ok (.goto (-55), 3) := by decide +kernel
theorem dX2_find_61 : decode cX2_find 61 = .ok (.bipush (-5), 2) := by decide +kernel
theorem dX2_find_63 : decode cX2_find 63 = .ok (.ireturn, 1) := by decide +kernel
set_option maxRecDepth 20000 in
theorem ggX2_add_X6_isWithin : GoodIn wsX2_add wsX6_isWithin := goodIn_r _ [7] (by decide +kernel) (by decide +kernel)
set_option maxRecDepth 20000 in
theorem gX2_add_X6_isWithin_n29 : GoodIn wsX2_add (wsX6_isWithin) := ggX2_add_X6_isWithin
theorem dX2_add_0 : decode cX2_add 0 = .ok (.aload_n 0, 1) := by decide +kernel
theorem dX2_add_1 : decode cX2_add 1 = .ok (.getfield 21, 3) := by decide +kernel
theorem dX2_add_4 : decode cX2_add 4 = .ok (.iconst 0, 1) := by decide +kernel
theorem dX2_add_5 : decode cX2_add 5 = .ok (.bipush 39, 2) := by decide +kernel
theorem dX2_add_7 : decode cX2_add 7 = .ok (.invokestatic 29, 3) := by decide +kernel
theorem dX2_add_10 : decode cX2_add 10 = .ok (.ifCond .ne 6, 3) := by decide +kernel
theorem dX2_add_13 : decode cX2_add 13 = .ok (.bipush (-3), 2) := by decide +kernel
theorem dX2_add_15 : decode cX2_add 15 = .ok (.ireturn, 1) := by decide +kernel
theorem dX2_add_16 : decode cX2_add 16 = .ok (.aload_n 0, 1) := by decide +kernel
theorem dX2_add_17 : decode cX2_add 17 = .ok (.getfield 9, 3) := by decide +kernel
theorem dX2_add_20 : decode cX2_add 20 = .ok (.aload_n 0, 1) := by decide +kernel
theorem dX2_add_21 : decode cX2_add 21 = .ok (.getfield 21, 3) := by decide +kernel
theorem dX2_add_24 : decode cX2_add 24 = .ok (.iload_n 1, 1) := by decide +kernel
theorem dX2_add_25 : decode cX2_add 25 = .ok (.iastore, 1) := by decide +kernel
theorem dX2_add_26 : decode cX2_add 26 = .ok (.aload_n 0, 1) := by decide +kernel
theorem dX2_add_27 : decode cX2_add 27 = .ok (.getfield 15, 3) := by decide +kernel
theorem dX2_add_30 : decode cX2_add 30 = .ok (.aload_n 0, 1) := by decide +kernel
theorem dX2_add_31 : decode cX2_add 31 = .ok (.getfield 21, 3) := by decide +kernel
theorem dX2_add_34 : decode cX2_add 34 = .ok (.iload_n 2, 1) := by decide +kernel
theorem dX2_add_35 : decode cX2_add 35 = .ok (.iastore, 1) := by decide +kernel
theorem dX2_add_36 : decode cX2_add 36 = .ok (.aload_n 0, 1) := by decide +kernel
theorem dX2_add_37 : decode cX2_add 37 = .ok (.getfield 18, 3) := by decide +kernel
theorem dX2_add_40 : decode cX2_add 40 = .ok (.aload_n 0, 1) := by decide +kernel
theorem dX2_add_41 : decode cX2_add 41 = .ok (.getfield 21, 3) := by decide +kernel
theorem dX2_add_44 : decode cX2_add 44 = .ok (.iload_n 3, 1) := by decide +kernel
theorem dX2_add_45 : decode cX2_add 45 = .ok (.iastore, 1) := by decide +kernel
theorem dX2_add_46 : decode cX2_add 46 = .ok (.aload_n 0, 1) := by decide +kernel
theorem dX2_add_47 : decode cX2_add 47 = .ok (.dup, 1) := by decide +kernel
theorem dX2_add_48 : decode cX2_add 48 = .ok (.getfield 21, 3) := by decide +kernel
theorem dX2_add_51 : decode cX2_add 51 = .ok (.iconst 1, 1) := by decide +kernel
theorem dX2_add_52 : decode cX2_add 52 = .ok (.iadd, 1) := by decide +kernel
theorem dX2_add_53 : decode cX2_add 53 = .ok (.putfield 21, 3) := by decide +kernel
theorem dX2_add_56 : decode cX2_add 56 = .ok (.iload_n 3, 1) := by decide +kernel
theorem dX2_add_57 : decode cX2_add 57 = .ok (.iload_n 2, 1) := by decide +kernel
theorem dX2_add_58 : decode cX2_add 58 = .ok (.isub, 1) := by decide +kernel
theorem dX2_add_59 : decode cX2_add 59 = .ok (.iconst 1, 1) := by decide +kernel
theorem dX2_add_60 : decode cX2_add 60 = .ok (.iadd, 1) := by decide +kernel
theorem dX2_add_61 : decode cX2_add 61 = .ok (.ireturn, 1) := by decide +kernel
set_option maxRecDepth 20000 in
theorem ggX2_removeAt_X6_isWithin : GoodIn wsX2_removeAt wsX6_isWithin := goodIn_r _ [7] (by decide +kernel) (by decide +kernel)
set_option maxRecDepth 20000 in
theorem gX2_removeAt_X6_isWithin_n29 : GoodIn wsX2_removeAt (wsX6_isWithin) := ggX2_removeAt_X6_isWithin
theorem dX2_removeAt_0 : decode cX2_removeAt 0 = .ok (.aload_n 0, 1) := by decide +kernel
theorem dX2_removeAt_1 : decode cX2_removeAt 1 = .ok (.getfield 21, 3) := by decide +kernel
theorem dX2_removeAt_4 : decode cX2_removeAt 4 = .ok (.iconst 1, 1) := by decide +kernel
theorem dX2_removeAt_5 : decode cX2_removeAt 5 = .ok (.isub, 1) := by decide +kernel
theorem dX2_removeAt_6 : decode cX2_removeAt 6 = .ok (.istore_n 2, 1) := by decide +kernel
theorem dX2_removeAt_7 : decode cX2_removeAt 7 = .ok (.iload_n 2, 1) := by decide +kernel
theorem dX2_removeAt_8 : decode cX2_removeAt 8 = .ok (.iconst 0, 1) := by decide +kernel
theorem dX2_removeAt_9 : decode cX2_removeAt 9 = .ok (.bipush 39, 2) := by decide +kernel
theorem dX2_removeAt_11 : decode cX2_removeAt 11 = .ok (.invokestatic 29, 3) := by decide +kernel
theorem dX2_removeAt_14 : decode cX2_removeAt 14 = .ok (.ifCond .eq 12, 3) := by decide +kernel
theorem dX2_removeAt_17 : decode cX2_removeAt 17 = .ok (.iload_n 1, 1) := by decide +kernel
theorem dX2_removeAt_18 : decode cX2_removeAt 18 = .ok (.iconst 0, 1) := by decide +kernel
theorem dX2_removeAt_19 : decode cX2_removeAt 19 = .ok (.iload_n 2, 1) := by decide +kernel
theorem dX2_removeAt_20 : decode cX2_removeAt 20 = .ok (.invokestatic 29, 3) := by decide +kernel
theorem dX2_removeAt_23 : decode cX2_removeAt 23 = .ok (.ifCond .ne 6, 3) := by decide +kernel
theorem dX2_removeAt_26 : decode cX2_removeAt 26 = .ok (.bipush (-5), 2) := by decide +kernel
theorem dX2_removeAt_28 : decode cX2_removeAt 28 = .ok (.ireturn, 1) := by decide +kernel
theorem dX2_removeAt_29 : decode cX2_removeAt 29 = .ok (.aload_n 0, 1) := by decide +kernel
theorem dX2_removeAt_30 : decode cX2_removeAt 30 = .ok (.getfield 18, 3) := by decide +kernel
theorem dX2_removeAt_33 : decode cX2_removeAt 33 = .ok (.iload_n 1, 1) := by decide +kernel
theorem dX2_removeAt_34 : decode cX2_removeAt 34 = .ok (.iaload, 1) := by decide +kernel
theorem dX2_removeAt_35 : decode cX2_removeAt 35 = .ok (.aload_n 0, 1) := by decide +kernel
theorem dX2_removeAt_36 : decode cX2_removeAt 36 = .ok (.getfield 15, 3) := by decide +kernel
theorem dX2_removeAt_39 : decode cX2_removeAt 39 = .ok (.iload_n 1, 1) := by decide +kernel
theorem dX2_removeAt_40 : decode cX2_removeAt 40 = .ok (.iaload, 1) := by decide +kernel
theorem dX2_removeAt_41 : decode cX2_removeAt 41 = .ok (.isub, 1) := by decide +kernel
theorem dX2_removeAt_42 : decode cX2_removeAt 42 = .ok (.iconst 1, 1) := by decide +kernel
theorem dX2_removeAt_43 : decode cX2_removeAt 43 = .ok (.iadd, 1) := by decide +kernel
theorem dX2_removeAt_44 : decode cX2_removeAt 44 = .ok (.istore_n 3, 1) := by decide +kernel
theorem dX2_removeAt_45 : decode cX2_removeAt 45 = .ok (.aload_n 0, 1) := by decide +kernel
theorem dX2_removeAt_46 : decode cX2_removeAt 46 = .ok (.getfield 9, 3) := by decide +kernel
theorem dX2_removeAt_49 : decode cX2_removeAt 49 = .ok (.iload_n 1, 1) := by decide +kernel
theorem dX2_removeAt_50 : decode cX2_removeAt 50 = .ok (.aload_n 0, 1) := by decide +kernel
theorem dX2_removeAt_51 : decode cX2_removeAt 51 = .ok (.getfield 9, 3) := by decide +kernel
theorem dX2_removeAt_54 : decode cX2_removeAt 54 = .ok (.iload_n 2, 1) := by decide +kernel
theorem dX2_removeAt_55 : decode cX2_removeAt 55 = .ok (.iaload, 1) := by decide +kernel
theorem dX2_removeAt_56 : decode cX2_removeAt 56 = .ok (.iastore, 1) := by decide +kernel
theorem dX2_removeAt_57 : decode cX2_removeAt 57 = .ok (.aload_n 0, 1) := by decide +kernel
theorem dX2_removeAt_58 : decode cX2_removeAt 58 = .ok (.getfield 15, 3) := by decide +kernel
theorem dX2_removeAt_61 : decode cX2_removeAt 61 = .ok (.iload_n 1, 1) := by decide +kernel
theorem dX2_removeAt_62 : decode cX2_removeAt 62 = .ok (.aload_n 0, 1) := by decide +kernel
theorem dX2_removeAt_63 : decode cX2_removeAt 63 = .ok (.getfield 15, 3) := by decide +kernel
theorem dX2_removeAt_66 : decode cX2_removeAt 66 = .ok (.iload_n 2, 1) := by decide +kernel
theorem dX2_removeAt_67 : decode cX2_removeAt 67 = .ok (.iaload, 1) := by decide +kernel
theorem dX2_removeAt_68 : decode cX2_removeAt 68 = .ok (.iastore, 1) := by decide +kernel
theorem dX2_removeAt_69 : decode cX2_removeAt 69 = .ok (.aload_n 0, 1) := by decide +kernel
theorem dX2_removeAt_70 : decode cX2_removeAt 70 = .ok (.getfield 18, 3) := by decide +kernel
theorem dX2_removeAt_73 : decode cX2_removeAt 73 = .ok (.iload_n 1, 1) := by decide +kernel
theorem dX2_removeAt_74 : decode cX2_removeAt 74 = .ok (.aload_n 0, 1) := by decide +kernel
theorem dX2_removeAt_75 : decode cX2_removeAt 75 = .ok (.getfield 18, 3) := by decide +kernel
theorem dX2_removeAt_78 : decode cX2_removeAt 78 = .ok (.iload_n 2, 1) := by decide +kernel
theorem dX2_removeAt_79 : decode cX2_removeAt 79 = .ok (.iaload, 1) := by decide +kernel
theorem dX2_removeAt_80 : decode cX2_removeAt 80 = .ok (.iastore, 1) := by decide +kernel
theorem dX2_removeAt_81 : decode cX2_removeAt 81 = .ok (.aload_n 0, 1) := by decide +kernel
theorem dX2_removeAt_82 : decode cX2_removeAt 82 = .ok (.iload_n 2, 1) := by decide +kernel
theorem dX2_removeAt_83 : decode cX2_removeAt 83 = .ok (.putfield 21, 3) := by decide +kernel
theorem dX2_removeAt_86 : decode cX2_removeAt 86 = .ok (.iload_n 3, 1) := by decide +kernel
theorem dX2_removeAt_87 : decode cX2_removeAt 87 = .ok (.ireturn, 1) := by decide +kernel
theorem dX2_awayOn_0 : decode cX2_awayOn 0 = .ok (.iconst 0, 1) := by decide +kernel
theorem dX2_awayOn_1 : decode cX2_awayOn 1 = .ok (.istore_n 2, 1) := by decide +kernel
theorem dX2_awayOn_2 : decode cX2_awayOn 2 = .ok (.iconst 0, 1) := by decide +kernel
theorem dX2_awayOn_3 : decode cX2_awayOn 3 = .ok (.istore_n 3, 1) := by decide +kernel
theorem dX2_awayOn_4 : decode cX2_awayOn 4 = .ok (.iload_n 3, 1) := by decide +kernel
theorem dX2_awayOn_5 : decode cX2_awayOn 5 = .ok (.aload_n 0, 1) := by decide +kernel
theorem dX2_awayOn_6 : decode cX2_awayOn 6 = .ok (.getfield 21, 3) := by decide +kernel
theorem dX2_awayOn_9 : decode cX2_awayOn 9 = .ok (.if_icmp .ge 46, 3) := by decide +kernel
theorem dX2_awayOn_12 : decode cX2_awayOn 12 = .ok (.iload_n 3, 1) := by decide +kernel
theorem dX2_awayOn_13 : decode cX2_awayOn 13 = .ok (.bipush 40, 2) := by decide +kernel
theorem dX2_awayOn_15 : decode cX2_awayOn 15 = .ok (.if_icmp .ge 40, 3) := by decide +kernel
theorem dX2_awayOn_18 : decode cX2_awayOn 18 = .ok (.aload_n 0, 1) := by decide +kernel
theorem dX2_awayOn_19 : decode cX2_awayOn 19 = .ok (.getfield 15, 3) := by decide +kernel
theorem dX2_awayOn_22 : decode cX2_awayOn 22 = .ok (.iload_n 3, 1) := by decide +kernel
theorem dX2_awayOn_23 : decode cX2_awayOn 23 = .ok (.iaload, 1) := by decide +kernel
theorem dX2_awayOn_24 : decode cX2_awayOn 24 = .ok (.iload_n 1, 1) := by decide +kernel
theorem dX2_awayOn_25 : decode cX2_awayOn 25 = .ok (.if_icmp .gt 24, 3) := by decide +kernel
theorem dX2_awayOn_28 : decode cX2_awayOn 28 = .ok (.iload_n 1, 1) := by decide +kernel
theorem dX2_awayOn_29 : decode cX2_awayOn 29 = .ok (.aload_n 0, 1) := by decide +kernel
theorem dX2_awayOn_30 : decode cX2_awayOn 30 = .ok (.getfield 18, 3) := by decide +kernel
theorem dX2_awayOn_33 : decode cX2_awayOn 33 = .ok (.iload_n 3, 1) := by decide +kernel
theorem dX2_awayOn_34 : decode cX2_awayOn 34 = .ok (.iaload, 1) := by decide +kernel
theorem dX2_awayOn_35 : decode cX2_awayOn 35 = .ok (.if_icmp .gt 14, 3) := by decide +kernel
theorem dX2_awayOn_38 : decode cX2_awayOn 38 = .ok (.iload_n 2, 1) := by decide +kernel
theorem dX2_awayOn_39 : decode cX2_awayOn 39 = .ok (.iconst 1, 1) := by decide +kernel
theorem dX2_awayOn_40 : decode cX2_awayOn 40 = .ok (.aload_n 0, 1) := by decide +kernel
theorem dX2_awayOn_41 : decode cX2_awayOn 41 = .ok (.getfield 9, 3) := by decide +kernel
theorem dX2_awayOn_44 : decode cX2_awayOn 44 = .ok (.iload_n 3, 1) := by decide +kernel
theorem dX2_awayOn_45 : decode cX2_awayOn 45 = .ok (.iaload, 1) := by decide +kernel
theorem dX2_awayOn_46 : decode cX2_awayOn 46 = .ok (.ishl, 1) := by decide +kernel
theorem dX2_awayOn_47 : decode cX2_awayOn 47 = .ok (.ior, 1) := by decide +kernel
theorem dX2_awayOn_48 : decode cX2_awayOn 48 = .ok (.istore_n 2, 1) := by decide +kernel
theorem dX2_awayOn_49 : decode cX2_awayOn 49 = .ok (.iinc 3 1, 3) := by decide +kernel
theorem dX2_awayOn_52 : decode cX2_awayOn 52 = .ok (.goto (-48), 3) := by decide +kernel
theorem dX2_awayOn_55 : decode cX2_awayOn 55 = .ok (.iload_n 2, 1) := by decide +kernel
theorem dX2_awayOn_56 : decode cX2_awayOn 56 = .ok (.ireturn, 1) := by decide +kernel
theorem dX2_leavesOf_0 : decode cX2_leavesOf 0 = .ok (.iconst 0, 1) := by decide +kernel
theorem dX2_leavesOf_1 : decode cX2_leavesOf 1 = .ok (.istore_n 2, 1) := by decide +kernel
theorem dX2_leavesOf_2 : decode cX2_leavesOf 2 = .ok (.iconst 0, 1) := by decide +kernel
theorem dX2_leavesOf_3 : decode cX2_leavesOf 3 = .ok (.istore_n 3, 1) := by decide +kernel
theorem dX2_leavesOf_4 : decode cX2_leavesOf 4 = .ok (.iload_n 3, 1) := by decide +kernel
theorem dX2_leavesOf_5 : decode cX2_leavesOf 5 = .ok (.aload_n 0, 1) := by decide +kernel
theorem dX2_leavesOf_6 : decode cX2_leavesOf 6 = .ok (.getfield 21, 3) := by decide +kernel
theorem dX2_leavesOf_9 : decode cX2_leavesOf 9 = .ok (.if_icmp .ge 28, 3) := by decide +kernel
theorem dX2_leavesOf_12 : decode cX2_leavesOf 12 = .ok (.iload_n 3, 1) := by decide +kernel
theorem dX2_leavesOf_13 : decode cX2_leavesOf 13 = .ok (.bipush 40, 2) := by decide +kernel
theorem dX2_leavesOf_15 : decode cX2_leavesOf 15 = .ok (.if_icmp .ge 22, 3) := by decide +kernel
theorem dX2_leavesOf_18 : decode cX2_leavesOf 18 = .ok (.aload_n 0, 1) := by decide +kernel
theorem dX2_leavesOf_19 : decode cX2_leavesOf 19 = .ok (.getfield 9, 3) := by decide +kernel
theorem dX2_leavesOf_22 : decode cX2_leavesOf 22 = .ok (.iload_n 3, 1) := by decide +kernel
theorem dX2_leavesOf_23 : decode cX2_leavesOf 23 = .ok (.iaload, 1) := by decide +kernel
theorem dX2_leavesOf_24 : decode cX2_leavesOf 24 = .ok (.iload_n 1, 1) := by decide +kernel
theorem dX2_leavesOf_25 : decode cX2_leavesOf 25 = .ok (.if_icmp .ne 6, 3) := by decide +kernel
theorem dX2_leavesOf_28 : decode cX2_leavesOf 28 = .ok (.iinc 2 1, 3) := by decide +kernel
theorem dX2_leavesOf_31 : decode cX2_leavesOf 31 = .ok (.iinc 3 1, 3) := by decide +kernel
theorem dX2_leavesOf_34 : decode cX2_leavesOf 34 = .ok (.goto (-30), 3) := by decide +kernel
theorem dX2_leavesOf_37 : decode cX2_leavesOf 37 = .ok (.iload_n 2, 1) := by decide +kernel
theorem dX2_leavesOf_38 : decode cX2_leavesOf 38 = .ok (.ireturn, 1) := by decide +kernel
theorem dX2_daysOf_0 : decode cX2_daysOf 0 = .ok (.iconst 0, 1) := by decide +kernel
theorem dX2_daysOf_1 : decode cX2_daysOf 1 = .ok (.istore_n 2, 1) := by decide +kernel
theorem dX2_daysOf_2 : decode cX2_daysOf 2 = .ok (.iconst 0, 1) := by decide +kernel
theorem dX2_daysOf_3 : decode cX2_daysOf 3 = .ok (.istore_n 3, 1) := by decide +kernel
theorem dX2_daysOf_4 : decode cX2_daysOf 4 = .ok (.iload_n 3, 1) := by decide +kernel
theorem dX2_daysOf_5 : decode cX2_daysOf 5 = .ok (.aload_n 0, 1) := by decide +kernel
theorem dX2_daysOf_6 : decode cX2_daysOf 6 = .ok (.getfield 21, 3) := by decide +kernel
theorem dX2_daysOf_9 : decode cX2_daysOf 9 = .ok (.if_icmp .ge 43, 3) := by decide +kernel
theorem dX2_daysOf_12 : decode cX2_daysOf 12 = .ok (.iload_n 3, 1) := by decide +kernel
theorem dX2_daysOf_13 : decode cX2_daysOf 13 = .ok (.bipush 40, 2) := by decide +kernel
theorem dX2_daysOf_15 : decode cX2_daysOf 15 = .ok (.if_icmp .ge 37, 3) := by decide +kernel
theorem dX2_daysOf_18 : decode cX2_daysOf 18 = .ok (.aload_n 0, 1) := by decide +kernel
theorem dX2_daysOf_19 : decode cX2_daysOf 19 = .ok (.getfield 9, 3) := by decide +kernel
theorem dX2_daysOf_22 : decode cX2_daysOf 22 = .ok (.iload_n 3, 1) := by decide +kernel
theorem dX2_daysOf_23 : decode cX2_daysOf 23 = .ok (.iaload, 1) := by decide +kernel
theorem dX2_daysOf_24 : decode cX2_daysOf 24 = .ok (.iload_n 1, 1) := by decide +kernel
theorem dX2_daysOf_25 : decode cX2_daysOf 25 = .ok (.if_icmp .ne 21, 3) := by decide +kernel
theorem dX2_daysOf_28 : decode cX2_daysOf 28 = .ok (.iload_n 2, 1) := by decide +kernel
theorem dX2_daysOf_29 : decode cX2_daysOf 29 = .ok (.aload_n 0, 1) := by decide +kernel
theorem dX2_daysOf_30 : decode cX2_daysOf 30 = .ok (.getfield 18, 3) := by decide +kernel
theorem dX2_daysOf_33 : decode cX2_daysOf 33 = .ok (.iload_n 3, 1) := by decide +kernel
theorem dX2_daysOf_34 : decode cX2_daysOf 34 = .ok (.iaload, 1) := by decide +kernel
theorem dX2_daysOf_35 : decode cX2_daysOf 35 = .ok (.aload_n 0, 1) := by decide +kernel
theorem dX2_daysOf_36 : decode cX2_daysOf 36 = .ok (.getfield 15, 3) := by decide +kernel
theorem dX2_daysOf_39 : decode cX2_daysOf 39 = .ok (.iload_n 3, 1) := by decide +kernel
theorem dX2_daysOf_40 : decode cX2_daysOf 40 = .ok (.iaload, 1) := by decide +kernel
theorem dX2_daysOf_41 : decode cX2_daysOf 41 = .ok (.isub, 1) := by decide +kernel
theorem dX2_daysOf_42 : decode cX2_daysOf 42 = .ok (.iconst 1, 1) := by decide +kernel
theorem dX2_daysOf_43 : decode cX2_daysOf 43 = .ok (.iadd, 1) := by decide +kernel
theorem dX2_daysOf_44 : decode cX2_daysOf 44 = .ok (.iadd, 1) := by decide +kernel
theorem dX2_daysOf_45 : decode cX2_daysOf 45 = .ok (.istore_n 2, 1) := by decide +kernel
theorem dX2_daysOf_46 : decode cX2_daysOf 46 = .ok (.iinc 3 1, 3) := by decide +kernel
theorem dX2_daysOf_49 : decode cX2_daysOf 49 = .ok (.goto (-45), 3) := by decide +kernel
theorem dX2_daysOf_52 : decode cX2_daysOf 52 = .ok (.iload_n 2, 1) := by decide +kernel
theorem dX2_daysOf_53 : decode cX2_daysOf 53 = .ok (.ireturn, 1) := by decide +kernel
theorem dX3_init_0 : decode cX3_init 0 = .ok (.aload_n 0, 1) := by decide +kernel
theorem dX3_init_1 : decode cX3_init 1 = .ok (.invokespecial 3, 3) := by decide +kernel
theorem dX3_init_4 : decode cX3_init 4 = .ok (.aload_n 0, 1) := by decide +kernel
theorem dX3_init_5 : decode cX3_init 5 = .ok (.bipush 80, 2) := by decide +kernel
theorem dX3_init_7 : decode cX3_init 7 = .ok (.newarray .char, 2) := by decide +kernel
theorem dX3_init_9 : decode cX3_init 9 = .ok (.putfield 9, 3) := by decide +kernel
theorem dX3_init_12 : decode cX3_init 12 = .ok (.aload_n 0, 1) := by decide +kernel
theorem dX3_init_13 : decode cX3_init 13 = .ok (.bipush 12, 2) := by decide +kernel
theorem dX3_init_15 : decode cX3_init 15 = .ok (.newarray .int, 2) := by decide +kernel
theorem dX3_init_17 : decode cX3_init 17 = .ok (.putfield 15, 3) := by decide +kernel
theorem dX3_init_20 : decode cX3_init 20 = .ok (.aload_n 0, 1) := by decide +kernel
theorem dX3_init_21 : decode cX3_init 21 = .ok (.bipush 36, 2) := by decide +kernel
theorem dX3_init_23 : decode cX3_init 23 = .ok (.newarray .int, 2) := by decide +kernel
theorem dX3_init_25 : decode cX3_init 25 = .ok (.putfield 19, 3) := by decide +kernel
theorem dX3_init_28 : decode cX3_init 28 = .ok (.return_, 1) := by decide +kernel
set_option maxRecDepth 20000 in
theorem ggX3_append_X6_isWithin : GoodIn wsX3_append wsX6_isWithin := goodIn_r _ [5] (by decide +kernel) (by decide +kernel)
set_option maxRecDepth 20000 in
theorem gX3_append_X6_isWithin_n26 : GoodIn wsX3_append (wsX6_isWithin) := ggX3_append_X6_isWithin
theorem dX3_append_0 : decode cX3_append 0 = .ok (.aload_n 0, 1) := by decide +kernel
theorem dX3_append_1 : decode cX3_append 1 = .ok (.getfield 22, 3) := by decide +kernel
theorem dX3_append_4 : decode cX3_append 4 = .ok (.iconst 0, 1) := by decide +kernel
theorem dX3_append_5 : decode cX3_append 5 = .ok (.bipush 79, 2) := by decide +kernel
theorem dX3_append_7 : decode cX3_append 7 = .ok (.invokestatic 26, 3) := by decide +kernel
theorem dX3_append_10 : decode cX3_append 10 = .ok (.ifCond .ne 6, 3) := by decide +kernel
theorem dX3_append_13 : decode cX3_append 13 = .ok (.bipush (-3), 2) := by decide +kernel
theorem dX3_append_15 : decode cX3_append 15 = .ok (.ireturn, 1) := by decide +kernel
theorem dX3_append_16 : decode cX3_append 16 = .ok (.aload_n 0, 1) := by decide +kernel
theorem dX3_append_17 : decode cX3_append 17 = .ok (.getfield 9, 3) := by decide +kernel
theorem dX3_append_20 : decode cX3_append 20 = .ok (.aload_n 0, 1) := by decide +kernel
theorem dX3_append_21 : decode cX3_append 21 = .ok (.getfield 22, 3) := by decide +kernel
theorem dX3_append_24 : decode cX3_append 24 = .ok (.iload_n 1, 1) := by decide +kernel
theorem dX3_append_25 : decode cX3_append 25 = .ok (.castore, 1) := by decide +kernel
theorem dX3_append_26 : decode cX3_append 26 = .ok (.aload_n 0, 1) := by decide +kernel
theorem dX3_append_27 : decode cX3_append 27 = .ok (.dup, 1) := by decide +kernel
theorem dX3_append_28 : decode cX3_append 28 = .ok (.getfield 22, 3) := by decide +kernel
theorem dX3_append_31 : decode cX3_append 31 = .ok (.iconst 1, 1) := by decide +kernel
theorem dX3_append_32 : decode cX3_append 32 = .ok (.iadd, 1) := by decide +kernel
theorem dX3_append_33 : decode cX3_append 33 = .ok (.putfield 22, 3) := by decide +kernel
theorem dX3_append_36 : decode cX3_append 36 = .ok (.aload_n 0, 1) := by decide +kernel
theorem dX3_append_37 : decode cX3_append 37 = .ok (.getfield 22, 3) := by decide +kernel
theorem dX3_append_40 : decode cX3_append 40 = .ok (.ireturn, 1) := by decide +kernel
theorem dX3_empty_0 : decode cX3_empty 0 = .ok (.aload_n 0, 1) := by decide +kernel
theorem dX3_empty_1 : decode cX3_empty 1 = .ok (.getfield 22, 3) := by decide +kernel
theorem dX3_empty_4 : decode cX3_empty 4 = .ok (.istore_n 1, 1) := by decide +kernel
theorem dX3_empty_5 : decode cX3_empty 5 = .ok (.aload_n 0, 1) := by decide +kernel
theorem dX3_empty_6 : decode cX3_empty 6 = .ok (.iconst 0, 1) := by decide +kernel
theorem dX3_empty_7 : decode cX3_empty 7 = .ok (.putfield 22, 3) := by decide +kernel
theorem dX3_empty_10 : decode cX3_empty 10 = .ok (.iload_n 1, 1) := by decide +kernel
theorem dX3_empty_11 : decode cX3_empty 11 = .ok (.ireturn, 1) := by decide +kernel
theorem dX3_orders_0 : decode cX3_orders 0 = .ok (.aload_n 0, 1) := by decide +kernel
theorem dX3_orders_1 : decode cX3_orders 1 = .ok (.getfield 30, 3) := by decide +kernel
theorem dX3_orders_4 : decode cX3_orders 4 = .ok (.ireturn, 1) := by decide +kernel
theorem dX3_fault_0 : decode cX3_fault 0 = .ok (.aload_n 0, 1) := by decide +kernel
theorem dX3_fault_1 : decode cX3_fault 1 = .ok (.getfield 33, 3) := by decide +kernel
theorem dX3_fault_4 : decode cX3_fault 4 = .ok (.ireturn, 1) := by decide +kernel
set_option maxRecDepth 20000 in
theorem ggX3_kind_X6_isWithin : GoodIn wsX3_kind wsX6_isWithin := goodIn_r _ [4] (by decide +kernel) (by decide +kernel)
set_option maxRecDepth 20000 in
theorem gX3_kind_X6_isWithin_n26 : GoodIn wsX3_kind (wsX6_isWithin) := ggX3_kind_X6_isWithin
theorem dX3_kind_0 : decode cX3_kind 0 = .ok (.iload_n 1, 1) := by decide +kernel
theorem dX3_kind_1 : decode cX3_kind 1 = .ok (.iconst 0, 1) := by decide +kernel
theorem dX3_kind_2 : decode cX3_kind 2 = .ok (.bipush 11, 2) := by decide +kernel
theorem dX3_kind_4 : decode cX3_kind 4 = .ok (.invokestatic 26, 3) := by decide +kernel
theorem dX3_kind_7 : decode cX3_kind 7 = .ok (.ifCond .eq 12, 3) := by decide +kernel
theorem dX3_kind_10 : decode cX3_kind 10 = .ok (.aload_n 0, 1) := by decide +kernel
theorem dX3_kind_11 : decode cX3_kind 11 = .ok (.getfield 15, 3) := by decide +kernel
theorem dX3_kind_14 : decode cX3_kind 14 = .ok (.iload_n 1, 1) := by decide +kernel
theorem dX3_kind_15 : decode cX3_kind 15 = .ok (.iaload, 1) := by decide +kernel
theorem dX3_kind_16 : decode cX3_kind 16 = .ok (.goto 5, 3) := by decide +kernel
theorem dX3_kind_19 : decode cX3_kind 19 = .ok (.bipush (-5), 2) := by decide +kernel
theorem dX3_kind_21 : decode cX3_kind 21 = .ok (.ireturn, 1) := by decide +kernel
set_option maxRecDepth 20000 in
theorem ggX3_number_X6_isWithin : GoodIn wsX3_number wsX6_isWithin := goodIn_r _ [4] (by decide +kernel) (by decide +kernel)
set_option maxRecDepth 20000 in
theorem gX3_number_X6_isWithin_n26 : GoodIn wsX3_number (wsX6_isWithin) := ggX3_number_X6_isWithin
theorem dX3_number_0 : decode cX3_number 0 = .ok (.iload_n 1, 1) := by decide +kernel
theorem dX3_number_1 : decode cX3_number 1 = .ok (.iconst 0, 1) := by decide +kernel
theorem dX3_number_2 : decode cX3_number 2 = .ok (.bipush 11, 2) := by decide +kernel
theorem dX3_number_4 : decode cX3_number 4 = .ok (.invokestatic 26, 3) := by decide +kernel
theorem dX3_number_7 : decode cX3_number 7 = .ok (.ifCond .eq 12, 3) := by decide +kernel
theorem dX3_number_10 : decode cX3_number 10 = .ok (.iload_n 2, 1) := by decide +kernel
theorem dX3_number_11 : decode cX3_number 11 = .ok (.iconst 0, 1) := by decide +kernel
theorem dX3_number_12 : decode cX3_number 12 = .ok (.iconst 2, 1) := by decide +kernel
theorem dX3_number_13 : decode cX3_number 13 = .ok (.invokestatic 26, 3) := by decide +kernel
theorem dX3_number_16 : decode cX3_number 16 = .ok (.ifCond .ne 6, 3) := by decide +kernel
theorem dX3_number_19 : decode cX3_number 19 = .ok (.bipush (-5), 2) := by decide +kernel
theorem dX3_number_21 : decode cX3_number 21 = .ok (.ireturn, 1) := by decide +kernel
theorem dX3_number_22 : decode cX3_number 22 = .ok (.aload_n 0, 1) := by decide +kernel
theorem dX3_number_23 : decode cX3_number 23 = .ok (.getfield 19, 3) := by decide +kernel
theorem dX3_number_26 : decode cX3_number 26 = .ok (.iload_n 1, 1) := by decide +kernel
theorem dX3_number_27 : decode cX3_number 27 = .ok (.iconst 3, 1) := by decide +kernel
theorem dX3_number_28 : decode cX3_number 28 = .ok (.imul, 1) := by decide +kernel
theorem dX3_number_29 : decode cX3_number 29 = .ok (.iload_n 2, 1) := by decide +kernel
theorem dX3_number_30 : decode cX3_number 30 = .ok (.iadd, 1) := by decide +kernel
theorem dX3_number_31 : decode cX3_number 31 = .ok (.iaload, 1) := by decide +kernel
theorem dX3_number_32 : decode cX3_number 32 = .ok (.ireturn, 1) := by decide +kernel
set_option maxRecDepth 20000 in
theorem ggX3_readOrders_X3_readOrder : GoodIn wsX3_readOrders wsX3_readOrder := goodIn_r _ [7, 8, 9, 10, 11, 6, 12, 13, 14, 15, 16, 17, 18, 19, 20, 21, 22, 23, 24, 25, 26, 27, 28, 29, 30, 31, 32, 33, 34, 35, 36, 37, 38, 39, 40, 41, 42, 43, 44, 45, 46, 47, 48, 49, 50, 51, 52, 53, 54, 55, 56, 57, 58, 59, 60, 61, 62, 63, 64, 1, 65, 66, 67, 68, 69, 70, 71, 72, 73, 74, 75, 76, 77, 78, 79, 80, 81, 82, 83, 84, 85, 86, 87, 88, 89, 90, 91, 92, 93, 94, 95, 96, 97, 98, 99, 100, 101, 102, 103, 104, 105, 106, 107, 108, 109] (by decide +kernel) (by decide +kernel)
set_option maxRecDepth 20000 in
theorem gX3_readOrders_X3_readOrder : GoodIn wsX3_readOrders (wsV RX3 36 RX3 yX3_readOrder wsX3_readOrder) := goodIn_app (goodIn_of _ (by decide +kernel)) ggX3_readOrders_X3_readOrder
set_option maxRecDepth 20000 in
theorem ggX3_readOrders_X3_next : GoodIn wsX3_readOrders wsX3_next := goodIn_r _ [64, 1, 65, 66, 67, 68, 69, 104, 105, 106, 107, 108, 109] (by decide +kernel) (by decide +kernel)
set_option maxRecDepth 20000 in
theorem gX3_readOrders_X3_next : GoodIn wsX3_readOrders (wsV RX3 40 RX3 yX3_next wsX3_next) := goodIn_app (goodIn_of _ (by decide +kernel)) ggX3_readOrders_X3_next
set_option maxRecDepth 20000 in
theorem ggX3_readOrders_X3_readSign : GoodIn wsX3_readOrders wsX3_readSign := goodIn_r _ [85, 1, 61, 62, 63, 6, 64, 65, 66, 67, 68, 69, 104, 105, 106, 107, 108, 109] (by decide +kernel) (by decide +kernel)
set_option maxRecDepth 20000 in
theorem gX3_readOrders_X3_readSign : GoodIn wsX3_readOrders (wsV RX3 44 RX3 yX3_readSign wsX3_readSign) := goodIn_app (goodIn_of _ (by decide +kernel)) ggX3_readOrders_X3_readSign
theorem dX3_readOrders_0 : decode cX3_readOrders 0 = .ok (.aload_n 0, 1) := by decide +kernel
theorem dX3_readOrders_1 : decode cX3_readOrders 1 = .ok (.iconst 0, 1) := by decide +kernel
theorem dX3_readOrders_2 : decode cX3_readOrders 2 = .ok (.putfield 33, 3) := by decide +kernel
theorem dX3_readOrders_5 : decode cX3_readOrders 5 = .ok (.aload_n 0, 1) := by decide +kernel
theorem dX3_readOrders_6 : decode cX3_readOrders 6 = .ok (.iconst 0, 1) := by decide +kernel
theorem dX3_readOrders_7 : decode cX3_readOrders 7 = .ok (.putfield 30, 3) := by decide +kernel
theorem dX3_readOrders_10 : decode cX3_readOrders 10 = .ok (.iconst 0, 1) := by decide +kernel
theorem dX3_readOrders_11 : decode cX3_readOrders 11 = .ok (.istore_n 1, 1) := by decide +kernel
theorem dX3_readOrders_12 : decode cX3_readOrders 12 = .ok (.iload_n 1, 1) := by decide +kernel
theorem dX3_readOrders_13 : decode cX3_readOrders 13 = .ok (.bipush 12, 2) := by decide +kernel
theorem dX3_readOrders_15 : decode cX3_readOrders 15 = .ok (.if_icmp .ge 47, 3) := by decide +kernel
theorem dX3_readOrders_18 : decode cX3_readOrders 18 = .ok (.aload_n 0, 1) := by decide +kernel
theorem dX3_readOrders_19 : decode cX3_readOrders 19 = .ok (.iload_n 1, 1) := by decide +kernel
theorem dX3_readOrders_20 : decode cX3_readOrders 20 = .ok (.invokevirtual 36, 3) := by decide +kernel
theorem dX3_readOrders_23 : decode cX3_readOrders 23 = .ok (.ifCond .ne 5, 3) := by decide +kernel
theorem dX3_readOrders_26 : decode cX3_readOrders 26 = .ok (.iconst 0, 1) := by decide +kernel
theorem dX3_readOrders_27 : decode cX3_readOrders 27 = .ok (.ireturn, 1) := by decide +kernel
theorem dX3_readOrders_28 : decode cX3_readOrders 28 = .ok (.aload_n 0, 1) := by decide +kernel
theorem dX3_readOrders_29 : decode cX3_readOrders 29 = .ok (.iload_n 1, 1) := by decide +kernel
theorem dX3_readOrders_30 : decode cX3_readOrders 30 = .ok (.iconst 1, 1) := by decide +kernel
theorem dX3_readOrders_31 : decode cX3_readOrders 31 = .ok (.iadd, 1) := by decide +kernel
theorem dX3_readOrders_32 : decode cX3_readOrders 32 = .ok (.putfield 30, 3) := by decide +kernel
theorem dX3_readOrders_35 : decode cX3_readOrders 35 = .ok (.aload_n 0, 1) := by decide +kernel
theorem dX3_readOrders_36 : decode cX3_readOrders 36 = .ok (.invokevirtual 40, 3) := by decide +kernel
theorem dX3_readOrders_39 : decode cX3_readOrders 39 = .ok (.iconst (-1), 1) := by decide +kernel
theorem dX3_readOrders_40 : decode cX3_readOrders 40 = .ok (.if_icmp .ne 5, 3) := by decide +kernel
theorem dX3_readOrders_43 : decode cX3_readOrders 43 = .ok (.iconst 1, 1) := by decide +kernel
theorem dX3_readOrders_44 : decode cX3_readOrders 44 = .ok (.ireturn, 1) := by decide +kernel
theorem dX3_readOrders_45 : decode cX3_readOrders 45 = .ok (.aload_n 0, 1) := by decide +kernel
theorem dX3_readOrders_46 : decode cX3_readOrders 46 = .ok (.bipush 59, 2) := by decide +kernel
theorem dX3_readOrders_48 : decode cX3_readOrders 48 = .ok (.invokevirtual 44, 3) := by decide +kernel
theorem dX3_readOrders_51 : decode cX3_readOrders 51 = .ok (.ifCond .ne 5, 3) := by decide +kernel
theorem dX3_readOrders_54 : decode cX3_readOrders 54 = .ok (.iconst 0, 1) := by decide +kernel
theorem dX3_readOrders_55 : decode cX3_readOrders 55 = .ok (.ireturn, 1) := by decide +kernel
theorem dX3_readOrders_56 : decode cX3_readOrders 56 = .ok (.iinc 1 1, 3) := by decide +kernel
theorem dX3_readOrders_59 : decode cX3_readOrders 59 = .ok (.goto (-47), 3) := by decide +kernel
theorem dX3_readOrders_62 : decode cX3_readOrders 62 = .ok (.iconst 0, 1) := by decide +kernel
theorem dX3_readOrders_63 : decode cX3_readOrders 63 = .ok (.ireturn, 1) := by decide +kernel
set_option maxRecDepth 20000 in
theorem ggX3_next_X6_isWithin : GoodIn wsX3_next wsX6_isWithin := goodIn_r _ [6] (by decide +kernel) (by decide +kernel)
set_option maxRecDepth 20000 in
theorem gX3_next_X6_isWithin_n26 : GoodIn wsX3_next (wsX6_isWithin) := ggX3_next_X6_isWithin
theorem dX3_next_0 : decode cX3_next 0 = .ok (.aload_n 0, 1) := by decide +kernel
theorem dX3_next_1 : decode cX3_next 1 = .ok (.getfield 33, 3) := by decide +kernel
theorem dX3_next_4 : decode cX3_next 4 = .ok (.iconst 0, 1) := by decide +kernel
theorem dX3_next_5 : decode cX3_next 5 = .ok (.bipush 79, 2) := by decide +kernel
theorem dX3_next_7 : decode cX3_next 7 = .ok (.invokestatic 26, 3) := by decide +kernel
theorem dX3_next_10 : decode cX3_next 10 = .ok (.ifCond .eq 26, 3) := by decide +kernel
theorem dX3_next_13 : decode cX3_next 13 = .ok (.aload_n 0, 1) := by decide +kernel
theorem dX3_next_14 : decode cX3_next 14 = .ok (.getfield 33, 3) := by decide +kernel
theorem dX3_next_17 : decode cX3_next 17 = .ok (.aload_n 0, 1) := by decide +kernel
theorem dX3_next_18 : decode cX3_next 18 = .ok (.getfield 22, 3) := by decide +kernel
theorem dX3_next_21 : decode cX3_next 21 = .ok (.if_icmp .ge 15, 3) := by decide +kernel
theorem dX3_next_24 : decode cX3_next 24 = .ok (.aload_n 0, 1) := by decide +kernel
theorem dX3_next_25 : decode cX3_next 25 = .ok (.getfield 9, 3) := by decide +kernel
theorem dX3_next_28 : decode cX3_next 28 = .ok (.aload_n 0, 1) := by decide +kernel
theorem dX3_next_29 : decode cX3_next 29 = .ok (.getfield 33, 3) := by decide +kernel
theorem dX3_next_32 : decode cX3_next 32 = .ok (.caload, 1) := by decide +kernel
theorem dX3_next_33 : decode cX3_next 33 = .ok (.goto 4, 3) := by decide +kernel
theorem dX3_next_36 : decode cX3_next 36 = .ok (.iconst (-1), 1) := by decide +kernel
theorem dX3_next_37 : decode cX3_next 37 = .ok (.ireturn, 1) := by decide +kernel
set_option maxRecDepth 20000 in
theorem ggX3_readSign_X3_next : GoodIn wsX3_readSign wsX3_next := goodIn_r _ [6, 1, 7, 8, 9, 10, 11, 12, 13, 14, 15, 16, 17] (by decide +kernel) (by decide +kernel)
set_option maxRecDepth 20000 in
theorem gX3_readSign_X3_next : GoodIn wsX3_readSign (wsV RX3 40 RX3 yX3_next wsX3_next) := goodIn_app (goodIn_of _ (by decide +kernel)) ggX3_readSign_X3_next
theorem dX3_readSign_0 : decode cX3_readSign 0 = .ok (.aload_n 0, 1) := by decide +kernel
theorem dX3_readSign_1 : decode cX3_readSign 1 = .ok (.invokevirtual 40, 3) := by decide +kernel
theorem dX3_readSign_4 : decode cX3_readSign 4 = .ok (.iload_n 1, 1) := by decide +kernel
theorem dX3_readSign_5 : decode cX3_readSign 5 = .ok (.if_icmp .eq 5, 3) := by decide +kernel
theorem dX3_readSign_8 : decode cX3_readSign 8 = .ok (.iconst 0, 1) := by decide +kernel
theorem dX3_readSign_9 : decode cX3_readSign 9 = .ok (.ireturn, 1) := by decide +kernel
theorem dX3_readSign_10 : decode cX3_readSign 10 = .ok (.aload_n 0, 1) := by decide +kernel
theorem dX3_readSign_11 : decode cX3_readSign 11 = .ok (.dup, 1) := by decide +kernel
theorem dX3_readSign_12 : decode cX3_readSign 12 = .ok (.getfield 33, 3) := by decide +kernel
theorem dX3_readSign_15 : decode cX3_readSign 15 = .ok (.iconst 1, 1) := by decide +kernel
theorem dX3_readSign_16 : decode cX3_readSign 16 = .ok (.iadd, 1) := by decide +kernel
theorem dX3_readSign_17 : decode cX3_readSign 17 = .ok (.putfield 33, 3) := by decide +kernel
theorem dX3_readSign_20 : decode cX3_readSign 20 = .ok (.iconst 1, 1) := by decide +kernel
theorem dX3_readSign_21 : decode cX3_readSign 21 = .ok (.ireturn, 1) := by decide +kernel
set_option maxRecDepth 20000 in
theorem ggX3_readOrder_X3_nextKind : GoodIn wsX3_readOrder wsX3_nextKind := goodIn_r _ [6, 7, 8, 5, 9, 10, 11, 12, 13, 14, 15, 16, 17, 18, 19, 20, 21, 22, 23, 24, 25, 26, 27, 28, 29, 30, 31, 32, 33, 34, 35, 36, 37, 38, 39, 40, 41, 42, 43, 44, 45, 46, 47, 48, 49, 50, 51, 52, 53, 54, 55, 56, 57, 58, 59, 60, 61, 62, 63, 64, 99, 100, 101, 102, 103, 104] (by decide +kernel) (by decide +kernel)
set_option maxRecDepth 20000 in
theorem gX3_readOrder_X3_nextKind : GoodIn wsX3_readOrder (wsV RX3 48 RX3 yX3_nextKind wsX3_nextKind) := goodIn_app (goodIn_of _ (by decide +kernel)) ggX3_readOrder_X3_nextKind
set_option maxRecDepth 20000 in
theorem ggX3_readOrder_X3_wordOf : GoodIn wsX3_readOrder wsX3_wordOf := goodIn_r _ [9] (by decide +kernel) (by decide +kernel)
set_option maxRecDepth 20000 in
theorem gX3_readOrder_X3_wordOf : GoodIn wsX3_readOrder (va_wsS RX3 51 yX3_wordOf wsX3_wordOf) := goodIn_app (goodIn_of _ (by decide +kernel)) ggX3_readOrder_X3_wordOf
set_option maxRecDepth 20000 in
theorem ggX3_readOrder_X3_readWord : GoodIn wsX3_readOrder wsX3_readWord := goodIn_r _ [68, 69, 70, 71, 13, 72, 15, 73, 74, 75, 76, 24, 25, 16, 17, 18, 19, 20, 21, 22, 23, 26, 27, 28, 29, 30, 31, 32, 33, 34, 35, 36, 37, 38, 39, 40, 41, 42, 43, 44, 45, 46, 47, 48, 49, 50, 51, 52, 53, 54, 77, 78, 79, 5, 80, 59, 55, 56, 57, 58, 60, 61, 62, 63, 64, 99, 100, 101, 102, 103, 104] (by decide +kernel) (by decide +kernel)
set_option maxRecDepth 20000 in
theorem gX3_readOrder_X3_readWord : GoodIn wsX3_readOrder (wsV RX3 55 RX3 yX3_readWord wsX3_readWord) := goodIn_app (goodIn_of _ (by decide +kernel)) ggX3_readOrder_X3_readWord
set_option maxRecDepth 20000 in
theorem ggX3_readOrder_X3_highestOf : GoodIn wsX3_readOrder wsX3_highestOf := goodIn_r _ [83, 84, 85, 5, 86] (by decide +kernel) (by decide +kernel)
set_option maxRecDepth 20000 in
theorem gX3_readOrder_X3_highestOf : GoodIn wsX3_readOrder (va_wsS RX3 59 yX3_highestOf wsX3_highestOf) := goodIn_app (goodIn_of _ (by decide +kernel)) ggX3_readOrder_X3_highestOf
set_option maxRecDepth 20000 in
theorem ggX3_readOrder_X3_readSign : GoodIn wsX3_readOrder wsX3_readSign := goodIn_r _ [80, 59, 55, 56, 57, 5, 58, 60, 61, 62, 63, 64, 99, 100, 101, 102, 103, 104] (by decide +kernel) (by decide +kernel)
set_option maxRecDepth 20000 in
theorem gX3_readOrder_X3_readSign : GoodIn wsX3_readOrder (wsV RX3 44 RX3 yX3_readSign wsX3_readSign) := goodIn_app (goodIn_of _ (by decide +kernel)) ggX3_readOrder_X3_readSign
set_option maxRecDepth 20000 in
theorem ggX3_readOrder_X3_readNumber : GoodIn wsX3_readOrder wsX3_readNumber := goodIn_r _ [90, 59, 91, 92, 93, 94, 5, 95, 55, 56, 57, 58, 60, 61, 62, 63, 64, 96, 97, 98, 81, 82, 83, 84, 85, 86, 99, 100, 101, 102, 103, 104] (by decide +kernel) (by decide +kernel)
set_option maxRecDepth 20000 in
theorem gX3_readOrder_X3_readNumber : GoodIn wsX3_readOrder (wsV RX3 63 RX3 yX3_readNumber wsX3_readNumber) := goodIn_app (goodIn_of _ (by decide +kernel)) ggX3_readOrder_X3_readNumber
theorem dX3_readOrder_0 : decode cX3_readOrder 0 = .ok (.aload_n 0, 1) := by decide +kernel
theorem dX3_readOrder_1 : decode cX3_readOrder 1 = .ok (.invokevirtual 48, 3) := by decide +kernel
theorem dX3_readOrder_4 : decode cX3_readOrder 4 = .ok (.istore_n 2, 1) := by decide +kernel
theorem dX3_readOrder_5 : decode cX3_readOrder 5 = .ok (.iload_n 2, 1) := by decide +kernel
theorem dX3_readOrder_6 : decode cX3_readOrder 6 = .ok (.bipush (-5), 2) := by decide +kernel
theorem dX3_readOrder_8 : decode cX3_readOrder 8 = .ok (.if_icmp .eq 14, 3) := by decide +kernel
theorem dX3_readOrder_11 : decode cX3_readOrder 11 = .ok (.aload_n 0, 1) := by decide +kernel
theorem dX3_readOrder_12 : decode cX3_readOrder 12 = .ok (.iload_n 2, 1) := by decide +kernel
theorem dX3_readOrder_13 : decode cX3_readOrder 13 = .ok (.invokestatic 51, 3) := by decide +kernel
theorem dX3_readOrder_16 : decode cX3_readOrder 16 = .ok (.invokevirtual 55, 3) := by decide +kernel
theorem dX3_readOrder_19 : decode cX3_readOrder 19 = .ok (.ifCond .ne 5, 3) := by decide +kernel
theorem dX3_readOrder_22 : decode cX3_readOrder 22 = .ok (.iconst 0, 1) := by decide +kernel
theorem dX3_readOrder_23 : decode cX3_readOrder 23 = .ok (.ireturn, 1) := by decide +kernel
theorem dX3_readOrder_24 : decode cX3_readOrder 24 = .ok (.aload_n 0, 1) := by decide +kernel
theorem dX3_readOrder_25 : decode cX3_readOrder 25 = .ok (.getfield 15, 3) := by decide +kernel
theorem dX3_readOrder_28 : decode cX3_readOrder 28 = .ok (.iload_n 1, 1) := by decide +kernel
theorem dX3_readOrder_29 : decode cX3_readOrder 29 = .ok (.iload_n 2, 1) := by decide +kernel
theorem dX3_readOrder_30 : decode cX3_readOrder 30 = .ok (.iastore, 1) := by decide +kernel
theorem dX3_readOrder_31 : decode cX3_readOrder 31 = .ok (.iconst 0, 1) := by decide +kernel
theorem dX3_readOrder_32 : decode cX3_readOrder 32 = .ok (.istore_n 3, 1) := by decide +kernel
theorem dX3_readOrder_33 : decode cX3_readOrder 33 = .ok (.iload_n 3, 1) := by decide +kernel
theorem dX3_readOrder_34 : decode cX3_readOrder 34 = .ok (.iconst 3, 1) := by decide +kernel
theorem dX3_readOrder_35 : decode cX3_readOrder 35 = .ok (.if_icmp .ge 44, 3) := by decide +kernel
theorem dX3_readOrder_38 : decode cX3_readOrder 38 = .ok (.iload_n 2, 1) := by decide +kernel
theorem dX3_readOrder_39 : decode cX3_readOrder 39 = .ok (.iload_n 3, 1) := by decide +kernel
theorem dX3_readOrder_40 : decode cX3_readOrder 40 = .ok (.invokestatic 59, 3) := by decide +kernel
theorem dX3_readOrder_43 : decode cX3_readOrder 43 = .ok (.bipush (-5), 2) := by decide +kernel
theorem dX3_readOrder_45 : decode cX3_readOrder 45 = .ok (.if_icmp .eq 34, 3) := by decide +kernel
theorem dX3_readOrder_48 : decode cX3_readOrder 48 = .ok (.aload_n 0, 1) := by decide +kernel
theorem dX3_readOrder_49 : decode cX3_readOrder 49 = .ok (.bipush 32, 2) := by decide +kernel
theorem dX3_readOrder_51 : decode cX3_readOrder 51 = .ok (.invokevirtual 44, 3) := by decide +kernel
theorem dX3_readOrder_54 : decode cX3_readOrder 54 = .ok (.ifCond .eq 17, 3) := by decide +kernel
theorem dX3_readOrder_57 : decode cX3_readOrder 57 = .ok (.aload_n 0, 1) := by decide +kernel
theorem dX3_readOrder_58 : decode cX3_readOrder 58 = .ok (.iload_n 1, 1) := by decide +kernel
theorem dX3_readOrder_59 : decode cX3_readOrder 59 = .ok (.iconst 3, 1) := by decide +kernel
theorem dX3_readOrder_60 : decode cX3_readOrder 60 = .ok (.imul, 1) := by decide +kernel
theorem dX3_readOrder_61 : decode cX3_readOrder 61 = .ok (.iload_n 3, 1) := by decide +kernel
theorem dX3_readOrder_62 : decode cX3_readOrder 62 = .ok (.iadd, 1) := by decide +kernel
theorem dX3_readOrder_63 : decode cX3_readOrder 63 = .ok (.iload_n 2, 1) := by decide +kernel
theorem dX3_readOrder_64 : decode cX3_readOrder 64 = .ok (.iload_n 3, 1) := by decide +kernel
theorem dX3_readOrder_65 : decode cX3_readOrder 65 = .ok (.invokevirtual 63, 3) := by decide +kernel
theorem dX3_readOrder_68 : decode cX3_readOrder 68 = .ok (.ifCond .ne 5, 3) := by decide +kernel
theorem dX3_readOrder_71 : decode cX3_readOrder 71 = .ok (.iconst 0, 1) := by decide +kernel
theorem dX3_readOrder_72 : decode cX3_readOrder 72 = .ok (.ireturn, 1) := by decide +kernel
theorem dX3_readOrder_73 : decode cX3_readOrder 73 = .ok (.iinc 3 1, 3) := by decide +kernel
theorem dX3_readOrder_76 : decode cX3_readOrder 76 = .ok (.goto (-43), 3) := by decide +kernel
theorem dX3_readOrder_79 : decode cX3_readOrder 79 = .ok (.iconst 1, 1) := by decide +kernel
theorem dX3_readOrder_80 : decode cX3_readOrder 80 = .ok (.ireturn, 1) := by decide +kernel
set_option maxRecDepth 20000 in
theorem ggX3_nextKind_X3_wordOf : GoodIn wsX3_nextKind wsX3_wordOf := goodIn_r _ [4] (by decide +kernel) (by decide +kernel)
set_option maxRecDepth 20000 in
theorem gX3_nextKind_X3_wordOf : GoodIn wsX3_nextKind (va_wsS RX3 51 yX3_wordOf wsX3_wordOf) := goodIn_app (goodIn_of _ (by decide +kernel)) ggX3_nextKind_X3_wordOf
set_option maxRecDepth 20000 in
theorem ggX3_nextKind_J0_isEmpty_aae02 : GoodIn wsX3_nextKind wsJ0_isEmpty_aae02 := goodIn_r _ [9, 10] (by decide +kernel) (by decide +kernel)
set_option maxRecDepth 20000 in
theorem gX3_nextKind_J0_isEmpty_aae02 : GoodIn wsX3_nextKind (wsV RX3 66 RJ0 yJ0_isEmpty_aae02 wsJ0_isEmpty_aae02) := goodIn_app (goodIn_of _ (by decide +kernel)) ggX3_nextKind_J0_isEmpty_aae02
set_option maxRecDepth 20000 in
theorem ggX3_nextKind_J0_charAt_5068e : GoodIn wsX3_nextKind wsJ0_charAt_5068e := goodIn_r _ [14, 10, 15, 16, 17, 8, 18, 19, 20, 21, 22, 23, 24, 25, 26, 27, 28, 29, 30, 31, 32, 33, 34, 35, 36, 37, 38, 39, 40, 41, 42, 43, 44, 45, 46, 47, 48, 49] (by decide +kernel) (by decide +kernel)
set_option maxRecDepth 20000 in
theorem gX3_nextKind_J0_charAt_5068e : GoodIn wsX3_nextKind (wsV RX3 72 RJ0 yJ0_charAt_5068e wsJ0_charAt_5068e) := goodIn_app (goodIn_of _ (by decide +kernel)) ggX3_nextKind_J0_charAt_5068e
set_option maxRecDepth 20000 in
theorem ggX3_nextKind_X3_next : GoodIn wsX3_nextKind wsX3_next := goodIn_r _ [53, 54, 55, 56, 57, 58, 59, 60, 61, 62, 63, 64, 65] (by decide +kernel) (by decide +kernel)
set_option maxRecDepth 20000 in
theorem gX3_nextKind_X3_next : GoodIn wsX3_nextKind (wsV RX3 40 RX3 yX3_next wsX3_next) := goodIn_app (goodIn_of _ (by decide +kernel)) ggX3_nextKind_X3_next
theorem dX3_nextKind_0 : decode cX3_nextKind 0 = .ok (.iconst 0, 1) := by decide +kernel
theorem dX3_nextKind_1 : decode cX3_nextKind 1 = .ok (.istore_n 1, 1) := by decide +kernel
theorem dX3_nextKind_2 : decode cX3_nextKind 2 = .ok (.iload_n 1, 1) := by decide +kernel
theorem dX3_nextKind_3 : decode cX3_nextKind 3 = .ok (.iconst 5, 1) := by decide +kernel
theorem dX3_nextKind_4 : decode cX3_nextKind 4 = .ok (.if_icmp .ge 35, 3) := by decide +kernel
theorem dX3_nextKind_7 : decode cX3_nextKind 7 = .ok (.iload_n 1, 1) := by decide +kernel
theorem dX3_nextKind_8 : decode cX3_nextKind 8 = .ok (.invokestatic 51, 3) := by decide +kernel
theorem dX3_nextKind_11 : decode cX3_nextKind 11 = .ok (.astore_n 2, 1) := by decide +kernel
theorem dX3_nextKind_12 : decode cX3_nextKind 12 = .ok (.aload_n 2, 1) := by decide +kernel
theorem dX3_nextKind_13 : decode cX3_nextKind 13 = .ok (.invokevirtual 66, 3) := by decide +kernel
theorem dX3_nextKind_16 : decode cX3_nextKind 16 = .ok (.ifCond .ne 17, 3) := by decide +kernel
theorem dX3_nextKind_19 : decode cX3_nextKind 19 = .ok (.aload_n 2, 1) := by decide +kernel
theorem dX3_nextKind_20 : decode cX3_nextKind 20 = .ok (.iconst 0, 1) := by decide +kernel
theorem dX3_nextKind_21 : decode cX3_nextKind 21 = .ok (.invokevirtual 72, 3) := by decide +kernel
theorem dX3_nextKind_24 : decode cX3_nextKind 24 = .ok (.aload_n 0, 1) := by decide +kernel
theorem dX3_nextKind_25 : decode cX3_nextKind 25 = .ok (.invokevirtual 40, 3) := by decide +kernel
theorem dX3_nextKind_28 : decode cX3_nextKind 28 = .ok (.if_icmp .ne 5, 3) := by decide +kernel
theorem dX3_nextKind_31 : decode cX3_nextKind 31 = .ok (.iload_n 1, 1) := by decide +kernel
theorem dX3_nextKind_32 : decode cX3_nextKind 32 = .ok (.ireturn, 1) := by decide +kernel
theorem dX3_nextKind_33 : decode cX3_nextKind 33 = .ok (.iinc 1 1, 3) := by decide +kernel
theorem dX3_nextKind_36 : decode cX3_nextKind 36 = .ok (.goto (-34), 3) := by decide +kernel
theorem dX3_nextKind_39 : decode cX3_nextKind 39 = .ok (.bipush (-5), 2) := by decide +kernel
theorem dX3_nextKind_41 : decode cX3_nextKind 41 = .ok (.ireturn, 1) := by decide +kernel
set_option maxRecDepth 20000 in
theorem ggX3_readWord_J0_length_8abf5 : GoodIn wsX3_readWord wsJ0_length_8abf5 := goodIn_r _ [5, 6, 7, 8, 9, 4, 10, 11, 12] (by decide +kernel) (by decide +kernel)
set_option maxRecDepth 20000 in
theorem gX3_readWord_J0_length_8abf5 : GoodIn wsX3_readWord (wsV RX3 76 RJ0 yJ0_length_8abf5 wsJ0_length_8abf5) := goodIn_app (goodIn_of _ (by decide +kernel)) ggX3_readWord_J0_length_8abf5
set_option maxRecDepth 20000 in
theorem ggX3_readWord_J0_charAt_5068e : GoodIn wsX3_readWord wsJ0_charAt_5068e := goodIn_r _ [16, 6, 17, 18, 19, 4, 20, 11, 12, 21, 22, 23, 24, 25, 26, 27, 28, 29, 30, 31, 32, 33, 34, 35, 36, 37, 38, 39, 40, 41, 42, 43, 44, 45, 46, 47, 48, 49] (by decide +kernel) (by decide +kernel)
set_option maxRecDepth 20000 in
theorem gX3_readWord_J0_charAt_5068e : GoodIn wsX3_readWord (wsV RX3 72 RJ0 yJ0_charAt_5068e wsJ0_charAt_5068e) := goodIn_app (goodIn_of _ (by decide +kernel)) ggX3_readWord_J0_charAt_5068e
set_option maxRecDepth 20000 in
theorem ggX3_readWord_X3_readSign : GoodIn wsX3_readWord wsX3_readSign := goodIn_r _ [54, 55, 56, 57, 58, 53, 59, 60, 61, 62, 63, 64, 65, 66, 67, 68, 69, 70] (by decide +kernel) (by decide +kernel)
set_option maxRecDepth 20000 in
theorem gX3_readWord_X3_readSign : GoodIn wsX3_readWord (wsV RX3 44 RX3 yX3_readSign wsX3_readSign) := goodIn_app (goodIn_of _ (by decide +kernel)) ggX3_readWord_X3_readSign
theorem dX3_readWord_0 : decode cX3_readWord 0 = .ok (.iconst 0, 1) := by decide +kernel
theorem dX3_readWord_1 : decode cX3_readWord 1 = .ok (.istore_n 2, 1) := by decide +kernel
theorem dX3_readWord_2 : decode cX3_readWord 2 = .ok (.iload_n 2, 1) := by decide +kernel
theorem dX3_readWord_3 : decode cX3_readWord 3 = .ok (.aload_n 1, 1) := by decide +kernel
theorem dX3_readWord_4 : decode cX3_readWord 4 = .ok (.invokevirtual 76, 3) := by decide +kernel
theorem dX3_readWord_7 : decode cX3_readWord 7 = .ok (.if_icmp .ge 23, 3) := by decide +kernel
theorem dX3_readWord_10 : decode cX3_readWord 10 = .ok (.aload_n 0, 1) := by decide +kernel
theorem dX3_readWord_11 : decode cX3_readWord 11 = .ok (.aload_n 1, 1) := by decide +kernel
theorem dX3_readWord_12 : decode cX3_readWord 12 = .ok (.iload_n 2, 1) := by decide +kernel
theorem dX3_readWord_13 : decode cX3_readWord 13 = .ok (.invokevirtual 72, 3) := by decide +kernel
theorem dX3_readWord_16 : decode cX3_readWord 16 = .ok (.invokevirtual 44, 3) := by decide +kernel
theorem dX3_readWord_19 : decode cX3_readWord 19 = .ok (.ifCond .ne 5, 3) := by decide +kernel
theorem dX3_readWord_22 : decode cX3_readWord 22 = .ok (.iconst 0, 1) := by decide +kernel
theorem dX3_readWord_23 : decode cX3_readWord 23 = .ok (.ireturn, 1) := by decide +kernel
theorem dX3_readWord_24 : decode cX3_readWord 24 = .ok (.iinc 2 1, 3) := by decide +kernel
theorem dX3_readWord_27 : decode cX3_readWord 27 = .ok (.goto (-25), 3) := by decide +kernel
theorem dX3_readWord_30 : decode cX3_readWord 30 = .ok (.iconst 1, 1) := by decide +kernel
theorem dX3_readWord_31 : decode cX3_readWord 31 = .ok (.ireturn, 1) := by decide +kernel
set_option maxRecDepth 20000 in
theorem ggX3_readNumber_X3_nextDigit : GoodIn wsX3_readNumber wsX3_nextDigit := goodIn_r _ [7, 8, 9, 10, 6, 11, 1, 12, 13, 14, 15, 16, 26, 27, 28, 29, 30, 31] (by decide +kernel) (by decide +kernel)
set_option maxRecDepth 20000 in
theorem gX3_readNumber_X3_nextDigit : GoodIn wsX3_readNumber (wsV RX3 78 RX3 yX3_nextDigit wsX3_nextDigit) := goodIn_app (goodIn_of _ (by decide +kernel)) ggX3_readNumber_X3_nextDigit
set_option maxRecDepth 20000 in
theorem ggX3_readNumber_X3_lowestOf : GoodIn wsX3_readNumber wsX3_lowestOf := goodIn_r _ [19] (by decide +kernel) (by decide +kernel)
set_option maxRecDepth 20000 in
theorem gX3_readNumber_X3_lowestOf : GoodIn wsX3_readNumber (va_wsS RX3 81 yX3_lowestOf wsX3_lowestOf) := goodIn_app (goodIn_of _ (by decide +kernel)) ggX3_readNumber_X3_lowestOf
set_option maxRecDepth 20000 in
theorem ggX3_readNumber_X3_highestOf : GoodIn wsX3_readNumber wsX3_highestOf := goodIn_r _ [22, 23, 24, 6, 25] (by decide +kernel) (by decide +kernel)
set_option maxRecDepth 20000 in
theorem gX3_readNumber_X3_highestOf : GoodIn wsX3_readNumber (va_wsS RX3 59 yX3_highestOf wsX3_highestOf) := goodIn_app (goodIn_of _ (by decide +kernel)) ggX3_readNumber_X3_highestOf
set_option maxRecDepth 20000 in
theorem ggX3_readNumber_X6_isWithin : GoodIn wsX3_readNumber wsX6_isWithin := goodIn_r _ [16] (by decide +kernel) (by decide +kernel)
set_option maxRecDepth 20000 in
theorem gX3_readNumber_X6_isWithin_n26 : GoodIn wsX3_readNumber (wsX6_isWithin) := ggX3_readNumber_X6_isWithin
theorem dX3_readNumber_0 : decode cX3_readNumber 0 = .ok (.aload_n 0, 1) := by decide +kernel
theorem dX3_readNumber_1 : decode cX3_readNumber 1 = .ok (.invokevirtual 78, 3) := by decide +kernel
theorem dX3_readNumber_4 : decode cX3_readNumber 4 = .ok (.istore 4, 2) := by decide +kernel
theorem dX3_readNumber_6 : decode cX3_readNumber 6 = .ok (.iload 4, 2) := by decide +kernel
theorem dX3_readNumber_8 : decode cX3_readNumber 8 = .ok (.bipush (-5), 2) := by decide +kernel
theorem dX3_readNumber_10 : decode cX3_readNumber 10 = .ok (.if_icmp .eq 21, 3) := by decide +kernel
theorem dX3_readNumber_13 : decode cX3_readNumber 13 = .ok (.iload 4, 2) := by decide +kernel
theorem dX3_readNumber_15 : decode cX3_readNumber 15 = .ok (.iload_n 2, 1) := by decide +kernel
theorem dX3_readNumber_16 : decode cX3_readNumber 16 = .ok (.iload_n 3, 1) := by decide +kernel
theorem dX3_readNumber_17 : decode cX3_readNumber 17 = .ok (.invokestatic 81, 3) := by decide +kernel
theorem dX3_readNumber_20 : decode cX3_readNumber 20 = .ok (.iload_n 2, 1) := by decide +kernel
theorem dX3_readNumber_21 : decode cX3_readNumber 21 = .ok (.iload_n 3, 1) := by decide +kernel
theorem dX3_readNumber_22 : decode cX3_readNumber 22 = .ok (.invokestatic 59, 3) := by decide +kernel
theorem dX3_readNumber_25 : decode cX3_readNumber 25 = .ok (.invokestatic 26, 3) := by decide +kernel
theorem dX3_readNumber_28 : decode cX3_readNumber 28 = .ok (.ifCond .ne 5, 3) := by decide +kernel
theorem dX3_readNumber_31 : decode cX3_readNumber 31 = .ok (.iconst 0, 1) := by decide +kernel
theorem dX3_readNumber_32 : decode cX3_readNumber 32 = .ok (.ireturn, 1) := by decide +kernel
theorem dX3_readNumber_33 : decode cX3_readNumber 33 = .ok (.aload_n 0, 1) := by decide +kernel
theorem dX3_readNumber_34 : decode cX3_readNumber 34 = .ok (.dup, 1) := by decide +kernel
theorem dX3_readNumber_35 : decode cX3_readNumber 35 = .ok (.getfield 33, 3) := by decide +kernel
theorem dX3_readNumber_38 : decode cX3_readNumber 38 = .ok (.iconst 1, 1) := by decide +kernel
theorem dX3_readNumber_39 : decode cX3_readNumber 39 = .ok (.iadd, 1) := by decide +kernel
theorem dX3_readNumber_40 : decode cX3_readNumber 40 = .ok (.putfield 33, 3) := by decide +kernel
theorem dX3_readNumber_43 : decode cX3_readNumber 43 = .ok (.iconst 0, 1) := by decide +kernel
theorem dX3_readNumber_44 : decode cX3_readNumber 44 = .ok (.istore 5, 2) := by decide +kernel
theorem dX3_readNumber_46 : decode cX3_readNumber 46 = .ok (.iload 5, 2) := by decide +kernel
theorem dX3_readNumber_48 : decode cX3_readNumber 48 = .ok (.bipush 80, 2) := by decide +kernel
theorem dX3_readNumber_50 : decode cX3_readNumber 50 = .ok (.if_icmp .ge 61, 3) := by decide +kernel
theorem dX3_readNumber_53 : decode cX3_readNumber 53 = .ok (.aload_n 0, 1) := by decide +kernel
theorem dX3_readNumber_54 : decode cX3_readNumber 54 = .ok (.invokevirtual 78, 3) := by decide +kernel
theorem dX3_readNumber_57 : decode cX3_readNumber 57 = .ok (.bipush (-5), 2) := by decide +kernel
theorem dX3_readNumber_59 : decode cX3_readNumber 59 = .ok (.if_icmp .eq 52, 3) := by decide +kernel
theorem dX3_readNumber_62 : decode cX3_readNumber 62 = .ok (.iload 4, 2) := by decide +kernel
theorem dX3_readNumber_64 : decode cX3_readNumber 64 = .ok (.bipush 10, 2) := by decide +kernel
theorem dX3_readNumber_66 : decode cX3_readNumber 66 = .ok (.imul, 1) := by decide +kernel
theorem dX3_readNumber_67 : decode cX3_readNumber 67 = .ok (.aload_n 0, 1) := by decide +kernel
theorem dX3_readNumber_68 : decode cX3_readNumber 68 = .ok (.invokevirtual 78, 3) := by decide +kernel
theorem dX3_readNumber_71 : decode cX3_readNumber 71 = .ok (.iadd, 1) := by decide +kernel
theorem dX3_readNumber_72 : decode cX3_readNumber 72 = .ok (.istore 6, 2) := by decide +kernel
theorem dX3_readNumber_74 : decode cX3_readNumber 74 = .ok (.iload 4, 2) := by decide +kernel
theorem dX3_readNumber_76 : decode cX3_readNumber 76 = .ok (.ifCond .eq 13, 3) := by decide +kernel
theorem dX3_readNumber_79 : decode cX3_readNumber 79 = .ok (.iload 6, 2) := by decide +kernel
theorem dX3_readNumber_81 : decode cX3_readNumber 81 = .ok (.iload_n 2, 1) := by decide +kernel
theorem dX3_readNumber_82 : decode cX3_readNumber 82 = .ok (.iload_n 3, 1) := by decide +kernel
theorem dX3_readNumber_83 : decode cX3_readNumber 83 = .ok (.invokestatic 59, 3) := by decide +kernel
theorem dX3_readNumber_86 : decode cX3_readNumber 86 = .ok (.if_icmp .le 5, 3) := by decide +kernel
theorem dX3_readNumber_89 : decode cX3_readNumber 89 = .ok (.iconst 0, 1) := by decide +kernel
theorem dX3_readNumber_90 : decode cX3_readNumber 90 = .ok (.ireturn, 1) := by decide +kernel
theorem dX3_readNumber_91 : decode cX3_readNumber 91 = .ok (.iload 6, 2) := by decide +kernel
theorem dX3_readNumber_93 : decode cX3_readNumber 93 = .ok (.istore 4, 2) := by decide +kernel
theorem dX3_readNumber_95 : decode cX3_readNumber 95 = .ok (.aload_n 0, 1) := by decide +kernel
theorem dX3_readNumber_96 : decode cX3_readNumber 96 = .ok (.dup, 1) := by decide +kernel
theorem dX3_readNumber_97 : decode cX3_readNumber 97 = .ok (.getfield 33, 3) := by decide +kernel
theorem dX3_readNumber_100 : decode cX3_readNumber 100 = .ok (.iconst 1, 1) := by decide +kernel
theorem dX3_readNumber_101 : decode cX3_readNumber 101 = .ok (.iadd, 1) := by decide +kernel
theorem dX3_readNumber_102 : decode cX3_readNumber 102 = .ok (.putfield 33, 3) := by decide +kernel
theorem dX3_readNumber_105 : decode cX3_readNumber 105 = .ok (.iinc 5 1, 3) := by decide +kernel
theorem dX3_readNumber_108 : decode cX3_readNumber 108 = .ok (.goto (-62), 3) := by decide +kernel
theorem dX3_readNumber_111 : decode cX3_readNumber 111 = .ok (.aload_n 0, 1) := by decide +kernel
theorem dX3_readNumber_112 : decode cX3_readNumber 112 = .ok (.getfield 19, 3) := by decide +kernel
theorem dX3_readNumber_115 : decode cX3_readNumber 115 = .ok (.iload_n 1, 1) := by decide +kernel
theorem dX3_readNumber_116 : decode cX3_readNumber 116 = .ok (.iload 4, 2) := by decide +kernel
theorem dX3_readNumber_118 : decode cX3_readNumber 118 = .ok (.iastore, 1) := by decide +kernel
theorem dX3_readNumber_119 : decode cX3_readNumber 119 = .ok (.iconst 1, 1) := by decide +kernel
theorem dX3_readNumber_120 : decode cX3_readNumber 120 = .ok (.ireturn, 1) := by decide +kernel
set_option maxRecDepth 20000 in
theorem ggX3_nextDigit_X3_next : GoodIn wsX3_nextDigit wsX3_next := goodIn_r _ [5, 6, 7, 8, 9, 10, 11, 12, 13, 14, 15, 16, 17] (by decide +kernel) (by decide +kernel)
set_option maxRecDepth 20000 in
theorem gX3_nextDigit_X3_next : GoodIn wsX3_nextDigit (wsV RX3 40 RX3 yX3_next wsX3_next) := goodIn_app (goodIn_of _ (by decide +kernel)) ggX3_nextDigit_X3_next
set_option maxRecDepth 20000 in
theorem ggX3_nextDigit_X6_isWithin : GoodIn wsX3_nextDigit wsX6_isWithin := goodIn_r _ [11] (by decide +kernel) (by decide +kernel)
set_option maxRecDepth 20000 in
theorem gX3_nextDigit_X6_isWithin_n26 : GoodIn wsX3_nextDigit (wsX6_isWithin) := ggX3_nextDigit_X6_isWithin
theorem dX3_nextDigit_0 : decode cX3_nextDigit 0 = .ok (.aload_n 0, 1) := by decide +kernel
theorem dX3_nextDigit_1 : decode cX3_nextDigit 1 = .ok (.invokevirtual 40, 3) := by decide +kernel
theorem dX3_nextDigit_4 : decode cX3_nextDigit 4 = .ok (.istore_n 1, 1) := by decide +kernel
theorem dX3_nextDigit_5 : decode cX3_nextDigit 5 = .ok (.iload_n 1, 1) := by decide +kernel
theorem dX3_nextDigit_6 : decode cX3_nextDigit 6 = .ok (.bipush 48, 2) := by decide +kernel
theorem dX3_nextDigit_8 : decode cX3_nextDigit 8 = .ok (.bipush 57, 2) := by decide +kernel
theorem dX3_nextDigit_10 : decode cX3_nextDigit 10 = .ok (.invokestatic 26, 3) := by decide +kernel
theorem dX3_nextDigit_13 : decode cX3_nextDigit 13 = .ok (.ifCond .eq 10, 3) := by decide +kernel
theorem dX3_nextDigit_16 : decode cX3_nextDigit 16 = .ok (.iload_n 1, 1) := by decide +kernel
theorem dX3_nextDigit_17 : decode cX3_nextDigit 17 = .ok (.bipush 48, 2) := by decide +kernel
theorem dX3_nextDigit_19 : decode cX3_nextDigit 19 = .ok (.isub, 1) := by decide +kernel
theorem dX3_nextDigit_20 : decode cX3_nextDigit 20 = .ok (.goto 5, 3) := by decide +kernel
theorem dX3_nextDigit_23 : decode cX3_nextDigit 23 = .ok (.bipush (-5), 2) := by decide +kernel
theorem dX3_nextDigit_25 : decode cX3_nextDigit 25 = .ok (.ireturn, 1) := by decide +kernel
theorem dX3_wordOf_0 : decode cX3_wordOf 0 = .ok (.iload_n 0, 1) := by decide +kernel
theorem dX3_wordOf_1 : decode cX3_wordOf 1 = .ok (.tableswitch 43 0 3 #[31, 34, 37, 40], 31) := by decide +kernel
theorem dX3_wordOf_32 : decode cX3_wordOf 32 = .ok (.ldc 84, 2) := by decide +kernel
theorem dX3_wordOf_34 : decode cX3_wordOf 34 = .ok (.areturn, 1) := by decide +kernel
theorem dX3_wordOf_35 : decode cX3_wordOf 35 = .ok (.ldc 86, 2) := by decide +kernel
theorem dX3_wordOf_37 : decode cX3_wordOf 37 = .ok (.areturn, 1) := by decide +kernel
theorem dX3_wordOf_38 : decode cX3_wordOf 38 = .ok (.ldc 88, 2) := by decide +kernel
theorem dX3_wordOf_40 : decode cX3_wordOf 40 = .ok (.areturn, 1) := by decide +kernel
theorem dX3_wordOf_41 : decode cX3_wordOf 41 = .ok (.ldc 90, 2) := by decide +kernel
theorem dX3_wordOf_43 : decode cX3_wordOf 43 = .ok (.areturn, 1) := by decide +kernel
theorem dX3_wordOf_44 : decode cX3_wordOf 44 = .ok (.ldc 92, 2) := by decide +kernel
theorem dX3_wordOf_46 : decode cX3_wordOf 46 = .ok (.areturn, 1) := by decide +kernel
theorem dX3_lowestOf_0 : decode cX3_lowestOf 0 = .ok (.iload_n 0, 1) := by decide +kernel
theorem dX3_lowestOf_1 : decode cX3_lowestOf 1 = .ok (.iconst 3, 1) := by decide +kernel
theorem dX3_lowestOf_2 : decode cX3_lowestOf 2 = .ok (.if_icmp .ne 12, 3) := by decide +kernel
theorem dX3_lowestOf_5 : decode cX3_lowestOf 5 = .ok (.iload_n 1, 1) := by decide +kernel
theorem dX3_lowestOf_6 : decode cX3_lowestOf 6 = .ok (.iconst 1, 1) := by decide +kernel
theorem dX3_lowestOf_7 : decode cX3_lowestOf 7 = .ok (.if_icmp .ne 7, 3) := by decide +kernel
theorem dX3_lowestOf_10 : decode cX3_lowestOf 10 = .ok (.iconst 1, 1) := by decide +kernel
theorem dX3_lowestOf_11 : decode cX3_lowestOf 11 = .ok (.goto 4, 3) := by decide +kernel
theorem dX3_lowestOf_14 : decode cX3_lowestOf 14 = .ok (.iconst 0, 1) := by decide +kernel
theorem dX3_lowestOf_15 : decode cX3_lowestOf 15 = .ok (.istore_n 2, 1) := by decide +kernel
theorem dX3_lowestOf_16 : decode cX3_lowestOf 16 = .ok (.iload_n 2, 1) := by decide +kernel
theorem dX3_lowestOf_17 : decode cX3_lowestOf 17 = .ok (.ifCond .ne 8, 3) := by decide +kernel
theorem dX3_lowestOf_20 : decode cX3_lowestOf 20 = .ok (.iload_n 0, 1) := by decide +kernel
theorem dX3_lowestOf_21 : decode cX3_lowestOf 21 = .ok (.iconst 4, 1) := by decide +kernel
theorem dX3_lowestOf_22 : decode cX3_lowestOf 22 = .ok (.if_icmp .ne 7, 3) := by decide +kernel
theorem dX3_lowestOf_25 : decode cX3_lowestOf 25 = .ok (.iconst 1, 1) := by decide +kernel
theorem dX3_lowestOf_26 : decode cX3_lowestOf 26 = .ok (.goto 4, 3) := by decide +kernel
theorem dX3_lowestOf_29 : decode cX3_lowestOf 29 = .ok (.iconst 0, 1) := by decide +kernel
theorem dX3_lowestOf_30 : decode cX3_lowestOf 30 = .ok (.ireturn, 1) := by decide +kernel
set_option maxRecDepth 20000 in
theorem ggX3_highestOf_X3_pick : GoodIn wsX3_highestOf wsX3_pick := goodIn_r _ [4] (by decide +kernel) (by decide +kernel)
set_option maxRecDepth 20000 in
theorem gX3_highestOf_X3_pick : GoodIn wsX3_highestOf (va_wsS RX3 94 yX3_pick wsX3_pick) := goodIn_app (goodIn_of _ (by decide +kernel)) ggX3_highestOf_X3_pick
theorem dX3_highestOf_0 : decode cX3_highestOf 0 = .ok (.iload_n 0, 1) := by decide +kernel
theorem dX3_highestOf_1 : decode cX3_highestOf 1 = .ok (.tableswitch 66 0 3 #[31, 31, 42, 55], 31) := by decide +kernel
theorem dX3_highestOf_32 : decode cX3_highestOf 32 = .ok (.iload_n 1, 1) := by decide +kernel
theorem dX3_highestOf_33 : decode cX3_highestOf 33 = .ok (.bipush 9, 2) := by decide +kernel
theorem dX3_highestOf_35 : decode cX3_highestOf 35 = .ok (.bipush 15, 2) := by decide +kernel
theorem dX3_highestOf_37 : decode cX3_highestOf 37 = .ok (.bipush (-5), 2) := by decide +kernel
theorem dX3_highestOf_39 : decode cX3_highestOf 39 = .ok (.invokestatic 94, 3) := by decide +kernel
theorem dX3_highestOf_42 : decode cX3_highestOf 42 = .ok (.ireturn, 1) := by decide +kernel
theorem dX3_highestOf_43 : decode cX3_highestOf 43 = .ok (.iload_n 1, 1) := by decide +kernel
theorem dX3_highestOf_44 : decode cX3_highestOf 44 = .ok (.bipush 15, 2) := by decide +kernel
theorem dX3_highestOf_46 : decode cX3_highestOf 46 = .ok (.sipush 399, 3) := by decide +kernel
theorem dX3_highestOf_49 : decode cX3_highestOf 49 = .ok (.sipush 399, 3) := by decide +kernel
theorem dX3_highestOf_52 : decode cX3_highestOf 52 = .ok (.invokestatic 94, 3) := by decide +kernel
theorem dX3_highestOf_55 : decode cX3_highestOf 55 = .ok (.ireturn, 1) := by decide +kernel
theorem dX3_highestOf_56 : decode cX3_highestOf 56 = .ok (.iload_n 1, 1) := by decide +kernel
theorem dX3_highestOf_57 : decode cX3_highestOf 57 = .ok (.bipush 9, 2) := by decide +kernel
theorem dX3_highestOf_59 : decode cX3_highestOf 59 = .ok (.bipush 60, 2) := by decide +kernel
theorem dX3_highestOf_61 : decode cX3_highestOf 61 = .ok (.bipush (-5), 2) := by decide +kernel
theorem dX3_highestOf_63 : decode cX3_highestOf 63 = .ok (.invokestatic 94, 3) := by decide +kernel
theorem dX3_highestOf_66 : decode cX3_highestOf 66 = .ok (.ireturn, 1) := by decide +kernel
theorem dX3_highestOf_67 : decode cX3_highestOf 67 = .ok (.iload_n 1, 1) := by decide +kernel
theorem dX3_highestOf_68 : decode cX3_highestOf 68 = .ok (.bipush 99, 2) := by decide +kernel
theorem dX3_highestOf_70 : decode cX3_highestOf 70 = .ok (.bipush (-5), 2) := by decide +kernel
