theorem inlX0 : ∀ w ∈ wsX00, w ∈ wsL_law := fun _ h => List.mem_append_left _ (List.mem_append_left _ (List.mem_append_left _ (List.mem_append_left _ (List.mem_append_left _ (List.mem_append_right _ h)))))
theorem inX0 : ∀ w ∈ wsX00, w ∈ lw_tbl := fun w h => wsL_law_in w (inlX0 w h)
theorem inlX1 : ∀ w ∈ wsX10, w ∈ wsL_law := fun _ h => List.mem_append_left _ (List.mem_append_left _ (List.mem_append_left _ (List.mem_append_left _ (List.mem_append_left _ (List.mem_append_left _ (List.mem_append_right _ h))))))
theorem inX1 : ∀ w ∈ wsX10, w ∈ lw_tbl := fun w h => wsL_law_in w (inlX1 w h)
theorem inlX2 : ∀ w ∈ wsX20, w ∈ wsL_law := fun _ h => List.mem_append_left _ (List.mem_append_left _ (List.mem_append_left _ (List.mem_append_left _ (List.mem_append_right _ h))))
theorem inX2 : ∀ w ∈ wsX20, w ∈ lw_tbl := fun w h => wsL_law_in w (inlX2 w h)
theorem inlX3 : ∀ w ∈ wsX30, w ∈ wsL_law := fun _ h => List.mem_append_left _ (List.mem_append_left _ (List.mem_append_left _ (List.mem_append_right _ h)))
theorem inX3 : ∀ w ∈ wsX30, w ∈ lw_tbl := fun w h => wsL_law_in w (inlX3 w h)
theorem inlX4 : ∀ w ∈ wsX40, w ∈ wsL_law := fun _ h => List.mem_append_left _ (List.mem_append_right _ h)
theorem inX4 : ∀ w ∈ wsX40, w ∈ lw_tbl := fun w h => wsL_law_in w (inlX4 w h)
theorem inlX5 : ∀ w ∈ wsX50, w ∈ wsL_law := fun _ h => List.mem_append_left _ (List.mem_append_left _ (List.mem_append_left _ (List.mem_append_left _ (List.mem_append_left _ (List.mem_append_left _ (List.mem_append_left _ (List.mem_append_right _ h)))))))
theorem inX5 : ∀ w ∈ wsX50, w ∈ lw_tbl := fun w h => wsL_law_in w (inlX5 w h)
theorem inlX6 : ∀ w ∈ wsX60, w ∈ wsL_law := fun _ h => List.mem_append_left _ (List.mem_append_left _ (List.mem_append_right _ h))
theorem inX6 : ∀ w ∈ wsX60, w ∈ lw_tbl := fun w h => wsL_law_in w (inlX6 w h)
theorem inlX7 : ∀ w ∈ wsX70, w ∈ wsL_law := fun _ h => List.mem_append_left _ (List.mem_append_left _ (List.mem_append_left _ (List.mem_append_left _ (List.mem_append_left _ (List.mem_append_left _ (List.mem_append_left _ (List.mem_append_left _ (List.mem_append_left _ (List.mem_append_right _ h)))))))))
theorem inX7 : ∀ w ∈ wsX70, w ∈ lw_tbl := fun w h => wsL_law_in w (inlX7 w h)
theorem inlX8 : ∀ w ∈ wsX80, w ∈ wsL_law := fun _ h => List.mem_append_left _ (List.mem_append_left _ (List.mem_append_left _ (List.mem_append_left _ (List.mem_append_left _ (List.mem_append_left _ (List.mem_append_left _ (List.mem_append_left _ (List.mem_append_right _ h))))))))
theorem inX8 : ∀ w ∈ wsX80, w ∈ lw_tbl := fun w h => wsL_law_in w (inlX8 w h)
theorem inJ11 : ∀ w ∈ wsJ110, w ∈ lw_tbl := by decide +kernel
theorem inJ6 : ∀ w ∈ wsJ60, w ∈ lw_tbl := by decide +kernel
theorem inJ9 : ∀ w ∈ wsJ90, w ∈ lw_tbl := by decide +kernel
theorem inJ0 : ∀ w ∈ wsJ00, w ∈ lw_tbl := by decide +kernel
theorem inJ1 : ∀ w ∈ wsJ10, w ∈ lw_tbl := by decide +kernel
theorem inJ2 : ∀ w ∈ wsJ20, w ∈ lw_tbl := by decide +kernel
theorem inJ10 : ∀ w ∈ wsJ100, w ∈ lw_tbl := by decide +kernel
theorem inJ3 : ∀ w ∈ wsJ30, w ∈ lw_tbl := by decide +kernel
theorem dX0_init_0 : decode cX0_init 0 = .ok (.aload_n 0, 1) := by decide +kernel
theorem dX0_init_1 : decode cX0_init 1 = .ok (.invokespecial 3, 3) := by decide +kernel
theorem dX0_init_4 : decode cX0_init 4 = .ok (.aload_n 0, 1) := by decide +kernel
theorem dX0_init_5 : decode cX0_init 5 = .ok (.bipush 20, 2) := by decide +kernel
theorem dX0_init_7 : decode cX0_init 7 = .ok (.newarray .int, 2) := by decide +kernel
theorem dX0_init_9 : decode cX0_init 9 = .ok (.putfield 9, 3) := by decide +kernel
theorem dX0_init_12 : decode cX0_init 12 = .ok (.aload_n 0, 1) := by decide +kernel
theorem dX0_init_13 : decode cX0_init 13 = .ok (.iconst 0, 1) := by decide +kernel
theorem dX0_init_14 : decode cX0_init 14 = .ok (.putfield 15, 3) := by decide +kernel
theorem dX0_init_17 : decode cX0_init 17 = .ok (.aload_n 0, 1) := by decide +kernel
theorem dX0_init_18 : decode cX0_init 18 = .ok (.iconst 0, 1) := by decide +kernel
theorem dX0_init_19 : decode cX0_init 19 = .ok (.putfield 19, 3) := by decide +kernel
theorem dX0_init_22 : decode cX0_init 22 = .ok (.aload_n 0, 1) := by decide +kernel
theorem dX0_init_23 : decode cX0_init 23 = .ok (.iconst 0, 1) := by decide +kernel
theorem dX0_init_24 : decode cX0_init 24 = .ok (.putfield 22, 3) := by decide +kernel
theorem dX0_init_27 : decode cX0_init 27 = .ok (.aload_n 0, 1) := by decide +kernel
theorem dX0_init_28 : decode cX0_init 28 = .ok (.iconst 0, 1) := by decide +kernel
theorem dX0_init_29 : decode cX0_init 29 = .ok (.putfield 25, 3) := by decide +kernel
theorem dX0_init_32 : decode cX0_init 32 = .ok (.return_, 1) := by decide +kernel
theorem dX0_begins_0 : decode cX0_begins 0 = .ok (.aload_n 0, 1) := by decide +kernel
theorem dX0_begins_1 : decode cX0_begins 1 = .ok (.getfield 15, 3) := by decide +kernel
theorem dX0_begins_4 : decode cX0_begins 4 = .ok (.ifCond .lt 25, 3) := by decide +kernel
theorem dX0_begins_7 : decode cX0_begins 7 = .ok (.aload_n 0, 1) := by decide +kernel
theorem dX0_begins_8 : decode cX0_begins 8 = .ok (.getfield 15, 3) := by decide +kernel
theorem dX0_begins_11 : decode cX0_begins 11 = .ok (.aload_n 0, 1) := by decide +kernel
theorem dX0_begins_12 : decode cX0_begins 12 = .ok (.getfield 9, 3) := by decide +kernel
theorem dX0_begins_15 : decode cX0_begins 15 = .ok (.arraylength, 1) := by decide +kernel
theorem dX0_begins_16 : decode cX0_begins 16 = .ok (.if_icmp .ge 13, 3) := by decide +kernel
theorem dX0_begins_19 : decode cX0_begins 19 = .ok (.aload_n 0, 1) := by decide +kernel
theorem dX0_begins_20 : decode cX0_begins 20 = .ok (.getfield 9, 3) := by decide +kernel
theorem dX0_begins_23 : decode cX0_begins 23 = .ok (.aload_n 0, 1) := by decide +kernel
theorem dX0_begins_24 : decode cX0_begins 24 = .ok (.getfield 15, 3) := by decide +kernel
theorem dX0_begins_27 : decode cX0_begins 27 = .ok (.iload_n 1, 1) := by decide +kernel
theorem dX0_begins_28 : decode cX0_begins 28 = .ok (.iastore, 1) := by decide +kernel
theorem dX0_begins_29 : decode cX0_begins 29 = .ok (.aload_n 0, 1) := by decide +kernel
theorem dX0_begins_30 : decode cX0_begins 30 = .ok (.dup, 1) := by decide +kernel
theorem dX0_begins_31 : decode cX0_begins 31 = .ok (.getfield 15, 3) := by decide +kernel
theorem dX0_begins_34 : decode cX0_begins 34 = .ok (.iconst 1, 1) := by decide +kernel
theorem dX0_begins_35 : decode cX0_begins 35 = .ok (.iadd, 1) := by decide +kernel
theorem dX0_begins_36 : decode cX0_begins 36 = .ok (.putfield 15, 3) := by decide +kernel
theorem dX0_begins_39 : decode cX0_begins 39 = .ok (.return_, 1) := by decide +kernel
set_option maxRecDepth 20000 in
theorem ggX0_thinks_X0_begins : GoodIn wsX0_thinks wsX0_begins := goodIn_r _ [6, 7, 8, 12, 13, 14, 15, 16] (by decide +kernel) (by decide +kernel)
set_option maxRecDepth 20000 in
theorem gX0_thinks_X0_begins : GoodIn wsX0_thinks (wsV RX0 28 RX0 yX0_begins wsX0_begins) := goodIn_app (goodIn_of _ (by decide +kernel)) ggX0_thinks_X0_begins
set_option maxRecDepth 20000 in
theorem ggX0_thinks_X0_thinks : GoodIn wsX0_thinks wsX0_thinks := goodIn_r _ [0, 1, 2, 3, 4, 5, 6, 7, 8, 9, 10, 11, 12, 13, 14, 15, 16] (by decide +kernel) (by decide +kernel)
set_option maxRecDepth 20000 in
theorem gX0_thinks_X0_thinks : GoodIn wsX0_thinks (wsV RX0 32 RX0 yX0_thinks wsX0_thinks) := goodIn_app (goodIn_of _ (by decide +kernel)) ggX0_thinks_X0_thinks
theorem dX0_thinks_0 : decode cX0_thinks 0 = .ok (.iload_n 3, 1) := by decide +kernel
theorem dX0_thinks_1 : decode cX0_thinks 1 = .ok (.bipush 9, 2) := by decide +kernel
theorem dX0_thinks_3 : decode cX0_thinks 3 = .ok (.if_icmp .le 5, 3) := by decide +kernel
theorem dX0_thinks_6 : decode cX0_thinks 6 = .ok (.iconst 0, 1) := by decide +kernel
theorem dX0_thinks_7 : decode cX0_thinks 7 = .ok (.ireturn, 1) := by decide +kernel
theorem dX0_thinks_8 : decode cX0_thinks 8 = .ok (.iload_n 1, 1) := by decide +kernel
theorem dX0_thinks_9 : decode cX0_thinks 9 = .ok (.tableswitch 74 1 5 #[35, 74, 74, 35, 53], 35) := by decide +kernel
theorem dX0_thinks_44 : decode cX0_thinks 44 = .ok (.aload_n 0, 1) := by decide +kernel
theorem dX0_thinks_45 : decode cX0_thinks 45 = .ok (.bipush 11, 2) := by decide +kernel
theorem dX0_thinks_47 : decode cX0_thinks 47 = .ok (.invokevirtual 28, 3) := by decide +kernel
theorem dX0_thinks_50 : decode cX0_thinks 50 = .ok (.aload_n 0, 1) := by decide +kernel
theorem dX0_thinks_51 : decode cX0_thinks 51 = .ok (.iconst 0, 1) := by decide +kernel
theorem dX0_thinks_52 : decode cX0_thinks 52 = .ok (.iload_n 2, 1) := by decide +kernel
theorem dX0_thinks_53 : decode cX0_thinks 53 = .ok (.iconst 3, 1) := by decide +kernel
theorem dX0_thinks_54 : decode cX0_thinks 54 = .ok (.imul, 1) := by decide +kernel
theorem dX0_thinks_55 : decode cX0_thinks 55 = .ok (.iload_n 3, 1) := by decide +kernel
theorem dX0_thinks_56 : decode cX0_thinks 56 = .ok (.iconst 1, 1) := by decide +kernel
theorem dX0_thinks_57 : decode cX0_thinks 57 = .ok (.iadd, 1) := by decide +kernel
theorem dX0_thinks_58 : decode cX0_thinks 58 = .ok (.invokevirtual 32, 3) := by decide +kernel
theorem dX0_thinks_61 : decode cX0_thinks 61 = .ok (.ireturn, 1) := by decide +kernel
theorem dX0_thinks_62 : decode cX0_thinks 62 = .ok (.aload_n 0, 1) := by decide +kernel
theorem dX0_thinks_63 : decode cX0_thinks 63 = .ok (.bipush 51, 2) := by decide +kernel
theorem dX0_thinks_65 : decode cX0_thinks 65 = .ok (.invokevirtual 28, 3) := by decide +kernel
theorem dX0_thinks_68 : decode cX0_thinks 68 = .ok (.aload_n 0, 1) := by decide +kernel
theorem dX0_thinks_69 : decode cX0_thinks 69 = .ok (.iconst 2, 1) := by decide +kernel
theorem dX0_thinks_70 : decode cX0_thinks 70 = .ok (.iload_n 2, 1) := by decide +kernel
theorem dX0_thinks_71 : decode cX0_thinks 71 = .ok (.iload_n 3, 1) := by decide +kernel
theorem dX0_thinks_72 : decode cX0_thinks 72 = .ok (.iconst 1, 1) := by decide +kernel
theorem dX0_thinks_73 : decode cX0_thinks 73 = .ok (.iadd, 1) := by decide +kernel
theorem dX0_thinks_74 : decode cX0_thinks 74 = .ok (.invokevirtual 32, 3) := by decide +kernel
theorem dX0_thinks_77 : decode cX0_thinks 77 = .ok (.aload_n 0, 1) := by decide +kernel
theorem dX0_thinks_78 : decode cX0_thinks 78 = .ok (.getfield 25, 3) := by decide +kernel
theorem dX0_thinks_81 : decode cX0_thinks 81 = .ok (.ixor, 1) := by decide +kernel
theorem dX0_thinks_82 : decode cX0_thinks 82 = .ok (.ireturn, 1) := by decide +kernel
theorem dX0_thinks_83 : decode cX0_thinks 83 = .ok (.aload_n 0, 1) := by decide +kernel
theorem dX0_thinks_84 : decode cX0_thinks 84 = .ok (.iconst 1, 1) := by decide +kernel
theorem dX0_thinks_85 : decode cX0_thinks 85 = .ok (.invokevirtual 28, 3) := by decide +kernel
theorem dX0_thinks_88 : decode cX0_thinks 88 = .ok (.iload_n 2, 1) := by decide +kernel
theorem dX0_thinks_89 : decode cX0_thinks 89 = .ok (.aload_n 0, 1) := by decide +kernel
theorem dX0_thinks_90 : decode cX0_thinks 90 = .ok (.getfield 25, 3) := by decide +kernel
theorem dX0_thinks_93 : decode cX0_thinks 93 = .ok (.iadd, 1) := by decide +kernel
theorem dX0_thinks_94 : decode cX0_thinks 94 = .ok (.ireturn, 1) := by decide +kernel
set_option maxRecDepth 20000 in
theorem ggX0_writes_X0_begins : GoodIn wsX0_writes wsX0_begins := goodIn_r _ [7, 8, 9, 18, 19, 20, 21, 22] (by decide +kernel) (by decide +kernel)
set_option maxRecDepth 20000 in
theorem gX0_writes_X0_begins : GoodIn wsX0_writes (wsV RX0 28 RX0 yX0_begins wsX0_begins) := goodIn_app (goodIn_of _ (by decide +kernel)) ggX0_writes_X0_begins
set_option maxRecDepth 20000 in
theorem ggX0_writes_X0_writes : GoodIn wsX0_writes wsX0_writes := goodIn_r _ [0, 1, 2, 3, 4, 5, 6, 7, 8, 9, 10, 11, 12, 13, 14, 15, 16, 17, 18, 19, 20, 21, 22] (by decide +kernel) (by decide +kernel)
set_option maxRecDepth 20000 in
theorem gX0_writes_X0_writes : GoodIn wsX0_writes (wsV RX0 36 RX0 yX0_writes wsX0_writes) := goodIn_app (goodIn_of _ (by decide +kernel)) ggX0_writes_X0_writes
set_option maxRecDepth 20000 in
theorem ggX0_writes_X0_thinks : GoodIn wsX0_writes wsX0_thinks := goodIn_r _ [16, 17, 3, 4, 5, 6, 7, 8, 9, 13, 14, 15, 18, 19, 20, 21, 22] (by decide +kernel) (by decide +kernel)
set_option maxRecDepth 20000 in
theorem gX0_writes_X0_thinks : GoodIn wsX0_writes (wsV RX0 32 RX0 yX0_thinks wsX0_thinks) := goodIn_app (goodIn_of _ (by decide +kernel)) ggX0_writes_X0_thinks
theorem dX0_writes_0 : decode cX0_writes 0 = .ok (.iload_n 3, 1) := by decide +kernel
theorem dX0_writes_1 : decode cX0_writes 1 = .ok (.bipush 9, 2) := by decide +kernel
theorem dX0_writes_3 : decode cX0_writes 3 = .ok (.if_icmp .le 5, 3) := by decide +kernel
theorem dX0_writes_6 : decode cX0_writes 6 = .ok (.iconst 0, 1) := by decide +kernel
theorem dX0_writes_7 : decode cX0_writes 7 = .ok (.ireturn, 1) := by decide +kernel
theorem dX0_writes_8 : decode cX0_writes 8 = .ok (.iload_n 1, 1) := by decide +kernel
theorem dX0_writes_9 : decode cX0_writes 9 = .ok (.tableswitch 73 2 6 #[56, 73, 73, 56, 35], 35) := by decide +kernel
theorem dX0_writes_44 : decode cX0_writes 44 = .ok (.aload_n 0, 1) := by decide +kernel
theorem dX0_writes_45 : decode cX0_writes 45 = .ok (.bipush 61, 2) := by decide +kernel
theorem dX0_writes_47 : decode cX0_writes 47 = .ok (.invokevirtual 28, 3) := by decide +kernel
theorem dX0_writes_50 : decode cX0_writes 50 = .ok (.aload_n 0, 1) := by decide +kernel
theorem dX0_writes_51 : decode cX0_writes 51 = .ok (.iconst 3, 1) := by decide +kernel
theorem dX0_writes_52 : decode cX0_writes 52 = .ok (.iload_n 2, 1) := by decide +kernel
theorem dX0_writes_53 : decode cX0_writes 53 = .ok (.iload_n 3, 1) := by decide +kernel
theorem dX0_writes_54 : decode cX0_writes 54 = .ok (.iconst 1, 1) := by decide +kernel
theorem dX0_writes_55 : decode cX0_writes 55 = .ok (.iadd, 1) := by decide +kernel
theorem dX0_writes_56 : decode cX0_writes 56 = .ok (.invokevirtual 36, 3) := by decide +kernel
theorem dX0_writes_59 : decode cX0_writes 59 = .ok (.aload_n 0, 1) := by decide +kernel
theorem dX0_writes_60 : decode cX0_writes 60 = .ok (.getfield 22, 3) := by decide +kernel
theorem dX0_writes_63 : decode cX0_writes 63 = .ok (.iadd, 1) := by decide +kernel
theorem dX0_writes_64 : decode cX0_writes 64 = .ok (.ireturn, 1) := by decide +kernel
theorem dX0_writes_65 : decode cX0_writes 65 = .ok (.aload_n 0, 1) := by decide +kernel
theorem dX0_writes_66 : decode cX0_writes 66 = .ok (.bipush 21, 2) := by decide +kernel
theorem dX0_writes_68 : decode cX0_writes 68 = .ok (.invokevirtual 28, 3) := by decide +kernel
theorem dX0_writes_71 : decode cX0_writes 71 = .ok (.aload_n 0, 1) := by decide +kernel
theorem dX0_writes_72 : decode cX0_writes 72 = .ok (.iconst 0, 1) := by decide +kernel
theorem dX0_writes_73 : decode cX0_writes 73 = .ok (.iload_n 2, 1) := by decide +kernel
theorem dX0_writes_74 : decode cX0_writes 74 = .ok (.iload_n 3, 1) := by decide +kernel
theorem dX0_writes_75 : decode cX0_writes 75 = .ok (.iconst 1, 1) := by decide +kernel
theorem dX0_writes_76 : decode cX0_writes 76 = .ok (.iadd, 1) := by decide +kernel
theorem dX0_writes_77 : decode cX0_writes 77 = .ok (.invokevirtual 36, 3) := by decide +kernel
theorem dX0_writes_80 : decode cX0_writes 80 = .ok (.ineg, 1) := by decide +kernel
theorem dX0_writes_81 : decode cX0_writes 81 = .ok (.ireturn, 1) := by decide +kernel
theorem dX0_writes_82 : decode cX0_writes 82 = .ok (.aload_n 0, 1) := by decide +kernel
theorem dX0_writes_83 : decode cX0_writes 83 = .ok (.iconst 2, 1) := by decide +kernel
theorem dX0_writes_84 : decode cX0_writes 84 = .ok (.invokevirtual 28, 3) := by decide +kernel
theorem dX0_writes_87 : decode cX0_writes 87 = .ok (.aload_n 0, 1) := by decide +kernel
theorem dX0_writes_88 : decode cX0_writes 88 = .ok (.aload_n 0, 1) := by decide +kernel
theorem dX0_writes_89 : decode cX0_writes 89 = .ok (.getfield 19, 3) := by decide +kernel
theorem dX0_writes_92 : decode cX0_writes 92 = .ok (.iload_n 2, 1) := by decide +kernel
theorem dX0_writes_93 : decode cX0_writes 93 = .ok (.iload_n 3, 1) := by decide +kernel
theorem dX0_writes_94 : decode cX0_writes 94 = .ok (.iconst 1, 1) := by decide +kernel
theorem dX0_writes_95 : decode cX0_writes 95 = .ok (.iadd, 1) := by decide +kernel
theorem dX0_writes_96 : decode cX0_writes 96 = .ok (.invokevirtual 32, 3) := by decide +kernel
theorem dX0_writes_99 : decode cX0_writes 99 = .ok (.aload_n 0, 1) := by decide +kernel
theorem dX0_writes_100 : decode cX0_writes 100 = .ok (.getfield 22, 3) := by decide +kernel
theorem dX0_writes_103 : decode cX0_writes 103 = .ok (.isub, 1) := by decide +kernel
theorem dX0_writes_104 : decode cX0_writes 104 = .ok (.ireturn, 1) := by decide +kernel
set_option maxRecDepth 20000 in
theorem ggX0_tells_X0_begins : GoodIn wsX0_tells wsX0_begins := goodIn_r _ [6, 7, 8, 22, 23, 24, 25, 26] (by decide +kernel) (by decide +kernel)
set_option maxRecDepth 20000 in
theorem gX0_tells_X0_begins : GoodIn wsX0_tells (wsV RX0 28 RX0 yX0_begins wsX0_begins) := goodIn_app (goodIn_of _ (by decide +kernel)) ggX0_tells_X0_begins
set_option maxRecDepth 20000 in
theorem ggX0_tells_X0_tells : GoodIn wsX0_tells wsX0_tells := goodIn_r _ [0, 1, 2, 3, 4, 5, 6, 7, 8, 9, 10, 11, 12, 13, 14, 15, 16, 17, 18, 19, 20, 21, 22, 23, 24, 25, 26] (by decide +kernel) (by decide +kernel)
set_option maxRecDepth 20000 in
theorem gX0_tells_X0_tells : GoodIn wsX0_tells (wsV RX0 39 RX0 yX0_tells wsX0_tells) := goodIn_app (goodIn_of _ (by decide +kernel)) ggX0_tells_X0_tells
set_option maxRecDepth 20000 in
theorem ggX0_tells_X0_thinks : GoodIn wsX0_tells wsX0_thinks := goodIn_r _ [15, 16, 2, 3, 4, 5, 6, 7, 8, 12, 13, 14, 22, 23, 24, 25, 26] (by decide +kernel) (by decide +kernel)
set_option maxRecDepth 20000 in
theorem gX0_tells_X0_thinks : GoodIn wsX0_tells (wsV RX0 32 RX0 yX0_thinks wsX0_thinks) := goodIn_app (goodIn_of _ (by decide +kernel)) ggX0_tells_X0_thinks
set_option maxRecDepth 20000 in
theorem ggX0_tells_X0_writes : GoodIn wsX0_tells wsX0_writes := goodIn_r _ [20, 21, 1, 2, 3, 4, 5, 6, 7, 8, 17, 18, 19, 12, 13, 14, 15, 16, 22, 23, 24, 25, 26] (by decide +kernel) (by decide +kernel)
set_option maxRecDepth 20000 in
theorem gX0_tells_X0_writes : GoodIn wsX0_tells (wsV RX0 36 RX0 yX0_writes wsX0_writes) := goodIn_app (goodIn_of _ (by decide +kernel)) ggX0_tells_X0_writes
theorem dX0_tells_0 : decode cX0_tells 0 = .ok (.iload_n 3, 1) := by decide +kernel
theorem dX0_tells_1 : decode cX0_tells 1 = .ok (.bipush 9, 2) := by decide +kernel
theorem dX0_tells_3 : decode cX0_tells 3 = .ok (.if_icmp .le 5, 3) := by decide +kernel
theorem dX0_tells_6 : decode cX0_tells 6 = .ok (.iconst 0, 1) := by decide +kernel
theorem dX0_tells_7 : decode cX0_tells 7 = .ok (.ireturn, 1) := by decide +kernel
theorem dX0_tells_8 : decode cX0_tells 8 = .ok (.iload_n 1, 1) := by decide +kernel
theorem dX0_tells_9 : decode cX0_tells 9 = .ok (.tableswitch 81 3 6 #[31, 50, 81, 31], 31) := by decide +kernel
theorem dX0_tells_40 : decode cX0_tells 40 = .ok (.aload_n 0, 1) := by decide +kernel
theorem dX0_tells_41 : decode cX0_tells 41 = .ok (.bipush 31, 2) := by decide +kernel
theorem dX0_tells_43 : decode cX0_tells 43 = .ok (.invokevirtual 28, 3) := by decide +kernel
theorem dX0_tells_46 : decode cX0_tells 46 = .ok (.aload_n 0, 1) := by decide +kernel
theorem dX0_tells_47 : decode cX0_tells 47 = .ok (.iconst 0, 1) := by decide +kernel
theorem dX0_tells_48 : decode cX0_tells 48 = .ok (.iload_n 2, 1) := by decide +kernel
theorem dX0_tells_49 : decode cX0_tells 49 = .ok (.iload_n 3, 1) := by decide +kernel
theorem dX0_tells_50 : decode cX0_tells 50 = .ok (.iconst 1, 1) := by decide +kernel
theorem dX0_tells_51 : decode cX0_tells 51 = .ok (.iadd, 1) := by decide +kernel
theorem dX0_tells_52 : decode cX0_tells 52 = .ok (.invokevirtual 39, 3) := by decide +kernel
theorem dX0_tells_55 : decode cX0_tells 55 = .ok (.bipush 7, 2) := by decide +kernel
theorem dX0_tells_57 : decode cX0_tells 57 = .ok (.ixor, 1) := by decide +kernel
theorem dX0_tells_58 : decode cX0_tells 58 = .ok (.ireturn, 1) := by decide +kernel
theorem dX0_tells_59 : decode cX0_tells 59 = .ok (.aload_n 0, 1) := by decide +kernel
theorem dX0_tells_60 : decode cX0_tells 60 = .ok (.bipush 41, 2) := by decide +kernel
theorem dX0_tells_62 : decode cX0_tells 62 = .ok (.invokevirtual 28, 3) := by decide +kernel
theorem dX0_tells_65 : decode cX0_tells 65 = .ok (.aload_n 0, 1) := by decide +kernel
theorem dX0_tells_66 : decode cX0_tells 66 = .ok (.iconst 1, 1) := by decide +kernel
theorem dX0_tells_67 : decode cX0_tells 67 = .ok (.iload_n 2, 1) := by decide +kernel
theorem dX0_tells_68 : decode cX0_tells 68 = .ok (.iconst 1, 1) := by decide +kernel
theorem dX0_tells_69 : decode cX0_tells 69 = .ok (.isub, 1) := by decide +kernel
theorem dX0_tells_70 : decode cX0_tells 70 = .ok (.iload_n 3, 1) := by decide +kernel
theorem dX0_tells_71 : decode cX0_tells 71 = .ok (.iconst 1, 1) := by decide +kernel
theorem dX0_tells_72 : decode cX0_tells 72 = .ok (.iadd, 1) := by decide +kernel
theorem dX0_tells_73 : decode cX0_tells 73 = .ok (.invokevirtual 39, 3) := by decide +kernel
theorem dX0_tells_76 : decode cX0_tells 76 = .ok (.aload_n 0, 1) := by decide +kernel
theorem dX0_tells_77 : decode cX0_tells 77 = .ok (.aload_n 0, 1) := by decide +kernel
theorem dX0_tells_78 : decode cX0_tells 78 = .ok (.getfield 19, 3) := by decide +kernel
theorem dX0_tells_81 : decode cX0_tells 81 = .ok (.iconst 2, 1) := by decide +kernel
theorem dX0_tells_82 : decode cX0_tells 82 = .ok (.iload_n 3, 1) := by decide +kernel
theorem dX0_tells_83 : decode cX0_tells 83 = .ok (.iconst 1, 1) := by decide +kernel
theorem dX0_tells_84 : decode cX0_tells 84 = .ok (.iadd, 1) := by decide +kernel
theorem dX0_tells_85 : decode cX0_tells 85 = .ok (.invokevirtual 32, 3) := by decide +kernel
theorem dX0_tells_88 : decode cX0_tells 88 = .ok (.iadd, 1) := by decide +kernel
theorem dX0_tells_89 : decode cX0_tells 89 = .ok (.ireturn, 1) := by decide +kernel
theorem dX0_tells_90 : decode cX0_tells 90 = .ok (.aload_n 0, 1) := by decide +kernel
theorem dX0_tells_91 : decode cX0_tells 91 = .ok (.iconst 3, 1) := by decide +kernel
theorem dX0_tells_92 : decode cX0_tells 92 = .ok (.invokevirtual 28, 3) := by decide +kernel
theorem dX0_tells_95 : decode cX0_tells 95 = .ok (.aload_n 0, 1) := by decide +kernel
theorem dX0_tells_96 : decode cX0_tells 96 = .ok (.aload_n 0, 1) := by decide +kernel
theorem dX0_tells_97 : decode cX0_tells 97 = .ok (.getfield 19, 3) := by decide +kernel
theorem dX0_tells_100 : decode cX0_tells 100 = .ok (.iload_n 2, 1) := by decide +kernel
theorem dX0_tells_101 : decode cX0_tells 101 = .ok (.iload_n 3, 1) := by decide +kernel
theorem dX0_tells_102 : decode cX0_tells 102 = .ok (.iconst 1, 1) := by decide +kernel
theorem dX0_tells_103 : decode cX0_tells 103 = .ok (.iadd, 1) := by decide +kernel
theorem dX0_tells_104 : decode cX0_tells 104 = .ok (.invokevirtual 36, 3) := by decide +kernel
theorem dX0_tells_107 : decode cX0_tells 107 = .ok (.iconst 2, 1) := by decide +kernel
theorem dX0_tells_108 : decode cX0_tells 108 = .ok (.imul, 1) := by decide +kernel
theorem dX0_tells_109 : decode cX0_tells 109 = .ok (.ireturn, 1) := by decide +kernel
set_option maxRecDepth 20000 in
theorem ggX1_init_X2_init : GoodIn wsX1_init wsX2_init := goodIn_r _ [14, 15, 2, 3, 16, 17, 18, 19, 20, 21, 22, 23, 24, 25, 26, 27, 28, 39, 40, 41, 42, 43, 44, 45, 46, 47, 48, 49] (by decide +kernel) (by decide +kernel)
set_option maxRecDepth 20000 in
theorem gX1_init_X2_init_n11 : GoodIn wsX1_init (wsX2_init) := ggX1_init_X2_init
set_option maxRecDepth 20000 in
theorem ggX1_init_X3_init : GoodIn wsX1_init wsX3_init := goodIn_r _ [30, 31, 2, 3, 19, 32, 33, 34, 35, 36, 37, 38, 53, 54, 55, 56, 57, 58, 59] (by decide +kernel) (by decide +kernel)
set_option maxRecDepth 20000 in
theorem gX1_init_X3_init_n23 : GoodIn wsX1_init (wsX3_init) := ggX1_init_X3_init
theorem dX1_init_0 : decode cX1_init 0 = .ok (.aload_n 0, 1) := by decide +kernel
theorem dX1_init_1 : decode cX1_init 1 = .ok (.invokespecial 3, 3) := by decide +kernel
theorem dX1_init_4 : decode cX1_init 4 = .ok (.aload_n 0, 1) := by decide +kernel
theorem dX1_init_5 : decode cX1_init 5 = .ok (.new 9, 3) := by decide +kernel
theorem dX1_init_8 : decode cX1_init 8 = .ok (.dup, 1) := by decide +kernel
theorem dX1_init_9 : decode cX1_init 9 = .ok (.invokespecial 11, 3) := by decide +kernel
theorem dX1_init_12 : decode cX1_init 12 = .ok (.putfield 12, 3) := by decide +kernel
theorem dX1_init_15 : decode cX1_init 15 = .ok (.aload_n 0, 1) := by decide +kernel
theorem dX1_init_16 : decode cX1_init 16 = .ok (.new 9, 3) := by decide +kernel
theorem dX1_init_19 : decode cX1_init 19 = .ok (.dup, 1) := by decide +kernel
theorem dX1_init_20 : decode cX1_init 20 = .ok (.invokespecial 11, 3) := by decide +kernel
theorem dX1_init_23 : decode cX1_init 23 = .ok (.putfield 18, 3) := by decide +kernel
theorem dX1_init_26 : decode cX1_init 26 = .ok (.aload_n 0, 1) := by decide +kernel
theorem dX1_init_27 : decode cX1_init 27 = .ok (.new 21, 3) := by decide +kernel
theorem dX1_init_30 : decode cX1_init 30 = .ok (.dup, 1) := by decide +kernel
theorem dX1_init_31 : decode cX1_init 31 = .ok (.invokespecial 23, 3) := by decide +kernel
theorem dX1_init_34 : decode cX1_init 34 = .ok (.putfield 24, 3) := by decide +kernel
theorem dX1_init_37 : decode cX1_init 37 = .ok (.return_, 1) := by decide +kernel
set_option maxRecDepth 20000 in
theorem ggX1_begin_X2_copyFrom : GoodIn wsX1_begin wsX2_copyFrom := goodIn_r _ [8, 9, 10, 11, 12, 13, 14, 15, 16, 17, 18, 19, 20, 21, 22, 43, 44, 45, 46, 47, 48, 49, 50, 51, 52, 53] (by decide +kernel) (by decide +kernel)
set_option maxRecDepth 20000 in
theorem gX1_begin_X2_copyFrom : GoodIn wsX1_begin (wsV RX1 33 RX2 yX2_copyFrom wsX2_copyFrom) := goodIn_app (goodIn_of _ (by decide +kernel)) ggX1_begin_X2_copyFrom
set_option maxRecDepth 20000 in
theorem ggX1_begin_X5_lesson : GoodIn wsX1_begin wsX5_lesson := goodIn_r _ [27, 28, 29, 30, 34, 35, 36, 37, 38, 39, 40, 41, 42] (by decide +kernel) (by decide +kernel)
set_option maxRecDepth 20000 in
theorem gX1_begin_X5_lesson : GoodIn wsX1_begin (wsV RX1 37 RX5 yX5_lesson wsX5_lesson) := goodIn_app (goodIn_of _ (by decide +kernel)) ggX1_begin_X5_lesson
theorem dX1_begin_0 : decode cX1_begin 0 = .ok (.aload_n 0, 1) := by decide +kernel
theorem dX1_begin_1 : decode cX1_begin 1 = .ok (.getfield 18, 3) := by decide +kernel
theorem dX1_begin_4 : decode cX1_begin 4 = .ok (.aload_n 1, 1) := by decide +kernel
theorem dX1_begin_5 : decode cX1_begin 5 = .ok (.getfield 28, 3) := by decide +kernel
theorem dX1_begin_8 : decode cX1_begin 8 = .ok (.invokevirtual 33, 3) := by decide +kernel
theorem dX1_begin_11 : decode cX1_begin 11 = .ok (.aload_n 0, 1) := by decide +kernel
theorem dX1_begin_12 : decode cX1_begin 12 = .ok (.getfield 12, 3) := by decide +kernel
theorem dX1_begin_15 : decode cX1_begin 15 = .ok (.aload_n 1, 1) := by decide +kernel
theorem dX1_begin_16 : decode cX1_begin 16 = .ok (.getfield 28, 3) := by decide +kernel
theorem dX1_begin_19 : decode cX1_begin 19 = .ok (.invokevirtual 33, 3) := by decide +kernel
theorem dX1_begin_22 : decode cX1_begin 22 = .ok (.aload_n 0, 1) := by decide +kernel
theorem dX1_begin_23 : decode cX1_begin 23 = .ok (.aload_n 1, 1) := by decide +kernel
theorem dX1_begin_24 : decode cX1_begin 24 = .ok (.invokevirtual 37, 3) := by decide +kernel
theorem dX1_begin_27 : decode cX1_begin 27 = .ok (.putfield 24, 3) := by decide +kernel
theorem dX1_begin_30 : decode cX1_begin 30 = .ok (.return_, 1) := by decide +kernel
set_option maxRecDepth 20000 in
theorem ggX1_beginWithout_X1_begin : GoodIn wsX1_beginWithout wsX1_begin := goodIn_r _ [6, 7, 1, 8, 9, 10, 11, 12, 13, 14, 15, 16, 17, 18, 19, 20, 21, 22, 23, 24, 25, 26, 27, 28, 29, 30, 31, 32, 33, 34, 35, 36, 37, 38, 50, 51, 52, 53, 54, 55, 56, 57, 58, 39, 40, 41, 42, 43, 44, 45, 46, 47, 48, 49] (by decide +kernel) (by decide +kernel)
set_option maxRecDepth 20000 in
theorem gX1_beginWithout_X1_begin : GoodIn wsX1_beginWithout (wsV RX1 40 RX1 yX1_begin wsX1_begin) := goodIn_app (goodIn_of _ (by decide +kernel)) ggX1_beginWithout_X1_begin
theorem dX1_beginWithout_0 : decode cX1_beginWithout 0 = .ok (.aload_n 0, 1) := by decide +kernel
theorem dX1_beginWithout_1 : decode cX1_beginWithout 1 = .ok (.aload_n 1, 1) := by decide +kernel
theorem dX1_beginWithout_2 : decode cX1_beginWithout 2 = .ok (.invokevirtual 40, 3) := by decide +kernel
theorem dX1_beginWithout_5 : decode cX1_beginWithout 5 = .ok (.aload_n 0, 1) := by decide +kernel
theorem dX1_beginWithout_6 : decode cX1_beginWithout 6 = .ok (.getfield 12, 3) := by decide +kernel
theorem dX1_beginWithout_9 : decode cX1_beginWithout 9 = .ok (.getfield 44, 3) := by decide +kernel
theorem dX1_beginWithout_12 : decode cX1_beginWithout 12 = .ok (.iload_n 2, 1) := by decide +kernel
theorem dX1_beginWithout_13 : decode cX1_beginWithout 13 = .ok (.iconst 1, 1) := by decide +kernel
theorem dX1_beginWithout_14 : decode cX1_beginWithout 14 = .ok (.bastore, 1) := by decide +kernel
theorem dX1_beginWithout_15 : decode cX1_beginWithout 15 = .ok (.return_, 1) := by decide +kernel
set_option maxRecDepth 20000 in
theorem ggX1_go_X2_goWeeks : GoodIn wsX1_go wsX2_goWeeks := goodIn_r _ [7, 8, 9, 10, 11, 12, 13, 14, 15, 16, 17, 18, 19, 20, 21, 6, 22, 23, 24, 25, 26, 27, 28, 29, 30, 31, 32, 33, 34, 35, 36, 37, 38, 39, 40, 41, 42, 43, 44, 45, 46, 47, 48, 49, 50, 51, 52, 53, 54, 55, 56, 57, 58, 59, 60, 61, 62, 63, 67, 68, 69, 70, 71, 72, 73, 74, 75, 76, 77, 78, 79, 80, 81, 82, 83, 84] (by decide +kernel) (by decide +kernel)
set_option maxRecDepth 20000 in
theorem gX1_go_X2_goWeeks : GoodIn wsX1_go (wsV RX1 48 RX2 yX2_goWeeks wsX2_goWeeks) := goodIn_app (goodIn_of _ (by decide +kernel)) ggX1_go_X2_goWeeks
theorem dX1_go_0 : decode cX1_go 0 = .ok (.aload_n 0, 1) := by decide +kernel
theorem dX1_go_1 : decode cX1_go 1 = .ok (.getfield 12, 3) := by decide +kernel
theorem dX1_go_4 : decode cX1_go 4 = .ok (.aload_n 0, 1) := by decide +kernel
theorem dX1_go_5 : decode cX1_go 5 = .ok (.getfield 24, 3) := by decide +kernel
theorem dX1_go_8 : decode cX1_go 8 = .ok (.iload_n 1, 1) := by decide +kernel
theorem dX1_go_9 : decode cX1_go 9 = .ok (.iconst 0, 1) := by decide +kernel
theorem dX1_go_10 : decode cX1_go 10 = .ok (.invokevirtual 48, 3) := by decide +kernel
theorem dX1_go_13 : decode cX1_go 13 = .ok (.return_, 1) := by decide +kernel
theorem dX1_workMore_0 : decode cX1_workMore 0 = .ok (.aload_n 0, 1) := by decide +kernel
theorem dX1_workMore_1 : decode cX1_workMore 1 = .ok (.getfield 12, 3) := by decide +kernel
theorem dX1_workMore_4 : decode cX1_workMore 4 = .ok (.getfield 52, 3) := by decide +kernel
theorem dX1_workMore_7 : decode cX1_workMore 7 = .ok (.aload_n 0, 1) := by decide +kernel
theorem dX1_workMore_8 : decode cX1_workMore 8 = .ok (.getfield 18, 3) := by decide +kernel
theorem dX1_workMore_11 : decode cX1_workMore 11 = .ok (.getfield 52, 3) := by decide +kernel
theorem dX1_workMore_14 : decode cX1_workMore 14 = .ok (.isub, 1) := by decide +kernel
theorem dX1_workMore_15 : decode cX1_workMore 15 = .ok (.ireturn, 1) := by decide +kernel
set_option maxRecDepth 20000 in
theorem ggX1_hoursMore_X2_hoursOfAll : GoodIn wsX1_hoursMore wsX2_hoursOfAll := goodIn_r _ [7, 8, 9, 13, 14, 15, 16, 17, 18, 19, 20, 21, 22, 23] (by decide +kernel) (by decide +kernel)
set_option maxRecDepth 20000 in
theorem gX1_hoursMore_X2_hoursOfAll : GoodIn wsX1_hoursMore (wsV RX1 56 RX2 yX2_hoursOfAll wsX2_hoursOfAll) := goodIn_app (goodIn_of _ (by decide +kernel)) ggX1_hoursMore_X2_hoursOfAll
theorem dX1_hoursMore_0 : decode cX1_hoursMore 0 = .ok (.aload_n 0, 1) := by decide +kernel
theorem dX1_hoursMore_1 : decode cX1_hoursMore 1 = .ok (.getfield 12, 3) := by decide +kernel
theorem dX1_hoursMore_4 : decode cX1_hoursMore 4 = .ok (.invokevirtual 56, 3) := by decide +kernel
theorem dX1_hoursMore_7 : decode cX1_hoursMore 7 = .ok (.aload_n 0, 1) := by decide +kernel
theorem dX1_hoursMore_8 : decode cX1_hoursMore 8 = .ok (.getfield 18, 3) := by decide +kernel
theorem dX1_hoursMore_11 : decode cX1_hoursMore 11 = .ok (.invokevirtual 56, 3) := by decide +kernel
theorem dX1_hoursMore_14 : decode cX1_hoursMore 14 = .ok (.isub, 1) := by decide +kernel
theorem dX1_hoursMore_15 : decode cX1_hoursMore 15 = .ok (.ireturn, 1) := by decide +kernel
theorem dX1_hoursMoreOf_0 : decode cX1_hoursMoreOf 0 = .ok (.aload_n 0, 1) := by decide +kernel
theorem dX1_hoursMoreOf_1 : decode cX1_hoursMoreOf 1 = .ok (.getfield 12, 3) := by decide +kernel
theorem dX1_hoursMoreOf_4 : decode cX1_hoursMoreOf 4 = .ok (.getfield 60, 3) := by decide +kernel
theorem dX1_hoursMoreOf_7 : decode cX1_hoursMoreOf 7 = .ok (.iload_n 1, 1) := by decide +kernel
theorem dX1_hoursMoreOf_8 : decode cX1_hoursMoreOf 8 = .ok (.iaload, 1) := by decide +kernel
theorem dX1_hoursMoreOf_9 : decode cX1_hoursMoreOf 9 = .ok (.aload_n 0, 1) := by decide +kernel
theorem dX1_hoursMoreOf_10 : decode cX1_hoursMoreOf 10 = .ok (.getfield 18, 3) := by decide +kernel
theorem dX1_hoursMoreOf_13 : decode cX1_hoursMoreOf 13 = .ok (.getfield 60, 3) := by decide +kernel
theorem dX1_hoursMoreOf_16 : decode cX1_hoursMoreOf 16 = .ok (.iload_n 1, 1) := by decide +kernel
theorem dX1_hoursMoreOf_17 : decode cX1_hoursMoreOf 17 = .ok (.iaload, 1) := by decide +kernel
theorem dX1_hoursMoreOf_18 : decode cX1_hoursMoreOf 18 = .ok (.isub, 1) := by decide +kernel
theorem dX1_hoursMoreOf_19 : decode cX1_hoursMoreOf 19 = .ok (.ireturn, 1) := by decide +kernel
set_option maxRecDepth 20000 in
theorem ggX1_workOf_X1_begin : GoodIn wsX1_workOf wsX1_begin := goodIn_r _ [7, 8, 1, 2, 9, 10, 11, 12, 13, 14, 15, 16, 17, 18, 19, 20, 21, 22, 23, 24, 25, 26, 27, 28, 29, 30, 31, 32, 33, 34, 35, 90, 91, 92, 104, 105, 106, 107, 108, 109, 110, 111, 112, 93, 94, 95, 96, 97, 98, 99, 100, 101, 102, 103] (by decide +kernel) (by decide +kernel)
set_option maxRecDepth 20000 in
theorem gX1_workOf_X1_begin : GoodIn wsX1_workOf (wsV RX1 40 RX1 yX1_begin wsX1_begin) := goodIn_app (goodIn_of _ (by decide +kernel)) ggX1_workOf_X1_begin
set_option maxRecDepth 20000 in
theorem ggX1_workOf_X2_goWeeks : GoodIn wsX1_workOf wsX2_goWeeks := goodIn_r _ [39, 14, 40, 21, 16, 19, 41, 42, 43, 44, 45, 15, 46, 47, 48, 12, 49, 22, 17, 18, 20, 50, 51, 52, 53, 54, 55, 56, 57, 58, 59, 60, 61, 62, 63, 64, 65, 66, 67, 68, 69, 70, 71, 72, 73, 74, 75, 76, 77, 78, 79, 80, 81, 23, 82, 83, 84, 85, 93, 94, 95, 96, 97, 98, 99, 100, 101, 102, 103, 113, 114, 115, 116, 117, 118, 119] (by decide +kernel) (by decide +kernel)
set_option maxRecDepth 20000 in
theorem gX1_workOf_X2_goWeeks : GoodIn wsX1_workOf (wsV RX1 48 RX2 yX2_goWeeks wsX2_goWeeks) := goodIn_app (goodIn_of _ (by decide +kernel)) ggX1_workOf_X2_goWeeks
set_option maxRecDepth 20000 in
theorem ggX1_workOf_X1_workMore : GoodIn wsX1_workOf wsX1_workMore := goodIn_r _ [89, 1, 8, 90, 91, 92, 93, 94, 95, 96, 97, 98, 99, 100, 101, 102, 103] (by decide +kernel) (by decide +kernel)
set_option maxRecDepth 20000 in
theorem gX1_workOf_X1_workMore : GoodIn wsX1_workOf (wsV RX1 67 RX1 yX1_workMore wsX1_workMore) := goodIn_app (goodIn_of _ (by decide +kernel)) ggX1_workOf_X1_workMore
theorem dX1_workOf_0 : decode cX1_workOf 0 = .ok (.aload_n 0, 1) := by decide +kernel
theorem dX1_workOf_1 : decode cX1_workOf 1 = .ok (.aload_n 1, 1) := by decide +kernel
theorem dX1_workOf_2 : decode cX1_workOf 2 = .ok (.invokevirtual 40, 3) := by decide +kernel
theorem dX1_workOf_5 : decode cX1_workOf 5 = .ok (.iconst 0, 1) := by decide +kernel
theorem dX1_workOf_6 : decode cX1_workOf 6 = .ok (.istore 4, 2) := by decide +kernel
theorem dX1_workOf_8 : decode cX1_workOf 8 = .ok (.iload 4, 2) := by decide +kernel
theorem dX1_workOf_10 : decode cX1_workOf 10 = .ok (.aload_n 0, 1) := by decide +kernel
theorem dX1_workOf_11 : decode cX1_workOf 11 = .ok (.getfield 12, 3) := by decide +kernel
theorem dX1_workOf_14 : decode cX1_workOf 14 = .ok (.getfield 64, 3) := by decide +kernel
theorem dX1_workOf_17 : decode cX1_workOf 17 = .ok (.if_icmp .ge 33, 3) := by decide +kernel
theorem dX1_workOf_20 : decode cX1_workOf 20 = .ok (.aload_n 0, 1) := by decide +kernel
theorem dX1_workOf_21 : decode cX1_workOf 21 = .ok (.getfield 12, 3) := by decide +kernel
theorem dX1_workOf_24 : decode cX1_workOf 24 = .ok (.getfield 44, 3) := by decide +kernel
theorem dX1_workOf_27 : decode cX1_workOf 27 = .ok (.iload 4, 2) := by decide +kernel
theorem dX1_workOf_29 : decode cX1_workOf 29 = .ok (.iload_n 2, 1) := by decide +kernel
theorem dX1_workOf_30 : decode cX1_workOf 30 = .ok (.iload 4, 2) := by decide +kernel
theorem dX1_workOf_32 : decode cX1_workOf 32 = .ok (.ishr, 1) := by decide +kernel
theorem dX1_workOf_33 : decode cX1_workOf 33 = .ok (.iconst 1, 1) := by decide +kernel
theorem dX1_workOf_34 : decode cX1_workOf 34 = .ok (.iand, 1) := by decide +kernel
theorem dX1_workOf_35 : decode cX1_workOf 35 = .ok (.ifCond .ne 7, 3) := by decide +kernel
theorem dX1_workOf_38 : decode cX1_workOf 38 = .ok (.iconst 1, 1) := by decide +kernel
theorem dX1_workOf_39 : decode cX1_workOf 39 = .ok (.goto 4, 3) := by decide +kernel
theorem dX1_workOf_42 : decode cX1_workOf 42 = .ok (.iconst 0, 1) := by decide +kernel
theorem dX1_workOf_43 : decode cX1_workOf 43 = .ok (.bastore, 1) := by decide +kernel
theorem dX1_workOf_44 : decode cX1_workOf 44 = .ok (.iinc 4 1, 3) := by decide +kernel
theorem dX1_workOf_47 : decode cX1_workOf 47 = .ok (.goto (-39), 3) := by decide +kernel
theorem dX1_workOf_50 : decode cX1_workOf 50 = .ok (.aload_n 0, 1) := by decide +kernel
theorem dX1_workOf_51 : decode cX1_workOf 51 = .ok (.getfield 12, 3) := by decide +kernel
theorem dX1_workOf_54 : decode cX1_workOf 54 = .ok (.aload_n 0, 1) := by decide +kernel
theorem dX1_workOf_55 : decode cX1_workOf 55 = .ok (.getfield 24, 3) := by decide +kernel
theorem dX1_workOf_58 : decode cX1_workOf 58 = .ok (.iload_n 3, 1) := by decide +kernel
theorem dX1_workOf_59 : decode cX1_workOf 59 = .ok (.iconst 0, 1) := by decide +kernel
theorem dX1_workOf_60 : decode cX1_workOf 60 = .ok (.invokevirtual 48, 3) := by decide +kernel
theorem dX1_workOf_63 : decode cX1_workOf 63 = .ok (.aload_n 0, 1) := by decide +kernel
theorem dX1_workOf_64 : decode cX1_workOf 64 = .ok (.invokevirtual 67, 3) := by decide +kernel
theorem dX1_workOf_67 : decode cX1_workOf 67 = .ok (.ireturn, 1) := by decide +kernel
set_option maxRecDepth 20000 in
theorem ggX1_meets_X1_workMore : GoodIn wsX1_meets wsX1_workMore := goodIn_r _ [7, 1, 8, 73, 74, 75, 76, 77, 78, 79, 80, 81, 82, 83, 84, 85, 86] (by decide +kernel) (by decide +kernel)
set_option maxRecDepth 20000 in
theorem gX1_meets_X1_workMore : GoodIn wsX1_meets (wsV RX1 67 RX1 yX1_workMore wsX1_workMore) := goodIn_app (goodIn_of _ (by decide +kernel)) ggX1_meets_X1_workMore
set_option maxRecDepth 20000 in
theorem ggX1_meets_X2_goWeeks : GoodIn wsX1_meets wsX2_goWeeks := goodIn_r _ [13, 14, 15, 16, 17, 18, 19, 20, 21, 22, 23, 24, 25, 26, 27, 12, 28, 29, 30, 31, 32, 33, 34, 35, 36, 37, 38, 39, 40, 41, 42, 43, 44, 45, 46, 47, 48, 49, 50, 51, 52, 53, 54, 55, 56, 57, 58, 59, 60, 61, 62, 63, 64, 65, 66, 67, 68, 69, 76, 77, 78, 79, 80, 81, 82, 83, 84, 85, 86, 87, 88, 89, 90, 91, 92, 93] (by decide +kernel) (by decide +kernel)
set_option maxRecDepth 20000 in
theorem gX1_meets_X2_goWeeks : GoodIn wsX1_meets (wsV RX1 48 RX2 yX2_goWeeks wsX2_goWeeks) := goodIn_app (goodIn_of _ (by decide +kernel)) ggX1_meets_X2_goWeeks
theorem dX1_meets_0 : decode cX1_meets 0 = .ok (.iconst 0, 1) := by decide +kernel
theorem dX1_meets_1 : decode cX1_meets 1 = .ok (.istore_n 2, 1) := by decide +kernel
theorem dX1_meets_2 : decode cX1_meets 2 = .ok (.iload_n 2, 1) := by decide +kernel
theorem dX1_meets_3 : decode cX1_meets 3 = .ok (.bipush 20, 2) := by decide +kernel
theorem dX1_meets_5 : decode cX1_meets 5 = .ok (.if_icmp .gt 63, 3) := by decide +kernel
theorem dX1_meets_8 : decode cX1_meets 8 = .ok (.iconst 0, 1) := by decide +kernel
theorem dX1_meets_9 : decode cX1_meets 9 = .ok (.istore_n 3, 1) := by decide +kernel
theorem dX1_meets_10 : decode cX1_meets 10 = .ok (.iload_n 3, 1) := by decide +kernel
theorem dX1_meets_11 : decode cX1_meets 11 = .ok (.aload_n 1, 1) := by decide +kernel
theorem dX1_meets_12 : decode cX1_meets 12 = .ok (.getfield 70, 3) := by decide +kernel
theorem dX1_meets_15 : decode cX1_meets 15 = .ok (.if_icmp .ge 34, 3) := by decide +kernel
theorem dX1_meets_18 : decode cX1_meets 18 = .ok (.aload_n 1, 1) := by decide +kernel
theorem dX1_meets_19 : decode cX1_meets 19 = .ok (.getfield 73, 3) := by decide +kernel
theorem dX1_meets_22 : decode cX1_meets 22 = .ok (.iload_n 3, 1) := by decide +kernel
theorem dX1_meets_23 : decode cX1_meets 23 = .ok (.iaload, 1) := by decide +kernel
theorem dX1_meets_24 : decode cX1_meets 24 = .ok (.iload_n 2, 1) := by decide +kernel
theorem dX1_meets_25 : decode cX1_meets 25 = .ok (.if_icmp .ne 18, 3) := by decide +kernel
theorem dX1_meets_28 : decode cX1_meets 28 = .ok (.aload_n 1, 1) := by decide +kernel
theorem dX1_meets_29 : decode cX1_meets 29 = .ok (.getfield 76, 3) := by decide +kernel
theorem dX1_meets_32 : decode cX1_meets 32 = .ok (.iload_n 3, 1) := by decide +kernel
theorem dX1_meets_33 : decode cX1_meets 33 = .ok (.iaload, 1) := by decide +kernel
theorem dX1_meets_34 : decode cX1_meets 34 = .ok (.aload_n 0, 1) := by decide +kernel
theorem dX1_meets_35 : decode cX1_meets 35 = .ok (.invokevirtual 67, 3) := by decide +kernel
theorem dX1_meets_38 : decode cX1_meets 38 = .ok (.if_icmp .eq 5, 3) := by decide +kernel
theorem dX1_meets_41 : decode cX1_meets 41 = .ok (.iconst 0, 1) := by decide +kernel
theorem dX1_meets_42 : decode cX1_meets 42 = .ok (.ireturn, 1) := by decide +kernel
theorem dX1_meets_43 : decode cX1_meets 43 = .ok (.iinc 3 1, 3) := by decide +kernel
theorem dX1_meets_46 : decode cX1_meets 46 = .ok (.goto (-36), 3) := by decide +kernel
theorem dX1_meets_49 : decode cX1_meets 49 = .ok (.aload_n 0, 1) := by decide +kernel
theorem dX1_meets_50 : decode cX1_meets 50 = .ok (.getfield 12, 3) := by decide +kernel
theorem dX1_meets_53 : decode cX1_meets 53 = .ok (.aload_n 0, 1) := by decide +kernel
theorem dX1_meets_54 : decode cX1_meets 54 = .ok (.getfield 24, 3) := by decide +kernel
theorem dX1_meets_57 : decode cX1_meets 57 = .ok (.iconst 1, 1) := by decide +kernel
theorem dX1_meets_58 : decode cX1_meets 58 = .ok (.iconst 0, 1) := by decide +kernel
theorem dX1_meets_59 : decode cX1_meets 59 = .ok (.invokevirtual 48, 3) := by decide +kernel
theorem dX1_meets_62 : decode cX1_meets 62 = .ok (.iinc 2 1, 3) := by decide +kernel
theorem dX1_meets_65 : decode cX1_meets 65 = .ok (.goto (-63), 3) := by decide +kernel
theorem dX1_meets_68 : decode cX1_meets 68 = .ok (.iconst 1, 1) := by decide +kernel
theorem dX1_meets_69 : decode cX1_meets 69 = .ok (.ireturn, 1) := by decide +kernel
set_option maxRecDepth 20000 in
theorem ggX1_follow_X2_goWeeks : GoodIn wsX1_follow wsX2_goWeeks := goodIn_r _ [7, 8, 9, 10, 11, 12, 13, 14, 15, 16, 17, 18, 19, 20, 21, 6, 22, 23, 24, 25, 26, 27, 28, 29, 30, 31, 32, 33, 34, 35, 36, 37, 38, 39, 40, 41, 42, 43, 44, 45, 46, 47, 48, 49, 50, 51, 52, 53, 54, 55, 56, 57, 58, 59, 60, 61, 62, 63, 70, 71, 72, 73, 74, 75, 76, 77, 78, 79, 80, 81, 82, 83, 84, 85, 86, 87] (by decide +kernel) (by decide +kernel)
set_option maxRecDepth 20000 in
theorem gX1_follow_X2_goWeeks : GoodIn wsX1_follow (wsV RX1 48 RX2 yX2_goWeeks wsX2_goWeeks) := goodIn_app (goodIn_of _ (by decide +kernel)) ggX1_follow_X2_goWeeks
theorem dX1_follow_0 : decode cX1_follow 0 = .ok (.iconst 0, 1) := by decide +kernel
theorem dX1_follow_1 : decode cX1_follow 1 = .ok (.istore_n 2, 1) := by decide +kernel
theorem dX1_follow_2 : decode cX1_follow 2 = .ok (.iload_n 2, 1) := by decide +kernel
theorem dX1_follow_3 : decode cX1_follow 3 = .ok (.aload_n 1, 1) := by decide +kernel
theorem dX1_follow_4 : decode cX1_follow 4 = .ok (.getfield 70, 3) := by decide +kernel
theorem dX1_follow_7 : decode cX1_follow 7 = .ok (.if_icmp .ge 103, 3) := by decide +kernel
theorem dX1_follow_10 : decode cX1_follow 10 = .ok (.aload_n 1, 1) := by decide +kernel
theorem dX1_follow_11 : decode cX1_follow 11 = .ok (.getfield 73, 3) := by decide +kernel
theorem dX1_follow_14 : decode cX1_follow 14 = .ok (.iload_n 2, 1) := by decide +kernel
theorem dX1_follow_15 : decode cX1_follow 15 = .ok (.iaload, 1) := by decide +kernel
theorem dX1_follow_16 : decode cX1_follow 16 = .ok (.istore_n 3, 1) := by decide +kernel
theorem dX1_follow_17 : decode cX1_follow 17 = .ok (.aload_n 1, 1) := by decide +kernel
theorem dX1_follow_18 : decode cX1_follow 18 = .ok (.getfield 76, 3) := by decide +kernel
theorem dX1_follow_21 : decode cX1_follow 21 = .ok (.iload_n 2, 1) := by decide +kernel
theorem dX1_follow_22 : decode cX1_follow 22 = .ok (.iaload, 1) := by decide +kernel
theorem dX1_follow_23 : decode cX1_follow 23 = .ok (.istore 4, 2) := by decide +kernel
theorem dX1_follow_25 : decode cX1_follow 25 = .ok (.iload 4, 2) := by decide +kernel
theorem dX1_follow_27 : decode cX1_follow 27 = .ok (.ifCond .ne 19, 3) := by decide +kernel
theorem dX1_follow_30 : decode cX1_follow 30 = .ok (.aload_n 0, 1) := by decide +kernel
theorem dX1_follow_31 : decode cX1_follow 31 = .ok (.getfield 12, 3) := by decide +kernel
theorem dX1_follow_34 : decode cX1_follow 34 = .ok (.aload_n 0, 1) := by decide +kernel
theorem dX1_follow_35 : decode cX1_follow 35 = .ok (.getfield 24, 3) := by decide +kernel
theorem dX1_follow_38 : decode cX1_follow 38 = .ok (.iconst 1, 1) := by decide +kernel
theorem dX1_follow_39 : decode cX1_follow 39 = .ok (.iconst 0, 1) := by decide +kernel
theorem dX1_follow_40 : decode cX1_follow 40 = .ok (.invokevirtual 48, 3) := by decide +kernel
theorem dX1_follow_43 : decode cX1_follow 43 = .ok (.goto 61, 3) := by decide +kernel
theorem dX1_follow_46 : decode cX1_follow 46 = .ok (.iload_n 3, 1) := by decide +kernel
theorem dX1_follow_47 : decode cX1_follow 47 = .ok (.ifCond .lt 57, 3) := by decide +kernel
theorem dX1_follow_50 : decode cX1_follow 50 = .ok (.iload_n 3, 1) := by decide +kernel
theorem dX1_follow_51 : decode cX1_follow 51 = .ok (.aload_n 0, 1) := by decide +kernel
theorem dX1_follow_52 : decode cX1_follow 52 = .ok (.getfield 12, 3) := by decide +kernel
theorem dX1_follow_55 : decode cX1_follow 55 = .ok (.getfield 64, 3) := by decide +kernel
theorem dX1_follow_58 : decode cX1_follow 58 = .ok (.if_icmp .lt 6, 3) := by decide +kernel
theorem dX1_follow_61 : decode cX1_follow 61 = .ok (.goto 43, 3) := by decide +kernel
theorem dX1_follow_64 : decode cX1_follow 64 = .ok (.iload 4, 2) := by decide +kernel
theorem dX1_follow_66 : decode cX1_follow 66 = .ok (.iconst 3, 1) := by decide +kernel
theorem dX1_follow_67 : decode cX1_follow 67 = .ok (.if_icmp .ne 17, 3) := by decide +kernel
theorem dX1_follow_70 : decode cX1_follow 70 = .ok (.aload_n 0, 1) := by decide +kernel
theorem dX1_follow_71 : decode cX1_follow 71 = .ok (.getfield 12, 3) := by decide +kernel
theorem dX1_follow_74 : decode cX1_follow 74 = .ok (.getfield 79, 3) := by decide +kernel
theorem dX1_follow_77 : decode cX1_follow 77 = .ok (.iload_n 3, 1) := by decide +kernel
theorem dX1_follow_78 : decode cX1_follow 78 = .ok (.bipush 99, 2) := by decide +kernel
theorem dX1_follow_80 : decode cX1_follow 80 = .ok (.iastore, 1) := by decide +kernel
theorem dX1_follow_81 : decode cX1_follow 81 = .ok (.goto 23, 3) := by decide +kernel
theorem dX1_follow_84 : decode cX1_follow 84 = .ok (.aload_n 0, 1) := by decide +kernel
theorem dX1_follow_85 : decode cX1_follow 85 = .ok (.getfield 12, 3) := by decide +kernel
theorem dX1_follow_88 : decode cX1_follow 88 = .ok (.getfield 44, 3) := by decide +kernel
theorem dX1_follow_91 : decode cX1_follow 91 = .ok (.iload_n 3, 1) := by decide +kernel
theorem dX1_follow_92 : decode cX1_follow 92 = .ok (.iload 4, 2) := by decide +kernel
theorem dX1_follow_94 : decode cX1_follow 94 = .ok (.iconst 1, 1) := by decide +kernel
theorem dX1_follow_95 : decode cX1_follow 95 = .ok (.if_icmp .ne 7, 3) := by decide +kernel
theorem dX1_follow_98 : decode cX1_follow 98 = .ok (.iconst 1, 1) := by decide +kernel
theorem dX1_follow_99 : decode cX1_follow 99 = .ok (.goto 4, 3) := by decide +kernel
theorem dX1_follow_102 : decode cX1_follow 102 = .ok (.iconst 0, 1) := by decide +kernel
theorem dX1_follow_103 : decode cX1_follow 103 = .ok (.bastore, 1) := by decide +kernel
theorem dX1_follow_104 : decode cX1_follow 104 = .ok (.iinc 2 1, 3) := by decide +kernel
theorem dX1_follow_107 : decode cX1_follow 107 = .ok (.goto (-105), 3) := by decide +kernel
theorem dX1_follow_110 : decode cX1_follow 110 = .ok (.return_, 1) := by decide +kernel
theorem dX2_init_0 : decode cX2_init 0 = .ok (.aload_n 0, 1) := by decide +kernel
theorem dX2_init_1 : decode cX2_init 1 = .ok (.invokespecial 3, 3) := by decide +kernel
theorem dX2_init_4 : decode cX2_init 4 = .ok (.aload_n 0, 1) := by decide +kernel
theorem dX2_init_5 : decode cX2_init 5 = .ok (.iconst 0, 1) := by decide +kernel
theorem dX2_init_6 : decode cX2_init 6 = .ok (.putfield 9, 3) := by decide +kernel
theorem dX2_init_9 : decode cX2_init 9 = .ok (.aload_n 0, 1) := by decide +kernel
theorem dX2_init_10 : decode cX2_init 10 = .ok (.iconst 0, 1) := by decide +kernel
theorem dX2_init_11 : decode cX2_init 11 = .ok (.putfield 15, 3) := by decide +kernel
theorem dX2_init_14 : decode cX2_init 14 = .ok (.aload_n 0, 1) := by decide +kernel
theorem dX2_init_15 : decode cX2_init 15 = .ok (.iconst 0, 1) := by decide +kernel
theorem dX2_init_16 : decode cX2_init 16 = .ok (.putfield 18, 3) := by decide +kernel
theorem dX2_init_19 : decode cX2_init 19 = .ok (.aload_n 0, 1) := by decide +kernel
theorem dX2_init_20 : decode cX2_init 20 = .ok (.bipush 6, 2) := by decide +kernel
theorem dX2_init_22 : decode cX2_init 22 = .ok (.newarray .int, 2) := by decide +kernel
theorem dX2_init_24 : decode cX2_init 24 = .ok (.putfield 21, 3) := by decide +kernel
theorem dX2_init_27 : decode cX2_init 27 = .ok (.aload_n 0, 1) := by decide +kernel
theorem dX2_init_28 : decode cX2_init 28 = .ok (.bipush 6, 2) := by decide +kernel
theorem dX2_init_30 : decode cX2_init 30 = .ok (.newarray .int, 2) := by decide +kernel
theorem dX2_init_32 : decode cX2_init 32 = .ok (.putfield 25, 3) := by decide +kernel
theorem dX2_init_35 : decode cX2_init 35 = .ok (.aload_n 0, 1) := by decide +kernel
theorem dX2_init_36 : decode cX2_init 36 = .ok (.bipush 6, 2) := by decide +kernel
theorem dX2_init_38 : decode cX2_init 38 = .ok (.newarray .int, 2) := by decide +kernel
theorem dX2_init_40 : decode cX2_init 40 = .ok (.putfield 28, 3) := by decide +kernel
theorem dX2_init_43 : decode cX2_init 43 = .ok (.aload_n 0, 1) := by decide +kernel
theorem dX2_init_44 : decode cX2_init 44 = .ok (.bipush 6, 2) := by decide +kernel
theorem dX2_init_46 : decode cX2_init 46 = .ok (.newarray .int, 2) := by decide +kernel
theorem dX2_init_48 : decode cX2_init 48 = .ok (.putfield 31, 3) := by decide +kernel
theorem dX2_init_51 : decode cX2_init 51 = .ok (.aload_n 0, 1) := by decide +kernel
theorem dX2_init_52 : decode cX2_init 52 = .ok (.bipush 6, 2) := by decide +kernel
theorem dX2_init_54 : decode cX2_init 54 = .ok (.newarray .int, 2) := by decide +kernel
theorem dX2_init_56 : decode cX2_init 56 = .ok (.putfield 34, 3) := by decide +kernel
theorem dX2_init_59 : decode cX2_init 59 = .ok (.aload_n 0, 1) := by decide +kernel
theorem dX2_init_60 : decode cX2_init 60 = .ok (.bipush 6, 2) := by decide +kernel
theorem dX2_init_62 : decode cX2_init 62 = .ok (.newarray .boolean, 2) := by decide +kernel
theorem dX2_init_64 : decode cX2_init 64 = .ok (.putfield 37, 3) := by decide +kernel
theorem dX2_init_67 : decode cX2_init 67 = .ok (.aload_n 0, 1) := by decide +kernel
theorem dX2_init_68 : decode cX2_init 68 = .ok (.bipush 24, 2) := by decide +kernel
theorem dX2_init_70 : decode cX2_init 70 = .ok (.newarray .int, 2) := by decide +kernel
theorem dX2_init_72 : decode cX2_init 72 = .ok (.putfield 41, 3) := by decide +kernel
theorem dX2_init_75 : decode cX2_init 75 = .ok (.aload_n 0, 1) := by decide +kernel
theorem dX2_init_76 : decode cX2_init 76 = .ok (.bipush 6, 2) := by decide +kernel
theorem dX2_init_78 : decode cX2_init 78 = .ok (.newarray .int, 2) := by decide +kernel
theorem dX2_init_80 : decode cX2_init 80 = .ok (.putfield 44, 3) := by decide +kernel
theorem dX2_init_83 : decode cX2_init 83 = .ok (.return_, 1) := by decide +kernel
theorem dX2_add_0 : decode cX2_add 0 = .ok (.aload_n 0, 1) := by decide +kernel
theorem dX2_add_1 : decode cX2_add 1 = .ok (.getfield 9, 3) := by decide +kernel
theorem dX2_add_4 : decode cX2_add 4 = .ok (.bipush 6, 2) := by decide +kernel
theorem dX2_add_6 : decode cX2_add 6 = .ok (.if_icmp .lt 6, 3) := by decide +kernel
theorem dX2_add_9 : decode cX2_add 9 = .ok (.bipush (-4), 2) := by decide +kernel
theorem dX2_add_11 : decode cX2_add 11 = .ok (.ireturn, 1) := by decide +kernel
theorem dX2_add_12 : decode cX2_add 12 = .ok (.aload_n 0, 1) := by decide +kernel
theorem dX2_add_13 : decode cX2_add 13 = .ok (.getfield 21, 3) := by decide +kernel
theorem dX2_add_16 : decode cX2_add 16 = .ok (.aload_n 0, 1) := by decide +kernel
theorem dX2_add_17 : decode cX2_add 17 = .ok (.getfield 9, 3) := by decide +kernel
theorem dX2_add_20 : decode cX2_add 20 = .ok (.iload_n 1, 1) := by decide +kernel
theorem dX2_add_21 : decode cX2_add 21 = .ok (.iastore, 1) := by decide +kernel
theorem dX2_add_22 : decode cX2_add 22 = .ok (.aload_n 0, 1) := by decide +kernel
theorem dX2_add_23 : decode cX2_add 23 = .ok (.getfield 25, 3) := by decide +kernel
theorem dX2_add_26 : decode cX2_add 26 = .ok (.aload_n 0, 1) := by decide +kernel
theorem dX2_add_27 : decode cX2_add 27 = .ok (.getfield 9, 3) := by decide +kernel
theorem dX2_add_30 : decode cX2_add 30 = .ok (.iload_n 2, 1) := by decide +kernel
theorem dX2_add_31 : decode cX2_add 31 = .ok (.iastore, 1) := by decide +kernel
theorem dX2_add_32 : decode cX2_add 32 = .ok (.aload_n 0, 1) := by decide +kernel
theorem dX2_add_33 : decode cX2_add 33 = .ok (.getfield 28, 3) := by decide +kernel
theorem dX2_add_36 : decode cX2_add 36 = .ok (.aload_n 0, 1) := by decide +kernel
theorem dX2_add_37 : decode cX2_add 37 = .ok (.getfield 9, 3) := by decide +kernel
theorem dX2_add_40 : decode cX2_add 40 = .ok (.iload_n 3, 1) := by decide +kernel
theorem dX2_add_41 : decode cX2_add 41 = .ok (.iastore, 1) := by decide +kernel
theorem dX2_add_42 : decode cX2_add 42 = .ok (.aload_n 0, 1) := by decide +kernel
theorem dX2_add_43 : decode cX2_add 43 = .ok (.getfield 31, 3) := by decide +kernel
theorem dX2_add_46 : decode cX2_add 46 = .ok (.aload_n 0, 1) := by decide +kernel
theorem dX2_add_47 : decode cX2_add 47 = .ok (.getfield 9, 3) := by decide +kernel
theorem dX2_add_50 : decode cX2_add 50 = .ok (.iload 4, 2) := by decide +kernel
theorem dX2_add_52 : decode cX2_add 52 = .ok (.iastore, 1) := by decide +kernel
theorem dX2_add_53 : decode cX2_add 53 = .ok (.aload_n 0, 1) := by decide +kernel
theorem dX2_add_54 : decode cX2_add 54 = .ok (.getfield 34, 3) := by decide +kernel
theorem dX2_add_57 : decode cX2_add 57 = .ok (.aload_n 0, 1) := by decide +kernel
theorem dX2_add_58 : decode cX2_add 58 = .ok (.getfield 9, 3) := by decide +kernel
theorem dX2_add_61 : decode cX2_add 61 = .ok (.iconst 0, 1) := by decide +kernel
theorem dX2_add_62 : decode cX2_add 62 = .ok (.iastore, 1) := by decide +kernel
theorem dX2_add_63 : decode cX2_add 63 = .ok (.aload_n 0, 1) := by decide +kernel
theorem dX2_add_64 : decode cX2_add 64 = .ok (.getfield 37, 3) := by decide +kernel
theorem dX2_add_67 : decode cX2_add 67 = .ok (.aload_n 0, 1) := by decide +kernel
theorem dX2_add_68 : decode cX2_add 68 = .ok (.getfield 9, 3) := by decide +kernel
theorem dX2_add_71 : decode cX2_add 71 = .ok (.iconst 0, 1) := by decide +kernel
theorem dX2_add_72 : decode cX2_add 72 = .ok (.bastore, 1) := by decide +kernel
theorem dX2_add_73 : decode cX2_add 73 = .ok (.iconst 0, 1) := by decide +kernel
theorem dX2_add_74 : decode cX2_add 74 = .ok (.istore 5, 2) := by decide +kernel
theorem dX2_add_76 : decode cX2_add 76 = .ok (.iload 5, 2) := by decide +kernel
theorem dX2_add_78 : decode cX2_add 78 = .ok (.iconst 4, 1) := by decide +kernel
theorem dX2_add_79 : decode cX2_add 79 = .ok (.if_icmp .ge 24, 3) := by decide +kernel
theorem dX2_add_82 : decode cX2_add 82 = .ok (.aload_n 0, 1) := by decide +kernel
theorem dX2_add_83 : decode cX2_add 83 = .ok (.getfield 41, 3) := by decide +kernel
theorem dX2_add_86 : decode cX2_add 86 = .ok (.aload_n 0, 1) := by decide +kernel
theorem dX2_add_87 : decode cX2_add 87 = .ok (.getfield 9, 3) := by decide +kernel
theorem dX2_add_90 : decode cX2_add 90 = .ok (.iconst 4, 1) := by decide +kernel
theorem dX2_add_91 : decode cX2_add 91 = .ok (.imul, 1) := by decide +kernel
theorem dX2_add_92 : decode cX2_add 92 = .ok (.iload 5, 2) := by decide +kernel
theorem dX2_add_94 : decode cX2_add 94 = .ok (.iadd, 1) := by decide +kernel
theorem dX2_add_95 : decode cX2_add 95 = .ok (.iconst 0, 1) := by decide +kernel
theorem dX2_add_96 : decode cX2_add 96 = .ok (.iastore, 1) := by decide +kernel
theorem dX2_add_97 : decode cX2_add 97 = .ok (.iinc 5 1, 3) := by decide +kernel
theorem dX2_add_100 : decode cX2_add 100 = .ok (.goto (-24), 3) := by decide +kernel
theorem dX2_add_103 : decode cX2_add 103 = .ok (.aload_n 0, 1) := by decide +kernel
theorem dX2_add_104 : decode cX2_add 104 = .ok (.dup, 1) := by decide +kernel
theorem dX2_add_105 : decode cX2_add 105 = .ok (.getfield 9, 3) := by decide +kernel
theorem dX2_add_108 : decode cX2_add 108 = .ok (.iconst 1, 1) := by decide +kernel
theorem dX2_add_109 : decode cX2_add 109 = .ok (.iadd, 1) := by decide +kernel
theorem dX2_add_110 : decode cX2_add 110 = .ok (.putfield 9, 3) := by decide +kernel
theorem dX2_add_113 : decode cX2_add 113 = .ok (.aload_n 0, 1) := by decide +kernel
theorem dX2_add_114 : decode cX2_add 114 = .ok (.getfield 9, 3) := by decide +kernel
theorem dX2_add_117 : decode cX2_add 117 = .ok (.iconst 1, 1) := by decide +kernel
theorem dX2_add_118 : decode cX2_add 118 = .ok (.isub, 1) := by decide +kernel
theorem dX2_add_119 : decode cX2_add 119 = .ok (.ireturn, 1) := by decide +kernel
theorem dX2_copyFrom_0 : decode cX2_copyFrom 0 = .ok (.aload_n 0, 1) := by decide +kernel
theorem dX2_copyFrom_1 : decode cX2_copyFrom 1 = .ok (.aload_n 1, 1) := by decide +kernel
theorem dX2_copyFrom_2 : decode cX2_copyFrom 2 = .ok (.getfield 9, 3) := by decide +kernel
theorem dX2_copyFrom_5 : decode cX2_copyFrom 5 = .ok (.putfield 9, 3) := by decide +kernel
theorem dX2_copyFrom_8 : decode cX2_copyFrom 8 = .ok (.aload_n 0, 1) := by decide +kernel
theorem dX2_copyFrom_9 : decode cX2_copyFrom 9 = .ok (.aload_n 1, 1) := by decide +kernel
theorem dX2_copyFrom_10 : decode cX2_copyFrom 10 = .ok (.getfield 15, 3) := by decide +kernel
theorem dX2_copyFrom_13 : decode cX2_copyFrom 13 = .ok (.putfield 15, 3) := by decide +kernel
theorem dX2_copyFrom_16 : decode cX2_copyFrom 16 = .ok (.aload_n 0, 1) := by decide +kernel
theorem dX2_copyFrom_17 : decode cX2_copyFrom 17 = .ok (.aload_n 1, 1) := by decide +kernel
theorem dX2_copyFrom_18 : decode cX2_copyFrom 18 = .ok (.getfield 18, 3) := by decide +kernel
theorem dX2_copyFrom_21 : decode cX2_copyFrom 21 = .ok (.putfield 18, 3) := by decide +kernel
theorem dX2_copyFrom_24 : decode cX2_copyFrom 24 = .ok (.iconst 0, 1) := by decide +kernel
theorem dX2_copyFrom_25 : decode cX2_copyFrom 25 = .ok (.istore_n 2, 1) := by decide +kernel
theorem dX2_copyFrom_26 : decode cX2_copyFrom 26 = .ok (.iload_n 2, 1) := by decide +kernel
theorem dX2_copyFrom_27 : decode cX2_copyFrom 27 = .ok (.aload_n 0, 1) := by decide +kernel
theorem dX2_copyFrom_28 : decode cX2_copyFrom 28 = .ok (.getfield 9, 3) := by decide +kernel
theorem dX2_copyFrom_31 : decode cX2_copyFrom 31 = .ok (.if_icmp .ge 81, 3) := by decide +kernel
theorem dX2_copyFrom_34 : decode cX2_copyFrom 34 = .ok (.aload_n 0, 1) := by decide +kernel
theorem dX2_copyFrom_35 : decode cX2_copyFrom 35 = .ok (.getfield 21, 3) := by decide +kernel
theorem dX2_copyFrom_38 : decode cX2_copyFrom 38 = .ok (.iload_n 2, 1) := by decide +kernel
theorem dX2_copyFrom_39 : decode cX2_copyFrom 39 = .ok (.aload_n 1, 1) := by decide +kernel
theorem dX2_copyFrom_40 : decode cX2_copyFrom 40 = .ok (.getfield 21, 3) := by decide +kernel
theorem dX2_copyFrom_43 : decode cX2_copyFrom 43 = .ok (.iload_n 2, 1) := by decide +kernel
theorem dX2_copyFrom_44 : decode cX2_copyFrom 44 = .ok (.iaload, 1) := by decide +kernel
theorem dX2_copyFrom_45 : decode cX2_copyFrom 45 = .ok (.iastore, 1) := by decide +kernel
theorem dX2_copyFrom_46 : decode cX2_copyFrom 46 = .ok (.aload_n 0, 1) := by decide +kernel
theorem dX2_copyFrom_47 : decode cX2_copyFrom 47 = .ok (.getfield 25, 3) := by decide +kernel
theorem dX2_copyFrom_50 : decode cX2_copyFrom 50 = .ok (.iload_n 2, 1) := by decide +kernel
theorem dX2_copyFrom_51 : decode cX2_copyFrom 51 = .ok (.aload_n 1, 1) := by decide +kernel
theorem dX2_copyFrom_52 : decode cX2_copyFrom 52 = .ok (.getfield 25, 3) := by decide +kernel
theorem dX2_copyFrom_55 : decode cX2_copyFrom 55 = .ok (.iload_n 2, 1) := by decide +kernel
theorem dX2_copyFrom_56 : decode cX2_copyFrom 56 = .ok (.iaload, 1) := by decide +kernel
theorem dX2_copyFrom_57 : decode cX2_copyFrom 57 = .ok (.iastore, 1) := by decide +kernel
theorem dX2_copyFrom_58 : decode cX2_copyFrom 58 = .ok (.aload_n 0, 1) := by decide +kernel
theorem dX2_copyFrom_59 : decode cX2_copyFrom 59 = .ok (.getfield 28, 3) := by decide +kernel
theorem dX2_copyFrom_62 : decode cX2_copyFrom 62 = .ok (.iload_n 2, 1) := by decide +kernel
theorem dX2_copyFrom_63 : decode cX2_copyFrom 63 = .ok (.aload_n 1, 1) := by decide +kernel
theorem dX2_copyFrom_64 : decode cX2_copyFrom 64 = .ok (.getfield 28, 3) := by decide +kernel
theorem dX2_copyFrom_67 : decode cX2_copyFrom 67 = .ok (.iload_n 2, 1) := by decide +kernel
theorem dX2_copyFrom_68 : decode cX2_copyFrom 68 = .ok (.iaload, 1) := by decide +kernel
theorem dX2_copyFrom_69 : decode cX2_copyFrom 69 = .ok (.iastore, 1) := by decide +kernel
theorem dX2_copyFrom_70 : decode cX2_copyFrom 70 = .ok (.aload_n 0, 1) := by decide +kernel
theorem dX2_copyFrom_71 : decode cX2_copyFrom 71 = .ok (.getfield 31, 3) := by decide +kernel
theorem dX2_copyFrom_74 : decode cX2_copyFrom 74 = .ok (.iload_n 2, 1) := by decide +kernel
theorem dX2_copyFrom_75 : decode cX2_copyFrom 75 = .ok (.aload_n 1, 1) := by decide +kernel
theorem dX2_copyFrom_76 : decode cX2_copyFrom 76 = .ok (.getfield 31, 3) := by decide +kernel
theorem dX2_copyFrom_79 : decode cX2_copyFrom 79 = .ok (.iload_n 2, 1) := by decide +kernel
theorem dX2_copyFrom_80 : decode cX2_copyFrom 80 = .ok (.iaload, 1) := by decide +kernel
theorem dX2_copyFrom_81 : decode cX2_copyFrom 81 = .ok (.iastore, 1) := by decide +kernel
theorem dX2_copyFrom_82 : decode cX2_copyFrom 82 = .ok (.aload_n 0, 1) := by decide +kernel
theorem dX2_copyFrom_83 : decode cX2_copyFrom 83 = .ok (.getfield 34, 3) := by decide +kernel
theorem dX2_copyFrom_86 : decode cX2_copyFrom 86 = .ok (.iload_n 2, 1) := by decide +kernel
theorem dX2_copyFrom_87 : decode cX2_copyFrom 87 = .ok (.aload_n 1, 1) := by decide +kernel
theorem dX2_copyFrom_88 : decode cX2_copyFrom 88 = .ok (.getfield 34, 3) := by decide +kernel
theorem dX2_copyFrom_91 : decode cX2_copyFrom 91 = .ok (.iload_n 2, 1) := by decide +kernel
theorem dX2_copyFrom_92 : decode cX2_copyFrom 92 = .ok (.iaload, 1) := by decide +kernel
theorem dX2_copyFrom_93 : decode cX2_copyFrom 93 = .ok (.iastore, 1) := by decide +kernel
theorem dX2_copyFrom_94 : decode cX2_copyFrom 94 = .ok (.aload_n 0, 1) := by decide +kernel
theorem dX2_copyFrom_95 : decode cX2_copyFrom 95 = .ok (.getfield 37, 3) := by decide +kernel
theorem dX2_copyFrom_98 : decode cX2_copyFrom 98 = .ok (.iload_n 2, 1) := by decide +kernel
theorem dX2_copyFrom_99 : decode cX2_copyFrom 99 = .ok (.aload_n 1, 1) := by decide +kernel
theorem dX2_copyFrom_100 : decode cX2_copyFrom 100 = .ok (.getfield 37, 3) := by decide +kernel
theorem dX2_copyFrom_103 : decode cX2_copyFrom 103 = .ok (.iload_n 2, 1) := by decide +kernel
theorem dX2_copyFrom_104 : decode cX2_copyFrom 104 = .ok (.baload, 1) := by decide +kernel
theorem dX2_copyFrom_105 : decode cX2_copyFrom 105 = .ok (.bastore, 1) := by decide +kernel
theorem dX2_copyFrom_106 : decode cX2_copyFrom 106 = .ok (.iinc 2 1, 3) := by decide +kernel
theorem dX2_copyFrom_109 : decode cX2_copyFrom 109 = .ok (.goto (-83), 3) := by decide +kernel
theorem dX2_copyFrom_112 : decode cX2_copyFrom 112 = .ok (.aload_n 1, 1) := by decide +kernel
theorem dX2_copyFrom_113 : decode cX2_copyFrom 113 = .ok (.getfield 41, 3) := by decide +kernel
theorem dX2_copyFrom_116 : decode cX2_copyFrom 116 = .ok (.iconst 0, 1) := by decide +kernel
theorem dX2_copyFrom_117 : decode cX2_copyFrom 117 = .ok (.aload_n 0, 1) := by decide +kernel
theorem dX2_copyFrom_118 : decode cX2_copyFrom 118 = .ok (.getfield 41, 3) := by decide +kernel
theorem dX2_copyFrom_121 : decode cX2_copyFrom 121 = .ok (.iconst 0, 1) := by decide +kernel
theorem dX2_copyFrom_122 : decode cX2_copyFrom 122 = .ok (.aload_n 0, 1) := by decide +kernel
theorem dX2_copyFrom_123 : decode cX2_copyFrom 123 = .ok (.getfield 9, 3) := by decide +kernel
theorem dX2_copyFrom_126 : decode cX2_copyFrom 126 = .ok (.iconst 4, 1) := by decide +kernel
theorem dX2_copyFrom_127 : decode cX2_copyFrom 127 = .ok (.imul, 1) := by decide +kernel
theorem dX2_copyFrom_128 : decode cX2_copyFrom 128 = .ok (.invokestatic 47, 3) := by decide +kernel
theorem dX2_copyFrom_131 : decode cX2_copyFrom 131 = .ok (.return_, 1) := by decide +kernel
theorem dX2_subjectOf_0 : decode cX2_subjectOf 0 = .ok (.iload_n 2, 1) := by decide +kernel
theorem dX2_subjectOf_1 : decode cX2_subjectOf 1 = .ok (.tableswitch 68 0 4 #[35, 37, 44, 51, 58], 35) := by decide +kernel
theorem dX2_subjectOf_36 : decode cX2_subjectOf 36 = .ok (.iload_n 1, 1) := by decide +kernel
theorem dX2_subjectOf_37 : decode cX2_subjectOf 37 = .ok (.ireturn, 1) := by decide +kernel
theorem dX2_subjectOf_38 : decode cX2_subjectOf 38 = .ok (.aload_n 0, 1) := by decide +kernel
theorem dX2_subjectOf_39 : decode cX2_subjectOf 39 = .ok (.getfield 21, 3) := by decide +kernel
theorem dX2_subjectOf_42 : decode cX2_subjectOf 42 = .ok (.iload_n 1, 1) := by decide +kernel
theorem dX2_subjectOf_43 : decode cX2_subjectOf 43 = .ok (.iaload, 1) := by decide +kernel
theorem dX2_subjectOf_44 : decode cX2_subjectOf 44 = .ok (.ireturn, 1) := by decide +kernel
theorem dX2_subjectOf_45 : decode cX2_subjectOf 45 = .ok (.aload_n 0, 1) := by decide +kernel
theorem dX2_subjectOf_46 : decode cX2_subjectOf 46 = .ok (.getfield 25, 3) := by decide +kernel
theorem dX2_subjectOf_49 : decode cX2_subjectOf 49 = .ok (.iload_n 1, 1) := by decide +kernel
theorem dX2_subjectOf_50 : decode cX2_subjectOf 50 = .ok (.iaload, 1) := by decide +kernel
theorem dX2_subjectOf_51 : decode cX2_subjectOf 51 = .ok (.ireturn, 1) := by decide +kernel
theorem dX2_subjectOf_52 : decode cX2_subjectOf 52 = .ok (.aload_n 0, 1) := by decide +kernel
theorem dX2_subjectOf_53 : decode cX2_subjectOf 53 = .ok (.getfield 28, 3) := by decide +kernel
theorem dX2_subjectOf_56 : decode cX2_subjectOf 56 = .ok (.iload_n 1, 1) := by decide +kernel
theorem dX2_subjectOf_57 : decode cX2_subjectOf 57 = .ok (.iaload, 1) := by decide +kernel
theorem dX2_subjectOf_58 : decode cX2_subjectOf 58 = .ok (.ireturn, 1) := by decide +kernel
theorem dX2_subjectOf_59 : decode cX2_subjectOf 59 = .ok (.aload_n 0, 1) := by decide +kernel
theorem dX2_subjectOf_60 : decode cX2_subjectOf 60 = .ok (.getfield 34, 3) := by decide +kernel
theorem dX2_subjectOf_63 : decode cX2_subjectOf 63 = .ok (.iload_n 1, 1) := by decide +kernel
theorem dX2_subjectOf_64 : decode cX2_subjectOf 64 = .ok (.iaload, 1) := by decide +kernel
theorem dX2_subjectOf_65 : decode cX2_subjectOf 65 = .ok (.bipush 10, 2) := by decide +kernel
theorem dX2_subjectOf_67 : decode cX2_subjectOf 67 = .ok (.idiv, 1) := by decide +kernel
theorem dX2_subjectOf_68 : decode cX2_subjectOf 68 = .ok (.ireturn, 1) := by decide +kernel
theorem dX2_subjectOf_69 : decode cX2_subjectOf 69 = .ok (.aload_n 0, 1) := by decide +kernel
theorem dX2_subjectOf_70 : decode cX2_subjectOf 70 = .ok (.getfield 15, 3) := by decide +kernel
theorem dX2_subjectOf_73 : decode cX2_subjectOf 73 = .ok (.bipush 10, 2) := by decide +kernel
theorem dX2_subjectOf_75 : decode cX2_subjectOf 75 = .ok (.irem, 1) := by decide +kernel
theorem dX2_subjectOf_76 : decode cX2_subjectOf 76 = .ok (.ireturn, 1) := by decide +kernel
set_option maxRecDepth 20000 in
theorem ggX2_doesOf_X3_zealOf : GoodIn wsX2_doesOf wsX3_zealOf := goodIn_r _ [17, 18, 19, 20, 21, 22, 11, 8, 12, 23, 24, 16, 25, 26, 27, 28, 29, 30, 2, 3, 31, 32, 33, 58, 59, 60, 61, 62, 63, 64, 47, 48, 49, 50, 51, 52, 53, 54, 55, 56, 57] (by decide +kernel) (by decide +kernel)
set_option maxRecDepth 20000 in
theorem gX2_doesOf_X3_zealOf : GoodIn wsX2_doesOf (wsV RX2 53 RX3 yX3_zealOf wsX3_zealOf) := goodIn_app (goodIn_of _ (by decide +kernel)) ggX2_doesOf_X3_zealOf
set_option maxRecDepth 20000 in
theorem ggX2_doesOf_X2_countIn : GoodIn wsX2_doesOf wsX2_countIn := goodIn_r _ [37, 4, 1, 47, 48, 49, 50, 51, 52, 53, 54, 55, 56, 57] (by decide +kernel) (by decide +kernel)
set_option maxRecDepth 20000 in
theorem gX2_doesOf_X2_countIn : GoodIn wsX2_doesOf (wsV RX2 59 RX2 yX2_countIn wsX2_countIn) := goodIn_app (goodIn_of _ (by decide +kernel)) ggX2_doesOf_X2_countIn
set_option maxRecDepth 20000 in
theorem ggX2_doesOf_X2_countBetter : GoodIn wsX2_doesOf wsX2_countBetter := goodIn_r _ [41, 4, 1, 31, 47, 48, 49, 50, 51, 52, 53, 54, 55, 56, 57] (by decide +kernel) (by decide +kernel)
set_option maxRecDepth 20000 in
theorem gX2_doesOf_X2_countBetter : GoodIn wsX2_doesOf (wsV RX2 63 RX2 yX2_countBetter wsX2_countBetter) := goodIn_app (goodIn_of _ (by decide +kernel)) ggX2_doesOf_X2_countBetter
set_option maxRecDepth 20000 in
theorem ggX2_doesOf_X2_rowNow : GoodIn wsX2_doesOf wsX2_rowNow := goodIn_r _ [45, 46, 33, 47, 48, 49, 50, 51, 52, 53, 54, 55, 56, 57] (by decide +kernel) (by decide +kernel)
set_option maxRecDepth 20000 in
theorem gX2_doesOf_X2_rowNow : GoodIn wsX2_doesOf (wsV RX2 67 RX2 yX2_rowNow wsX2_rowNow) := goodIn_app (goodIn_of _ (by decide +kernel)) ggX2_doesOf_X2_rowNow
theorem dX2_doesOf_0 : decode cX2_doesOf 0 = .ok (.aload_n 0, 1) := by decide +kernel
theorem dX2_doesOf_1 : decode cX2_doesOf 1 = .ok (.getfield 37, 3) := by decide +kernel
theorem dX2_doesOf_4 : decode cX2_doesOf 4 = .ok (.iload_n 1, 1) := by decide +kernel
theorem dX2_doesOf_5 : decode cX2_doesOf 5 = .ok (.baload, 1) := by decide +kernel
theorem dX2_doesOf_6 : decode cX2_doesOf 6 = .ok (.ifCond .eq 5, 3) := by decide +kernel
theorem dX2_doesOf_9 : decode cX2_doesOf 9 = .ok (.iconst 0, 1) := by decide +kernel
theorem dX2_doesOf_10 : decode cX2_doesOf 10 = .ok (.ireturn, 1) := by decide +kernel
theorem dX2_doesOf_11 : decode cX2_doesOf 11 = .ok (.aload_n 2, 1) := by decide +kernel
theorem dX2_doesOf_12 : decode cX2_doesOf 12 = .ok (.aload_n 0, 1) := by decide +kernel
theorem dX2_doesOf_13 : decode cX2_doesOf 13 = .ok (.iload_n 1, 1) := by decide +kernel
theorem dX2_doesOf_14 : decode cX2_doesOf 14 = .ok (.invokevirtual 53, 3) := by decide +kernel
theorem dX2_doesOf_17 : decode cX2_doesOf 17 = .ok (.istore_n 3, 1) := by decide +kernel
theorem dX2_doesOf_18 : decode cX2_doesOf 18 = .ok (.iload_n 3, 1) := by decide +kernel
theorem dX2_doesOf_19 : decode cX2_doesOf 19 = .ok (.istore 4, 2) := by decide +kernel
theorem dX2_doesOf_21 : decode cX2_doesOf 21 = .ok (.aload_n 0, 1) := by decide +kernel
theorem dX2_doesOf_22 : decode cX2_doesOf 22 = .ok (.getfield 21, 3) := by decide +kernel
theorem dX2_doesOf_25 : decode cX2_doesOf 25 = .ok (.iload_n 1, 1) := by decide +kernel
theorem dX2_doesOf_26 : decode cX2_doesOf 26 = .ok (.iaload, 1) := by decide +kernel
theorem dX2_doesOf_27 : decode cX2_doesOf 27 = .ok (.tableswitch 111 1 6 #[37, 52, 111, 60, 85, 99], 37) := by decide +kernel
theorem dX2_doesOf_64 : decode cX2_doesOf 64 = .ok (.iload_n 3, 1) := by decide +kernel
theorem dX2_doesOf_65 : decode cX2_doesOf 65 = .ok (.aload_n 0, 1) := by decide +kernel
theorem dX2_doesOf_66 : decode cX2_doesOf 66 = .ok (.getfield 25, 3) := by decide +kernel
theorem dX2_doesOf_69 : decode cX2_doesOf 69 = .ok (.iload_n 1, 1) := by decide +kernel
theorem dX2_doesOf_70 : decode cX2_doesOf 70 = .ok (.iaload, 1) := by decide +kernel
theorem dX2_doesOf_71 : decode cX2_doesOf 71 = .ok (.iconst 2, 1) := by decide +kernel
theorem dX2_doesOf_72 : decode cX2_doesOf 72 = .ok (.idiv, 1) := by decide +kernel
theorem dX2_doesOf_73 : decode cX2_doesOf 73 = .ok (.iadd, 1) := by decide +kernel
theorem dX2_doesOf_74 : decode cX2_doesOf 74 = .ok (.istore 4, 2) := by decide +kernel
theorem dX2_doesOf_76 : decode cX2_doesOf 76 = .ok (.goto 62, 3) := by decide +kernel
theorem dX2_doesOf_79 : decode cX2_doesOf 79 = .ok (.iload_n 3, 1) := by decide +kernel
theorem dX2_doesOf_80 : decode cX2_doesOf 80 = .ok (.iconst 2, 1) := by decide +kernel
theorem dX2_doesOf_81 : decode cX2_doesOf 81 = .ok (.idiv, 1) := by decide +kernel
theorem dX2_doesOf_82 : decode cX2_doesOf 82 = .ok (.istore 4, 2) := by decide +kernel
theorem dX2_doesOf_84 : decode cX2_doesOf 84 = .ok (.goto 54, 3) := by decide +kernel
theorem dX2_doesOf_87 : decode cX2_doesOf 87 = .ok (.iload_n 3, 1) := by decide +kernel
theorem dX2_doesOf_88 : decode cX2_doesOf 88 = .ok (.aload_n 0, 1) := by decide +kernel
theorem dX2_doesOf_89 : decode cX2_doesOf 89 = .ok (.getfield 25, 3) := by decide +kernel
theorem dX2_doesOf_92 : decode cX2_doesOf 92 = .ok (.iload_n 1, 1) := by decide +kernel
theorem dX2_doesOf_93 : decode cX2_doesOf 93 = .ok (.iaload, 1) := by decide +kernel
theorem dX2_doesOf_94 : decode cX2_doesOf 94 = .ok (.iconst 2, 1) := by decide +kernel
theorem dX2_doesOf_95 : decode cX2_doesOf 95 = .ok (.idiv, 1) := by decide +kernel
theorem dX2_doesOf_96 : decode cX2_doesOf 96 = .ok (.iadd, 1) := by decide +kernel
theorem dX2_doesOf_97 : decode cX2_doesOf 97 = .ok (.aload_n 0, 1) := by decide +kernel
theorem dX2_doesOf_98 : decode cX2_doesOf 98 = .ok (.getfield 9, 3) := by decide +kernel
theorem dX2_doesOf_101 : decode cX2_doesOf 101 = .ok (.iadd, 1) := by decide +kernel
theorem dX2_doesOf_102 : decode cX2_doesOf 102 = .ok (.aload_n 0, 1) := by decide +kernel
theorem dX2_doesOf_103 : decode cX2_doesOf 103 = .ok (.invokevirtual 59, 3) := by decide +kernel
theorem dX2_doesOf_106 : decode cX2_doesOf 106 = .ok (.isub, 1) := by decide +kernel
theorem dX2_doesOf_107 : decode cX2_doesOf 107 = .ok (.istore 4, 2) := by decide +kernel
theorem dX2_doesOf_109 : decode cX2_doesOf 109 = .ok (.goto 29, 3) := by decide +kernel
theorem dX2_doesOf_112 : decode cX2_doesOf 112 = .ok (.iload_n 3, 1) := by decide +kernel
theorem dX2_doesOf_113 : decode cX2_doesOf 113 = .ok (.iconst 2, 1) := by decide +kernel
theorem dX2_doesOf_114 : decode cX2_doesOf 114 = .ok (.idiv, 1) := by decide +kernel
theorem dX2_doesOf_115 : decode cX2_doesOf 115 = .ok (.aload_n 0, 1) := by decide +kernel
theorem dX2_doesOf_116 : decode cX2_doesOf 116 = .ok (.iload_n 1, 1) := by decide +kernel
theorem dX2_doesOf_117 : decode cX2_doesOf 117 = .ok (.invokevirtual 63, 3) := by decide +kernel
theorem dX2_doesOf_120 : decode cX2_doesOf 120 = .ok (.isub, 1) := by decide +kernel
theorem dX2_doesOf_121 : decode cX2_doesOf 121 = .ok (.istore 4, 2) := by decide +kernel
theorem dX2_doesOf_123 : decode cX2_doesOf 123 = .ok (.goto 15, 3) := by decide +kernel
theorem dX2_doesOf_126 : decode cX2_doesOf 126 = .ok (.iload_n 3, 1) := by decide +kernel
theorem dX2_doesOf_127 : decode cX2_doesOf 127 = .ok (.aload_n 0, 1) := by decide +kernel
theorem dX2_doesOf_128 : decode cX2_doesOf 128 = .ok (.iload_n 1, 1) := by decide +kernel
theorem dX2_doesOf_129 : decode cX2_doesOf 129 = .ok (.invokevirtual 67, 3) := by decide +kernel
theorem dX2_doesOf_132 : decode cX2_doesOf 132 = .ok (.iadd, 1) := by decide +kernel
theorem dX2_doesOf_133 : decode cX2_doesOf 133 = .ok (.istore 4, 2) := by decide +kernel
theorem dX2_doesOf_135 : decode cX2_doesOf 135 = .ok (.goto 3, 3) := by decide +kernel
theorem dX2_doesOf_138 : decode cX2_doesOf 138 = .ok (.iconst 0, 1) := by decide +kernel
theorem dX2_doesOf_139 : decode cX2_doesOf 139 = .ok (.iload 4, 2) := by decide +kernel
theorem dX2_doesOf_141 : decode cX2_doesOf 141 = .ok (.aload_n 0, 1) := by decide +kernel
theorem dX2_doesOf_142 : decode cX2_doesOf 142 = .ok (.getfield 31, 3) := by decide +kernel
theorem dX2_doesOf_145 : decode cX2_doesOf 145 = .ok (.iload_n 1, 1) := by decide +kernel
theorem dX2_doesOf_146 : decode cX2_doesOf 146 = .ok (.iaload, 1) := by decide +kernel
theorem dX2_doesOf_147 : decode cX2_doesOf 147 = .ok (.invokestatic 70, 3) := by decide +kernel
theorem dX2_doesOf_150 : decode cX2_doesOf 150 = .ok (.invokestatic 76, 3) := by decide +kernel
theorem dX2_doesOf_153 : decode cX2_doesOf 153 = .ok (.ireturn, 1) := by decide +kernel
set_option maxRecDepth 20000 in
theorem ggX2_goWeeks_X2_doesOf : GoodIn wsX2_goWeeks wsX2_doesOf := goodIn_r _ [16, 17, 18, 19, 1, 20, 6, 7, 8, 9, 21, 22, 23, 24, 25, 26, 27, 28, 29, 30, 31, 32, 33, 34, 35, 36, 37, 38, 39, 15, 40, 5, 3, 11, 41, 42, 43, 44, 45, 46, 47, 48, 49, 50, 51, 52, 53, 58, 59, 60, 61, 62, 63, 64, 65, 66, 67, 68, 69, 70, 71, 72, 73, 74, 75] (by decide +kernel) (by decide +kernel)
set_option maxRecDepth 20000 in
theorem gX2_goWeeks_X2_doesOf : GoodIn wsX2_goWeeks (wsV RX2 79 RX2 yX2_doesOf wsX2_doesOf) := goodIn_app (goodIn_of _ (by decide +kernel)) ggX2_goWeeks_X2_doesOf
set_option maxRecDepth 20000 in
theorem ggX2_goWeeks_X2_changeWills : GoodIn wsX2_goWeeks wsX2_changeWills := goodIn_r _ [57, 1, 2, 17, 20, 21, 22, 8, 23, 6, 7, 9, 41, 42, 43, 15, 44, 58, 59, 60, 61, 62, 63, 64, 65, 66, 67, 68] (by decide +kernel) (by decide +kernel)
set_option maxRecDepth 20000 in
theorem gX2_goWeeks_X2_changeWills : GoodIn wsX2_goWeeks (wsV RX2 87 RX2 yX2_changeWills wsX2_changeWills) := goodIn_app (goodIn_of _ (by decide +kernel)) ggX2_goWeeks_X2_changeWills
theorem dX2_goWeeks_0 : decode cX2_goWeeks 0 = .ok (.iconst 0, 1) := by decide +kernel
theorem dX2_goWeeks_1 : decode cX2_goWeeks 1 = .ok (.istore 4, 2) := by decide +kernel
theorem dX2_goWeeks_3 : decode cX2_goWeeks 3 = .ok (.iload 4, 2) := by decide +kernel
theorem dX2_goWeeks_5 : decode cX2_goWeeks 5 = .ok (.iload_n 2, 1) := by decide +kernel
theorem dX2_goWeeks_6 : decode cX2_goWeeks 6 = .ok (.if_icmp .ge 159, 3) := by decide +kernel
theorem dX2_goWeeks_9 : decode cX2_goWeeks 9 = .ok (.iconst 0, 1) := by decide +kernel
theorem dX2_goWeeks_10 : decode cX2_goWeeks 10 = .ok (.istore 5, 2) := by decide +kernel
theorem dX2_goWeeks_12 : decode cX2_goWeeks 12 = .ok (.iload 5, 2) := by decide +kernel
theorem dX2_goWeeks_14 : decode cX2_goWeeks 14 = .ok (.aload_n 0, 1) := by decide +kernel
theorem dX2_goWeeks_15 : decode cX2_goWeeks 15 = .ok (.getfield 9, 3) := by decide +kernel
theorem dX2_goWeeks_18 : decode cX2_goWeeks 18 = .ok (.if_icmp .ge 23, 3) := by decide +kernel
theorem dX2_goWeeks_21 : decode cX2_goWeeks 21 = .ok (.aload_n 0, 1) := by decide +kernel
theorem dX2_goWeeks_22 : decode cX2_goWeeks 22 = .ok (.getfield 44, 3) := by decide +kernel
theorem dX2_goWeeks_25 : decode cX2_goWeeks 25 = .ok (.iload 5, 2) := by decide +kernel
theorem dX2_goWeeks_27 : decode cX2_goWeeks 27 = .ok (.aload_n 0, 1) := by decide +kernel
theorem dX2_goWeeks_28 : decode cX2_goWeeks 28 = .ok (.iload 5, 2) := by decide +kernel
theorem dX2_goWeeks_30 : decode cX2_goWeeks 30 = .ok (.aload_n 1, 1) := by decide +kernel
theorem dX2_goWeeks_31 : decode cX2_goWeeks 31 = .ok (.invokevirtual 79, 3) := by decide +kernel
theorem dX2_goWeeks_34 : decode cX2_goWeeks 34 = .ok (.iastore, 1) := by decide +kernel
theorem dX2_goWeeks_35 : decode cX2_goWeeks 35 = .ok (.iinc 5 1, 3) := by decide +kernel
theorem dX2_goWeeks_38 : decode cX2_goWeeks 38 = .ok (.goto (-26), 3) := by decide +kernel
theorem dX2_goWeeks_41 : decode cX2_goWeeks 41 = .ok (.iconst 0, 1) := by decide +kernel
theorem dX2_goWeeks_42 : decode cX2_goWeeks 42 = .ok (.istore 5, 2) := by decide +kernel
theorem dX2_goWeeks_44 : decode cX2_goWeeks 44 = .ok (.iload 5, 2) := by decide +kernel
theorem dX2_goWeeks_46 : decode cX2_goWeeks 46 = .ok (.aload_n 0, 1) := by decide +kernel
theorem dX2_goWeeks_47 : decode cX2_goWeeks 47 = .ok (.getfield 9, 3) := by decide +kernel
theorem dX2_goWeeks_50 : decode cX2_goWeeks 50 = .ok (.if_icmp .ge 74, 3) := by decide +kernel
theorem dX2_goWeeks_53 : decode cX2_goWeeks 53 = .ok (.aload_n 0, 1) := by decide +kernel
theorem dX2_goWeeks_54 : decode cX2_goWeeks 54 = .ok (.getfield 34, 3) := by decide +kernel
theorem dX2_goWeeks_57 : decode cX2_goWeeks 57 = .ok (.iload 5, 2) := by decide +kernel
theorem dX2_goWeeks_59 : decode cX2_goWeeks 59 = .ok (.dup2, 1) := by decide +kernel
theorem dX2_goWeeks_60 : decode cX2_goWeeks 60 = .ok (.iaload, 1) := by decide +kernel
theorem dX2_goWeeks_61 : decode cX2_goWeeks 61 = .ok (.aload_n 0, 1) := by decide +kernel
theorem dX2_goWeeks_62 : decode cX2_goWeeks 62 = .ok (.getfield 44, 3) := by decide +kernel
theorem dX2_goWeeks_65 : decode cX2_goWeeks 65 = .ok (.iload 5, 2) := by decide +kernel
theorem dX2_goWeeks_67 : decode cX2_goWeeks 67 = .ok (.iaload, 1) := by decide +kernel
theorem dX2_goWeeks_68 : decode cX2_goWeeks 68 = .ok (.iadd, 1) := by decide +kernel
theorem dX2_goWeeks_69 : decode cX2_goWeeks 69 = .ok (.iastore, 1) := by decide +kernel
theorem dX2_goWeeks_70 : decode cX2_goWeeks 70 = .ok (.aload_n 0, 1) := by decide +kernel
theorem dX2_goWeeks_71 : decode cX2_goWeeks 71 = .ok (.dup, 1) := by decide +kernel
theorem dX2_goWeeks_72 : decode cX2_goWeeks 72 = .ok (.getfield 18, 3) := by decide +kernel
theorem dX2_goWeeks_75 : decode cX2_goWeeks 75 = .ok (.aload_n 0, 1) := by decide +kernel
theorem dX2_goWeeks_76 : decode cX2_goWeeks 76 = .ok (.getfield 44, 3) := by decide +kernel
theorem dX2_goWeeks_79 : decode cX2_goWeeks 79 = .ok (.iload 5, 2) := by decide +kernel
theorem dX2_goWeeks_81 : decode cX2_goWeeks 81 = .ok (.iaload, 1) := by decide +kernel
theorem dX2_goWeeks_82 : decode cX2_goWeeks 82 = .ok (.aload_n 0, 1) := by decide +kernel
theorem dX2_goWeeks_83 : decode cX2_goWeeks 83 = .ok (.getfield 28, 3) := by decide +kernel
theorem dX2_goWeeks_86 : decode cX2_goWeeks 86 = .ok (.iload 5, 2) := by decide +kernel
theorem dX2_goWeeks_88 : decode cX2_goWeeks 88 = .ok (.iaload, 1) := by decide +kernel
theorem dX2_goWeeks_89 : decode cX2_goWeeks 89 = .ok (.imul, 1) := by decide +kernel
theorem dX2_goWeeks_90 : decode cX2_goWeeks 90 = .ok (.iadd, 1) := by decide +kernel
theorem dX2_goWeeks_91 : decode cX2_goWeeks 91 = .ok (.putfield 18, 3) := by decide +kernel
theorem dX2_goWeeks_94 : decode cX2_goWeeks 94 = .ok (.iload_n 3, 1) := by decide +kernel
theorem dX2_goWeeks_95 : decode cX2_goWeeks 95 = .ok (.ifCond .eq 23, 3) := by decide +kernel
theorem dX2_goWeeks_98 : decode cX2_goWeeks 98 = .ok (.aload_n 0, 1) := by decide +kernel
theorem dX2_goWeeks_99 : decode cX2_goWeeks 99 = .ok (.getfield 34, 3) := by decide +kernel
theorem dX2_goWeeks_102 : decode cX2_goWeeks 102 = .ok (.iload 5, 2) := by decide +kernel
theorem dX2_goWeeks_104 : decode cX2_goWeeks 104 = .ok (.aload_n 0, 1) := by decide +kernel
theorem dX2_goWeeks_105 : decode cX2_goWeeks 105 = .ok (.getfield 34, 3) := by decide +kernel
theorem dX2_goWeeks_108 : decode cX2_goWeeks 108 = .ok (.iload 5, 2) := by decide +kernel
theorem dX2_goWeeks_110 : decode cX2_goWeeks 110 = .ok (.iaload, 1) := by decide +kernel
theorem dX2_goWeeks_111 : decode cX2_goWeeks 111 = .ok (.sipush 9999, 3) := by decide +kernel
theorem dX2_goWeeks_114 : decode cX2_goWeeks 114 = .ok (.invokestatic 70, 3) := by decide +kernel
theorem dX2_goWeeks_117 : decode cX2_goWeeks 117 = .ok (.iastore, 1) := by decide +kernel
theorem dX2_goWeeks_118 : decode cX2_goWeeks 118 = .ok (.iinc 5 1, 3) := by decide +kernel
theorem dX2_goWeeks_121 : decode cX2_goWeeks 121 = .ok (.goto (-77), 3) := by decide +kernel
theorem dX2_goWeeks_124 : decode cX2_goWeeks 124 = .ok (.iload_n 3, 1) := by decide +kernel
theorem dX2_goWeeks_125 : decode cX2_goWeeks 125 = .ok (.ifCond .eq 16, 3) := by decide +kernel
theorem dX2_goWeeks_128 : decode cX2_goWeeks 128 = .ok (.aload_n 0, 1) := by decide +kernel
theorem dX2_goWeeks_129 : decode cX2_goWeeks 129 = .ok (.aload_n 0, 1) := by decide +kernel
theorem dX2_goWeeks_130 : decode cX2_goWeeks 130 = .ok (.getfield 18, 3) := by decide +kernel
theorem dX2_goWeeks_133 : decode cX2_goWeeks 133 = .ok (.ldc 83, 2) := by decide +kernel
theorem dX2_goWeeks_135 : decode cX2_goWeeks 135 = .ok (.invokestatic 70, 3) := by decide +kernel
theorem dX2_goWeeks_138 : decode cX2_goWeeks 138 = .ok (.putfield 18, 3) := by decide +kernel
theorem dX2_goWeeks_141 : decode cX2_goWeeks 141 = .ok (.aload_n 0, 1) := by decide +kernel
theorem dX2_goWeeks_142 : decode cX2_goWeeks 142 = .ok (.aload_n 1, 1) := by decide +kernel
theorem dX2_goWeeks_143 : decode cX2_goWeeks 143 = .ok (.getfield 84, 3) := by decide +kernel
theorem dX2_goWeeks_146 : decode cX2_goWeeks 146 = .ok (.invokevirtual 87, 3) := by decide +kernel
theorem dX2_goWeeks_149 : decode cX2_goWeeks 149 = .ok (.aload_n 0, 1) := by decide +kernel
theorem dX2_goWeeks_150 : decode cX2_goWeeks 150 = .ok (.dup, 1) := by decide +kernel
theorem dX2_goWeeks_151 : decode cX2_goWeeks 151 = .ok (.getfield 15, 3) := by decide +kernel
theorem dX2_goWeeks_154 : decode cX2_goWeeks 154 = .ok (.iconst 1, 1) := by decide +kernel
theorem dX2_goWeeks_155 : decode cX2_goWeeks 155 = .ok (.iadd, 1) := by decide +kernel
theorem dX2_goWeeks_156 : decode cX2_goWeeks 156 = .ok (.putfield 15, 3) := by decide +kernel
theorem dX2_goWeeks_159 : decode cX2_goWeeks 159 = .ok (.iinc 4 1, 3) := by decide +kernel
theorem dX2_goWeeks_162 : decode cX2_goWeeks 162 = .ok (.goto (-159), 3) := by decide +kernel
theorem dX2_goWeeks_165 : decode cX2_goWeeks 165 = .ok (.return_, 1) := by decide +kernel
set_option maxRecDepth 20000 in
theorem ggX2_changeWills_X2_countIn : GoodIn wsX2_changeWills wsX2_countIn := goodIn_r _ [16, 1, 3, 17, 18, 19, 20, 21, 22, 23, 24, 25, 26, 27] (by decide +kernel) (by decide +kernel)
set_option maxRecDepth 20000 in
theorem gX2_changeWills_X2_countIn : GoodIn wsX2_changeWills (wsV RX2 59 RX2 yX2_countIn wsX2_countIn) := goodIn_app (goodIn_of _ (by decide +kernel)) ggX2_changeWills_X2_countIn
theorem dX2_changeWills_0 : decode cX2_changeWills 0 = .ok (.aload_n 0, 1) := by decide +kernel
theorem dX2_changeWills_1 : decode cX2_changeWills 1 = .ok (.invokevirtual 59, 3) := by decide +kernel
theorem dX2_changeWills_4 : decode cX2_changeWills 4 = .ok (.istore_n 2, 1) := by decide +kernel
theorem dX2_changeWills_5 : decode cX2_changeWills 5 = .ok (.iload_n 2, 1) := by decide +kernel
theorem dX2_changeWills_6 : decode cX2_changeWills 6 = .ok (.ifCond .ne 4, 3) := by decide +kernel
theorem dX2_changeWills_9 : decode cX2_changeWills 9 = .ok (.return_, 1) := by decide +kernel
theorem dX2_changeWills_10 : decode cX2_changeWills 10 = .ok (.iconst 0, 1) := by decide +kernel
theorem dX2_changeWills_11 : decode cX2_changeWills 11 = .ok (.istore_n 3, 1) := by decide +kernel
theorem dX2_changeWills_12 : decode cX2_changeWills 12 = .ok (.iconst 0, 1) := by decide +kernel
theorem dX2_changeWills_13 : decode cX2_changeWills 13 = .ok (.istore 4, 2) := by decide +kernel
theorem dX2_changeWills_15 : decode cX2_changeWills 15 = .ok (.iload 4, 2) := by decide +kernel
theorem dX2_changeWills_17 : decode cX2_changeWills 17 = .ok (.aload_n 0, 1) := by decide +kernel
theorem dX2_changeWills_18 : decode cX2_changeWills 18 = .ok (.getfield 9, 3) := by decide +kernel
theorem dX2_changeWills_21 : decode cX2_changeWills 21 = .ok (.if_icmp .ge 19, 3) := by decide +kernel
theorem dX2_changeWills_24 : decode cX2_changeWills 24 = .ok (.iload_n 3, 1) := by decide +kernel
theorem dX2_changeWills_25 : decode cX2_changeWills 25 = .ok (.aload_n 0, 1) := by decide +kernel
theorem dX2_changeWills_26 : decode cX2_changeWills 26 = .ok (.getfield 44, 3) := by decide +kernel
theorem dX2_changeWills_29 : decode cX2_changeWills 29 = .ok (.iload 4, 2) := by decide +kernel
theorem dX2_changeWills_31 : decode cX2_changeWills 31 = .ok (.iaload, 1) := by decide +kernel
theorem dX2_changeWills_32 : decode cX2_changeWills 32 = .ok (.iadd, 1) := by decide +kernel
theorem dX2_changeWills_33 : decode cX2_changeWills 33 = .ok (.istore_n 3, 1) := by decide +kernel
theorem dX2_changeWills_34 : decode cX2_changeWills 34 = .ok (.iinc 4 1, 3) := by decide +kernel
theorem dX2_changeWills_37 : decode cX2_changeWills 37 = .ok (.goto (-22), 3) := by decide +kernel
theorem dX2_changeWills_40 : decode cX2_changeWills 40 = .ok (.iload_n 3, 1) := by decide +kernel
theorem dX2_changeWills_41 : decode cX2_changeWills 41 = .ok (.iload_n 2, 1) := by decide +kernel
theorem dX2_changeWills_42 : decode cX2_changeWills 42 = .ok (.idiv, 1) := by decide +kernel
theorem dX2_changeWills_43 : decode cX2_changeWills 43 = .ok (.istore 4, 2) := by decide +kernel
theorem dX2_changeWills_45 : decode cX2_changeWills 45 = .ok (.iconst 0, 1) := by decide +kernel
theorem dX2_changeWills_46 : decode cX2_changeWills 46 = .ok (.istore 5, 2) := by decide +kernel
theorem dX2_changeWills_48 : decode cX2_changeWills 48 = .ok (.iload 5, 2) := by decide +kernel
theorem dX2_changeWills_50 : decode cX2_changeWills 50 = .ok (.aload_n 0, 1) := by decide +kernel
theorem dX2_changeWills_51 : decode cX2_changeWills 51 = .ok (.getfield 9, 3) := by decide +kernel
theorem dX2_changeWills_54 : decode cX2_changeWills 54 = .ok (.if_icmp .ge 87, 3) := by decide +kernel
theorem dX2_changeWills_57 : decode cX2_changeWills 57 = .ok (.aload_n 0, 1) := by decide +kernel
theorem dX2_changeWills_58 : decode cX2_changeWills 58 = .ok (.getfield 37, 3) := by decide +kernel
theorem dX2_changeWills_61 : decode cX2_changeWills 61 = .ok (.iload 5, 2) := by decide +kernel
theorem dX2_changeWills_63 : decode cX2_changeWills 63 = .ok (.baload, 1) := by decide +kernel
theorem dX2_changeWills_64 : decode cX2_changeWills 64 = .ok (.ifCond .eq 6, 3) := by decide +kernel
theorem dX2_changeWills_67 : decode cX2_changeWills 67 = .ok (.goto 68, 3) := by decide +kernel
theorem dX2_changeWills_70 : decode cX2_changeWills 70 = .ok (.aload_n 0, 1) := by decide +kernel
theorem dX2_changeWills_71 : decode cX2_changeWills 71 = .ok (.getfield 44, 3) := by decide +kernel
theorem dX2_changeWills_74 : decode cX2_changeWills 74 = .ok (.iload 5, 2) := by decide +kernel
theorem dX2_changeWills_76 : decode cX2_changeWills 76 = .ok (.iaload, 1) := by decide +kernel
theorem dX2_changeWills_77 : decode cX2_changeWills 77 = .ok (.iload 4, 2) := by decide +kernel
theorem dX2_changeWills_79 : decode cX2_changeWills 79 = .ok (.if_icmp .le 23, 3) := by decide +kernel
theorem dX2_changeWills_82 : decode cX2_changeWills 82 = .ok (.aload_n 0, 1) := by decide +kernel
theorem dX2_changeWills_83 : decode cX2_changeWills 83 = .ok (.getfield 31, 3) := by decide +kernel
theorem dX2_changeWills_86 : decode cX2_changeWills 86 = .ok (.iload 5, 2) := by decide +kernel
theorem dX2_changeWills_88 : decode cX2_changeWills 88 = .ok (.iconst 0, 1) := by decide +kernel
theorem dX2_changeWills_89 : decode cX2_changeWills 89 = .ok (.aload_n 0, 1) := by decide +kernel
theorem dX2_changeWills_90 : decode cX2_changeWills 90 = .ok (.getfield 31, 3) := by decide +kernel
theorem dX2_changeWills_93 : decode cX2_changeWills 93 = .ok (.iload 5, 2) := by decide +kernel
theorem dX2_changeWills_95 : decode cX2_changeWills 95 = .ok (.iaload, 1) := by decide +kernel
theorem dX2_changeWills_96 : decode cX2_changeWills 96 = .ok (.iload_n 1, 1) := by decide +kernel
theorem dX2_changeWills_97 : decode cX2_changeWills 97 = .ok (.isub, 1) := by decide +kernel
theorem dX2_changeWills_98 : decode cX2_changeWills 98 = .ok (.invokestatic 76, 3) := by decide +kernel
theorem dX2_changeWills_101 : decode cX2_changeWills 101 = .ok (.iastore, 1) := by decide +kernel
theorem dX2_changeWills_102 : decode cX2_changeWills 102 = .ok (.aload_n 0, 1) := by decide +kernel
theorem dX2_changeWills_103 : decode cX2_changeWills 103 = .ok (.getfield 44, 3) := by decide +kernel
theorem dX2_changeWills_106 : decode cX2_changeWills 106 = .ok (.iload 5, 2) := by decide +kernel
theorem dX2_changeWills_108 : decode cX2_changeWills 108 = .ok (.iaload, 1) := by decide +kernel
theorem dX2_changeWills_109 : decode cX2_changeWills 109 = .ok (.iload 4, 2) := by decide +kernel
theorem dX2_changeWills_111 : decode cX2_changeWills 111 = .ok (.if_icmp .ge 24, 3) := by decide +kernel
theorem dX2_changeWills_114 : decode cX2_changeWills 114 = .ok (.aload_n 0, 1) := by decide +kernel
theorem dX2_changeWills_115 : decode cX2_changeWills 115 = .ok (.getfield 31, 3) := by decide +kernel
theorem dX2_changeWills_118 : decode cX2_changeWills 118 = .ok (.iload 5, 2) := by decide +kernel
theorem dX2_changeWills_120 : decode cX2_changeWills 120 = .ok (.bipush 99, 2) := by decide +kernel
theorem dX2_changeWills_122 : decode cX2_changeWills 122 = .ok (.aload_n 0, 1) := by decide +kernel
theorem dX2_changeWills_123 : decode cX2_changeWills 123 = .ok (.getfield 31, 3) := by decide +kernel
theorem dX2_changeWills_126 : decode cX2_changeWills 126 = .ok (.iload 5, 2) := by decide +kernel
theorem dX2_changeWills_128 : decode cX2_changeWills 128 = .ok (.iaload, 1) := by decide +kernel
theorem dX2_changeWills_129 : decode cX2_changeWills 129 = .ok (.iconst 1, 1) := by decide +kernel
theorem dX2_changeWills_130 : decode cX2_changeWills 130 = .ok (.iadd, 1) := by decide +kernel
theorem dX2_changeWills_131 : decode cX2_changeWills 131 = .ok (.invokestatic 70, 3) := by decide +kernel
theorem dX2_changeWills_134 : decode cX2_changeWills 134 = .ok (.iastore, 1) := by decide +kernel
theorem dX2_changeWills_135 : decode cX2_changeWills 135 = .ok (.iinc 5 1, 3) := by decide +kernel
theorem dX2_changeWills_138 : decode cX2_changeWills 138 = .ok (.goto (-90), 3) := by decide +kernel
theorem dX2_changeWills_141 : decode cX2_changeWills 141 = .ok (.return_, 1) := by decide +kernel
theorem dX2_rowNow_0 : decode cX2_rowNow 0 = .ok (.aload_n 0, 1) := by decide +kernel
theorem dX2_rowNow_1 : decode cX2_rowNow 1 = .ok (.getfield 41, 3) := by decide +kernel
theorem dX2_rowNow_4 : decode cX2_rowNow 4 = .ok (.iload_n 1, 1) := by decide +kernel
theorem dX2_rowNow_5 : decode cX2_rowNow 5 = .ok (.iconst 4, 1) := by decide +kernel
theorem dX2_rowNow_6 : decode cX2_rowNow 6 = .ok (.imul, 1) := by decide +kernel
theorem dX2_rowNow_7 : decode cX2_rowNow 7 = .ok (.aload_n 0, 1) := by decide +kernel
theorem dX2_rowNow_8 : decode cX2_rowNow 8 = .ok (.getfield 15, 3) := by decide +kernel
theorem dX2_rowNow_11 : decode cX2_rowNow 11 = .ok (.iconst 4, 1) := by decide +kernel
theorem dX2_rowNow_12 : decode cX2_rowNow 12 = .ok (.irem, 1) := by decide +kernel
theorem dX2_rowNow_13 : decode cX2_rowNow 13 = .ok (.iadd, 1) := by decide +kernel
theorem dX2_rowNow_14 : decode cX2_rowNow 14 = .ok (.iaload, 1) := by decide +kernel
theorem dX2_rowNow_15 : decode cX2_rowNow 15 = .ok (.ireturn, 1) := by decide +kernel
theorem dX2_countIn_0 : decode cX2_countIn 0 = .ok (.iconst 0, 1) := by decide +kernel
theorem dX2_countIn_1 : decode cX2_countIn 1 = .ok (.istore_n 1, 1) := by decide +kernel
theorem dX2_countIn_2 : decode cX2_countIn 2 = .ok (.iconst 0, 1) := by decide +kernel
theorem dX2_countIn_3 : decode cX2_countIn 3 = .ok (.istore_n 2, 1) := by decide +kernel
theorem dX2_countIn_4 : decode cX2_countIn 4 = .ok (.iload_n 2, 1) := by decide +kernel
theorem dX2_countIn_5 : decode cX2_countIn 5 = .ok (.aload_n 0, 1) := by decide +kernel
theorem dX2_countIn_6 : decode cX2_countIn 6 = .ok (.getfield 9, 3) := by decide +kernel
theorem dX2_countIn_9 : decode cX2_countIn 9 = .ok (.if_icmp .ge 21, 3) := by decide +kernel
theorem dX2_countIn_12 : decode cX2_countIn 12 = .ok (.aload_n 0, 1) := by decide +kernel
theorem dX2_countIn_13 : decode cX2_countIn 13 = .ok (.getfield 37, 3) := by decide +kernel
theorem dX2_countIn_16 : decode cX2_countIn 16 = .ok (.iload_n 2, 1) := by decide +kernel
theorem dX2_countIn_17 : decode cX2_countIn 17 = .ok (.baload, 1) := by decide +kernel
theorem dX2_countIn_18 : decode cX2_countIn 18 = .ok (.ifCond .ne 6, 3) := by decide +kernel
theorem dX2_countIn_21 : decode cX2_countIn 21 = .ok (.iinc 1 1, 3) := by decide +kernel
theorem dX2_countIn_24 : decode cX2_countIn 24 = .ok (.iinc 2 1, 3) := by decide +kernel
theorem dX2_countIn_27 : decode cX2_countIn 27 = .ok (.goto (-23), 3) := by decide +kernel
theorem dX2_countIn_30 : decode cX2_countIn 30 = .ok (.iload_n 1, 1) := by decide +kernel
theorem dX2_countIn_31 : decode cX2_countIn 31 = .ok (.ireturn, 1) := by decide +kernel
theorem dX2_countBetter_0 : decode cX2_countBetter 0 = .ok (.iconst 0, 1) := by decide +kernel
theorem dX2_countBetter_1 : decode cX2_countBetter 1 = .ok (.istore_n 2, 1) := by decide +kernel
theorem dX2_countBetter_2 : decode cX2_countBetter 2 = .ok (.iconst 0, 1) := by decide +kernel
theorem dX2_countBetter_3 : decode cX2_countBetter 3 = .ok (.istore_n 3, 1) := by decide +kernel
theorem dX2_countBetter_4 : decode cX2_countBetter 4 = .ok (.iload_n 3, 1) := by decide +kernel
theorem dX2_countBetter_5 : decode cX2_countBetter 5 = .ok (.aload_n 0, 1) := by decide +kernel
theorem dX2_countBetter_6 : decode cX2_countBetter 6 = .ok (.getfield 9, 3) := by decide +kernel
theorem dX2_countBetter_9 : decode cX2_countBetter 9 = .ok (.if_icmp .ge 36, 3) := by decide +kernel
theorem dX2_countBetter_12 : decode cX2_countBetter 12 = .ok (.aload_n 0, 1) := by decide +kernel
theorem dX2_countBetter_13 : decode cX2_countBetter 13 = .ok (.getfield 37, 3) := by decide +kernel
theorem dX2_countBetter_16 : decode cX2_countBetter 16 = .ok (.iload_n 3, 1) := by decide +kernel
theorem dX2_countBetter_17 : decode cX2_countBetter 17 = .ok (.baload, 1) := by decide +kernel
theorem dX2_countBetter_18 : decode cX2_countBetter 18 = .ok (.ifCond .ne 21, 3) := by decide +kernel
theorem dX2_countBetter_21 : decode cX2_countBetter 21 = .ok (.aload_n 0, 1) := by decide +kernel
theorem dX2_countBetter_22 : decode cX2_countBetter 22 = .ok (.getfield 28, 3) := by decide +kernel
theorem dX2_countBetter_25 : decode cX2_countBetter 25 = .ok (.iload_n 3, 1) := by decide +kernel
theorem dX2_countBetter_26 : decode cX2_countBetter 26 = .ok (.iaload, 1) := by decide +kernel
theorem dX2_countBetter_27 : decode cX2_countBetter 27 = .ok (.aload_n 0, 1) := by decide +kernel
theorem dX2_countBetter_28 : decode cX2_countBetter 28 = .ok (.getfield 28, 3) := by decide +kernel
theorem dX2_countBetter_31 : decode cX2_countBetter 31 = .ok (.iload_n 1, 1) := by decide +kernel
theorem dX2_countBetter_32 : decode cX2_countBetter 32 = .ok (.iaload, 1) := by decide +kernel
theorem dX2_countBetter_33 : decode cX2_countBetter 33 = .ok (.if_icmp .le 6, 3) := by decide +kernel
theorem dX2_countBetter_36 : decode cX2_countBetter 36 = .ok (.iinc 2 1, 3) := by decide +kernel
theorem dX2_countBetter_39 : decode cX2_countBetter 39 = .ok (.iinc 3 1, 3) := by decide +kernel
theorem dX2_countBetter_42 : decode cX2_countBetter 42 = .ok (.goto (-38), 3) := by decide +kernel
theorem dX2_countBetter_45 : decode cX2_countBetter 45 = .ok (.iload_n 2, 1) := by decide +kernel
theorem dX2_countBetter_46 : decode cX2_countBetter 46 = .ok (.ireturn, 1) := by decide +kernel
theorem dX2_hoursOfAll_0 : decode cX2_hoursOfAll 0 = .ok (.iconst 0, 1) := by decide +kernel
theorem dX2_hoursOfAll_1 : decode cX2_hoursOfAll 1 = .ok (.istore_n 1, 1) := by decide +kernel
theorem dX2_hoursOfAll_2 : decode cX2_hoursOfAll 2 = .ok (.iconst 0, 1) := by decide +kernel
theorem dX2_hoursOfAll_3 : decode cX2_hoursOfAll 3 = .ok (.istore_n 2, 1) := by decide +kernel
theorem dX2_hoursOfAll_4 : decode cX2_hoursOfAll 4 = .ok (.iload_n 2, 1) := by decide +kernel
theorem dX2_hoursOfAll_5 : decode cX2_hoursOfAll 5 = .ok (.aload_n 0, 1) := by decide +kernel
theorem dX2_hoursOfAll_6 : decode cX2_hoursOfAll 6 = .ok (.getfield 9, 3) := by decide +kernel
theorem dX2_hoursOfAll_9 : decode cX2_hoursOfAll 9 = .ok (.if_icmp .ge 18, 3) := by decide +kernel
theorem dX2_hoursOfAll_12 : decode cX2_hoursOfAll 12 = .ok (.iload_n 1, 1) := by decide +kernel
theorem dX2_hoursOfAll_13 : decode cX2_hoursOfAll 13 = .ok (.aload_n 0, 1) := by decide +kernel
theorem dX2_hoursOfAll_14 : decode cX2_hoursOfAll 14 = .ok (.getfield 34, 3) := by decide +kernel
theorem dX2_hoursOfAll_17 : decode cX2_hoursOfAll 17 = .ok (.iload_n 2, 1) := by decide +kernel
theorem dX2_hoursOfAll_18 : decode cX2_hoursOfAll 18 = .ok (.iaload, 1) := by decide +kernel
theorem dX2_hoursOfAll_19 : decode cX2_hoursOfAll 19 = .ok (.iadd, 1) := by decide +kernel
theorem dX2_hoursOfAll_20 : decode cX2_hoursOfAll 20 = .ok (.istore_n 1, 1) := by decide +kernel
theorem dX2_hoursOfAll_21 : decode cX2_hoursOfAll 21 = .ok (.iinc 2 1, 3) := by decide +kernel
theorem dX2_hoursOfAll_24 : decode cX2_hoursOfAll 24 = .ok (.goto (-20), 3) := by decide +kernel
theorem dX2_hoursOfAll_27 : decode cX2_hoursOfAll 27 = .ok (.iload_n 1, 1) := by decide +kernel
theorem dX2_hoursOfAll_28 : decode cX2_hoursOfAll 28 = .ok (.ireturn, 1) := by decide +kernel
set_option maxRecDepth 20000 in
theorem ggX2_claimsOfAll_X2_claimOf : GoodIn wsX2_claimsOfAll wsX2_claimOf := goodIn_r _ [6, 7, 8, 9, 10, 11, 5, 12, 13, 14, 15, 16, 17, 1, 18, 19, 20, 21, 22, 23, 24, 25, 26, 27, 28, 29, 30, 31, 32, 33, 34, 35, 36, 37, 38, 39, 40, 41, 42, 43, 44] (by decide +kernel) (by decide +kernel)
set_option maxRecDepth 20000 in
theorem gX2_claimsOfAll_X2_claimOf : GoodIn wsX2_claimsOfAll (wsV RX2 91 RX2 yX2_claimOf wsX2_claimOf) := goodIn_app (goodIn_of _ (by decide +kernel)) ggX2_claimsOfAll_X2_claimOf
theorem dX2_claimsOfAll_0 : decode cX2_claimsOfAll 0 = .ok (.iconst 0, 1) := by decide +kernel
theorem dX2_claimsOfAll_1 : decode cX2_claimsOfAll 1 = .ok (.istore_n 1, 1) := by decide +kernel
theorem dX2_claimsOfAll_2 : decode cX2_claimsOfAll 2 = .ok (.iconst 0, 1) := by decide +kernel
theorem dX2_claimsOfAll_3 : decode cX2_claimsOfAll 3 = .ok (.istore_n 2, 1) := by decide +kernel
theorem dX2_claimsOfAll_4 : decode cX2_claimsOfAll 4 = .ok (.iload_n 2, 1) := by decide +kernel
theorem dX2_claimsOfAll_5 : decode cX2_claimsOfAll 5 = .ok (.aload_n 0, 1) := by decide +kernel
theorem dX2_claimsOfAll_6 : decode cX2_claimsOfAll 6 = .ok (.getfield 9, 3) := by decide +kernel
theorem dX2_claimsOfAll_9 : decode cX2_claimsOfAll 9 = .ok (.if_icmp .ge 17, 3) := by decide +kernel
theorem dX2_claimsOfAll_12 : decode cX2_claimsOfAll 12 = .ok (.iload_n 1, 1) := by decide +kernel
theorem dX2_claimsOfAll_13 : decode cX2_claimsOfAll 13 = .ok (.aload_n 0, 1) := by decide +kernel
theorem dX2_claimsOfAll_14 : decode cX2_claimsOfAll 14 = .ok (.iload_n 2, 1) := by decide +kernel
theorem dX2_claimsOfAll_15 : decode cX2_claimsOfAll 15 = .ok (.invokevirtual 91, 3) := by decide +kernel
theorem dX2_claimsOfAll_18 : decode cX2_claimsOfAll 18 = .ok (.iadd, 1) := by decide +kernel
theorem dX2_claimsOfAll_19 : decode cX2_claimsOfAll 19 = .ok (.istore_n 1, 1) := by decide +kernel
theorem dX2_claimsOfAll_20 : decode cX2_claimsOfAll 20 = .ok (.iinc 2 1, 3) := by decide +kernel
theorem dX2_claimsOfAll_23 : decode cX2_claimsOfAll 23 = .ok (.goto (-19), 3) := by decide +kernel
theorem dX2_claimsOfAll_26 : decode cX2_claimsOfAll 26 = .ok (.iload_n 1, 1) := by decide +kernel
theorem dX2_claimsOfAll_27 : decode cX2_claimsOfAll 27 = .ok (.ireturn, 1) := by decide +kernel
set_option maxRecDepth 20000 in
theorem ggX2_shareOf_X2_hoursOfAll : GoodIn wsX2_shareOf wsX2_hoursOfAll := goodIn_r _ [6, 7, 1, 8, 9, 10, 11, 12, 13, 14, 15, 16, 17, 18] (by decide +kernel) (by decide +kernel)
set_option maxRecDepth 20000 in
theorem gX2_shareOf_X2_hoursOfAll : GoodIn wsX2_shareOf (wsV RX2 94 RX2 yX2_hoursOfAll wsX2_hoursOfAll) := goodIn_app (goodIn_of _ (by decide +kernel)) ggX2_shareOf_X2_hoursOfAll
theorem dX2_shareOf_0 : decode cX2_shareOf 0 = .ok (.aload_n 0, 1) := by decide +kernel
theorem dX2_shareOf_1 : decode cX2_shareOf 1 = .ok (.invokevirtual 94, 3) := by decide +kernel
theorem dX2_shareOf_4 : decode cX2_shareOf 4 = .ok (.istore_n 2, 1) := by decide +kernel
theorem dX2_shareOf_5 : decode cX2_shareOf 5 = .ok (.iload_n 2, 1) := by decide +kernel
theorem dX2_shareOf_6 : decode cX2_shareOf 6 = .ok (.ifCond .ne 7, 3) := by decide +kernel
theorem dX2_shareOf_9 : decode cX2_shareOf 9 = .ok (.iconst 0, 1) := by decide +kernel
theorem dX2_shareOf_10 : decode cX2_shareOf 10 = .ok (.goto 14, 3) := by decide +kernel
theorem dX2_shareOf_13 : decode cX2_shareOf 13 = .ok (.bipush 100, 2) := by decide +kernel
theorem dX2_shareOf_15 : decode cX2_shareOf 15 = .ok (.aload_n 0, 1) := by decide +kernel
theorem dX2_shareOf_16 : decode cX2_shareOf 16 = .ok (.getfield 34, 3) := by decide +kernel
theorem dX2_shareOf_19 : decode cX2_shareOf 19 = .ok (.iload_n 1, 1) := by decide +kernel
theorem dX2_shareOf_20 : decode cX2_shareOf 20 = .ok (.iaload, 1) := by decide +kernel
theorem dX2_shareOf_21 : decode cX2_shareOf 21 = .ok (.imul, 1) := by decide +kernel
theorem dX2_shareOf_22 : decode cX2_shareOf 22 = .ok (.iload_n 2, 1) := by decide +kernel
theorem dX2_shareOf_23 : decode cX2_shareOf 23 = .ok (.idiv, 1) := by decide +kernel
theorem dX2_shareOf_24 : decode cX2_shareOf 24 = .ok (.ireturn, 1) := by decide +kernel
set_option maxRecDepth 20000 in
theorem ggX2_claimOf_X2_shareOf : GoodIn wsX2_claimOf wsX2_shareOf := goodIn_r _ [7, 8, 9, 10, 11, 6, 12, 13, 30, 31, 32, 33, 34, 35, 36, 37, 38, 39, 40] (by decide +kernel) (by decide +kernel)
set_option maxRecDepth 20000 in
theorem gX2_claimOf_X2_shareOf : GoodIn wsX2_claimOf (wsV RX2 97 RX2 yX2_shareOf wsX2_shareOf) := goodIn_app (goodIn_of _ (by decide +kernel)) ggX2_claimOf_X2_shareOf
set_option maxRecDepth 20000 in
theorem ggX2_claimOf_X2_toHundred : GoodIn wsX2_claimOf wsX2_toHundred := goodIn_r _ [16, 17, 18, 19, 20, 21, 22, 23] (by decide +kernel) (by decide +kernel)
set_option maxRecDepth 20000 in
theorem gX2_claimOf_X2_toHundred : GoodIn wsX2_claimOf (va_wsS RX2 100 yX2_toHundred wsX2_toHundred) := goodIn_app (goodIn_of _ (by decide +kernel)) ggX2_claimOf_X2_toHundred
set_option maxRecDepth 20000 in
theorem ggX2_claimOf_X2_rowNow : GoodIn wsX2_claimOf wsX2_rowNow := goodIn_r _ [27, 28, 29, 30, 31, 32, 33, 34, 35, 36, 37, 38, 39, 40] (by decide +kernel) (by decide +kernel)
set_option maxRecDepth 20000 in
theorem gX2_claimOf_X2_rowNow : GoodIn wsX2_claimOf (wsV RX2 67 RX2 yX2_rowNow wsX2_rowNow) := goodIn_app (goodIn_of _ (by decide +kernel)) ggX2_claimOf_X2_rowNow
theorem dX2_claimOf_0 : decode cX2_claimOf 0 = .ok (.aload_n 0, 1) := by decide +kernel
theorem dX2_claimOf_1 : decode cX2_claimOf 1 = .ok (.iload_n 1, 1) := by decide +kernel
theorem dX2_claimOf_2 : decode cX2_claimOf 2 = .ok (.invokevirtual 97, 3) := by decide +kernel
theorem dX2_claimOf_5 : decode cX2_claimOf 5 = .ok (.istore_n 2, 1) := by decide +kernel
theorem dX2_claimOf_6 : decode cX2_claimOf 6 = .ok (.aload_n 0, 1) := by decide +kernel
theorem dX2_claimOf_7 : decode cX2_claimOf 7 = .ok (.getfield 21, 3) := by decide +kernel
theorem dX2_claimOf_10 : decode cX2_claimOf 10 = .ok (.iload_n 1, 1) := by decide +kernel
theorem dX2_claimOf_11 : decode cX2_claimOf 11 = .ok (.iaload, 1) := by decide +kernel
theorem dX2_claimOf_12 : decode cX2_claimOf 12 = .ok (.tableswitch 98 1 6 #[40, 52, 64, 40, 71, 85], 40) := by decide +kernel
theorem dX2_claimOf_52 : decode cX2_claimOf 52 = .ok (.iload_n 2, 1) := by decide +kernel
theorem dX2_claimOf_53 : decode cX2_claimOf 53 = .ok (.aload_n 0, 1) := by decide +kernel
theorem dX2_claimOf_54 : decode cX2_claimOf 54 = .ok (.getfield 25, 3) := by decide +kernel
theorem dX2_claimOf_57 : decode cX2_claimOf 57 = .ok (.iload_n 1, 1) := by decide +kernel
theorem dX2_claimOf_58 : decode cX2_claimOf 58 = .ok (.iaload, 1) := by decide +kernel
theorem dX2_claimOf_59 : decode cX2_claimOf 59 = .ok (.isub, 1) := by decide +kernel
theorem dX2_claimOf_60 : decode cX2_claimOf 60 = .ok (.invokestatic 100, 3) := by decide +kernel
theorem dX2_claimOf_63 : decode cX2_claimOf 63 = .ok (.ireturn, 1) := by decide +kernel
theorem dX2_claimOf_64 : decode cX2_claimOf 64 = .ok (.iload_n 2, 1) := by decide +kernel
theorem dX2_claimOf_65 : decode cX2_claimOf 65 = .ok (.aload_n 0, 1) := by decide +kernel
theorem dX2_claimOf_66 : decode cX2_claimOf 66 = .ok (.getfield 25, 3) := by decide +kernel
theorem dX2_claimOf_69 : decode cX2_claimOf 69 = .ok (.iload_n 1, 1) := by decide +kernel
theorem dX2_claimOf_70 : decode cX2_claimOf 70 = .ok (.iaload, 1) := by decide +kernel
theorem dX2_claimOf_71 : decode cX2_claimOf 71 = .ok (.iadd, 1) := by decide +kernel
theorem dX2_claimOf_72 : decode cX2_claimOf 72 = .ok (.invokestatic 100, 3) := by decide +kernel
theorem dX2_claimOf_75 : decode cX2_claimOf 75 = .ok (.ireturn, 1) := by decide +kernel
theorem dX2_claimOf_76 : decode cX2_claimOf 76 = .ok (.iconst 2, 1) := by decide +kernel
theorem dX2_claimOf_77 : decode cX2_claimOf 77 = .ok (.iload_n 2, 1) := by decide +kernel
theorem dX2_claimOf_78 : decode cX2_claimOf 78 = .ok (.imul, 1) := by decide +kernel
theorem dX2_claimOf_79 : decode cX2_claimOf 79 = .ok (.invokestatic 100, 3) := by decide +kernel
theorem dX2_claimOf_82 : decode cX2_claimOf 82 = .ok (.ireturn, 1) := by decide +kernel
theorem dX2_claimOf_83 : decode cX2_claimOf 83 = .ok (.iload_n 2, 1) := by decide +kernel
theorem dX2_claimOf_84 : decode cX2_claimOf 84 = .ok (.aload_n 0, 1) := by decide +kernel
theorem dX2_claimOf_85 : decode cX2_claimOf 85 = .ok (.getfield 25, 3) := by decide +kernel
theorem dX2_claimOf_88 : decode cX2_claimOf 88 = .ok (.iload_n 1, 1) := by decide +kernel
theorem dX2_claimOf_89 : decode cX2_claimOf 89 = .ok (.iaload, 1) := by decide +kernel
theorem dX2_claimOf_90 : decode cX2_claimOf 90 = .ok (.iadd, 1) := by decide +kernel
theorem dX2_claimOf_91 : decode cX2_claimOf 91 = .ok (.invokestatic 100, 3) := by decide +kernel
theorem dX2_claimOf_94 : decode cX2_claimOf 94 = .ok (.iconst 2, 1) := by decide +kernel
theorem dX2_claimOf_95 : decode cX2_claimOf 95 = .ok (.idiv, 1) := by decide +kernel
theorem dX2_claimOf_96 : decode cX2_claimOf 96 = .ok (.ireturn, 1) := by decide +kernel
theorem dX2_claimOf_97 : decode cX2_claimOf 97 = .ok (.iconst 2, 1) := by decide +kernel
theorem dX2_claimOf_98 : decode cX2_claimOf 98 = .ok (.iload_n 2, 1) := by decide +kernel
theorem dX2_claimOf_99 : decode cX2_claimOf 99 = .ok (.imul, 1) := by decide +kernel
theorem dX2_claimOf_100 : decode cX2_claimOf 100 = .ok (.aload_n 0, 1) := by decide +kernel
theorem dX2_claimOf_101 : decode cX2_claimOf 101 = .ok (.iload_n 1, 1) := by decide +kernel
theorem dX2_claimOf_102 : decode cX2_claimOf 102 = .ok (.invokevirtual 67, 3) := by decide +kernel
theorem dX2_claimOf_105 : decode cX2_claimOf 105 = .ok (.iadd, 1) := by decide +kernel
theorem dX2_claimOf_106 : decode cX2_claimOf 106 = .ok (.invokestatic 100, 3) := by decide +kernel
theorem dX2_claimOf_109 : decode cX2_claimOf 109 = .ok (.ireturn, 1) := by decide +kernel
theorem dX2_claimOf_110 : decode cX2_claimOf 110 = .ok (.iload_n 2, 1) := by decide +kernel
theorem dX2_claimOf_111 : decode cX2_claimOf 111 = .ok (.invokestatic 100, 3) := by decide +kernel
theorem dX2_claimOf_114 : decode cX2_claimOf 114 = .ok (.ireturn, 1) := by decide +kernel
theorem dX2_toHundred_0 : decode cX2_toHundred 0 = .ok (.iconst 0, 1) := by decide +kernel
theorem dX2_toHundred_1 : decode cX2_toHundred 1 = .ok (.bipush 100, 2) := by decide +kernel
theorem dX2_toHundred_3 : decode cX2_toHundred 3 = .ok (.iload_n 0, 1) := by decide +kernel
theorem dX2_toHundred_4 : decode cX2_toHundred 4 = .ok (.invokestatic 70, 3) := by decide +kernel
theorem dX2_toHundred_7 : decode cX2_toHundred 7 = .ok (.invokestatic 76, 3) := by decide +kernel
theorem dX2_toHundred_10 : decode cX2_toHundred 10 = .ok (.ireturn, 1) := by decide +kernel
theorem dX2_base_0 : decode cX2_base 0 = .ok (.iload_n 1, 1) := by decide +kernel
theorem dX2_base_1 : decode cX2_base 1 = .ok (.iconst 1, 1) := by decide +kernel
theorem dX2_base_2 : decode cX2_base 2 = .ok (.if_icmp .ge 8, 3) := by decide +kernel
theorem dX2_base_5 : decode cX2_base 5 = .ok (.bipush 100, 2) := by decide +kernel
theorem dX2_base_7 : decode cX2_base 7 = .ok (.goto 17, 3) := by decide +kernel
theorem dX2_base_10 : decode cX2_base 10 = .ok (.bipush 100, 2) := by decide +kernel
theorem dX2_base_12 : decode cX2_base 12 = .ok (.bipush 100, 2) := by decide +kernel
theorem dX2_base_14 : decode cX2_base 14 = .ok (.aload_n 0, 1) := by decide +kernel
theorem dX2_base_15 : decode cX2_base 15 = .ok (.getfield 18, 3) := by decide +kernel
theorem dX2_base_18 : decode cX2_base 18 = .ok (.imul, 1) := by decide +kernel
theorem dX2_base_19 : decode cX2_base 19 = .ok (.iload_n 1, 1) := by decide +kernel
theorem dX2_base_20 : decode cX2_base 20 = .ok (.idiv, 1) := by decide +kernel
theorem dX2_base_21 : decode cX2_base 21 = .ok (.invokestatic 70, 3) := by decide +kernel
theorem dX2_base_24 : decode cX2_base 24 = .ok (.ireturn, 1) := by decide +kernel
set_option maxRecDepth 20000 in
theorem ggX2_markOf_X2_base : GoodIn wsX2_markOf wsX2_base := goodIn_r _ [11, 12, 3, 4, 5, 6, 53, 54, 55, 56, 57, 58, 59, 60, 61, 62, 63] (by decide +kernel) (by decide +kernel)
set_option maxRecDepth 20000 in
theorem gX2_markOf_X2_base : GoodIn wsX2_markOf (wsV RX2 103 RX2 yX2_base wsX2_base) := goodIn_app (goodIn_of _ (by decide +kernel)) ggX2_markOf_X2_base
set_option maxRecDepth 20000 in
theorem ggX2_markOf_X2_leastSkillIn : GoodIn wsX2_markOf wsX2_leastSkillIn := goodIn_r _ [16, 2, 1, 17, 3, 4, 5, 6, 53, 54, 55, 56, 57, 58, 59, 60, 61, 62, 63] (by decide +kernel) (by decide +kernel)
set_option maxRecDepth 20000 in
theorem gX2_markOf_X2_leastSkillIn : GoodIn wsX2_markOf (wsV RX2 106 RX2 yX2_leastSkillIn wsX2_leastSkillIn) := goodIn_app (goodIn_of _ (by decide +kernel)) ggX2_markOf_X2_leastSkillIn
set_option maxRecDepth 20000 in
theorem ggX2_markOf_X2_stakeOf : GoodIn wsX2_markOf wsX2_stakeOf := goodIn_r _ [21, 22, 23, 24, 25, 10, 26, 27, 28, 29, 30, 31, 32, 33, 34, 35, 36, 2, 37, 38, 39, 3, 4, 5, 6, 40, 41, 42, 43, 44, 45, 46, 47, 48, 53, 54, 55, 56, 57, 58, 59, 60, 61, 62, 63] (by decide +kernel) (by decide +kernel)
set_option maxRecDepth 20000 in
theorem gX2_markOf_X2_stakeOf : GoodIn wsX2_markOf (wsV RX2 109 RX2 yX2_stakeOf wsX2_stakeOf) := goodIn_app (goodIn_of _ (by decide +kernel)) ggX2_markOf_X2_stakeOf
set_option maxRecDepth 20000 in
theorem ggX2_markOf_X2_countIn : GoodIn wsX2_markOf wsX2_countIn := goodIn_r _ [52, 2, 1, 53, 54, 55, 56, 57, 58, 59, 60, 61, 62, 63] (by decide +kernel) (by decide +kernel)
set_option maxRecDepth 20000 in
theorem gX2_markOf_X2_countIn : GoodIn wsX2_markOf (wsV RX2 59 RX2 yX2_countIn wsX2_countIn) := goodIn_app (goodIn_of _ (by decide +kernel)) ggX2_markOf_X2_countIn
theorem dX2_markOf_0 : decode cX2_markOf 0 = .ok (.aload_n 0, 1) := by decide +kernel
theorem dX2_markOf_1 : decode cX2_markOf 1 = .ok (.getfield 37, 3) := by decide +kernel
theorem dX2_markOf_4 : decode cX2_markOf 4 = .ok (.iload_n 1, 1) := by decide +kernel
theorem dX2_markOf_5 : decode cX2_markOf 5 = .ok (.baload, 1) := by decide +kernel
theorem dX2_markOf_6 : decode cX2_markOf 6 = .ok (.ifCond .eq 5, 3) := by decide +kernel
theorem dX2_markOf_9 : decode cX2_markOf 9 = .ok (.iconst 0, 1) := by decide +kernel
theorem dX2_markOf_10 : decode cX2_markOf 10 = .ok (.ireturn, 1) := by decide +kernel
theorem dX2_markOf_11 : decode cX2_markOf 11 = .ok (.aload_n 0, 1) := by decide +kernel
theorem dX2_markOf_12 : decode cX2_markOf 12 = .ok (.iload_n 3, 1) := by decide +kernel
theorem dX2_markOf_13 : decode cX2_markOf 13 = .ok (.invokevirtual 103, 3) := by decide +kernel
theorem dX2_markOf_16 : decode cX2_markOf 16 = .ok (.istore 4, 2) := by decide +kernel
theorem dX2_markOf_18 : decode cX2_markOf 18 = .ok (.iload_n 2, 1) := by decide +kernel
theorem dX2_markOf_19 : decode cX2_markOf 19 = .ok (.ifCond .ne 6, 3) := by decide +kernel
theorem dX2_markOf_22 : decode cX2_markOf 22 = .ok (.iload 4, 2) := by decide +kernel
theorem dX2_markOf_24 : decode cX2_markOf 24 = .ok (.ireturn, 1) := by decide +kernel
theorem dX2_markOf_25 : decode cX2_markOf 25 = .ok (.iload_n 2, 1) := by decide +kernel
theorem dX2_markOf_26 : decode cX2_markOf 26 = .ok (.iconst 3, 1) := by decide +kernel
theorem dX2_markOf_27 : decode cX2_markOf 27 = .ok (.if_icmp .ne 14, 3) := by decide +kernel
theorem dX2_markOf_30 : decode cX2_markOf 30 = .ok (.iload 4, 2) := by decide +kernel
theorem dX2_markOf_32 : decode cX2_markOf 32 = .ok (.aload_n 0, 1) := by decide +kernel
theorem dX2_markOf_33 : decode cX2_markOf 33 = .ok (.invokevirtual 106, 3) := by decide +kernel
theorem dX2_markOf_36 : decode cX2_markOf 36 = .ok (.imul, 1) := by decide +kernel
theorem dX2_markOf_37 : decode cX2_markOf 37 = .ok (.bipush 9, 2) := by decide +kernel
theorem dX2_markOf_39 : decode cX2_markOf 39 = .ok (.idiv, 1) := by decide +kernel
theorem dX2_markOf_40 : decode cX2_markOf 40 = .ok (.ireturn, 1) := by decide +kernel
theorem dX2_markOf_41 : decode cX2_markOf 41 = .ok (.iconst 0, 1) := by decide +kernel
theorem dX2_markOf_42 : decode cX2_markOf 42 = .ok (.istore 5, 2) := by decide +kernel
theorem dX2_markOf_44 : decode cX2_markOf 44 = .ok (.iconst 0, 1) := by decide +kernel
theorem dX2_markOf_45 : decode cX2_markOf 45 = .ok (.istore 6, 2) := by decide +kernel
theorem dX2_markOf_47 : decode cX2_markOf 47 = .ok (.iload 6, 2) := by decide +kernel
theorem dX2_markOf_49 : decode cX2_markOf 49 = .ok (.aload_n 0, 1) := by decide +kernel
theorem dX2_markOf_50 : decode cX2_markOf 50 = .ok (.getfield 9, 3) := by decide +kernel
theorem dX2_markOf_53 : decode cX2_markOf 53 = .ok (.if_icmp .ge 31, 3) := by decide +kernel
theorem dX2_markOf_56 : decode cX2_markOf 56 = .ok (.aload_n 0, 1) := by decide +kernel
theorem dX2_markOf_57 : decode cX2_markOf 57 = .ok (.getfield 37, 3) := by decide +kernel
theorem dX2_markOf_60 : decode cX2_markOf 60 = .ok (.iload 6, 2) := by decide +kernel
theorem dX2_markOf_62 : decode cX2_markOf 62 = .ok (.baload, 1) := by decide +kernel
theorem dX2_markOf_63 : decode cX2_markOf 63 = .ok (.ifCond .ne 15, 3) := by decide +kernel
theorem dX2_markOf_66 : decode cX2_markOf 66 = .ok (.iload 5, 2) := by decide +kernel
theorem dX2_markOf_68 : decode cX2_markOf 68 = .ok (.aload_n 0, 1) := by decide +kernel
theorem dX2_markOf_69 : decode cX2_markOf 69 = .ok (.iload 6, 2) := by decide +kernel
theorem dX2_markOf_71 : decode cX2_markOf 71 = .ok (.iload_n 2, 1) := by decide +kernel
theorem dX2_markOf_72 : decode cX2_markOf 72 = .ok (.invokevirtual 109, 3) := by decide +kernel
theorem dX2_markOf_75 : decode cX2_markOf 75 = .ok (.iadd, 1) := by decide +kernel
theorem dX2_markOf_76 : decode cX2_markOf 76 = .ok (.istore 5, 2) := by decide +kernel
theorem dX2_markOf_78 : decode cX2_markOf 78 = .ok (.iinc 6 1, 3) := by decide +kernel
theorem dX2_markOf_81 : decode cX2_markOf 81 = .ok (.goto (-34), 3) := by decide +kernel
theorem dX2_markOf_84 : decode cX2_markOf 84 = .ok (.iload 5, 2) := by decide +kernel
theorem dX2_markOf_86 : decode cX2_markOf 86 = .ok (.ifCond .ne 6, 3) := by decide +kernel
theorem dX2_markOf_89 : decode cX2_markOf 89 = .ok (.iload 4, 2) := by decide +kernel
theorem dX2_markOf_91 : decode cX2_markOf 91 = .ok (.ireturn, 1) := by decide +kernel
theorem dX2_markOf_92 : decode cX2_markOf 92 = .ok (.bipush 100, 2) := by decide +kernel
theorem dX2_markOf_94 : decode cX2_markOf 94 = .ok (.iload 4, 2) := by decide +kernel
theorem dX2_markOf_96 : decode cX2_markOf 96 = .ok (.aload_n 0, 1) := by decide +kernel
theorem dX2_markOf_97 : decode cX2_markOf 97 = .ok (.iload_n 1, 1) := by decide +kernel
theorem dX2_markOf_98 : decode cX2_markOf 98 = .ok (.iload_n 2, 1) := by decide +kernel
theorem dX2_markOf_99 : decode cX2_markOf 99 = .ok (.invokevirtual 109, 3) := by decide +kernel
theorem dX2_markOf_102 : decode cX2_markOf 102 = .ok (.imul, 1) := by decide +kernel
theorem dX2_markOf_103 : decode cX2_markOf 103 = .ok (.aload_n 0, 1) := by decide +kernel
theorem dX2_markOf_104 : decode cX2_markOf 104 = .ok (.invokevirtual 59, 3) := by decide +kernel
theorem dX2_markOf_107 : decode cX2_markOf 107 = .ok (.imul, 1) := by decide +kernel
theorem dX2_markOf_108 : decode cX2_markOf 108 = .ok (.iload 5, 2) := by decide +kernel
theorem dX2_markOf_110 : decode cX2_markOf 110 = .ok (.idiv, 1) := by decide +kernel
theorem dX2_markOf_111 : decode cX2_markOf 111 = .ok (.invokestatic 70, 3) := by decide +kernel
theorem dX2_markOf_114 : decode cX2_markOf 114 = .ok (.ireturn, 1) := by decide +kernel
set_option maxRecDepth 20000 in
theorem ggX2_stakeOf_X2_claimOf : GoodIn wsX2_stakeOf wsX2_claimOf := goodIn_r _ [6, 7, 8, 9, 10, 11, 5, 12, 1, 13, 14, 15, 16, 17, 18, 19, 20, 21, 22, 23, 24, 25, 26, 27, 28, 29, 30, 31, 32, 33, 34, 35, 36, 37, 38, 39, 40, 41, 42, 43, 44] (by decide +kernel) (by decide +kernel)
set_option maxRecDepth 20000 in
theorem gX2_stakeOf_X2_claimOf : GoodIn wsX2_stakeOf (wsV RX2 91 RX2 yX2_claimOf wsX2_claimOf) := goodIn_app (goodIn_of _ (by decide +kernel)) ggX2_stakeOf_X2_claimOf
theorem dX2_stakeOf_0 : decode cX2_stakeOf 0 = .ok (.iload_n 2, 1) := by decide +kernel
theorem dX2_stakeOf_1 : decode cX2_stakeOf 1 = .ok (.iconst 1, 1) := by decide +kernel
theorem dX2_stakeOf_2 : decode cX2_stakeOf 2 = .ok (.if_icmp .ne 12, 3) := by decide +kernel
theorem dX2_stakeOf_5 : decode cX2_stakeOf 5 = .ok (.aload_n 0, 1) := by decide +kernel
theorem dX2_stakeOf_6 : decode cX2_stakeOf 6 = .ok (.getfield 34, 3) := by decide +kernel
theorem dX2_stakeOf_9 : decode cX2_stakeOf 9 = .ok (.iload_n 1, 1) := by decide +kernel
theorem dX2_stakeOf_10 : decode cX2_stakeOf 10 = .ok (.iaload, 1) := by decide +kernel
theorem dX2_stakeOf_11 : decode cX2_stakeOf 11 = .ok (.goto 8, 3) := by decide +kernel
theorem dX2_stakeOf_14 : decode cX2_stakeOf 14 = .ok (.aload_n 0, 1) := by decide +kernel
theorem dX2_stakeOf_15 : decode cX2_stakeOf 15 = .ok (.iload_n 1, 1) := by decide +kernel
theorem dX2_stakeOf_16 : decode cX2_stakeOf 16 = .ok (.invokevirtual 91, 3) := by decide +kernel
theorem dX2_stakeOf_19 : decode cX2_stakeOf 19 = .ok (.ireturn, 1) := by decide +kernel
theorem dX2_leastSkillIn_0 : decode cX2_leastSkillIn 0 = .ok (.bipush 9, 2) := by decide +kernel
theorem dX2_leastSkillIn_2 : decode cX2_leastSkillIn 2 = .ok (.istore_n 1, 1) := by decide +kernel
theorem dX2_leastSkillIn_3 : decode cX2_leastSkillIn 3 = .ok (.iconst 0, 1) := by decide +kernel
theorem dX2_leastSkillIn_4 : decode cX2_leastSkillIn 4 = .ok (.istore_n 2, 1) := by decide +kernel
theorem dX2_leastSkillIn_5 : decode cX2_leastSkillIn 5 = .ok (.iload_n 2, 1) := by decide +kernel
theorem dX2_leastSkillIn_6 : decode cX2_leastSkillIn 6 = .ok (.aload_n 0, 1) := by decide +kernel
theorem dX2_leastSkillIn_7 : decode cX2_leastSkillIn 7 = .ok (.getfield 9, 3) := by decide +kernel
theorem dX2_leastSkillIn_10 : decode cX2_leastSkillIn 10 = .ok (.if_icmp .ge 29, 3) := by decide +kernel
theorem dX2_leastSkillIn_13 : decode cX2_leastSkillIn 13 = .ok (.aload_n 0, 1) := by decide +kernel
theorem dX2_leastSkillIn_14 : decode cX2_leastSkillIn 14 = .ok (.getfield 37, 3) := by decide +kernel
theorem dX2_leastSkillIn_17 : decode cX2_leastSkillIn 17 = .ok (.iload_n 2, 1) := by decide +kernel
theorem dX2_leastSkillIn_18 : decode cX2_leastSkillIn 18 = .ok (.baload, 1) := by decide +kernel
theorem dX2_leastSkillIn_19 : decode cX2_leastSkillIn 19 = .ok (.ifCond .ne 14, 3) := by decide +kernel
theorem dX2_leastSkillIn_22 : decode cX2_leastSkillIn 22 = .ok (.iload_n 1, 1) := by decide +kernel
theorem dX2_leastSkillIn_23 : decode cX2_leastSkillIn 23 = .ok (.aload_n 0, 1) := by decide +kernel
theorem dX2_leastSkillIn_24 : decode cX2_leastSkillIn 24 = .ok (.getfield 28, 3) := by decide +kernel
theorem dX2_leastSkillIn_27 : decode cX2_leastSkillIn 27 = .ok (.iload_n 2, 1) := by decide +kernel
theorem dX2_leastSkillIn_28 : decode cX2_leastSkillIn 28 = .ok (.iaload, 1) := by decide +kernel
theorem dX2_leastSkillIn_29 : decode cX2_leastSkillIn 29 = .ok (.invokestatic 70, 3) := by decide +kernel
theorem dX2_leastSkillIn_32 : decode cX2_leastSkillIn 32 = .ok (.istore_n 1, 1) := by decide +kernel
theorem dX2_leastSkillIn_33 : decode cX2_leastSkillIn 33 = .ok (.iinc 2 1, 3) := by decide +kernel
theorem dX2_leastSkillIn_36 : decode cX2_leastSkillIn 36 = .ok (.goto (-31), 3) := by decide +kernel
theorem dX2_leastSkillIn_39 : decode cX2_leastSkillIn 39 = .ok (.iload_n 1, 1) := by decide +kernel
theorem dX2_leastSkillIn_40 : decode cX2_leastSkillIn 40 = .ok (.ireturn, 1) := by decide +kernel
set_option maxRecDepth 20000 in
theorem ggX2_spreadOf_X2_markOf : GoodIn wsX2_spreadOf wsX2_markOf := goodIn_r _ [14, 2, 1, 7, 8, 5, 9, 15, 16, 17, 13, 18, 19, 20, 21, 22, 23, 24, 25, 26, 27, 28, 29, 30, 31, 32, 33, 34, 35, 36, 37, 38, 39, 40, 41, 42, 43, 44, 45, 46, 3, 4, 6, 47, 48, 49, 50, 51, 52, 53, 54, 55, 56, 57, 58, 59, 60, 61, 62, 63, 64, 65, 66, 67] (by decide +kernel) (by decide +kernel)
set_option maxRecDepth 20000 in
theorem gX2_spreadOf_X2_markOf : GoodIn wsX2_spreadOf (wsV RX2 112 RX2 yX2_markOf wsX2_markOf) := goodIn_app (goodIn_of _ (by decide +kernel)) ggX2_spreadOf_X2_markOf
theorem dX2_spreadOf_0 : decode cX2_spreadOf 0 = .ok (.iconst 0, 1) := by decide +kernel
theorem dX2_spreadOf_1 : decode cX2_spreadOf 1 = .ok (.istore_n 3, 1) := by decide +kernel
theorem dX2_spreadOf_2 : decode cX2_spreadOf 2 = .ok (.bipush 100, 2) := by decide +kernel
theorem dX2_spreadOf_4 : decode cX2_spreadOf 4 = .ok (.istore 4, 2) := by decide +kernel
theorem dX2_spreadOf_6 : decode cX2_spreadOf 6 = .ok (.iconst 0, 1) := by decide +kernel
theorem dX2_spreadOf_7 : decode cX2_spreadOf 7 = .ok (.istore 5, 2) := by decide +kernel
theorem dX2_spreadOf_9 : decode cX2_spreadOf 9 = .ok (.iload 5, 2) := by decide +kernel
theorem dX2_spreadOf_11 : decode cX2_spreadOf 11 = .ok (.aload_n 0, 1) := by decide +kernel
theorem dX2_spreadOf_12 : decode cX2_spreadOf 12 = .ok (.getfield 9, 3) := by decide +kernel
theorem dX2_spreadOf_15 : decode cX2_spreadOf 15 = .ok (.if_icmp .ge 48, 3) := by decide +kernel
theorem dX2_spreadOf_18 : decode cX2_spreadOf 18 = .ok (.aload_n 0, 1) := by decide +kernel
theorem dX2_spreadOf_19 : decode cX2_spreadOf 19 = .ok (.getfield 37, 3) := by decide +kernel
theorem dX2_spreadOf_22 : decode cX2_spreadOf 22 = .ok (.iload 5, 2) := by decide +kernel
theorem dX2_spreadOf_24 : decode cX2_spreadOf 24 = .ok (.baload, 1) := by decide +kernel
theorem dX2_spreadOf_25 : decode cX2_spreadOf 25 = .ok (.ifCond .eq 6, 3) := by decide +kernel
theorem dX2_spreadOf_28 : decode cX2_spreadOf 28 = .ok (.goto 29, 3) := by decide +kernel
theorem dX2_spreadOf_31 : decode cX2_spreadOf 31 = .ok (.aload_n 0, 1) := by decide +kernel
theorem dX2_spreadOf_32 : decode cX2_spreadOf 32 = .ok (.iload 5, 2) := by decide +kernel
theorem dX2_spreadOf_34 : decode cX2_spreadOf 34 = .ok (.iload_n 1, 1) := by decide +kernel
theorem dX2_spreadOf_35 : decode cX2_spreadOf 35 = .ok (.iload_n 2, 1) := by decide +kernel
theorem dX2_spreadOf_36 : decode cX2_spreadOf 36 = .ok (.invokevirtual 112, 3) := by decide +kernel
theorem dX2_spreadOf_39 : decode cX2_spreadOf 39 = .ok (.istore 6, 2) := by decide +kernel
theorem dX2_spreadOf_41 : decode cX2_spreadOf 41 = .ok (.iload_n 3, 1) := by decide +kernel
theorem dX2_spreadOf_42 : decode cX2_spreadOf 42 = .ok (.iload 6, 2) := by decide +kernel
theorem dX2_spreadOf_44 : decode cX2_spreadOf 44 = .ok (.invokestatic 76, 3) := by decide +kernel
theorem dX2_spreadOf_47 : decode cX2_spreadOf 47 = .ok (.istore_n 3, 1) := by decide +kernel
theorem dX2_spreadOf_48 : decode cX2_spreadOf 48 = .ok (.iload 4, 2) := by decide +kernel
theorem dX2_spreadOf_50 : decode cX2_spreadOf 50 = .ok (.iload 6, 2) := by decide +kernel
theorem dX2_spreadOf_52 : decode cX2_spreadOf 52 = .ok (.invokestatic 70, 3) := by decide +kernel
theorem dX2_spreadOf_55 : decode cX2_spreadOf 55 = .ok (.istore 4, 2) := by decide +kernel
theorem dX2_spreadOf_57 : decode cX2_spreadOf 57 = .ok (.iinc 5 1, 3) := by decide +kernel
theorem dX2_spreadOf_60 : decode cX2_spreadOf 60 = .ok (.goto (-51), 3) := by decide +kernel
theorem dX2_spreadOf_63 : decode cX2_spreadOf 63 = .ok (.iconst 0, 1) := by decide +kernel
theorem dX2_spreadOf_64 : decode cX2_spreadOf 64 = .ok (.iload_n 3, 1) := by decide +kernel
theorem dX2_spreadOf_65 : decode cX2_spreadOf 65 = .ok (.iload 4, 2) := by decide +kernel
theorem dX2_spreadOf_67 : decode cX2_spreadOf 67 = .ok (.isub, 1) := by decide +kernel
theorem dX2_spreadOf_68 : decode cX2_spreadOf 68 = .ok (.invokestatic 76, 3) := by decide +kernel
theorem dX2_spreadOf_71 : decode cX2_spreadOf 71 = .ok (.ireturn, 1) := by decide +kernel
set_option maxRecDepth 20000 in
theorem ggX2_awayFromHours_X2_markOf : GoodIn wsX2_awayFromHours wsX2_markOf := goodIn_r _ [10, 11, 1, 12, 13, 4, 14, 15, 16, 17, 9, 18, 19, 20, 21, 22, 23, 24, 25, 26, 27, 28, 29, 30, 31, 32, 33, 34, 35, 36, 37, 38, 39, 40, 41, 42, 43, 44, 45, 46, 47, 48, 49, 50, 51, 52, 53, 54, 55, 56, 57, 58, 59, 60, 61, 62, 63, 64, 65, 66, 67, 68, 69, 70] (by decide +kernel) (by decide +kernel)
set_option maxRecDepth 20000 in
theorem gX2_awayFromHours_X2_markOf : GoodIn wsX2_awayFromHours (wsV RX2 112 RX2 yX2_markOf wsX2_markOf) := goodIn_app (goodIn_of _ (by decide +kernel)) ggX2_awayFromHours_X2_markOf
theorem dX2_awayFromHours_0 : decode cX2_awayFromHours 0 = .ok (.iconst 0, 1) := by decide +kernel
theorem dX2_awayFromHours_1 : decode cX2_awayFromHours 1 = .ok (.istore_n 3, 1) := by decide +kernel
theorem dX2_awayFromHours_2 : decode cX2_awayFromHours 2 = .ok (.iconst 0, 1) := by decide +kernel
theorem dX2_awayFromHours_3 : decode cX2_awayFromHours 3 = .ok (.istore 4, 2) := by decide +kernel
theorem dX2_awayFromHours_5 : decode cX2_awayFromHours 5 = .ok (.iload 4, 2) := by decide +kernel
theorem dX2_awayFromHours_7 : decode cX2_awayFromHours 7 = .ok (.aload_n 0, 1) := by decide +kernel
theorem dX2_awayFromHours_8 : decode cX2_awayFromHours 8 = .ok (.getfield 9, 3) := by decide +kernel
theorem dX2_awayFromHours_11 : decode cX2_awayFromHours 11 = .ok (.if_icmp .ge 32, 3) := by decide +kernel
theorem dX2_awayFromHours_14 : decode cX2_awayFromHours 14 = .ok (.iload_n 3, 1) := by decide +kernel
theorem dX2_awayFromHours_15 : decode cX2_awayFromHours 15 = .ok (.aload_n 0, 1) := by decide +kernel
theorem dX2_awayFromHours_16 : decode cX2_awayFromHours 16 = .ok (.iload 4, 2) := by decide +kernel
theorem dX2_awayFromHours_18 : decode cX2_awayFromHours 18 = .ok (.iload_n 1, 1) := by decide +kernel
theorem dX2_awayFromHours_19 : decode cX2_awayFromHours 19 = .ok (.iload_n 2, 1) := by decide +kernel
theorem dX2_awayFromHours_20 : decode cX2_awayFromHours 20 = .ok (.invokevirtual 112, 3) := by decide +kernel
theorem dX2_awayFromHours_23 : decode cX2_awayFromHours 23 = .ok (.aload_n 0, 1) := by decide +kernel
theorem dX2_awayFromHours_24 : decode cX2_awayFromHours 24 = .ok (.iload 4, 2) := by decide +kernel
theorem dX2_awayFromHours_26 : decode cX2_awayFromHours 26 = .ok (.iconst 1, 1) := by decide +kernel
theorem dX2_awayFromHours_27 : decode cX2_awayFromHours 27 = .ok (.iload_n 2, 1) := by decide +kernel
theorem dX2_awayFromHours_28 : decode cX2_awayFromHours 28 = .ok (.invokevirtual 112, 3) := by decide +kernel
theorem dX2_awayFromHours_31 : decode cX2_awayFromHours 31 = .ok (.isub, 1) := by decide +kernel
theorem dX2_awayFromHours_32 : decode cX2_awayFromHours 32 = .ok (.invokestatic 116, 3) := by decide +kernel
theorem dX2_awayFromHours_35 : decode cX2_awayFromHours 35 = .ok (.iadd, 1) := by decide +kernel
theorem dX2_awayFromHours_36 : decode cX2_awayFromHours 36 = .ok (.istore_n 3, 1) := by decide +kernel
theorem dX2_awayFromHours_37 : decode cX2_awayFromHours 37 = .ok (.iinc 4 1, 3) := by decide +kernel
theorem dX2_awayFromHours_40 : decode cX2_awayFromHours 40 = .ok (.goto (-35), 3) := by decide +kernel
theorem dX2_awayFromHours_43 : decode cX2_awayFromHours 43 = .ok (.iload_n 3, 1) := by decide +kernel
theorem dX2_awayFromHours_44 : decode cX2_awayFromHours 44 = .ok (.ireturn, 1) := by decide +kernel
theorem dX3_init_0 : decode cX3_init 0 = .ok (.aload_n 0, 1) := by decide +kernel
theorem dX3_init_1 : decode cX3_init 1 = .ok (.invokespecial 3, 3) := by decide +kernel
theorem dX3_init_4 : decode cX3_init 4 = .ok (.aload_n 0, 1) := by decide +kernel
theorem dX3_init_5 : decode cX3_init 5 = .ok (.bipush 100, 2) := by decide +kernel
theorem dX3_init_7 : decode cX3_init 7 = .ok (.newarray .int, 2) := by decide +kernel
theorem dX3_init_9 : decode cX3_init 9 = .ok (.putfield 9, 3) := by decide +kernel
theorem dX3_init_12 : decode cX3_init 12 = .ok (.aload_n 0, 1) := by decide +kernel
theorem dX3_init_13 : decode cX3_init 13 = .ok (.iconst 0, 1) := by decide +kernel
theorem dX3_init_14 : decode cX3_init 14 = .ok (.putfield 15, 3) := by decide +kernel
theorem dX3_init_17 : decode cX3_init 17 = .ok (.aload_n 0, 1) := by decide +kernel
theorem dX3_init_18 : decode cX3_init 18 = .ok (.bipush 10, 2) := by decide +kernel
theorem dX3_init_20 : decode cX3_init 20 = .ok (.newarray .int, 2) := by decide +kernel
theorem dX3_init_22 : decode cX3_init 22 = .ok (.putfield 19, 3) := by decide +kernel
theorem dX3_init_25 : decode cX3_init 25 = .ok (.aload_n 0, 1) := by decide +kernel
theorem dX3_init_26 : decode cX3_init 26 = .ok (.bipush 10, 2) := by decide +kernel
theorem dX3_init_28 : decode cX3_init 28 = .ok (.newarray .int, 2) := by decide +kernel
theorem dX3_init_30 : decode cX3_init 30 = .ok (.putfield 22, 3) := by decide +kernel
theorem dX3_init_33 : decode cX3_init 33 = .ok (.aload_n 0, 1) := by decide +kernel
theorem dX3_init_34 : decode cX3_init 34 = .ok (.iconst 0, 1) := by decide +kernel
theorem dX3_init_35 : decode cX3_init 35 = .ok (.putfield 25, 3) := by decide +kernel
theorem dX3_init_38 : decode cX3_init 38 = .ok (.aload_n 0, 1) := by decide +kernel
theorem dX3_init_39 : decode cX3_init 39 = .ok (.bipush 60, 2) := by decide +kernel
theorem dX3_init_41 : decode cX3_init 41 = .ok (.putfield 28, 3) := by decide +kernel
theorem dX3_init_44 : decode cX3_init 44 = .ok (.aload_n 0, 1) := by decide +kernel
theorem dX3_init_45 : decode cX3_init 45 = .ok (.iconst 2, 1) := by decide +kernel
theorem dX3_init_46 : decode cX3_init 46 = .ok (.putfield 31, 3) := by decide +kernel
theorem dX3_init_49 : decode cX3_init 49 = .ok (.return_, 1) := by decide +kernel
theorem dX3_goal_0 : decode cX3_goal 0 = .ok (.iconst 1, 1) := by decide +kernel
theorem dX3_goal_1 : decode cX3_goal 1 = .ok (.aload_n 0, 1) := by decide +kernel
theorem dX3_goal_2 : decode cX3_goal 2 = .ok (.getfield 28, 3) := by decide +kernel
theorem dX3_goal_5 : decode cX3_goal 5 = .ok (.invokestatic 34, 3) := by decide +kernel
theorem dX3_goal_8 : decode cX3_goal 8 = .ok (.ireturn, 1) := by decide +kernel
theorem dX3_addCode_0 : decode cX3_addCode 0 = .ok (.aload_n 0, 1) := by decide +kernel
theorem dX3_addCode_1 : decode cX3_addCode 1 = .ok (.getfield 15, 3) := by decide +kernel
theorem dX3_addCode_4 : decode cX3_addCode 4 = .ok (.aload_n 0, 1) := by decide +kernel
theorem dX3_addCode_5 : decode cX3_addCode 5 = .ok (.getfield 9, 3) := by decide +kernel
theorem dX3_addCode_8 : decode cX3_addCode 8 = .ok (.arraylength, 1) := by decide +kernel
theorem dX3_addCode_9 : decode cX3_addCode 9 = .ok (.if_icmp .lt 4, 3) := by decide +kernel
theorem dX3_addCode_12 : decode cX3_addCode 12 = .ok (.return_, 1) := by decide +kernel
theorem dX3_addCode_13 : decode cX3_addCode 13 = .ok (.aload_n 0, 1) := by decide +kernel
theorem dX3_addCode_14 : decode cX3_addCode 14 = .ok (.getfield 9, 3) := by decide +kernel
theorem dX3_addCode_17 : decode cX3_addCode 17 = .ok (.aload_n 0, 1) := by decide +kernel
theorem dX3_addCode_18 : decode cX3_addCode 18 = .ok (.getfield 15, 3) := by decide +kernel
theorem dX3_addCode_21 : decode cX3_addCode 21 = .ok (.iload_n 1, 1) := by decide +kernel
theorem dX3_addCode_22 : decode cX3_addCode 22 = .ok (.iastore, 1) := by decide +kernel
theorem dX3_addCode_23 : decode cX3_addCode 23 = .ok (.aload_n 0, 1) := by decide +kernel
theorem dX3_addCode_24 : decode cX3_addCode 24 = .ok (.dup, 1) := by decide +kernel
theorem dX3_addCode_25 : decode cX3_addCode 25 = .ok (.getfield 15, 3) := by decide +kernel
theorem dX3_addCode_28 : decode cX3_addCode 28 = .ok (.iconst 1, 1) := by decide +kernel
theorem dX3_addCode_29 : decode cX3_addCode 29 = .ok (.iadd, 1) := by decide +kernel
theorem dX3_addCode_30 : decode cX3_addCode 30 = .ok (.putfield 15, 3) := by decide +kernel
theorem dX3_addCode_33 : decode cX3_addCode 33 = .ok (.return_, 1) := by decide +kernel
set_option maxRecDepth 20000 in
theorem ggX3_addTest_X3_addCode : GoodIn wsX3_addTest wsX3_addCode := goodIn_r _ [5, 6, 7, 8, 9, 10, 11, 12, 13, 14] (by decide +kernel) (by decide +kernel)
set_option maxRecDepth 20000 in
theorem gX3_addTest_X3_addCode : GoodIn wsX3_addTest (wsV RX3 40 RX3 yX3_addCode wsX3_addCode) := goodIn_app (goodIn_of _ (by decide +kernel)) ggX3_addTest_X3_addCode
theorem dX3_addTest_0 : decode cX3_addTest 0 = .ok (.aload_n 0, 1) := by decide +kernel
theorem dX3_addTest_1 : decode cX3_addTest 1 = .ok (.iload_n 1, 1) := by decide +kernel
theorem dX3_addTest_2 : decode cX3_addTest 2 = .ok (.iconst 3, 1) := by decide +kernel
theorem dX3_addTest_3 : decode cX3_addTest 3 = .ok (.imul, 1) := by decide +kernel
theorem dX3_addTest_4 : decode cX3_addTest 4 = .ok (.iload_n 2, 1) := by decide +kernel
theorem dX3_addTest_5 : decode cX3_addTest 5 = .ok (.iadd, 1) := by decide +kernel
theorem dX3_addTest_6 : decode cX3_addTest 6 = .ok (.bipush 100, 2) := by decide +kernel
theorem dX3_addTest_8 : decode cX3_addTest 8 = .ok (.imul, 1) := by decide +kernel
theorem dX3_addTest_9 : decode cX3_addTest 9 = .ok (.iload_n 3, 1) := by decide +kernel
theorem dX3_addTest_10 : decode cX3_addTest 10 = .ok (.iadd, 1) := by decide +kernel
theorem dX3_addTest_11 : decode cX3_addTest 11 = .ok (.invokevirtual 40, 3) := by decide +kernel
theorem dX3_addTest_14 : decode cX3_addTest 14 = .ok (.return_, 1) := by decide +kernel
theorem dX3_addSpur_0 : decode cX3_addSpur 0 = .ok (.aload_n 0, 1) := by decide +kernel
theorem dX3_addSpur_1 : decode cX3_addSpur 1 = .ok (.getfield 25, 3) := by decide +kernel
theorem dX3_addSpur_4 : decode cX3_addSpur 4 = .ok (.aload_n 0, 1) := by decide +kernel
theorem dX3_addSpur_5 : decode cX3_addSpur 5 = .ok (.getfield 19, 3) := by decide +kernel
theorem dX3_addSpur_8 : decode cX3_addSpur 8 = .ok (.arraylength, 1) := by decide +kernel
theorem dX3_addSpur_9 : decode cX3_addSpur 9 = .ok (.if_icmp .ge 15, 3) := by decide +kernel
theorem dX3_addSpur_12 : decode cX3_addSpur 12 = .ok (.aload_n 0, 1) := by decide +kernel
theorem dX3_addSpur_13 : decode cX3_addSpur 13 = .ok (.getfield 25, 3) := by decide +kernel
theorem dX3_addSpur_16 : decode cX3_addSpur 16 = .ok (.aload_n 0, 1) := by decide +kernel
theorem dX3_addSpur_17 : decode cX3_addSpur 17 = .ok (.getfield 22, 3) := by decide +kernel
theorem dX3_addSpur_20 : decode cX3_addSpur 20 = .ok (.arraylength, 1) := by decide +kernel
theorem dX3_addSpur_21 : decode cX3_addSpur 21 = .ok (.if_icmp .lt 4, 3) := by decide +kernel
theorem dX3_addSpur_24 : decode cX3_addSpur 24 = .ok (.return_, 1) := by decide +kernel
theorem dX3_addSpur_25 : decode cX3_addSpur 25 = .ok (.aload_n 0, 1) := by decide +kernel
theorem dX3_addSpur_26 : decode cX3_addSpur 26 = .ok (.getfield 19, 3) := by decide +kernel
theorem dX3_addSpur_29 : decode cX3_addSpur 29 = .ok (.aload_n 0, 1) := by decide +kernel
theorem dX3_addSpur_30 : decode cX3_addSpur 30 = .ok (.getfield 25, 3) := by decide +kernel
theorem dX3_addSpur_33 : decode cX3_addSpur 33 = .ok (.iload_n 1, 1) := by decide +kernel
theorem dX3_addSpur_34 : decode cX3_addSpur 34 = .ok (.iastore, 1) := by decide +kernel
theorem dX3_addSpur_35 : decode cX3_addSpur 35 = .ok (.aload_n 0, 1) := by decide +kernel
theorem dX3_addSpur_36 : decode cX3_addSpur 36 = .ok (.getfield 22, 3) := by decide +kernel
theorem dX3_addSpur_39 : decode cX3_addSpur 39 = .ok (.aload_n 0, 1) := by decide +kernel
theorem dX3_addSpur_40 : decode cX3_addSpur 40 = .ok (.getfield 25, 3) := by decide +kernel
theorem dX3_addSpur_43 : decode cX3_addSpur 43 = .ok (.aload_n 0, 1) := by decide +kernel
theorem dX3_addSpur_44 : decode cX3_addSpur 44 = .ok (.getfield 15, 3) := by decide +kernel
theorem dX3_addSpur_47 : decode cX3_addSpur 47 = .ok (.iastore, 1) := by decide +kernel
theorem dX3_addSpur_48 : decode cX3_addSpur 48 = .ok (.aload_n 0, 1) := by decide +kernel
theorem dX3_addSpur_49 : decode cX3_addSpur 49 = .ok (.dup, 1) := by decide +kernel
theorem dX3_addSpur_50 : decode cX3_addSpur 50 = .ok (.getfield 25, 3) := by decide +kernel
theorem dX3_addSpur_53 : decode cX3_addSpur 53 = .ok (.iconst 1, 1) := by decide +kernel
