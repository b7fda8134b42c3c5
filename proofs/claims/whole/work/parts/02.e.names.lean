theorem dX3_addSpur_54 : decode cX3_addSpur 54 = .ok (.iadd, 1) := by decide +kernel
theorem dX3_addSpur_55 : decode cX3_addSpur 55 = .ok (.putfield 25, 3) := by decide +kernel
theorem dX3_addSpur_58 : decode cX3_addSpur 58 = .ok (.return_, 1) := by decide +kernel
set_option maxRecDepth 20000 in
theorem ggX3_zealOf_X3_look : GoodIn wsX3_zealOf wsX3_look := goodIn_r _ [12, 13, 14, 15, 16, 17, 18, 19, 20, 21, 22, 30, 31, 32, 33, 34, 35, 36, 37, 38, 39, 40] (by decide +kernel) (by decide +kernel)
set_option maxRecDepth 20000 in
theorem gX3_zealOf_X3_look : GoodIn wsX3_zealOf (va_wsS RX3 44 yX3_look wsX3_look) := goodIn_app (goodIn_of _ (by decide +kernel)) ggX3_zealOf_X3_look
theorem dX3_zealOf_0 : decode cX3_zealOf 0 = .ok (.iconst 5, 1) := by decide +kernel
theorem dX3_zealOf_1 : decode cX3_zealOf 1 = .ok (.istore_n 3, 1) := by decide +kernel
theorem dX3_zealOf_2 : decode cX3_zealOf 2 = .ok (.iconst 0, 1) := by decide +kernel
theorem dX3_zealOf_3 : decode cX3_zealOf 3 = .ok (.istore 4, 2) := by decide +kernel
theorem dX3_zealOf_5 : decode cX3_zealOf 5 = .ok (.iconst 0, 1) := by decide +kernel
theorem dX3_zealOf_6 : decode cX3_zealOf 6 = .ok (.istore 5, 2) := by decide +kernel
theorem dX3_zealOf_8 : decode cX3_zealOf 8 = .ok (.iload 5, 2) := by decide +kernel
theorem dX3_zealOf_10 : decode cX3_zealOf 10 = .ok (.aload_n 0, 1) := by decide +kernel
theorem dX3_zealOf_11 : decode cX3_zealOf 11 = .ok (.getfield 25, 3) := by decide +kernel
theorem dX3_zealOf_14 : decode cX3_zealOf 14 = .ok (.if_icmp .ge 74, 3) := by decide +kernel
theorem dX3_zealOf_17 : decode cX3_zealOf 17 = .ok (.iconst 0, 1) := by decide +kernel
theorem dX3_zealOf_18 : decode cX3_zealOf 18 = .ok (.istore 6, 2) := by decide +kernel
theorem dX3_zealOf_20 : decode cX3_zealOf 20 = .ok (.iload 4, 2) := by decide +kernel
theorem dX3_zealOf_22 : decode cX3_zealOf 22 = .ok (.aload_n 0, 1) := by decide +kernel
theorem dX3_zealOf_23 : decode cX3_zealOf 23 = .ok (.getfield 22, 3) := by decide +kernel
theorem dX3_zealOf_26 : decode cX3_zealOf 26 = .ok (.iload 5, 2) := by decide +kernel
theorem dX3_zealOf_28 : decode cX3_zealOf 28 = .ok (.iaload, 1) := by decide +kernel
theorem dX3_zealOf_29 : decode cX3_zealOf 29 = .ok (.if_icmp .ge 35, 3) := by decide +kernel
theorem dX3_zealOf_32 : decode cX3_zealOf 32 = .ok (.iload 4, 2) := by decide +kernel
theorem dX3_zealOf_34 : decode cX3_zealOf 34 = .ok (.aload_n 0, 1) := by decide +kernel
theorem dX3_zealOf_35 : decode cX3_zealOf 35 = .ok (.getfield 9, 3) := by decide +kernel
theorem dX3_zealOf_38 : decode cX3_zealOf 38 = .ok (.arraylength, 1) := by decide +kernel
theorem dX3_zealOf_39 : decode cX3_zealOf 39 = .ok (.if_icmp .ge 25, 3) := by decide +kernel
theorem dX3_zealOf_42 : decode cX3_zealOf 42 = .ok (.iload 6, 2) := by decide +kernel
theorem dX3_zealOf_44 : decode cX3_zealOf 44 = .ok (.aload_n 0, 1) := by decide +kernel
theorem dX3_zealOf_45 : decode cX3_zealOf 45 = .ok (.getfield 9, 3) := by decide +kernel
theorem dX3_zealOf_48 : decode cX3_zealOf 48 = .ok (.iload 4, 2) := by decide +kernel
theorem dX3_zealOf_50 : decode cX3_zealOf 50 = .ok (.iaload, 1) := by decide +kernel
theorem dX3_zealOf_51 : decode cX3_zealOf 51 = .ok (.aload_n 1, 1) := by decide +kernel
theorem dX3_zealOf_52 : decode cX3_zealOf 52 = .ok (.iload_n 2, 1) := by decide +kernel
theorem dX3_zealOf_53 : decode cX3_zealOf 53 = .ok (.invokestatic 44, 3) := by decide +kernel
theorem dX3_zealOf_56 : decode cX3_zealOf 56 = .ok (.istore 6, 2) := by decide +kernel
theorem dX3_zealOf_58 : decode cX3_zealOf 58 = .ok (.iinc 4 1, 3) := by decide +kernel
theorem dX3_zealOf_61 : decode cX3_zealOf 61 = .ok (.goto (-41), 3) := by decide +kernel
theorem dX3_zealOf_64 : decode cX3_zealOf 64 = .ok (.iload 6, 2) := by decide +kernel
theorem dX3_zealOf_66 : decode cX3_zealOf 66 = .ok (.iconst 1, 1) := by decide +kernel
theorem dX3_zealOf_67 : decode cX3_zealOf 67 = .ok (.iand, 1) := by decide +kernel
theorem dX3_zealOf_68 : decode cX3_zealOf 68 = .ok (.iconst 1, 1) := by decide +kernel
theorem dX3_zealOf_69 : decode cX3_zealOf 69 = .ok (.if_icmp .ne 13, 3) := by decide +kernel
theorem dX3_zealOf_72 : decode cX3_zealOf 72 = .ok (.iload_n 3, 1) := by decide +kernel
theorem dX3_zealOf_73 : decode cX3_zealOf 73 = .ok (.aload_n 0, 1) := by decide +kernel
theorem dX3_zealOf_74 : decode cX3_zealOf 74 = .ok (.getfield 19, 3) := by decide +kernel
theorem dX3_zealOf_77 : decode cX3_zealOf 77 = .ok (.iload 5, 2) := by decide +kernel
theorem dX3_zealOf_79 : decode cX3_zealOf 79 = .ok (.iaload, 1) := by decide +kernel
theorem dX3_zealOf_80 : decode cX3_zealOf 80 = .ok (.iadd, 1) := by decide +kernel
theorem dX3_zealOf_81 : decode cX3_zealOf 81 = .ok (.istore_n 3, 1) := by decide +kernel
theorem dX3_zealOf_82 : decode cX3_zealOf 82 = .ok (.iinc 5 1, 3) := by decide +kernel
theorem dX3_zealOf_85 : decode cX3_zealOf 85 = .ok (.goto (-77), 3) := by decide +kernel
theorem dX3_zealOf_88 : decode cX3_zealOf 88 = .ok (.iconst 0, 1) := by decide +kernel
theorem dX3_zealOf_89 : decode cX3_zealOf 89 = .ok (.iload_n 3, 1) := by decide +kernel
theorem dX3_zealOf_90 : decode cX3_zealOf 90 = .ok (.invokestatic 34, 3) := by decide +kernel
theorem dX3_zealOf_93 : decode cX3_zealOf 93 = .ok (.ireturn, 1) := by decide +kernel
set_option maxRecDepth 20000 in
theorem ggX3_look_X2_subjectOf : GoodIn wsX3_look wsX2_subjectOf := goodIn_r _ [5, 6, 7, 8, 9, 10, 11, 12, 13, 14, 15, 16, 17, 18, 19, 20, 21] (by decide +kernel) (by decide +kernel)
set_option maxRecDepth 20000 in
theorem gX3_look_X2_subjectOf : GoodIn wsX3_look (wsV RX3 48 RX2 yX2_subjectOf wsX2_subjectOf) := goodIn_app (goodIn_of _ (by decide +kernel)) ggX3_look_X2_subjectOf
theorem dX3_look_0 : decode cX3_look 0 = .ok (.iload_n 0, 1) := by decide +kernel
theorem dX3_look_1 : decode cX3_look 1 = .ok (.iconst 1, 1) := by decide +kernel
theorem dX3_look_2 : decode cX3_look 2 = .ok (.iand, 1) := by decide +kernel
theorem dX3_look_3 : decode cX3_look 3 = .ok (.istore 4, 2) := by decide +kernel
theorem dX3_look_5 : decode cX3_look 5 = .ok (.iload_n 0, 1) := by decide +kernel
theorem dX3_look_6 : decode cX3_look 6 = .ok (.iconst 1, 1) := by decide +kernel
theorem dX3_look_7 : decode cX3_look 7 = .ok (.ishr, 1) := by decide +kernel
theorem dX3_look_8 : decode cX3_look 8 = .ok (.istore 5, 2) := by decide +kernel
theorem dX3_look_10 : decode cX3_look 10 = .ok (.iload_n 1, 1) := by decide +kernel
theorem dX3_look_11 : decode cX3_look 11 = .ok (.tableswitch 52 (-3) (-1) #[46, 29, 25], 25) := by decide +kernel
theorem dX3_look_36 : decode cX3_look 36 = .ok (.iload_n 0, 1) := by decide +kernel
theorem dX3_look_37 : decode cX3_look 37 = .ok (.iconst 1, 1) := by decide +kernel
theorem dX3_look_38 : decode cX3_look 38 = .ok (.ixor, 1) := by decide +kernel
theorem dX3_look_39 : decode cX3_look 39 = .ok (.ireturn, 1) := by decide +kernel
theorem dX3_look_40 : decode cX3_look 40 = .ok (.iload 4, 2) := by decide +kernel
theorem dX3_look_42 : decode cX3_look 42 = .ok (.iconst 1, 1) := by decide +kernel
theorem dX3_look_43 : decode cX3_look 43 = .ok (.if_icmp .ne 8, 3) := by decide +kernel
theorem dX3_look_46 : decode cX3_look 46 = .ok (.iload 5, 2) := by decide +kernel
theorem dX3_look_48 : decode cX3_look 48 = .ok (.goto 8, 3) := by decide +kernel
theorem dX3_look_51 : decode cX3_look 51 = .ok (.iload 5, 2) := by decide +kernel
theorem dX3_look_53 : decode cX3_look 53 = .ok (.bipush (-2), 2) := by decide +kernel
theorem dX3_look_55 : decode cX3_look 55 = .ok (.iand, 1) := by decide +kernel
theorem dX3_look_56 : decode cX3_look 56 = .ok (.ireturn, 1) := by decide +kernel
theorem dX3_look_57 : decode cX3_look 57 = .ok (.iload 5, 2) := by decide +kernel
theorem dX3_look_59 : decode cX3_look 59 = .ok (.iload 4, 2) := by decide +kernel
theorem dX3_look_61 : decode cX3_look 61 = .ok (.ior, 1) := by decide +kernel
theorem dX3_look_62 : decode cX3_look 62 = .ok (.ireturn, 1) := by decide +kernel
theorem dX3_look_63 : decode cX3_look 63 = .ok (.iload_n 1, 1) := by decide +kernel
theorem dX3_look_64 : decode cX3_look 64 = .ok (.bipush 100, 2) := by decide +kernel
theorem dX3_look_66 : decode cX3_look 66 = .ok (.irem, 1) := by decide +kernel
theorem dX3_look_67 : decode cX3_look 67 = .ok (.istore 6, 2) := by decide +kernel
theorem dX3_look_69 : decode cX3_look 69 = .ok (.iload_n 1, 1) := by decide +kernel
theorem dX3_look_70 : decode cX3_look 70 = .ok (.bipush 100, 2) := by decide +kernel
theorem dX3_look_72 : decode cX3_look 72 = .ok (.idiv, 1) := by decide +kernel
theorem dX3_look_73 : decode cX3_look 73 = .ok (.iconst 3, 1) := by decide +kernel
theorem dX3_look_74 : decode cX3_look 74 = .ok (.irem, 1) := by decide +kernel
theorem dX3_look_75 : decode cX3_look 75 = .ok (.istore 7, 2) := by decide +kernel
theorem dX3_look_77 : decode cX3_look 77 = .ok (.aload_n 2, 1) := by decide +kernel
theorem dX3_look_78 : decode cX3_look 78 = .ok (.iload_n 3, 1) := by decide +kernel
theorem dX3_look_79 : decode cX3_look 79 = .ok (.iload_n 1, 1) := by decide +kernel
theorem dX3_look_80 : decode cX3_look 80 = .ok (.bipush 100, 2) := by decide +kernel
theorem dX3_look_82 : decode cX3_look 82 = .ok (.idiv, 1) := by decide +kernel
theorem dX3_look_83 : decode cX3_look 83 = .ok (.iconst 3, 1) := by decide +kernel
theorem dX3_look_84 : decode cX3_look 84 = .ok (.idiv, 1) := by decide +kernel
theorem dX3_look_85 : decode cX3_look 85 = .ok (.invokevirtual 48, 3) := by decide +kernel
theorem dX3_look_88 : decode cX3_look 88 = .ok (.istore 8, 2) := by decide +kernel
theorem dX3_look_90 : decode cX3_look 90 = .ok (.iload 7, 2) := by decide +kernel
theorem dX3_look_92 : decode cX3_look 92 = .ok (.ifCond .ne 18, 3) := by decide +kernel
theorem dX3_look_95 : decode cX3_look 95 = .ok (.iload 8, 2) := by decide +kernel
theorem dX3_look_97 : decode cX3_look 97 = .ok (.iload 6, 2) := by decide +kernel
theorem dX3_look_99 : decode cX3_look 99 = .ok (.if_icmp .ge 7, 3) := by decide +kernel
theorem dX3_look_102 : decode cX3_look 102 = .ok (.iconst 1, 1) := by decide +kernel
theorem dX3_look_103 : decode cX3_look 103 = .ok (.goto 40, 3) := by decide +kernel
theorem dX3_look_106 : decode cX3_look 106 = .ok (.iconst 0, 1) := by decide +kernel
theorem dX3_look_107 : decode cX3_look 107 = .ok (.goto 36, 3) := by decide +kernel
theorem dX3_look_110 : decode cX3_look 110 = .ok (.iload 7, 2) := by decide +kernel
theorem dX3_look_112 : decode cX3_look 112 = .ok (.iconst 1, 1) := by decide +kernel
theorem dX3_look_113 : decode cX3_look 113 = .ok (.if_icmp .ne 18, 3) := by decide +kernel
theorem dX3_look_116 : decode cX3_look 116 = .ok (.iload 8, 2) := by decide +kernel
theorem dX3_look_118 : decode cX3_look 118 = .ok (.iload 6, 2) := by decide +kernel
theorem dX3_look_120 : decode cX3_look 120 = .ok (.if_icmp .ne 7, 3) := by decide +kernel
theorem dX3_look_123 : decode cX3_look 123 = .ok (.iconst 1, 1) := by decide +kernel
theorem dX3_look_124 : decode cX3_look 124 = .ok (.goto 19, 3) := by decide +kernel
theorem dX3_look_127 : decode cX3_look 127 = .ok (.iconst 0, 1) := by decide +kernel
theorem dX3_look_128 : decode cX3_look 128 = .ok (.goto 15, 3) := by decide +kernel
theorem dX3_look_131 : decode cX3_look 131 = .ok (.iload 8, 2) := by decide +kernel
theorem dX3_look_133 : decode cX3_look 133 = .ok (.iload 6, 2) := by decide +kernel
theorem dX3_look_135 : decode cX3_look 135 = .ok (.if_icmp .le 7, 3) := by decide +kernel
theorem dX3_look_138 : decode cX3_look 138 = .ok (.iconst 1, 1) := by decide +kernel
theorem dX3_look_139 : decode cX3_look 139 = .ok (.goto 4, 3) := by decide +kernel
theorem dX3_look_142 : decode cX3_look 142 = .ok (.iconst 0, 1) := by decide +kernel
theorem dX3_look_143 : decode cX3_look 143 = .ok (.istore 9, 2) := by decide +kernel
theorem dX3_look_145 : decode cX3_look 145 = .ok (.iload_n 0, 1) := by decide +kernel
theorem dX3_look_146 : decode cX3_look 146 = .ok (.iconst 1, 1) := by decide +kernel
theorem dX3_look_147 : decode cX3_look 147 = .ok (.ishl, 1) := by decide +kernel
theorem dX3_look_148 : decode cX3_look 148 = .ok (.iload 9, 2) := by decide +kernel
theorem dX3_look_150 : decode cX3_look 150 = .ok (.ifCond .eq 7, 3) := by decide +kernel
theorem dX3_look_153 : decode cX3_look 153 = .ok (.iconst 1, 1) := by decide +kernel
theorem dX3_look_154 : decode cX3_look 154 = .ok (.goto 4, 3) := by decide +kernel
theorem dX3_look_157 : decode cX3_look 157 = .ok (.iconst 0, 1) := by decide +kernel
theorem dX3_look_158 : decode cX3_look 158 = .ok (.ior, 1) := by decide +kernel
theorem dX3_look_159 : decode cX3_look 159 = .ok (.ireturn, 1) := by decide +kernel
set_option maxRecDepth 20000 in
theorem ggX4_init_X3_init : GoodIn wsX4_init wsX3_init := goodIn_r _ [17, 18, 2, 3, 19, 20, 21, 22, 23, 24, 25, 26, 32, 33, 34, 35, 36, 37, 38] (by decide +kernel) (by decide +kernel)
set_option maxRecDepth 20000 in
theorem gX4_init_X3_init_n20 : GoodIn wsX4_init (wsX3_init) := ggX4_init_X3_init
theorem dX4_init_0 : decode cX4_init 0 = .ok (.aload_n 0, 1) := by decide +kernel
theorem dX4_init_1 : decode cX4_init 1 = .ok (.invokespecial 3, 3) := by decide +kernel
theorem dX4_init_4 : decode cX4_init 4 = .ok (.aload_n 0, 1) := by decide +kernel
theorem dX4_init_5 : decode cX4_init 5 = .ok (.iconst 0, 1) := by decide +kernel
theorem dX4_init_6 : decode cX4_init 6 = .ok (.putfield 9, 3) := by decide +kernel
theorem dX4_init_9 : decode cX4_init 9 = .ok (.aload_n 0, 1) := by decide +kernel
theorem dX4_init_10 : decode cX4_init 10 = .ok (.iconst 0, 1) := by decide +kernel
theorem dX4_init_11 : decode cX4_init 11 = .ok (.putfield 15, 3) := by decide +kernel
theorem dX4_init_14 : decode cX4_init 14 = .ok (.aload_n 0, 1) := by decide +kernel
theorem dX4_init_15 : decode cX4_init 15 = .ok (.new 18, 3) := by decide +kernel
theorem dX4_init_18 : decode cX4_init 18 = .ok (.dup, 1) := by decide +kernel
theorem dX4_init_19 : decode cX4_init 19 = .ok (.invokespecial 20, 3) := by decide +kernel
theorem dX4_init_22 : decode cX4_init 22 = .ok (.putfield 21, 3) := by decide +kernel
theorem dX4_init_25 : decode cX4_init 25 = .ok (.aload_n 0, 1) := by decide +kernel
theorem dX4_init_26 : decode cX4_init 26 = .ok (.aload_n 1, 1) := by decide +kernel
theorem dX4_init_27 : decode cX4_init 27 = .ok (.putfield 25, 3) := by decide +kernel
theorem dX4_init_30 : decode cX4_init 30 = .ok (.aload_n 0, 1) := by decide +kernel
theorem dX4_init_31 : decode cX4_init 31 = .ok (.iload_n 2, 1) := by decide +kernel
theorem dX4_init_32 : decode cX4_init 32 = .ok (.aload_n 1, 1) := by decide +kernel
theorem dX4_init_33 : decode cX4_init 33 = .ok (.arraylength, 1) := by decide +kernel
theorem dX4_init_34 : decode cX4_init 34 = .ok (.invokestatic 29, 3) := by decide +kernel
theorem dX4_init_37 : decode cX4_init 37 = .ok (.putfield 35, 3) := by decide +kernel
theorem dX4_init_40 : decode cX4_init 40 = .ok (.return_, 1) := by decide +kernel
set_option maxRecDepth 20000 in
theorem ggX4_readLesson_X4_take : GoodIn wsX4_readLesson wsX4_take := goodIn_r _ [7, 1, 2, 8, 164, 165, 166, 167, 168] (by decide +kernel) (by decide +kernel)
set_option maxRecDepth 20000 in
theorem gX4_readLesson_X4_take : GoodIn wsX4_readLesson (wsV RX4 38 RX4 yX4_take wsX4_take) := goodIn_app (goodIn_of _ (by decide +kernel)) ggX4_readLesson_X4_take
set_option maxRecDepth 20000 in
theorem ggX4_readLesson_X4_readClause : GoodIn wsX4_readLesson wsX4_readClause := goodIn_r _ [12, 13, 14, 3, 4, 5, 6, 7, 1, 2, 8, 15, 16, 17, 18, 19, 20, 21, 22, 23, 24, 25, 26, 27, 28, 29, 30, 31, 32, 33, 34, 35, 36, 37, 38, 39, 40, 41, 42, 43, 44, 45, 46, 47, 48, 49, 50, 51, 52, 53, 54, 55, 56, 57, 58, 59, 60, 61, 62, 63, 64, 65, 66, 67, 68, 69, 70, 71, 72, 73, 74, 75, 76, 77, 78, 79, 80, 81, 82, 83, 84, 85, 86, 87, 88, 89, 90, 91, 92, 93, 94, 95, 96, 97, 98, 99, 100, 101, 102, 103, 104, 105, 106, 107, 108, 109, 110, 111, 112, 113, 114, 115, 116, 117, 118, 119, 120, 121, 122, 123, 124, 125, 126, 127, 128, 129, 130, 131, 132, 133, 134, 135, 136, 137, 138, 139, 140, 141, 142, 143, 144, 145, 146, 147, 148, 149, 150, 151, 152, 153, 154, 155, 156, 157, 158, 159, 160, 161, 162, 163, 164, 165, 166, 167, 168, 169, 170, 171, 172, 173, 174, 175] (by decide +kernel) (by decide +kernel)
set_option maxRecDepth 20000 in
theorem gX4_readLesson_X4_readClause : GoodIn wsX4_readLesson (wsV RX4 42 RX4 yX4_readClause wsX4_readClause) := goodIn_app (goodIn_of _ (by decide +kernel)) ggX4_readLesson_X4_readClause
theorem dX4_readLesson_0 : decode cX4_readLesson 0 = .ok (.iconst 0, 1) := by decide +kernel
theorem dX4_readLesson_1 : decode cX4_readLesson 1 = .ok (.istore_n 1, 1) := by decide +kernel
theorem dX4_readLesson_2 : decode cX4_readLesson 2 = .ok (.iload_n 1, 1) := by decide +kernel
theorem dX4_readLesson_3 : decode cX4_readLesson 3 = .ok (.bipush 10, 2) := by decide +kernel
theorem dX4_readLesson_5 : decode cX4_readLesson 5 = .ok (.if_icmp .ge 34, 3) := by decide +kernel
theorem dX4_readLesson_8 : decode cX4_readLesson 8 = .ok (.iload_n 1, 1) := by decide +kernel
theorem dX4_readLesson_9 : decode cX4_readLesson 9 = .ok (.ifCond .le 15, 3) := by decide +kernel
theorem dX4_readLesson_12 : decode cX4_readLesson 12 = .ok (.aload_n 0, 1) := by decide +kernel
theorem dX4_readLesson_13 : decode cX4_readLesson 13 = .ok (.bipush 59, 2) := by decide +kernel
theorem dX4_readLesson_15 : decode cX4_readLesson 15 = .ok (.invokevirtual 38, 3) := by decide +kernel
theorem dX4_readLesson_18 : decode cX4_readLesson 18 = .ok (.ifCond .ne 6, 3) := by decide +kernel
theorem dX4_readLesson_21 : decode cX4_readLesson 21 = .ok (.goto 18, 3) := by decide +kernel
theorem dX4_readLesson_24 : decode cX4_readLesson 24 = .ok (.aload_n 0, 1) := by decide +kernel
theorem dX4_readLesson_25 : decode cX4_readLesson 25 = .ok (.invokevirtual 42, 3) := by decide +kernel
theorem dX4_readLesson_28 : decode cX4_readLesson 28 = .ok (.ifCond .ne 5, 3) := by decide +kernel
theorem dX4_readLesson_31 : decode cX4_readLesson 31 = .ok (.iconst 0, 1) := by decide +kernel
theorem dX4_readLesson_32 : decode cX4_readLesson 32 = .ok (.ireturn, 1) := by decide +kernel
theorem dX4_readLesson_33 : decode cX4_readLesson 33 = .ok (.iinc 1 1, 3) := by decide +kernel
theorem dX4_readLesson_36 : decode cX4_readLesson 36 = .ok (.goto (-34), 3) := by decide +kernel
theorem dX4_readLesson_39 : decode cX4_readLesson 39 = .ok (.aload_n 0, 1) := by decide +kernel
theorem dX4_readLesson_40 : decode cX4_readLesson 40 = .ok (.getfield 9, 3) := by decide +kernel
theorem dX4_readLesson_43 : decode cX4_readLesson 43 = .ok (.aload_n 0, 1) := by decide +kernel
theorem dX4_readLesson_44 : decode cX4_readLesson 44 = .ok (.getfield 35, 3) := by decide +kernel
theorem dX4_readLesson_47 : decode cX4_readLesson 47 = .ok (.if_icmp .ne 7, 3) := by decide +kernel
theorem dX4_readLesson_50 : decode cX4_readLesson 50 = .ok (.iconst 1, 1) := by decide +kernel
theorem dX4_readLesson_51 : decode cX4_readLesson 51 = .ok (.goto 4, 3) := by decide +kernel
theorem dX4_readLesson_54 : decode cX4_readLesson 54 = .ok (.iconst 0, 1) := by decide +kernel
theorem dX4_readLesson_55 : decode cX4_readLesson 55 = .ok (.ireturn, 1) := by decide +kernel
set_option maxRecDepth 20000 in
theorem ggX4_readClause_X4_take : GoodIn wsX4_readClause wsX4_take := goodIn_r _ [7, 8, 9, 10, 160, 161, 162, 163, 164] (by decide +kernel) (by decide +kernel)
set_option maxRecDepth 20000 in
theorem gX4_readClause_X4_take : GoodIn wsX4_readClause (wsV RX4 38 RX4 yX4_take wsX4_take) := goodIn_app (goodIn_of _ (by decide +kernel)) ggX4_readClause_X4_take
set_option maxRecDepth 20000 in
theorem ggX4_readClause_X4_readWord : GoodIn wsX4_readClause wsX4_readWord := goodIn_r _ [14, 15, 16, 17, 18, 19, 20, 21, 22, 23, 24, 25, 26, 27, 28, 29, 30, 31, 32, 33, 34, 35, 36, 37, 38, 39, 40, 41, 42, 43, 44, 45, 46, 47, 48, 49, 50, 51, 52, 53, 54, 55, 56, 57, 58, 59, 60, 61, 62, 63, 3, 4, 5, 6, 7, 8, 9, 10, 160, 161, 162, 163, 164] (by decide +kernel) (by decide +kernel)
set_option maxRecDepth 20000 in
theorem gX4_readClause_X4_readWord : GoodIn wsX4_readClause (wsV RX4 48 RX4 yX4_readWord wsX4_readWord) := goodIn_app (goodIn_of _ (by decide +kernel)) ggX4_readClause_X4_readWord
set_option maxRecDepth 20000 in
theorem ggX4_readClause_X4_readNumber : GoodIn wsX4_readClause wsX4_readNumber := goodIn_r _ [67, 2, 68, 69, 70, 6, 71, 8, 9, 10, 72, 73, 74, 18, 75, 76, 77, 78, 79, 20, 31, 32, 33, 34, 25, 26, 80, 16, 17, 19, 21, 22, 23, 24, 81, 82, 37, 83, 84, 85, 86, 87, 88, 89, 90, 91, 92, 93, 94, 95, 96, 97, 98, 49, 99, 100, 101, 102, 103, 104, 105, 106, 107, 108, 54, 55, 56, 109, 110, 111, 42, 112, 113, 45, 114, 115, 116, 117, 58, 59, 60, 61, 62, 63, 118, 119, 120, 121, 122, 123, 124, 125, 126, 127, 128, 129, 130, 131, 132, 160, 161, 162, 163, 164] (by decide +kernel) (by decide +kernel)
set_option maxRecDepth 20000 in
theorem gX4_readClause_X4_readNumber : GoodIn wsX4_readClause (wsV RX4 52 RX4 yX4_readNumber wsX4_readNumber) := goodIn_app (goodIn_of _ (by decide +kernel)) ggX4_readClause_X4_readNumber
set_option maxRecDepth 20000 in
theorem ggX4_readClause_X4_readEither : GoodIn wsX4_readClause wsX4_readEither := goodIn_r _ [136, 9, 1, 3, 4, 5, 6, 7, 8, 10, 137, 138, 139, 140, 141, 142, 143, 144, 145, 146, 147, 2, 133, 134, 135, 68, 69, 70, 71, 72, 73, 74, 18, 75, 76, 77, 78, 79, 20, 31, 32, 33, 34, 25, 26, 80, 16, 17, 19, 21, 22, 23, 24, 81, 82, 37, 83, 84, 85, 86, 87, 88, 89, 90, 91, 92, 93, 94, 95, 96, 97, 98, 49, 99, 100, 101, 102, 103, 104, 105, 106, 107, 108, 54, 55, 56, 109, 110, 111, 42, 112, 113, 45, 114, 115, 116, 117, 58, 59, 60, 61, 62, 63, 118, 119, 120, 121, 122, 123, 124, 125, 126, 127, 128, 129, 130, 131, 132, 64, 65, 66, 67, 148, 149, 150, 151, 152, 160, 161, 162, 163, 164, 165, 166, 167, 168, 169, 170, 171] (by decide +kernel) (by decide +kernel)
set_option maxRecDepth 20000 in
theorem gX4_readClause_X4_readEither : GoodIn wsX4_readClause (wsV RX4 67 RX4 yX4_readEither wsX4_readEither) := goodIn_app (goodIn_of _ (by decide +kernel)) ggX4_readClause_X4_readEither
set_option maxRecDepth 20000 in
theorem ggX4_readClause_X3_addSpur : GoodIn wsX4_readClause wsX3_addSpur := goodIn_r _ [156, 157, 158, 159, 145, 165, 166, 167, 168, 169, 170, 171] (by decide +kernel) (by decide +kernel)
set_option maxRecDepth 20000 in
theorem gX4_readClause_X3_addSpur : GoodIn wsX4_readClause (wsV RX4 71 RX3 yX3_addSpur wsX3_addSpur) := goodIn_app (goodIn_of _ (by decide +kernel)) ggX4_readClause_X3_addSpur
theorem dX4_readClause_0 : decode cX4_readClause 0 = .ok (.aload_n 0, 1) := by decide +kernel
theorem dX4_readClause_1 : decode cX4_readClause 1 = .ok (.bipush 103, 2) := by decide +kernel
theorem dX4_readClause_3 : decode cX4_readClause 3 = .ok (.invokevirtual 38, 3) := by decide +kernel
theorem dX4_readClause_6 : decode cX4_readClause 6 = .ok (.ifCond .eq 34, 3) := by decide +kernel
theorem dX4_readClause_9 : decode cX4_readClause 9 = .ok (.aload_n 0, 1) := by decide +kernel
theorem dX4_readClause_10 : decode cX4_readClause 10 = .ok (.ldc 46, 2) := by decide +kernel
theorem dX4_readClause_12 : decode cX4_readClause 12 = .ok (.invokevirtual 48, 3) := by decide +kernel
theorem dX4_readClause_15 : decode cX4_readClause 15 = .ok (.ifCond .eq 10, 3) := by decide +kernel
theorem dX4_readClause_18 : decode cX4_readClause 18 = .ok (.aload_n 0, 1) := by decide +kernel
theorem dX4_readClause_19 : decode cX4_readClause 19 = .ok (.invokevirtual 52, 3) := by decide +kernel
theorem dX4_readClause_22 : decode cX4_readClause 22 = .ok (.ifCond .ne 5, 3) := by decide +kernel
theorem dX4_readClause_25 : decode cX4_readClause 25 = .ok (.iconst 0, 1) := by decide +kernel
theorem dX4_readClause_26 : decode cX4_readClause 26 = .ok (.ireturn, 1) := by decide +kernel
theorem dX4_readClause_27 : decode cX4_readClause 27 = .ok (.aload_n 0, 1) := by decide +kernel
theorem dX4_readClause_28 : decode cX4_readClause 28 = .ok (.getfield 21, 3) := by decide +kernel
theorem dX4_readClause_31 : decode cX4_readClause 31 = .ok (.aload_n 0, 1) := by decide +kernel
theorem dX4_readClause_32 : decode cX4_readClause 32 = .ok (.getfield 15, 3) := by decide +kernel
theorem dX4_readClause_35 : decode cX4_readClause 35 = .ok (.putfield 55, 3) := by decide +kernel
theorem dX4_readClause_38 : decode cX4_readClause 38 = .ok (.iconst 1, 1) := by decide +kernel
theorem dX4_readClause_39 : decode cX4_readClause 39 = .ok (.ireturn, 1) := by decide +kernel
theorem dX4_readClause_40 : decode cX4_readClause 40 = .ok (.aload_n 0, 1) := by decide +kernel
theorem dX4_readClause_41 : decode cX4_readClause 41 = .ok (.bipush 102, 2) := by decide +kernel
theorem dX4_readClause_43 : decode cX4_readClause 43 = .ok (.invokevirtual 38, 3) := by decide +kernel
theorem dX4_readClause_46 : decode cX4_readClause 46 = .ok (.ifCond .eq 34, 3) := by decide +kernel
theorem dX4_readClause_49 : decode cX4_readClause 49 = .ok (.aload_n 0, 1) := by decide +kernel
theorem dX4_readClause_50 : decode cX4_readClause 50 = .ok (.ldc 58, 2) := by decide +kernel
theorem dX4_readClause_52 : decode cX4_readClause 52 = .ok (.invokevirtual 48, 3) := by decide +kernel
theorem dX4_readClause_55 : decode cX4_readClause 55 = .ok (.ifCond .eq 10, 3) := by decide +kernel
theorem dX4_readClause_58 : decode cX4_readClause 58 = .ok (.aload_n 0, 1) := by decide +kernel
theorem dX4_readClause_59 : decode cX4_readClause 59 = .ok (.invokevirtual 52, 3) := by decide +kernel
theorem dX4_readClause_62 : decode cX4_readClause 62 = .ok (.ifCond .ne 5, 3) := by decide +kernel
theorem dX4_readClause_65 : decode cX4_readClause 65 = .ok (.iconst 0, 1) := by decide +kernel
theorem dX4_readClause_66 : decode cX4_readClause 66 = .ok (.ireturn, 1) := by decide +kernel
theorem dX4_readClause_67 : decode cX4_readClause 67 = .ok (.aload_n 0, 1) := by decide +kernel
theorem dX4_readClause_68 : decode cX4_readClause 68 = .ok (.getfield 21, 3) := by decide +kernel
theorem dX4_readClause_71 : decode cX4_readClause 71 = .ok (.aload_n 0, 1) := by decide +kernel
theorem dX4_readClause_72 : decode cX4_readClause 72 = .ok (.getfield 15, 3) := by decide +kernel
theorem dX4_readClause_75 : decode cX4_readClause 75 = .ok (.putfield 60, 3) := by decide +kernel
theorem dX4_readClause_78 : decode cX4_readClause 78 = .ok (.iconst 1, 1) := by decide +kernel
theorem dX4_readClause_79 : decode cX4_readClause 79 = .ok (.ireturn, 1) := by decide +kernel
theorem dX4_readClause_80 : decode cX4_readClause 80 = .ok (.aload_n 0, 1) := by decide +kernel
theorem dX4_readClause_81 : decode cX4_readClause 81 = .ok (.bipush 115, 2) := by decide +kernel
theorem dX4_readClause_83 : decode cX4_readClause 83 = .ok (.invokevirtual 38, 3) := by decide +kernel
theorem dX4_readClause_86 : decode cX4_readClause 86 = .ok (.ifCond .ne 5, 3) := by decide +kernel
theorem dX4_readClause_89 : decode cX4_readClause 89 = .ok (.iconst 0, 1) := by decide +kernel
theorem dX4_readClause_90 : decode cX4_readClause 90 = .ok (.ireturn, 1) := by decide +kernel
theorem dX4_readClause_91 : decode cX4_readClause 91 = .ok (.aload_n 0, 1) := by decide +kernel
theorem dX4_readClause_92 : decode cX4_readClause 92 = .ok (.bipush 112, 2) := by decide +kernel
theorem dX4_readClause_94 : decode cX4_readClause 94 = .ok (.invokevirtual 38, 3) := by decide +kernel
theorem dX4_readClause_97 : decode cX4_readClause 97 = .ok (.istore_n 1, 1) := by decide +kernel
theorem dX4_readClause_98 : decode cX4_readClause 98 = .ok (.aload_n 0, 1) := by decide +kernel
theorem dX4_readClause_99 : decode cX4_readClause 99 = .ok (.iload_n 1, 1) := by decide +kernel
theorem dX4_readClause_100 : decode cX4_readClause 100 = .ok (.ifCond .eq 8, 3) := by decide +kernel
theorem dX4_readClause_103 : decode cX4_readClause 103 = .ok (.ldc 63, 2) := by decide +kernel
theorem dX4_readClause_105 : decode cX4_readClause 105 = .ok (.goto 5, 3) := by decide +kernel
theorem dX4_readClause_108 : decode cX4_readClause 108 = .ok (.ldc 65, 2) := by decide +kernel
theorem dX4_readClause_110 : decode cX4_readClause 110 = .ok (.invokevirtual 48, 3) := by decide +kernel
theorem dX4_readClause_113 : decode cX4_readClause 113 = .ok (.ifCond .eq 10, 3) := by decide +kernel
theorem dX4_readClause_116 : decode cX4_readClause 116 = .ok (.aload_n 0, 1) := by decide +kernel
theorem dX4_readClause_117 : decode cX4_readClause 117 = .ok (.invokevirtual 52, 3) := by decide +kernel
theorem dX4_readClause_120 : decode cX4_readClause 120 = .ok (.ifCond .ne 5, 3) := by decide +kernel
theorem dX4_readClause_123 : decode cX4_readClause 123 = .ok (.iconst 0, 1) := by decide +kernel
theorem dX4_readClause_124 : decode cX4_readClause 124 = .ok (.ireturn, 1) := by decide +kernel
theorem dX4_readClause_125 : decode cX4_readClause 125 = .ok (.iload_n 1, 1) := by decide +kernel
theorem dX4_readClause_126 : decode cX4_readClause 126 = .ok (.ifCond .eq 10, 3) := by decide +kernel
theorem dX4_readClause_129 : decode cX4_readClause 129 = .ok (.aload_n 0, 1) := by decide +kernel
theorem dX4_readClause_130 : decode cX4_readClause 130 = .ok (.getfield 15, 3) := by decide +kernel
theorem dX4_readClause_133 : decode cX4_readClause 133 = .ok (.goto 8, 3) := by decide +kernel
theorem dX4_readClause_136 : decode cX4_readClause 136 = .ok (.aload_n 0, 1) := by decide +kernel
theorem dX4_readClause_137 : decode cX4_readClause 137 = .ok (.getfield 15, 3) := by decide +kernel
theorem dX4_readClause_140 : decode cX4_readClause 140 = .ok (.ineg, 1) := by decide +kernel
theorem dX4_readClause_141 : decode cX4_readClause 141 = .ok (.istore_n 2, 1) := by decide +kernel
theorem dX4_readClause_142 : decode cX4_readClause 142 = .ok (.aload_n 0, 1) := by decide +kernel
theorem dX4_readClause_143 : decode cX4_readClause 143 = .ok (.bipush 32, 2) := by decide +kernel
theorem dX4_readClause_145 : decode cX4_readClause 145 = .ok (.invokevirtual 38, 3) := by decide +kernel
theorem dX4_readClause_148 : decode cX4_readClause 148 = .ok (.ifCond .eq 11, 3) := by decide +kernel
theorem dX4_readClause_151 : decode cX4_readClause 151 = .ok (.aload_n 0, 1) := by decide +kernel
theorem dX4_readClause_152 : decode cX4_readClause 152 = .ok (.iconst 0, 1) := by decide +kernel
theorem dX4_readClause_153 : decode cX4_readClause 153 = .ok (.invokevirtual 67, 3) := by decide +kernel
theorem dX4_readClause_156 : decode cX4_readClause 156 = .ok (.ifCond .ne 5, 3) := by decide +kernel
theorem dX4_readClause_159 : decode cX4_readClause 159 = .ok (.iconst 0, 1) := by decide +kernel
theorem dX4_readClause_160 : decode cX4_readClause 160 = .ok (.ireturn, 1) := by decide +kernel
theorem dX4_readClause_161 : decode cX4_readClause 161 = .ok (.aload_n 0, 1) := by decide +kernel
theorem dX4_readClause_162 : decode cX4_readClause 162 = .ok (.getfield 21, 3) := by decide +kernel
theorem dX4_readClause_165 : decode cX4_readClause 165 = .ok (.iload_n 2, 1) := by decide +kernel
theorem dX4_readClause_166 : decode cX4_readClause 166 = .ok (.invokevirtual 71, 3) := by decide +kernel
theorem dX4_readClause_169 : decode cX4_readClause 169 = .ok (.iconst 1, 1) := by decide +kernel
theorem dX4_readClause_170 : decode cX4_readClause 170 = .ok (.ireturn, 1) := by decide +kernel
set_option maxRecDepth 20000 in
theorem ggX4_readEither_X4_take : GoodIn wsX4_readEither wsX4_take := goodIn_r _ [7, 8, 1, 9, 127, 128, 129, 130, 131] (by decide +kernel) (by decide +kernel)
set_option maxRecDepth 20000 in
theorem gX4_readEither_X4_take : GoodIn wsX4_readEither (wsV RX4 38 RX4 yX4_take wsX4_take) := goodIn_app (goodIn_of _ (by decide +kernel)) ggX4_readEither_X4_take
set_option maxRecDepth 20000 in
theorem ggX4_readEither_X4_readPart : GoodIn wsX4_readEither wsX4_readPart := goodIn_r _ [20, 2, 21, 3, 4, 5, 6, 7, 8, 1, 9, 10, 11, 12, 13, 14, 15, 16, 17, 18, 19, 22, 23, 24, 25, 26, 27, 28, 29, 30, 31, 32, 33, 34, 35, 36, 37, 38, 39, 40, 41, 42, 43, 44, 45, 46, 47, 48, 49, 50, 51, 52, 53, 54, 55, 56, 57, 58, 59, 60, 61, 62, 63, 64, 65, 66, 67, 68, 69, 70, 71, 72, 73, 74, 75, 76, 77, 78, 79, 80, 81, 82, 83, 84, 85, 86, 87, 88, 89, 90, 91, 92, 93, 94, 95, 96, 97, 98, 99, 100, 101, 102, 103, 104, 105, 106, 107, 108, 109, 110, 111, 112, 113, 114, 115, 116, 117, 118, 119, 120, 121, 122, 123, 124, 125, 126, 0, 127, 128, 129, 130, 131, 132, 133, 134, 135, 136, 137, 138] (by decide +kernel) (by decide +kernel)
set_option maxRecDepth 20000 in
theorem gX4_readEither_X4_readPart : GoodIn wsX4_readEither (wsV RX4 75 RX4 yX4_readPart wsX4_readPart) := goodIn_app (goodIn_of _ (by decide +kernel)) ggX4_readEither_X4_readPart
set_option maxRecDepth 20000 in
theorem ggX4_readEither_X3_addCode : GoodIn wsX4_readEither wsX3_addCode := goodIn_r _ [17, 18, 19, 132, 133, 134, 135, 136, 137, 138] (by decide +kernel) (by decide +kernel)
set_option maxRecDepth 20000 in
theorem gX4_readEither_X3_addCode : GoodIn wsX4_readEither (wsV RX4 78 RX3 yX3_addCode wsX3_addCode) := goodIn_app (goodIn_of _ (by decide +kernel)) ggX4_readEither_X3_addCode
theorem dX4_readEither_0 : decode cX4_readEither 0 = .ok (.iconst 0, 1) := by decide +kernel
theorem dX4_readEither_1 : decode cX4_readEither 1 = .ok (.istore_n 2, 1) := by decide +kernel
theorem dX4_readEither_2 : decode cX4_readEither 2 = .ok (.iload_n 2, 1) := by decide +kernel
theorem dX4_readEither_3 : decode cX4_readEither 3 = .ok (.aload_n 0, 1) := by decide +kernel
theorem dX4_readEither_4 : decode cX4_readEither 4 = .ok (.getfield 35, 3) := by decide +kernel
theorem dX4_readEither_7 : decode cX4_readEither 7 = .ok (.if_icmp .gt 93, 3) := by decide +kernel
theorem dX4_readEither_10 : decode cX4_readEither 10 = .ok (.iload_n 2, 1) := by decide +kernel
theorem dX4_readEither_11 : decode cX4_readEither 11 = .ok (.ifCond .le 15, 3) := by decide +kernel
theorem dX4_readEither_14 : decode cX4_readEither 14 = .ok (.aload_n 0, 1) := by decide +kernel
theorem dX4_readEither_15 : decode cX4_readEither 15 = .ok (.bipush 124, 2) := by decide +kernel
theorem dX4_readEither_17 : decode cX4_readEither 17 = .ok (.invokevirtual 38, 3) := by decide +kernel
theorem dX4_readEither_20 : decode cX4_readEither 20 = .ok (.ifCond .ne 6, 3) := by decide +kernel
theorem dX4_readEither_23 : decode cX4_readEither 23 = .ok (.goto 77, 3) := by decide +kernel
theorem dX4_readEither_26 : decode cX4_readEither 26 = .ok (.iconst 0, 1) := by decide +kernel
theorem dX4_readEither_27 : decode cX4_readEither 27 = .ok (.istore_n 3, 1) := by decide +kernel
theorem dX4_readEither_28 : decode cX4_readEither 28 = .ok (.iload_n 3, 1) := by decide +kernel
theorem dX4_readEither_29 : decode cX4_readEither 29 = .ok (.aload_n 0, 1) := by decide +kernel
theorem dX4_readEither_30 : decode cX4_readEither 30 = .ok (.getfield 35, 3) := by decide +kernel
theorem dX4_readEither_33 : decode cX4_readEither 33 = .ok (.if_icmp .gt 48, 3) := by decide +kernel
theorem dX4_readEither_36 : decode cX4_readEither 36 = .ok (.iload_n 3, 1) := by decide +kernel
theorem dX4_readEither_37 : decode cX4_readEither 37 = .ok (.ifCond .le 15, 3) := by decide +kernel
theorem dX4_readEither_40 : decode cX4_readEither 40 = .ok (.aload_n 0, 1) := by decide +kernel
theorem dX4_readEither_41 : decode cX4_readEither 41 = .ok (.bipush 38, 2) := by decide +kernel
theorem dX4_readEither_43 : decode cX4_readEither 43 = .ok (.invokevirtual 38, 3) := by decide +kernel
theorem dX4_readEither_46 : decode cX4_readEither 46 = .ok (.ifCond .ne 6, 3) := by decide +kernel
theorem dX4_readEither_49 : decode cX4_readEither 49 = .ok (.goto 32, 3) := by decide +kernel
theorem dX4_readEither_52 : decode cX4_readEither 52 = .ok (.aload_n 0, 1) := by decide +kernel
theorem dX4_readEither_53 : decode cX4_readEither 53 = .ok (.iload_n 1, 1) := by decide +kernel
theorem dX4_readEither_54 : decode cX4_readEither 54 = .ok (.invokevirtual 75, 3) := by decide +kernel
theorem dX4_readEither_57 : decode cX4_readEither 57 = .ok (.ifCond .ne 5, 3) := by decide +kernel
theorem dX4_readEither_60 : decode cX4_readEither 60 = .ok (.iconst 0, 1) := by decide +kernel
theorem dX4_readEither_61 : decode cX4_readEither 61 = .ok (.ireturn, 1) := by decide +kernel
theorem dX4_readEither_62 : decode cX4_readEither 62 = .ok (.iload_n 3, 1) := by decide +kernel
theorem dX4_readEither_63 : decode cX4_readEither 63 = .ok (.ifCond .le 12, 3) := by decide +kernel
theorem dX4_readEither_66 : decode cX4_readEither 66 = .ok (.aload_n 0, 1) := by decide +kernel
theorem dX4_readEither_67 : decode cX4_readEither 67 = .ok (.getfield 21, 3) := by decide +kernel
theorem dX4_readEither_70 : decode cX4_readEither 70 = .ok (.bipush (-2), 2) := by decide +kernel
theorem dX4_readEither_72 : decode cX4_readEither 72 = .ok (.invokevirtual 78, 3) := by decide +kernel
theorem dX4_readEither_75 : decode cX4_readEither 75 = .ok (.iinc 3 1, 3) := by decide +kernel
theorem dX4_readEither_78 : decode cX4_readEither 78 = .ok (.goto (-50), 3) := by decide +kernel
theorem dX4_readEither_81 : decode cX4_readEither 81 = .ok (.iload_n 2, 1) := by decide +kernel
theorem dX4_readEither_82 : decode cX4_readEither 82 = .ok (.ifCond .le 12, 3) := by decide +kernel
theorem dX4_readEither_85 : decode cX4_readEither 85 = .ok (.aload_n 0, 1) := by decide +kernel
theorem dX4_readEither_86 : decode cX4_readEither 86 = .ok (.getfield 21, 3) := by decide +kernel
theorem dX4_readEither_89 : decode cX4_readEither 89 = .ok (.bipush (-3), 2) := by decide +kernel
theorem dX4_readEither_91 : decode cX4_readEither 91 = .ok (.invokevirtual 78, 3) := by decide +kernel
theorem dX4_readEither_94 : decode cX4_readEither 94 = .ok (.iinc 2 1, 3) := by decide +kernel
theorem dX4_readEither_97 : decode cX4_readEither 97 = .ok (.goto (-95), 3) := by decide +kernel
theorem dX4_readEither_100 : decode cX4_readEither 100 = .ok (.iconst 1, 1) := by decide +kernel
theorem dX4_readEither_101 : decode cX4_readEither 101 = .ok (.ireturn, 1) := by decide +kernel
set_option maxRecDepth 20000 in
theorem ggX4_readPart_X4_take : GoodIn wsX4_readPart wsX4_take := goodIn_r _ [7, 8, 9, 10, 127, 128, 129, 130, 131] (by decide +kernel) (by decide +kernel)
set_option maxRecDepth 20000 in
theorem gX4_readPart_X4_take : GoodIn wsX4_readPart (wsV RX4 38 RX4 yX4_take wsX4_take) := goodIn_app (goodIn_of _ (by decide +kernel)) ggX4_readPart_X4_take
set_option maxRecDepth 20000 in
theorem ggX4_readPart_X4_readPart : GoodIn wsX4_readPart wsX4_readPart := goodIn_r _ [0, 1, 2, 3, 4, 5, 6, 7, 8, 9, 10, 11, 12, 13, 14, 15, 16, 17, 18, 19, 20, 21, 22, 23, 24, 25, 26, 27, 28, 29, 30, 31, 32, 33, 34, 35, 36, 37, 38, 39, 40, 41, 42, 43, 44, 45, 46, 47, 48, 49, 50, 51, 52, 53, 54, 55, 56, 57, 58, 59, 60, 61, 62, 63, 64, 65, 66, 67, 68, 69, 70, 71, 72, 73, 74, 75, 76, 77, 78, 79, 80, 81, 82, 83, 84, 85, 86, 87, 88, 89, 90, 91, 92, 93, 94, 95, 96, 97, 98, 99, 100, 101, 102, 103, 104, 105, 106, 107, 108, 109, 110, 111, 112, 113, 114, 115, 116, 117, 118, 119, 120, 121, 122, 123, 124, 125, 126, 127, 128, 129, 130, 131, 132, 133, 134, 135, 136, 137, 138] (by decide +kernel) (by decide +kernel)
set_option maxRecDepth 20000 in
theorem gX4_readPart_X4_readPart : GoodIn wsX4_readPart (wsV RX4 75 RX4 yX4_readPart wsX4_readPart) := goodIn_app (goodIn_of _ (by decide +kernel)) ggX4_readPart_X4_readPart
set_option maxRecDepth 20000 in
theorem ggX4_readPart_X3_addCode : GoodIn wsX4_readPart wsX3_addCode := goodIn_r _ [18, 19, 20, 132, 133, 134, 135, 136, 137, 138] (by decide +kernel) (by decide +kernel)
set_option maxRecDepth 20000 in
theorem gX4_readPart_X3_addCode : GoodIn wsX4_readPart (wsV RX4 78 RX3 yX3_addCode wsX3_addCode) := goodIn_app (goodIn_of _ (by decide +kernel)) ggX4_readPart_X3_addCode
set_option maxRecDepth 20000 in
theorem ggX4_readPart_X4_readEither : GoodIn wsX4_readPart wsX4_readEither := goodIn_r _ [126, 9, 1, 3, 4, 5, 6, 7, 8, 10, 11, 12, 13, 14, 15, 16, 17, 18, 19, 20, 0, 2, 21, 22, 23, 24, 25, 26, 27, 28, 29, 30, 31, 32, 33, 34, 35, 36, 37, 38, 39, 40, 41, 42, 43, 44, 45, 46, 47, 48, 49, 50, 51, 52, 53, 54, 55, 56, 57, 58, 59, 60, 61, 62, 63, 64, 65, 66, 67, 68, 69, 70, 71, 72, 73, 74, 75, 76, 77, 78, 79, 80, 81, 82, 83, 84, 85, 86, 87, 88, 89, 90, 91, 92, 93, 94, 95, 96, 97, 98, 99, 100, 101, 102, 103, 104, 105, 106, 107, 108, 109, 110, 111, 112, 113, 114, 115, 116, 117, 118, 119, 120, 121, 122, 123, 124, 125, 127, 128, 129, 130, 131, 132, 133, 134, 135, 136, 137, 138] (by decide +kernel) (by decide +kernel)
set_option maxRecDepth 20000 in
theorem gX4_readPart_X4_readEither : GoodIn wsX4_readPart (wsV RX4 67 RX4 yX4_readEither wsX4_readEither) := goodIn_app (goodIn_of _ (by decide +kernel)) ggX4_readPart_X4_readEither
set_option maxRecDepth 20000 in
theorem ggX4_readPart_X4_takeOneOf : GoodIn wsX4_readPart wsX4_takeOneOf := goodIn_r _ [27, 8, 9, 10, 28, 29, 30, 31, 32, 33, 34, 35, 36, 37, 38, 39, 40, 41, 42, 43, 44, 45, 46, 47, 48, 49, 50, 51, 52, 53, 54, 55, 56, 57, 58, 59, 60, 61, 62, 63, 64, 65, 66, 67, 68, 69, 70, 71, 72, 73, 74, 75, 76, 77, 78, 79, 80, 81, 82, 83, 84, 85, 86, 87, 88, 89, 90, 91, 92, 93, 94, 95, 96, 97, 98, 99, 100, 101, 102, 103, 104, 105, 106, 107, 108, 109, 110, 111, 112, 113, 114, 115, 116, 127, 128, 129, 130, 131] (by decide +kernel) (by decide +kernel)
set_option maxRecDepth 20000 in
theorem gX4_readPart_X4_takeOneOf : GoodIn wsX4_readPart (wsV RX4 83 RX4 yX4_takeOneOf wsX4_takeOneOf) := goodIn_app (goodIn_of _ (by decide +kernel)) ggX4_readPart_X4_takeOneOf
set_option maxRecDepth 20000 in
theorem ggX4_readPart_X4_readNumber : GoodIn wsX4_readPart wsX4_readNumber := goodIn_r _ [120, 2, 24, 25, 26, 6, 27, 8, 9, 10, 28, 29, 30, 31, 32, 33, 34, 35, 36, 37, 38, 39, 40, 41, 42, 43, 44, 45, 46, 47, 48, 49, 50, 51, 52, 53, 54, 55, 56, 57, 58, 59, 60, 61, 62, 63, 64, 65, 66, 67, 68, 69, 70, 71, 72, 73, 74, 75, 76, 77, 78, 79, 80, 81, 82, 83, 84, 85, 86, 87, 88, 89, 90, 91, 92, 93, 94, 95, 96, 97, 98, 99, 100, 101, 102, 103, 104, 105, 106, 107, 108, 109, 110, 111, 112, 113, 114, 115, 116, 127, 128, 129, 130, 131] (by decide +kernel) (by decide +kernel)
set_option maxRecDepth 20000 in
theorem gX4_readPart_X4_readNumber : GoodIn wsX4_readPart (wsV RX4 52 RX4 yX4_readNumber wsX4_readNumber) := goodIn_app (goodIn_of _ (by decide +kernel)) ggX4_readPart_X4_readNumber
set_option maxRecDepth 20000 in
theorem ggX4_readPart_X3_addTest : GoodIn wsX4_readPart wsX3_addTest := goodIn_r _ [124, 125, 15, 16, 17, 18, 19, 20, 132, 133, 134, 135, 136, 137, 138] (by decide +kernel) (by decide +kernel)
set_option maxRecDepth 20000 in
theorem gX4_readPart_X3_addTest : GoodIn wsX4_readPart (wsV RX4 89 RX3 yX3_addTest wsX3_addTest) := goodIn_app (goodIn_of _ (by decide +kernel)) ggX4_readPart_X3_addTest
theorem dX4_readPart_0 : decode cX4_readPart 0 = .ok (.iload_n 1, 1) := by decide +kernel
theorem dX4_readPart_1 : decode cX4_readPart 1 = .ok (.iconst 5, 1) := by decide +kernel
theorem dX4_readPart_2 : decode cX4_readPart 2 = .ok (.if_icmp .ge 34, 3) := by decide +kernel
theorem dX4_readPart_5 : decode cX4_readPart 5 = .ok (.aload_n 0, 1) := by decide +kernel
theorem dX4_readPart_6 : decode cX4_readPart 6 = .ok (.bipush 33, 2) := by decide +kernel
theorem dX4_readPart_8 : decode cX4_readPart 8 = .ok (.invokevirtual 38, 3) := by decide +kernel
theorem dX4_readPart_11 : decode cX4_readPart 11 = .ok (.ifCond .eq 25, 3) := by decide +kernel
theorem dX4_readPart_14 : decode cX4_readPart 14 = .ok (.aload_n 0, 1) := by decide +kernel
theorem dX4_readPart_15 : decode cX4_readPart 15 = .ok (.iload_n 1, 1) := by decide +kernel
theorem dX4_readPart_16 : decode cX4_readPart 16 = .ok (.iconst 1, 1) := by decide +kernel
theorem dX4_readPart_17 : decode cX4_readPart 17 = .ok (.iadd, 1) := by decide +kernel
theorem dX4_readPart_18 : decode cX4_readPart 18 = .ok (.invokevirtual 75, 3) := by decide +kernel
theorem dX4_readPart_21 : decode cX4_readPart 21 = .ok (.ifCond .ne 5, 3) := by decide +kernel
theorem dX4_readPart_24 : decode cX4_readPart 24 = .ok (.iconst 0, 1) := by decide +kernel
theorem dX4_readPart_25 : decode cX4_readPart 25 = .ok (.ireturn, 1) := by decide +kernel
theorem dX4_readPart_26 : decode cX4_readPart 26 = .ok (.aload_n 0, 1) := by decide +kernel
theorem dX4_readPart_27 : decode cX4_readPart 27 = .ok (.getfield 21, 3) := by decide +kernel
theorem dX4_readPart_30 : decode cX4_readPart 30 = .ok (.iconst (-1), 1) := by decide +kernel
theorem dX4_readPart_31 : decode cX4_readPart 31 = .ok (.invokevirtual 78, 3) := by decide +kernel
theorem dX4_readPart_34 : decode cX4_readPart 34 = .ok (.iconst 1, 1) := by decide +kernel
theorem dX4_readPart_35 : decode cX4_readPart 35 = .ok (.ireturn, 1) := by decide +kernel
theorem dX4_readPart_36 : decode cX4_readPart 36 = .ok (.iload_n 1, 1) := by decide +kernel
theorem dX4_readPart_37 : decode cX4_readPart 37 = .ok (.iconst 5, 1) := by decide +kernel
theorem dX4_readPart_38 : decode cX4_readPart 38 = .ok (.if_icmp .ge 37, 3) := by decide +kernel
theorem dX4_readPart_41 : decode cX4_readPart 41 = .ok (.aload_n 0, 1) := by decide +kernel
theorem dX4_readPart_42 : decode cX4_readPart 42 = .ok (.bipush 40, 2) := by decide +kernel
theorem dX4_readPart_44 : decode cX4_readPart 44 = .ok (.invokevirtual 38, 3) := by decide +kernel
theorem dX4_readPart_47 : decode cX4_readPart 47 = .ok (.ifCond .eq 28, 3) := by decide +kernel
theorem dX4_readPart_50 : decode cX4_readPart 50 = .ok (.aload_n 0, 1) := by decide +kernel
theorem dX4_readPart_51 : decode cX4_readPart 51 = .ok (.iload_n 1, 1) := by decide +kernel
theorem dX4_readPart_52 : decode cX4_readPart 52 = .ok (.iconst 1, 1) := by decide +kernel
theorem dX4_readPart_53 : decode cX4_readPart 53 = .ok (.iadd, 1) := by decide +kernel
theorem dX4_readPart_54 : decode cX4_readPart 54 = .ok (.invokevirtual 67, 3) := by decide +kernel
theorem dX4_readPart_57 : decode cX4_readPart 57 = .ok (.ifCond .eq 16, 3) := by decide +kernel
theorem dX4_readPart_60 : decode cX4_readPart 60 = .ok (.aload_n 0, 1) := by decide +kernel
theorem dX4_readPart_61 : decode cX4_readPart 61 = .ok (.bipush 41, 2) := by decide +kernel
theorem dX4_readPart_63 : decode cX4_readPart 63 = .ok (.invokevirtual 38, 3) := by decide +kernel
theorem dX4_readPart_66 : decode cX4_readPart 66 = .ok (.ifCond .eq 7, 3) := by decide +kernel
theorem dX4_readPart_69 : decode cX4_readPart 69 = .ok (.iconst 1, 1) := by decide +kernel
theorem dX4_readPart_70 : decode cX4_readPart 70 = .ok (.goto 4, 3) := by decide +kernel
theorem dX4_readPart_73 : decode cX4_readPart 73 = .ok (.iconst 0, 1) := by decide +kernel
theorem dX4_readPart_74 : decode cX4_readPart 74 = .ok (.ireturn, 1) := by decide +kernel
theorem dX4_readPart_75 : decode cX4_readPart 75 = .ok (.aload_n 0, 1) := by decide +kernel
theorem dX4_readPart_76 : decode cX4_readPart 76 = .ok (.ldc 81, 2) := by decide +kernel
theorem dX4_readPart_78 : decode cX4_readPart 78 = .ok (.invokevirtual 83, 3) := by decide +kernel
theorem dX4_readPart_81 : decode cX4_readPart 81 = .ok (.istore_n 2, 1) := by decide +kernel
theorem dX4_readPart_82 : decode cX4_readPart 82 = .ok (.iload_n 2, 1) := by decide +kernel
theorem dX4_readPart_83 : decode cX4_readPart 83 = .ok (.ifCond .ge 5, 3) := by decide +kernel
theorem dX4_readPart_86 : decode cX4_readPart 86 = .ok (.iconst 0, 1) := by decide +kernel
theorem dX4_readPart_87 : decode cX4_readPart 87 = .ok (.ireturn, 1) := by decide +kernel
theorem dX4_readPart_88 : decode cX4_readPart 88 = .ok (.aload_n 0, 1) := by decide +kernel
theorem dX4_readPart_89 : decode cX4_readPart 89 = .ok (.ldc 87, 2) := by decide +kernel
theorem dX4_readPart_91 : decode cX4_readPart 91 = .ok (.invokevirtual 83, 3) := by decide +kernel
theorem dX4_readPart_94 : decode cX4_readPart 94 = .ok (.istore_n 3, 1) := by decide +kernel
theorem dX4_readPart_95 : decode cX4_readPart 95 = .ok (.iload_n 3, 1) := by decide +kernel
theorem dX4_readPart_96 : decode cX4_readPart 96 = .ok (.ifCond .lt 10, 3) := by decide +kernel
theorem dX4_readPart_99 : decode cX4_readPart 99 = .ok (.aload_n 0, 1) := by decide +kernel
theorem dX4_readPart_100 : decode cX4_readPart 100 = .ok (.invokevirtual 52, 3) := by decide +kernel
theorem dX4_readPart_103 : decode cX4_readPart 103 = .ok (.ifCond .ne 5, 3) := by decide +kernel
theorem dX4_readPart_106 : decode cX4_readPart 106 = .ok (.iconst 0, 1) := by decide +kernel
theorem dX4_readPart_107 : decode cX4_readPart 107 = .ok (.ireturn, 1) := by decide +kernel
theorem dX4_readPart_108 : decode cX4_readPart 108 = .ok (.aload_n 0, 1) := by decide +kernel
theorem dX4_readPart_109 : decode cX4_readPart 109 = .ok (.getfield 21, 3) := by decide +kernel
theorem dX4_readPart_112 : decode cX4_readPart 112 = .ok (.iload_n 2, 1) := by decide +kernel
theorem dX4_readPart_113 : decode cX4_readPart 113 = .ok (.iload_n 3, 1) := by decide +kernel
theorem dX4_readPart_114 : decode cX4_readPart 114 = .ok (.aload_n 0, 1) := by decide +kernel
theorem dX4_readPart_115 : decode cX4_readPart 115 = .ok (.getfield 15, 3) := by decide +kernel
theorem dX4_readPart_118 : decode cX4_readPart 118 = .ok (.invokevirtual 89, 3) := by decide +kernel
theorem dX4_readPart_121 : decode cX4_readPart 121 = .ok (.iconst 1, 1) := by decide +kernel
theorem dX4_readPart_122 : decode cX4_readPart 122 = .ok (.ireturn, 1) := by decide +kernel
set_option maxRecDepth 20000 in
theorem ggX4_readNumber_X4_takeOneOf : GoodIn wsX4_readNumber wsX4_takeOneOf := goodIn_r _ [6, 7, 8, 9, 10, 11, 12, 13, 14, 15, 16, 17, 18, 19, 20, 21, 22, 23, 24, 25, 26, 27, 28, 29, 30, 31, 32, 33, 34, 35, 36, 37, 38, 39, 40, 41, 42, 43, 44, 45, 46, 47, 48, 49, 50, 51, 52, 53, 54, 55, 56, 57, 58, 59, 60, 61, 62, 63, 64, 65, 66, 67, 68, 69, 70, 71, 72, 73, 74, 75, 76, 77, 78, 79, 80, 81, 82, 83, 84, 85, 86, 87, 88, 89, 90, 91, 92, 93, 94, 95, 96, 97, 98, 99, 100, 101, 102, 103] (by decide +kernel) (by decide +kernel)
set_option maxRecDepth 20000 in
theorem gX4_readNumber_X4_takeOneOf : GoodIn wsX4_readNumber (wsV RX4 83 RX4 yX4_takeOneOf wsX4_takeOneOf) := goodIn_app (goodIn_of _ (by decide +kernel)) ggX4_readNumber_X4_takeOneOf
theorem dX4_readNumber_0 : decode cX4_readNumber 0 = .ok (.aload_n 0, 1) := by decide +kernel
theorem dX4_readNumber_1 : decode cX4_readNumber 1 = .ok (.aload_n 0, 1) := by decide +kernel
theorem dX4_readNumber_2 : decode cX4_readNumber 2 = .ok (.ldc 93, 2) := by decide +kernel
theorem dX4_readNumber_4 : decode cX4_readNumber 4 = .ok (.invokevirtual 83, 3) := by decide +kernel
theorem dX4_readNumber_7 : decode cX4_readNumber 7 = .ok (.putfield 15, 3) := by decide +kernel
theorem dX4_readNumber_10 : decode cX4_readNumber 10 = .ok (.aload_n 0, 1) := by decide +kernel
theorem dX4_readNumber_11 : decode cX4_readNumber 11 = .ok (.getfield 15, 3) := by decide +kernel
theorem dX4_readNumber_14 : decode cX4_readNumber 14 = .ok (.ifCond .ge 5, 3) := by decide +kernel
theorem dX4_readNumber_17 : decode cX4_readNumber 17 = .ok (.iconst 0, 1) := by decide +kernel
theorem dX4_readNumber_18 : decode cX4_readNumber 18 = .ok (.ireturn, 1) := by decide +kernel
theorem dX4_readNumber_19 : decode cX4_readNumber 19 = .ok (.aload_n 0, 1) := by decide +kernel
theorem dX4_readNumber_20 : decode cX4_readNumber 20 = .ok (.getfield 15, 3) := by decide +kernel
theorem dX4_readNumber_23 : decode cX4_readNumber 23 = .ok (.ifCond .ne 7, 3) := by decide +kernel
theorem dX4_readNumber_26 : decode cX4_readNumber 26 = .ok (.iconst (-1), 1) := by decide +kernel
theorem dX4_readNumber_27 : decode cX4_readNumber 27 = .ok (.goto 9, 3) := by decide +kernel
theorem dX4_readNumber_30 : decode cX4_readNumber 30 = .ok (.aload_n 0, 1) := by decide +kernel
theorem dX4_readNumber_31 : decode cX4_readNumber 31 = .ok (.ldc 93, 2) := by decide +kernel
theorem dX4_readNumber_33 : decode cX4_readNumber 33 = .ok (.invokevirtual 83, 3) := by decide +kernel
theorem dX4_readNumber_36 : decode cX4_readNumber 36 = .ok (.istore_n 1, 1) := by decide +kernel
theorem dX4_readNumber_37 : decode cX4_readNumber 37 = .ok (.iload_n 1, 1) := by decide +kernel
theorem dX4_readNumber_38 : decode cX4_readNumber 38 = .ok (.ifCond .lt 16, 3) := by decide +kernel
theorem dX4_readNumber_41 : decode cX4_readNumber 41 = .ok (.aload_n 0, 1) := by decide +kernel
theorem dX4_readNumber_42 : decode cX4_readNumber 42 = .ok (.aload_n 0, 1) := by decide +kernel
theorem dX4_readNumber_43 : decode cX4_readNumber 43 = .ok (.getfield 15, 3) := by decide +kernel
theorem dX4_readNumber_46 : decode cX4_readNumber 46 = .ok (.bipush 10, 2) := by decide +kernel
theorem dX4_readNumber_48 : decode cX4_readNumber 48 = .ok (.imul, 1) := by decide +kernel
theorem dX4_readNumber_49 : decode cX4_readNumber 49 = .ok (.iload_n 1, 1) := by decide +kernel
theorem dX4_readNumber_50 : decode cX4_readNumber 50 = .ok (.iadd, 1) := by decide +kernel
theorem dX4_readNumber_51 : decode cX4_readNumber 51 = .ok (.putfield 15, 3) := by decide +kernel
theorem dX4_readNumber_54 : decode cX4_readNumber 54 = .ok (.iconst 1, 1) := by decide +kernel
theorem dX4_readNumber_55 : decode cX4_readNumber 55 = .ok (.ireturn, 1) := by decide +kernel
set_option maxRecDepth 20000 in
theorem ggX4_readWord_J0_length_8abf5 : GoodIn wsX4_readWord wsJ0_length_8abf5 := goodIn_r _ [5, 6, 7, 8, 9, 4, 10, 11, 12] (by decide +kernel) (by decide +kernel)
set_option maxRecDepth 20000 in
theorem gX4_readWord_J0_length_8abf5 : GoodIn wsX4_readWord (wsV RX4 95 RJ0 yJ0_length_8abf5 wsJ0_length_8abf5) := goodIn_app (goodIn_of _ (by decide +kernel)) ggX4_readWord_J0_length_8abf5
set_option maxRecDepth 20000 in
theorem ggX4_readWord_J0_charAt_5068e : GoodIn wsX4_readWord wsJ0_charAt_5068e := goodIn_r _ [16, 6, 17, 18, 19, 4, 20, 11, 12, 21, 22, 23, 24, 25, 26, 27, 28, 29, 30, 31, 32, 33, 34, 35, 36, 37, 38, 39, 40, 41, 42, 43, 44, 45, 46, 47, 48, 49] (by decide +kernel) (by decide +kernel)
set_option maxRecDepth 20000 in
theorem gX4_readWord_J0_charAt_5068e : GoodIn wsX4_readWord (wsV RX4 101 RJ0 yJ0_charAt_5068e wsJ0_charAt_5068e) := goodIn_app (goodIn_of _ (by decide +kernel)) ggX4_readWord_J0_charAt_5068e
set_option maxRecDepth 20000 in
theorem ggX4_readWord_X4_take : GoodIn wsX4_readWord wsX4_take := goodIn_r _ [54, 55, 56, 57, 58, 59, 60, 61, 62] (by decide +kernel) (by decide +kernel)
set_option maxRecDepth 20000 in
theorem gX4_readWord_X4_take : GoodIn wsX4_readWord (wsV RX4 38 RX4 yX4_take wsX4_take) := goodIn_app (goodIn_of _ (by decide +kernel)) ggX4_readWord_X4_take
theorem dX4_readWord_0 : decode cX4_readWord 0 = .ok (.iconst 0, 1) := by decide +kernel
theorem dX4_readWord_1 : decode cX4_readWord 1 = .ok (.istore_n 2, 1) := by decide +kernel
theorem dX4_readWord_2 : decode cX4_readWord 2 = .ok (.iload_n 2, 1) := by decide +kernel
theorem dX4_readWord_3 : decode cX4_readWord 3 = .ok (.aload_n 1, 1) := by decide +kernel
theorem dX4_readWord_4 : decode cX4_readWord 4 = .ok (.invokevirtual 95, 3) := by decide +kernel
theorem dX4_readWord_7 : decode cX4_readWord 7 = .ok (.if_icmp .ge 23, 3) := by decide +kernel
theorem dX4_readWord_10 : decode cX4_readWord 10 = .ok (.aload_n 0, 1) := by decide +kernel
theorem dX4_readWord_11 : decode cX4_readWord 11 = .ok (.aload_n 1, 1) := by decide +kernel
theorem dX4_readWord_12 : decode cX4_readWord 12 = .ok (.iload_n 2, 1) := by decide +kernel
theorem dX4_readWord_13 : decode cX4_readWord 13 = .ok (.invokevirtual 101, 3) := by decide +kernel
theorem dX4_readWord_16 : decode cX4_readWord 16 = .ok (.invokevirtual 38, 3) := by decide +kernel
theorem dX4_readWord_19 : decode cX4_readWord 19 = .ok (.ifCond .ne 5, 3) := by decide +kernel
theorem dX4_readWord_22 : decode cX4_readWord 22 = .ok (.iconst 0, 1) := by decide +kernel
theorem dX4_readWord_23 : decode cX4_readWord 23 = .ok (.ireturn, 1) := by decide +kernel
theorem dX4_readWord_24 : decode cX4_readWord 24 = .ok (.iinc 2 1, 3) := by decide +kernel
theorem dX4_readWord_27 : decode cX4_readWord 27 = .ok (.goto (-25), 3) := by decide +kernel
theorem dX4_readWord_30 : decode cX4_readWord 30 = .ok (.iconst 1, 1) := by decide +kernel
theorem dX4_readWord_31 : decode cX4_readWord 31 = .ok (.ireturn, 1) := by decide +kernel
theorem dX4_take_0 : decode cX4_take 0 = .ok (.aload_n 0, 1) := by decide +kernel
theorem dX4_take_1 : decode cX4_take 1 = .ok (.getfield 9, 3) := by decide +kernel
theorem dX4_take_4 : decode cX4_take 4 = .ok (.aload_n 0, 1) := by decide +kernel
theorem dX4_take_5 : decode cX4_take 5 = .ok (.getfield 35, 3) := by decide +kernel
theorem dX4_take_8 : decode cX4_take 8 = .ok (.if_icmp .ge 16, 3) := by decide +kernel
theorem dX4_take_11 : decode cX4_take 11 = .ok (.aload_n 0, 1) := by decide +kernel
theorem dX4_take_12 : decode cX4_take 12 = .ok (.getfield 25, 3) := by decide +kernel
theorem dX4_take_15 : decode cX4_take 15 = .ok (.aload_n 0, 1) := by decide +kernel
theorem dX4_take_16 : decode cX4_take 16 = .ok (.getfield 9, 3) := by decide +kernel
theorem dX4_take_19 : decode cX4_take 19 = .ok (.baload, 1) := by decide +kernel
theorem dX4_take_20 : decode cX4_take 20 = .ok (.iload_n 1, 1) := by decide +kernel
theorem dX4_take_21 : decode cX4_take 21 = .ok (.if_icmp .eq 5, 3) := by decide +kernel
theorem dX4_take_24 : decode cX4_take 24 = .ok (.iconst 0, 1) := by decide +kernel
theorem dX4_take_25 : decode cX4_take 25 = .ok (.ireturn, 1) := by decide +kernel
theorem dX4_take_26 : decode cX4_take 26 = .ok (.aload_n 0, 1) := by decide +kernel
theorem dX4_take_27 : decode cX4_take 27 = .ok (.dup, 1) := by decide +kernel
theorem dX4_take_28 : decode cX4_take 28 = .ok (.getfield 9, 3) := by decide +kernel
theorem dX4_take_31 : decode cX4_take 31 = .ok (.iconst 1, 1) := by decide +kernel
theorem dX4_take_32 : decode cX4_take 32 = .ok (.iadd, 1) := by decide +kernel
theorem dX4_take_33 : decode cX4_take 33 = .ok (.putfield 9, 3) := by decide +kernel
theorem dX4_take_36 : decode cX4_take 36 = .ok (.iconst 1, 1) := by decide +kernel
theorem dX4_take_37 : decode cX4_take 37 = .ok (.ireturn, 1) := by decide +kernel
set_option maxRecDepth 20000 in
theorem ggX4_takeOneOf_J0_indexOf_0f7a4 : GoodIn wsX4_takeOneOf wsJ0_indexOf_0f7a4 := goodIn_r _ [8, 9, 10, 11, 7, 12, 13, 14, 15, 16, 17, 18, 19, 20, 21, 22, 23, 24, 25, 26, 27, 28, 29, 30, 31, 32, 33, 34, 35, 36, 37, 38, 39, 40, 41, 42, 43, 44, 45, 46, 47, 48, 49, 50, 51, 52, 53, 54, 55, 56, 57, 58, 59, 60, 61, 62, 63, 64, 65, 66, 67, 68, 69, 70, 71, 72, 73, 74, 75, 76, 77, 78, 79, 80, 81, 82, 83, 84, 85, 86, 87, 88, 89, 90, 91, 92] (by decide +kernel) (by decide +kernel)
set_option maxRecDepth 20000 in
theorem gX4_takeOneOf_J0_indexOf_0f7a4 : GoodIn wsX4_takeOneOf (wsV RX4 105 RJ0 yJ0_indexOf_0f7a4 wsJ0_indexOf_0f7a4) := goodIn_app (goodIn_of _ (by decide +kernel)) ggX4_takeOneOf_J0_indexOf_0f7a4
theorem dX4_takeOneOf_0 : decode cX4_takeOneOf 0 = .ok (.aload_n 0, 1) := by decide +kernel
theorem dX4_takeOneOf_1 : decode cX4_takeOneOf 1 = .ok (.getfield 9, 3) := by decide +kernel
theorem dX4_takeOneOf_4 : decode cX4_takeOneOf 4 = .ok (.aload_n 0, 1) := by decide +kernel
theorem dX4_takeOneOf_5 : decode cX4_takeOneOf 5 = .ok (.getfield 35, 3) := by decide +kernel
theorem dX4_takeOneOf_8 : decode cX4_takeOneOf 8 = .ok (.if_icmp .lt 5, 3) := by decide +kernel
theorem dX4_takeOneOf_11 : decode cX4_takeOneOf 11 = .ok (.iconst (-1), 1) := by decide +kernel
theorem dX4_takeOneOf_12 : decode cX4_takeOneOf 12 = .ok (.ireturn, 1) := by decide +kernel
theorem dX4_takeOneOf_13 : decode cX4_takeOneOf 13 = .ok (.aload_n 1, 1) := by decide +kernel
theorem dX4_takeOneOf_14 : decode cX4_takeOneOf 14 = .ok (.aload_n 0, 1) := by decide +kernel
theorem dX4_takeOneOf_15 : decode cX4_takeOneOf 15 = .ok (.getfield 25, 3) := by decide +kernel
theorem dX4_takeOneOf_18 : decode cX4_takeOneOf 18 = .ok (.aload_n 0, 1) := by decide +kernel
theorem dX4_takeOneOf_19 : decode cX4_takeOneOf 19 = .ok (.getfield 9, 3) := by decide +kernel
theorem dX4_takeOneOf_22 : decode cX4_takeOneOf 22 = .ok (.baload, 1) := by decide +kernel
theorem dX4_takeOneOf_23 : decode cX4_takeOneOf 23 = .ok (.i2c, 1) := by decide +kernel
theorem dX4_takeOneOf_24 : decode cX4_takeOneOf 24 = .ok (.invokevirtual 105, 3) := by decide +kernel
theorem dX4_takeOneOf_27 : decode cX4_takeOneOf 27 = .ok (.istore_n 2, 1) := by decide +kernel
theorem dX4_takeOneOf_28 : decode cX4_takeOneOf 28 = .ok (.iload_n 2, 1) := by decide +kernel
theorem dX4_takeOneOf_29 : decode cX4_takeOneOf 29 = .ok (.ifCond .lt 13, 3) := by decide +kernel
theorem dX4_takeOneOf_32 : decode cX4_takeOneOf 32 = .ok (.aload_n 0, 1) := by decide +kernel
theorem dX4_takeOneOf_33 : decode cX4_takeOneOf 33 = .ok (.dup, 1) := by decide +kernel
theorem dX4_takeOneOf_34 : decode cX4_takeOneOf 34 = .ok (.getfield 9, 3) := by decide +kernel
theorem dX4_takeOneOf_37 : decode cX4_takeOneOf 37 = .ok (.iconst 1, 1) := by decide +kernel
theorem dX4_takeOneOf_38 : decode cX4_takeOneOf 38 = .ok (.iadd, 1) := by decide +kernel
theorem dX4_takeOneOf_39 : decode cX4_takeOneOf 39 = .ok (.putfield 9, 3) := by decide +kernel
theorem dX4_takeOneOf_42 : decode cX4_takeOneOf 42 = .ok (.iload_n 2, 1) := by decide +kernel
theorem dX4_takeOneOf_43 : decode cX4_takeOneOf 43 = .ok (.ireturn, 1) := by decide +kernel
set_option maxRecDepth 20000 in
theorem ggX5_init_X2_init : GoodIn wsX5_init wsX2_init := goodIn_r _ [24, 25, 2, 3, 26, 27, 28, 29, 30, 31, 32, 33, 34, 35, 36, 37, 38, 60, 61, 62, 63, 64, 65, 66, 67, 68, 69, 70] (by decide +kernel) (by decide +kernel)
set_option maxRecDepth 20000 in
theorem gX5_init_X2_init_n11 : GoodIn wsX5_init (wsX2_init) := ggX5_init_X2_init
set_option maxRecDepth 20000 in
theorem ggX5_init_X3_init : GoodIn wsX5_init wsX3_init := goodIn_r _ [40, 41, 2, 3, 29, 42, 43, 44, 45, 46, 47, 48, 80, 81, 82, 83, 84, 85, 86] (by decide +kernel) (by decide +kernel)
set_option maxRecDepth 20000 in
theorem gX5_init_X3_init_n35 : GoodIn wsX5_init (wsX3_init) := ggX5_init_X3_init
set_option maxRecDepth 20000 in
theorem ggX5_init_X6_init : GoodIn wsX5_init wsX6_init := goodIn_r _ [51, 52, 2, 3, 53, 54, 55, 56, 57, 29, 58, 59, 87, 88, 89] (by decide +kernel) (by decide +kernel)
set_option maxRecDepth 20000 in
theorem gX5_init_X6_init : GoodIn wsX5_init (wsX6_init) := ggX5_init_X6_init
theorem dX5_init_0 : decode cX5_init 0 = .ok (.aload_n 0, 1) := by decide +kernel
theorem dX5_init_1 : decode cX5_init 1 = .ok (.invokespecial 3, 3) := by decide +kernel
theorem dX5_init_4 : decode cX5_init 4 = .ok (.aload_n 0, 1) := by decide +kernel
theorem dX5_init_5 : decode cX5_init 5 = .ok (.new 9, 3) := by decide +kernel
theorem dX5_init_8 : decode cX5_init 8 = .ok (.dup, 1) := by decide +kernel
theorem dX5_init_9 : decode cX5_init 9 = .ok (.invokespecial 11, 3) := by decide +kernel
theorem dX5_init_12 : decode cX5_init 12 = .ok (.putfield 12, 3) := by decide +kernel
theorem dX5_init_15 : decode cX5_init 15 = .ok (.aload_n 0, 1) := by decide +kernel
theorem dX5_init_16 : decode cX5_init 16 = .ok (.bipush 100, 2) := by decide +kernel
theorem dX5_init_18 : decode cX5_init 18 = .ok (.newarray .byte, 2) := by decide +kernel
theorem dX5_init_20 : decode cX5_init 20 = .ok (.putfield 18, 3) := by decide +kernel
theorem dX5_init_23 : decode cX5_init 23 = .ok (.aload_n 0, 1) := by decide +kernel
theorem dX5_init_24 : decode cX5_init 24 = .ok (.iconst 0, 1) := by decide +kernel
theorem dX5_init_25 : decode cX5_init 25 = .ok (.putfield 22, 3) := by decide +kernel
theorem dX5_init_28 : decode cX5_init 28 = .ok (.aload_n 0, 1) := by decide +kernel
theorem dX5_init_29 : decode cX5_init 29 = .ok (.iconst 5, 1) := by decide +kernel
theorem dX5_init_30 : decode cX5_init 30 = .ok (.anewarray 26, 3) := by decide +kernel
theorem dX5_init_33 : decode cX5_init 33 = .ok (.putfield 28, 3) := by decide +kernel
theorem dX5_init_36 : decode cX5_init 36 = .ok (.aload_n 0, 1) := by decide +kernel
theorem dX5_init_37 : decode cX5_init 37 = .ok (.iconst 0, 1) := by decide +kernel
theorem dX5_init_38 : decode cX5_init 38 = .ok (.putfield 32, 3) := by decide +kernel
theorem dX5_init_41 : decode cX5_init 41 = .ok (.aload_n 0, 1) := by decide +kernel
theorem dX5_init_42 : decode cX5_init 42 = .ok (.new 26, 3) := by decide +kernel
theorem dX5_init_45 : decode cX5_init 45 = .ok (.dup, 1) := by decide +kernel
theorem dX5_init_46 : decode cX5_init 46 = .ok (.invokespecial 35, 3) := by decide +kernel
theorem dX5_init_49 : decode cX5_init 49 = .ok (.putfield 36, 3) := by decide +kernel
theorem dX5_init_52 : decode cX5_init 52 = .ok (.aload_n 0, 1) := by decide +kernel
theorem dX5_init_53 : decode cX5_init 53 = .ok (.new 40, 3) := by decide +kernel
theorem dX5_init_56 : decode cX5_init 56 = .ok (.dup, 1) := by decide +kernel
theorem dX5_init_57 : decode cX5_init 57 = .ok (.iconst 5, 1) := by decide +kernel
theorem dX5_init_58 : decode cX5_init 58 = .ok (.invokespecial 42, 3) := by decide +kernel
theorem dX5_init_61 : decode cX5_init 61 = .ok (.putfield 45, 3) := by decide +kernel
theorem dX5_init_64 : decode cX5_init 64 = .ok (.aload_n 0, 1) := by decide +kernel
theorem dX5_init_65 : decode cX5_init 65 = .ok (.new 40, 3) := by decide +kernel
theorem dX5_init_68 : decode cX5_init 68 = .ok (.dup, 1) := by decide +kernel
theorem dX5_init_69 : decode cX5_init 69 = .ok (.bipush 8, 2) := by decide +kernel
theorem dX5_init_71 : decode cX5_init 71 = .ok (.invokespecial 42, 3) := by decide +kernel
theorem dX5_init_74 : decode cX5_init 74 = .ok (.putfield 49, 3) := by decide +kernel
theorem dX5_init_77 : decode cX5_init 77 = .ok (.aload_n 0, 1) := by decide +kernel
theorem dX5_init_78 : decode cX5_init 78 = .ok (.new 40, 3) := by decide +kernel
theorem dX5_init_81 : decode cX5_init 81 = .ok (.dup, 1) := by decide +kernel
theorem dX5_init_82 : decode cX5_init 82 = .ok (.bipush 8, 2) := by decide +kernel
theorem dX5_init_84 : decode cX5_init 84 = .ok (.invokespecial 42, 3) := by decide +kernel
theorem dX5_init_87 : decode cX5_init 87 = .ok (.putfield 52, 3) := by decide +kernel
theorem dX5_init_90 : decode cX5_init 90 = .ok (.return_, 1) := by decide +kernel
theorem dX5_lesson_0 : decode cX5_lesson 0 = .ok (.aload_n 0, 1) := by decide +kernel
theorem dX5_lesson_1 : decode cX5_lesson 1 = .ok (.getfield 32, 3) := by decide +kernel
theorem dX5_lesson_4 : decode cX5_lesson 4 = .ok (.iconst 1, 1) := by decide +kernel
theorem dX5_lesson_5 : decode cX5_lesson 5 = .ok (.if_icmp .lt 11, 3) := by decide +kernel
theorem dX5_lesson_8 : decode cX5_lesson 8 = .ok (.aload_n 0, 1) := by decide +kernel
theorem dX5_lesson_9 : decode cX5_lesson 9 = .ok (.getfield 32, 3) := by decide +kernel
theorem dX5_lesson_12 : decode cX5_lesson 12 = .ok (.iconst 5, 1) := by decide +kernel
theorem dX5_lesson_13 : decode cX5_lesson 13 = .ok (.if_icmp .le 8, 3) := by decide +kernel
theorem dX5_lesson_16 : decode cX5_lesson 16 = .ok (.aload_n 0, 1) := by decide +kernel
theorem dX5_lesson_17 : decode cX5_lesson 17 = .ok (.getfield 36, 3) := by decide +kernel
theorem dX5_lesson_20 : decode cX5_lesson 20 = .ok (.areturn, 1) := by decide +kernel
theorem dX5_lesson_21 : decode cX5_lesson 21 = .ok (.aload_n 0, 1) := by decide +kernel
theorem dX5_lesson_22 : decode cX5_lesson 22 = .ok (.getfield 28, 3) := by decide +kernel
theorem dX5_lesson_25 : decode cX5_lesson 25 = .ok (.aload_n 0, 1) := by decide +kernel
theorem dX5_lesson_26 : decode cX5_lesson 26 = .ok (.getfield 32, 3) := by decide +kernel
theorem dX5_lesson_29 : decode cX5_lesson 29 = .ok (.iconst 1, 1) := by decide +kernel
theorem dX5_lesson_30 : decode cX5_lesson 30 = .ok (.isub, 1) := by decide +kernel
theorem dX5_lesson_31 : decode cX5_lesson 31 = .ok (.aaload, 1) := by decide +kernel
theorem dX5_lesson_32 : decode cX5_lesson 32 = .ok (.astore_n 1, 1) := by decide +kernel
theorem dX5_lesson_33 : decode cX5_lesson 33 = .ok (.aload_n 1, 1) := by decide +kernel
theorem dX5_lesson_34 : decode cX5_lesson 34 = .ok (.ifnonnull 10, 3) := by decide +kernel
theorem dX5_lesson_37 : decode cX5_lesson 37 = .ok (.aload_n 0, 1) := by decide +kernel
theorem dX5_lesson_38 : decode cX5_lesson 38 = .ok (.getfield 36, 3) := by decide +kernel
theorem dX5_lesson_41 : decode cX5_lesson 41 = .ok (.goto 4, 3) := by decide +kernel
theorem dX5_lesson_44 : decode cX5_lesson 44 = .ok (.aload_n 1, 1) := by decide +kernel
theorem dX5_lesson_45 : decode cX5_lesson 45 = .ok (.areturn, 1) := by decide +kernel
set_option maxRecDepth 20000 in
theorem ggX5_copyFrom_X2_copyFrom : GoodIn wsX5_copyFrom wsX2_copyFrom := goodIn_r _ [17, 18, 19, 20, 21, 22, 23, 24, 25, 26, 27, 28, 4, 5, 6, 54, 55, 56, 57, 58, 59, 60, 61, 62, 63, 64] (by decide +kernel) (by decide +kernel)
set_option maxRecDepth 20000 in
theorem gX5_copyFrom_X2_copyFrom : GoodIn wsX5_copyFrom (wsV RX5 55 RX2 yX2_copyFrom wsX2_copyFrom) := goodIn_app (goodIn_of _ (by decide +kernel)) ggX5_copyFrom_X2_copyFrom
set_option maxRecDepth 20000 in
theorem ggX5_copyFrom_X6_copyFrom : GoodIn wsX5_copyFrom wsX6_copyFrom := goodIn_r _ [33, 34, 35, 36, 37, 38, 39, 32, 40, 41, 42, 43, 44, 65, 66, 67] (by decide +kernel) (by decide +kernel)
set_option maxRecDepth 20000 in
theorem gX5_copyFrom_X6_copyFrom : GoodIn wsX5_copyFrom (wsV RX5 65 RX6 yX6_copyFrom wsX6_copyFrom) := goodIn_app (goodIn_of _ (by decide +kernel)) ggX5_copyFrom_X6_copyFrom
theorem dX5_copyFrom_0 : decode cX5_copyFrom 0 = .ok (.aload_n 0, 1) := by decide +kernel
theorem dX5_copyFrom_1 : decode cX5_copyFrom 1 = .ok (.getfield 12, 3) := by decide +kernel
theorem dX5_copyFrom_4 : decode cX5_copyFrom 4 = .ok (.aload_n 1, 1) := by decide +kernel
theorem dX5_copyFrom_5 : decode cX5_copyFrom 5 = .ok (.getfield 12, 3) := by decide +kernel
theorem dX5_copyFrom_8 : decode cX5_copyFrom 8 = .ok (.invokevirtual 55, 3) := by decide +kernel
theorem dX5_copyFrom_11 : decode cX5_copyFrom 11 = .ok (.aload_n 1, 1) := by decide +kernel
theorem dX5_copyFrom_12 : decode cX5_copyFrom 12 = .ok (.getfield 18, 3) := by decide +kernel
theorem dX5_copyFrom_15 : decode cX5_copyFrom 15 = .ok (.iconst 0, 1) := by decide +kernel
theorem dX5_copyFrom_16 : decode cX5_copyFrom 16 = .ok (.aload_n 0, 1) := by decide +kernel
theorem dX5_copyFrom_17 : decode cX5_copyFrom 17 = .ok (.getfield 18, 3) := by decide +kernel
theorem dX5_copyFrom_20 : decode cX5_copyFrom 20 = .ok (.iconst 0, 1) := by decide +kernel
theorem dX5_copyFrom_21 : decode cX5_copyFrom 21 = .ok (.bipush 100, 2) := by decide +kernel
theorem dX5_copyFrom_23 : decode cX5_copyFrom 23 = .ok (.invokestatic 59, 3) := by decide +kernel
theorem dX5_copyFrom_26 : decode cX5_copyFrom 26 = .ok (.aload_n 0, 1) := by decide +kernel
theorem dX5_copyFrom_27 : decode cX5_copyFrom 27 = .ok (.aload_n 1, 1) := by decide +kernel
theorem dX5_copyFrom_28 : decode cX5_copyFrom 28 = .ok (.getfield 22, 3) := by decide +kernel
theorem dX5_copyFrom_31 : decode cX5_copyFrom 31 = .ok (.putfield 22, 3) := by decide +kernel
theorem dX5_copyFrom_34 : decode cX5_copyFrom 34 = .ok (.iconst 0, 1) := by decide +kernel
theorem dX5_copyFrom_35 : decode cX5_copyFrom 35 = .ok (.istore_n 2, 1) := by decide +kernel
theorem dX5_copyFrom_36 : decode cX5_copyFrom 36 = .ok (.iload_n 2, 1) := by decide +kernel
theorem dX5_copyFrom_37 : decode cX5_copyFrom 37 = .ok (.iconst 5, 1) := by decide +kernel
theorem dX5_copyFrom_38 : decode cX5_copyFrom 38 = .ok (.if_icmp .ge 21, 3) := by decide +kernel
theorem dX5_copyFrom_41 : decode cX5_copyFrom 41 = .ok (.aload_n 0, 1) := by decide +kernel
theorem dX5_copyFrom_42 : decode cX5_copyFrom 42 = .ok (.getfield 28, 3) := by decide +kernel
theorem dX5_copyFrom_45 : decode cX5_copyFrom 45 = .ok (.iload_n 2, 1) := by decide +kernel
theorem dX5_copyFrom_46 : decode cX5_copyFrom 46 = .ok (.aload_n 1, 1) := by decide +kernel
theorem dX5_copyFrom_47 : decode cX5_copyFrom 47 = .ok (.getfield 28, 3) := by decide +kernel
theorem dX5_copyFrom_50 : decode cX5_copyFrom 50 = .ok (.iload_n 2, 1) := by decide +kernel
theorem dX5_copyFrom_51 : decode cX5_copyFrom 51 = .ok (.aaload, 1) := by decide +kernel
theorem dX5_copyFrom_52 : decode cX5_copyFrom 52 = .ok (.aastore, 1) := by decide +kernel
theorem dX5_copyFrom_53 : decode cX5_copyFrom 53 = .ok (.iinc 2 1, 3) := by decide +kernel
theorem dX5_copyFrom_56 : decode cX5_copyFrom 56 = .ok (.goto (-20), 3) := by decide +kernel
theorem dX5_copyFrom_59 : decode cX5_copyFrom 59 = .ok (.aload_n 0, 1) := by decide +kernel
theorem dX5_copyFrom_60 : decode cX5_copyFrom 60 = .ok (.aload_n 1, 1) := by decide +kernel
theorem dX5_copyFrom_61 : decode cX5_copyFrom 61 = .ok (.getfield 32, 3) := by decide +kernel
theorem dX5_copyFrom_64 : decode cX5_copyFrom 64 = .ok (.putfield 32, 3) := by decide +kernel
theorem dX5_copyFrom_67 : decode cX5_copyFrom 67 = .ok (.aload_n 0, 1) := by decide +kernel
theorem dX5_copyFrom_68 : decode cX5_copyFrom 68 = .ok (.getfield 45, 3) := by decide +kernel
theorem dX5_copyFrom_71 : decode cX5_copyFrom 71 = .ok (.aload_n 1, 1) := by decide +kernel
theorem dX5_copyFrom_72 : decode cX5_copyFrom 72 = .ok (.getfield 45, 3) := by decide +kernel
theorem dX5_copyFrom_75 : decode cX5_copyFrom 75 = .ok (.invokevirtual 65, 3) := by decide +kernel
theorem dX5_copyFrom_78 : decode cX5_copyFrom 78 = .ok (.aload_n 0, 1) := by decide +kernel
theorem dX5_copyFrom_79 : decode cX5_copyFrom 79 = .ok (.getfield 49, 3) := by decide +kernel
theorem dX5_copyFrom_82 : decode cX5_copyFrom 82 = .ok (.aload_n 1, 1) := by decide +kernel
theorem dX5_copyFrom_83 : decode cX5_copyFrom 83 = .ok (.getfield 49, 3) := by decide +kernel
theorem dX5_copyFrom_86 : decode cX5_copyFrom 86 = .ok (.invokevirtual 65, 3) := by decide +kernel
theorem dX5_copyFrom_89 : decode cX5_copyFrom 89 = .ok (.aload_n 0, 1) := by decide +kernel
theorem dX5_copyFrom_90 : decode cX5_copyFrom 90 = .ok (.getfield 52, 3) := by decide +kernel
theorem dX5_copyFrom_93 : decode cX5_copyFrom 93 = .ok (.aload_n 1, 1) := by decide +kernel
theorem dX5_copyFrom_94 : decode cX5_copyFrom 94 = .ok (.getfield 52, 3) := by decide +kernel
theorem dX5_copyFrom_97 : decode cX5_copyFrom 97 = .ok (.invokevirtual 65, 3) := by decide +kernel
theorem dX5_copyFrom_100 : decode cX5_copyFrom 100 = .ok (.return_, 1) := by decide +kernel
theorem dX6_init_0 : decode cX6_init 0 = .ok (.aload_n 0, 1) := by decide +kernel
theorem dX6_init_1 : decode cX6_init 1 = .ok (.invokespecial 1, 3) := by decide +kernel
theorem dX6_init_4 : decode cX6_init 4 = .ok (.aload_n 0, 1) := by decide +kernel
theorem dX6_init_5 : decode cX6_init 5 = .ok (.iconst 0, 1) := by decide +kernel
theorem dX6_init_6 : decode cX6_init 6 = .ok (.putfield 7, 3) := by decide +kernel
theorem dX6_init_9 : decode cX6_init 9 = .ok (.iconst 0, 1) := by decide +kernel
theorem dX6_init_10 : decode cX6_init 10 = .ok (.iload_n 1, 1) := by decide +kernel
theorem dX6_init_11 : decode cX6_init 11 = .ok (.invokestatic 13, 3) := by decide +kernel
theorem dX6_init_14 : decode cX6_init 14 = .ok (.istore_n 2, 1) := by decide +kernel
theorem dX6_init_15 : decode cX6_init 15 = .ok (.aload_n 0, 1) := by decide +kernel
theorem dX6_init_16 : decode cX6_init 16 = .ok (.iload_n 2, 1) := by decide +kernel
theorem dX6_init_17 : decode cX6_init 17 = .ok (.newarray .int, 2) := by decide +kernel
theorem dX6_init_19 : decode cX6_init 19 = .ok (.putfield 19, 3) := by decide +kernel
theorem dX6_init_22 : decode cX6_init 22 = .ok (.aload_n 0, 1) := by decide +kernel
theorem dX6_init_23 : decode cX6_init 23 = .ok (.iload_n 2, 1) := by decide +kernel
theorem dX6_init_24 : decode cX6_init 24 = .ok (.newarray .int, 2) := by decide +kernel
theorem dX6_init_26 : decode cX6_init 26 = .ok (.putfield 23, 3) := by decide +kernel
theorem dX6_init_29 : decode cX6_init 29 = .ok (.return_, 1) := by decide +kernel
theorem dX6_isFull_0 : decode cX6_isFull 0 = .ok (.aload_n 0, 1) := by decide +kernel
theorem dX6_isFull_1 : decode cX6_isFull 1 = .ok (.getfield 7, 3) := by decide +kernel
theorem dX6_isFull_4 : decode cX6_isFull 4 = .ok (.aload_n 0, 1) := by decide +kernel
theorem dX6_isFull_5 : decode cX6_isFull 5 = .ok (.getfield 19, 3) := by decide +kernel
theorem dX6_isFull_8 : decode cX6_isFull 8 = .ok (.arraylength, 1) := by decide +kernel
theorem dX6_isFull_9 : decode cX6_isFull 9 = .ok (.if_icmp .ge 15, 3) := by decide +kernel
theorem dX6_isFull_12 : decode cX6_isFull 12 = .ok (.aload_n 0, 1) := by decide +kernel
theorem dX6_isFull_13 : decode cX6_isFull 13 = .ok (.getfield 7, 3) := by decide +kernel
theorem dX6_isFull_16 : decode cX6_isFull 16 = .ok (.aload_n 0, 1) := by decide +kernel
theorem dX6_isFull_17 : decode cX6_isFull 17 = .ok (.getfield 23, 3) := by decide +kernel
theorem dX6_isFull_20 : decode cX6_isFull 20 = .ok (.arraylength, 1) := by decide +kernel
theorem dX6_isFull_21 : decode cX6_isFull 21 = .ok (.if_icmp .lt 7, 3) := by decide +kernel
theorem dX6_isFull_24 : decode cX6_isFull 24 = .ok (.iconst 1, 1) := by decide +kernel
theorem dX6_isFull_25 : decode cX6_isFull 25 = .ok (.goto 4, 3) := by decide +kernel
theorem dX6_isFull_28 : decode cX6_isFull 28 = .ok (.iconst 0, 1) := by decide +kernel
theorem dX6_isFull_29 : decode cX6_isFull 29 = .ok (.ireturn, 1) := by decide +kernel
set_option maxRecDepth 20000 in
theorem ggX6_add_X6_isFull : GoodIn wsX6_add wsX6_isFull := goodIn_r _ [8, 2, 1, 3, 9, 10, 11] (by decide +kernel) (by decide +kernel)
set_option maxRecDepth 20000 in
theorem gX6_add_X6_isFull : GoodIn wsX6_add (wsV RX6 26 RX6 yX6_isFull wsX6_isFull) := goodIn_app (goodIn_of _ (by decide +kernel)) ggX6_add_X6_isFull
theorem dX6_add_0 : decode cX6_add 0 = .ok (.aload_n 0, 1) := by decide +kernel
theorem dX6_add_1 : decode cX6_add 1 = .ok (.invokevirtual 26, 3) := by decide +kernel
theorem dX6_add_4 : decode cX6_add 4 = .ok (.ifCond .ne 33, 3) := by decide +kernel
theorem dX6_add_7 : decode cX6_add 7 = .ok (.aload_n 0, 1) := by decide +kernel
theorem dX6_add_8 : decode cX6_add 8 = .ok (.getfield 19, 3) := by decide +kernel
theorem dX6_add_11 : decode cX6_add 11 = .ok (.aload_n 0, 1) := by decide +kernel
theorem dX6_add_12 : decode cX6_add 12 = .ok (.getfield 7, 3) := by decide +kernel
theorem dX6_add_15 : decode cX6_add 15 = .ok (.iload_n 1, 1) := by decide +kernel
theorem dX6_add_16 : decode cX6_add 16 = .ok (.iastore, 1) := by decide +kernel
theorem dX6_add_17 : decode cX6_add 17 = .ok (.aload_n 0, 1) := by decide +kernel
theorem dX6_add_18 : decode cX6_add 18 = .ok (.getfield 23, 3) := by decide +kernel
theorem dX6_add_21 : decode cX6_add 21 = .ok (.aload_n 0, 1) := by decide +kernel
theorem dX6_add_22 : decode cX6_add 22 = .ok (.getfield 7, 3) := by decide +kernel
theorem dX6_add_25 : decode cX6_add 25 = .ok (.iload_n 2, 1) := by decide +kernel
theorem dX6_add_26 : decode cX6_add 26 = .ok (.iastore, 1) := by decide +kernel
theorem dX6_add_27 : decode cX6_add 27 = .ok (.aload_n 0, 1) := by decide +kernel
theorem dX6_add_28 : decode cX6_add 28 = .ok (.dup, 1) := by decide +kernel
theorem dX6_add_29 : decode cX6_add 29 = .ok (.getfield 7, 3) := by decide +kernel
theorem dX6_add_32 : decode cX6_add 32 = .ok (.iconst 1, 1) := by decide +kernel
theorem dX6_add_33 : decode cX6_add 33 = .ok (.iadd, 1) := by decide +kernel
theorem dX6_add_34 : decode cX6_add 34 = .ok (.putfield 7, 3) := by decide +kernel
theorem dX6_add_37 : decode cX6_add 37 = .ok (.aload_n 0, 1) := by decide +kernel
theorem dX6_add_38 : decode cX6_add 38 = .ok (.getfield 7, 3) := by decide +kernel
theorem dX6_add_41 : decode cX6_add 41 = .ok (.ireturn, 1) := by decide +kernel
theorem dX6_clear_0 : decode cX6_clear 0 = .ok (.aload_n 0, 1) := by decide +kernel
theorem dX6_clear_1 : decode cX6_clear 1 = .ok (.iconst 0, 1) := by decide +kernel
theorem dX6_clear_2 : decode cX6_clear 2 = .ok (.putfield 7, 3) := by decide +kernel
theorem dX6_clear_5 : decode cX6_clear 5 = .ok (.aload_n 0, 1) := by decide +kernel
theorem dX6_clear_6 : decode cX6_clear 6 = .ok (.getfield 7, 3) := by decide +kernel
theorem dX6_clear_9 : decode cX6_clear 9 = .ok (.ireturn, 1) := by decide +kernel
set_option maxRecDepth 20000 in
theorem ggX6_copyFrom_X6_add : GoodIn wsX6_copyFrom wsX6_add := goodIn_r _ [8, 2, 1, 3, 9, 10, 11, 7, 12, 13, 14, 15] (by decide +kernel) (by decide +kernel)
set_option maxRecDepth 20000 in
theorem gX6_copyFrom_X6_add : GoodIn wsX6_copyFrom (wsV RX6 30 RX6 yX6_add wsX6_add) := goodIn_app (goodIn_of _ (by decide +kernel)) ggX6_copyFrom_X6_add
theorem dX6_copyFrom_0 : decode cX6_copyFrom 0 = .ok (.aload_n 0, 1) := by decide +kernel
theorem dX6_copyFrom_1 : decode cX6_copyFrom 1 = .ok (.iconst 0, 1) := by decide +kernel
theorem dX6_copyFrom_2 : decode cX6_copyFrom 2 = .ok (.putfield 7, 3) := by decide +kernel
theorem dX6_copyFrom_5 : decode cX6_copyFrom 5 = .ok (.iconst 0, 1) := by decide +kernel
theorem dX6_copyFrom_6 : decode cX6_copyFrom 6 = .ok (.istore_n 2, 1) := by decide +kernel
theorem dX6_copyFrom_7 : decode cX6_copyFrom 7 = .ok (.iload_n 2, 1) := by decide +kernel
theorem dX6_copyFrom_8 : decode cX6_copyFrom 8 = .ok (.aload_n 1, 1) := by decide +kernel
theorem dX6_copyFrom_9 : decode cX6_copyFrom 9 = .ok (.getfield 7, 3) := by decide +kernel
theorem dX6_copyFrom_12 : decode cX6_copyFrom 12 = .ok (.if_icmp .ge 26, 3) := by decide +kernel
theorem dX6_copyFrom_15 : decode cX6_copyFrom 15 = .ok (.aload_n 0, 1) := by decide +kernel
theorem dX6_copyFrom_16 : decode cX6_copyFrom 16 = .ok (.aload_n 1, 1) := by decide +kernel
theorem dX6_copyFrom_17 : decode cX6_copyFrom 17 = .ok (.getfield 19, 3) := by decide +kernel
theorem dX6_copyFrom_20 : decode cX6_copyFrom 20 = .ok (.iload_n 2, 1) := by decide +kernel
theorem dX6_copyFrom_21 : decode cX6_copyFrom 21 = .ok (.iaload, 1) := by decide +kernel
theorem dX6_copyFrom_22 : decode cX6_copyFrom 22 = .ok (.aload_n 1, 1) := by decide +kernel
theorem dX6_copyFrom_23 : decode cX6_copyFrom 23 = .ok (.getfield 23, 3) := by decide +kernel
theorem dX6_copyFrom_26 : decode cX6_copyFrom 26 = .ok (.iload_n 2, 1) := by decide +kernel
theorem dX6_copyFrom_27 : decode cX6_copyFrom 27 = .ok (.iaload, 1) := by decide +kernel
theorem dX6_copyFrom_28 : decode cX6_copyFrom 28 = .ok (.invokevirtual 30, 3) := by decide +kernel
theorem dX6_copyFrom_31 : decode cX6_copyFrom 31 = .ok (.pop, 1) := by decide +kernel
theorem dX6_copyFrom_32 : decode cX6_copyFrom 32 = .ok (.iinc 2 1, 3) := by decide +kernel
theorem dX6_copyFrom_35 : decode cX6_copyFrom 35 = .ok (.goto (-28), 3) := by decide +kernel
theorem dX6_copyFrom_38 : decode cX6_copyFrom 38 = .ok (.return_, 1) := by decide +kernel
set_option maxRecDepth 20000 in
theorem ggX7_init_X5_init : GoodIn wsX7_init wsX5_init := goodIn_r _ [19, 20, 2, 3, 21, 22, 23, 24, 25, 26, 27, 28, 29, 30, 31, 32, 33, 34, 35, 36, 37, 38, 39, 40, 41, 42, 43, 44, 45, 46, 47, 48, 49, 50, 51, 52, 53, 54, 55, 56, 57, 58, 59, 60, 61, 62, 63, 64, 65, 66, 67, 68, 69, 70, 71, 72, 73, 74, 75, 76, 115, 116, 117, 118, 119, 120, 121, 122, 123, 124, 125, 93, 94, 95, 96, 97, 98, 99, 100, 101, 126, 127, 128, 129, 130, 131, 132, 133, 134, 135] (by decide +kernel) (by decide +kernel)
set_option maxRecDepth 20000 in
theorem gX7_init_X5_init_n11 : GoodIn wsX7_init (wsX5_init) := ggX7_init_X5_init
set_option maxRecDepth 20000 in
theorem ggX7_init_X1_init : GoodIn wsX7_init wsX1_init := goodIn_r _ [78, 79, 2, 3, 80, 22, 23, 81, 82, 83, 31, 32, 84, 40, 41, 42, 43, 44, 45, 46, 47, 48, 49, 50, 51, 52, 53, 54, 55, 56, 57, 58, 59, 60, 61, 62, 63, 64, 65, 115, 116, 117, 118, 119, 120, 121, 122, 123, 124, 125, 107, 108, 109, 126, 127, 128, 129, 130, 131, 132] (by decide +kernel) (by decide +kernel)
set_option maxRecDepth 20000 in
theorem gX7_init_X1_init_n27 : GoodIn wsX7_init (wsX1_init) := ggX7_init_X1_init
set_option maxRecDepth 20000 in
theorem ggX7_init_X0_init : GoodIn wsX7_init wsX0_init := goodIn_r _ [86, 87, 2, 3, 46, 88, 89, 90, 91, 92, 110, 111, 112, 113, 114] (by decide +kernel) (by decide +kernel)
set_option maxRecDepth 20000 in
theorem gX7_init_X0_init_n34 : GoodIn wsX7_init (wsX0_init) := ggX7_init_X0_init
theorem dX7_init_0 : decode cX7_init 0 = .ok (.aload_n 0, 1) := by decide +kernel
theorem dX7_init_1 : decode cX7_init 1 = .ok (.invokespecial 3, 3) := by decide +kernel
theorem dX7_init_4 : decode cX7_init 4 = .ok (.aload_n 0, 1) := by decide +kernel
theorem dX7_init_5 : decode cX7_init 5 = .ok (.new 9, 3) := by decide +kernel
theorem dX7_init_8 : decode cX7_init 8 = .ok (.dup, 1) := by decide +kernel
theorem dX7_init_9 : decode cX7_init 9 = .ok (.invokespecial 11, 3) := by decide +kernel
theorem dX7_init_12 : decode cX7_init 12 = .ok (.putfield 12, 3) := by decide +kernel
theorem dX7_init_15 : decode cX7_init 15 = .ok (.aload_n 0, 1) := by decide +kernel
theorem dX7_init_16 : decode cX7_init 16 = .ok (.new 9, 3) := by decide +kernel
theorem dX7_init_19 : decode cX7_init 19 = .ok (.dup, 1) := by decide +kernel
theorem dX7_init_20 : decode cX7_init 20 = .ok (.invokespecial 11, 3) := by decide +kernel
theorem dX7_init_23 : decode cX7_init 23 = .ok (.putfield 18, 3) := by decide +kernel
theorem dX7_init_26 : decode cX7_init 26 = .ok (.aload_n 0, 1) := by decide +kernel
theorem dX7_init_27 : decode cX7_init 27 = .ok (.iconst 0, 1) := by decide +kernel
theorem dX7_init_28 : decode cX7_init 28 = .ok (.putfield 21, 3) := by decide +kernel
theorem dX7_init_31 : decode cX7_init 31 = .ok (.aload_n 0, 1) := by decide +kernel
theorem dX7_init_32 : decode cX7_init 32 = .ok (.new 25, 3) := by decide +kernel
theorem dX7_init_35 : decode cX7_init 35 = .ok (.dup, 1) := by decide +kernel
theorem dX7_init_36 : decode cX7_init 36 = .ok (.invokespecial 27, 3) := by decide +kernel
theorem dX7_init_39 : decode cX7_init 39 = .ok (.putfield 28, 3) := by decide +kernel
theorem dX7_init_42 : decode cX7_init 42 = .ok (.aload_n 0, 1) := by decide +kernel
theorem dX7_init_43 : decode cX7_init 43 = .ok (.new 32, 3) := by decide +kernel
theorem dX7_init_46 : decode cX7_init 46 = .ok (.dup, 1) := by decide +kernel
theorem dX7_init_47 : decode cX7_init 47 = .ok (.invokespecial 34, 3) := by decide +kernel
theorem dX7_init_50 : decode cX7_init 50 = .ok (.putfield 35, 3) := by decide +kernel
theorem dX7_init_53 : decode cX7_init 53 = .ok (.return_, 1) := by decide +kernel
theorem dX7_feed_0 : decode cX7_feed 0 = .ok (.iload_n 1, 1) := by decide +kernel
theorem dX7_feed_1 : decode cX7_feed 1 = .ok (.ifCond .lt 9, 3) := by decide +kernel
theorem dX7_feed_4 : decode cX7_feed 4 = .ok (.iload_n 1, 1) := by decide +kernel
theorem dX7_feed_5 : decode cX7_feed 5 = .ok (.bipush 127, 2) := by decide +kernel
theorem dX7_feed_7 : decode cX7_feed 7 = .ok (.if_icmp .le 6, 3) := by decide +kernel
theorem dX7_feed_10 : decode cX7_feed 10 = .ok (.bipush (-2), 2) := by decide +kernel
theorem dX7_feed_12 : decode cX7_feed 12 = .ok (.ireturn, 1) := by decide +kernel
theorem dX7_feed_13 : decode cX7_feed 13 = .ok (.aload_n 0, 1) := by decide +kernel
theorem dX7_feed_14 : decode cX7_feed 14 = .ok (.getfield 12, 3) := by decide +kernel
theorem dX7_feed_17 : decode cX7_feed 17 = .ok (.getfield 39, 3) := by decide +kernel
theorem dX7_feed_20 : decode cX7_feed 20 = .ok (.bipush 100, 2) := by decide +kernel
theorem dX7_feed_22 : decode cX7_feed 22 = .ok (.if_icmp .lt 6, 3) := by decide +kernel
theorem dX7_feed_25 : decode cX7_feed 25 = .ok (.bipush (-4), 2) := by decide +kernel
theorem dX7_feed_27 : decode cX7_feed 27 = .ok (.ireturn, 1) := by decide +kernel
theorem dX7_feed_28 : decode cX7_feed 28 = .ok (.aload_n 0, 1) := by decide +kernel
theorem dX7_feed_29 : decode cX7_feed 29 = .ok (.getfield 12, 3) := by decide +kernel
theorem dX7_feed_32 : decode cX7_feed 32 = .ok (.getfield 43, 3) := by decide +kernel
theorem dX7_feed_35 : decode cX7_feed 35 = .ok (.aload_n 0, 1) := by decide +kernel
theorem dX7_feed_36 : decode cX7_feed 36 = .ok (.getfield 12, 3) := by decide +kernel
theorem dX7_feed_39 : decode cX7_feed 39 = .ok (.getfield 39, 3) := by decide +kernel
theorem dX7_feed_42 : decode cX7_feed 42 = .ok (.iload_n 1, 1) := by decide +kernel
theorem dX7_feed_43 : decode cX7_feed 43 = .ok (.i2b, 1) := by decide +kernel
theorem dX7_feed_44 : decode cX7_feed 44 = .ok (.bastore, 1) := by decide +kernel
theorem dX7_feed_45 : decode cX7_feed 45 = .ok (.aload_n 0, 1) := by decide +kernel
theorem dX7_feed_46 : decode cX7_feed 46 = .ok (.getfield 12, 3) := by decide +kernel
theorem dX7_feed_49 : decode cX7_feed 49 = .ok (.dup, 1) := by decide +kernel
theorem dX7_feed_50 : decode cX7_feed 50 = .ok (.getfield 39, 3) := by decide +kernel
theorem dX7_feed_53 : decode cX7_feed 53 = .ok (.iconst 1, 1) := by decide +kernel
theorem dX7_feed_54 : decode cX7_feed 54 = .ok (.iadd, 1) := by decide +kernel
theorem dX7_feed_55 : decode cX7_feed 55 = .ok (.putfield 39, 3) := by decide +kernel
theorem dX7_feed_58 : decode cX7_feed 58 = .ok (.aload_n 0, 1) := by decide +kernel
theorem dX7_feed_59 : decode cX7_feed 59 = .ok (.getfield 12, 3) := by decide +kernel
theorem dX7_feed_62 : decode cX7_feed 62 = .ok (.getfield 39, 3) := by decide +kernel
theorem dX7_feed_65 : decode cX7_feed 65 = .ok (.ireturn, 1) := by decide +kernel
set_option maxRecDepth 20000 in
theorem ggX7_school_X4_init : GoodIn wsX7_school wsX4_init := goodIn_r _ [7, 8, 9, 10, 11, 12, 13, 14, 15, 16, 17, 18, 19, 20, 21, 22, 23, 24, 25, 26, 27, 28, 29, 30, 31, 32, 33, 200, 201, 202, 203, 204, 205, 206, 207, 208, 209, 210, 211] (by decide +kernel) (by decide +kernel)
set_option maxRecDepth 20000 in
theorem gX7_school_X4_init : GoodIn wsX7_school (wsX4_init) := ggX7_school_X4_init
set_option maxRecDepth 20000 in
theorem ggX7_school_X4_readLesson : GoodIn wsX7_school wsX4_readLesson := goodIn_r _ [37, 11, 22, 38, 39, 40, 4, 41, 17, 42, 43, 44, 45, 16, 12, 46, 47, 48, 49, 50, 51, 52, 53, 54, 55, 56, 57, 58, 59, 60, 61, 62, 63, 64, 65, 66, 67, 68, 69, 70, 71, 72, 73, 74, 75, 76, 77, 78, 79, 80, 81, 82, 83, 84, 85, 86, 87, 88, 89, 90, 91, 92, 93, 94, 95, 96, 97, 98, 99, 100, 101, 102, 103, 104, 105, 106, 107, 108, 109, 110, 111, 112, 113, 114, 115, 116, 117, 118, 119, 120, 20, 121, 122, 19, 21, 123, 124, 125, 126, 127, 128, 129, 130, 131, 132, 133, 134, 135, 136, 137, 138, 139, 140, 141, 142, 143, 144, 145, 146, 147, 148, 149, 150, 151, 152, 153, 154, 155, 156, 157, 158, 159, 160, 161, 162, 163, 164, 165, 166, 167, 168, 169, 170, 171, 172, 173, 174, 15, 175, 28, 27, 176, 177, 178, 179, 180, 181, 182, 183, 184, 185, 31, 29, 30, 200, 201, 202, 203, 204, 205, 206, 207, 208, 209, 210, 211] (by decide +kernel) (by decide +kernel)
set_option maxRecDepth 20000 in
theorem gX7_school_X4_readLesson : GoodIn wsX7_school (wsV RX7 55 RX4 yX4_readLesson wsX4_readLesson) := goodIn_app (goodIn_of _ (by decide +kernel)) ggX7_school_X4_readLesson
theorem dX7_school_0 : decode cX7_school 0 = .ok (.aload_n 0, 1) := by decide +kernel
theorem dX7_school_1 : decode cX7_school 1 = .ok (.getfield 12, 3) := by decide +kernel
theorem dX7_school_4 : decode cX7_school 4 = .ok (.getfield 47, 3) := by decide +kernel
theorem dX7_school_7 : decode cX7_school 7 = .ok (.iconst 5, 1) := by decide +kernel
theorem dX7_school_8 : decode cX7_school 8 = .ok (.if_icmp .lt 6, 3) := by decide +kernel
theorem dX7_school_11 : decode cX7_school 11 = .ok (.bipush (-4), 2) := by decide +kernel
theorem dX7_school_13 : decode cX7_school 13 = .ok (.ireturn, 1) := by decide +kernel
theorem dX7_school_14 : decode cX7_school 14 = .ok (.new 50, 3) := by decide +kernel
theorem dX7_school_17 : decode cX7_school 17 = .ok (.dup, 1) := by decide +kernel
theorem dX7_school_18 : decode cX7_school 18 = .ok (.aload_n 0, 1) := by decide +kernel
theorem dX7_school_19 : decode cX7_school 19 = .ok (.getfield 12, 3) := by decide +kernel
theorem dX7_school_22 : decode cX7_school 22 = .ok (.getfield 43, 3) := by decide +kernel
theorem dX7_school_25 : decode cX7_school 25 = .ok (.aload_n 0, 1) := by decide +kernel
theorem dX7_school_26 : decode cX7_school 26 = .ok (.getfield 12, 3) := by decide +kernel
theorem dX7_school_29 : decode cX7_school 29 = .ok (.getfield 39, 3) := by decide +kernel
theorem dX7_school_32 : decode cX7_school 32 = .ok (.invokespecial 52, 3) := by decide +kernel
theorem dX7_school_35 : decode cX7_school 35 = .ok (.astore_n 1, 1) := by decide +kernel
theorem dX7_school_36 : decode cX7_school 36 = .ok (.aload_n 1, 1) := by decide +kernel
theorem dX7_school_37 : decode cX7_school 37 = .ok (.invokevirtual 55, 3) := by decide +kernel
theorem dX7_school_40 : decode cX7_school 40 = .ok (.istore_n 2, 1) := by decide +kernel
theorem dX7_school_41 : decode cX7_school 41 = .ok (.aload_n 0, 1) := by decide +kernel
theorem dX7_school_42 : decode cX7_school 42 = .ok (.getfield 12, 3) := by decide +kernel
theorem dX7_school_45 : decode cX7_school 45 = .ok (.iconst 0, 1) := by decide +kernel
theorem dX7_school_46 : decode cX7_school 46 = .ok (.putfield 39, 3) := by decide +kernel
theorem dX7_school_49 : decode cX7_school 49 = .ok (.iload_n 2, 1) := by decide +kernel
theorem dX7_school_50 : decode cX7_school 50 = .ok (.ifCond .ne 11, 3) := by decide +kernel
theorem dX7_school_53 : decode cX7_school 53 = .ok (.bipush (-10), 2) := by decide +kernel
theorem dX7_school_55 : decode cX7_school 55 = .ok (.aload_n 1, 1) := by decide +kernel
theorem dX7_school_56 : decode cX7_school 56 = .ok (.getfield 59, 3) := by decide +kernel
theorem dX7_school_59 : decode cX7_school 59 = .ok (.isub, 1) := by decide +kernel
theorem dX7_school_60 : decode cX7_school 60 = .ok (.ireturn, 1) := by decide +kernel
theorem dX7_school_61 : decode cX7_school 61 = .ok (.aload_n 0, 1) := by decide +kernel
theorem dX7_school_62 : decode cX7_school 62 = .ok (.getfield 12, 3) := by decide +kernel
theorem dX7_school_65 : decode cX7_school 65 = .ok (.getfield 62, 3) := by decide +kernel
theorem dX7_school_68 : decode cX7_school 68 = .ok (.aload_n 0, 1) := by decide +kernel
theorem dX7_school_69 : decode cX7_school 69 = .ok (.getfield 12, 3) := by decide +kernel
theorem dX7_school_72 : decode cX7_school 72 = .ok (.getfield 47, 3) := by decide +kernel
theorem dX7_school_75 : decode cX7_school 75 = .ok (.aload_n 1, 1) := by decide +kernel
theorem dX7_school_76 : decode cX7_school 76 = .ok (.getfield 66, 3) := by decide +kernel
theorem dX7_school_79 : decode cX7_school 79 = .ok (.aastore, 1) := by decide +kernel
theorem dX7_school_80 : decode cX7_school 80 = .ok (.aload_n 0, 1) := by decide +kernel
theorem dX7_school_81 : decode cX7_school 81 = .ok (.getfield 12, 3) := by decide +kernel
theorem dX7_school_84 : decode cX7_school 84 = .ok (.dup, 1) := by decide +kernel
theorem dX7_school_85 : decode cX7_school 85 = .ok (.getfield 47, 3) := by decide +kernel
theorem dX7_school_88 : decode cX7_school 88 = .ok (.iconst 1, 1) := by decide +kernel
theorem dX7_school_89 : decode cX7_school 89 = .ok (.iadd, 1) := by decide +kernel
theorem dX7_school_90 : decode cX7_school 90 = .ok (.putfield 47, 3) := by decide +kernel
theorem dX7_school_93 : decode cX7_school 93 = .ok (.aload_n 0, 1) := by decide +kernel
theorem dX7_school_94 : decode cX7_school 94 = .ok (.getfield 12, 3) := by decide +kernel
theorem dX7_school_97 : decode cX7_school 97 = .ok (.getfield 47, 3) := by decide +kernel
theorem dX7_school_100 : decode cX7_school 100 = .ok (.iconst 1, 1) := by decide +kernel
theorem dX7_school_101 : decode cX7_school 101 = .ok (.isub, 1) := by decide +kernel
theorem dX7_school_102 : decode cX7_school 102 = .ok (.ireturn, 1) := by decide +kernel
set_option maxRecDepth 20000 in
theorem ggX7_pupil_X7_isKind : GoodIn wsX7_pupil wsX7_isKind := goodIn_r _ [5, 6] (by decide +kernel) (by decide +kernel)
set_option maxRecDepth 20000 in
theorem gX7_pupil_X7_isKind : GoodIn wsX7_pupil (va_wsS RX7 70 yX7_isKind wsX7_isKind) := goodIn_app (goodIn_of _ (by decide +kernel)) ggX7_pupil_X7_isKind
set_option maxRecDepth 20000 in
theorem ggX7_pupil_X2_add : GoodIn wsX7_pupil wsX2_add := goodIn_r _ [11, 12, 13, 14, 15, 16, 17, 18, 19, 34, 35, 36, 37, 38, 39, 40, 41, 42, 43, 44] (by decide +kernel) (by decide +kernel)
set_option maxRecDepth 20000 in
theorem gX7_pupil_X2_add : GoodIn wsX7_pupil (wsV RX7 83 RX2 yX2_add wsX2_add) := goodIn_app (goodIn_of _ (by decide +kernel)) ggX7_pupil_X2_add
theorem dX7_pupil_0 : decode cX7_pupil 0 = .ok (.iload_n 1, 1) := by decide +kernel
theorem dX7_pupil_1 : decode cX7_pupil 1 = .ok (.invokestatic 70, 3) := by decide +kernel
theorem dX7_pupil_4 : decode cX7_pupil 4 = .ok (.ifCond .ne 5, 3) := by decide +kernel
theorem dX7_pupil_7 : decode cX7_pupil 7 = .ok (.iconst (-1), 1) := by decide +kernel
theorem dX7_pupil_8 : decode cX7_pupil 8 = .ok (.ireturn, 1) := by decide +kernel
theorem dX7_pupil_9 : decode cX7_pupil 9 = .ok (.iload_n 2, 1) := by decide +kernel
theorem dX7_pupil_10 : decode cX7_pupil 10 = .ok (.ifCond .lt 32, 3) := by decide +kernel
theorem dX7_pupil_13 : decode cX7_pupil 13 = .ok (.iload_n 2, 1) := by decide +kernel
theorem dX7_pupil_14 : decode cX7_pupil 14 = .ok (.bipush 9, 2) := by decide +kernel
theorem dX7_pupil_16 : decode cX7_pupil 16 = .ok (.if_icmp .gt 26, 3) := by decide +kernel
theorem dX7_pupil_19 : decode cX7_pupil 19 = .ok (.iload_n 3, 1) := by decide +kernel
theorem dX7_pupil_20 : decode cX7_pupil 20 = .ok (.iconst 1, 1) := by decide +kernel
theorem dX7_pupil_21 : decode cX7_pupil 21 = .ok (.if_icmp .lt 21, 3) := by decide +kernel
theorem dX7_pupil_24 : decode cX7_pupil 24 = .ok (.iload_n 3, 1) := by decide +kernel
theorem dX7_pupil_25 : decode cX7_pupil 25 = .ok (.bipush 9, 2) := by decide +kernel
theorem dX7_pupil_27 : decode cX7_pupil 27 = .ok (.if_icmp .gt 15, 3) := by decide +kernel
theorem dX7_pupil_30 : decode cX7_pupil 30 = .ok (.iload 4, 2) := by decide +kernel
theorem dX7_pupil_32 : decode cX7_pupil 32 = .ok (.ifCond .lt 10, 3) := by decide +kernel
theorem dX7_pupil_35 : decode cX7_pupil 35 = .ok (.iload 4, 2) := by decide +kernel
theorem dX7_pupil_37 : decode cX7_pupil 37 = .ok (.bipush 99, 2) := by decide +kernel
theorem dX7_pupil_39 : decode cX7_pupil 39 = .ok (.if_icmp .le 6, 3) := by decide +kernel
theorem dX7_pupil_42 : decode cX7_pupil 42 = .ok (.bipush (-2), 2) := by decide +kernel
theorem dX7_pupil_44 : decode cX7_pupil 44 = .ok (.ireturn, 1) := by decide +kernel
theorem dX7_pupil_45 : decode cX7_pupil 45 = .ok (.aload_n 0, 1) := by decide +kernel
theorem dX7_pupil_46 : decode cX7_pupil 46 = .ok (.getfield 12, 3) := by decide +kernel
theorem dX7_pupil_49 : decode cX7_pupil 49 = .ok (.getfield 74, 3) := by decide +kernel
theorem dX7_pupil_52 : decode cX7_pupil 52 = .ok (.getfield 78, 3) := by decide +kernel
theorem dX7_pupil_55 : decode cX7_pupil 55 = .ok (.bipush 6, 2) := by decide +kernel
theorem dX7_pupil_57 : decode cX7_pupil 57 = .ok (.if_icmp .lt 6, 3) := by decide +kernel
theorem dX7_pupil_60 : decode cX7_pupil 60 = .ok (.bipush (-4), 2) := by decide +kernel
theorem dX7_pupil_62 : decode cX7_pupil 62 = .ok (.ireturn, 1) := by decide +kernel
theorem dX7_pupil_63 : decode cX7_pupil 63 = .ok (.aload_n 0, 1) := by decide +kernel
theorem dX7_pupil_64 : decode cX7_pupil 64 = .ok (.getfield 12, 3) := by decide +kernel
theorem dX7_pupil_67 : decode cX7_pupil 67 = .ok (.getfield 74, 3) := by decide +kernel
theorem dX7_pupil_70 : decode cX7_pupil 70 = .ok (.iload_n 1, 1) := by decide +kernel
theorem dX7_pupil_71 : decode cX7_pupil 71 = .ok (.iload_n 2, 1) := by decide +kernel
theorem dX7_pupil_72 : decode cX7_pupil 72 = .ok (.iload_n 3, 1) := by decide +kernel
theorem dX7_pupil_73 : decode cX7_pupil 73 = .ok (.iload 4, 2) := by decide +kernel
theorem dX7_pupil_75 : decode cX7_pupil 75 = .ok (.invokevirtual 83, 3) := by decide +kernel
theorem dX7_pupil_78 : decode cX7_pupil 78 = .ok (.ireturn, 1) := by decide +kernel
set_option maxRecDepth 20000 in
theorem ggX7_of_X7_isPupil : GoodIn wsX7_of wsX7_isPupil := goodIn_r _ [6, 1, 82, 83, 84, 85, 86, 87, 88, 89, 90, 91, 92, 93, 94, 95, 96, 97, 98, 99, 100, 101, 102, 103, 104, 105, 106] (by decide +kernel) (by decide +kernel)
set_option maxRecDepth 20000 in
theorem gX7_of_X7_isPupil : GoodIn wsX7_of (wsV RX7 87 RX7 yX7_isPupil wsX7_isPupil) := goodIn_app (goodIn_of _ (by decide +kernel)) ggX7_of_X7_isPupil
set_option maxRecDepth 20000 in
theorem ggX7_of_X5_lesson : GoodIn wsX7_of wsX5_lesson := goodIn_r _ [11, 12, 13, 14, 87, 88, 89, 90, 91, 92, 93, 94, 95] (by decide +kernel) (by decide +kernel)
set_option maxRecDepth 20000 in
theorem gX7_of_X5_lesson : GoodIn wsX7_of (wsV RX7 110 RX5 yX5_lesson wsX5_lesson) := goodIn_app (goodIn_of _ (by decide +kernel)) ggX7_of_X5_lesson
set_option maxRecDepth 20000 in
theorem ggX7_of_X3_zealOf : GoodIn wsX7_of wsX3_zealOf := goodIn_r _ [19, 20, 21, 22, 23, 24, 25, 26, 27, 28, 29, 18, 30, 31, 32, 33, 34, 35, 36, 37, 38, 39, 40, 107, 108, 109, 110, 111, 112, 113, 96, 97, 98, 99, 100, 101, 102, 103, 104, 105, 106] (by decide +kernel) (by decide +kernel)
set_option maxRecDepth 20000 in
theorem gX7_of_X3_zealOf : GoodIn wsX7_of (wsV RX7 113 RX3 yX3_zealOf wsX3_zealOf) := goodIn_app (goodIn_of _ (by decide +kernel)) ggX7_of_X3_zealOf
set_option maxRecDepth 20000 in
theorem ggX7_of_X2_doesOf : GoodIn wsX7_of wsX2_doesOf := goodIn_r _ [44, 45, 36, 37, 46, 47, 48, 49, 26, 50, 51, 25, 27, 52, 16, 17, 18, 19, 20, 21, 22, 23, 24, 28, 29, 30, 31, 32, 33, 34, 35, 38, 39, 40, 53, 54, 55, 56, 57, 58, 59, 60, 61, 62, 63, 64, 65, 96, 97, 98, 99, 100, 101, 102, 103, 104, 105, 106, 107, 108, 109, 110, 111, 112, 113] (by decide +kernel) (by decide +kernel)
set_option maxRecDepth 20000 in
theorem gX7_of_X2_doesOf : GoodIn wsX7_of (wsV RX7 119 RX2 yX2_doesOf wsX2_doesOf) := goodIn_app (goodIn_of _ (by decide +kernel)) ggX7_of_X2_doesOf
set_option maxRecDepth 20000 in
theorem ggX7_of_X2_shareOf : GoodIn wsX7_of wsX2_shareOf := goodIn_r _ [69, 39, 70, 71, 72, 34, 73, 46, 96, 97, 98, 99, 100, 101, 102, 103, 104, 105, 106] (by decide +kernel) (by decide +kernel)
set_option maxRecDepth 20000 in
theorem gX7_of_X2_shareOf : GoodIn wsX7_of (wsV RX7 123 RX2 yX2_shareOf wsX2_shareOf) := goodIn_app (goodIn_of _ (by decide +kernel)) ggX7_of_X2_shareOf
set_option maxRecDepth 20000 in
theorem ggX7_of_X2_claimOf : GoodIn wsX7_of wsX2_claimOf := goodIn_r _ [77, 36, 37, 78, 67, 68, 34, 69, 39, 70, 71, 72, 73, 46, 79, 80, 81, 48, 49, 26, 50, 51, 25, 27, 61, 62, 63, 64, 65, 40, 96, 97, 98, 99, 100, 101, 102, 103, 104, 105, 106] (by decide +kernel) (by decide +kernel)
set_option maxRecDepth 20000 in
theorem gX7_of_X2_claimOf : GoodIn wsX7_of (wsV RX7 127 RX2 yX2_claimOf wsX2_claimOf) := goodIn_app (goodIn_of _ (by decide +kernel)) ggX7_of_X2_claimOf
theorem dX7_of_0 : decode cX7_of 0 = .ok (.aload_n 0, 1) := by decide +kernel
theorem dX7_of_1 : decode cX7_of 1 = .ok (.iload_n 1, 1) := by decide +kernel
theorem dX7_of_2 : decode cX7_of 2 = .ok (.invokevirtual 87, 3) := by decide +kernel
theorem dX7_of_5 : decode cX7_of 5 = .ok (.ifCond .ne 5, 3) := by decide +kernel
theorem dX7_of_8 : decode cX7_of 8 = .ok (.iconst (-1), 1) := by decide +kernel
theorem dX7_of_9 : decode cX7_of 9 = .ok (.ireturn, 1) := by decide +kernel
theorem dX7_of_10 : decode cX7_of 10 = .ok (.aload_n 0, 1) := by decide +kernel
theorem dX7_of_11 : decode cX7_of 11 = .ok (.getfield 12, 3) := by decide +kernel
theorem dX7_of_14 : decode cX7_of 14 = .ok (.getfield 74, 3) := by decide +kernel
theorem dX7_of_17 : decode cX7_of 17 = .ok (.astore_n 3, 1) := by decide +kernel
theorem dX7_of_18 : decode cX7_of 18 = .ok (.iload_n 2, 1) := by decide +kernel
theorem dX7_of_19 : decode cX7_of 19 = .ok (.tableswitch 141 0 9 #[53, 60, 67, 74, 81, 88, 103, 116, 129, 135], 53) := by decide +kernel
theorem dX7_of_72 : decode cX7_of 72 = .ok (.aload_n 3, 1) := by decide +kernel
theorem dX7_of_73 : decode cX7_of 73 = .ok (.getfield 90, 3) := by decide +kernel
theorem dX7_of_76 : decode cX7_of 76 = .ok (.iload_n 1, 1) := by decide +kernel
theorem dX7_of_77 : decode cX7_of 77 = .ok (.iaload, 1) := by decide +kernel
theorem dX7_of_78 : decode cX7_of 78 = .ok (.ireturn, 1) := by decide +kernel
theorem dX7_of_79 : decode cX7_of 79 = .ok (.aload_n 3, 1) := by decide +kernel
theorem dX7_of_80 : decode cX7_of 80 = .ok (.getfield 94, 3) := by decide +kernel
theorem dX7_of_83 : decode cX7_of 83 = .ok (.iload_n 1, 1) := by decide +kernel
theorem dX7_of_84 : decode cX7_of 84 = .ok (.iaload, 1) := by decide +kernel
theorem dX7_of_85 : decode cX7_of 85 = .ok (.ireturn, 1) := by decide +kernel
theorem dX7_of_86 : decode cX7_of 86 = .ok (.aload_n 3, 1) := by decide +kernel
theorem dX7_of_87 : decode cX7_of 87 = .ok (.getfield 97, 3) := by decide +kernel
theorem dX7_of_90 : decode cX7_of 90 = .ok (.iload_n 1, 1) := by decide +kernel
theorem dX7_of_91 : decode cX7_of 91 = .ok (.iaload, 1) := by decide +kernel
theorem dX7_of_92 : decode cX7_of 92 = .ok (.ireturn, 1) := by decide +kernel
theorem dX7_of_93 : decode cX7_of 93 = .ok (.aload_n 3, 1) := by decide +kernel
theorem dX7_of_94 : decode cX7_of 94 = .ok (.getfield 100, 3) := by decide +kernel
theorem dX7_of_97 : decode cX7_of 97 = .ok (.iload_n 1, 1) := by decide +kernel
theorem dX7_of_98 : decode cX7_of 98 = .ok (.iaload, 1) := by decide +kernel
theorem dX7_of_99 : decode cX7_of 99 = .ok (.ireturn, 1) := by decide +kernel
theorem dX7_of_100 : decode cX7_of 100 = .ok (.aload_n 3, 1) := by decide +kernel
theorem dX7_of_101 : decode cX7_of 101 = .ok (.getfield 103, 3) := by decide +kernel
theorem dX7_of_104 : decode cX7_of 104 = .ok (.iload_n 1, 1) := by decide +kernel
theorem dX7_of_105 : decode cX7_of 105 = .ok (.iaload, 1) := by decide +kernel
theorem dX7_of_106 : decode cX7_of 106 = .ok (.ireturn, 1) := by decide +kernel
theorem dX7_of_107 : decode cX7_of 107 = .ok (.aload_n 3, 1) := by decide +kernel
theorem dX7_of_108 : decode cX7_of 108 = .ok (.getfield 106, 3) := by decide +kernel
theorem dX7_of_111 : decode cX7_of 111 = .ok (.iload_n 1, 1) := by decide +kernel
theorem dX7_of_112 : decode cX7_of 112 = .ok (.baload, 1) := by decide +kernel
theorem dX7_of_113 : decode cX7_of 113 = .ok (.ifCond .eq 7, 3) := by decide +kernel
theorem dX7_of_116 : decode cX7_of 116 = .ok (.iconst 1, 1) := by decide +kernel
theorem dX7_of_117 : decode cX7_of 117 = .ok (.goto 4, 3) := by decide +kernel
theorem dX7_of_120 : decode cX7_of 120 = .ok (.iconst 0, 1) := by decide +kernel
theorem dX7_of_121 : decode cX7_of 121 = .ok (.ireturn, 1) := by decide +kernel
theorem dX7_of_122 : decode cX7_of 122 = .ok (.aload_n 0, 1) := by decide +kernel
theorem dX7_of_123 : decode cX7_of 123 = .ok (.getfield 12, 3) := by decide +kernel
theorem dX7_of_126 : decode cX7_of 126 = .ok (.invokevirtual 110, 3) := by decide +kernel
theorem dX7_of_129 : decode cX7_of 129 = .ok (.aload_n 3, 1) := by decide +kernel
theorem dX7_of_130 : decode cX7_of 130 = .ok (.iload_n 1, 1) := by decide +kernel
theorem dX7_of_131 : decode cX7_of 131 = .ok (.invokevirtual 113, 3) := by decide +kernel
theorem dX7_of_134 : decode cX7_of 134 = .ok (.ireturn, 1) := by decide +kernel
theorem dX7_of_135 : decode cX7_of 135 = .ok (.aload_n 3, 1) := by decide +kernel
theorem dX7_of_136 : decode cX7_of 136 = .ok (.iload_n 1, 1) := by decide +kernel
theorem dX7_of_137 : decode cX7_of 137 = .ok (.aload_n 0, 1) := by decide +kernel
theorem dX7_of_138 : decode cX7_of 138 = .ok (.getfield 12, 3) := by decide +kernel
theorem dX7_of_141 : decode cX7_of 141 = .ok (.invokevirtual 110, 3) := by decide +kernel
theorem dX7_of_144 : decode cX7_of 144 = .ok (.invokevirtual 119, 3) := by decide +kernel
theorem dX7_of_147 : decode cX7_of 147 = .ok (.ireturn, 1) := by decide +kernel
theorem dX7_of_148 : decode cX7_of 148 = .ok (.aload_n 3, 1) := by decide +kernel
theorem dX7_of_149 : decode cX7_of 149 = .ok (.iload_n 1, 1) := by decide +kernel
theorem dX7_of_150 : decode cX7_of 150 = .ok (.invokevirtual 123, 3) := by decide +kernel
theorem dX7_of_153 : decode cX7_of 153 = .ok (.ireturn, 1) := by decide +kernel
theorem dX7_of_154 : decode cX7_of 154 = .ok (.aload_n 3, 1) := by decide +kernel
theorem dX7_of_155 : decode cX7_of 155 = .ok (.iload_n 1, 1) := by decide +kernel
theorem dX7_of_156 : decode cX7_of 156 = .ok (.invokevirtual 127, 3) := by decide +kernel
theorem dX7_of_159 : decode cX7_of 159 = .ok (.ireturn, 1) := by decide +kernel
theorem dX7_of_160 : decode cX7_of 160 = .ok (.iconst (-1), 1) := by decide +kernel
theorem dX7_of_161 : decode cX7_of 161 = .ok (.ireturn, 1) := by decide +kernel
set_option maxRecDepth 20000 in
theorem ggX7_row_X7_isPupil : GoodIn wsX7_row wsX7_isPupil := goodIn_r _ [6, 1, 7, 8, 9, 10, 11, 12, 13, 14, 15, 16, 17, 18, 19, 20, 21, 22, 23, 24, 25, 26, 27, 28, 29, 30, 31] (by decide +kernel) (by decide +kernel)
set_option maxRecDepth 20000 in
theorem gX7_row_X7_isPupil : GoodIn wsX7_row (wsV RX7 87 RX7 yX7_isPupil wsX7_isPupil) := goodIn_app (goodIn_of _ (by decide +kernel)) ggX7_row_X7_isPupil
theorem dX7_row_0 : decode cX7_row 0 = .ok (.aload_n 0, 1) := by decide +kernel
theorem dX7_row_1 : decode cX7_row 1 = .ok (.iload_n 1, 1) := by decide +kernel
theorem dX7_row_2 : decode cX7_row 2 = .ok (.invokevirtual 87, 3) := by decide +kernel
theorem dX7_row_5 : decode cX7_row 5 = .ok (.ifCond .eq 12, 3) := by decide +kernel
theorem dX7_row_8 : decode cX7_row 8 = .ok (.iload_n 2, 1) := by decide +kernel
theorem dX7_row_9 : decode cX7_row 9 = .ok (.ifCond .lt 8, 3) := by decide +kernel
theorem dX7_row_12 : decode cX7_row 12 = .ok (.iload_n 2, 1) := by decide +kernel
theorem dX7_row_13 : decode cX7_row 13 = .ok (.iconst 4, 1) := by decide +kernel
theorem dX7_row_14 : decode cX7_row 14 = .ok (.if_icmp .lt 5, 3) := by decide +kernel
theorem dX7_row_17 : decode cX7_row 17 = .ok (.iconst (-1), 1) := by decide +kernel
theorem dX7_row_18 : decode cX7_row 18 = .ok (.ireturn, 1) := by decide +kernel
theorem dX7_row_19 : decode cX7_row 19 = .ok (.iload_n 3, 1) := by decide +kernel
theorem dX7_row_20 : decode cX7_row 20 = .ok (.ifCond .lt 9, 3) := by decide +kernel
theorem dX7_row_23 : decode cX7_row 23 = .ok (.iload_n 3, 1) := by decide +kernel
theorem dX7_row_24 : decode cX7_row 24 = .ok (.bipush 9, 2) := by decide +kernel
theorem dX7_row_26 : decode cX7_row 26 = .ok (.if_icmp .le 6, 3) := by decide +kernel
theorem dX7_row_29 : decode cX7_row 29 = .ok (.bipush (-2), 2) := by decide +kernel
theorem dX7_row_31 : decode cX7_row 31 = .ok (.ireturn, 1) := by decide +kernel
theorem dX7_row_32 : decode cX7_row 32 = .ok (.aload_n 0, 1) := by decide +kernel
theorem dX7_row_33 : decode cX7_row 33 = .ok (.getfield 12, 3) := by decide +kernel
theorem dX7_row_36 : decode cX7_row 36 = .ok (.getfield 74, 3) := by decide +kernel
theorem dX7_row_39 : decode cX7_row 39 = .ok (.getfield 90, 3) := by decide +kernel
theorem dX7_row_42 : decode cX7_row 42 = .ok (.iload_n 1, 1) := by decide +kernel
theorem dX7_row_43 : decode cX7_row 43 = .ok (.iaload, 1) := by decide +kernel
theorem dX7_row_44 : decode cX7_row 44 = .ok (.bipush 6, 2) := by decide +kernel
theorem dX7_row_46 : decode cX7_row 46 = .ok (.if_icmp .eq 6, 3) := by decide +kernel
theorem dX7_row_49 : decode cX7_row 49 = .ok (.bipush (-3), 2) := by decide +kernel
theorem dX7_row_51 : decode cX7_row 51 = .ok (.ireturn, 1) := by decide +kernel
theorem dX7_row_52 : decode cX7_row 52 = .ok (.iload_n 1, 1) := by decide +kernel
theorem dX7_row_53 : decode cX7_row 53 = .ok (.iconst 4, 1) := by decide +kernel
theorem dX7_row_54 : decode cX7_row 54 = .ok (.imul, 1) := by decide +kernel
theorem dX7_row_55 : decode cX7_row 55 = .ok (.iload_n 2, 1) := by decide +kernel
theorem dX7_row_56 : decode cX7_row 56 = .ok (.iadd, 1) := by decide +kernel
theorem dX7_row_57 : decode cX7_row 57 = .ok (.istore 4, 2) := by decide +kernel
theorem dX7_row_59 : decode cX7_row 59 = .ok (.aload_n 0, 1) := by decide +kernel
theorem dX7_row_60 : decode cX7_row 60 = .ok (.getfield 12, 3) := by decide +kernel
theorem dX7_row_63 : decode cX7_row 63 = .ok (.getfield 74, 3) := by decide +kernel
theorem dX7_row_66 : decode cX7_row 66 = .ok (.getfield 130, 3) := by decide +kernel
theorem dX7_row_69 : decode cX7_row 69 = .ok (.iload 4, 2) := by decide +kernel
theorem dX7_row_71 : decode cX7_row 71 = .ok (.iaload, 1) := by decide +kernel
theorem dX7_row_72 : decode cX7_row 72 = .ok (.istore 5, 2) := by decide +kernel
theorem dX7_row_74 : decode cX7_row 74 = .ok (.aload_n 0, 1) := by decide +kernel
theorem dX7_row_75 : decode cX7_row 75 = .ok (.getfield 12, 3) := by decide +kernel
theorem dX7_row_78 : decode cX7_row 78 = .ok (.getfield 74, 3) := by decide +kernel
theorem dX7_row_81 : decode cX7_row 81 = .ok (.getfield 130, 3) := by decide +kernel
theorem dX7_row_84 : decode cX7_row 84 = .ok (.iload 4, 2) := by decide +kernel
theorem dX7_row_86 : decode cX7_row 86 = .ok (.iload_n 3, 1) := by decide +kernel
theorem dX7_row_87 : decode cX7_row 87 = .ok (.iastore, 1) := by decide +kernel
theorem dX7_row_88 : decode cX7_row 88 = .ok (.iload 5, 2) := by decide +kernel
theorem dX7_row_90 : decode cX7_row 90 = .ok (.ireturn, 1) := by decide +kernel
set_option maxRecDepth 20000 in
theorem ggX7_will_X7_isPupil : GoodIn wsX7_will wsX7_isPupil := goodIn_r _ [6, 1, 7, 8, 9, 10, 11, 12, 13, 14, 15, 16, 17, 18, 19, 20, 21, 22, 23, 24, 25, 26, 27, 28, 29, 30, 31] (by decide +kernel) (by decide +kernel)
set_option maxRecDepth 20000 in
theorem gX7_will_X7_isPupil : GoodIn wsX7_will (wsV RX7 87 RX7 yX7_isPupil wsX7_isPupil) := goodIn_app (goodIn_of _ (by decide +kernel)) ggX7_will_X7_isPupil
theorem dX7_will_0 : decode cX7_will 0 = .ok (.aload_n 0, 1) := by decide +kernel
theorem dX7_will_1 : decode cX7_will 1 = .ok (.iload_n 1, 1) := by decide +kernel
theorem dX7_will_2 : decode cX7_will 2 = .ok (.invokevirtual 87, 3) := by decide +kernel
theorem dX7_will_5 : decode cX7_will 5 = .ok (.ifCond .ne 5, 3) := by decide +kernel
theorem dX7_will_8 : decode cX7_will 8 = .ok (.iconst (-1), 1) := by decide +kernel
theorem dX7_will_9 : decode cX7_will 9 = .ok (.ireturn, 1) := by decide +kernel
theorem dX7_will_10 : decode cX7_will 10 = .ok (.iload_n 2, 1) := by decide +kernel
theorem dX7_will_11 : decode cX7_will 11 = .ok (.ifCond .lt 9, 3) := by decide +kernel
theorem dX7_will_14 : decode cX7_will 14 = .ok (.iload_n 2, 1) := by decide +kernel
theorem dX7_will_15 : decode cX7_will 15 = .ok (.bipush 99, 2) := by decide +kernel
theorem dX7_will_17 : decode cX7_will 17 = .ok (.if_icmp .le 6, 3) := by decide +kernel
theorem dX7_will_20 : decode cX7_will 20 = .ok (.bipush (-2), 2) := by decide +kernel
theorem dX7_will_22 : decode cX7_will 22 = .ok (.ireturn, 1) := by decide +kernel
theorem dX7_will_23 : decode cX7_will 23 = .ok (.aload_n 0, 1) := by decide +kernel
theorem dX7_will_24 : decode cX7_will 24 = .ok (.getfield 12, 3) := by decide +kernel
theorem dX7_will_27 : decode cX7_will 27 = .ok (.getfield 74, 3) := by decide +kernel
theorem dX7_will_30 : decode cX7_will 30 = .ok (.getfield 100, 3) := by decide +kernel
theorem dX7_will_33 : decode cX7_will 33 = .ok (.iload_n 1, 1) := by decide +kernel
theorem dX7_will_34 : decode cX7_will 34 = .ok (.iaload, 1) := by decide +kernel
theorem dX7_will_35 : decode cX7_will 35 = .ok (.istore_n 3, 1) := by decide +kernel
theorem dX7_will_36 : decode cX7_will 36 = .ok (.aload_n 0, 1) := by decide +kernel
theorem dX7_will_37 : decode cX7_will 37 = .ok (.getfield 12, 3) := by decide +kernel
theorem dX7_will_40 : decode cX7_will 40 = .ok (.getfield 74, 3) := by decide +kernel
theorem dX7_will_43 : decode cX7_will 43 = .ok (.getfield 100, 3) := by decide +kernel
theorem dX7_will_46 : decode cX7_will 46 = .ok (.iload_n 1, 1) := by decide +kernel
theorem dX7_will_47 : decode cX7_will 47 = .ok (.iload_n 2, 1) := by decide +kernel
theorem dX7_will_48 : decode cX7_will 48 = .ok (.iastore, 1) := by decide +kernel
theorem dX7_will_49 : decode cX7_will 49 = .ok (.iload_n 3, 1) := by decide +kernel
theorem dX7_will_50 : decode cX7_will 50 = .ok (.ireturn, 1) := by decide +kernel
set_option maxRecDepth 20000 in
theorem ggX7_out_X7_isPupil : GoodIn wsX7_out wsX7_isPupil := goodIn_r _ [6, 1, 7, 8, 9, 10, 11, 12, 13, 14, 15, 16, 17, 18, 19, 20, 21, 22, 23, 24, 25, 26, 27, 28, 29, 30, 31] (by decide +kernel) (by decide +kernel)
set_option maxRecDepth 20000 in
theorem gX7_out_X7_isPupil : GoodIn wsX7_out (wsV RX7 87 RX7 yX7_isPupil wsX7_isPupil) := goodIn_app (goodIn_of _ (by decide +kernel)) ggX7_out_X7_isPupil
theorem dX7_out_0 : decode cX7_out 0 = .ok (.aload_n 0, 1) := by decide +kernel
theorem dX7_out_1 : decode cX7_out 1 = .ok (.iload_n 1, 1) := by decide +kernel
theorem dX7_out_2 : decode cX7_out 2 = .ok (.invokevirtual 87, 3) := by decide +kernel
theorem dX7_out_5 : decode cX7_out 5 = .ok (.ifCond .ne 5, 3) := by decide +kernel
theorem dX7_out_8 : decode cX7_out 8 = .ok (.iconst (-1), 1) := by decide +kernel
theorem dX7_out_9 : decode cX7_out 9 = .ok (.ireturn, 1) := by decide +kernel
theorem dX7_out_10 : decode cX7_out 10 = .ok (.aload_n 0, 1) := by decide +kernel
theorem dX7_out_11 : decode cX7_out 11 = .ok (.getfield 12, 3) := by decide +kernel
theorem dX7_out_14 : decode cX7_out 14 = .ok (.getfield 74, 3) := by decide +kernel
theorem dX7_out_17 : decode cX7_out 17 = .ok (.getfield 106, 3) := by decide +kernel
theorem dX7_out_20 : decode cX7_out 20 = .ok (.iload_n 1, 1) := by decide +kernel
theorem dX7_out_21 : decode cX7_out 21 = .ok (.baload, 1) := by decide +kernel
theorem dX7_out_22 : decode cX7_out 22 = .ok (.istore_n 3, 1) := by decide +kernel
theorem dX7_out_23 : decode cX7_out 23 = .ok (.aload_n 0, 1) := by decide +kernel
theorem dX7_out_24 : decode cX7_out 24 = .ok (.getfield 12, 3) := by decide +kernel
theorem dX7_out_27 : decode cX7_out 27 = .ok (.getfield 74, 3) := by decide +kernel
theorem dX7_out_30 : decode cX7_out 30 = .ok (.getfield 106, 3) := by decide +kernel
theorem dX7_out_33 : decode cX7_out 33 = .ok (.iload_n 1, 1) := by decide +kernel
theorem dX7_out_34 : decode cX7_out 34 = .ok (.iload_n 2, 1) := by decide +kernel
theorem dX7_out_35 : decode cX7_out 35 = .ok (.bastore, 1) := by decide +kernel
theorem dX7_out_36 : decode cX7_out 36 = .ok (.iload_n 3, 1) := by decide +kernel
theorem dX7_out_37 : decode cX7_out 37 = .ok (.ifCond .eq 7, 3) := by decide +kernel
theorem dX7_out_40 : decode cX7_out 40 = .ok (.iconst 1, 1) := by decide +kernel
theorem dX7_out_41 : decode cX7_out 41 = .ok (.goto 4, 3) := by decide +kernel
theorem dX7_out_44 : decode cX7_out 44 = .ok (.iconst 0, 1) := by decide +kernel
theorem dX7_out_45 : decode cX7_out 45 = .ok (.ireturn, 1) := by decide +kernel
set_option maxRecDepth 20000 in
theorem ggX7_told_X5_lesson : GoodIn wsX7_told wsX5_lesson := goodIn_r _ [6, 7, 8, 9, 65, 66, 67, 68, 69, 70, 71, 72, 73] (by decide +kernel) (by decide +kernel)
set_option maxRecDepth 20000 in
theorem gX7_told_X5_lesson : GoodIn wsX7_told (wsV RX7 110 RX5 yX5_lesson wsX5_lesson) := goodIn_app (goodIn_of _ (by decide +kernel)) ggX7_told_X5_lesson
set_option maxRecDepth 20000 in
theorem ggX7_told_X3_goal : GoodIn wsX7_told wsX3_goal := goodIn_r _ [14, 15, 16, 17, 18, 19, 85, 86, 87, 88, 89, 90, 91] (by decide +kernel) (by decide +kernel)
set_option maxRecDepth 20000 in
theorem gX7_told_X3_goal : GoodIn wsX7_told (wsV RX7 139 RX3 yX3_goal wsX3_goal) := goodIn_app (goodIn_of _ (by decide +kernel)) ggX7_told_X3_goal
set_option maxRecDepth 20000 in
theorem ggX7_told_X2_hoursOfAll : GoodIn wsX7_told wsX2_hoursOfAll := goodIn_r _ [24, 25, 26, 74, 75, 76, 77, 78, 79, 80, 81, 82, 83, 84] (by decide +kernel) (by decide +kernel)
set_option maxRecDepth 20000 in
theorem gX7_told_X2_hoursOfAll : GoodIn wsX7_told (wsV RX7 146 RX2 yX2_hoursOfAll wsX2_hoursOfAll) := goodIn_app (goodIn_of _ (by decide +kernel)) ggX7_told_X2_hoursOfAll
set_option maxRecDepth 20000 in
theorem ggX7_told_X2_claimsOfAll : GoodIn wsX7_told wsX2_claimsOfAll := goodIn_r _ [30, 25, 31, 32, 33, 23, 34, 35, 36, 37, 38, 39, 40, 26, 41, 21, 22, 24, 42, 43, 44, 45, 46, 18, 47, 48, 17, 19, 49, 50, 51, 52, 53, 54, 74, 75, 76, 77, 78, 79, 80, 81, 82, 83, 84] (by decide +kernel) (by decide +kernel)
set_option maxRecDepth 20000 in
theorem gX7_told_X2_claimsOfAll : GoodIn wsX7_told (wsV RX7 149 RX2 yX2_claimsOfAll wsX2_claimsOfAll) := goodIn_app (goodIn_of _ (by decide +kernel)) ggX7_told_X2_claimsOfAll
set_option maxRecDepth 20000 in
theorem ggX7_told_X2_base : GoodIn wsX7_told wsX2_base := goodIn_r _ [58, 59, 45, 46, 18, 47, 74, 75, 76, 77, 78, 79, 80, 81, 82, 83, 84] (by decide +kernel) (by decide +kernel)
set_option maxRecDepth 20000 in
theorem gX7_told_X2_base : GoodIn wsX7_told (wsV RX7 152 RX2 yX2_base wsX2_base) := goodIn_app (goodIn_of _ (by decide +kernel)) ggX7_told_X2_base
theorem dX7_told_0 : decode cX7_told 0 = .ok (.iload_n 1, 1) := by decide +kernel
theorem dX7_told_1 : decode cX7_told 1 = .ok (.tableswitch 130 0 6 #[43, 54, 65, 76, 87, 98, 109], 43) := by decide +kernel
theorem dX7_told_44 : decode cX7_told 44 = .ok (.aload_n 0, 1) := by decide +kernel
theorem dX7_told_45 : decode cX7_told 45 = .ok (.getfield 12, 3) := by decide +kernel
theorem dX7_told_48 : decode cX7_told 48 = .ok (.getfield 74, 3) := by decide +kernel
theorem dX7_told_51 : decode cX7_told 51 = .ok (.getfield 133, 3) := by decide +kernel
theorem dX7_told_54 : decode cX7_told 54 = .ok (.ireturn, 1) := by decide +kernel
theorem dX7_told_55 : decode cX7_told 55 = .ok (.aload_n 0, 1) := by decide +kernel
theorem dX7_told_56 : decode cX7_told 56 = .ok (.getfield 12, 3) := by decide +kernel
theorem dX7_told_59 : decode cX7_told 59 = .ok (.getfield 74, 3) := by decide +kernel
theorem dX7_told_62 : decode cX7_told 62 = .ok (.getfield 136, 3) := by decide +kernel
theorem dX7_told_65 : decode cX7_told 65 = .ok (.ireturn, 1) := by decide +kernel
theorem dX7_told_66 : decode cX7_told 66 = .ok (.aload_n 0, 1) := by decide +kernel
theorem dX7_told_67 : decode cX7_told 67 = .ok (.getfield 12, 3) := by decide +kernel
theorem dX7_told_70 : decode cX7_told 70 = .ok (.invokevirtual 110, 3) := by decide +kernel
theorem dX7_told_73 : decode cX7_told 73 = .ok (.invokevirtual 139, 3) := by decide +kernel
theorem dX7_told_76 : decode cX7_told 76 = .ok (.ireturn, 1) := by decide +kernel
theorem dX7_told_77 : decode cX7_told 77 = .ok (.aload_n 0, 1) := by decide +kernel
theorem dX7_told_78 : decode cX7_told 78 = .ok (.getfield 12, 3) := by decide +kernel
theorem dX7_told_81 : decode cX7_told 81 = .ok (.invokevirtual 110, 3) := by decide +kernel
theorem dX7_told_84 : decode cX7_told 84 = .ok (.getfield 143, 3) := by decide +kernel
theorem dX7_told_87 : decode cX7_told 87 = .ok (.ireturn, 1) := by decide +kernel
theorem dX7_told_88 : decode cX7_told 88 = .ok (.aload_n 0, 1) := by decide +kernel
theorem dX7_told_89 : decode cX7_told 89 = .ok (.getfield 12, 3) := by decide +kernel
theorem dX7_told_92 : decode cX7_told 92 = .ok (.getfield 74, 3) := by decide +kernel
theorem dX7_told_95 : decode cX7_told 95 = .ok (.invokevirtual 146, 3) := by decide +kernel
theorem dX7_told_98 : decode cX7_told 98 = .ok (.ireturn, 1) := by decide +kernel
theorem dX7_told_99 : decode cX7_told 99 = .ok (.aload_n 0, 1) := by decide +kernel
theorem dX7_told_100 : decode cX7_told 100 = .ok (.getfield 12, 3) := by decide +kernel
theorem dX7_told_103 : decode cX7_told 103 = .ok (.getfield 74, 3) := by decide +kernel
theorem dX7_told_106 : decode cX7_told 106 = .ok (.invokevirtual 149, 3) := by decide +kernel
theorem dX7_told_109 : decode cX7_told 109 = .ok (.ireturn, 1) := by decide +kernel
theorem dX7_told_110 : decode cX7_told 110 = .ok (.aload_n 0, 1) := by decide +kernel
theorem dX7_told_111 : decode cX7_told 111 = .ok (.getfield 12, 3) := by decide +kernel
theorem dX7_told_114 : decode cX7_told 114 = .ok (.getfield 74, 3) := by decide +kernel
theorem dX7_told_117 : decode cX7_told 117 = .ok (.aload_n 0, 1) := by decide +kernel
theorem dX7_told_118 : decode cX7_told 118 = .ok (.getfield 12, 3) := by decide +kernel
theorem dX7_told_121 : decode cX7_told 121 = .ok (.invokevirtual 110, 3) := by decide +kernel
theorem dX7_told_124 : decode cX7_told 124 = .ok (.invokevirtual 139, 3) := by decide +kernel
theorem dX7_told_127 : decode cX7_told 127 = .ok (.invokevirtual 152, 3) := by decide +kernel
theorem dX7_told_130 : decode cX7_told 130 = .ok (.ireturn, 1) := by decide +kernel
theorem dX7_told_131 : decode cX7_told 131 = .ok (.iconst (-1), 1) := by decide +kernel
theorem dX7_told_132 : decode cX7_told 132 = .ok (.ireturn, 1) := by decide +kernel
set_option maxRecDepth 20000 in
theorem ggX7_mark_X7_isPupil : GoodIn wsX7_mark wsX7_isPupil := goodIn_r _ [6, 1, 81, 82, 83, 84, 85, 86, 87, 88, 89, 90, 91, 92, 93, 94, 95, 96, 97, 98, 99, 100, 101, 102, 103, 104, 105] (by decide +kernel) (by decide +kernel)
set_option maxRecDepth 20000 in
theorem gX7_mark_X7_isPupil : GoodIn wsX7_mark (wsV RX7 87 RX7 yX7_isPupil wsX7_isPupil) := goodIn_app (goodIn_of _ (by decide +kernel)) ggX7_mark_X7_isPupil
set_option maxRecDepth 20000 in
theorem ggX7_mark_X7_isRule : GoodIn wsX7_mark wsX7_isRule := goodIn_r _ [9] (by decide +kernel) (by decide +kernel)
set_option maxRecDepth 20000 in
theorem gX7_mark_X7_isRule : GoodIn wsX7_mark (va_wsS RX7 155 yX7_isRule wsX7_isRule) := goodIn_app (goodIn_of _ (by decide +kernel)) ggX7_mark_X7_isRule
set_option maxRecDepth 20000 in
theorem ggX7_mark_X5_lesson : GoodIn wsX7_mark wsX5_lesson := goodIn_r _ [14, 15, 16, 17, 86, 87, 88, 89, 90, 91, 92, 93, 94] (by decide +kernel) (by decide +kernel)
set_option maxRecDepth 20000 in
theorem gX7_mark_X5_lesson : GoodIn wsX7_mark (wsV RX7 110 RX5 yX5_lesson wsX5_lesson) := goodIn_app (goodIn_of _ (by decide +kernel)) ggX7_mark_X5_lesson
set_option maxRecDepth 20000 in
theorem ggX7_mark_X3_goal : GoodIn wsX7_mark wsX3_goal := goodIn_r _ [22, 23, 24, 25, 26, 27, 106, 107, 108, 109, 110, 111, 112] (by decide +kernel) (by decide +kernel)
set_option maxRecDepth 20000 in
theorem gX7_mark_X3_goal : GoodIn wsX7_mark (wsV RX7 139 RX3 yX3_goal wsX3_goal) := goodIn_app (goodIn_of _ (by decide +kernel)) ggX7_mark_X3_goal
set_option maxRecDepth 20000 in
theorem ggX7_mark_X2_markOf : GoodIn wsX7_mark wsX2_markOf := goodIn_r _ [32, 33, 34, 35, 36, 26, 37, 38, 39, 40, 31, 41, 42, 43, 44, 45, 46, 47, 48, 49, 50, 51, 52, 53, 54, 55, 56, 57, 58, 59, 60, 61, 62, 63, 64, 65, 66, 67, 68, 69, 70, 25, 27, 71, 72, 73, 74, 75, 76, 77, 78, 79, 80, 95, 96, 97, 98, 99, 100, 101, 102, 103, 104, 105] (by decide +kernel) (by decide +kernel)
set_option maxRecDepth 20000 in
theorem gX7_mark_X2_markOf : GoodIn wsX7_mark (wsV RX7 158 RX2 yX2_markOf wsX2_markOf) := goodIn_app (goodIn_of _ (by decide +kernel)) ggX7_mark_X2_markOf
theorem dX7_mark_0 : decode cX7_mark 0 = .ok (.aload_n 0, 1) := by decide +kernel
theorem dX7_mark_1 : decode cX7_mark 1 = .ok (.iload_n 1, 1) := by decide +kernel
theorem dX7_mark_2 : decode cX7_mark 2 = .ok (.invokevirtual 87, 3) := by decide +kernel
theorem dX7_mark_5 : decode cX7_mark 5 = .ok (.ifCond .eq 10, 3) := by decide +kernel
theorem dX7_mark_8 : decode cX7_mark 8 = .ok (.iload_n 2, 1) := by decide +kernel
theorem dX7_mark_9 : decode cX7_mark 9 = .ok (.invokestatic 155, 3) := by decide +kernel
theorem dX7_mark_12 : decode cX7_mark 12 = .ok (.ifCond .ne 5, 3) := by decide +kernel
theorem dX7_mark_15 : decode cX7_mark 15 = .ok (.iconst (-1), 1) := by decide +kernel
theorem dX7_mark_16 : decode cX7_mark 16 = .ok (.ireturn, 1) := by decide +kernel
theorem dX7_mark_17 : decode cX7_mark 17 = .ok (.aload_n 0, 1) := by decide +kernel
theorem dX7_mark_18 : decode cX7_mark 18 = .ok (.getfield 12, 3) := by decide +kernel
theorem dX7_mark_21 : decode cX7_mark 21 = .ok (.getfield 74, 3) := by decide +kernel
theorem dX7_mark_24 : decode cX7_mark 24 = .ok (.iload_n 1, 1) := by decide +kernel
theorem dX7_mark_25 : decode cX7_mark 25 = .ok (.iload_n 2, 1) := by decide +kernel
theorem dX7_mark_26 : decode cX7_mark 26 = .ok (.aload_n 0, 1) := by decide +kernel
theorem dX7_mark_27 : decode cX7_mark 27 = .ok (.getfield 12, 3) := by decide +kernel
theorem dX7_mark_30 : decode cX7_mark 30 = .ok (.invokevirtual 110, 3) := by decide +kernel
theorem dX7_mark_33 : decode cX7_mark 33 = .ok (.invokevirtual 139, 3) := by decide +kernel
theorem dX7_mark_36 : decode cX7_mark 36 = .ok (.invokevirtual 158, 3) := by decide +kernel
theorem dX7_mark_39 : decode cX7_mark 39 = .ok (.ireturn, 1) := by decide +kernel
set_option maxRecDepth 20000 in
theorem ggX7_pass_X5_lesson : GoodIn wsX7_pass wsX5_lesson := goodIn_r _ [6, 7, 8, 9, 76, 77, 78, 79, 80, 81, 82, 83, 84] (by decide +kernel) (by decide +kernel)
set_option maxRecDepth 20000 in
theorem gX7_pass_X5_lesson : GoodIn wsX7_pass (wsV RX7 110 RX5 yX5_lesson wsX5_lesson) := goodIn_app (goodIn_of _ (by decide +kernel)) ggX7_pass_X5_lesson
set_option maxRecDepth 20000 in
theorem ggX7_pass_X2_goWeeks : GoodIn wsX7_pass wsX2_goWeeks := goodIn_r _ [14, 15, 16, 17, 18, 19, 20, 21, 22, 23, 24, 25, 26, 27, 28, 13, 29, 30, 31, 32, 33, 34, 35, 36, 37, 38, 39, 40, 41, 42, 43, 44, 45, 46, 47, 48, 49, 50, 51, 52, 53, 54, 55, 56, 57, 58, 59, 60, 61, 62, 63, 64, 65, 66, 67, 68, 69, 70, 85, 86, 87, 88, 89, 90, 91, 92, 93, 94, 95, 96, 97, 98, 99, 100, 101, 102] (by decide +kernel) (by decide +kernel)
set_option maxRecDepth 20000 in
theorem gX7_pass_X2_goWeeks : GoodIn wsX7_pass (wsV RX7 162 RX2 yX2_goWeeks wsX2_goWeeks) := goodIn_app (goodIn_of _ (by decide +kernel)) ggX7_pass_X2_goWeeks
theorem dX7_pass_0 : decode cX7_pass 0 = .ok (.iload_n 1, 1) := by decide +kernel
theorem dX7_pass_1 : decode cX7_pass 1 = .ok (.ifCond .lt 9, 3) := by decide +kernel
theorem dX7_pass_4 : decode cX7_pass 4 = .ok (.iload_n 1, 1) := by decide +kernel
theorem dX7_pass_5 : decode cX7_pass 5 = .ok (.bipush 60, 2) := by decide +kernel
theorem dX7_pass_7 : decode cX7_pass 7 = .ok (.if_icmp .le 6, 3) := by decide +kernel
theorem dX7_pass_10 : decode cX7_pass 10 = .ok (.bipush (-2), 2) := by decide +kernel
theorem dX7_pass_12 : decode cX7_pass 12 = .ok (.ireturn, 1) := by decide +kernel
theorem dX7_pass_13 : decode cX7_pass 13 = .ok (.aload_n 0, 1) := by decide +kernel
theorem dX7_pass_14 : decode cX7_pass 14 = .ok (.getfield 12, 3) := by decide +kernel
theorem dX7_pass_17 : decode cX7_pass 17 = .ok (.getfield 74, 3) := by decide +kernel
theorem dX7_pass_20 : decode cX7_pass 20 = .ok (.getfield 133, 3) := by decide +kernel
theorem dX7_pass_23 : decode cX7_pass 23 = .ok (.iload_n 1, 1) := by decide +kernel
theorem dX7_pass_24 : decode cX7_pass 24 = .ok (.iadd, 1) := by decide +kernel
theorem dX7_pass_25 : decode cX7_pass 25 = .ok (.sipush 9999, 3) := by decide +kernel
theorem dX7_pass_28 : decode cX7_pass 28 = .ok (.if_icmp .le 6, 3) := by decide +kernel
theorem dX7_pass_31 : decode cX7_pass 31 = .ok (.bipush (-3), 2) := by decide +kernel
theorem dX7_pass_33 : decode cX7_pass 33 = .ok (.ireturn, 1) := by decide +kernel
theorem dX7_pass_34 : decode cX7_pass 34 = .ok (.aload_n 0, 1) := by decide +kernel
theorem dX7_pass_35 : decode cX7_pass 35 = .ok (.getfield 12, 3) := by decide +kernel
theorem dX7_pass_38 : decode cX7_pass 38 = .ok (.getfield 74, 3) := by decide +kernel
theorem dX7_pass_41 : decode cX7_pass 41 = .ok (.aload_n 0, 1) := by decide +kernel
theorem dX7_pass_42 : decode cX7_pass 42 = .ok (.getfield 12, 3) := by decide +kernel
theorem dX7_pass_45 : decode cX7_pass 45 = .ok (.invokevirtual 110, 3) := by decide +kernel
theorem dX7_pass_48 : decode cX7_pass 48 = .ok (.iload_n 1, 1) := by decide +kernel
theorem dX7_pass_49 : decode cX7_pass 49 = .ok (.iconst 1, 1) := by decide +kernel
theorem dX7_pass_50 : decode cX7_pass 50 = .ok (.invokevirtual 162, 3) := by decide +kernel
theorem dX7_pass_53 : decode cX7_pass 53 = .ok (.aload_n 0, 1) := by decide +kernel
theorem dX7_pass_54 : decode cX7_pass 54 = .ok (.getfield 12, 3) := by decide +kernel
theorem dX7_pass_57 : decode cX7_pass 57 = .ok (.getfield 74, 3) := by decide +kernel
theorem dX7_pass_60 : decode cX7_pass 60 = .ok (.getfield 136, 3) := by decide +kernel
theorem dX7_pass_63 : decode cX7_pass 63 = .ok (.ireturn, 1) := by decide +kernel
set_option maxRecDepth 20000 in
theorem ggX7_on_X7_isPupil : GoodIn wsX7_on wsX7_isPupil := goodIn_r _ [7, 2, 113, 114, 115, 116, 117, 132, 133, 134, 135, 136, 137, 138, 139, 140, 121, 122, 123, 124, 125, 126, 127, 128, 129, 130, 131] (by decide +kernel) (by decide +kernel)
set_option maxRecDepth 20000 in
theorem gX7_on_X7_isPupil : GoodIn wsX7_on (wsV RX7 87 RX7 yX7_isPupil wsX7_isPupil) := goodIn_app (goodIn_of _ (by decide +kernel)) ggX7_on_X7_isPupil
set_option maxRecDepth 20000 in
theorem ggX7_on_X1_begin : GoodIn wsX7_on wsX1_begin := goodIn_r _ [12, 13, 14, 15, 16, 17, 18, 19, 20, 21, 22, 23, 24, 25, 26, 27, 28, 29, 30, 31, 32, 33, 34, 35, 36, 37, 38, 39, 40, 41, 42, 118, 119, 120, 132, 133, 134, 135, 136, 137, 138, 139, 140, 121, 122, 123, 124, 125, 126, 127, 128, 129, 130, 131] (by decide +kernel) (by decide +kernel)
set_option maxRecDepth 20000 in
theorem gX7_on_X1_begin : GoodIn wsX7_on (wsV RX7 166 RX1 yX1_begin wsX1_begin) := goodIn_app (goodIn_of _ (by decide +kernel)) ggX7_on_X1_begin
set_option maxRecDepth 20000 in
theorem ggX7_on_X1_go : GoodIn wsX7_on wsX1_go := goodIn_r _ [46, 14, 15, 47, 48, 49, 19, 50, 21, 51, 28, 23, 26, 52, 53, 54, 55, 56, 22, 57, 58, 59, 60, 29, 24, 25, 27, 61, 62, 63, 64, 65, 66, 67, 68, 69, 70, 71, 72, 73, 74, 75, 76, 77, 78, 79, 80, 81, 82, 83, 84, 85, 86, 87, 88, 89, 90, 91, 92, 30, 93, 94, 95, 96, 118, 119, 120, 121, 122, 123, 124, 125, 126, 127, 128, 129, 130, 131, 141, 142, 143, 144, 145, 146, 147] (by decide +kernel) (by decide +kernel)
set_option maxRecDepth 20000 in
theorem gX7_on_X1_go : GoodIn wsX7_on (wsV RX7 170 RX1 yX1_go wsX1_go) := goodIn_app (goodIn_of _ (by decide +kernel)) ggX7_on_X1_go
set_option maxRecDepth 20000 in
theorem ggX7_on_X1_hoursMoreOf : GoodIn wsX7_on wsX1_hoursMoreOf := goodIn_r _ [100, 14, 13, 118, 119, 120, 121, 122, 123, 124, 125, 126, 127, 128, 129, 130, 131] (by decide +kernel) (by decide +kernel)
set_option maxRecDepth 20000 in
theorem gX7_on_X1_hoursMoreOf : GoodIn wsX7_on (wsV RX7 174 RX1 yX1_hoursMoreOf wsX1_hoursMoreOf) := goodIn_app (goodIn_of _ (by decide +kernel)) ggX7_on_X1_hoursMoreOf
set_option maxRecDepth 20000 in
theorem ggX7_on_X1_workMore : GoodIn wsX7_on wsX1_workMore := goodIn_r _ [104, 14, 13, 118, 119, 120, 121, 122, 123, 124, 125, 126, 127, 128, 129, 130, 131] (by decide +kernel) (by decide +kernel)
set_option maxRecDepth 20000 in
theorem gX7_on_X1_workMore : GoodIn wsX7_on (wsV RX7 180 RX1 yX1_workMore wsX1_workMore) := goodIn_app (goodIn_of _ (by decide +kernel)) ggX7_on_X1_workMore
set_option maxRecDepth 20000 in
theorem ggX7_on_X1_hoursMore : GoodIn wsX7_on wsX1_hoursMore := goodIn_r _ [108, 14, 13, 109, 110, 111, 19, 112, 21, 28, 118, 119, 120, 121, 122, 123, 124, 125, 126, 127, 128, 129, 130, 131] (by decide +kernel) (by decide +kernel)
set_option maxRecDepth 20000 in
theorem gX7_on_X1_hoursMore : GoodIn wsX7_on (wsV RX7 183 RX1 yX1_hoursMore wsX1_hoursMore) := goodIn_app (goodIn_of _ (by decide +kernel)) ggX7_on_X1_hoursMore
theorem dX7_on_0 : decode cX7_on 0 = .ok (.iload_n 2, 1) := by decide +kernel
theorem dX7_on_1 : decode cX7_on 1 = .ok (.bipush 10, 2) := by decide +kernel
theorem dX7_on_3 : decode cX7_on 3 = .ok (.if_icmp .lt 18, 3) := by decide +kernel
theorem dX7_on_6 : decode cX7_on 6 = .ok (.aload_n 0, 1) := by decide +kernel
theorem dX7_on_7 : decode cX7_on 7 = .ok (.iload_n 2, 1) := by decide +kernel
theorem dX7_on_8 : decode cX7_on 8 = .ok (.bipush 10, 2) := by decide +kernel
theorem dX7_on_10 : decode cX7_on 10 = .ok (.isub, 1) := by decide +kernel
theorem dX7_on_11 : decode cX7_on 11 = .ok (.invokevirtual 87, 3) := by decide +kernel
theorem dX7_on_14 : decode cX7_on 14 = .ok (.ifCond .eq 7, 3) := by decide +kernel
theorem dX7_on_17 : decode cX7_on 17 = .ok (.iconst 1, 1) := by decide +kernel
theorem dX7_on_18 : decode cX7_on 18 = .ok (.goto 4, 3) := by decide +kernel
theorem dX7_on_21 : decode cX7_on 21 = .ok (.iconst 0, 1) := by decide +kernel
theorem dX7_on_22 : decode cX7_on 22 = .ok (.istore_n 3, 1) := by decide +kernel
theorem dX7_on_23 : decode cX7_on 23 = .ok (.iload_n 2, 1) := by decide +kernel
theorem dX7_on_24 : decode cX7_on 24 = .ok (.bipush 20, 2) := by decide +kernel
theorem dX7_on_26 : decode cX7_on 26 = .ok (.if_icmp .lt 18, 3) := by decide +kernel
theorem dX7_on_29 : decode cX7_on 29 = .ok (.aload_n 0, 1) := by decide +kernel
theorem dX7_on_30 : decode cX7_on 30 = .ok (.iload_n 2, 1) := by decide +kernel
theorem dX7_on_31 : decode cX7_on 31 = .ok (.bipush 20, 2) := by decide +kernel
theorem dX7_on_33 : decode cX7_on 33 = .ok (.isub, 1) := by decide +kernel
theorem dX7_on_34 : decode cX7_on 34 = .ok (.invokevirtual 87, 3) := by decide +kernel
theorem dX7_on_37 : decode cX7_on 37 = .ok (.ifCond .eq 7, 3) := by decide +kernel
theorem dX7_on_40 : decode cX7_on 40 = .ok (.iconst 1, 1) := by decide +kernel
theorem dX7_on_41 : decode cX7_on 41 = .ok (.goto 4, 3) := by decide +kernel
theorem dX7_on_44 : decode cX7_on 44 = .ok (.iconst 0, 1) := by decide +kernel
theorem dX7_on_45 : decode cX7_on 45 = .ok (.istore 4, 2) := by decide +kernel
theorem dX7_on_47 : decode cX7_on 47 = .ok (.iload_n 2, 1) := by decide +kernel
theorem dX7_on_48 : decode cX7_on 48 = .ok (.ifCond .eq 19, 3) := by decide +kernel
theorem dX7_on_51 : decode cX7_on 51 = .ok (.iload_n 2, 1) := by decide +kernel
theorem dX7_on_52 : decode cX7_on 52 = .ok (.iconst 1, 1) := by decide +kernel
theorem dX7_on_53 : decode cX7_on 53 = .ok (.if_icmp .eq 14, 3) := by decide +kernel
theorem dX7_on_56 : decode cX7_on 56 = .ok (.iload_n 3, 1) := by decide +kernel
theorem dX7_on_57 : decode cX7_on 57 = .ok (.ifCond .ne 10, 3) := by decide +kernel
theorem dX7_on_60 : decode cX7_on 60 = .ok (.iload 4, 2) := by decide +kernel
theorem dX7_on_62 : decode cX7_on 62 = .ok (.ifCond .ne 5, 3) := by decide +kernel
theorem dX7_on_65 : decode cX7_on 65 = .ok (.iconst (-1), 1) := by decide +kernel
theorem dX7_on_66 : decode cX7_on 66 = .ok (.ireturn, 1) := by decide +kernel
theorem dX7_on_67 : decode cX7_on 67 = .ok (.iload_n 1, 1) := by decide +kernel
theorem dX7_on_68 : decode cX7_on 68 = .ok (.ifCond .lt 9, 3) := by decide +kernel
theorem dX7_on_71 : decode cX7_on 71 = .ok (.iload_n 1, 1) := by decide +kernel
theorem dX7_on_72 : decode cX7_on 72 = .ok (.bipush 60, 2) := by decide +kernel
theorem dX7_on_74 : decode cX7_on 74 = .ok (.if_icmp .le 6, 3) := by decide +kernel
theorem dX7_on_77 : decode cX7_on 77 = .ok (.bipush (-2), 2) := by decide +kernel
theorem dX7_on_79 : decode cX7_on 79 = .ok (.ireturn, 1) := by decide +kernel
theorem dX7_on_80 : decode cX7_on 80 = .ok (.aload_n 0, 1) := by decide +kernel
theorem dX7_on_81 : decode cX7_on 81 = .ok (.getfield 28, 3) := by decide +kernel
theorem dX7_on_84 : decode cX7_on 84 = .ok (.aload_n 0, 1) := by decide +kernel
theorem dX7_on_85 : decode cX7_on 85 = .ok (.getfield 12, 3) := by decide +kernel
theorem dX7_on_88 : decode cX7_on 88 = .ok (.invokevirtual 166, 3) := by decide +kernel
theorem dX7_on_91 : decode cX7_on 91 = .ok (.aload_n 0, 1) := by decide +kernel
theorem dX7_on_92 : decode cX7_on 92 = .ok (.getfield 28, 3) := by decide +kernel
theorem dX7_on_95 : decode cX7_on 95 = .ok (.iload_n 1, 1) := by decide +kernel
theorem dX7_on_96 : decode cX7_on 96 = .ok (.invokevirtual 170, 3) := by decide +kernel
theorem dX7_on_99 : decode cX7_on 99 = .ok (.iload_n 3, 1) := by decide +kernel
theorem dX7_on_100 : decode cX7_on 100 = .ok (.ifCond .eq 15, 3) := by decide +kernel
theorem dX7_on_103 : decode cX7_on 103 = .ok (.aload_n 0, 1) := by decide +kernel
theorem dX7_on_104 : decode cX7_on 104 = .ok (.getfield 28, 3) := by decide +kernel
theorem dX7_on_107 : decode cX7_on 107 = .ok (.iload_n 2, 1) := by decide +kernel
theorem dX7_on_108 : decode cX7_on 108 = .ok (.bipush 10, 2) := by decide +kernel
theorem dX7_on_110 : decode cX7_on 110 = .ok (.isub, 1) := by decide +kernel
theorem dX7_on_111 : decode cX7_on 111 = .ok (.invokevirtual 174, 3) := by decide +kernel
theorem dX7_on_114 : decode cX7_on 114 = .ok (.ireturn, 1) := by decide +kernel
theorem dX7_on_115 : decode cX7_on 115 = .ok (.iload 4, 2) := by decide +kernel
theorem dX7_on_117 : decode cX7_on 117 = .ok (.ifCond .eq 19, 3) := by decide +kernel
theorem dX7_on_120 : decode cX7_on 120 = .ok (.aload_n 0, 1) := by decide +kernel
theorem dX7_on_121 : decode cX7_on 121 = .ok (.getfield 28, 3) := by decide +kernel
theorem dX7_on_124 : decode cX7_on 124 = .ok (.getfield 177, 3) := by decide +kernel
theorem dX7_on_127 : decode cX7_on 127 = .ok (.getfield 100, 3) := by decide +kernel
theorem dX7_on_130 : decode cX7_on 130 = .ok (.iload_n 2, 1) := by decide +kernel
theorem dX7_on_131 : decode cX7_on 131 = .ok (.bipush 20, 2) := by decide +kernel
theorem dX7_on_133 : decode cX7_on 133 = .ok (.isub, 1) := by decide +kernel
theorem dX7_on_134 : decode cX7_on 134 = .ok (.iaload, 1) := by decide +kernel
theorem dX7_on_135 : decode cX7_on 135 = .ok (.ireturn, 1) := by decide +kernel
theorem dX7_on_136 : decode cX7_on 136 = .ok (.iload_n 2, 1) := by decide +kernel
theorem dX7_on_137 : decode cX7_on 137 = .ok (.ifCond .ne 13, 3) := by decide +kernel
theorem dX7_on_140 : decode cX7_on 140 = .ok (.aload_n 0, 1) := by decide +kernel
theorem dX7_on_141 : decode cX7_on 141 = .ok (.getfield 28, 3) := by decide +kernel
theorem dX7_on_144 : decode cX7_on 144 = .ok (.invokevirtual 180, 3) := by decide +kernel
theorem dX7_on_147 : decode cX7_on 147 = .ok (.goto 10, 3) := by decide +kernel
theorem dX7_on_150 : decode cX7_on 150 = .ok (.aload_n 0, 1) := by decide +kernel
theorem dX7_on_151 : decode cX7_on 151 = .ok (.getfield 28, 3) := by decide +kernel
theorem dX7_on_154 : decode cX7_on 154 = .ok (.invokevirtual 183, 3) := by decide +kernel
theorem dX7_on_157 : decode cX7_on 157 = .ok (.ireturn, 1) := by decide +kernel
set_option maxRecDepth 20000 in
theorem ggX7_ready_X5_lesson : GoodIn wsX7_ready wsX5_lesson := goodIn_r _ [7, 8, 9, 10, 117, 118, 119, 120, 121, 122, 123, 124, 125] (by decide +kernel) (by decide +kernel)
set_option maxRecDepth 20000 in
theorem gX7_ready_X5_lesson : GoodIn wsX7_ready (wsV RX7 110 RX5 yX5_lesson wsX5_lesson) := goodIn_app (goodIn_of _ (by decide +kernel)) ggX7_ready_X5_lesson
set_option maxRecDepth 20000 in
theorem ggX7_ready_X3_goal : GoodIn wsX7_ready wsX3_goal := goodIn_r _ [15, 16, 17, 18, 19, 20, 126, 127, 128, 129, 130, 131, 132] (by decide +kernel) (by decide +kernel)
set_option maxRecDepth 20000 in
theorem gX7_ready_X3_goal : GoodIn wsX7_ready (wsV RX7 139 RX3 yX3_goal wsX3_goal) := goodIn_app (goodIn_of _ (by decide +kernel)) ggX7_ready_X3_goal
set_option maxRecDepth 20000 in
theorem ggX7_ready_X1_begin : GoodIn wsX7_ready wsX1_begin := goodIn_r _ [25, 26, 27, 28, 29, 30, 31, 32, 33, 34, 35, 36, 37, 38, 39, 40, 41, 42, 43, 44, 45, 46, 47, 48, 4, 5, 6, 7, 8, 9, 10, 103, 104, 105, 117, 118, 119, 120, 121, 122, 123, 124, 125, 106, 107, 108, 109, 110, 111, 112, 113, 114, 115, 116] (by decide +kernel) (by decide +kernel)
set_option maxRecDepth 20000 in
theorem gX7_ready_X1_begin : GoodIn wsX7_ready (wsV RX7 166 RX1 yX1_begin wsX1_begin) := goodIn_app (goodIn_of _ (by decide +kernel)) ggX7_ready_X1_begin
set_option maxRecDepth 20000 in
theorem ggX7_ready_X1_go : GoodIn wsX7_ready wsX1_go := goodIn_r _ [52, 27, 28, 53, 54, 55, 32, 56, 34, 57, 41, 36, 39, 58, 59, 19, 60, 61, 35, 62, 63, 64, 65, 42, 37, 38, 40, 66, 18, 20, 67, 68, 69, 14, 70, 71, 72, 73, 74, 17, 75, 76, 77, 78, 79, 80, 81, 82, 83, 84, 85, 86, 87, 88, 89, 90, 91, 92, 93, 43, 94, 95, 96, 97, 103, 104, 105, 106, 107, 108, 109, 110, 111, 112, 113, 114, 115, 116, 126, 127, 128, 129, 130, 131, 132] (by decide +kernel) (by decide +kernel)
set_option maxRecDepth 20000 in
theorem gX7_ready_X1_go : GoodIn wsX7_ready (wsV RX7 170 RX1 yX1_go wsX1_go) := goodIn_app (goodIn_of _ (by decide +kernel)) ggX7_ready_X1_go
theorem dX7_ready_0 : decode cX7_ready 0 = .ok (.aload_n 0, 1) := by decide +kernel
theorem dX7_ready_1 : decode cX7_ready 1 = .ok (.getfield 12, 3) := by decide +kernel
theorem dX7_ready_4 : decode cX7_ready 4 = .ok (.invokevirtual 110, 3) := by decide +kernel
theorem dX7_ready_7 : decode cX7_ready 7 = .ok (.invokevirtual 139, 3) := by decide +kernel
theorem dX7_ready_10 : decode cX7_ready 10 = .ok (.istore_n 1, 1) := by decide +kernel
theorem dX7_ready_11 : decode cX7_ready 11 = .ok (.aload_n 0, 1) := by decide +kernel
theorem dX7_ready_12 : decode cX7_ready 12 = .ok (.getfield 28, 3) := by decide +kernel
theorem dX7_ready_15 : decode cX7_ready 15 = .ok (.aload_n 0, 1) := by decide +kernel
theorem dX7_ready_16 : decode cX7_ready 16 = .ok (.getfield 12, 3) := by decide +kernel
theorem dX7_ready_19 : decode cX7_ready 19 = .ok (.invokevirtual 166, 3) := by decide +kernel
theorem dX7_ready_22 : decode cX7_ready 22 = .ok (.iconst 0, 1) := by decide +kernel
theorem dX7_ready_23 : decode cX7_ready 23 = .ok (.istore_n 2, 1) := by decide +kernel
