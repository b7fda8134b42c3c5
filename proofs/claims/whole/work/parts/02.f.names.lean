theorem dX7_ready_24 : decode cX7_ready 24 = .ok (.iload_n 2, 1) := by decide +kernel
theorem dX7_ready_25 : decode cX7_ready 25 = .ok (.bipush 60, 2) := by decide +kernel
theorem dX7_ready_27 : decode cX7_ready 27 = .ok (.if_icmp .gt 33, 3) := by decide +kernel
theorem dX7_ready_30 : decode cX7_ready 30 = .ok (.aload_n 0, 1) := by decide +kernel
theorem dX7_ready_31 : decode cX7_ready 31 = .ok (.getfield 28, 3) := by decide +kernel
theorem dX7_ready_34 : decode cX7_ready 34 = .ok (.getfield 177, 3) := by decide +kernel
theorem dX7_ready_37 : decode cX7_ready 37 = .ok (.getfield 136, 3) := by decide +kernel
theorem dX7_ready_40 : decode cX7_ready 40 = .ok (.iload_n 1, 1) := by decide +kernel
theorem dX7_ready_41 : decode cX7_ready 41 = .ok (.if_icmp .lt 5, 3) := by decide +kernel
theorem dX7_ready_44 : decode cX7_ready 44 = .ok (.iload_n 2, 1) := by decide +kernel
theorem dX7_ready_45 : decode cX7_ready 45 = .ok (.ireturn, 1) := by decide +kernel
theorem dX7_ready_46 : decode cX7_ready 46 = .ok (.aload_n 0, 1) := by decide +kernel
theorem dX7_ready_47 : decode cX7_ready 47 = .ok (.getfield 28, 3) := by decide +kernel
theorem dX7_ready_50 : decode cX7_ready 50 = .ok (.iconst 1, 1) := by decide +kernel
theorem dX7_ready_51 : decode cX7_ready 51 = .ok (.invokevirtual 170, 3) := by decide +kernel
theorem dX7_ready_54 : decode cX7_ready 54 = .ok (.iinc 2 1, 3) := by decide +kernel
theorem dX7_ready_57 : decode cX7_ready 57 = .ok (.goto (-33), 3) := by decide +kernel
theorem dX7_ready_60 : decode cX7_ready 60 = .ok (.bipush (-5), 2) := by decide +kernel
theorem dX7_ready_62 : decode cX7_ready 62 = .ok (.ireturn, 1) := by decide +kernel
set_option maxRecDepth 20000 in
theorem ggX7_spread_X7_isRule : GoodIn wsX7_spread wsX7_isRule := goodIn_r _ [5] (by decide +kernel) (by decide +kernel)
set_option maxRecDepth 20000 in
theorem gX7_spread_X7_isRule : GoodIn wsX7_spread (va_wsS RX7 155 yX7_isRule wsX7_isRule) := goodIn_app (goodIn_of _ (by decide +kernel)) ggX7_spread_X7_isRule
set_option maxRecDepth 20000 in
theorem ggX7_spread_X5_lesson : GoodIn wsX7_spread wsX5_lesson := goodIn_r _ [10, 11, 12, 13, 86, 87, 88, 89, 90, 91, 92, 93, 94] (by decide +kernel) (by decide +kernel)
set_option maxRecDepth 20000 in
theorem gX7_spread_X5_lesson : GoodIn wsX7_spread (wsV RX7 110 RX5 yX5_lesson wsX5_lesson) := goodIn_app (goodIn_of _ (by decide +kernel)) ggX7_spread_X5_lesson
set_option maxRecDepth 20000 in
theorem ggX7_spread_X3_goal : GoodIn wsX7_spread wsX3_goal := goodIn_r _ [18, 19, 20, 21, 22, 23, 95, 96, 97, 98, 99, 100, 101] (by decide +kernel) (by decide +kernel)
set_option maxRecDepth 20000 in
theorem gX7_spread_X3_goal : GoodIn wsX7_spread (wsV RX7 139 RX3 yX3_goal wsX3_goal) := goodIn_app (goodIn_of _ (by decide +kernel)) ggX7_spread_X3_goal
set_option maxRecDepth 20000 in
theorem ggX7_spread_X2_spreadOf : GoodIn wsX7_spread wsX2_spreadOf := goodIn_r _ [28, 29, 30, 31, 21, 22, 23, 32, 33, 34, 35, 36, 37, 27, 38, 39, 40, 41, 42, 43, 44, 45, 46, 47, 48, 49, 50, 51, 52, 53, 54, 55, 56, 57, 58, 59, 60, 61, 62, 63, 64, 65, 66, 67, 68, 69, 70, 71, 72, 73, 74, 75, 76, 77, 78, 79, 80, 102, 103, 104, 105, 106, 107, 108, 109, 110, 111, 112] (by decide +kernel) (by decide +kernel)
set_option maxRecDepth 20000 in
theorem gX7_spread_X2_spreadOf : GoodIn wsX7_spread (wsV RX7 186 RX2 yX2_spreadOf wsX2_spreadOf) := goodIn_app (goodIn_of _ (by decide +kernel)) ggX7_spread_X2_spreadOf
theorem dX7_spread_0 : decode cX7_spread 0 = .ok (.iload_n 1, 1) := by decide +kernel
theorem dX7_spread_1 : decode cX7_spread 1 = .ok (.invokestatic 155, 3) := by decide +kernel
theorem dX7_spread_4 : decode cX7_spread 4 = .ok (.ifCond .ne 5, 3) := by decide +kernel
theorem dX7_spread_7 : decode cX7_spread 7 = .ok (.iconst (-1), 1) := by decide +kernel
theorem dX7_spread_8 : decode cX7_spread 8 = .ok (.ireturn, 1) := by decide +kernel
theorem dX7_spread_9 : decode cX7_spread 9 = .ok (.aload_n 0, 1) := by decide +kernel
theorem dX7_spread_10 : decode cX7_spread 10 = .ok (.getfield 12, 3) := by decide +kernel
theorem dX7_spread_13 : decode cX7_spread 13 = .ok (.getfield 74, 3) := by decide +kernel
theorem dX7_spread_16 : decode cX7_spread 16 = .ok (.iload_n 1, 1) := by decide +kernel
theorem dX7_spread_17 : decode cX7_spread 17 = .ok (.aload_n 0, 1) := by decide +kernel
theorem dX7_spread_18 : decode cX7_spread 18 = .ok (.getfield 12, 3) := by decide +kernel
theorem dX7_spread_21 : decode cX7_spread 21 = .ok (.invokevirtual 110, 3) := by decide +kernel
theorem dX7_spread_24 : decode cX7_spread 24 = .ok (.invokevirtual 139, 3) := by decide +kernel
theorem dX7_spread_27 : decode cX7_spread 27 = .ok (.invokevirtual 186, 3) := by decide +kernel
theorem dX7_spread_30 : decode cX7_spread 30 = .ok (.ireturn, 1) := by decide +kernel
set_option maxRecDepth 20000 in
theorem ggX7_nearest_X5_lesson : GoodIn wsX7_nearest wsX5_lesson := goodIn_r _ [6, 7, 8, 9, 85, 86, 87, 88, 89, 90, 91, 92, 93] (by decide +kernel) (by decide +kernel)
set_option maxRecDepth 20000 in
theorem gX7_nearest_X5_lesson : GoodIn wsX7_nearest (wsV RX7 110 RX5 yX5_lesson wsX5_lesson) := goodIn_app (goodIn_of _ (by decide +kernel)) ggX7_nearest_X5_lesson
set_option maxRecDepth 20000 in
theorem ggX7_nearest_X3_goal : GoodIn wsX7_nearest wsX3_goal := goodIn_r _ [14, 15, 16, 17, 18, 19, 94, 95, 96, 97, 98, 99, 100] (by decide +kernel) (by decide +kernel)
set_option maxRecDepth 20000 in
theorem gX7_nearest_X3_goal : GoodIn wsX7_nearest (wsV RX7 139 RX3 yX3_goal wsX3_goal) := goodIn_app (goodIn_of _ (by decide +kernel)) ggX7_nearest_X3_goal
set_option maxRecDepth 20000 in
theorem ggX7_nearest_X2_awayFromHours : GoodIn wsX7_nearest wsX2_awayFromHours := goodIn_r _ [24, 25, 26, 27, 18, 28, 29, 30, 31, 23, 32, 33, 34, 35, 36, 37, 38, 39, 40, 41, 42, 43, 44, 45, 46, 47, 48, 49, 50, 51, 52, 53, 54, 55, 56, 57, 58, 59, 60, 61, 62, 63, 64, 65, 66, 67, 68, 69, 17, 19, 70, 71, 72, 73, 74, 75, 76, 77, 78, 79, 101, 102, 103, 104, 105, 106, 107, 108, 109, 110, 111] (by decide +kernel) (by decide +kernel)
set_option maxRecDepth 20000 in
theorem gX7_nearest_X2_awayFromHours : GoodIn wsX7_nearest (wsV RX7 190 RX2 yX2_awayFromHours wsX2_awayFromHours) := goodIn_app (goodIn_of _ (by decide +kernel)) ggX7_nearest_X2_awayFromHours
theorem dX7_nearest_0 : decode cX7_nearest 0 = .ok (.aload_n 0, 1) := by decide +kernel
theorem dX7_nearest_1 : decode cX7_nearest 1 = .ok (.getfield 12, 3) := by decide +kernel
theorem dX7_nearest_4 : decode cX7_nearest 4 = .ok (.getfield 74, 3) := by decide +kernel
theorem dX7_nearest_7 : decode cX7_nearest 7 = .ok (.astore_n 1, 1) := by decide +kernel
theorem dX7_nearest_8 : decode cX7_nearest 8 = .ok (.aload_n 0, 1) := by decide +kernel
theorem dX7_nearest_9 : decode cX7_nearest 9 = .ok (.getfield 12, 3) := by decide +kernel
theorem dX7_nearest_12 : decode cX7_nearest 12 = .ok (.invokevirtual 110, 3) := by decide +kernel
theorem dX7_nearest_15 : decode cX7_nearest 15 = .ok (.invokevirtual 139, 3) := by decide +kernel
theorem dX7_nearest_18 : decode cX7_nearest 18 = .ok (.istore_n 2, 1) := by decide +kernel
theorem dX7_nearest_19 : decode cX7_nearest 19 = .ok (.iconst 0, 1) := by decide +kernel
theorem dX7_nearest_20 : decode cX7_nearest 20 = .ok (.istore_n 3, 1) := by decide +kernel
theorem dX7_nearest_21 : decode cX7_nearest 21 = .ok (.aload_n 1, 1) := by decide +kernel
theorem dX7_nearest_22 : decode cX7_nearest 22 = .ok (.iconst 2, 1) := by decide +kernel
theorem dX7_nearest_23 : decode cX7_nearest 23 = .ok (.iload_n 2, 1) := by decide +kernel
theorem dX7_nearest_24 : decode cX7_nearest 24 = .ok (.invokevirtual 190, 3) := by decide +kernel
theorem dX7_nearest_27 : decode cX7_nearest 27 = .ok (.aload_n 1, 1) := by decide +kernel
theorem dX7_nearest_28 : decode cX7_nearest 28 = .ok (.iload_n 3, 1) := by decide +kernel
theorem dX7_nearest_29 : decode cX7_nearest 29 = .ok (.iload_n 2, 1) := by decide +kernel
theorem dX7_nearest_30 : decode cX7_nearest 30 = .ok (.invokevirtual 190, 3) := by decide +kernel
theorem dX7_nearest_33 : decode cX7_nearest 33 = .ok (.if_icmp .ge 5, 3) := by decide +kernel
theorem dX7_nearest_36 : decode cX7_nearest 36 = .ok (.iconst 2, 1) := by decide +kernel
theorem dX7_nearest_37 : decode cX7_nearest 37 = .ok (.istore_n 3, 1) := by decide +kernel
theorem dX7_nearest_38 : decode cX7_nearest 38 = .ok (.aload_n 1, 1) := by decide +kernel
theorem dX7_nearest_39 : decode cX7_nearest 39 = .ok (.iconst 3, 1) := by decide +kernel
theorem dX7_nearest_40 : decode cX7_nearest 40 = .ok (.iload_n 2, 1) := by decide +kernel
theorem dX7_nearest_41 : decode cX7_nearest 41 = .ok (.invokevirtual 190, 3) := by decide +kernel
theorem dX7_nearest_44 : decode cX7_nearest 44 = .ok (.aload_n 1, 1) := by decide +kernel
theorem dX7_nearest_45 : decode cX7_nearest 45 = .ok (.iload_n 3, 1) := by decide +kernel
theorem dX7_nearest_46 : decode cX7_nearest 46 = .ok (.iload_n 2, 1) := by decide +kernel
theorem dX7_nearest_47 : decode cX7_nearest 47 = .ok (.invokevirtual 190, 3) := by decide +kernel
theorem dX7_nearest_50 : decode cX7_nearest 50 = .ok (.if_icmp .ge 5, 3) := by decide +kernel
theorem dX7_nearest_53 : decode cX7_nearest 53 = .ok (.iconst 3, 1) := by decide +kernel
theorem dX7_nearest_54 : decode cX7_nearest 54 = .ok (.istore_n 3, 1) := by decide +kernel
theorem dX7_nearest_55 : decode cX7_nearest 55 = .ok (.iload_n 3, 1) := by decide +kernel
theorem dX7_nearest_56 : decode cX7_nearest 56 = .ok (.ireturn, 1) := by decide +kernel
set_option maxRecDepth 20000 in
theorem ggX7_throwOut_X1_begin : GoodIn wsX7_throwOut wsX1_begin := goodIn_r _ [7, 8, 9, 10, 11, 12, 13, 14, 15, 16, 17, 18, 19, 20, 21, 22, 23, 24, 25, 26, 27, 28, 29, 30, 31, 32, 33, 34, 35, 36, 37, 126, 127, 128, 106, 107, 108, 109, 110, 111, 112, 113, 114, 115, 116, 117, 118, 119, 120, 121, 122, 123, 124, 125] (by decide +kernel) (by decide +kernel)
set_option maxRecDepth 20000 in
theorem gX7_throwOut_X1_begin : GoodIn wsX7_throwOut (wsV RX7 166 RX1 yX1_begin wsX1_begin) := goodIn_app (goodIn_of _ (by decide +kernel)) ggX7_throwOut_X1_begin
set_option maxRecDepth 20000 in
theorem ggX7_throwOut_X1_go : GoodIn wsX7_throwOut wsX1_go := goodIn_r _ [41, 9, 10, 42, 43, 44, 14, 45, 16, 46, 23, 18, 21, 47, 48, 49, 50, 51, 17, 52, 53, 54, 55, 24, 19, 20, 22, 56, 57, 58, 59, 60, 61, 62, 63, 64, 65, 66, 67, 68, 69, 70, 71, 72, 73, 74, 75, 76, 77, 78, 79, 80, 81, 82, 83, 84, 85, 86, 87, 25, 88, 89, 90, 91, 126, 127, 128, 115, 116, 117, 118, 119, 120, 121, 122, 123, 124, 125, 129, 130, 131, 132, 133, 134, 135] (by decide +kernel) (by decide +kernel)
set_option maxRecDepth 20000 in
theorem gX7_throwOut_X1_go : GoodIn wsX7_throwOut (wsV RX7 170 RX1 yX1_go wsX1_go) := goodIn_app (goodIn_of _ (by decide +kernel)) ggX7_throwOut_X1_go
set_option maxRecDepth 20000 in
theorem ggX7_throwOut_X1_workMore : GoodIn wsX7_throwOut wsX1_workMore := goodIn_r _ [95, 9, 8, 126, 127, 128, 115, 116, 117, 118, 119, 120, 121, 122, 123, 124, 125] (by decide +kernel) (by decide +kernel)
set_option maxRecDepth 20000 in
theorem gX7_throwOut_X1_workMore : GoodIn wsX7_throwOut (wsV RX7 180 RX1 yX1_workMore wsX1_workMore) := goodIn_app (goodIn_of _ (by decide +kernel)) ggX7_throwOut_X1_workMore
set_option maxRecDepth 20000 in
theorem ggX7_throwOut_X1_beginWithout : GoodIn wsX7_throwOut wsX1_beginWithout := goodIn_r _ [99, 9, 100, 4, 5, 6, 7, 8, 10, 11, 12, 13, 14, 15, 16, 17, 18, 19, 20, 21, 22, 23, 24, 25, 26, 27, 28, 29, 30, 31, 32, 33, 34, 35, 36, 37, 126, 127, 128, 115, 116, 117, 118, 119, 120, 121, 122, 123, 124, 125, 106, 107, 108, 109, 110, 111, 112, 113, 114] (by decide +kernel) (by decide +kernel)
set_option maxRecDepth 20000 in
theorem gX7_throwOut_X1_beginWithout : GoodIn wsX7_throwOut (wsV RX7 193 RX1 yX1_beginWithout wsX1_beginWithout) := goodIn_app (goodIn_of _ (by decide +kernel)) ggX7_throwOut_X1_beginWithout
theorem dX7_throwOut_0 : decode cX7_throwOut 0 = .ok (.aload_n 0, 1) := by decide +kernel
theorem dX7_throwOut_1 : decode cX7_throwOut 1 = .ok (.getfield 28, 3) := by decide +kernel
theorem dX7_throwOut_4 : decode cX7_throwOut 4 = .ok (.aload_n 0, 1) := by decide +kernel
theorem dX7_throwOut_5 : decode cX7_throwOut 5 = .ok (.getfield 12, 3) := by decide +kernel
theorem dX7_throwOut_8 : decode cX7_throwOut 8 = .ok (.invokevirtual 166, 3) := by decide +kernel
theorem dX7_throwOut_11 : decode cX7_throwOut 11 = .ok (.aload_n 0, 1) := by decide +kernel
theorem dX7_throwOut_12 : decode cX7_throwOut 12 = .ok (.getfield 28, 3) := by decide +kernel
theorem dX7_throwOut_15 : decode cX7_throwOut 15 = .ok (.bipush 20, 2) := by decide +kernel
theorem dX7_throwOut_17 : decode cX7_throwOut 17 = .ok (.invokevirtual 170, 3) := by decide +kernel
theorem dX7_throwOut_20 : decode cX7_throwOut 20 = .ok (.aload_n 0, 1) := by decide +kernel
theorem dX7_throwOut_21 : decode cX7_throwOut 21 = .ok (.getfield 28, 3) := by decide +kernel
theorem dX7_throwOut_24 : decode cX7_throwOut 24 = .ok (.invokevirtual 180, 3) := by decide +kernel
theorem dX7_throwOut_27 : decode cX7_throwOut 27 = .ok (.istore_n 1, 1) := by decide +kernel
theorem dX7_throwOut_28 : decode cX7_throwOut 28 = .ok (.bipush (-5), 2) := by decide +kernel
theorem dX7_throwOut_30 : decode cX7_throwOut 30 = .ok (.istore_n 2, 1) := by decide +kernel
theorem dX7_throwOut_31 : decode cX7_throwOut 31 = .ok (.iconst 0, 1) := by decide +kernel
theorem dX7_throwOut_32 : decode cX7_throwOut 32 = .ok (.istore_n 3, 1) := by decide +kernel
theorem dX7_throwOut_33 : decode cX7_throwOut 33 = .ok (.iload_n 3, 1) := by decide +kernel
theorem dX7_throwOut_34 : decode cX7_throwOut 34 = .ok (.aload_n 0, 1) := by decide +kernel
theorem dX7_throwOut_35 : decode cX7_throwOut 35 = .ok (.getfield 12, 3) := by decide +kernel
theorem dX7_throwOut_38 : decode cX7_throwOut 38 = .ok (.getfield 74, 3) := by decide +kernel
theorem dX7_throwOut_41 : decode cX7_throwOut 41 = .ok (.getfield 78, 3) := by decide +kernel
theorem dX7_throwOut_44 : decode cX7_throwOut 44 = .ok (.if_icmp .ge 69, 3) := by decide +kernel
theorem dX7_throwOut_47 : decode cX7_throwOut 47 = .ok (.aload_n 0, 1) := by decide +kernel
theorem dX7_throwOut_48 : decode cX7_throwOut 48 = .ok (.getfield 12, 3) := by decide +kernel
theorem dX7_throwOut_51 : decode cX7_throwOut 51 = .ok (.getfield 74, 3) := by decide +kernel
theorem dX7_throwOut_54 : decode cX7_throwOut 54 = .ok (.getfield 106, 3) := by decide +kernel
theorem dX7_throwOut_57 : decode cX7_throwOut 57 = .ok (.iload_n 3, 1) := by decide +kernel
theorem dX7_throwOut_58 : decode cX7_throwOut 58 = .ok (.baload, 1) := by decide +kernel
theorem dX7_throwOut_59 : decode cX7_throwOut 59 = .ok (.ifCond .eq 6, 3) := by decide +kernel
theorem dX7_throwOut_62 : decode cX7_throwOut 62 = .ok (.goto 45, 3) := by decide +kernel
theorem dX7_throwOut_65 : decode cX7_throwOut 65 = .ok (.aload_n 0, 1) := by decide +kernel
theorem dX7_throwOut_66 : decode cX7_throwOut 66 = .ok (.getfield 28, 3) := by decide +kernel
theorem dX7_throwOut_69 : decode cX7_throwOut 69 = .ok (.aload_n 0, 1) := by decide +kernel
theorem dX7_throwOut_70 : decode cX7_throwOut 70 = .ok (.getfield 12, 3) := by decide +kernel
theorem dX7_throwOut_73 : decode cX7_throwOut 73 = .ok (.iload_n 3, 1) := by decide +kernel
theorem dX7_throwOut_74 : decode cX7_throwOut 74 = .ok (.invokevirtual 193, 3) := by decide +kernel
theorem dX7_throwOut_77 : decode cX7_throwOut 77 = .ok (.aload_n 0, 1) := by decide +kernel
theorem dX7_throwOut_78 : decode cX7_throwOut 78 = .ok (.getfield 28, 3) := by decide +kernel
theorem dX7_throwOut_81 : decode cX7_throwOut 81 = .ok (.bipush 20, 2) := by decide +kernel
theorem dX7_throwOut_83 : decode cX7_throwOut 83 = .ok (.invokevirtual 170, 3) := by decide +kernel
theorem dX7_throwOut_86 : decode cX7_throwOut 86 = .ok (.aload_n 0, 1) := by decide +kernel
theorem dX7_throwOut_87 : decode cX7_throwOut 87 = .ok (.getfield 28, 3) := by decide +kernel
theorem dX7_throwOut_90 : decode cX7_throwOut 90 = .ok (.invokevirtual 180, 3) := by decide +kernel
theorem dX7_throwOut_93 : decode cX7_throwOut 93 = .ok (.iload_n 1, 1) := by decide +kernel
theorem dX7_throwOut_94 : decode cX7_throwOut 94 = .ok (.if_icmp .le 13, 3) := by decide +kernel
theorem dX7_throwOut_97 : decode cX7_throwOut 97 = .ok (.aload_n 0, 1) := by decide +kernel
theorem dX7_throwOut_98 : decode cX7_throwOut 98 = .ok (.getfield 28, 3) := by decide +kernel
theorem dX7_throwOut_101 : decode cX7_throwOut 101 = .ok (.invokevirtual 180, 3) := by decide +kernel
theorem dX7_throwOut_104 : decode cX7_throwOut 104 = .ok (.istore_n 1, 1) := by decide +kernel
theorem dX7_throwOut_105 : decode cX7_throwOut 105 = .ok (.iload_n 3, 1) := by decide +kernel
theorem dX7_throwOut_106 : decode cX7_throwOut 106 = .ok (.istore_n 2, 1) := by decide +kernel
theorem dX7_throwOut_107 : decode cX7_throwOut 107 = .ok (.iinc 3 1, 3) := by decide +kernel
theorem dX7_throwOut_110 : decode cX7_throwOut 110 = .ok (.goto (-77), 3) := by decide +kernel
theorem dX7_throwOut_113 : decode cX7_throwOut 113 = .ok (.iload_n 2, 1) := by decide +kernel
theorem dX7_throwOut_114 : decode cX7_throwOut 114 = .ok (.ireturn, 1) := by decide +kernel
set_option maxRecDepth 20000 in
theorem ggX7_alone_X7_isPupil : GoodIn wsX7_alone wsX7_isPupil := goodIn_r _ [7, 2, 101, 102, 103, 104, 105, 106, 107, 108, 109, 110, 111, 112, 113, 114, 115, 116, 117, 118, 119, 120, 121, 122, 123, 124, 125] (by decide +kernel) (by decide +kernel)
set_option maxRecDepth 20000 in
theorem gX7_alone_X7_isPupil : GoodIn wsX7_alone (wsV RX7 87 RX7 yX7_isPupil wsX7_isPupil) := goodIn_app (goodIn_of _ (by decide +kernel)) ggX7_alone_X7_isPupil
set_option maxRecDepth 20000 in
theorem ggX7_alone_X1_workOf : GoodIn wsX7_alone wsX1_workOf := goodIn_r _ [12, 13, 14, 15, 16, 17, 11, 18, 19, 20, 21, 22, 23, 24, 25, 26, 27, 28, 29, 30, 31, 32, 33, 34, 35, 36, 37, 38, 39, 40, 41, 42, 43, 44, 45, 46, 47, 48, 49, 50, 51, 52, 53, 54, 55, 56, 57, 58, 59, 60, 61, 62, 63, 64, 65, 66, 67, 68, 69, 70, 71, 72, 73, 74, 75, 76, 77, 78, 79, 80, 81, 82, 83, 84, 85, 86, 87, 88, 89, 90, 91, 92, 93, 94, 95, 96, 97, 98, 99, 100, 126, 127, 128, 115, 116, 117, 118, 119, 120, 121, 122, 123, 124, 125, 106, 107, 108, 109, 110, 111, 112, 113, 114, 129, 130, 131, 132, 133, 134, 135] (by decide +kernel) (by decide +kernel)
set_option maxRecDepth 20000 in
theorem gX7_alone_X1_workOf : GoodIn wsX7_alone (wsV RX7 197 RX1 yX1_workOf wsX1_workOf) := goodIn_app (goodIn_of _ (by decide +kernel)) ggX7_alone_X1_workOf
theorem dX7_alone_0 : decode cX7_alone 0 = .ok (.aload_n 0, 1) := by decide +kernel
theorem dX7_alone_1 : decode cX7_alone 1 = .ok (.iload_n 1, 1) := by decide +kernel
theorem dX7_alone_2 : decode cX7_alone 2 = .ok (.invokevirtual 87, 3) := by decide +kernel
theorem dX7_alone_5 : decode cX7_alone 5 = .ok (.ifCond .ne 5, 3) := by decide +kernel
theorem dX7_alone_8 : decode cX7_alone 8 = .ok (.iconst (-1), 1) := by decide +kernel
theorem dX7_alone_9 : decode cX7_alone 9 = .ok (.ireturn, 1) := by decide +kernel
theorem dX7_alone_10 : decode cX7_alone 10 = .ok (.aload_n 0, 1) := by decide +kernel
theorem dX7_alone_11 : decode cX7_alone 11 = .ok (.getfield 28, 3) := by decide +kernel
theorem dX7_alone_14 : decode cX7_alone 14 = .ok (.aload_n 0, 1) := by decide +kernel
theorem dX7_alone_15 : decode cX7_alone 15 = .ok (.getfield 12, 3) := by decide +kernel
theorem dX7_alone_18 : decode cX7_alone 18 = .ok (.iconst 1, 1) := by decide +kernel
theorem dX7_alone_19 : decode cX7_alone 19 = .ok (.iload_n 1, 1) := by decide +kernel
theorem dX7_alone_20 : decode cX7_alone 20 = .ok (.ishl, 1) := by decide +kernel
theorem dX7_alone_21 : decode cX7_alone 21 = .ok (.bipush 20, 2) := by decide +kernel
theorem dX7_alone_23 : decode cX7_alone 23 = .ok (.invokevirtual 197, 3) := by decide +kernel
theorem dX7_alone_26 : decode cX7_alone 26 = .ok (.ireturn, 1) := by decide +kernel
set_option maxRecDepth 20000 in
theorem ggX7_team_J6_bitCount_0f7a4 : GoodIn wsX7_team wsJ6_bitCount_0f7a4 := goodIn_r _ [6, 7, 8, 9] (by decide +kernel) (by decide +kernel)
set_option maxRecDepth 20000 in
theorem gX7_team_J6_bitCount_0f7a4 : GoodIn wsX7_team (va_wsS RX7 201 yJ6_bitCount_0f7a4 wsJ6_bitCount_0f7a4) := goodIn_app (goodIn_of _ (by decide +kernel)) ggX7_team_J6_bitCount_0f7a4
set_option maxRecDepth 20000 in
theorem ggX7_team_X1_workOf : GoodIn wsX7_team wsX1_workOf := goodIn_r _ [14, 15, 16, 17, 18, 19, 13, 20, 21, 22, 23, 24, 25, 26, 27, 28, 29, 30, 31, 32, 33, 34, 35, 36, 37, 38, 39, 40, 41, 42, 43, 44, 45, 46, 47, 48, 49, 50, 51, 52, 53, 54, 55, 56, 57, 58, 59, 60, 61, 62, 63, 64, 65, 66, 67, 68, 69, 70, 71, 72, 73, 74, 75, 76, 77, 78, 79, 80, 81, 82, 83, 84, 85, 86, 87, 88, 89, 90, 91, 92, 93, 94, 95, 96, 97, 98, 99, 100, 101, 102, 128, 129, 130, 117, 118, 119, 120, 121, 122, 123, 124, 125, 126, 127, 108, 109, 110, 111, 112, 113, 114, 115, 116, 131, 132, 133, 134, 135, 136, 137] (by decide +kernel) (by decide +kernel)
set_option maxRecDepth 20000 in
theorem gX7_team_X1_workOf : GoodIn wsX7_team (wsV RX7 197 RX1 yX1_workOf wsX1_workOf) := goodIn_app (goodIn_of _ (by decide +kernel)) ggX7_team_X1_workOf
theorem dX7_team_0 : decode cX7_team 0 = .ok (.iload_n 2, 1) := by decide +kernel
theorem dX7_team_1 : decode cX7_team 1 = .ok (.ifCond .eq 10, 3) := by decide +kernel
theorem dX7_team_4 : decode cX7_team 4 = .ok (.iload_n 2, 1) := by decide +kernel
theorem dX7_team_5 : decode cX7_team 5 = .ok (.iconst 1, 1) := by decide +kernel
theorem dX7_team_6 : decode cX7_team 6 = .ok (.if_icmp .eq 5, 3) := by decide +kernel
theorem dX7_team_9 : decode cX7_team 9 = .ok (.iconst (-1), 1) := by decide +kernel
theorem dX7_team_10 : decode cX7_team 10 = .ok (.ireturn, 1) := by decide +kernel
theorem dX7_team_11 : decode cX7_team 11 = .ok (.iload_n 1, 1) := by decide +kernel
theorem dX7_team_12 : decode cX7_team 12 = .ok (.iconst 1, 1) := by decide +kernel
theorem dX7_team_13 : decode cX7_team 13 = .ok (.if_icmp .lt 9, 3) := by decide +kernel
theorem dX7_team_16 : decode cX7_team 16 = .ok (.iload_n 1, 1) := by decide +kernel
theorem dX7_team_17 : decode cX7_team 17 = .ok (.bipush 6, 2) := by decide +kernel
theorem dX7_team_19 : decode cX7_team 19 = .ok (.if_icmp .le 6, 3) := by decide +kernel
theorem dX7_team_22 : decode cX7_team 22 = .ok (.bipush (-2), 2) := by decide +kernel
theorem dX7_team_24 : decode cX7_team 24 = .ok (.ireturn, 1) := by decide +kernel
theorem dX7_team_25 : decode cX7_team 25 = .ok (.iload_n 1, 1) := by decide +kernel
theorem dX7_team_26 : decode cX7_team 26 = .ok (.aload_n 0, 1) := by decide +kernel
theorem dX7_team_27 : decode cX7_team 27 = .ok (.getfield 12, 3) := by decide +kernel
theorem dX7_team_30 : decode cX7_team 30 = .ok (.getfield 74, 3) := by decide +kernel
theorem dX7_team_33 : decode cX7_team 33 = .ok (.getfield 78, 3) := by decide +kernel
theorem dX7_team_36 : decode cX7_team 36 = .ok (.if_icmp .le 6, 3) := by decide +kernel
theorem dX7_team_39 : decode cX7_team 39 = .ok (.bipush (-5), 2) := by decide +kernel
theorem dX7_team_41 : decode cX7_team 41 = .ok (.ireturn, 1) := by decide +kernel
theorem dX7_team_42 : decode cX7_team 42 = .ok (.iconst (-1), 1) := by decide +kernel
theorem dX7_team_43 : decode cX7_team 43 = .ok (.istore_n 3, 1) := by decide +kernel
theorem dX7_team_44 : decode cX7_team 44 = .ok (.iconst 0, 1) := by decide +kernel
theorem dX7_team_45 : decode cX7_team 45 = .ok (.istore 4, 2) := by decide +kernel
theorem dX7_team_47 : decode cX7_team 47 = .ok (.iconst 0, 1) := by decide +kernel
theorem dX7_team_48 : decode cX7_team 48 = .ok (.istore 5, 2) := by decide +kernel
theorem dX7_team_50 : decode cX7_team 50 = .ok (.iload 5, 2) := by decide +kernel
theorem dX7_team_52 : decode cX7_team 52 = .ok (.iconst 1, 1) := by decide +kernel
theorem dX7_team_53 : decode cX7_team 53 = .ok (.aload_n 0, 1) := by decide +kernel
theorem dX7_team_54 : decode cX7_team 54 = .ok (.getfield 12, 3) := by decide +kernel
theorem dX7_team_57 : decode cX7_team 57 = .ok (.getfield 74, 3) := by decide +kernel
theorem dX7_team_60 : decode cX7_team 60 = .ok (.getfield 78, 3) := by decide +kernel
theorem dX7_team_63 : decode cX7_team 63 = .ok (.ishl, 1) := by decide +kernel
theorem dX7_team_64 : decode cX7_team 64 = .ok (.if_icmp .ge 51, 3) := by decide +kernel
theorem dX7_team_67 : decode cX7_team 67 = .ok (.iload 5, 2) := by decide +kernel
theorem dX7_team_69 : decode cX7_team 69 = .ok (.invokestatic 201, 3) := by decide +kernel
theorem dX7_team_72 : decode cX7_team 72 = .ok (.iload_n 1, 1) := by decide +kernel
theorem dX7_team_73 : decode cX7_team 73 = .ok (.if_icmp .eq 6, 3) := by decide +kernel
theorem dX7_team_76 : decode cX7_team 76 = .ok (.goto 33, 3) := by decide +kernel
theorem dX7_team_79 : decode cX7_team 79 = .ok (.aload_n 0, 1) := by decide +kernel
theorem dX7_team_80 : decode cX7_team 80 = .ok (.getfield 28, 3) := by decide +kernel
theorem dX7_team_83 : decode cX7_team 83 = .ok (.aload_n 0, 1) := by decide +kernel
theorem dX7_team_84 : decode cX7_team 84 = .ok (.getfield 12, 3) := by decide +kernel
theorem dX7_team_87 : decode cX7_team 87 = .ok (.iload 5, 2) := by decide +kernel
theorem dX7_team_89 : decode cX7_team 89 = .ok (.bipush 10, 2) := by decide +kernel
theorem dX7_team_91 : decode cX7_team 91 = .ok (.invokevirtual 197, 3) := by decide +kernel
theorem dX7_team_94 : decode cX7_team 94 = .ok (.istore 6, 2) := by decide +kernel
theorem dX7_team_96 : decode cX7_team 96 = .ok (.iload 6, 2) := by decide +kernel
theorem dX7_team_98 : decode cX7_team 98 = .ok (.iload_n 3, 1) := by decide +kernel
theorem dX7_team_99 : decode cX7_team 99 = .ok (.if_icmp .le 10, 3) := by decide +kernel
theorem dX7_team_102 : decode cX7_team 102 = .ok (.iload 6, 2) := by decide +kernel
theorem dX7_team_104 : decode cX7_team 104 = .ok (.istore_n 3, 1) := by decide +kernel
theorem dX7_team_105 : decode cX7_team 105 = .ok (.iload 5, 2) := by decide +kernel
theorem dX7_team_107 : decode cX7_team 107 = .ok (.istore 4, 2) := by decide +kernel
theorem dX7_team_109 : decode cX7_team 109 = .ok (.iinc 5 1, 3) := by decide +kernel
theorem dX7_team_112 : decode cX7_team 112 = .ok (.goto (-62), 3) := by decide +kernel
theorem dX7_team_115 : decode cX7_team 115 = .ok (.iload_n 2, 1) := by decide +kernel
theorem dX7_team_116 : decode cX7_team 116 = .ok (.ifCond .ne 8, 3) := by decide +kernel
theorem dX7_team_119 : decode cX7_team 119 = .ok (.iload 4, 2) := by decide +kernel
theorem dX7_team_121 : decode cX7_team 121 = .ok (.goto 4, 3) := by decide +kernel
theorem dX7_team_124 : decode cX7_team 124 = .ok (.iload_n 3, 1) := by decide +kernel
theorem dX7_team_125 : decode cX7_team 125 = .ok (.ireturn, 1) := by decide +kernel
set_option maxRecDepth 20000 in
theorem ggX7_split_X1_workOf : GoodIn wsX7_split wsX1_workOf := goodIn_r _ [11, 12, 13, 14, 15, 16, 10, 17, 18, 19, 20, 21, 22, 23, 24, 25, 26, 27, 28, 29, 30, 31, 32, 33, 34, 35, 36, 37, 38, 39, 40, 41, 42, 43, 44, 45, 46, 47, 48, 49, 50, 51, 52, 5, 53, 54, 55, 56, 57, 58, 59, 60, 61, 62, 63, 64, 65, 66, 67, 68, 69, 70, 71, 72, 73, 74, 75, 76, 77, 78, 79, 80, 81, 82, 83, 84, 85, 86, 87, 88, 89, 90, 91, 92, 93, 94, 95, 96, 97, 98, 124, 125, 126, 113, 114, 115, 116, 117, 118, 119, 120, 121, 122, 123, 104, 105, 106, 107, 108, 109, 110, 111, 112, 127, 128, 129, 130, 131, 132, 133] (by decide +kernel) (by decide +kernel)
set_option maxRecDepth 20000 in
theorem gX7_split_X1_workOf : GoodIn wsX7_split (wsV RX7 197 RX1 yX1_workOf wsX1_workOf) := goodIn_app (goodIn_of _ (by decide +kernel)) ggX7_split_X1_workOf
theorem dX7_split_0 : decode cX7_split 0 = .ok (.iload_n 1, 1) := by decide +kernel
theorem dX7_split_1 : decode cX7_split 1 = .ok (.ifCond .eq 10, 3) := by decide +kernel
theorem dX7_split_4 : decode cX7_split 4 = .ok (.iload_n 1, 1) := by decide +kernel
theorem dX7_split_5 : decode cX7_split 5 = .ok (.iconst 1, 1) := by decide +kernel
theorem dX7_split_6 : decode cX7_split 6 = .ok (.if_icmp .eq 5, 3) := by decide +kernel
theorem dX7_split_9 : decode cX7_split 9 = .ok (.iconst (-1), 1) := by decide +kernel
theorem dX7_split_10 : decode cX7_split 10 = .ok (.ireturn, 1) := by decide +kernel
theorem dX7_split_11 : decode cX7_split 11 = .ok (.aload_n 0, 1) := by decide +kernel
theorem dX7_split_12 : decode cX7_split 12 = .ok (.getfield 12, 3) := by decide +kernel
theorem dX7_split_15 : decode cX7_split 15 = .ok (.getfield 74, 3) := by decide +kernel
theorem dX7_split_18 : decode cX7_split 18 = .ok (.getfield 78, 3) := by decide +kernel
theorem dX7_split_21 : decode cX7_split 21 = .ok (.iconst 2, 1) := by decide +kernel
theorem dX7_split_22 : decode cX7_split 22 = .ok (.if_icmp .ge 6, 3) := by decide +kernel
theorem dX7_split_25 : decode cX7_split 25 = .ok (.bipush (-5), 2) := by decide +kernel
theorem dX7_split_27 : decode cX7_split 27 = .ok (.ireturn, 1) := by decide +kernel
theorem dX7_split_28 : decode cX7_split 28 = .ok (.iconst 1, 1) := by decide +kernel
theorem dX7_split_29 : decode cX7_split 29 = .ok (.aload_n 0, 1) := by decide +kernel
theorem dX7_split_30 : decode cX7_split 30 = .ok (.getfield 12, 3) := by decide +kernel
theorem dX7_split_33 : decode cX7_split 33 = .ok (.getfield 74, 3) := by decide +kernel
theorem dX7_split_36 : decode cX7_split 36 = .ok (.getfield 78, 3) := by decide +kernel
theorem dX7_split_39 : decode cX7_split 39 = .ok (.ishl, 1) := by decide +kernel
theorem dX7_split_40 : decode cX7_split 40 = .ok (.iconst 1, 1) := by decide +kernel
theorem dX7_split_41 : decode cX7_split 41 = .ok (.isub, 1) := by decide +kernel
theorem dX7_split_42 : decode cX7_split 42 = .ok (.istore_n 2, 1) := by decide +kernel
theorem dX7_split_43 : decode cX7_split 43 = .ok (.iconst 0, 1) := by decide +kernel
theorem dX7_split_44 : decode cX7_split 44 = .ok (.istore_n 3, 1) := by decide +kernel
theorem dX7_split_45 : decode cX7_split 45 = .ok (.iconst 0, 1) := by decide +kernel
theorem dX7_split_46 : decode cX7_split 46 = .ok (.istore 4, 2) := by decide +kernel
theorem dX7_split_48 : decode cX7_split 48 = .ok (.iconst 1, 1) := by decide +kernel
theorem dX7_split_49 : decode cX7_split 49 = .ok (.istore 5, 2) := by decide +kernel
theorem dX7_split_51 : decode cX7_split 51 = .ok (.iload 5, 2) := by decide +kernel
theorem dX7_split_53 : decode cX7_split 53 = .ok (.iload_n 2, 1) := by decide +kernel
theorem dX7_split_54 : decode cX7_split 54 = .ok (.if_icmp .ge 65, 3) := by decide +kernel
theorem dX7_split_57 : decode cX7_split 57 = .ok (.aload_n 0, 1) := by decide +kernel
theorem dX7_split_58 : decode cX7_split 58 = .ok (.getfield 28, 3) := by decide +kernel
theorem dX7_split_61 : decode cX7_split 61 = .ok (.aload_n 0, 1) := by decide +kernel
theorem dX7_split_62 : decode cX7_split 62 = .ok (.getfield 12, 3) := by decide +kernel
theorem dX7_split_65 : decode cX7_split 65 = .ok (.iload 5, 2) := by decide +kernel
theorem dX7_split_67 : decode cX7_split 67 = .ok (.bipush 10, 2) := by decide +kernel
theorem dX7_split_69 : decode cX7_split 69 = .ok (.invokevirtual 197, 3) := by decide +kernel
theorem dX7_split_72 : decode cX7_split 72 = .ok (.aload_n 0, 1) := by decide +kernel
theorem dX7_split_73 : decode cX7_split 73 = .ok (.getfield 28, 3) := by decide +kernel
theorem dX7_split_76 : decode cX7_split 76 = .ok (.aload_n 0, 1) := by decide +kernel
theorem dX7_split_77 : decode cX7_split 77 = .ok (.getfield 12, 3) := by decide +kernel
theorem dX7_split_80 : decode cX7_split 80 = .ok (.iload_n 2, 1) := by decide +kernel
theorem dX7_split_81 : decode cX7_split 81 = .ok (.iload 5, 2) := by decide +kernel
theorem dX7_split_83 : decode cX7_split 83 = .ok (.isub, 1) := by decide +kernel
theorem dX7_split_84 : decode cX7_split 84 = .ok (.bipush 10, 2) := by decide +kernel
theorem dX7_split_86 : decode cX7_split 86 = .ok (.invokevirtual 197, 3) := by decide +kernel
theorem dX7_split_89 : decode cX7_split 89 = .ok (.isub, 1) := by decide +kernel
theorem dX7_split_90 : decode cX7_split 90 = .ok (.invokestatic 206, 3) := by decide +kernel
theorem dX7_split_93 : decode cX7_split 93 = .ok (.istore 6, 2) := by decide +kernel
theorem dX7_split_95 : decode cX7_split 95 = .ok (.iload 4, 2) := by decide +kernel
theorem dX7_split_97 : decode cX7_split 97 = .ok (.ifCond .eq 9, 3) := by decide +kernel
theorem dX7_split_100 : decode cX7_split 100 = .ok (.iload 6, 2) := by decide +kernel
theorem dX7_split_102 : decode cX7_split 102 = .ok (.iload_n 3, 1) := by decide +kernel
theorem dX7_split_103 : decode cX7_split 103 = .ok (.if_icmp .ge 10, 3) := by decide +kernel
theorem dX7_split_106 : decode cX7_split 106 = .ok (.iload 6, 2) := by decide +kernel
theorem dX7_split_108 : decode cX7_split 108 = .ok (.istore_n 3, 1) := by decide +kernel
theorem dX7_split_109 : decode cX7_split 109 = .ok (.iload 5, 2) := by decide +kernel
theorem dX7_split_111 : decode cX7_split 111 = .ok (.istore 4, 2) := by decide +kernel
theorem dX7_split_113 : decode cX7_split 113 = .ok (.iinc 5 2, 3) := by decide +kernel
theorem dX7_split_116 : decode cX7_split 116 = .ok (.goto (-65), 3) := by decide +kernel
theorem dX7_split_119 : decode cX7_split 119 = .ok (.iload_n 1, 1) := by decide +kernel
theorem dX7_split_120 : decode cX7_split 120 = .ok (.ifCond .ne 8, 3) := by decide +kernel
theorem dX7_split_123 : decode cX7_split 123 = .ok (.iload 4, 2) := by decide +kernel
theorem dX7_split_125 : decode cX7_split 125 = .ok (.goto 4, 3) := by decide +kernel
theorem dX7_split_128 : decode cX7_split 128 = .ok (.iload_n 3, 1) := by decide +kernel
theorem dX7_split_129 : decode cX7_split 129 = .ok (.ireturn, 1) := by decide +kernel
set_option maxRecDepth 20000 in
theorem ggX7_part_X7_isPupil : GoodIn wsX7_part wsX7_isPupil := goodIn_r _ [9, 2, 119, 120, 121, 122, 123, 124, 125, 126, 127, 128, 129, 130, 131, 132, 133, 134, 135, 136, 137, 138, 139, 140, 141, 142, 143] (by decide +kernel) (by decide +kernel)
set_option maxRecDepth 20000 in
theorem gX7_part_X7_isPupil : GoodIn wsX7_part (wsV RX7 87 RX7 yX7_isPupil wsX7_isPupil) := goodIn_app (goodIn_of _ (by decide +kernel)) ggX7_part_X7_isPupil
set_option maxRecDepth 20000 in
theorem ggX7_part_X7_isPart : GoodIn wsX7_part wsX7_isPart := goodIn_r _ [12] (by decide +kernel) (by decide +kernel)
set_option maxRecDepth 20000 in
theorem gX7_part_X7_isPart : GoodIn wsX7_part (va_wsS RX7 211 yX7_isPart wsX7_isPart) := goodIn_app (goodIn_of _ (by decide +kernel)) ggX7_part_X7_isPart
set_option maxRecDepth 20000 in
theorem ggX7_part_J6_bitCount_0f7a4 : GoodIn wsX7_part wsJ6_bitCount_0f7a4 := goodIn_r _ [16, 17, 18, 19] (by decide +kernel) (by decide +kernel)
set_option maxRecDepth 20000 in
theorem gX7_part_J6_bitCount_0f7a4 : GoodIn wsX7_part (va_wsS RX7 201 yJ6_bitCount_0f7a4 wsJ6_bitCount_0f7a4) := goodIn_app (goodIn_of _ (by decide +kernel)) ggX7_part_J6_bitCount_0f7a4
set_option maxRecDepth 20000 in
theorem ggX7_part_X1_workOf : GoodIn wsX7_part wsX1_workOf := goodIn_r _ [24, 25, 26, 27, 28, 29, 23, 30, 31, 32, 33, 34, 35, 36, 37, 38, 39, 40, 41, 42, 43, 44, 45, 46, 47, 48, 49, 50, 51, 52, 53, 54, 55, 56, 57, 58, 59, 60, 61, 62, 63, 64, 65, 66, 67, 68, 69, 70, 71, 72, 73, 74, 75, 76, 77, 78, 79, 80, 81, 82, 83, 84, 85, 86, 87, 88, 89, 90, 91, 92, 93, 94, 95, 96, 97, 98, 99, 100, 101, 102, 103, 104, 105, 106, 107, 108, 109, 110, 111, 112, 144, 145, 146, 133, 134, 135, 136, 137, 138, 139, 140, 141, 142, 143, 124, 125, 126, 127, 128, 129, 130, 131, 132, 147, 148, 149, 150, 151, 152, 153] (by decide +kernel) (by decide +kernel)
set_option maxRecDepth 20000 in
theorem gX7_part_X1_workOf : GoodIn wsX7_part (wsV RX7 197 RX1 yX1_workOf wsX1_workOf) := goodIn_app (goodIn_of _ (by decide +kernel)) ggX7_part_X1_workOf
set_option maxRecDepth 20000 in
theorem ggX7_part_X7_inLowestTerms : GoodIn wsX7_part wsX7_inLowestTerms := goodIn_r _ [115, 116, 117, 66, 118, 1] (by decide +kernel) (by decide +kernel)
set_option maxRecDepth 20000 in
theorem gX7_part_X7_inLowestTerms : GoodIn wsX7_part (va_wsS RX7 219 yX7_inLowestTerms wsX7_inLowestTerms) := goodIn_app (goodIn_of _ (by decide +kernel)) ggX7_part_X7_inLowestTerms
theorem dX7_part_0 : decode cX7_part 0 = .ok (.aload_n 0, 1) := by decide +kernel
theorem dX7_part_1 : decode cX7_part 1 = .ok (.iload_n 1, 1) := by decide +kernel
theorem dX7_part_2 : decode cX7_part 2 = .ok (.invokevirtual 87, 3) := by decide +kernel
theorem dX7_part_5 : decode cX7_part 5 = .ok (.ifCond .eq 10, 3) := by decide +kernel
theorem dX7_part_8 : decode cX7_part 8 = .ok (.iload_n 2, 1) := by decide +kernel
theorem dX7_part_9 : decode cX7_part 9 = .ok (.invokestatic 211, 3) := by decide +kernel
theorem dX7_part_12 : decode cX7_part 12 = .ok (.ifCond .ne 7, 3) := by decide +kernel
theorem dX7_part_15 : decode cX7_part 15 = .ok (.ldc2_w 214, 3) := by decide +kernel
theorem dX7_part_18 : decode cX7_part 18 = .ok (.lreturn, 1) := by decide +kernel
theorem dX7_part_19 : decode cX7_part 19 = .ok (.aload_n 0, 1) := by decide +kernel
theorem dX7_part_20 : decode cX7_part 20 = .ok (.getfield 12, 3) := by decide +kernel
theorem dX7_part_23 : decode cX7_part 23 = .ok (.getfield 74, 3) := by decide +kernel
theorem dX7_part_26 : decode cX7_part 26 = .ok (.getfield 78, 3) := by decide +kernel
theorem dX7_part_29 : decode cX7_part 29 = .ok (.istore_n 3, 1) := by decide +kernel
theorem dX7_part_30 : decode cX7_part 30 = .ok (.iload_n 3, 1) := by decide +kernel
theorem dX7_part_31 : decode cX7_part 31 = .ok (.getstatic 216, 3) := by decide +kernel
theorem dX7_part_34 : decode cX7_part 34 = .ok (.arraylength, 1) := by decide +kernel
theorem dX7_part_35 : decode cX7_part 35 = .ok (.if_icmp .lt 7, 3) := by decide +kernel
theorem dX7_part_38 : decode cX7_part 38 = .ok (.ldc2_w 214, 3) := by decide +kernel
theorem dX7_part_41 : decode cX7_part 41 = .ok (.lreturn, 1) := by decide +kernel
theorem dX7_part_42 : decode cX7_part 42 = .ok (.lconst 0, 1) := by decide +kernel
theorem dX7_part_43 : decode cX7_part 43 = .ok (.lstore 4, 2) := by decide +kernel
theorem dX7_part_45 : decode cX7_part 45 = .ok (.iconst 0, 1) := by decide +kernel
theorem dX7_part_46 : decode cX7_part 46 = .ok (.istore 6, 2) := by decide +kernel
theorem dX7_part_48 : decode cX7_part 48 = .ok (.iload 6, 2) := by decide +kernel
theorem dX7_part_50 : decode cX7_part 50 = .ok (.iconst 1, 1) := by decide +kernel
theorem dX7_part_51 : decode cX7_part 51 = .ok (.iload_n 3, 1) := by decide +kernel
theorem dX7_part_52 : decode cX7_part 52 = .ok (.ishl, 1) := by decide +kernel
theorem dX7_part_53 : decode cX7_part 53 = .ok (.if_icmp .ge 99, 3) := by decide +kernel
theorem dX7_part_56 : decode cX7_part 56 = .ok (.iload 6, 2) := by decide +kernel
theorem dX7_part_58 : decode cX7_part 58 = .ok (.iconst 1, 1) := by decide +kernel
theorem dX7_part_59 : decode cX7_part 59 = .ok (.iload_n 1, 1) := by decide +kernel
theorem dX7_part_60 : decode cX7_part 60 = .ok (.ishl, 1) := by decide +kernel
theorem dX7_part_61 : decode cX7_part 61 = .ok (.ior, 1) := by decide +kernel
theorem dX7_part_62 : decode cX7_part 62 = .ok (.istore 7, 2) := by decide +kernel
theorem dX7_part_64 : decode cX7_part 64 = .ok (.iload 6, 2) := by decide +kernel
theorem dX7_part_66 : decode cX7_part 66 = .ok (.invokestatic 201, 3) := by decide +kernel
theorem dX7_part_69 : decode cX7_part 69 = .ok (.istore 8, 2) := by decide +kernel
theorem dX7_part_71 : decode cX7_part 71 = .ok (.iload 7, 2) := by decide +kernel
theorem dX7_part_73 : decode cX7_part 73 = .ok (.iload 6, 2) := by decide +kernel
theorem dX7_part_75 : decode cX7_part 75 = .ok (.if_icmp .eq 71, 3) := by decide +kernel
theorem dX7_part_78 : decode cX7_part 78 = .ok (.iload 8, 2) := by decide +kernel
theorem dX7_part_80 : decode cX7_part 80 = .ok (.iload_n 3, 1) := by decide +kernel
theorem dX7_part_81 : decode cX7_part 81 = .ok (.if_icmp .lt 6, 3) := by decide +kernel
theorem dX7_part_84 : decode cX7_part 84 = .ok (.goto 62, 3) := by decide +kernel
theorem dX7_part_87 : decode cX7_part 87 = .ok (.getstatic 216, 3) := by decide +kernel
theorem dX7_part_90 : decode cX7_part 90 = .ok (.iload 8, 2) := by decide +kernel
theorem dX7_part_92 : decode cX7_part 92 = .ok (.iaload, 1) := by decide +kernel
theorem dX7_part_93 : decode cX7_part 93 = .ok (.i2l, 1) := by decide +kernel
theorem dX7_part_94 : decode cX7_part 94 = .ok (.getstatic 216, 3) := by decide +kernel
theorem dX7_part_97 : decode cX7_part 97 = .ok (.iload_n 3, 1) := by decide +kernel
theorem dX7_part_98 : decode cX7_part 98 = .ok (.iconst 1, 1) := by decide +kernel
theorem dX7_part_99 : decode cX7_part 99 = .ok (.isub, 1) := by decide +kernel
theorem dX7_part_100 : decode cX7_part 100 = .ok (.iload 8, 2) := by decide +kernel
theorem dX7_part_102 : decode cX7_part 102 = .ok (.isub, 1) := by decide +kernel
theorem dX7_part_103 : decode cX7_part 103 = .ok (.iaload, 1) := by decide +kernel
theorem dX7_part_104 : decode cX7_part 104 = .ok (.i2l, 1) := by decide +kernel
theorem dX7_part_105 : decode cX7_part 105 = .ok (.lmul, 1) := by decide +kernel
theorem dX7_part_106 : decode cX7_part 106 = .ok (.lstore 9, 2) := by decide +kernel
theorem dX7_part_108 : decode cX7_part 108 = .ok (.lload 4, 2) := by decide +kernel
theorem dX7_part_110 : decode cX7_part 110 = .ok (.lload 9, 2) := by decide +kernel
theorem dX7_part_112 : decode cX7_part 112 = .ok (.aload_n 0, 1) := by decide +kernel
theorem dX7_part_113 : decode cX7_part 113 = .ok (.getfield 28, 3) := by decide +kernel
theorem dX7_part_116 : decode cX7_part 116 = .ok (.aload_n 0, 1) := by decide +kernel
theorem dX7_part_117 : decode cX7_part 117 = .ok (.getfield 12, 3) := by decide +kernel
theorem dX7_part_120 : decode cX7_part 120 = .ok (.iload 7, 2) := by decide +kernel
theorem dX7_part_122 : decode cX7_part 122 = .ok (.iconst 5, 1) := by decide +kernel
theorem dX7_part_123 : decode cX7_part 123 = .ok (.invokevirtual 197, 3) := by decide +kernel
theorem dX7_part_126 : decode cX7_part 126 = .ok (.aload_n 0, 1) := by decide +kernel
theorem dX7_part_127 : decode cX7_part 127 = .ok (.getfield 28, 3) := by decide +kernel
theorem dX7_part_130 : decode cX7_part 130 = .ok (.aload_n 0, 1) := by decide +kernel
theorem dX7_part_131 : decode cX7_part 131 = .ok (.getfield 12, 3) := by decide +kernel
theorem dX7_part_134 : decode cX7_part 134 = .ok (.iload 6, 2) := by decide +kernel
theorem dX7_part_136 : decode cX7_part 136 = .ok (.iconst 5, 1) := by decide +kernel
theorem dX7_part_137 : decode cX7_part 137 = .ok (.invokevirtual 197, 3) := by decide +kernel
theorem dX7_part_140 : decode cX7_part 140 = .ok (.isub, 1) := by decide +kernel
theorem dX7_part_141 : decode cX7_part 141 = .ok (.i2l, 1) := by decide +kernel
theorem dX7_part_142 : decode cX7_part 142 = .ok (.lmul, 1) := by decide +kernel
theorem dX7_part_143 : decode cX7_part 143 = .ok (.ladd, 1) := by decide +kernel
theorem dX7_part_144 : decode cX7_part 144 = .ok (.lstore 4, 2) := by decide +kernel
theorem dX7_part_146 : decode cX7_part 146 = .ok (.iinc 6 1, 3) := by decide +kernel
theorem dX7_part_149 : decode cX7_part 149 = .ok (.goto (-101), 3) := by decide +kernel
theorem dX7_part_152 : decode cX7_part 152 = .ok (.lload 4, 2) := by decide +kernel
theorem dX7_part_154 : decode cX7_part 154 = .ok (.getstatic 216, 3) := by decide +kernel
theorem dX7_part_157 : decode cX7_part 157 = .ok (.iload_n 3, 1) := by decide +kernel
theorem dX7_part_158 : decode cX7_part 158 = .ok (.iaload, 1) := by decide +kernel
theorem dX7_part_159 : decode cX7_part 159 = .ok (.i2l, 1) := by decide +kernel
theorem dX7_part_160 : decode cX7_part 160 = .ok (.iload_n 2, 1) := by decide +kernel
theorem dX7_part_161 : decode cX7_part 161 = .ok (.invokestatic 219, 3) := by decide +kernel
theorem dX7_part_164 : decode cX7_part 164 = .ok (.lreturn, 1) := by decide +kernel
set_option maxRecDepth 20000 in
theorem ggX7_see_X6_clear : GoodIn wsX7_see wsX6_clear := goodIn_r _ [7, 8, 34, 35, 36] (by decide +kernel) (by decide +kernel)
set_option maxRecDepth 20000 in
theorem gX7_see_X6_clear : GoodIn wsX7_see (wsV RX7 227 RX6 yX6_clear wsX6_clear) := goodIn_app (goodIn_of _ (by decide +kernel)) ggX7_see_X6_clear
set_option maxRecDepth 20000 in
theorem ggX7_see_X6_isFull : GoodIn wsX7_see wsX6_isFull := goodIn_r _ [12, 8, 13, 14, 34, 35, 36] (by decide +kernel) (by decide +kernel)
set_option maxRecDepth 20000 in
theorem gX7_see_X6_isFull : GoodIn wsX7_see (wsV RX7 233 RX6 yX6_isFull wsX6_isFull) := goodIn_app (goodIn_of _ (by decide +kernel)) ggX7_see_X6_isFull
set_option maxRecDepth 20000 in
theorem ggX7_see_X6_add : GoodIn wsX7_see wsX6_add := goodIn_r _ [18, 13, 8, 14, 19, 10, 11, 6, 12, 34, 35, 36] (by decide +kernel) (by decide +kernel)
set_option maxRecDepth 20000 in
theorem gX7_see_X6_add : GoodIn wsX7_see (wsV RX7 236 RX6 yX6_add wsX6_add) := goodIn_app (goodIn_of _ (by decide +kernel)) ggX7_see_X6_add
theorem dX7_see_0 : decode cX7_see 0 = .ok (.iload_n 1, 1) := by decide +kernel
theorem dX7_see_1 : decode cX7_see 1 = .ok (.iconst (-1), 1) := by decide +kernel
theorem dX7_see_2 : decode cX7_see 2 = .ok (.if_icmp .ne 14, 3) := by decide +kernel
theorem dX7_see_5 : decode cX7_see 5 = .ok (.aload_n 0, 1) := by decide +kernel
theorem dX7_see_6 : decode cX7_see 6 = .ok (.getfield 12, 3) := by decide +kernel
theorem dX7_see_9 : decode cX7_see 9 = .ok (.getfield 223, 3) := by decide +kernel
theorem dX7_see_12 : decode cX7_see 12 = .ok (.invokevirtual 227, 3) := by decide +kernel
theorem dX7_see_15 : decode cX7_see 15 = .ok (.ireturn, 1) := by decide +kernel
theorem dX7_see_16 : decode cX7_see 16 = .ok (.iload_n 1, 1) := by decide +kernel
theorem dX7_see_17 : decode cX7_see 17 = .ok (.ifCond .lt 19, 3) := by decide +kernel
theorem dX7_see_20 : decode cX7_see 20 = .ok (.iload_n 1, 1) := by decide +kernel
theorem dX7_see_21 : decode cX7_see 21 = .ok (.ldc 232, 2) := by decide +kernel
theorem dX7_see_23 : decode cX7_see 23 = .ok (.if_icmp .gt 13, 3) := by decide +kernel
theorem dX7_see_26 : decode cX7_see 26 = .ok (.iload_n 2, 1) := by decide +kernel
theorem dX7_see_27 : decode cX7_see 27 = .ok (.ifCond .lt 9, 3) := by decide +kernel
theorem dX7_see_30 : decode cX7_see 30 = .ok (.iload_n 2, 1) := by decide +kernel
theorem dX7_see_31 : decode cX7_see 31 = .ok (.bipush 20, 2) := by decide +kernel
theorem dX7_see_33 : decode cX7_see 33 = .ok (.if_icmp .le 6, 3) := by decide +kernel
theorem dX7_see_36 : decode cX7_see 36 = .ok (.bipush (-2), 2) := by decide +kernel
theorem dX7_see_38 : decode cX7_see 38 = .ok (.ireturn, 1) := by decide +kernel
theorem dX7_see_39 : decode cX7_see 39 = .ok (.aload_n 0, 1) := by decide +kernel
theorem dX7_see_40 : decode cX7_see 40 = .ok (.getfield 12, 3) := by decide +kernel
theorem dX7_see_43 : decode cX7_see 43 = .ok (.getfield 223, 3) := by decide +kernel
theorem dX7_see_46 : decode cX7_see 46 = .ok (.invokevirtual 233, 3) := by decide +kernel
theorem dX7_see_49 : decode cX7_see 49 = .ok (.ifCond .eq 6, 3) := by decide +kernel
theorem dX7_see_52 : decode cX7_see 52 = .ok (.bipush (-4), 2) := by decide +kernel
theorem dX7_see_54 : decode cX7_see 54 = .ok (.ireturn, 1) := by decide +kernel
theorem dX7_see_55 : decode cX7_see 55 = .ok (.aload_n 0, 1) := by decide +kernel
theorem dX7_see_56 : decode cX7_see 56 = .ok (.getfield 12, 3) := by decide +kernel
theorem dX7_see_59 : decode cX7_see 59 = .ok (.getfield 223, 3) := by decide +kernel
theorem dX7_see_62 : decode cX7_see 62 = .ok (.iload_n 1, 1) := by decide +kernel
theorem dX7_see_63 : decode cX7_see 63 = .ok (.iload_n 2, 1) := by decide +kernel
theorem dX7_see_64 : decode cX7_see 64 = .ok (.invokevirtual 236, 3) := by decide +kernel
theorem dX7_see_67 : decode cX7_see 67 = .ok (.ireturn, 1) := by decide +kernel
set_option maxRecDepth 20000 in
theorem ggX7_skilled_X7_isPupil : GoodIn wsX7_skilled wsX7_isPupil := goodIn_r _ [7, 2, 111, 112, 113, 114, 115, 130, 131, 132, 133, 134, 135, 136, 137, 138, 119, 120, 121, 122, 123, 124, 125, 126, 127, 128, 129] (by decide +kernel) (by decide +kernel)
set_option maxRecDepth 20000 in
theorem gX7_skilled_X7_isPupil : GoodIn wsX7_skilled (wsV RX7 87 RX7 yX7_isPupil wsX7_isPupil) := goodIn_app (goodIn_of _ (by decide +kernel)) ggX7_skilled_X7_isPupil
set_option maxRecDepth 20000 in
theorem ggX7_skilled_X1_begin : GoodIn wsX7_skilled wsX1_begin := goodIn_r _ [12, 13, 14, 15, 16, 17, 18, 19, 20, 21, 22, 23, 24, 25, 26, 27, 28, 29, 30, 31, 32, 33, 34, 35, 36, 37, 38, 39, 40, 41, 42, 116, 117, 118, 130, 131, 132, 133, 134, 135, 136, 137, 138, 119, 120, 121, 122, 123, 124, 125, 126, 127, 128, 129] (by decide +kernel) (by decide +kernel)
set_option maxRecDepth 20000 in
theorem gX7_skilled_X1_begin : GoodIn wsX7_skilled (wsV RX7 166 RX1 yX1_begin wsX1_begin) := goodIn_app (goodIn_of _ (by decide +kernel)) ggX7_skilled_X1_begin
set_option maxRecDepth 20000 in
theorem ggX7_skilled_X1_meets : GoodIn wsX7_skilled wsX1_meets := goodIn_r _ [46, 14, 15, 47, 48, 49, 11, 50, 13, 51, 52, 53, 19, 54, 21, 55, 28, 23, 26, 56, 57, 58, 59, 60, 22, 61, 62, 63, 64, 29, 24, 25, 27, 65, 66, 67, 68, 69, 70, 71, 72, 73, 74, 75, 76, 77, 78, 79, 80, 81, 82, 83, 84, 85, 86, 87, 88, 89, 90, 91, 92, 93, 94, 95, 96, 30, 97, 98, 99, 100, 139, 140, 141, 116, 117, 118, 119, 120, 121, 122, 123, 124, 125, 126, 127, 128, 129, 142, 143, 144, 145, 146, 147, 148] (by decide +kernel) (by decide +kernel)
set_option maxRecDepth 20000 in
theorem gX7_skilled_X1_meets : GoodIn wsX7_skilled (wsV RX7 238 RX1 yX1_meets wsX1_meets) := goodIn_app (goodIn_of _ (by decide +kernel)) ggX7_skilled_X1_meets
set_option maxRecDepth 20000 in
theorem ggX7_skilled_J6_bitCount_0f7a4 : GoodIn wsX7_skilled wsJ6_bitCount_0f7a4 := goodIn_r _ [104, 105, 106, 107] (by decide +kernel) (by decide +kernel)
set_option maxRecDepth 20000 in
theorem gX7_skilled_J6_bitCount_0f7a4 : GoodIn wsX7_skilled (va_wsS RX7 201 yJ6_bitCount_0f7a4 wsJ6_bitCount_0f7a4) := goodIn_app (goodIn_of _ (by decide +kernel)) ggX7_skilled_J6_bitCount_0f7a4
set_option maxRecDepth 20000 in
theorem ggX7_skilled_X7_leastOf : GoodIn wsX7_skilled wsX7_leastOf := goodIn_r _ [110] (by decide +kernel) (by decide +kernel)
set_option maxRecDepth 20000 in
theorem gX7_skilled_X7_leastOf : GoodIn wsX7_skilled (va_wsS RX7 242 yX7_leastOf wsX7_leastOf) := goodIn_app (goodIn_of _ (by decide +kernel)) ggX7_skilled_X7_leastOf
theorem dX7_skilled_0 : decode cX7_skilled 0 = .ok (.aload_n 0, 1) := by decide +kernel
theorem dX7_skilled_1 : decode cX7_skilled 1 = .ok (.iload_n 1, 1) := by decide +kernel
theorem dX7_skilled_2 : decode cX7_skilled 2 = .ok (.invokevirtual 87, 3) := by decide +kernel
theorem dX7_skilled_5 : decode cX7_skilled 5 = .ok (.ifCond .eq 12, 3) := by decide +kernel
theorem dX7_skilled_8 : decode cX7_skilled 8 = .ok (.iload_n 2, 1) := by decide +kernel
theorem dX7_skilled_9 : decode cX7_skilled 9 = .ok (.ifCond .eq 10, 3) := by decide +kernel
theorem dX7_skilled_12 : decode cX7_skilled 12 = .ok (.iload_n 2, 1) := by decide +kernel
theorem dX7_skilled_13 : decode cX7_skilled 13 = .ok (.iconst 1, 1) := by decide +kernel
theorem dX7_skilled_14 : decode cX7_skilled 14 = .ok (.if_icmp .eq 5, 3) := by decide +kernel
theorem dX7_skilled_17 : decode cX7_skilled 17 = .ok (.iconst (-1), 1) := by decide +kernel
theorem dX7_skilled_18 : decode cX7_skilled 18 = .ok (.ireturn, 1) := by decide +kernel
theorem dX7_skilled_19 : decode cX7_skilled 19 = .ok (.iconst 0, 1) := by decide +kernel
theorem dX7_skilled_20 : decode cX7_skilled 20 = .ok (.istore_n 3, 1) := by decide +kernel
theorem dX7_skilled_21 : decode cX7_skilled 21 = .ok (.iconst 1, 1) := by decide +kernel
theorem dX7_skilled_22 : decode cX7_skilled 22 = .ok (.istore 4, 2) := by decide +kernel
theorem dX7_skilled_24 : decode cX7_skilled 24 = .ok (.iload 4, 2) := by decide +kernel
theorem dX7_skilled_26 : decode cX7_skilled 26 = .ok (.bipush 9, 2) := by decide +kernel
theorem dX7_skilled_28 : decode cX7_skilled 28 = .ok (.if_icmp .gt 58, 3) := by decide +kernel
theorem dX7_skilled_31 : decode cX7_skilled 31 = .ok (.aload_n 0, 1) := by decide +kernel
theorem dX7_skilled_32 : decode cX7_skilled 32 = .ok (.getfield 28, 3) := by decide +kernel
theorem dX7_skilled_35 : decode cX7_skilled 35 = .ok (.aload_n 0, 1) := by decide +kernel
theorem dX7_skilled_36 : decode cX7_skilled 36 = .ok (.getfield 12, 3) := by decide +kernel
theorem dX7_skilled_39 : decode cX7_skilled 39 = .ok (.invokevirtual 166, 3) := by decide +kernel
theorem dX7_skilled_42 : decode cX7_skilled 42 = .ok (.aload_n 0, 1) := by decide +kernel
theorem dX7_skilled_43 : decode cX7_skilled 43 = .ok (.getfield 28, 3) := by decide +kernel
theorem dX7_skilled_46 : decode cX7_skilled 46 = .ok (.getfield 177, 3) := by decide +kernel
theorem dX7_skilled_49 : decode cX7_skilled 49 = .ok (.getfield 97, 3) := by decide +kernel
theorem dX7_skilled_52 : decode cX7_skilled 52 = .ok (.iload_n 1, 1) := by decide +kernel
theorem dX7_skilled_53 : decode cX7_skilled 53 = .ok (.iload 4, 2) := by decide +kernel
theorem dX7_skilled_55 : decode cX7_skilled 55 = .ok (.iastore, 1) := by decide +kernel
theorem dX7_skilled_56 : decode cX7_skilled 56 = .ok (.aload_n 0, 1) := by decide +kernel
theorem dX7_skilled_57 : decode cX7_skilled 57 = .ok (.getfield 28, 3) := by decide +kernel
theorem dX7_skilled_60 : decode cX7_skilled 60 = .ok (.aload_n 0, 1) := by decide +kernel
theorem dX7_skilled_61 : decode cX7_skilled 61 = .ok (.getfield 12, 3) := by decide +kernel
theorem dX7_skilled_64 : decode cX7_skilled 64 = .ok (.getfield 223, 3) := by decide +kernel
theorem dX7_skilled_67 : decode cX7_skilled 67 = .ok (.invokevirtual 238, 3) := by decide +kernel
theorem dX7_skilled_70 : decode cX7_skilled 70 = .ok (.ifCond .eq 10, 3) := by decide +kernel
theorem dX7_skilled_73 : decode cX7_skilled 73 = .ok (.iload_n 3, 1) := by decide +kernel
theorem dX7_skilled_74 : decode cX7_skilled 74 = .ok (.iconst 1, 1) := by decide +kernel
theorem dX7_skilled_75 : decode cX7_skilled 75 = .ok (.iload 4, 2) := by decide +kernel
theorem dX7_skilled_77 : decode cX7_skilled 77 = .ok (.ishl, 1) := by decide +kernel
theorem dX7_skilled_78 : decode cX7_skilled 78 = .ok (.ior, 1) := by decide +kernel
theorem dX7_skilled_79 : decode cX7_skilled 79 = .ok (.istore_n 3, 1) := by decide +kernel
theorem dX7_skilled_80 : decode cX7_skilled 80 = .ok (.iinc 4 1, 3) := by decide +kernel
theorem dX7_skilled_83 : decode cX7_skilled 83 = .ok (.goto (-59), 3) := by decide +kernel
theorem dX7_skilled_86 : decode cX7_skilled 86 = .ok (.iload_n 2, 1) := by decide +kernel
theorem dX7_skilled_87 : decode cX7_skilled 87 = .ok (.ifCond .ne 10, 3) := by decide +kernel
theorem dX7_skilled_90 : decode cX7_skilled 90 = .ok (.iload_n 3, 1) := by decide +kernel
theorem dX7_skilled_91 : decode cX7_skilled 91 = .ok (.invokestatic 201, 3) := by decide +kernel
theorem dX7_skilled_94 : decode cX7_skilled 94 = .ok (.goto 7, 3) := by decide +kernel
theorem dX7_skilled_97 : decode cX7_skilled 97 = .ok (.iload_n 3, 1) := by decide +kernel
theorem dX7_skilled_98 : decode cX7_skilled 98 = .ok (.invokestatic 242, 3) := by decide +kernel
theorem dX7_skilled_101 : decode cX7_skilled 101 = .ok (.ireturn, 1) := by decide +kernel
set_option maxRecDepth 20000 in
theorem ggX7_firm_X7_isPupil : GoodIn wsX7_firm wsX7_isPupil := goodIn_r _ [7, 2, 111, 112, 113, 114, 115, 130, 131, 132, 133, 134, 135, 136, 137, 138, 119, 120, 121, 122, 123, 124, 125, 126, 127, 128, 129] (by decide +kernel) (by decide +kernel)
set_option maxRecDepth 20000 in
theorem gX7_firm_X7_isPupil : GoodIn wsX7_firm (wsV RX7 87 RX7 yX7_isPupil wsX7_isPupil) := goodIn_app (goodIn_of _ (by decide +kernel)) ggX7_firm_X7_isPupil
set_option maxRecDepth 20000 in
theorem ggX7_firm_X1_begin : GoodIn wsX7_firm wsX1_begin := goodIn_r _ [12, 13, 14, 15, 16, 17, 18, 19, 20, 21, 22, 23, 24, 25, 26, 27, 28, 29, 30, 31, 32, 33, 34, 35, 36, 37, 38, 39, 40, 41, 42, 116, 117, 118, 130, 131, 132, 133, 134, 135, 136, 137, 138, 119, 120, 121, 122, 123, 124, 125, 126, 127, 128, 129] (by decide +kernel) (by decide +kernel)
set_option maxRecDepth 20000 in
theorem gX7_firm_X1_begin : GoodIn wsX7_firm (wsV RX7 166 RX1 yX1_begin wsX1_begin) := goodIn_app (goodIn_of _ (by decide +kernel)) ggX7_firm_X1_begin
set_option maxRecDepth 20000 in
theorem ggX7_firm_X1_meets : GoodIn wsX7_firm wsX1_meets := goodIn_r _ [46, 14, 15, 47, 48, 49, 11, 50, 13, 51, 52, 53, 19, 54, 21, 55, 28, 23, 26, 56, 57, 58, 59, 60, 22, 61, 62, 63, 64, 29, 24, 25, 27, 65, 66, 67, 68, 69, 70, 71, 72, 73, 74, 75, 76, 77, 78, 79, 80, 81, 82, 83, 84, 85, 86, 87, 88, 89, 90, 91, 92, 93, 94, 95, 96, 30, 97, 98, 99, 100, 139, 140, 141, 116, 117, 118, 119, 120, 121, 122, 123, 124, 125, 126, 127, 128, 129, 142, 143, 144, 145, 146, 147, 148] (by decide +kernel) (by decide +kernel)
set_option maxRecDepth 20000 in
theorem gX7_firm_X1_meets : GoodIn wsX7_firm (wsV RX7 238 RX1 yX1_meets wsX1_meets) := goodIn_app (goodIn_of _ (by decide +kernel)) ggX7_firm_X1_meets
set_option maxRecDepth 20000 in
theorem ggX7_firm_J6_bitCount_0f7a4 : GoodIn wsX7_firm wsJ6_bitCount_0f7a4 := goodIn_r _ [104, 105, 106, 107] (by decide +kernel) (by decide +kernel)
set_option maxRecDepth 20000 in
theorem gX7_firm_J6_bitCount_0f7a4 : GoodIn wsX7_firm (va_wsS RX7 201 yJ6_bitCount_0f7a4 wsJ6_bitCount_0f7a4) := goodIn_app (goodIn_of _ (by decide +kernel)) ggX7_firm_J6_bitCount_0f7a4
set_option maxRecDepth 20000 in
theorem ggX7_firm_X7_leastOf : GoodIn wsX7_firm wsX7_leastOf := goodIn_r _ [110] (by decide +kernel) (by decide +kernel)
set_option maxRecDepth 20000 in
theorem gX7_firm_X7_leastOf : GoodIn wsX7_firm (va_wsS RX7 242 yX7_leastOf wsX7_leastOf) := goodIn_app (goodIn_of _ (by decide +kernel)) ggX7_firm_X7_leastOf
theorem dX7_firm_0 : decode cX7_firm 0 = .ok (.aload_n 0, 1) := by decide +kernel
theorem dX7_firm_1 : decode cX7_firm 1 = .ok (.iload_n 1, 1) := by decide +kernel
theorem dX7_firm_2 : decode cX7_firm 2 = .ok (.invokevirtual 87, 3) := by decide +kernel
theorem dX7_firm_5 : decode cX7_firm 5 = .ok (.ifCond .eq 12, 3) := by decide +kernel
theorem dX7_firm_8 : decode cX7_firm 8 = .ok (.iload_n 2, 1) := by decide +kernel
theorem dX7_firm_9 : decode cX7_firm 9 = .ok (.ifCond .eq 10, 3) := by decide +kernel
theorem dX7_firm_12 : decode cX7_firm 12 = .ok (.iload_n 2, 1) := by decide +kernel
theorem dX7_firm_13 : decode cX7_firm 13 = .ok (.iconst 1, 1) := by decide +kernel
theorem dX7_firm_14 : decode cX7_firm 14 = .ok (.if_icmp .eq 5, 3) := by decide +kernel
theorem dX7_firm_17 : decode cX7_firm 17 = .ok (.iconst (-1), 1) := by decide +kernel
theorem dX7_firm_18 : decode cX7_firm 18 = .ok (.ireturn, 1) := by decide +kernel
theorem dX7_firm_19 : decode cX7_firm 19 = .ok (.iconst 0, 1) := by decide +kernel
theorem dX7_firm_20 : decode cX7_firm 20 = .ok (.istore_n 3, 1) := by decide +kernel
theorem dX7_firm_21 : decode cX7_firm 21 = .ok (.iconst 0, 1) := by decide +kernel
theorem dX7_firm_22 : decode cX7_firm 22 = .ok (.istore 4, 2) := by decide +kernel
theorem dX7_firm_24 : decode cX7_firm 24 = .ok (.iload 4, 2) := by decide +kernel
theorem dX7_firm_26 : decode cX7_firm 26 = .ok (.bipush 9, 2) := by decide +kernel
theorem dX7_firm_28 : decode cX7_firm 28 = .ok (.if_icmp .gt 58, 3) := by decide +kernel
theorem dX7_firm_31 : decode cX7_firm 31 = .ok (.aload_n 0, 1) := by decide +kernel
theorem dX7_firm_32 : decode cX7_firm 32 = .ok (.getfield 28, 3) := by decide +kernel
theorem dX7_firm_35 : decode cX7_firm 35 = .ok (.aload_n 0, 1) := by decide +kernel
theorem dX7_firm_36 : decode cX7_firm 36 = .ok (.getfield 12, 3) := by decide +kernel
theorem dX7_firm_39 : decode cX7_firm 39 = .ok (.invokevirtual 166, 3) := by decide +kernel
theorem dX7_firm_42 : decode cX7_firm 42 = .ok (.aload_n 0, 1) := by decide +kernel
theorem dX7_firm_43 : decode cX7_firm 43 = .ok (.getfield 28, 3) := by decide +kernel
theorem dX7_firm_46 : decode cX7_firm 46 = .ok (.getfield 177, 3) := by decide +kernel
theorem dX7_firm_49 : decode cX7_firm 49 = .ok (.getfield 94, 3) := by decide +kernel
theorem dX7_firm_52 : decode cX7_firm 52 = .ok (.iload_n 1, 1) := by decide +kernel
theorem dX7_firm_53 : decode cX7_firm 53 = .ok (.iload 4, 2) := by decide +kernel
theorem dX7_firm_55 : decode cX7_firm 55 = .ok (.iastore, 1) := by decide +kernel
theorem dX7_firm_56 : decode cX7_firm 56 = .ok (.aload_n 0, 1) := by decide +kernel
theorem dX7_firm_57 : decode cX7_firm 57 = .ok (.getfield 28, 3) := by decide +kernel
theorem dX7_firm_60 : decode cX7_firm 60 = .ok (.aload_n 0, 1) := by decide +kernel
theorem dX7_firm_61 : decode cX7_firm 61 = .ok (.getfield 12, 3) := by decide +kernel
theorem dX7_firm_64 : decode cX7_firm 64 = .ok (.getfield 223, 3) := by decide +kernel
theorem dX7_firm_67 : decode cX7_firm 67 = .ok (.invokevirtual 238, 3) := by decide +kernel
theorem dX7_firm_70 : decode cX7_firm 70 = .ok (.ifCond .eq 10, 3) := by decide +kernel
theorem dX7_firm_73 : decode cX7_firm 73 = .ok (.iload_n 3, 1) := by decide +kernel
theorem dX7_firm_74 : decode cX7_firm 74 = .ok (.iconst 1, 1) := by decide +kernel
theorem dX7_firm_75 : decode cX7_firm 75 = .ok (.iload 4, 2) := by decide +kernel
theorem dX7_firm_77 : decode cX7_firm 77 = .ok (.ishl, 1) := by decide +kernel
theorem dX7_firm_78 : decode cX7_firm 78 = .ok (.ior, 1) := by decide +kernel
theorem dX7_firm_79 : decode cX7_firm 79 = .ok (.istore_n 3, 1) := by decide +kernel
theorem dX7_firm_80 : decode cX7_firm 80 = .ok (.iinc 4 1, 3) := by decide +kernel
theorem dX7_firm_83 : decode cX7_firm 83 = .ok (.goto (-59), 3) := by decide +kernel
theorem dX7_firm_86 : decode cX7_firm 86 = .ok (.iload_n 2, 1) := by decide +kernel
theorem dX7_firm_87 : decode cX7_firm 87 = .ok (.ifCond .ne 10, 3) := by decide +kernel
theorem dX7_firm_90 : decode cX7_firm 90 = .ok (.iload_n 3, 1) := by decide +kernel
theorem dX7_firm_91 : decode cX7_firm 91 = .ok (.invokestatic 201, 3) := by decide +kernel
theorem dX7_firm_94 : decode cX7_firm 94 = .ok (.goto 7, 3) := by decide +kernel
theorem dX7_firm_97 : decode cX7_firm 97 = .ok (.iload_n 3, 1) := by decide +kernel
theorem dX7_firm_98 : decode cX7_firm 98 = .ok (.invokestatic 242, 3) := by decide +kernel
theorem dX7_firm_101 : decode cX7_firm 101 = .ok (.ireturn, 1) := by decide +kernel
set_option maxRecDepth 20000 in
theorem ggX7_odds_X7_isPart : GoodIn wsX7_odds wsX7_isPart := goodIn_r _ [8] (by decide +kernel) (by decide +kernel)
set_option maxRecDepth 20000 in
theorem gX7_odds_X7_isPart : GoodIn wsX7_odds (va_wsS RX7 211 yX7_isPart wsX7_isPart) := goodIn_app (goodIn_of _ (by decide +kernel)) ggX7_odds_X7_isPart
set_option maxRecDepth 20000 in
theorem ggX7_odds_X1_beginWithout : GoodIn wsX7_odds wsX1_beginWithout := goodIn_r _ [13, 14, 15, 16, 17, 12, 18, 19, 20, 21, 22, 23, 24, 25, 26, 27, 28, 29, 30, 31, 32, 33, 34, 35, 36, 37, 38, 39, 40, 41, 42, 43, 44, 45, 46, 47, 137, 138, 139, 126, 127, 128, 129, 130, 131, 132, 133, 134, 135, 136, 117, 118, 119, 120, 121, 122, 123, 124, 125] (by decide +kernel) (by decide +kernel)
set_option maxRecDepth 20000 in
theorem gX7_odds_X1_beginWithout : GoodIn wsX7_odds (wsV RX7 193 RX1 yX1_beginWithout wsX1_beginWithout) := goodIn_app (goodIn_of _ (by decide +kernel)) ggX7_odds_X1_beginWithout
set_option maxRecDepth 20000 in
theorem ggX7_odds_X1_go : GoodIn wsX7_odds wsX1_go := goodIn_r _ [51, 14, 20, 52, 53, 54, 24, 55, 26, 56, 33, 28, 31, 57, 58, 59, 60, 61, 27, 62, 63, 64, 65, 34, 29, 30, 32, 66, 67, 68, 69, 70, 71, 72, 73, 74, 75, 76, 77, 78, 79, 80, 81, 82, 83, 84, 85, 86, 87, 88, 89, 90, 91, 92, 93, 94, 95, 96, 97, 35, 98, 99, 100, 101, 137, 138, 139, 126, 127, 128, 129, 130, 131, 132, 133, 134, 135, 136, 140, 141, 142, 143, 144, 145, 146] (by decide +kernel) (by decide +kernel)
set_option maxRecDepth 20000 in
theorem gX7_odds_X1_go : GoodIn wsX7_odds (wsV RX7 170 RX1 yX1_go wsX1_go) := goodIn_app (goodIn_of _ (by decide +kernel)) ggX7_odds_X1_go
set_option maxRecDepth 20000 in
theorem ggX7_odds_X1_workMore : GoodIn wsX7_odds wsX1_workMore := goodIn_r _ [105, 14, 19, 137, 138, 139, 126, 127, 128, 129, 130, 131, 132, 133, 134, 135, 136] (by decide +kernel) (by decide +kernel)
set_option maxRecDepth 20000 in
theorem gX7_odds_X1_workMore : GoodIn wsX7_odds (wsV RX7 180 RX1 yX1_workMore wsX1_workMore) := goodIn_app (goodIn_of _ (by decide +kernel)) ggX7_odds_X1_workMore
set_option maxRecDepth 20000 in
theorem ggX7_odds_X7_inLowestTerms : GoodIn wsX7_odds wsX7_inLowestTerms := goodIn_r _ [108, 109, 110, 59, 111, 2] (by decide +kernel) (by decide +kernel)
set_option maxRecDepth 20000 in
theorem gX7_odds_X7_inLowestTerms : GoodIn wsX7_odds (va_wsS RX7 219 yX7_inLowestTerms wsX7_inLowestTerms) := goodIn_app (goodIn_of _ (by decide +kernel)) ggX7_odds_X7_inLowestTerms
theorem dX7_odds_0 : decode cX7_odds 0 = .ok (.iload_n 1, 1) := by decide +kernel
theorem dX7_odds_1 : decode cX7_odds 1 = .ok (.ifCond .lt 26, 3) := by decide +kernel
theorem dX7_odds_4 : decode cX7_odds 4 = .ok (.iload_n 1, 1) := by decide +kernel
theorem dX7_odds_5 : decode cX7_odds 5 = .ok (.bipush 60, 2) := by decide +kernel
theorem dX7_odds_7 : decode cX7_odds 7 = .ok (.if_icmp .gt 20, 3) := by decide +kernel
theorem dX7_odds_10 : decode cX7_odds 10 = .ok (.iload_n 2, 1) := by decide +kernel
theorem dX7_odds_11 : decode cX7_odds 11 = .ok (.ifCond .lt 16, 3) := by decide +kernel
theorem dX7_odds_14 : decode cX7_odds 14 = .ok (.iload_n 2, 1) := by decide +kernel
theorem dX7_odds_15 : decode cX7_odds 15 = .ok (.ldc 232, 2) := by decide +kernel
theorem dX7_odds_17 : decode cX7_odds 17 = .ok (.if_icmp .gt 10, 3) := by decide +kernel
theorem dX7_odds_20 : decode cX7_odds 20 = .ok (.iload_n 3, 1) := by decide +kernel
theorem dX7_odds_21 : decode cX7_odds 21 = .ok (.invokestatic 211, 3) := by decide +kernel
theorem dX7_odds_24 : decode cX7_odds 24 = .ok (.ifCond .ne 7, 3) := by decide +kernel
theorem dX7_odds_27 : decode cX7_odds 27 = .ok (.ldc2_w 214, 3) := by decide +kernel
theorem dX7_odds_30 : decode cX7_odds 30 = .ok (.lreturn, 1) := by decide +kernel
theorem dX7_odds_31 : decode cX7_odds 31 = .ok (.aload_n 0, 1) := by decide +kernel
theorem dX7_odds_32 : decode cX7_odds 32 = .ok (.getfield 12, 3) := by decide +kernel
theorem dX7_odds_35 : decode cX7_odds 35 = .ok (.getfield 74, 3) := by decide +kernel
theorem dX7_odds_38 : decode cX7_odds 38 = .ok (.getfield 78, 3) := by decide +kernel
theorem dX7_odds_41 : decode cX7_odds 41 = .ok (.ifCond .ne 7, 3) := by decide +kernel
theorem dX7_odds_44 : decode cX7_odds 44 = .ok (.ldc2_w 214, 3) := by decide +kernel
theorem dX7_odds_47 : decode cX7_odds 47 = .ok (.lreturn, 1) := by decide +kernel
theorem dX7_odds_48 : decode cX7_odds 48 = .ok (.iconst 0, 1) := by decide +kernel
theorem dX7_odds_49 : decode cX7_odds 49 = .ok (.istore 4, 2) := by decide +kernel
theorem dX7_odds_51 : decode cX7_odds 51 = .ok (.iconst 0, 1) := by decide +kernel
theorem dX7_odds_52 : decode cX7_odds 52 = .ok (.istore 5, 2) := by decide +kernel
theorem dX7_odds_54 : decode cX7_odds 54 = .ok (.iload 5, 2) := by decide +kernel
theorem dX7_odds_56 : decode cX7_odds 56 = .ok (.aload_n 0, 1) := by decide +kernel
theorem dX7_odds_57 : decode cX7_odds 57 = .ok (.getfield 12, 3) := by decide +kernel
theorem dX7_odds_60 : decode cX7_odds 60 = .ok (.getfield 74, 3) := by decide +kernel
theorem dX7_odds_63 : decode cX7_odds 63 = .ok (.getfield 78, 3) := by decide +kernel
theorem dX7_odds_66 : decode cX7_odds 66 = .ok (.if_icmp .ge 44, 3) := by decide +kernel
theorem dX7_odds_69 : decode cX7_odds 69 = .ok (.aload_n 0, 1) := by decide +kernel
theorem dX7_odds_70 : decode cX7_odds 70 = .ok (.getfield 28, 3) := by decide +kernel
theorem dX7_odds_73 : decode cX7_odds 73 = .ok (.aload_n 0, 1) := by decide +kernel
theorem dX7_odds_74 : decode cX7_odds 74 = .ok (.getfield 12, 3) := by decide +kernel
theorem dX7_odds_77 : decode cX7_odds 77 = .ok (.iload 5, 2) := by decide +kernel
theorem dX7_odds_79 : decode cX7_odds 79 = .ok (.invokevirtual 193, 3) := by decide +kernel
theorem dX7_odds_82 : decode cX7_odds 82 = .ok (.aload_n 0, 1) := by decide +kernel
theorem dX7_odds_83 : decode cX7_odds 83 = .ok (.getfield 28, 3) := by decide +kernel
theorem dX7_odds_86 : decode cX7_odds 86 = .ok (.iload_n 1, 1) := by decide +kernel
theorem dX7_odds_87 : decode cX7_odds 87 = .ok (.invokevirtual 170, 3) := by decide +kernel
theorem dX7_odds_90 : decode cX7_odds 90 = .ok (.aload_n 0, 1) := by decide +kernel
theorem dX7_odds_91 : decode cX7_odds 91 = .ok (.getfield 28, 3) := by decide +kernel
theorem dX7_odds_94 : decode cX7_odds 94 = .ok (.invokevirtual 180, 3) := by decide +kernel
theorem dX7_odds_97 : decode cX7_odds 97 = .ok (.iload_n 2, 1) := by decide +kernel
theorem dX7_odds_98 : decode cX7_odds 98 = .ok (.if_icmp .lt 6, 3) := by decide +kernel
theorem dX7_odds_101 : decode cX7_odds 101 = .ok (.iinc 4 1, 3) := by decide +kernel
theorem dX7_odds_104 : decode cX7_odds 104 = .ok (.iinc 5 1, 3) := by decide +kernel
theorem dX7_odds_107 : decode cX7_odds 107 = .ok (.goto (-53), 3) := by decide +kernel
theorem dX7_odds_110 : decode cX7_odds 110 = .ok (.iload 4, 2) := by decide +kernel
theorem dX7_odds_112 : decode cX7_odds 112 = .ok (.i2l, 1) := by decide +kernel
theorem dX7_odds_113 : decode cX7_odds 113 = .ok (.aload_n 0, 1) := by decide +kernel
theorem dX7_odds_114 : decode cX7_odds 114 = .ok (.getfield 12, 3) := by decide +kernel
theorem dX7_odds_117 : decode cX7_odds 117 = .ok (.getfield 74, 3) := by decide +kernel
theorem dX7_odds_120 : decode cX7_odds 120 = .ok (.getfield 78, 3) := by decide +kernel
theorem dX7_odds_123 : decode cX7_odds 123 = .ok (.i2l, 1) := by decide +kernel
theorem dX7_odds_124 : decode cX7_odds 124 = .ok (.iload_n 3, 1) := by decide +kernel
theorem dX7_odds_125 : decode cX7_odds 125 = .ok (.invokestatic 219, 3) := by decide +kernel
theorem dX7_odds_128 : decode cX7_odds 128 = .ok (.lreturn, 1) := by decide +kernel
set_option maxRecDepth 20000 in
theorem ggX7_mean_X7_isPart : GoodIn wsX7_mean wsX7_isPart := goodIn_r _ [7] (by decide +kernel) (by decide +kernel)
set_option maxRecDepth 20000 in
theorem gX7_mean_X7_isPart : GoodIn wsX7_mean (va_wsS RX7 211 yX7_isPart wsX7_isPart) := goodIn_app (goodIn_of _ (by decide +kernel)) ggX7_mean_X7_isPart
set_option maxRecDepth 20000 in
theorem ggX7_mean_X1_begin : GoodIn wsX7_mean wsX1_begin := goodIn_r _ [12, 13, 14, 15, 16, 17, 18, 19, 20, 21, 22, 23, 24, 25, 26, 27, 28, 29, 30, 31, 32, 33, 34, 35, 36, 37, 38, 39, 40, 41, 42, 136, 137, 138, 116, 117, 118, 119, 120, 121, 122, 123, 124, 125, 126, 127, 128, 129, 130, 131, 132, 133, 134, 135] (by decide +kernel) (by decide +kernel)
set_option maxRecDepth 20000 in
theorem gX7_mean_X1_begin : GoodIn wsX7_mean (wsV RX7 166 RX1 yX1_begin wsX1_begin) := goodIn_app (goodIn_of _ (by decide +kernel)) ggX7_mean_X1_begin
set_option maxRecDepth 20000 in
theorem ggX7_mean_X1_go : GoodIn wsX7_mean wsX1_go := goodIn_r _ [46, 14, 15, 47, 48, 49, 19, 50, 21, 51, 28, 23, 26, 52, 53, 54, 55, 56, 22, 57, 58, 59, 60, 29, 24, 25, 27, 61, 62, 63, 64, 65, 66, 67, 68, 69, 70, 71, 72, 73, 74, 75, 76, 77, 78, 79, 80, 81, 82, 83, 84, 85, 86, 87, 88, 89, 90, 91, 92, 30, 93, 94, 95, 96, 136, 137, 138, 125, 126, 127, 128, 129, 130, 131, 132, 133, 134, 135, 139, 140, 141, 142, 143, 144, 145] (by decide +kernel) (by decide +kernel)
set_option maxRecDepth 20000 in
theorem gX7_mean_X1_go : GoodIn wsX7_mean (wsV RX7 170 RX1 yX1_go wsX1_go) := goodIn_app (goodIn_of _ (by decide +kernel)) ggX7_mean_X1_go
set_option maxRecDepth 20000 in
theorem ggX7_mean_X1_hoursMore : GoodIn wsX7_mean wsX1_hoursMore := goodIn_r _ [100, 14, 13, 101, 102, 103, 19, 104, 21, 28, 136, 137, 138, 125, 126, 127, 128, 129, 130, 131, 132, 133, 134, 135] (by decide +kernel) (by decide +kernel)
set_option maxRecDepth 20000 in
theorem gX7_mean_X1_hoursMore : GoodIn wsX7_mean (wsV RX7 183 RX1 yX1_hoursMore wsX1_hoursMore) := goodIn_app (goodIn_of _ (by decide +kernel)) ggX7_mean_X1_hoursMore
set_option maxRecDepth 20000 in
theorem ggX7_mean_X7_inLowestTerms : GoodIn wsX7_mean wsX7_inLowestTerms := goodIn_r _ [107, 108, 109, 54, 110, 1] (by decide +kernel) (by decide +kernel)
set_option maxRecDepth 20000 in
theorem gX7_mean_X7_inLowestTerms : GoodIn wsX7_mean (va_wsS RX7 219 yX7_inLowestTerms wsX7_inLowestTerms) := goodIn_app (goodIn_of _ (by decide +kernel)) ggX7_mean_X7_inLowestTerms
theorem dX7_mean_0 : decode cX7_mean 0 = .ok (.iload_n 1, 1) := by decide +kernel
theorem dX7_mean_1 : decode cX7_mean 1 = .ok (.ifCond .lt 16, 3) := by decide +kernel
theorem dX7_mean_4 : decode cX7_mean 4 = .ok (.iload_n 1, 1) := by decide +kernel
theorem dX7_mean_5 : decode cX7_mean 5 = .ok (.bipush 60, 2) := by decide +kernel
theorem dX7_mean_7 : decode cX7_mean 7 = .ok (.if_icmp .gt 10, 3) := by decide +kernel
theorem dX7_mean_10 : decode cX7_mean 10 = .ok (.iload_n 2, 1) := by decide +kernel
theorem dX7_mean_11 : decode cX7_mean 11 = .ok (.invokestatic 211, 3) := by decide +kernel
theorem dX7_mean_14 : decode cX7_mean 14 = .ok (.ifCond .ne 7, 3) := by decide +kernel
theorem dX7_mean_17 : decode cX7_mean 17 = .ok (.ldc2_w 214, 3) := by decide +kernel
theorem dX7_mean_20 : decode cX7_mean 20 = .ok (.lreturn, 1) := by decide +kernel
theorem dX7_mean_21 : decode cX7_mean 21 = .ok (.aload_n 0, 1) := by decide +kernel
theorem dX7_mean_22 : decode cX7_mean 22 = .ok (.getfield 12, 3) := by decide +kernel
theorem dX7_mean_25 : decode cX7_mean 25 = .ok (.getfield 74, 3) := by decide +kernel
theorem dX7_mean_28 : decode cX7_mean 28 = .ok (.getfield 78, 3) := by decide +kernel
theorem dX7_mean_31 : decode cX7_mean 31 = .ok (.ifCond .ne 7, 3) := by decide +kernel
theorem dX7_mean_34 : decode cX7_mean 34 = .ok (.ldc2_w 214, 3) := by decide +kernel
theorem dX7_mean_37 : decode cX7_mean 37 = .ok (.lreturn, 1) := by decide +kernel
theorem dX7_mean_38 : decode cX7_mean 38 = .ok (.aload_n 0, 1) := by decide +kernel
theorem dX7_mean_39 : decode cX7_mean 39 = .ok (.getfield 28, 3) := by decide +kernel
theorem dX7_mean_42 : decode cX7_mean 42 = .ok (.aload_n 0, 1) := by decide +kernel
theorem dX7_mean_43 : decode cX7_mean 43 = .ok (.getfield 12, 3) := by decide +kernel
theorem dX7_mean_46 : decode cX7_mean 46 = .ok (.invokevirtual 166, 3) := by decide +kernel
theorem dX7_mean_49 : decode cX7_mean 49 = .ok (.aload_n 0, 1) := by decide +kernel
theorem dX7_mean_50 : decode cX7_mean 50 = .ok (.getfield 28, 3) := by decide +kernel
theorem dX7_mean_53 : decode cX7_mean 53 = .ok (.iload_n 1, 1) := by decide +kernel
theorem dX7_mean_54 : decode cX7_mean 54 = .ok (.invokevirtual 170, 3) := by decide +kernel
theorem dX7_mean_57 : decode cX7_mean 57 = .ok (.aload_n 0, 1) := by decide +kernel
theorem dX7_mean_58 : decode cX7_mean 58 = .ok (.getfield 28, 3) := by decide +kernel
theorem dX7_mean_61 : decode cX7_mean 61 = .ok (.invokevirtual 183, 3) := by decide +kernel
theorem dX7_mean_64 : decode cX7_mean 64 = .ok (.i2l, 1) := by decide +kernel
theorem dX7_mean_65 : decode cX7_mean 65 = .ok (.aload_n 0, 1) := by decide +kernel
theorem dX7_mean_66 : decode cX7_mean 66 = .ok (.getfield 12, 3) := by decide +kernel
theorem dX7_mean_69 : decode cX7_mean 69 = .ok (.getfield 74, 3) := by decide +kernel
theorem dX7_mean_72 : decode cX7_mean 72 = .ok (.getfield 78, 3) := by decide +kernel
theorem dX7_mean_75 : decode cX7_mean 75 = .ok (.i2l, 1) := by decide +kernel
theorem dX7_mean_76 : decode cX7_mean 76 = .ok (.iload_n 2, 1) := by decide +kernel
theorem dX7_mean_77 : decode cX7_mean 77 = .ok (.invokestatic 219, 3) := by decide +kernel
theorem dX7_mean_80 : decode cX7_mean 80 = .ok (.lreturn, 1) := by decide +kernel
set_option maxRecDepth 20000 in
theorem ggX7_plan_X6_clear : GoodIn wsX7_plan wsX6_clear := goodIn_r _ [6, 7, 38, 39, 40] (by decide +kernel) (by decide +kernel)
set_option maxRecDepth 20000 in
theorem gX7_plan_X6_clear : GoodIn wsX7_plan (wsV RX7 227 RX6 yX6_clear wsX6_clear) := goodIn_app (goodIn_of _ (by decide +kernel)) ggX7_plan_X6_clear
set_option maxRecDepth 20000 in
theorem ggX7_plan_X7_isPupil : GoodIn wsX7_plan wsX7_isPupil := goodIn_r _ [12, 1, 24, 25, 26, 27, 28, 29, 30, 31, 32, 33, 34, 35, 36, 37, 41, 42, 43, 44, 45, 46, 47, 48, 49, 50, 51] (by decide +kernel) (by decide +kernel)
set_option maxRecDepth 20000 in
theorem gX7_plan_X7_isPupil : GoodIn wsX7_plan (wsV RX7 87 RX7 yX7_isPupil wsX7_isPupil) := goodIn_app (goodIn_of _ (by decide +kernel)) ggX7_plan_X7_isPupil
set_option maxRecDepth 20000 in
theorem ggX7_plan_X6_isFull : GoodIn wsX7_plan wsX6_isFull := goodIn_r _ [16, 7, 17, 18, 38, 39, 40] (by decide +kernel) (by decide +kernel)
set_option maxRecDepth 20000 in
theorem gX7_plan_X6_isFull : GoodIn wsX7_plan (wsV RX7 233 RX6 yX6_isFull wsX6_isFull) := goodIn_app (goodIn_of _ (by decide +kernel)) ggX7_plan_X6_isFull
set_option maxRecDepth 20000 in
theorem ggX7_plan_X6_add : GoodIn wsX7_plan wsX6_add := goodIn_r _ [22, 17, 7, 18, 23, 14, 15, 5, 16, 38, 39, 40] (by decide +kernel) (by decide +kernel)
set_option maxRecDepth 20000 in
theorem gX7_plan_X6_add : GoodIn wsX7_plan (wsV RX7 236 RX6 yX6_add wsX6_add) := goodIn_app (goodIn_of _ (by decide +kernel)) ggX7_plan_X6_add
theorem dX7_plan_0 : decode cX7_plan 0 = .ok (.iload_n 1, 1) := by decide +kernel
theorem dX7_plan_1 : decode cX7_plan 1 = .ok (.iconst (-1), 1) := by decide +kernel
theorem dX7_plan_2 : decode cX7_plan 2 = .ok (.if_icmp .ne 14, 3) := by decide +kernel
theorem dX7_plan_5 : decode cX7_plan 5 = .ok (.aload_n 0, 1) := by decide +kernel
theorem dX7_plan_6 : decode cX7_plan 6 = .ok (.getfield 12, 3) := by decide +kernel
theorem dX7_plan_9 : decode cX7_plan 9 = .ok (.getfield 245, 3) := by decide +kernel
theorem dX7_plan_12 : decode cX7_plan 12 = .ok (.invokevirtual 227, 3) := by decide +kernel
theorem dX7_plan_15 : decode cX7_plan 15 = .ok (.ireturn, 1) := by decide +kernel
theorem dX7_plan_16 : decode cX7_plan 16 = .ok (.iload_n 1, 1) := by decide +kernel
theorem dX7_plan_17 : decode cX7_plan 17 = .ok (.ifCond .lt 8, 3) := by decide +kernel
theorem dX7_plan_20 : decode cX7_plan 20 = .ok (.iload_n 1, 1) := by decide +kernel
theorem dX7_plan_21 : decode cX7_plan 21 = .ok (.iconst 3, 1) := by decide +kernel
theorem dX7_plan_22 : decode cX7_plan 22 = .ok (.if_icmp .le 5, 3) := by decide +kernel
theorem dX7_plan_25 : decode cX7_plan 25 = .ok (.iconst (-1), 1) := by decide +kernel
theorem dX7_plan_26 : decode cX7_plan 26 = .ok (.ireturn, 1) := by decide +kernel
theorem dX7_plan_27 : decode cX7_plan 27 = .ok (.iload_n 1, 1) := by decide +kernel
theorem dX7_plan_28 : decode cX7_plan 28 = .ok (.ifCond .eq 13, 3) := by decide +kernel
theorem dX7_plan_31 : decode cX7_plan 31 = .ok (.aload_n 0, 1) := by decide +kernel
theorem dX7_plan_32 : decode cX7_plan 32 = .ok (.iload_n 2, 1) := by decide +kernel
theorem dX7_plan_33 : decode cX7_plan 33 = .ok (.invokevirtual 87, 3) := by decide +kernel
theorem dX7_plan_36 : decode cX7_plan 36 = .ok (.ifCond .ne 5, 3) := by decide +kernel
theorem dX7_plan_39 : decode cX7_plan 39 = .ok (.iconst (-1), 1) := by decide +kernel
theorem dX7_plan_40 : decode cX7_plan 40 = .ok (.ireturn, 1) := by decide +kernel
theorem dX7_plan_41 : decode cX7_plan 41 = .ok (.aload_n 0, 1) := by decide +kernel
theorem dX7_plan_42 : decode cX7_plan 42 = .ok (.getfield 12, 3) := by decide +kernel
theorem dX7_plan_45 : decode cX7_plan 45 = .ok (.getfield 245, 3) := by decide +kernel
theorem dX7_plan_48 : decode cX7_plan 48 = .ok (.invokevirtual 233, 3) := by decide +kernel
theorem dX7_plan_51 : decode cX7_plan 51 = .ok (.ifCond .eq 6, 3) := by decide +kernel
theorem dX7_plan_54 : decode cX7_plan 54 = .ok (.bipush (-4), 2) := by decide +kernel
theorem dX7_plan_56 : decode cX7_plan 56 = .ok (.ireturn, 1) := by decide +kernel
theorem dX7_plan_57 : decode cX7_plan 57 = .ok (.aload_n 0, 1) := by decide +kernel
theorem dX7_plan_58 : decode cX7_plan 58 = .ok (.getfield 12, 3) := by decide +kernel
theorem dX7_plan_61 : decode cX7_plan 61 = .ok (.getfield 245, 3) := by decide +kernel
theorem dX7_plan_64 : decode cX7_plan 64 = .ok (.iload_n 1, 1) := by decide +kernel
theorem dX7_plan_65 : decode cX7_plan 65 = .ok (.iload_n 2, 1) := by decide +kernel
theorem dX7_plan_66 : decode cX7_plan 66 = .ok (.invokevirtual 236, 3) := by decide +kernel
theorem dX7_plan_69 : decode cX7_plan 69 = .ok (.ireturn, 1) := by decide +kernel
set_option maxRecDepth 20000 in
theorem ggX7_done_X1_begin : GoodIn wsX7_done wsX1_begin := goodIn_r _ [7, 8, 9, 10, 11, 12, 13, 14, 15, 16, 17, 18, 19, 20, 21, 22, 23, 24, 25, 26, 27, 28, 29, 30, 31, 32, 33, 34, 35, 36, 37, 118, 119, 120, 109, 110, 111, 112, 113, 114, 115, 116, 117, 121, 122, 123, 124, 125, 126, 127, 128, 129, 130, 131] (by decide +kernel) (by decide +kernel)
set_option maxRecDepth 20000 in
theorem gX7_done_X1_begin : GoodIn wsX7_done (wsV RX7 166 RX1 yX1_begin wsX1_begin) := goodIn_app (goodIn_of _ (by decide +kernel)) ggX7_done_X1_begin
set_option maxRecDepth 20000 in
theorem ggX7_done_X1_follow : GoodIn wsX7_done wsX1_follow := goodIn_r _ [41, 9, 10, 42, 43, 44, 14, 45, 16, 46, 23, 18, 21, 47, 48, 49, 50, 51, 17, 52, 53, 54, 55, 24, 19, 20, 22, 56, 57, 58, 59, 60, 61, 62, 63, 64, 65, 66, 67, 68, 69, 70, 71, 72, 73, 74, 75, 76, 77, 78, 79, 80, 81, 82, 83, 84, 85, 86, 87, 25, 88, 89, 90, 91, 132, 133, 134, 118, 119, 120, 121, 122, 123, 124, 125, 126, 127, 128, 129, 130, 131, 135, 136, 137, 138, 139, 140, 141] (by decide +kernel) (by decide +kernel)
set_option maxRecDepth 20000 in
theorem gX7_done_X1_follow : GoodIn wsX7_done (wsV RX7 248 RX1 yX1_follow wsX1_follow) := goodIn_app (goodIn_of _ (by decide +kernel)) ggX7_done_X1_follow
set_option maxRecDepth 20000 in
theorem ggX7_done_X1_workMore : GoodIn wsX7_done wsX1_workMore := goodIn_r _ [95, 9, 8, 118, 119, 120, 121, 122, 123, 124, 125, 126, 127, 128, 129, 130, 131] (by decide +kernel) (by decide +kernel)
set_option maxRecDepth 20000 in
theorem gX7_done_X1_workMore : GoodIn wsX7_done (wsV RX7 180 RX1 yX1_workMore wsX1_workMore) := goodIn_app (goodIn_of _ (by decide +kernel)) ggX7_done_X1_workMore
set_option maxRecDepth 20000 in
theorem ggX7_done_X1_hoursMore : GoodIn wsX7_done wsX1_hoursMore := goodIn_r _ [99, 9, 8, 100, 101, 102, 14, 103, 16, 23, 118, 119, 120, 121, 122, 123, 124, 125, 126, 127, 128, 129, 130, 131] (by decide +kernel) (by decide +kernel)
set_option maxRecDepth 20000 in
theorem gX7_done_X1_hoursMore : GoodIn wsX7_done (wsV RX7 183 RX1 yX1_hoursMore wsX1_hoursMore) := goodIn_app (goodIn_of _ (by decide +kernel)) ggX7_done_X1_hoursMore
theorem dX7_done_0 : decode cX7_done 0 = .ok (.iload_n 1, 1) := by decide +kernel
theorem dX7_done_1 : decode cX7_done 1 = .ok (.ifCond .eq 10, 3) := by decide +kernel
theorem dX7_done_4 : decode cX7_done 4 = .ok (.iload_n 1, 1) := by decide +kernel
theorem dX7_done_5 : decode cX7_done 5 = .ok (.iconst 1, 1) := by decide +kernel
theorem dX7_done_6 : decode cX7_done 6 = .ok (.if_icmp .eq 5, 3) := by decide +kernel
theorem dX7_done_9 : decode cX7_done 9 = .ok (.iconst (-1), 1) := by decide +kernel
theorem dX7_done_10 : decode cX7_done 10 = .ok (.ireturn, 1) := by decide +kernel
theorem dX7_done_11 : decode cX7_done 11 = .ok (.aload_n 0, 1) := by decide +kernel
theorem dX7_done_12 : decode cX7_done 12 = .ok (.getfield 28, 3) := by decide +kernel
theorem dX7_done_15 : decode cX7_done 15 = .ok (.aload_n 0, 1) := by decide +kernel
theorem dX7_done_16 : decode cX7_done 16 = .ok (.getfield 12, 3) := by decide +kernel
theorem dX7_done_19 : decode cX7_done 19 = .ok (.invokevirtual 166, 3) := by decide +kernel
theorem dX7_done_22 : decode cX7_done 22 = .ok (.aload_n 0, 1) := by decide +kernel
theorem dX7_done_23 : decode cX7_done 23 = .ok (.getfield 28, 3) := by decide +kernel
theorem dX7_done_26 : decode cX7_done 26 = .ok (.aload_n 0, 1) := by decide +kernel
theorem dX7_done_27 : decode cX7_done 27 = .ok (.getfield 12, 3) := by decide +kernel
theorem dX7_done_30 : decode cX7_done 30 = .ok (.getfield 245, 3) := by decide +kernel
theorem dX7_done_33 : decode cX7_done 33 = .ok (.invokevirtual 248, 3) := by decide +kernel
theorem dX7_done_36 : decode cX7_done 36 = .ok (.iload_n 1, 1) := by decide +kernel
theorem dX7_done_37 : decode cX7_done 37 = .ok (.ifCond .ne 13, 3) := by decide +kernel
theorem dX7_done_40 : decode cX7_done 40 = .ok (.aload_n 0, 1) := by decide +kernel
theorem dX7_done_41 : decode cX7_done 41 = .ok (.getfield 28, 3) := by decide +kernel
theorem dX7_done_44 : decode cX7_done 44 = .ok (.invokevirtual 180, 3) := by decide +kernel
theorem dX7_done_47 : decode cX7_done 47 = .ok (.goto 10, 3) := by decide +kernel
theorem dX7_done_50 : decode cX7_done 50 = .ok (.aload_n 0, 1) := by decide +kernel
theorem dX7_done_51 : decode cX7_done 51 = .ok (.getfield 28, 3) := by decide +kernel
theorem dX7_done_54 : decode cX7_done 54 = .ok (.invokevirtual 183, 3) := by decide +kernel
theorem dX7_done_57 : decode cX7_done 57 = .ok (.ireturn, 1) := by decide +kernel
set_option maxRecDepth 20000 in
theorem ggX7_book_X6_clear : GoodIn wsX7_book wsX6_clear := goodIn_r _ [6, 7, 38, 39, 40] (by decide +kernel) (by decide +kernel)
set_option maxRecDepth 20000 in
theorem gX7_book_X6_clear : GoodIn wsX7_book (wsV RX7 227 RX6 yX6_clear wsX6_clear) := goodIn_app (goodIn_of _ (by decide +kernel)) ggX7_book_X6_clear
set_option maxRecDepth 20000 in
theorem ggX7_book_X7_isPupil : GoodIn wsX7_book wsX7_isPupil := goodIn_r _ [12, 1, 24, 25, 26, 27, 28, 29, 30, 31, 32, 33, 34, 35, 36, 37, 41, 42, 43, 44, 45, 46, 47, 48, 49, 50, 51] (by decide +kernel) (by decide +kernel)
set_option maxRecDepth 20000 in
theorem gX7_book_X7_isPupil : GoodIn wsX7_book (wsV RX7 87 RX7 yX7_isPupil wsX7_isPupil) := goodIn_app (goodIn_of _ (by decide +kernel)) ggX7_book_X7_isPupil
set_option maxRecDepth 20000 in
theorem ggX7_book_X6_isFull : GoodIn wsX7_book wsX6_isFull := goodIn_r _ [16, 7, 17, 18, 38, 39, 40] (by decide +kernel) (by decide +kernel)
set_option maxRecDepth 20000 in
theorem gX7_book_X6_isFull : GoodIn wsX7_book (wsV RX7 233 RX6 yX6_isFull wsX6_isFull) := goodIn_app (goodIn_of _ (by decide +kernel)) ggX7_book_X6_isFull
set_option maxRecDepth 20000 in
theorem ggX7_book_X6_add : GoodIn wsX7_book wsX6_add := goodIn_r _ [22, 17, 7, 18, 23, 14, 15, 5, 16, 38, 39, 40] (by decide +kernel) (by decide +kernel)
set_option maxRecDepth 20000 in
theorem gX7_book_X6_add : GoodIn wsX7_book (wsV RX7 236 RX6 yX6_add wsX6_add) := goodIn_app (goodIn_of _ (by decide +kernel)) ggX7_book_X6_add
theorem dX7_book_0 : decode cX7_book 0 = .ok (.iload_n 1, 1) := by decide +kernel
theorem dX7_book_1 : decode cX7_book 1 = .ok (.iconst (-1), 1) := by decide +kernel
theorem dX7_book_2 : decode cX7_book 2 = .ok (.if_icmp .ne 14, 3) := by decide +kernel
theorem dX7_book_5 : decode cX7_book 5 = .ok (.aload_n 0, 1) := by decide +kernel
theorem dX7_book_6 : decode cX7_book 6 = .ok (.getfield 12, 3) := by decide +kernel
theorem dX7_book_9 : decode cX7_book 9 = .ok (.getfield 252, 3) := by decide +kernel
theorem dX7_book_12 : decode cX7_book 12 = .ok (.invokevirtual 227, 3) := by decide +kernel
theorem dX7_book_15 : decode cX7_book 15 = .ok (.ireturn, 1) := by decide +kernel
theorem dX7_book_16 : decode cX7_book 16 = .ok (.aload_n 0, 1) := by decide +kernel
theorem dX7_book_17 : decode cX7_book 17 = .ok (.iload_n 1, 1) := by decide +kernel
theorem dX7_book_18 : decode cX7_book 18 = .ok (.invokevirtual 87, 3) := by decide +kernel
theorem dX7_book_21 : decode cX7_book 21 = .ok (.ifCond .ne 5, 3) := by decide +kernel
theorem dX7_book_24 : decode cX7_book 24 = .ok (.iconst (-1), 1) := by decide +kernel
theorem dX7_book_25 : decode cX7_book 25 = .ok (.ireturn, 1) := by decide +kernel
theorem dX7_book_26 : decode cX7_book 26 = .ok (.iload_n 2, 1) := by decide +kernel
theorem dX7_book_27 : decode cX7_book 27 = .ok (.ifCond .lt 10, 3) := by decide +kernel
theorem dX7_book_30 : decode cX7_book 30 = .ok (.iload_n 2, 1) := by decide +kernel
theorem dX7_book_31 : decode cX7_book 31 = .ok (.sipush 9999, 3) := by decide +kernel
theorem dX7_book_34 : decode cX7_book 34 = .ok (.if_icmp .le 6, 3) := by decide +kernel
theorem dX7_book_37 : decode cX7_book 37 = .ok (.bipush (-2), 2) := by decide +kernel
theorem dX7_book_39 : decode cX7_book 39 = .ok (.ireturn, 1) := by decide +kernel
theorem dX7_book_40 : decode cX7_book 40 = .ok (.aload_n 0, 1) := by decide +kernel
theorem dX7_book_41 : decode cX7_book 41 = .ok (.getfield 12, 3) := by decide +kernel
theorem dX7_book_44 : decode cX7_book 44 = .ok (.getfield 252, 3) := by decide +kernel
theorem dX7_book_47 : decode cX7_book 47 = .ok (.invokevirtual 233, 3) := by decide +kernel
theorem dX7_book_50 : decode cX7_book 50 = .ok (.ifCond .eq 6, 3) := by decide +kernel
theorem dX7_book_53 : decode cX7_book 53 = .ok (.bipush (-4), 2) := by decide +kernel
theorem dX7_book_55 : decode cX7_book 55 = .ok (.ireturn, 1) := by decide +kernel
theorem dX7_book_56 : decode cX7_book 56 = .ok (.aload_n 0, 1) := by decide +kernel
theorem dX7_book_57 : decode cX7_book 57 = .ok (.getfield 12, 3) := by decide +kernel
theorem dX7_book_60 : decode cX7_book 60 = .ok (.getfield 252, 3) := by decide +kernel
theorem dX7_book_63 : decode cX7_book 63 = .ok (.iload_n 1, 1) := by decide +kernel
theorem dX7_book_64 : decode cX7_book 64 = .ok (.iload_n 2, 1) := by decide +kernel
theorem dX7_book_65 : decode cX7_book 65 = .ok (.invokevirtual 236, 3) := by decide +kernel
theorem dX7_book_68 : decode cX7_book 68 = .ok (.ireturn, 1) := by decide +kernel
set_option maxRecDepth 20000 in
theorem ggX7_looked_X7_isPupil : GoodIn wsX7_looked wsX7_isPupil := goodIn_r _ [6, 1, 7, 8, 9, 10, 11, 12, 13, 14, 15, 16, 17, 18, 19, 20, 24, 25, 26, 27, 28, 29, 30, 31, 32, 33, 34] (by decide +kernel) (by decide +kernel)
set_option maxRecDepth 20000 in
theorem gX7_looked_X7_isPupil : GoodIn wsX7_looked (wsV RX7 87 RX7 yX7_isPupil wsX7_isPupil) := goodIn_app (goodIn_of _ (by decide +kernel)) ggX7_looked_X7_isPupil
theorem dX7_looked_0 : decode cX7_looked 0 = .ok (.iconst 0, 1) := by decide +kernel
theorem dX7_looked_1 : decode cX7_looked 1 = .ok (.istore_n 1, 1) := by decide +kernel
theorem dX7_looked_2 : decode cX7_looked 2 = .ok (.iload_n 1, 1) := by decide +kernel
theorem dX7_looked_3 : decode cX7_looked 3 = .ok (.aload_n 0, 1) := by decide +kernel
theorem dX7_looked_4 : decode cX7_looked 4 = .ok (.getfield 12, 3) := by decide +kernel
theorem dX7_looked_7 : decode cX7_looked 7 = .ok (.getfield 252, 3) := by decide +kernel
theorem dX7_looked_10 : decode cX7_looked 10 = .ok (.getfield 255, 3) := by decide +kernel
theorem dX7_looked_13 : decode cX7_looked 13 = .ok (.if_icmp .ge 59, 3) := by decide +kernel
theorem dX7_looked_16 : decode cX7_looked 16 = .ok (.aload_n 0, 1) := by decide +kernel
theorem dX7_looked_17 : decode cX7_looked 17 = .ok (.getfield 12, 3) := by decide +kernel
theorem dX7_looked_20 : decode cX7_looked 20 = .ok (.getfield 252, 3) := by decide +kernel
theorem dX7_looked_23 : decode cX7_looked 23 = .ok (.getfield 256, 3) := by decide +kernel
theorem dX7_looked_26 : decode cX7_looked 26 = .ok (.iload_n 1, 1) := by decide +kernel
theorem dX7_looked_27 : decode cX7_looked 27 = .ok (.iaload, 1) := by decide +kernel
theorem dX7_looked_28 : decode cX7_looked 28 = .ok (.istore_n 2, 1) := by decide +kernel
theorem dX7_looked_29 : decode cX7_looked 29 = .ok (.aload_n 0, 1) := by decide +kernel
theorem dX7_looked_30 : decode cX7_looked 30 = .ok (.iload_n 2, 1) := by decide +kernel
theorem dX7_looked_31 : decode cX7_looked 31 = .ok (.invokevirtual 87, 3) := by decide +kernel
theorem dX7_looked_34 : decode cX7_looked 34 = .ok (.ifCond .eq 32, 3) := by decide +kernel
theorem dX7_looked_37 : decode cX7_looked 37 = .ok (.aload_n 0, 1) := by decide +kernel
theorem dX7_looked_38 : decode cX7_looked 38 = .ok (.getfield 12, 3) := by decide +kernel
theorem dX7_looked_41 : decode cX7_looked 41 = .ok (.getfield 74, 3) := by decide +kernel
theorem dX7_looked_44 : decode cX7_looked 44 = .ok (.getfield 103, 3) := by decide +kernel
theorem dX7_looked_47 : decode cX7_looked 47 = .ok (.iload_n 2, 1) := by decide +kernel
theorem dX7_looked_48 : decode cX7_looked 48 = .ok (.iaload, 1) := by decide +kernel
theorem dX7_looked_49 : decode cX7_looked 49 = .ok (.aload_n 0, 1) := by decide +kernel
theorem dX7_looked_50 : decode cX7_looked 50 = .ok (.getfield 12, 3) := by decide +kernel
theorem dX7_looked_53 : decode cX7_looked 53 = .ok (.getfield 252, 3) := by decide +kernel
theorem dX7_looked_56 : decode cX7_looked 56 = .ok (.getfield 259, 3) := by decide +kernel
theorem dX7_looked_59 : decode cX7_looked 59 = .ok (.iload_n 1, 1) := by decide +kernel
theorem dX7_looked_60 : decode cX7_looked 60 = .ok (.iaload, 1) := by decide +kernel
theorem dX7_looked_61 : decode cX7_looked 61 = .ok (.if_icmp .eq 5, 3) := by decide +kernel
theorem dX7_looked_64 : decode cX7_looked 64 = .ok (.iload_n 1, 1) := by decide +kernel
theorem dX7_looked_65 : decode cX7_looked 65 = .ok (.ireturn, 1) := by decide +kernel
theorem dX7_looked_66 : decode cX7_looked 66 = .ok (.iinc 1 1, 3) := by decide +kernel
theorem dX7_looked_69 : decode cX7_looked 69 = .ok (.goto (-67), 3) := by decide +kernel
theorem dX7_looked_72 : decode cX7_looked 72 = .ok (.bipush (-5), 2) := by decide +kernel
theorem dX7_looked_74 : decode cX7_looked 74 = .ok (.ireturn, 1) := by decide +kernel
set_option maxRecDepth 20000 in
theorem ggX7_act_X7_isPupil : GoodIn wsX7_act wsX7_isPupil := goodIn_r _ [7, 2, 30, 31, 32, 33, 34, 40, 41, 42, 43, 44, 45, 46, 47, 48, 49, 50, 51, 52, 53, 54, 55, 56, 57, 58, 59] (by decide +kernel) (by decide +kernel)
set_option maxRecDepth 20000 in
theorem gX7_act_X7_isPupil : GoodIn wsX7_act (wsV RX7 87 RX7 yX7_isPupil wsX7_isPupil) := goodIn_app (goodIn_of _ (by decide +kernel)) ggX7_act_X7_isPupil
set_option maxRecDepth 20000 in
theorem ggX7_act_X0_thinks : GoodIn wsX7_act wsX0_thinks := goodIn_r _ [11, 12, 13, 14, 15, 9, 16, 17, 18, 19, 8, 10, 35, 36, 37, 38, 39] (by decide +kernel) (by decide +kernel)
set_option maxRecDepth 20000 in
theorem gX7_act_X0_thinks_n274 : GoodIn wsX7_act (wsX0_thinks) := ggX7_act_X0_thinks
set_option maxRecDepth 20000 in
theorem ggX7_act_X0_writes : GoodIn wsX7_act wsX0_writes := goodIn_r _ [22, 23, 24, 13, 14, 15, 9, 16, 17, 18, 25, 20, 21, 19, 8, 10, 11, 12, 35, 36, 37, 38, 39] (by decide +kernel) (by decide +kernel)
set_option maxRecDepth 20000 in
theorem gX7_act_X0_writes_n277 : GoodIn wsX7_act (wsX0_writes) := ggX7_act_X0_writes
set_option maxRecDepth 20000 in
theorem ggX7_act_X0_tells : GoodIn wsX7_act wsX0_tells := goodIn_r _ [28, 24, 13, 14, 15, 9, 16, 17, 18, 29, 26, 27, 19, 8, 10, 11, 12, 25, 20, 21, 22, 23, 35, 36, 37, 38, 39] (by decide +kernel) (by decide +kernel)
set_option maxRecDepth 20000 in
theorem gX7_act_X0_tells_n280 : GoodIn wsX7_act (wsX0_tells) := ggX7_act_X0_tells
theorem dX7_act_0 : decode cX7_act 0 = .ok (.aload_n 0, 1) := by decide +kernel
theorem dX7_act_1 : decode cX7_act 1 = .ok (.getfield 35, 3) := by decide +kernel
theorem dX7_act_4 : decode cX7_act 4 = .ok (.iconst 0, 1) := by decide +kernel
theorem dX7_act_5 : decode cX7_act 5 = .ok (.putfield 262, 3) := by decide +kernel
theorem dX7_act_8 : decode cX7_act 8 = .ok (.aload_n 0, 1) := by decide +kernel
theorem dX7_act_9 : decode cX7_act 9 = .ok (.iload_n 1, 1) := by decide +kernel
theorem dX7_act_10 : decode cX7_act 10 = .ok (.invokevirtual 87, 3) := by decide +kernel
theorem dX7_act_13 : decode cX7_act 13 = .ok (.ifCond .ne 5, 3) := by decide +kernel
theorem dX7_act_16 : decode cX7_act 16 = .ok (.iconst 0, 1) := by decide +kernel
theorem dX7_act_17 : decode cX7_act 17 = .ok (.ireturn, 1) := by decide +kernel
theorem dX7_act_18 : decode cX7_act 18 = .ok (.aload_n 0, 1) := by decide +kernel
theorem dX7_act_19 : decode cX7_act 19 = .ok (.getfield 35, 3) := by decide +kernel
theorem dX7_act_22 : decode cX7_act 22 = .ok (.aload_n 0, 1) := by decide +kernel
theorem dX7_act_23 : decode cX7_act 23 = .ok (.getfield 12, 3) := by decide +kernel
theorem dX7_act_26 : decode cX7_act 26 = .ok (.getfield 74, 3) := by decide +kernel
theorem dX7_act_29 : decode cX7_act 29 = .ok (.getfield 90, 3) := by decide +kernel
theorem dX7_act_32 : decode cX7_act 32 = .ok (.iload_n 1, 1) := by decide +kernel
theorem dX7_act_33 : decode cX7_act 33 = .ok (.iaload, 1) := by decide +kernel
theorem dX7_act_34 : decode cX7_act 34 = .ok (.putfield 265, 3) := by decide +kernel
theorem dX7_act_37 : decode cX7_act 37 = .ok (.aload_n 0, 1) := by decide +kernel
theorem dX7_act_38 : decode cX7_act 38 = .ok (.getfield 35, 3) := by decide +kernel
theorem dX7_act_41 : decode cX7_act 41 = .ok (.aload_n 0, 1) := by decide +kernel
theorem dX7_act_42 : decode cX7_act 42 = .ok (.getfield 12, 3) := by decide +kernel
theorem dX7_act_45 : decode cX7_act 45 = .ok (.getfield 74, 3) := by decide +kernel
theorem dX7_act_48 : decode cX7_act 48 = .ok (.getfield 94, 3) := by decide +kernel
theorem dX7_act_51 : decode cX7_act 51 = .ok (.iload_n 1, 1) := by decide +kernel
theorem dX7_act_52 : decode cX7_act 52 = .ok (.iaload, 1) := by decide +kernel
theorem dX7_act_53 : decode cX7_act 53 = .ok (.putfield 268, 3) := by decide +kernel
theorem dX7_act_56 : decode cX7_act 56 = .ok (.aload_n 0, 1) := by decide +kernel
theorem dX7_act_57 : decode cX7_act 57 = .ok (.getfield 35, 3) := by decide +kernel
theorem dX7_act_60 : decode cX7_act 60 = .ok (.iload_n 1, 1) := by decide +kernel
theorem dX7_act_61 : decode cX7_act 61 = .ok (.putfield 271, 3) := by decide +kernel
theorem dX7_act_64 : decode cX7_act 64 = .ok (.iload_n 2, 1) := by decide +kernel
theorem dX7_act_65 : decode cX7_act 65 = .ok (.tableswitch 78 0 2 #[27, 44, 61], 27) := by decide +kernel
theorem dX7_act_92 : decode cX7_act 92 = .ok (.aload_n 0, 1) := by decide +kernel
theorem dX7_act_93 : decode cX7_act 93 = .ok (.getfield 35, 3) := by decide +kernel
theorem dX7_act_96 : decode cX7_act 96 = .ok (.aload_n 0, 1) := by decide +kernel
theorem dX7_act_97 : decode cX7_act 97 = .ok (.getfield 35, 3) := by decide +kernel
theorem dX7_act_100 : decode cX7_act 100 = .ok (.getfield 265, 3) := by decide +kernel
theorem dX7_act_103 : decode cX7_act 103 = .ok (.iload_n 3, 1) := by decide +kernel
theorem dX7_act_104 : decode cX7_act 104 = .ok (.iconst 0, 1) := by decide +kernel
theorem dX7_act_105 : decode cX7_act 105 = .ok (.invokevirtual 274, 3) := by decide +kernel
theorem dX7_act_108 : decode cX7_act 108 = .ok (.ireturn, 1) := by decide +kernel
theorem dX7_act_109 : decode cX7_act 109 = .ok (.aload_n 0, 1) := by decide +kernel
theorem dX7_act_110 : decode cX7_act 110 = .ok (.getfield 35, 3) := by decide +kernel
theorem dX7_act_113 : decode cX7_act 113 = .ok (.aload_n 0, 1) := by decide +kernel
theorem dX7_act_114 : decode cX7_act 114 = .ok (.getfield 35, 3) := by decide +kernel
theorem dX7_act_117 : decode cX7_act 117 = .ok (.getfield 265, 3) := by decide +kernel
theorem dX7_act_120 : decode cX7_act 120 = .ok (.iload_n 3, 1) := by decide +kernel
theorem dX7_act_121 : decode cX7_act 121 = .ok (.iconst 0, 1) := by decide +kernel
theorem dX7_act_122 : decode cX7_act 122 = .ok (.invokevirtual 277, 3) := by decide +kernel
theorem dX7_act_125 : decode cX7_act 125 = .ok (.ireturn, 1) := by decide +kernel
theorem dX7_act_126 : decode cX7_act 126 = .ok (.aload_n 0, 1) := by decide +kernel
theorem dX7_act_127 : decode cX7_act 127 = .ok (.getfield 35, 3) := by decide +kernel
theorem dX7_act_130 : decode cX7_act 130 = .ok (.aload_n 0, 1) := by decide +kernel
theorem dX7_act_131 : decode cX7_act 131 = .ok (.getfield 35, 3) := by decide +kernel
theorem dX7_act_134 : decode cX7_act 134 = .ok (.getfield 265, 3) := by decide +kernel
theorem dX7_act_137 : decode cX7_act 137 = .ok (.iload_n 3, 1) := by decide +kernel
theorem dX7_act_138 : decode cX7_act 138 = .ok (.iconst 0, 1) := by decide +kernel
theorem dX7_act_139 : decode cX7_act 139 = .ok (.invokevirtual 280, 3) := by decide +kernel
theorem dX7_act_142 : decode cX7_act 142 = .ok (.ireturn, 1) := by decide +kernel
theorem dX7_act_143 : decode cX7_act 143 = .ok (.iconst 0, 1) := by decide +kernel
theorem dX7_act_144 : decode cX7_act 144 = .ok (.ireturn, 1) := by decide +kernel
theorem dX7_trace_0 : decode cX7_trace 0 = .ok (.iload_n 1, 1) := by decide +kernel
theorem dX7_trace_1 : decode cX7_trace 1 = .ok (.ifCond .lt 20, 3) := by decide +kernel
theorem dX7_trace_4 : decode cX7_trace 4 = .ok (.iload_n 1, 1) := by decide +kernel
theorem dX7_trace_5 : decode cX7_trace 5 = .ok (.aload_n 0, 1) := by decide +kernel
theorem dX7_trace_6 : decode cX7_trace 6 = .ok (.getfield 35, 3) := by decide +kernel
theorem dX7_trace_9 : decode cX7_trace 9 = .ok (.getfield 262, 3) := by decide +kernel
theorem dX7_trace_12 : decode cX7_trace 12 = .ok (.if_icmp .ge 9, 3) := by decide +kernel
theorem dX7_trace_15 : decode cX7_trace 15 = .ok (.iload_n 1, 1) := by decide +kernel
theorem dX7_trace_16 : decode cX7_trace 16 = .ok (.bipush 20, 2) := by decide +kernel
theorem dX7_trace_18 : decode cX7_trace 18 = .ok (.if_icmp .lt 5, 3) := by decide +kernel
theorem dX7_trace_21 : decode cX7_trace 21 = .ok (.iconst (-1), 1) := by decide +kernel
theorem dX7_trace_22 : decode cX7_trace 22 = .ok (.ireturn, 1) := by decide +kernel
theorem dX7_trace_23 : decode cX7_trace 23 = .ok (.aload_n 0, 1) := by decide +kernel
theorem dX7_trace_24 : decode cX7_trace 24 = .ok (.getfield 35, 3) := by decide +kernel
theorem dX7_trace_27 : decode cX7_trace 27 = .ok (.getfield 283, 3) := by decide +kernel
theorem dX7_trace_30 : decode cX7_trace 30 = .ok (.iload_n 1, 1) := by decide +kernel
theorem dX7_trace_31 : decode cX7_trace 31 = .ok (.iaload, 1) := by decide +kernel
theorem dX7_trace_32 : decode cX7_trace 32 = .ok (.ireturn, 1) := by decide +kernel
set_option maxRecDepth 20000 in
theorem ggX7_as_X7_isPupil : GoodIn wsX7_as wsX7_isPupil := goodIn_r _ [6, 1, 14, 15, 16, 17, 18, 19, 20, 21, 22, 23, 24, 25, 26, 27, 28, 29, 30, 31, 32, 33, 34, 35, 36, 37, 38] (by decide +kernel) (by decide +kernel)
set_option maxRecDepth 20000 in
theorem gX7_as_X7_isPupil : GoodIn wsX7_as (wsV RX7 87 RX7 yX7_isPupil wsX7_isPupil) := goodIn_app (goodIn_of _ (by decide +kernel)) ggX7_as_X7_isPupil
set_option maxRecDepth 20000 in
theorem ggX7_as_X7_isKind : GoodIn wsX7_as wsX7_isKind := goodIn_r _ [9, 10] (by decide +kernel) (by decide +kernel)
set_option maxRecDepth 20000 in
theorem gX7_as_X7_isKind : GoodIn wsX7_as (va_wsS RX7 70 yX7_isKind wsX7_isKind) := goodIn_app (goodIn_of _ (by decide +kernel)) ggX7_as_X7_isKind
set_option maxRecDepth 20000 in
theorem ggX7_as_X7_isUnder : GoodIn wsX7_as wsX7_isUnder := goodIn_r _ [13, 10, 7, 8, 5, 9] (by decide +kernel) (by decide +kernel)
set_option maxRecDepth 20000 in
theorem gX7_as_X7_isUnder : GoodIn wsX7_as (va_wsS RX7 286 yX7_isUnder wsX7_isUnder) := goodIn_app (goodIn_of _ (by decide +kernel)) ggX7_as_X7_isUnder
theorem dX7_as_0 : decode cX7_as 0 = .ok (.aload_n 0, 1) := by decide +kernel
theorem dX7_as_1 : decode cX7_as 1 = .ok (.iload_n 1, 1) := by decide +kernel
theorem dX7_as_2 : decode cX7_as 2 = .ok (.invokevirtual 87, 3) := by decide +kernel
theorem dX7_as_5 : decode cX7_as 5 = .ok (.ifCond .eq 10, 3) := by decide +kernel
theorem dX7_as_8 : decode cX7_as 8 = .ok (.iload_n 2, 1) := by decide +kernel
theorem dX7_as_9 : decode cX7_as 9 = .ok (.invokestatic 70, 3) := by decide +kernel
theorem dX7_as_12 : decode cX7_as 12 = .ok (.ifCond .ne 5, 3) := by decide +kernel
theorem dX7_as_15 : decode cX7_as 15 = .ok (.iconst (-1), 1) := by decide +kernel
theorem dX7_as_16 : decode cX7_as 16 = .ok (.ireturn, 1) := by decide +kernel
theorem dX7_as_17 : decode cX7_as 17 = .ok (.aload_n 0, 1) := by decide +kernel
theorem dX7_as_18 : decode cX7_as 18 = .ok (.getfield 12, 3) := by decide +kernel
theorem dX7_as_21 : decode cX7_as 21 = .ok (.getfield 74, 3) := by decide +kernel
theorem dX7_as_24 : decode cX7_as 24 = .ok (.getfield 90, 3) := by decide +kernel
theorem dX7_as_27 : decode cX7_as 27 = .ok (.iload_n 1, 1) := by decide +kernel
theorem dX7_as_28 : decode cX7_as 28 = .ok (.iaload, 1) := by decide +kernel
theorem dX7_as_29 : decode cX7_as 29 = .ok (.iload_n 2, 1) := by decide +kernel
theorem dX7_as_30 : decode cX7_as 30 = .ok (.invokestatic 286, 3) := by decide +kernel
theorem dX7_as_33 : decode cX7_as 33 = .ok (.ifCond .eq 18, 3) := by decide +kernel
theorem dX7_as_36 : decode cX7_as 36 = .ok (.aload_n 0, 1) := by decide +kernel
theorem dX7_as_37 : decode cX7_as 37 = .ok (.getfield 12, 3) := by decide +kernel
theorem dX7_as_40 : decode cX7_as 40 = .ok (.getfield 74, 3) := by decide +kernel
theorem dX7_as_43 : decode cX7_as 43 = .ok (.getfield 94, 3) := by decide +kernel
theorem dX7_as_46 : decode cX7_as 46 = .ok (.iload_n 1, 1) := by decide +kernel
theorem dX7_as_47 : decode cX7_as 47 = .ok (.iaload, 1) := by decide +kernel
theorem dX7_as_48 : decode cX7_as 48 = .ok (.goto 5, 3) := by decide +kernel
theorem dX7_as_51 : decode cX7_as 51 = .ok (.bipush (-6), 2) := by decide +kernel
theorem dX7_as_53 : decode cX7_as 53 = .ok (.ireturn, 1) := by decide +kernel
set_option maxRecDepth 20000 in
theorem ggX7_image_X5_copyFrom : GoodIn wsX7_image wsX5_copyFrom := goodIn_r _ [8, 9, 10, 11, 12, 13, 14, 15, 16, 17, 18, 19, 20, 21, 22, 23, 24, 25, 26, 27, 28, 29, 30, 31, 32, 33, 34, 35, 36, 37, 38, 39, 40, 41, 42, 43, 44, 45, 46, 47, 48, 49, 50, 51, 52, 58, 59, 60, 61, 62, 63, 64, 65, 66, 67, 68, 69, 70, 71, 72, 73, 74, 75, 76, 77, 78, 79, 80] (by decide +kernel) (by decide +kernel)
set_option maxRecDepth 20000 in
theorem gX7_image_X5_copyFrom : GoodIn wsX7_image (wsV RX7 290 RX5 yX5_copyFrom wsX5_copyFrom) := goodIn_app (goodIn_of _ (by decide +kernel)) ggX7_image_X5_copyFrom
theorem dX7_image_0 : decode cX7_image 0 = .ok (.aload_n 0, 1) := by decide +kernel
theorem dX7_image_1 : decode cX7_image 1 = .ok (.getfield 18, 3) := by decide +kernel
theorem dX7_image_4 : decode cX7_image 4 = .ok (.aload_n 0, 1) := by decide +kernel
theorem dX7_image_5 : decode cX7_image 5 = .ok (.getfield 12, 3) := by decide +kernel
theorem dX7_image_8 : decode cX7_image 8 = .ok (.invokevirtual 290, 3) := by decide +kernel
theorem dX7_image_11 : decode cX7_image 11 = .ok (.aload_n 0, 1) := by decide +kernel
theorem dX7_image_12 : decode cX7_image 12 = .ok (.iconst 1, 1) := by decide +kernel
theorem dX7_image_13 : decode cX7_image 13 = .ok (.putfield 21, 3) := by decide +kernel
theorem dX7_image_16 : decode cX7_image 16 = .ok (.aload_n 0, 1) := by decide +kernel
theorem dX7_image_17 : decode cX7_image 17 = .ok (.getfield 12, 3) := by decide +kernel
theorem dX7_image_20 : decode cX7_image 20 = .ok (.getfield 74, 3) := by decide +kernel
theorem dX7_image_23 : decode cX7_image 23 = .ok (.getfield 78, 3) := by decide +kernel
theorem dX7_image_26 : decode cX7_image 26 = .ok (.ireturn, 1) := by decide +kernel
set_option maxRecDepth 20000 in
theorem ggX7_undo_X5_copyFrom : GoodIn wsX7_undo wsX5_copyFrom := goodIn_r _ [8, 9, 10, 11, 12, 13, 14, 15, 16, 17, 18, 19, 20, 21, 22, 23, 24, 25, 26, 27, 28, 29, 30, 31, 32, 33, 34, 35, 36, 37, 38, 39, 40, 41, 42, 43, 44, 45, 46, 47, 48, 49, 50, 51, 52, 58, 59, 60, 61, 62, 63, 64, 65, 66, 67, 68, 69, 70, 71, 72, 73, 74, 75, 76, 77, 78, 79, 80] (by decide +kernel) (by decide +kernel)
set_option maxRecDepth 20000 in
theorem gX7_undo_X5_copyFrom : GoodIn wsX7_undo (wsV RX7 290 RX5 yX5_copyFrom wsX5_copyFrom) := goodIn_app (goodIn_of _ (by decide +kernel)) ggX7_undo_X5_copyFrom
theorem dX7_undo_0 : decode cX7_undo 0 = .ok (.aload_n 0, 1) := by decide +kernel
theorem dX7_undo_1 : decode cX7_undo 1 = .ok (.getfield 21, 3) := by decide +kernel
theorem dX7_undo_4 : decode cX7_undo 4 = .ok (.ifCond .ne 6, 3) := by decide +kernel
theorem dX7_undo_7 : decode cX7_undo 7 = .ok (.bipush (-3), 2) := by decide +kernel
theorem dX7_undo_9 : decode cX7_undo 9 = .ok (.ireturn, 1) := by decide +kernel
theorem dX7_undo_10 : decode cX7_undo 10 = .ok (.aload_n 0, 1) := by decide +kernel
theorem dX7_undo_11 : decode cX7_undo 11 = .ok (.getfield 12, 3) := by decide +kernel
theorem dX7_undo_14 : decode cX7_undo 14 = .ok (.aload_n 0, 1) := by decide +kernel
theorem dX7_undo_15 : decode cX7_undo 15 = .ok (.getfield 18, 3) := by decide +kernel
theorem dX7_undo_18 : decode cX7_undo 18 = .ok (.invokevirtual 290, 3) := by decide +kernel
theorem dX7_undo_21 : decode cX7_undo 21 = .ok (.aload_n 0, 1) := by decide +kernel
theorem dX7_undo_22 : decode cX7_undo 22 = .ok (.getfield 12, 3) := by decide +kernel
theorem dX7_undo_25 : decode cX7_undo 25 = .ok (.getfield 74, 3) := by decide +kernel
theorem dX7_undo_28 : decode cX7_undo 28 = .ok (.getfield 78, 3) := by decide +kernel
theorem dX7_undo_31 : decode cX7_undo 31 = .ok (.ireturn, 1) := by decide +kernel
theorem dX7_count_0 : decode cX7_count 0 = .ok (.iload_n 1, 1) := by decide +kernel
theorem dX7_count_1 : decode cX7_count 1 = .ok (.tableswitch 111 0 6 #[43, 54, 62, 73, 84, 95, 103], 43) := by decide +kernel
theorem dX7_count_44 : decode cX7_count 44 = .ok (.aload_n 0, 1) := by decide +kernel
theorem dX7_count_45 : decode cX7_count 45 = .ok (.getfield 12, 3) := by decide +kernel
theorem dX7_count_48 : decode cX7_count 48 = .ok (.getfield 74, 3) := by decide +kernel
theorem dX7_count_51 : decode cX7_count 51 = .ok (.getfield 78, 3) := by decide +kernel
theorem dX7_count_54 : decode cX7_count 54 = .ok (.ireturn, 1) := by decide +kernel
theorem dX7_count_55 : decode cX7_count 55 = .ok (.aload_n 0, 1) := by decide +kernel
theorem dX7_count_56 : decode cX7_count 56 = .ok (.getfield 12, 3) := by decide +kernel
theorem dX7_count_59 : decode cX7_count 59 = .ok (.getfield 47, 3) := by decide +kernel
theorem dX7_count_62 : decode cX7_count 62 = .ok (.ireturn, 1) := by decide +kernel
theorem dX7_count_63 : decode cX7_count 63 = .ok (.aload_n 0, 1) := by decide +kernel
theorem dX7_count_64 : decode cX7_count 64 = .ok (.getfield 12, 3) := by decide +kernel
theorem dX7_count_67 : decode cX7_count 67 = .ok (.getfield 223, 3) := by decide +kernel
theorem dX7_count_70 : decode cX7_count 70 = .ok (.getfield 255, 3) := by decide +kernel
theorem dX7_count_73 : decode cX7_count 73 = .ok (.ireturn, 1) := by decide +kernel
theorem dX7_count_74 : decode cX7_count 74 = .ok (.aload_n 0, 1) := by decide +kernel
theorem dX7_count_75 : decode cX7_count 75 = .ok (.getfield 12, 3) := by decide +kernel
theorem dX7_count_78 : decode cX7_count 78 = .ok (.getfield 245, 3) := by decide +kernel
theorem dX7_count_81 : decode cX7_count 81 = .ok (.getfield 255, 3) := by decide +kernel
theorem dX7_count_84 : decode cX7_count 84 = .ok (.ireturn, 1) := by decide +kernel
theorem dX7_count_85 : decode cX7_count 85 = .ok (.aload_n 0, 1) := by decide +kernel
theorem dX7_count_86 : decode cX7_count 86 = .ok (.getfield 12, 3) := by decide +kernel
theorem dX7_count_89 : decode cX7_count 89 = .ok (.getfield 252, 3) := by decide +kernel
theorem dX7_count_92 : decode cX7_count 92 = .ok (.getfield 255, 3) := by decide +kernel
theorem dX7_count_95 : decode cX7_count 95 = .ok (.ireturn, 1) := by decide +kernel
theorem dX7_count_96 : decode cX7_count 96 = .ok (.aload_n 0, 1) := by decide +kernel
theorem dX7_count_97 : decode cX7_count 97 = .ok (.getfield 12, 3) := by decide +kernel
theorem dX7_count_100 : decode cX7_count 100 = .ok (.getfield 39, 3) := by decide +kernel
theorem dX7_count_103 : decode cX7_count 103 = .ok (.ireturn, 1) := by decide +kernel
theorem dX7_count_104 : decode cX7_count 104 = .ok (.aload_n 0, 1) := by decide +kernel
theorem dX7_count_105 : decode cX7_count 105 = .ok (.getfield 35, 3) := by decide +kernel
theorem dX7_count_108 : decode cX7_count 108 = .ok (.getfield 262, 3) := by decide +kernel
theorem dX7_count_111 : decode cX7_count 111 = .ok (.ireturn, 1) := by decide +kernel
theorem dX7_count_112 : decode cX7_count 112 = .ok (.iconst (-1), 1) := by decide +kernel
theorem dX7_count_113 : decode cX7_count 113 = .ok (.ireturn, 1) := by decide +kernel
theorem dX7_isPupil_0 : decode cX7_isPupil 0 = .ok (.iload_n 1, 1) := by decide +kernel
theorem dX7_isPupil_1 : decode cX7_isPupil 1 = .ok (.ifCond .lt 27, 3) := by decide +kernel
theorem dX7_isPupil_4 : decode cX7_isPupil 4 = .ok (.iload_n 1, 1) := by decide +kernel
theorem dX7_isPupil_5 : decode cX7_isPupil 5 = .ok (.aload_n 0, 1) := by decide +kernel
theorem dX7_isPupil_6 : decode cX7_isPupil 6 = .ok (.getfield 12, 3) := by decide +kernel
theorem dX7_isPupil_9 : decode cX7_isPupil 9 = .ok (.getfield 74, 3) := by decide +kernel
theorem dX7_isPupil_12 : decode cX7_isPupil 12 = .ok (.getfield 78, 3) := by decide +kernel
theorem dX7_isPupil_15 : decode cX7_isPupil 15 = .ok (.if_icmp .ge 13, 3) := by decide +kernel
theorem dX7_isPupil_18 : decode cX7_isPupil 18 = .ok (.iload_n 1, 1) := by decide +kernel
theorem dX7_isPupil_19 : decode cX7_isPupil 19 = .ok (.bipush 6, 2) := by decide +kernel
theorem dX7_isPupil_21 : decode cX7_isPupil 21 = .ok (.if_icmp .ge 7, 3) := by decide +kernel
theorem dX7_isPupil_24 : decode cX7_isPupil 24 = .ok (.iconst 1, 1) := by decide +kernel
theorem dX7_isPupil_25 : decode cX7_isPupil 25 = .ok (.goto 4, 3) := by decide +kernel
theorem dX7_isPupil_28 : decode cX7_isPupil 28 = .ok (.iconst 0, 1) := by decide +kernel
theorem dX7_isPupil_29 : decode cX7_isPupil 29 = .ok (.ireturn, 1) := by decide +kernel
theorem dX7_isKind_0 : decode cX7_isKind 0 = .ok (.iload_n 0, 1) := by decide +kernel
theorem dX7_isKind_1 : decode cX7_isKind 1 = .ok (.ifCond .lt 15, 3) := by decide +kernel
theorem dX7_isKind_4 : decode cX7_isKind 4 = .ok (.iload_n 0, 1) := by decide +kernel
theorem dX7_isKind_5 : decode cX7_isKind 5 = .ok (.getstatic 293, 3) := by decide +kernel
theorem dX7_isKind_8 : decode cX7_isKind 8 = .ok (.arraylength, 1) := by decide +kernel
theorem dX7_isKind_9 : decode cX7_isKind 9 = .ok (.if_icmp .ge 7, 3) := by decide +kernel
theorem dX7_isKind_12 : decode cX7_isKind 12 = .ok (.iconst 1, 1) := by decide +kernel
theorem dX7_isKind_13 : decode cX7_isKind 13 = .ok (.goto 4, 3) := by decide +kernel
theorem dX7_isKind_16 : decode cX7_isKind 16 = .ok (.iconst 0, 1) := by decide +kernel
theorem dX7_isKind_17 : decode cX7_isKind 17 = .ok (.ireturn, 1) := by decide +kernel
theorem dX7_isRule_0 : decode cX7_isRule 0 = .ok (.iload_n 0, 1) := by decide +kernel
theorem dX7_isRule_1 : decode cX7_isRule 1 = .ok (.ifCond .lt 12, 3) := by decide +kernel
theorem dX7_isRule_4 : decode cX7_isRule 4 = .ok (.iload_n 0, 1) := by decide +kernel
theorem dX7_isRule_5 : decode cX7_isRule 5 = .ok (.iconst 4, 1) := by decide +kernel
theorem dX7_isRule_6 : decode cX7_isRule 6 = .ok (.if_icmp .ge 7, 3) := by decide +kernel
theorem dX7_isRule_9 : decode cX7_isRule 9 = .ok (.iconst 1, 1) := by decide +kernel
theorem dX7_isRule_10 : decode cX7_isRule 10 = .ok (.goto 4, 3) := by decide +kernel
theorem dX7_isRule_13 : decode cX7_isRule 13 = .ok (.iconst 0, 1) := by decide +kernel
theorem dX7_isRule_14 : decode cX7_isRule 14 = .ok (.ireturn, 1) := by decide +kernel
theorem dX7_isPart_0 : decode cX7_isPart 0 = .ok (.iload_n 0, 1) := by decide +kernel
theorem dX7_isPart_1 : decode cX7_isPart 1 = .ok (.ifCond .eq 8, 3) := by decide +kernel
theorem dX7_isPart_4 : decode cX7_isPart 4 = .ok (.iload_n 0, 1) := by decide +kernel
theorem dX7_isPart_5 : decode cX7_isPart 5 = .ok (.iconst 1, 1) := by decide +kernel
theorem dX7_isPart_6 : decode cX7_isPart 6 = .ok (.if_icmp .ne 7, 3) := by decide +kernel
theorem dX7_isPart_9 : decode cX7_isPart 9 = .ok (.iconst 1, 1) := by decide +kernel
theorem dX7_isPart_10 : decode cX7_isPart 10 = .ok (.goto 4, 3) := by decide +kernel
theorem dX7_isPart_13 : decode cX7_isPart 13 = .ok (.iconst 0, 1) := by decide +kernel
theorem dX7_isPart_14 : decode cX7_isPart 14 = .ok (.ireturn, 1) := by decide +kernel
set_option maxRecDepth 20000 in
theorem ggX7_isUnder_X7_isKind : GoodIn wsX7_isUnder wsX7_isKind := goodIn_r _ [5, 1] (by decide +kernel) (by decide +kernel)
set_option maxRecDepth 20000 in
theorem gX7_isUnder_X7_isKind : GoodIn wsX7_isUnder (va_wsS RX7 70 yX7_isKind wsX7_isKind) := goodIn_app (goodIn_of _ (by decide +kernel)) ggX7_isUnder_X7_isKind
theorem dX7_isUnder_0 : decode cX7_isUnder 0 = .ok (.iload_n 0, 1) := by decide +kernel
theorem dX7_isUnder_1 : decode cX7_isUnder 1 = .ok (.istore_n 2, 1) := by decide +kernel
theorem dX7_isUnder_2 : decode cX7_isUnder 2 = .ok (.iconst 0, 1) := by decide +kernel
theorem dX7_isUnder_3 : decode cX7_isUnder 3 = .ok (.istore_n 3, 1) := by decide +kernel
theorem dX7_isUnder_4 : decode cX7_isUnder 4 = .ok (.iload_n 3, 1) := by decide +kernel
theorem dX7_isUnder_5 : decode cX7_isUnder 5 = .ok (.getstatic 293, 3) := by decide +kernel
theorem dX7_isUnder_8 : decode cX7_isUnder 8 = .ok (.arraylength, 1) := by decide +kernel
theorem dX7_isUnder_9 : decode cX7_isUnder 9 = .ok (.if_icmp .ge 29, 3) := by decide +kernel
theorem dX7_isUnder_12 : decode cX7_isUnder 12 = .ok (.iload_n 2, 1) := by decide +kernel
theorem dX7_isUnder_13 : decode cX7_isUnder 13 = .ok (.invokestatic 70, 3) := by decide +kernel
theorem dX7_isUnder_16 : decode cX7_isUnder 16 = .ok (.ifCond .eq 22, 3) := by decide +kernel
theorem dX7_isUnder_19 : decode cX7_isUnder 19 = .ok (.iload_n 2, 1) := by decide +kernel
theorem dX7_isUnder_20 : decode cX7_isUnder 20 = .ok (.iload_n 1, 1) := by decide +kernel
theorem dX7_isUnder_21 : decode cX7_isUnder 21 = .ok (.if_icmp .ne 5, 3) := by decide +kernel
theorem dX7_isUnder_24 : decode cX7_isUnder 24 = .ok (.iconst 1, 1) := by decide +kernel
theorem dX7_isUnder_25 : decode cX7_isUnder 25 = .ok (.ireturn, 1) := by decide +kernel
theorem dX7_isUnder_26 : decode cX7_isUnder 26 = .ok (.getstatic 293, 3) := by decide +kernel
theorem dX7_isUnder_29 : decode cX7_isUnder 29 = .ok (.iload_n 2, 1) := by decide +kernel
theorem dX7_isUnder_30 : decode cX7_isUnder 30 = .ok (.iaload, 1) := by decide +kernel
theorem dX7_isUnder_31 : decode cX7_isUnder 31 = .ok (.istore_n 2, 1) := by decide +kernel
theorem dX7_isUnder_32 : decode cX7_isUnder 32 = .ok (.iinc 3 1, 3) := by decide +kernel
theorem dX7_isUnder_35 : decode cX7_isUnder 35 = .ok (.goto (-31), 3) := by decide +kernel
theorem dX7_isUnder_38 : decode cX7_isUnder 38 = .ok (.iconst 0, 1) := by decide +kernel
theorem dX7_isUnder_39 : decode cX7_isUnder 39 = .ok (.ireturn, 1) := by decide +kernel
theorem dX7_leastOf_0 : decode cX7_leastOf 0 = .ok (.iconst 0, 1) := by decide +kernel
theorem dX7_leastOf_1 : decode cX7_leastOf 1 = .ok (.istore_n 1, 1) := by decide +kernel
theorem dX7_leastOf_2 : decode cX7_leastOf 2 = .ok (.iload_n 1, 1) := by decide +kernel
theorem dX7_leastOf_3 : decode cX7_leastOf 3 = .ok (.bipush 9, 2) := by decide +kernel
theorem dX7_leastOf_5 : decode cX7_leastOf 5 = .ok (.if_icmp .gt 20, 3) := by decide +kernel
theorem dX7_leastOf_8 : decode cX7_leastOf 8 = .ok (.iload_n 0, 1) := by decide +kernel
theorem dX7_leastOf_9 : decode cX7_leastOf 9 = .ok (.iload_n 1, 1) := by decide +kernel
theorem dX7_leastOf_10 : decode cX7_leastOf 10 = .ok (.ishr, 1) := by decide +kernel
theorem dX7_leastOf_11 : decode cX7_leastOf 11 = .ok (.iconst 1, 1) := by decide +kernel
theorem dX7_leastOf_12 : decode cX7_leastOf 12 = .ok (.iand, 1) := by decide +kernel
theorem dX7_leastOf_13 : decode cX7_leastOf 13 = .ok (.iconst 1, 1) := by decide +kernel
theorem dX7_leastOf_14 : decode cX7_leastOf 14 = .ok (.if_icmp .ne 5, 3) := by decide +kernel
theorem dX7_leastOf_17 : decode cX7_leastOf 17 = .ok (.iload_n 1, 1) := by decide +kernel
theorem dX7_leastOf_18 : decode cX7_leastOf 18 = .ok (.ireturn, 1) := by decide +kernel
theorem dX7_leastOf_19 : decode cX7_leastOf 19 = .ok (.iinc 1 1, 3) := by decide +kernel
theorem dX7_leastOf_22 : decode cX7_leastOf 22 = .ok (.goto (-20), 3) := by decide +kernel
theorem dX7_leastOf_25 : decode cX7_leastOf 25 = .ok (.bipush (-5), 2) := by decide +kernel
theorem dX7_leastOf_27 : decode cX7_leastOf 27 = .ok (.ireturn, 1) := by decide +kernel
theorem dX7_inLowestTerms_0 : decode cX7_inLowestTerms 0 = .ok (.lload_n 0, 1) := by decide +kernel
theorem dX7_inLowestTerms_1 : decode cX7_inLowestTerms 1 = .ok (.invokestatic 296, 3) := by decide +kernel
theorem dX7_inLowestTerms_4 : decode cX7_inLowestTerms 4 = .ok (.lstore 5, 2) := by decide +kernel
theorem dX7_inLowestTerms_6 : decode cX7_inLowestTerms 6 = .ok (.lload_n 2, 1) := by decide +kernel
theorem dX7_inLowestTerms_7 : decode cX7_inLowestTerms 7 = .ok (.lstore 7, 2) := by decide +kernel
theorem dX7_inLowestTerms_9 : decode cX7_inLowestTerms 9 = .ok (.iconst 0, 1) := by decide +kernel
theorem dX7_inLowestTerms_10 : decode cX7_inLowestTerms 10 = .ok (.istore 9, 2) := by decide +kernel
theorem dX7_inLowestTerms_12 : decode cX7_inLowestTerms 12 = .ok (.iload 9, 2) := by decide +kernel
theorem dX7_inLowestTerms_14 : decode cX7_inLowestTerms 14 = .ok (.bipush 100, 2) := by decide +kernel
theorem dX7_inLowestTerms_16 : decode cX7_inLowestTerms 16 = .ok (.if_icmp .ge 31, 3) := by decide +kernel
theorem dX7_inLowestTerms_19 : decode cX7_inLowestTerms 19 = .ok (.lload 7, 2) := by decide +kernel
theorem dX7_inLowestTerms_21 : decode cX7_inLowestTerms 21 = .ok (.lconst 0, 1) := by decide +kernel
theorem dX7_inLowestTerms_22 : decode cX7_inLowestTerms 22 = .ok (.lcmp, 1) := by decide +kernel
theorem dX7_inLowestTerms_23 : decode cX7_inLowestTerms 23 = .ok (.ifCond .eq 24, 3) := by decide +kernel
theorem dX7_inLowestTerms_26 : decode cX7_inLowestTerms 26 = .ok (.lload 5, 2) := by decide +kernel
theorem dX7_inLowestTerms_28 : decode cX7_inLowestTerms 28 = .ok (.lload 7, 2) := by decide +kernel
theorem dX7_inLowestTerms_30 : decode cX7_inLowestTerms 30 = .ok (.lrem, 1) := by decide +kernel
theorem dX7_inLowestTerms_31 : decode cX7_inLowestTerms 31 = .ok (.lstore 10, 2) := by decide +kernel
theorem dX7_inLowestTerms_33 : decode cX7_inLowestTerms 33 = .ok (.lload 7, 2) := by decide +kernel
theorem dX7_inLowestTerms_35 : decode cX7_inLowestTerms 35 = .ok (.lstore 5, 2) := by decide +kernel
theorem dX7_inLowestTerms_37 : decode cX7_inLowestTerms 37 = .ok (.lload 10, 2) := by decide +kernel
theorem dX7_inLowestTerms_39 : decode cX7_inLowestTerms 39 = .ok (.lstore 7, 2) := by decide +kernel
theorem dX7_inLowestTerms_41 : decode cX7_inLowestTerms 41 = .ok (.iinc 9 1, 3) := by decide +kernel
theorem dX7_inLowestTerms_44 : decode cX7_inLowestTerms 44 = .ok (.goto (-32), 3) := by decide +kernel
theorem dX7_inLowestTerms_47 : decode cX7_inLowestTerms 47 = .ok (.lload 5, 2) := by decide +kernel
theorem dX7_inLowestTerms_49 : decode cX7_inLowestTerms 49 = .ok (.lconst 0, 1) := by decide +kernel
theorem dX7_inLowestTerms_50 : decode cX7_inLowestTerms 50 = .ok (.lcmp, 1) := by decide +kernel
theorem dX7_inLowestTerms_51 : decode cX7_inLowestTerms 51 = .ok (.ifCond .ne 7, 3) := by decide +kernel
theorem dX7_inLowestTerms_54 : decode cX7_inLowestTerms 54 = .ok (.ldc2_w 214, 3) := by decide +kernel
theorem dX7_inLowestTerms_57 : decode cX7_inLowestTerms 57 = .ok (.lreturn, 1) := by decide +kernel
theorem dX7_inLowestTerms_58 : decode cX7_inLowestTerms 58 = .ok (.iload 4, 2) := by decide +kernel
theorem dX7_inLowestTerms_60 : decode cX7_inLowestTerms 60 = .ok (.ifCond .ne 7, 3) := by decide +kernel
theorem dX7_inLowestTerms_63 : decode cX7_inLowestTerms 63 = .ok (.lload_n 0, 1) := by decide +kernel
theorem dX7_inLowestTerms_64 : decode cX7_inLowestTerms 64 = .ok (.goto 4, 3) := by decide +kernel
theorem dX7_inLowestTerms_67 : decode cX7_inLowestTerms 67 = .ok (.lload_n 2, 1) := by decide +kernel
theorem dX7_inLowestTerms_68 : decode cX7_inLowestTerms 68 = .ok (.lload 5, 2) := by decide +kernel
theorem dX7_inLowestTerms_70 : decode cX7_inLowestTerms 70 = .ok (.ldiv, 1) := by decide +kernel
theorem dX7_inLowestTerms_71 : decode cX7_inLowestTerms 71 = .ok (.lreturn, 1) := by decide +kernel
theorem dX8_init_0 : decode cX8_init 0 = .ok (.aload_n 0, 1) := by decide +kernel
theorem dX8_init_1 : decode cX8_init 1 = .ok (.invokespecial 3, 3) := by decide +kernel
theorem dX8_init_4 : decode cX8_init 4 = .ok (.aload_n 0, 1) := by decide +kernel
theorem dX8_init_5 : decode cX8_init 5 = .ok (.sipush 926, 3) := by decide +kernel
theorem dX8_init_8 : decode cX8_init 8 = .ok (.newarray .int, 2) := by decide +kernel
theorem dX8_init_10 : decode cX8_init 10 = .ok (.putfield 9, 3) := by decide +kernel
theorem dX8_init_13 : decode cX8_init 13 = .ok (.aload_n 0, 1) := by decide +kernel
theorem dX8_init_14 : decode cX8_init 14 = .ok (.sipush 926, 3) := by decide +kernel
theorem dX8_init_17 : decode cX8_init 17 = .ok (.newarray .int, 2) := by decide +kernel
theorem dX8_init_19 : decode cX8_init 19 = .ok (.putfield 15, 3) := by decide +kernel
theorem dX8_init_22 : decode cX8_init 22 = .ok (.aload_n 0, 1) := by decide +kernel
theorem dX8_init_23 : decode cX8_init 23 = .ok (.bipush 20, 2) := by decide +kernel
theorem dX8_init_25 : decode cX8_init 25 = .ok (.newarray .int, 2) := by decide +kernel
theorem dX8_init_27 : decode cX8_init 27 = .ok (.putfield 18, 3) := by decide +kernel
theorem dX8_init_30 : decode cX8_init 30 = .ok (.aload_n 0, 1) := by decide +kernel
theorem dX8_init_31 : decode cX8_init 31 = .ok (.bipush 6, 2) := by decide +kernel
theorem dX8_init_33 : decode cX8_init 33 = .ok (.newarray .int, 2) := by decide +kernel
theorem dX8_init_35 : decode cX8_init 35 = .ok (.putfield 21, 3) := by decide +kernel
theorem dX8_init_38 : decode cX8_init 38 = .ok (.aload_n 0, 1) := by decide +kernel
theorem dX8_init_39 : decode cX8_init 39 = .ok (.bipush 64, 2) := by decide +kernel
theorem dX8_init_41 : decode cX8_init 41 = .ok (.newarray .boolean, 2) := by decide +kernel
theorem dX8_init_43 : decode cX8_init 43 = .ok (.putfield 24, 3) := by decide +kernel
theorem dX8_init_46 : decode cX8_init 46 = .ok (.aload_n 0, 1) := by decide +kernel
theorem dX8_init_47 : decode cX8_init 47 = .ok (.bipush 6, 2) := by decide +kernel
theorem dX8_init_49 : decode cX8_init 49 = .ok (.newarray .int, 2) := by decide +kernel
theorem dX8_init_51 : decode cX8_init 51 = .ok (.putfield 28, 3) := by decide +kernel
theorem dX8_init_54 : decode cX8_init 54 = .ok (.aload_n 0, 1) := by decide +kernel
theorem dX8_init_55 : decode cX8_init 55 = .ok (.bipush 20, 2) := by decide +kernel
theorem dX8_init_57 : decode cX8_init 57 = .ok (.newarray .int, 2) := by decide +kernel
theorem dX8_init_59 : decode cX8_init 59 = .ok (.putfield 31, 3) := by decide +kernel
theorem dX8_init_62 : decode cX8_init 62 = .ok (.aload_n 0, 1) := by decide +kernel
theorem dX8_init_63 : decode cX8_init 63 = .ok (.getfield 9, 3) := by decide +kernel
theorem dX8_init_66 : decode cX8_init 66 = .ok (.bipush 26, 2) := by decide +kernel
theorem dX8_init_68 : decode cX8_init 68 = .ok (.iconst (-1), 1) := by decide +kernel
theorem dX8_init_69 : decode cX8_init 69 = .ok (.iastore, 1) := by decide +kernel
theorem dX8_init_70 : decode cX8_init 70 = .ok (.return_, 1) := by decide +kernel
theorem dX8_in_0 : decode cX8_in 0 = .ok (.iload_n 0, 1) := by decide +kernel
theorem dX8_in_1 : decode cX8_in 1 = .ok (.iload_n 1, 1) := by decide +kernel
theorem dX8_in_2 : decode cX8_in 2 = .ok (.if_icmp .lt 12, 3) := by decide +kernel
theorem dX8_in_5 : decode cX8_in 5 = .ok (.iload_n 0, 1) := by decide +kernel
theorem dX8_in_6 : decode cX8_in 6 = .ok (.iload_n 2, 1) := by decide +kernel
theorem dX8_in_7 : decode cX8_in 7 = .ok (.if_icmp .gt 7, 3) := by decide +kernel
theorem dX8_in_10 : decode cX8_in 10 = .ok (.iconst 1, 1) := by decide +kernel
theorem dX8_in_11 : decode cX8_in 11 = .ok (.goto 4, 3) := by decide +kernel
theorem dX8_in_14 : decode cX8_in 14 = .ok (.iconst 0, 1) := by decide +kernel
theorem dX8_in_15 : decode cX8_in 15 = .ok (.ireturn, 1) := by decide +kernel
theorem dX8_within_0 : decode cX8_within 0 = .ok (.iload_n 0, 1) := by decide +kernel
theorem dX8_within_1 : decode cX8_within 1 = .ok (.iload_n 1, 1) := by decide +kernel
theorem dX8_within_2 : decode cX8_within 2 = .ok (.if_icmp .ge 7, 3) := by decide +kernel
theorem dX8_within_5 : decode cX8_within 5 = .ok (.iload_n 1, 1) := by decide +kernel
theorem dX8_within_6 : decode cX8_within 6 = .ok (.goto 13, 3) := by decide +kernel
theorem dX8_within_9 : decode cX8_within 9 = .ok (.iload_n 0, 1) := by decide +kernel
theorem dX8_within_10 : decode cX8_within 10 = .ok (.iload_n 2, 1) := by decide +kernel
theorem dX8_within_11 : decode cX8_within 11 = .ok (.if_icmp .le 7, 3) := by decide +kernel
theorem dX8_within_14 : decode cX8_within 14 = .ok (.iload_n 2, 1) := by decide +kernel
theorem dX8_within_15 : decode cX8_within 15 = .ok (.goto 4, 3) := by decide +kernel
theorem dX8_within_18 : decode cX8_within 18 = .ok (.iload_n 0, 1) := by decide +kernel
theorem dX8_within_19 : decode cX8_within 19 = .ok (.ireturn, 1) := by decide +kernel
theorem dX8_size_0 : decode cX8_size 0 = .ok (.iload_n 0, 1) := by decide +kernel
theorem dX8_size_1 : decode cX8_size 1 = .ok (.ifCond .ge 8, 3) := by decide +kernel
theorem dX8_size_4 : decode cX8_size 4 = .ok (.iload_n 0, 1) := by decide +kernel
theorem dX8_size_5 : decode cX8_size 5 = .ok (.ineg, 1) := by decide +kernel
theorem dX8_size_6 : decode cX8_size 6 = .ok (.goto 4, 3) := by decide +kernel
theorem dX8_size_9 : decode cX8_size 9 = .ok (.iload_n 0, 1) := by decide +kernel
theorem dX8_size_10 : decode cX8_size 10 = .ok (.ireturn, 1) := by decide +kernel
set_option maxRecDepth 20000 in
theorem ggX8_isPupil_X8_in : GoodIn wsX8_isPupil wsX8_in := goodIn_r _ [5] (by decide +kernel) (by decide +kernel)
set_option maxRecDepth 20000 in
theorem gX8_isPupil_X8_in : GoodIn wsX8_isPupil (va_wsS RX8 38 yX8_in wsX8_in) := goodIn_app (goodIn_of _ (by decide +kernel)) ggX8_isPupil_X8_in
theorem dX8_isPupil_0 : decode cX8_isPupil 0 = .ok (.iload_n 1, 1) := by decide +kernel
theorem dX8_isPupil_1 : decode cX8_isPupil 1 = .ok (.iconst 0, 1) := by decide +kernel
theorem dX8_isPupil_2 : decode cX8_isPupil 2 = .ok (.aload_n 0, 1) := by decide +kernel
theorem dX8_isPupil_3 : decode cX8_isPupil 3 = .ok (.getfield 9, 3) := by decide +kernel
theorem dX8_isPupil_6 : decode cX8_isPupil 6 = .ok (.bipush 20, 2) := by decide +kernel
theorem dX8_isPupil_8 : decode cX8_isPupil 8 = .ok (.iaload, 1) := by decide +kernel
theorem dX8_isPupil_9 : decode cX8_isPupil 9 = .ok (.iconst 1, 1) := by decide +kernel
theorem dX8_isPupil_10 : decode cX8_isPupil 10 = .ok (.isub, 1) := by decide +kernel
theorem dX8_isPupil_11 : decode cX8_isPupil 11 = .ok (.invokestatic 38, 3) := by decide +kernel
theorem dX8_isPupil_14 : decode cX8_isPupil 14 = .ok (.ireturn, 1) := by decide +kernel
theorem dX8_keeps_0 : decode cX8_keeps 0 = .ok (.iconst 0, 1) := by decide +kernel
theorem dX8_keeps_1 : decode cX8_keeps 1 = .ok (.istore_n 1, 1) := by decide +kernel
theorem dX8_keeps_2 : decode cX8_keeps 2 = .ok (.iload_n 1, 1) := by decide +kernel
theorem dX8_keeps_3 : decode cX8_keeps 3 = .ok (.bipush 20, 2) := by decide +kernel
theorem dX8_keeps_5 : decode cX8_keeps 5 = .ok (.if_icmp .ge 21, 3) := by decide +kernel
theorem dX8_keeps_8 : decode cX8_keeps 8 = .ok (.aload_n 0, 1) := by decide +kernel
theorem dX8_keeps_9 : decode cX8_keeps 9 = .ok (.getfield 18, 3) := by decide +kernel
theorem dX8_keeps_12 : decode cX8_keeps 12 = .ok (.iload_n 1, 1) := by decide +kernel
theorem dX8_keeps_13 : decode cX8_keeps 13 = .ok (.aload_n 0, 1) := by decide +kernel
theorem dX8_keeps_14 : decode cX8_keeps 14 = .ok (.getfield 9, 3) := by decide +kernel
theorem dX8_keeps_17 : decode cX8_keeps 17 = .ok (.iload_n 1, 1) := by decide +kernel
theorem dX8_keeps_18 : decode cX8_keeps 18 = .ok (.iaload, 1) := by decide +kernel
theorem dX8_keeps_19 : decode cX8_keeps 19 = .ok (.iastore, 1) := by decide +kernel
theorem dX8_keeps_20 : decode cX8_keeps 20 = .ok (.iinc 1 1, 3) := by decide +kernel
theorem dX8_keeps_23 : decode cX8_keeps 23 = .ok (.goto (-21), 3) := by decide +kernel
theorem dX8_keeps_26 : decode cX8_keeps 26 = .ok (.return_, 1) := by decide +kernel
theorem dX8_goesBack_0 : decode cX8_goesBack 0 = .ok (.iconst 0, 1) := by decide +kernel
theorem dX8_goesBack_1 : decode cX8_goesBack 1 = .ok (.istore_n 1, 1) := by decide +kernel
theorem dX8_goesBack_2 : decode cX8_goesBack 2 = .ok (.iload_n 1, 1) := by decide +kernel
theorem dX8_goesBack_3 : decode cX8_goesBack 3 = .ok (.bipush 20, 2) := by decide +kernel
theorem dX8_goesBack_5 : decode cX8_goesBack 5 = .ok (.if_icmp .ge 21, 3) := by decide +kernel
theorem dX8_goesBack_8 : decode cX8_goesBack 8 = .ok (.aload_n 0, 1) := by decide +kernel
theorem dX8_goesBack_9 : decode cX8_goesBack 9 = .ok (.getfield 9, 3) := by decide +kernel
theorem dX8_goesBack_12 : decode cX8_goesBack 12 = .ok (.iload_n 1, 1) := by decide +kernel
theorem dX8_goesBack_13 : decode cX8_goesBack 13 = .ok (.aload_n 0, 1) := by decide +kernel
theorem dX8_goesBack_14 : decode cX8_goesBack 14 = .ok (.getfield 18, 3) := by decide +kernel
theorem dX8_goesBack_17 : decode cX8_goesBack 17 = .ok (.iload_n 1, 1) := by decide +kernel
theorem dX8_goesBack_18 : decode cX8_goesBack 18 = .ok (.iaload, 1) := by decide +kernel
theorem dX8_goesBack_19 : decode cX8_goesBack 19 = .ok (.iastore, 1) := by decide +kernel
theorem dX8_goesBack_20 : decode cX8_goesBack 20 = .ok (.iinc 1 1, 3) := by decide +kernel
theorem dX8_goesBack_23 : decode cX8_goesBack 23 = .ok (.goto (-21), 3) := by decide +kernel
theorem dX8_goesBack_26 : decode cX8_goesBack 26 = .ok (.return_, 1) := by decide +kernel
set_option maxRecDepth 20000 in
theorem ggX8_feed_X8_in : GoodIn wsX8_feed wsX8_in := goodIn_r _ [5] (by decide +kernel) (by decide +kernel)
set_option maxRecDepth 20000 in
theorem gX8_feed_X8_in : GoodIn wsX8_feed (va_wsS RX8 38 yX8_in wsX8_in) := goodIn_app (goodIn_of _ (by decide +kernel)) ggX8_feed_X8_in
theorem dX8_feed_0 : decode cX8_feed 0 = .ok (.iload_n 1, 1) := by decide +kernel
theorem dX8_feed_1 : decode cX8_feed 1 = .ok (.iconst 0, 1) := by decide +kernel
theorem dX8_feed_2 : decode cX8_feed 2 = .ok (.bipush 127, 2) := by decide +kernel
theorem dX8_feed_4 : decode cX8_feed 4 = .ok (.invokestatic 38, 3) := by decide +kernel
theorem dX8_feed_7 : decode cX8_feed 7 = .ok (.ifCond .ne 6, 3) := by decide +kernel
theorem dX8_feed_10 : decode cX8_feed 10 = .ok (.bipush (-2), 2) := by decide +kernel
theorem dX8_feed_12 : decode cX8_feed 12 = .ok (.ireturn, 1) := by decide +kernel
theorem dX8_feed_13 : decode cX8_feed 13 = .ok (.aload_n 0, 1) := by decide +kernel
theorem dX8_feed_14 : decode cX8_feed 14 = .ok (.getfield 9, 3) := by decide +kernel
theorem dX8_feed_17 : decode cX8_feed 17 = .ok (.bipush 25, 2) := by decide +kernel
theorem dX8_feed_19 : decode cX8_feed 19 = .ok (.iaload, 1) := by decide +kernel
theorem dX8_feed_20 : decode cX8_feed 20 = .ok (.bipush 100, 2) := by decide +kernel
theorem dX8_feed_22 : decode cX8_feed 22 = .ok (.if_icmp .ne 6, 3) := by decide +kernel
theorem dX8_feed_25 : decode cX8_feed 25 = .ok (.bipush (-4), 2) := by decide +kernel
theorem dX8_feed_27 : decode cX8_feed 27 = .ok (.ireturn, 1) := by decide +kernel
theorem dX8_feed_28 : decode cX8_feed 28 = .ok (.aload_n 0, 1) := by decide +kernel
theorem dX8_feed_29 : decode cX8_feed 29 = .ok (.getfield 9, 3) := by decide +kernel
theorem dX8_feed_32 : decode cX8_feed 32 = .ok (.bipush 111, 2) := by decide +kernel
theorem dX8_feed_34 : decode cX8_feed 34 = .ok (.aload_n 0, 1) := by decide +kernel
theorem dX8_feed_35 : decode cX8_feed 35 = .ok (.getfield 9, 3) := by decide +kernel
theorem dX8_feed_38 : decode cX8_feed 38 = .ok (.bipush 25, 2) := by decide +kernel
theorem dX8_feed_40 : decode cX8_feed 40 = .ok (.iaload, 1) := by decide +kernel
theorem dX8_feed_41 : decode cX8_feed 41 = .ok (.iadd, 1) := by decide +kernel
theorem dX8_feed_42 : decode cX8_feed 42 = .ok (.iload_n 1, 1) := by decide +kernel
theorem dX8_feed_43 : decode cX8_feed 43 = .ok (.iastore, 1) := by decide +kernel
theorem dX8_feed_44 : decode cX8_feed 44 = .ok (.aload_n 0, 1) := by decide +kernel
theorem dX8_feed_45 : decode cX8_feed 45 = .ok (.getfield 9, 3) := by decide +kernel
theorem dX8_feed_48 : decode cX8_feed 48 = .ok (.bipush 25, 2) := by decide +kernel
theorem dX8_feed_50 : decode cX8_feed 50 = .ok (.dup2, 1) := by decide +kernel
theorem dX8_feed_51 : decode cX8_feed 51 = .ok (.iaload, 1) := by decide +kernel
theorem dX8_feed_52 : decode cX8_feed 52 = .ok (.iconst 1, 1) := by decide +kernel
theorem dX8_feed_53 : decode cX8_feed 53 = .ok (.iadd, 1) := by decide +kernel
theorem dX8_feed_54 : decode cX8_feed 54 = .ok (.iastore, 1) := by decide +kernel
theorem dX8_feed_55 : decode cX8_feed 55 = .ok (.aload_n 0, 1) := by decide +kernel
theorem dX8_feed_56 : decode cX8_feed 56 = .ok (.getfield 9, 3) := by decide +kernel
theorem dX8_feed_59 : decode cX8_feed 59 = .ok (.bipush 25, 2) := by decide +kernel
theorem dX8_feed_61 : decode cX8_feed 61 = .ok (.iaload, 1) := by decide +kernel
theorem dX8_feed_62 : decode cX8_feed 62 = .ok (.ireturn, 1) := by decide +kernel
theorem dX8_here_0 : decode cX8_here 0 = .ok (.aload_n 0, 1) := by decide +kernel
theorem dX8_here_1 : decode cX8_here 1 = .ok (.getfield 42, 3) := by decide +kernel
theorem dX8_here_4 : decode cX8_here 4 = .ok (.aload_n 0, 1) := by decide +kernel
theorem dX8_here_5 : decode cX8_here 5 = .ok (.getfield 45, 3) := by decide +kernel
theorem dX8_here_8 : decode cX8_here 8 = .ok (.if_icmp .ge 18, 3) := by decide +kernel
theorem dX8_here_11 : decode cX8_here 11 = .ok (.aload_n 0, 1) := by decide +kernel
theorem dX8_here_12 : decode cX8_here 12 = .ok (.getfield 9, 3) := by decide +kernel
theorem dX8_here_15 : decode cX8_here 15 = .ok (.bipush 111, 2) := by decide +kernel
theorem dX8_here_17 : decode cX8_here 17 = .ok (.aload_n 0, 1) := by decide +kernel
theorem dX8_here_18 : decode cX8_here 18 = .ok (.getfield 42, 3) := by decide +kernel
theorem dX8_here_21 : decode cX8_here 21 = .ok (.iadd, 1) := by decide +kernel
theorem dX8_here_22 : decode cX8_here 22 = .ok (.iaload, 1) := by decide +kernel
theorem dX8_here_23 : decode cX8_here 23 = .ok (.goto 4, 3) := by decide +kernel
theorem dX8_here_26 : decode cX8_here 26 = .ok (.iconst (-1), 1) := by decide +kernel
theorem dX8_here_27 : decode cX8_here 27 = .ok (.ireturn, 1) := by decide +kernel
set_option maxRecDepth 20000 in
theorem ggX8_must_X8_here : GoodIn wsX8_must wsX8_here := goodIn_r _ [7, 2, 8, 9, 10, 11, 12, 13, 14, 15, 16, 17, 18, 19, 20, 21, 22, 23, 24, 25, 26, 27, 28, 29] (by decide +kernel) (by decide +kernel)
set_option maxRecDepth 20000 in
theorem gX8_must_X8_here : GoodIn wsX8_must (wsV RX8 52 RX8 yX8_here wsX8_here) := goodIn_app (goodIn_of _ (by decide +kernel)) ggX8_must_X8_here
theorem dX8_must_0 : decode cX8_must 0 = .ok (.aload_n 0, 1) := by decide +kernel
theorem dX8_must_1 : decode cX8_must 1 = .ok (.aload_n 0, 1) := by decide +kernel
theorem dX8_must_2 : decode cX8_must 2 = .ok (.getfield 48, 3) := by decide +kernel
theorem dX8_must_5 : decode cX8_must 5 = .ok (.ifCond .ne 11, 3) := by decide +kernel
theorem dX8_must_8 : decode cX8_must 8 = .ok (.aload_n 0, 1) := by decide +kernel
theorem dX8_must_9 : decode cX8_must 9 = .ok (.invokevirtual 52, 3) := by decide +kernel
theorem dX8_must_12 : decode cX8_must 12 = .ok (.iload_n 1, 1) := by decide +kernel
theorem dX8_must_13 : decode cX8_must 13 = .ok (.if_icmp .eq 7, 3) := by decide +kernel
theorem dX8_must_16 : decode cX8_must 16 = .ok (.iconst 1, 1) := by decide +kernel
theorem dX8_must_17 : decode cX8_must 17 = .ok (.goto 4, 3) := by decide +kernel
theorem dX8_must_20 : decode cX8_must 20 = .ok (.iconst 0, 1) := by decide +kernel
theorem dX8_must_21 : decode cX8_must 21 = .ok (.putfield 48, 3) := by decide +kernel
theorem dX8_must_24 : decode cX8_must 24 = .ok (.aload_n 0, 1) := by decide +kernel
theorem dX8_must_25 : decode cX8_must 25 = .ok (.dup, 1) := by decide +kernel
theorem dX8_must_26 : decode cX8_must 26 = .ok (.getfield 42, 3) := by decide +kernel
theorem dX8_must_29 : decode cX8_must 29 = .ok (.aload_n 0, 1) := by decide +kernel
theorem dX8_must_30 : decode cX8_must 30 = .ok (.getfield 48, 3) := by decide +kernel
theorem dX8_must_33 : decode cX8_must 33 = .ok (.ifCond .eq 7, 3) := by decide +kernel
theorem dX8_must_36 : decode cX8_must 36 = .ok (.iconst 0, 1) := by decide +kernel
theorem dX8_must_37 : decode cX8_must 37 = .ok (.goto 4, 3) := by decide +kernel
theorem dX8_must_40 : decode cX8_must 40 = .ok (.iconst 1, 1) := by decide +kernel
theorem dX8_must_41 : decode cX8_must 41 = .ok (.iadd, 1) := by decide +kernel
theorem dX8_must_42 : decode cX8_must 42 = .ok (.putfield 42, 3) := by decide +kernel
theorem dX8_must_45 : decode cX8_must 45 = .ok (.return_, 1) := by decide +kernel
set_option maxRecDepth 20000 in
theorem ggX8_spells_J0_length_8abf5 : GoodIn wsX8_spells wsJ0_length_8abf5 := goodIn_r _ [5, 6, 7, 8, 9, 4, 10, 11, 12] (by decide +kernel) (by decide +kernel)
set_option maxRecDepth 20000 in
theorem gX8_spells_J0_length_8abf5 : GoodIn wsX8_spells (wsV RX8 56 RJ0 yJ0_length_8abf5 wsJ0_length_8abf5) := goodIn_app (goodIn_of _ (by decide +kernel)) ggX8_spells_J0_length_8abf5
set_option maxRecDepth 20000 in
theorem ggX8_spells_J0_charAt_5068e : GoodIn wsX8_spells wsJ0_charAt_5068e := goodIn_r _ [16, 6, 17, 18, 19, 4, 20, 11, 12, 21, 22, 23, 24, 25, 26, 27, 28, 29, 30, 31, 32, 33, 34, 35, 36, 37, 38, 39, 40, 41, 42, 43, 44, 45, 46, 47, 48, 49] (by decide +kernel) (by decide +kernel)
set_option maxRecDepth 20000 in
theorem gX8_spells_J0_charAt_5068e : GoodIn wsX8_spells (wsV RX8 61 RJ0 yJ0_charAt_5068e wsJ0_charAt_5068e) := goodIn_app (goodIn_of _ (by decide +kernel)) ggX8_spells_J0_charAt_5068e
set_option maxRecDepth 20000 in
theorem ggX8_spells_X8_must : GoodIn wsX8_spells wsX8_must := goodIn_r _ [54, 55, 56, 57, 58, 59, 53, 60, 61, 62, 63, 64, 65, 66, 67, 68, 69, 70, 71, 72, 73, 74, 75, 76, 77, 78, 79, 80, 81, 82] (by decide +kernel) (by decide +kernel)
set_option maxRecDepth 20000 in
theorem gX8_spells_X8_must : GoodIn wsX8_spells (wsV RX8 65 RX8 yX8_must wsX8_must) := goodIn_app (goodIn_of _ (by decide +kernel)) ggX8_spells_X8_must
