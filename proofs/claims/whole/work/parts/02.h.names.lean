theorem dX8_of_0 : decode cX8_of 0 = .ok (.aload_n 0, 1) := by decide +kernel
theorem dX8_of_1 : decode cX8_of 1 = .ok (.iload_n 1, 1) := by decide +kernel
theorem dX8_of_2 : decode cX8_of 2 = .ok (.invokevirtual 165, 3) := by decide +kernel
theorem dX8_of_5 : decode cX8_of 5 = .ok (.ifCond .ne 5, 3) := by decide +kernel
theorem dX8_of_8 : decode cX8_of 8 = .ok (.iconst (-1), 1) := by decide +kernel
theorem dX8_of_9 : decode cX8_of 9 = .ok (.ireturn, 1) := by decide +kernel
theorem dX8_of_10 : decode cX8_of 10 = .ok (.iload_n 2, 1) := by decide +kernel
theorem dX8_of_11 : decode cX8_of 11 = .ok (.tableswitch 136 0 9 #[53, 63, 73, 83, 93, 102, 112, 118, 124, 130], 53) := by decide +kernel
theorem dX8_of_64 : decode cX8_of 64 = .ok (.aload_n 0, 1) := by decide +kernel
theorem dX8_of_65 : decode cX8_of 65 = .ok (.getfield 9, 3) := by decide +kernel
theorem dX8_of_68 : decode cX8_of 68 = .ok (.bipush 27, 2) := by decide +kernel
theorem dX8_of_70 : decode cX8_of 70 = .ok (.iload_n 1, 1) := by decide +kernel
theorem dX8_of_71 : decode cX8_of 71 = .ok (.iadd, 1) := by decide +kernel
theorem dX8_of_72 : decode cX8_of 72 = .ok (.iaload, 1) := by decide +kernel
theorem dX8_of_73 : decode cX8_of 73 = .ok (.ireturn, 1) := by decide +kernel
theorem dX8_of_74 : decode cX8_of 74 = .ok (.aload_n 0, 1) := by decide +kernel
theorem dX8_of_75 : decode cX8_of 75 = .ok (.getfield 9, 3) := by decide +kernel
theorem dX8_of_78 : decode cX8_of 78 = .ok (.bipush 33, 2) := by decide +kernel
theorem dX8_of_80 : decode cX8_of 80 = .ok (.iload_n 1, 1) := by decide +kernel
theorem dX8_of_81 : decode cX8_of 81 = .ok (.iadd, 1) := by decide +kernel
theorem dX8_of_82 : decode cX8_of 82 = .ok (.iaload, 1) := by decide +kernel
theorem dX8_of_83 : decode cX8_of 83 = .ok (.ireturn, 1) := by decide +kernel
theorem dX8_of_84 : decode cX8_of 84 = .ok (.aload_n 0, 1) := by decide +kernel
theorem dX8_of_85 : decode cX8_of 85 = .ok (.getfield 9, 3) := by decide +kernel
theorem dX8_of_88 : decode cX8_of 88 = .ok (.bipush 39, 2) := by decide +kernel
theorem dX8_of_90 : decode cX8_of 90 = .ok (.iload_n 1, 1) := by decide +kernel
theorem dX8_of_91 : decode cX8_of 91 = .ok (.iadd, 1) := by decide +kernel
theorem dX8_of_92 : decode cX8_of 92 = .ok (.iaload, 1) := by decide +kernel
theorem dX8_of_93 : decode cX8_of 93 = .ok (.ireturn, 1) := by decide +kernel
theorem dX8_of_94 : decode cX8_of 94 = .ok (.aload_n 0, 1) := by decide +kernel
theorem dX8_of_95 : decode cX8_of 95 = .ok (.getfield 9, 3) := by decide +kernel
theorem dX8_of_98 : decode cX8_of 98 = .ok (.bipush 8, 2) := by decide +kernel
theorem dX8_of_100 : decode cX8_of 100 = .ok (.iload_n 1, 1) := by decide +kernel
theorem dX8_of_101 : decode cX8_of 101 = .ok (.iadd, 1) := by decide +kernel
theorem dX8_of_102 : decode cX8_of 102 = .ok (.iaload, 1) := by decide +kernel
theorem dX8_of_103 : decode cX8_of 103 = .ok (.ireturn, 1) := by decide +kernel
theorem dX8_of_104 : decode cX8_of 104 = .ok (.aload_n 0, 1) := by decide +kernel
theorem dX8_of_105 : decode cX8_of 105 = .ok (.getfield 9, 3) := by decide +kernel
theorem dX8_of_108 : decode cX8_of 108 = .ok (.iconst 2, 1) := by decide +kernel
theorem dX8_of_109 : decode cX8_of 109 = .ok (.iload_n 1, 1) := by decide +kernel
theorem dX8_of_110 : decode cX8_of 110 = .ok (.iadd, 1) := by decide +kernel
theorem dX8_of_111 : decode cX8_of 111 = .ok (.iaload, 1) := by decide +kernel
theorem dX8_of_112 : decode cX8_of 112 = .ok (.ireturn, 1) := by decide +kernel
theorem dX8_of_113 : decode cX8_of 113 = .ok (.aload_n 0, 1) := by decide +kernel
theorem dX8_of_114 : decode cX8_of 114 = .ok (.getfield 9, 3) := by decide +kernel
theorem dX8_of_117 : decode cX8_of 117 = .ok (.bipush 14, 2) := by decide +kernel
theorem dX8_of_119 : decode cX8_of 119 = .ok (.iload_n 1, 1) := by decide +kernel
theorem dX8_of_120 : decode cX8_of 120 = .ok (.iadd, 1) := by decide +kernel
theorem dX8_of_121 : decode cX8_of 121 = .ok (.iaload, 1) := by decide +kernel
theorem dX8_of_122 : decode cX8_of 122 = .ok (.ireturn, 1) := by decide +kernel
theorem dX8_of_123 : decode cX8_of 123 = .ok (.aload_n 0, 1) := by decide +kernel
theorem dX8_of_124 : decode cX8_of 124 = .ok (.iload_n 1, 1) := by decide +kernel
theorem dX8_of_125 : decode cX8_of 125 = .ok (.invokevirtual 135, 3) := by decide +kernel
theorem dX8_of_128 : decode cX8_of 128 = .ok (.ireturn, 1) := by decide +kernel
theorem dX8_of_129 : decode cX8_of 129 = .ok (.aload_n 0, 1) := by decide +kernel
theorem dX8_of_130 : decode cX8_of 130 = .ok (.iload_n 1, 1) := by decide +kernel
theorem dX8_of_131 : decode cX8_of 131 = .ok (.invokevirtual 169, 3) := by decide +kernel
theorem dX8_of_134 : decode cX8_of 134 = .ok (.ireturn, 1) := by decide +kernel
theorem dX8_of_135 : decode cX8_of 135 = .ok (.aload_n 0, 1) := by decide +kernel
theorem dX8_of_136 : decode cX8_of 136 = .ok (.iload_n 1, 1) := by decide +kernel
theorem dX8_of_137 : decode cX8_of 137 = .ok (.invokevirtual 147, 3) := by decide +kernel
theorem dX8_of_140 : decode cX8_of 140 = .ok (.ireturn, 1) := by decide +kernel
theorem dX8_of_141 : decode cX8_of 141 = .ok (.aload_n 0, 1) := by decide +kernel
theorem dX8_of_142 : decode cX8_of 142 = .ok (.iload_n 1, 1) := by decide +kernel
theorem dX8_of_143 : decode cX8_of 143 = .ok (.invokevirtual 150, 3) := by decide +kernel
theorem dX8_of_146 : decode cX8_of 146 = .ok (.ireturn, 1) := by decide +kernel
theorem dX8_of_147 : decode cX8_of 147 = .ok (.iconst (-1), 1) := by decide +kernel
theorem dX8_of_148 : decode cX8_of 148 = .ok (.ireturn, 1) := by decide +kernel
set_option maxRecDepth 20000 in
theorem ggX8_row_X8_isPupil : GoodIn wsX8_row wsX8_isPupil := goodIn_r _ [6, 1, 7, 8, 5, 9, 10, 11, 12, 13, 14, 15, 16, 17, 18, 19, 20, 21, 22, 23, 24, 25, 26, 27, 28, 29] (by decide +kernel) (by decide +kernel)
set_option maxRecDepth 20000 in
theorem gX8_row_X8_isPupil : GoodIn wsX8_row (wsV RX8 165 RX8 yX8_isPupil wsX8_isPupil) := goodIn_app (goodIn_of _ (by decide +kernel)) ggX8_row_X8_isPupil
set_option maxRecDepth 20000 in
theorem ggX8_row_X8_in : GoodIn wsX8_row wsX8_in := goodIn_r _ [9] (by decide +kernel) (by decide +kernel)
set_option maxRecDepth 20000 in
theorem gX8_row_X8_in : GoodIn wsX8_row (va_wsS RX8 38 yX8_in wsX8_in) := goodIn_app (goodIn_of _ (by decide +kernel)) ggX8_row_X8_in
theorem dX8_row_0 : decode cX8_row 0 = .ok (.aload_n 0, 1) := by decide +kernel
theorem dX8_row_1 : decode cX8_row 1 = .ok (.iload_n 1, 1) := by decide +kernel
theorem dX8_row_2 : decode cX8_row 2 = .ok (.invokevirtual 165, 3) := by decide +kernel
theorem dX8_row_5 : decode cX8_row 5 = .ok (.ifCond .eq 12, 3) := by decide +kernel
theorem dX8_row_8 : decode cX8_row 8 = .ok (.iload_n 2, 1) := by decide +kernel
theorem dX8_row_9 : decode cX8_row 9 = .ok (.iconst 0, 1) := by decide +kernel
theorem dX8_row_10 : decode cX8_row 10 = .ok (.iconst 3, 1) := by decide +kernel
theorem dX8_row_11 : decode cX8_row 11 = .ok (.invokestatic 38, 3) := by decide +kernel
theorem dX8_row_14 : decode cX8_row 14 = .ok (.ifCond .ne 5, 3) := by decide +kernel
theorem dX8_row_17 : decode cX8_row 17 = .ok (.iconst (-1), 1) := by decide +kernel
theorem dX8_row_18 : decode cX8_row 18 = .ok (.ireturn, 1) := by decide +kernel
theorem dX8_row_19 : decode cX8_row 19 = .ok (.iload_n 3, 1) := by decide +kernel
theorem dX8_row_20 : decode cX8_row 20 = .ok (.iconst 0, 1) := by decide +kernel
theorem dX8_row_21 : decode cX8_row 21 = .ok (.bipush 9, 2) := by decide +kernel
theorem dX8_row_23 : decode cX8_row 23 = .ok (.invokestatic 38, 3) := by decide +kernel
theorem dX8_row_26 : decode cX8_row 26 = .ok (.ifCond .ne 6, 3) := by decide +kernel
theorem dX8_row_29 : decode cX8_row 29 = .ok (.bipush (-2), 2) := by decide +kernel
theorem dX8_row_31 : decode cX8_row 31 = .ok (.ireturn, 1) := by decide +kernel
theorem dX8_row_32 : decode cX8_row 32 = .ok (.aload_n 0, 1) := by decide +kernel
theorem dX8_row_33 : decode cX8_row 33 = .ok (.getfield 9, 3) := by decide +kernel
theorem dX8_row_36 : decode cX8_row 36 = .ok (.bipush 27, 2) := by decide +kernel
theorem dX8_row_38 : decode cX8_row 38 = .ok (.iload_n 1, 1) := by decide +kernel
theorem dX8_row_39 : decode cX8_row 39 = .ok (.iadd, 1) := by decide +kernel
theorem dX8_row_40 : decode cX8_row 40 = .ok (.iaload, 1) := by decide +kernel
theorem dX8_row_41 : decode cX8_row 41 = .ok (.bipush 6, 2) := by decide +kernel
theorem dX8_row_43 : decode cX8_row 43 = .ok (.if_icmp .eq 6, 3) := by decide +kernel
theorem dX8_row_46 : decode cX8_row 46 = .ok (.bipush (-3), 2) := by decide +kernel
theorem dX8_row_48 : decode cX8_row 48 = .ok (.ireturn, 1) := by decide +kernel
theorem dX8_row_49 : decode cX8_row 49 = .ok (.aload_n 0, 1) := by decide +kernel
theorem dX8_row_50 : decode cX8_row 50 = .ok (.getfield 9, 3) := by decide +kernel
theorem dX8_row_53 : decode cX8_row 53 = .ok (.bipush 45, 2) := by decide +kernel
theorem dX8_row_55 : decode cX8_row 55 = .ok (.iconst 4, 1) := by decide +kernel
theorem dX8_row_56 : decode cX8_row 56 = .ok (.iload_n 1, 1) := by decide +kernel
theorem dX8_row_57 : decode cX8_row 57 = .ok (.imul, 1) := by decide +kernel
theorem dX8_row_58 : decode cX8_row 58 = .ok (.iadd, 1) := by decide +kernel
theorem dX8_row_59 : decode cX8_row 59 = .ok (.iload_n 2, 1) := by decide +kernel
theorem dX8_row_60 : decode cX8_row 60 = .ok (.iadd, 1) := by decide +kernel
theorem dX8_row_61 : decode cX8_row 61 = .ok (.iaload, 1) := by decide +kernel
theorem dX8_row_62 : decode cX8_row 62 = .ok (.istore 4, 2) := by decide +kernel
theorem dX8_row_64 : decode cX8_row 64 = .ok (.aload_n 0, 1) := by decide +kernel
theorem dX8_row_65 : decode cX8_row 65 = .ok (.getfield 9, 3) := by decide +kernel
theorem dX8_row_68 : decode cX8_row 68 = .ok (.bipush 45, 2) := by decide +kernel
theorem dX8_row_70 : decode cX8_row 70 = .ok (.iconst 4, 1) := by decide +kernel
theorem dX8_row_71 : decode cX8_row 71 = .ok (.iload_n 1, 1) := by decide +kernel
theorem dX8_row_72 : decode cX8_row 72 = .ok (.imul, 1) := by decide +kernel
theorem dX8_row_73 : decode cX8_row 73 = .ok (.iadd, 1) := by decide +kernel
theorem dX8_row_74 : decode cX8_row 74 = .ok (.iload_n 2, 1) := by decide +kernel
theorem dX8_row_75 : decode cX8_row 75 = .ok (.iadd, 1) := by decide +kernel
theorem dX8_row_76 : decode cX8_row 76 = .ok (.iload_n 3, 1) := by decide +kernel
theorem dX8_row_77 : decode cX8_row 77 = .ok (.iastore, 1) := by decide +kernel
theorem dX8_row_78 : decode cX8_row 78 = .ok (.iload 4, 2) := by decide +kernel
theorem dX8_row_80 : decode cX8_row 80 = .ok (.ireturn, 1) := by decide +kernel
set_option maxRecDepth 20000 in
theorem ggX8_will_X8_isPupil : GoodIn wsX8_will wsX8_isPupil := goodIn_r _ [6, 1, 7, 8, 5, 9, 10, 11, 12, 13, 14, 15, 16, 17, 18, 19, 20, 21, 22, 23, 24, 25, 26, 27, 28, 29] (by decide +kernel) (by decide +kernel)
set_option maxRecDepth 20000 in
theorem gX8_will_X8_isPupil : GoodIn wsX8_will (wsV RX8 165 RX8 yX8_isPupil wsX8_isPupil) := goodIn_app (goodIn_of _ (by decide +kernel)) ggX8_will_X8_isPupil
set_option maxRecDepth 20000 in
theorem ggX8_will_X8_in : GoodIn wsX8_will wsX8_in := goodIn_r _ [9] (by decide +kernel) (by decide +kernel)
set_option maxRecDepth 20000 in
theorem gX8_will_X8_in : GoodIn wsX8_will (va_wsS RX8 38 yX8_in wsX8_in) := goodIn_app (goodIn_of _ (by decide +kernel)) ggX8_will_X8_in
theorem dX8_will_0 : decode cX8_will 0 = .ok (.aload_n 0, 1) := by decide +kernel
theorem dX8_will_1 : decode cX8_will 1 = .ok (.iload_n 1, 1) := by decide +kernel
theorem dX8_will_2 : decode cX8_will 2 = .ok (.invokevirtual 165, 3) := by decide +kernel
theorem dX8_will_5 : decode cX8_will 5 = .ok (.ifCond .ne 5, 3) := by decide +kernel
theorem dX8_will_8 : decode cX8_will 8 = .ok (.iconst (-1), 1) := by decide +kernel
theorem dX8_will_9 : decode cX8_will 9 = .ok (.ireturn, 1) := by decide +kernel
theorem dX8_will_10 : decode cX8_will 10 = .ok (.iload_n 2, 1) := by decide +kernel
theorem dX8_will_11 : decode cX8_will 11 = .ok (.iconst 0, 1) := by decide +kernel
theorem dX8_will_12 : decode cX8_will 12 = .ok (.bipush 99, 2) := by decide +kernel
theorem dX8_will_14 : decode cX8_will 14 = .ok (.invokestatic 38, 3) := by decide +kernel
theorem dX8_will_17 : decode cX8_will 17 = .ok (.ifCond .ne 6, 3) := by decide +kernel
theorem dX8_will_20 : decode cX8_will 20 = .ok (.bipush (-2), 2) := by decide +kernel
theorem dX8_will_22 : decode cX8_will 22 = .ok (.ireturn, 1) := by decide +kernel
theorem dX8_will_23 : decode cX8_will 23 = .ok (.aload_n 0, 1) := by decide +kernel
theorem dX8_will_24 : decode cX8_will 24 = .ok (.getfield 9, 3) := by decide +kernel
theorem dX8_will_27 : decode cX8_will 27 = .ok (.bipush 8, 2) := by decide +kernel
theorem dX8_will_29 : decode cX8_will 29 = .ok (.iload_n 1, 1) := by decide +kernel
theorem dX8_will_30 : decode cX8_will 30 = .ok (.iadd, 1) := by decide +kernel
theorem dX8_will_31 : decode cX8_will 31 = .ok (.iaload, 1) := by decide +kernel
theorem dX8_will_32 : decode cX8_will 32 = .ok (.istore_n 3, 1) := by decide +kernel
theorem dX8_will_33 : decode cX8_will 33 = .ok (.aload_n 0, 1) := by decide +kernel
theorem dX8_will_34 : decode cX8_will 34 = .ok (.getfield 9, 3) := by decide +kernel
theorem dX8_will_37 : decode cX8_will 37 = .ok (.bipush 8, 2) := by decide +kernel
theorem dX8_will_39 : decode cX8_will 39 = .ok (.iload_n 1, 1) := by decide +kernel
theorem dX8_will_40 : decode cX8_will 40 = .ok (.iadd, 1) := by decide +kernel
theorem dX8_will_41 : decode cX8_will 41 = .ok (.iload_n 2, 1) := by decide +kernel
theorem dX8_will_42 : decode cX8_will 42 = .ok (.iastore, 1) := by decide +kernel
theorem dX8_will_43 : decode cX8_will 43 = .ok (.iload_n 3, 1) := by decide +kernel
theorem dX8_will_44 : decode cX8_will 44 = .ok (.ireturn, 1) := by decide +kernel
set_option maxRecDepth 20000 in
theorem ggX8_out_X8_isPupil : GoodIn wsX8_out wsX8_isPupil := goodIn_r _ [6, 1, 7, 8, 5, 9, 10, 11, 12, 13, 14, 15, 16, 17, 18, 19, 20, 21, 22, 23, 24, 25, 26, 27, 28, 29] (by decide +kernel) (by decide +kernel)
set_option maxRecDepth 20000 in
theorem gX8_out_X8_isPupil : GoodIn wsX8_out (wsV RX8 165 RX8 yX8_isPupil wsX8_isPupil) := goodIn_app (goodIn_of _ (by decide +kernel)) ggX8_out_X8_isPupil
theorem dX8_out_0 : decode cX8_out 0 = .ok (.aload_n 0, 1) := by decide +kernel
theorem dX8_out_1 : decode cX8_out 1 = .ok (.iload_n 1, 1) := by decide +kernel
theorem dX8_out_2 : decode cX8_out 2 = .ok (.invokevirtual 165, 3) := by decide +kernel
theorem dX8_out_5 : decode cX8_out 5 = .ok (.ifCond .ne 5, 3) := by decide +kernel
theorem dX8_out_8 : decode cX8_out 8 = .ok (.iconst (-1), 1) := by decide +kernel
theorem dX8_out_9 : decode cX8_out 9 = .ok (.ireturn, 1) := by decide +kernel
theorem dX8_out_10 : decode cX8_out 10 = .ok (.aload_n 0, 1) := by decide +kernel
theorem dX8_out_11 : decode cX8_out 11 = .ok (.getfield 9, 3) := by decide +kernel
theorem dX8_out_14 : decode cX8_out 14 = .ok (.bipush 14, 2) := by decide +kernel
theorem dX8_out_16 : decode cX8_out 16 = .ok (.iload_n 1, 1) := by decide +kernel
theorem dX8_out_17 : decode cX8_out 17 = .ok (.iadd, 1) := by decide +kernel
theorem dX8_out_18 : decode cX8_out 18 = .ok (.iaload, 1) := by decide +kernel
theorem dX8_out_19 : decode cX8_out 19 = .ok (.istore_n 3, 1) := by decide +kernel
theorem dX8_out_20 : decode cX8_out 20 = .ok (.aload_n 0, 1) := by decide +kernel
theorem dX8_out_21 : decode cX8_out 21 = .ok (.getfield 9, 3) := by decide +kernel
theorem dX8_out_24 : decode cX8_out 24 = .ok (.bipush 14, 2) := by decide +kernel
theorem dX8_out_26 : decode cX8_out 26 = .ok (.iload_n 1, 1) := by decide +kernel
theorem dX8_out_27 : decode cX8_out 27 = .ok (.iadd, 1) := by decide +kernel
theorem dX8_out_28 : decode cX8_out 28 = .ok (.iload_n 2, 1) := by decide +kernel
theorem dX8_out_29 : decode cX8_out 29 = .ok (.ifCond .eq 7, 3) := by decide +kernel
theorem dX8_out_32 : decode cX8_out 32 = .ok (.iconst 1, 1) := by decide +kernel
theorem dX8_out_33 : decode cX8_out 33 = .ok (.goto 4, 3) := by decide +kernel
theorem dX8_out_36 : decode cX8_out 36 = .ok (.iconst 0, 1) := by decide +kernel
theorem dX8_out_37 : decode cX8_out 37 = .ok (.iastore, 1) := by decide +kernel
theorem dX8_out_38 : decode cX8_out 38 = .ok (.iload_n 3, 1) := by decide +kernel
theorem dX8_out_39 : decode cX8_out 39 = .ok (.ireturn, 1) := by decide +kernel
set_option maxRecDepth 20000 in
theorem ggX8_told_X8_goalNow : GoodIn wsX8_told wsX8_goalNow := goodIn_r _ [6, 7, 8, 9, 5, 10, 1, 11, 12, 13, 34, 35, 36, 37, 38, 39, 40, 41, 42, 43, 44, 45, 46, 47, 48, 49, 50, 51, 52, 53] (by decide +kernel) (by decide +kernel)
set_option maxRecDepth 20000 in
theorem gX8_told_X8_goalNow : GoodIn wsX8_told (wsV RX8 153 RX8 yX8_goalNow wsX8_goalNow) := goodIn_app (goodIn_of _ (by decide +kernel)) ggX8_told_X8_goalNow
set_option maxRecDepth 20000 in
theorem ggX8_told_X8_tellsOf : GoodIn wsX8_told wsX8_tellsOf := goodIn_r _ [10, 1, 34, 35, 36, 37, 38, 39, 40, 41, 42, 43, 44, 45, 46, 47, 48, 49, 50, 51, 52, 53] (by decide +kernel) (by decide +kernel)
set_option maxRecDepth 20000 in
theorem gX8_told_X8_tellsOf : GoodIn wsX8_told (wsV RX8 123 RX8 yX8_tellsOf wsX8_tellsOf) := goodIn_app (goodIn_of _ (by decide +kernel)) ggX8_told_X8_tellsOf
set_option maxRecDepth 20000 in
theorem ggX8_told_X8_allHours : GoodIn wsX8_told wsX8_allHours := goodIn_r _ [17, 1, 34, 35, 36, 37, 38, 39, 40, 41, 42, 43, 44, 45, 46, 47, 48, 49, 50, 51, 52, 53] (by decide +kernel) (by decide +kernel)
set_option maxRecDepth 20000 in
theorem gX8_told_X8_allHours : GoodIn wsX8_told (wsV RX8 144 RX8 yX8_allHours wsX8_allHours) := goodIn_app (goodIn_of _ (by decide +kernel)) ggX8_told_X8_allHours
set_option maxRecDepth 20000 in
theorem ggX8_told_X8_allClaims : GoodIn wsX8_told wsX8_allClaims := goodIn_r _ [21, 1, 22, 23, 24, 5, 25, 26, 27, 28, 29, 14, 15, 16, 17, 11, 12, 13, 34, 35, 36, 37, 38, 39, 40, 41, 42, 43, 44, 45, 46, 47, 48, 49, 50, 51, 52, 53] (by decide +kernel) (by decide +kernel)
set_option maxRecDepth 20000 in
theorem gX8_told_X8_allClaims : GoodIn wsX8_told (wsV RX8 172 RX8 yX8_allClaims wsX8_allClaims) := goodIn_app (goodIn_of _ (by decide +kernel)) ggX8_told_X8_allClaims
set_option maxRecDepth 20000 in
theorem ggX8_told_X8_baseNow : GoodIn wsX8_told wsX8_baseNow := goodIn_r _ [33, 1, 2, 3, 4, 5, 6, 7, 8, 9, 10, 11, 12, 13, 34, 35, 36, 37, 38, 39, 40, 41, 42, 43, 44, 45, 46, 47, 48, 49, 50, 51, 52, 53] (by decide +kernel) (by decide +kernel)
set_option maxRecDepth 20000 in
theorem gX8_told_X8_baseNow : GoodIn wsX8_told (wsV RX8 156 RX8 yX8_baseNow wsX8_baseNow) := goodIn_app (goodIn_of _ (by decide +kernel)) ggX8_told_X8_baseNow
theorem dX8_told_0 : decode cX8_told 0 = .ok (.iload_n 1, 1) := by decide +kernel
theorem dX8_told_1 : decode cX8_told 1 = .ok (.tableswitch 86 0 6 #[43, 50, 57, 62, 71, 76, 81], 43) := by decide +kernel
theorem dX8_told_44 : decode cX8_told 44 = .ok (.aload_n 0, 1) := by decide +kernel
theorem dX8_told_45 : decode cX8_told 45 = .ok (.getfield 9, 3) := by decide +kernel
theorem dX8_told_48 : decode cX8_told 48 = .ok (.iconst 0, 1) := by decide +kernel
theorem dX8_told_49 : decode cX8_told 49 = .ok (.iaload, 1) := by decide +kernel
theorem dX8_told_50 : decode cX8_told 50 = .ok (.ireturn, 1) := by decide +kernel
theorem dX8_told_51 : decode cX8_told 51 = .ok (.aload_n 0, 1) := by decide +kernel
theorem dX8_told_52 : decode cX8_told 52 = .ok (.getfield 9, 3) := by decide +kernel
theorem dX8_told_55 : decode cX8_told 55 = .ok (.iconst 1, 1) := by decide +kernel
theorem dX8_told_56 : decode cX8_told 56 = .ok (.iaload, 1) := by decide +kernel
theorem dX8_told_57 : decode cX8_told 57 = .ok (.ireturn, 1) := by decide +kernel
theorem dX8_told_58 : decode cX8_told 58 = .ok (.aload_n 0, 1) := by decide +kernel
theorem dX8_told_59 : decode cX8_told 59 = .ok (.invokevirtual 153, 3) := by decide +kernel
theorem dX8_told_62 : decode cX8_told 62 = .ok (.ireturn, 1) := by decide +kernel
theorem dX8_told_63 : decode cX8_told 63 = .ok (.aload_n 0, 1) := by decide +kernel
theorem dX8_told_64 : decode cX8_told 64 = .ok (.sipush 216, 3) := by decide +kernel
theorem dX8_told_67 : decode cX8_told 67 = .ok (.iconst 2, 1) := by decide +kernel
theorem dX8_told_68 : decode cX8_told 68 = .ok (.invokevirtual 123, 3) := by decide +kernel
theorem dX8_told_71 : decode cX8_told 71 = .ok (.ireturn, 1) := by decide +kernel
theorem dX8_told_72 : decode cX8_told 72 = .ok (.aload_n 0, 1) := by decide +kernel
theorem dX8_told_73 : decode cX8_told 73 = .ok (.invokevirtual 144, 3) := by decide +kernel
theorem dX8_told_76 : decode cX8_told 76 = .ok (.ireturn, 1) := by decide +kernel
theorem dX8_told_77 : decode cX8_told 77 = .ok (.aload_n 0, 1) := by decide +kernel
theorem dX8_told_78 : decode cX8_told 78 = .ok (.invokevirtual 172, 3) := by decide +kernel
theorem dX8_told_81 : decode cX8_told 81 = .ok (.ireturn, 1) := by decide +kernel
theorem dX8_told_82 : decode cX8_told 82 = .ok (.aload_n 0, 1) := by decide +kernel
theorem dX8_told_83 : decode cX8_told 83 = .ok (.invokevirtual 156, 3) := by decide +kernel
theorem dX8_told_86 : decode cX8_told 86 = .ok (.ireturn, 1) := by decide +kernel
theorem dX8_told_87 : decode cX8_told 87 = .ok (.iconst (-1), 1) := by decide +kernel
theorem dX8_told_88 : decode cX8_told 88 = .ok (.ireturn, 1) := by decide +kernel
set_option maxRecDepth 20000 in
theorem ggX8_isRule_X8_in : GoodIn wsX8_isRule wsX8_in := goodIn_r _ [4] (by decide +kernel) (by decide +kernel)
set_option maxRecDepth 20000 in
theorem gX8_isRule_X8_in : GoodIn wsX8_isRule (va_wsS RX8 38 yX8_in wsX8_in) := goodIn_app (goodIn_of _ (by decide +kernel)) ggX8_isRule_X8_in
theorem dX8_isRule_0 : decode cX8_isRule 0 = .ok (.iload_n 0, 1) := by decide +kernel
theorem dX8_isRule_1 : decode cX8_isRule 1 = .ok (.iconst 0, 1) := by decide +kernel
theorem dX8_isRule_2 : decode cX8_isRule 2 = .ok (.iconst 3, 1) := by decide +kernel
theorem dX8_isRule_3 : decode cX8_isRule 3 = .ok (.invokestatic 38, 3) := by decide +kernel
theorem dX8_isRule_6 : decode cX8_isRule 6 = .ok (.ireturn, 1) := by decide +kernel
set_option maxRecDepth 20000 in
theorem ggX8_mark_X8_isPupil : GoodIn wsX8_mark wsX8_isPupil := goodIn_r _ [5, 6, 7, 8, 4, 9, 56, 57, 58, 59, 60, 61, 62, 63, 64, 65, 66, 67, 68, 69, 70, 71, 72, 73, 74, 75] (by decide +kernel) (by decide +kernel)
set_option maxRecDepth 20000 in
theorem gX8_mark_X8_isPupil : GoodIn wsX8_mark (wsV RX8 165 RX8 yX8_isPupil wsX8_isPupil) := goodIn_app (goodIn_of _ (by decide +kernel)) ggX8_mark_X8_isPupil
set_option maxRecDepth 20000 in
theorem ggX8_mark_X8_isRule : GoodIn wsX8_mark wsX8_isRule := goodIn_r _ [12, 7, 8, 4, 9] (by decide +kernel) (by decide +kernel)
set_option maxRecDepth 20000 in
theorem gX8_mark_X8_isRule : GoodIn wsX8_mark (va_wsS RX8 175 yX8_isRule wsX8_isRule) := goodIn_app (goodIn_of _ (by decide +kernel)) ggX8_mark_X8_isRule
set_option maxRecDepth 20000 in
theorem ggX8_mark_X8_markOf : GoodIn wsX8_mark wsX8_markOf := goodIn_r _ [16, 6, 17, 18, 19, 4, 20, 21, 22, 23, 24, 25, 26, 27, 28, 29, 30, 31, 32, 33, 34, 35, 36, 37, 38, 39, 40, 41, 42, 43, 44, 45, 46, 47, 48, 49, 50, 51, 52, 53, 54, 55, 56, 57, 58, 59, 60, 61, 62, 63, 64, 65, 66, 67, 68, 69, 70, 71, 72, 73, 74, 75] (by decide +kernel) (by decide +kernel)
set_option maxRecDepth 20000 in
theorem gX8_mark_X8_markOf : GoodIn wsX8_mark (wsV RX8 178 RX8 yX8_markOf wsX8_markOf) := goodIn_app (goodIn_of _ (by decide +kernel)) ggX8_mark_X8_markOf
theorem dX8_mark_0 : decode cX8_mark 0 = .ok (.aload_n 0, 1) := by decide +kernel
theorem dX8_mark_1 : decode cX8_mark 1 = .ok (.iload_n 1, 1) := by decide +kernel
theorem dX8_mark_2 : decode cX8_mark 2 = .ok (.invokevirtual 165, 3) := by decide +kernel
theorem dX8_mark_5 : decode cX8_mark 5 = .ok (.ifCond .eq 19, 3) := by decide +kernel
theorem dX8_mark_8 : decode cX8_mark 8 = .ok (.iload_n 2, 1) := by decide +kernel
theorem dX8_mark_9 : decode cX8_mark 9 = .ok (.invokestatic 175, 3) := by decide +kernel
theorem dX8_mark_12 : decode cX8_mark 12 = .ok (.ifCond .eq 12, 3) := by decide +kernel
theorem dX8_mark_15 : decode cX8_mark 15 = .ok (.aload_n 0, 1) := by decide +kernel
theorem dX8_mark_16 : decode cX8_mark 16 = .ok (.iload_n 1, 1) := by decide +kernel
theorem dX8_mark_17 : decode cX8_mark 17 = .ok (.iload_n 2, 1) := by decide +kernel
theorem dX8_mark_18 : decode cX8_mark 18 = .ok (.invokevirtual 178, 3) := by decide +kernel
theorem dX8_mark_21 : decode cX8_mark 21 = .ok (.goto 4, 3) := by decide +kernel
theorem dX8_mark_24 : decode cX8_mark 24 = .ok (.iconst (-1), 1) := by decide +kernel
theorem dX8_mark_25 : decode cX8_mark 25 = .ok (.ireturn, 1) := by decide +kernel
set_option maxRecDepth 20000 in
theorem ggX8_goes_X8_doesOf : GoodIn wsX8_goes wsX8_doesOf := goodIn_r _ [7, 1, 8, 9, 10, 6, 11, 12, 13, 14, 15, 16, 17, 18, 19, 20, 21, 22, 23, 24, 25, 26, 27, 28, 29, 30, 31, 32, 33, 34, 35, 36, 37, 38, 39, 40, 41, 42, 43, 44, 45, 46, 47, 48, 49, 50, 51, 52] (by decide +kernel) (by decide +kernel)
set_option maxRecDepth 20000 in
theorem gX8_goes_X8_doesOf : GoodIn wsX8_goes (wsV RX8 169 RX8 yX8_doesOf wsX8_doesOf) := goodIn_app (goodIn_of _ (by decide +kernel)) ggX8_goes_X8_doesOf
set_option maxRecDepth 20000 in
theorem ggX8_goes_X8_manyIn : GoodIn wsX8_goes wsX8_manyIn := goodIn_r _ [25, 1, 33, 34, 35, 36, 37, 38, 39, 40, 41, 42, 43, 44, 45, 46, 47, 48, 49, 50, 51, 52] (by decide +kernel) (by decide +kernel)
set_option maxRecDepth 20000 in
theorem gX8_goes_X8_manyIn : GoodIn wsX8_goes (wsV RX8 138 RX8 yX8_manyIn wsX8_manyIn) := goodIn_app (goodIn_of _ (by decide +kernel)) ggX8_goes_X8_manyIn
set_option maxRecDepth 20000 in
theorem ggX8_goes_X8_tellsOf : GoodIn wsX8_goes wsX8_tellsOf := goodIn_r _ [21, 1, 33, 34, 35, 36, 37, 38, 39, 40, 41, 42, 43, 44, 45, 46, 47, 48, 49, 50, 51, 52] (by decide +kernel) (by decide +kernel)
set_option maxRecDepth 20000 in
theorem gX8_goes_X8_tellsOf : GoodIn wsX8_goes (wsV RX8 123 RX8 yX8_tellsOf wsX8_tellsOf) := goodIn_app (goodIn_of _ (by decide +kernel)) ggX8_goes_X8_tellsOf
set_option maxRecDepth 20000 in
theorem ggX8_goes_X8_within : GoodIn wsX8_goes wsX8_within := goodIn_r _ [32] (by decide +kernel) (by decide +kernel)
set_option maxRecDepth 20000 in
theorem gX8_goes_X8_within : GoodIn wsX8_goes (va_wsS RX8 127 yX8_within wsX8_within) := goodIn_app (goodIn_of _ (by decide +kernel)) ggX8_goes_X8_within
theorem dX8_goes_0 : decode cX8_goes 0 = .ok (.iconst 0, 1) := by decide +kernel
theorem dX8_goes_1 : decode cX8_goes 1 = .ok (.istore_n 1, 1) := by decide +kernel
theorem dX8_goes_2 : decode cX8_goes 2 = .ok (.iconst 0, 1) := by decide +kernel
theorem dX8_goes_3 : decode cX8_goes 3 = .ok (.istore_n 2, 1) := by decide +kernel
theorem dX8_goes_4 : decode cX8_goes 4 = .ok (.iload_n 2, 1) := by decide +kernel
theorem dX8_goes_5 : decode cX8_goes 5 = .ok (.aload_n 0, 1) := by decide +kernel
theorem dX8_goes_6 : decode cX8_goes 6 = .ok (.getfield 9, 3) := by decide +kernel
theorem dX8_goes_9 : decode cX8_goes 9 = .ok (.bipush 20, 2) := by decide +kernel
theorem dX8_goes_11 : decode cX8_goes 11 = .ok (.iaload, 1) := by decide +kernel
theorem dX8_goes_12 : decode cX8_goes 12 = .ok (.if_icmp .ge 29, 3) := by decide +kernel
theorem dX8_goes_15 : decode cX8_goes 15 = .ok (.aload_n 0, 1) := by decide +kernel
theorem dX8_goes_16 : decode cX8_goes 16 = .ok (.getfield 28, 3) := by decide +kernel
theorem dX8_goes_19 : decode cX8_goes 19 = .ok (.iload_n 2, 1) := by decide +kernel
theorem dX8_goes_20 : decode cX8_goes 20 = .ok (.aload_n 0, 1) := by decide +kernel
theorem dX8_goes_21 : decode cX8_goes 21 = .ok (.iload_n 2, 1) := by decide +kernel
theorem dX8_goes_22 : decode cX8_goes 22 = .ok (.invokevirtual 169, 3) := by decide +kernel
theorem dX8_goes_25 : decode cX8_goes 25 = .ok (.iastore, 1) := by decide +kernel
theorem dX8_goes_26 : decode cX8_goes 26 = .ok (.iload_n 1, 1) := by decide +kernel
theorem dX8_goes_27 : decode cX8_goes 27 = .ok (.aload_n 0, 1) := by decide +kernel
theorem dX8_goes_28 : decode cX8_goes 28 = .ok (.getfield 28, 3) := by decide +kernel
theorem dX8_goes_31 : decode cX8_goes 31 = .ok (.iload_n 2, 1) := by decide +kernel
theorem dX8_goes_32 : decode cX8_goes 32 = .ok (.iaload, 1) := by decide +kernel
theorem dX8_goes_33 : decode cX8_goes 33 = .ok (.iadd, 1) := by decide +kernel
theorem dX8_goes_34 : decode cX8_goes 34 = .ok (.istore_n 1, 1) := by decide +kernel
theorem dX8_goes_35 : decode cX8_goes 35 = .ok (.iinc 2 1, 3) := by decide +kernel
theorem dX8_goes_38 : decode cX8_goes 38 = .ok (.goto (-34), 3) := by decide +kernel
theorem dX8_goes_41 : decode cX8_goes 41 = .ok (.aload_n 0, 1) := by decide +kernel
theorem dX8_goes_42 : decode cX8_goes 42 = .ok (.invokevirtual 138, 3) := by decide +kernel
theorem dX8_goes_45 : decode cX8_goes 45 = .ok (.ifCond .ne 7, 3) := by decide +kernel
theorem dX8_goes_48 : decode cX8_goes 48 = .ok (.iconst 0, 1) := by decide +kernel
theorem dX8_goes_49 : decode cX8_goes 49 = .ok (.goto 9, 3) := by decide +kernel
theorem dX8_goes_52 : decode cX8_goes 52 = .ok (.iload_n 1, 1) := by decide +kernel
theorem dX8_goes_53 : decode cX8_goes 53 = .ok (.aload_n 0, 1) := by decide +kernel
theorem dX8_goes_54 : decode cX8_goes 54 = .ok (.invokevirtual 138, 3) := by decide +kernel
theorem dX8_goes_57 : decode cX8_goes 57 = .ok (.idiv, 1) := by decide +kernel
theorem dX8_goes_58 : decode cX8_goes 58 = .ok (.istore_n 2, 1) := by decide +kernel
theorem dX8_goes_59 : decode cX8_goes 59 = .ok (.iconst 0, 1) := by decide +kernel
theorem dX8_goes_60 : decode cX8_goes 60 = .ok (.istore_n 3, 1) := by decide +kernel
theorem dX8_goes_61 : decode cX8_goes 61 = .ok (.iload_n 3, 1) := by decide +kernel
theorem dX8_goes_62 : decode cX8_goes 62 = .ok (.aload_n 0, 1) := by decide +kernel
theorem dX8_goes_63 : decode cX8_goes 63 = .ok (.getfield 9, 3) := by decide +kernel
theorem dX8_goes_66 : decode cX8_goes 66 = .ok (.bipush 20, 2) := by decide +kernel
theorem dX8_goes_68 : decode cX8_goes 68 = .ok (.iaload, 1) := by decide +kernel
theorem dX8_goes_69 : decode cX8_goes 69 = .ok (.if_icmp .ge 157, 3) := by decide +kernel
theorem dX8_goes_72 : decode cX8_goes 72 = .ok (.aload_n 0, 1) := by decide +kernel
theorem dX8_goes_73 : decode cX8_goes 73 = .ok (.getfield 9, 3) := by decide +kernel
theorem dX8_goes_76 : decode cX8_goes 76 = .ok (.iconst 2, 1) := by decide +kernel
theorem dX8_goes_77 : decode cX8_goes 77 = .ok (.iload_n 3, 1) := by decide +kernel
theorem dX8_goes_78 : decode cX8_goes 78 = .ok (.iadd, 1) := by decide +kernel
theorem dX8_goes_79 : decode cX8_goes 79 = .ok (.dup2, 1) := by decide +kernel
theorem dX8_goes_80 : decode cX8_goes 80 = .ok (.iaload, 1) := by decide +kernel
theorem dX8_goes_81 : decode cX8_goes 81 = .ok (.aload_n 0, 1) := by decide +kernel
theorem dX8_goes_82 : decode cX8_goes 82 = .ok (.getfield 28, 3) := by decide +kernel
theorem dX8_goes_85 : decode cX8_goes 85 = .ok (.iload_n 3, 1) := by decide +kernel
theorem dX8_goes_86 : decode cX8_goes 86 = .ok (.iaload, 1) := by decide +kernel
theorem dX8_goes_87 : decode cX8_goes 87 = .ok (.iadd, 1) := by decide +kernel
theorem dX8_goes_88 : decode cX8_goes 88 = .ok (.iastore, 1) := by decide +kernel
theorem dX8_goes_89 : decode cX8_goes 89 = .ok (.aload_n 0, 1) := by decide +kernel
theorem dX8_goes_90 : decode cX8_goes 90 = .ok (.getfield 9, 3) := by decide +kernel
theorem dX8_goes_93 : decode cX8_goes 93 = .ok (.iconst 1, 1) := by decide +kernel
theorem dX8_goes_94 : decode cX8_goes 94 = .ok (.dup2, 1) := by decide +kernel
theorem dX8_goes_95 : decode cX8_goes 95 = .ok (.iaload, 1) := by decide +kernel
theorem dX8_goes_96 : decode cX8_goes 96 = .ok (.aload_n 0, 1) := by decide +kernel
theorem dX8_goes_97 : decode cX8_goes 97 = .ok (.getfield 28, 3) := by decide +kernel
theorem dX8_goes_100 : decode cX8_goes 100 = .ok (.iload_n 3, 1) := by decide +kernel
theorem dX8_goes_101 : decode cX8_goes 101 = .ok (.iaload, 1) := by decide +kernel
theorem dX8_goes_102 : decode cX8_goes 102 = .ok (.aload_n 0, 1) := by decide +kernel
theorem dX8_goes_103 : decode cX8_goes 103 = .ok (.getfield 9, 3) := by decide +kernel
theorem dX8_goes_106 : decode cX8_goes 106 = .ok (.bipush 39, 2) := by decide +kernel
theorem dX8_goes_108 : decode cX8_goes 108 = .ok (.iload_n 3, 1) := by decide +kernel
theorem dX8_goes_109 : decode cX8_goes 109 = .ok (.iadd, 1) := by decide +kernel
theorem dX8_goes_110 : decode cX8_goes 110 = .ok (.iaload, 1) := by decide +kernel
theorem dX8_goes_111 : decode cX8_goes 111 = .ok (.imul, 1) := by decide +kernel
theorem dX8_goes_112 : decode cX8_goes 112 = .ok (.iadd, 1) := by decide +kernel
theorem dX8_goes_113 : decode cX8_goes 113 = .ok (.iastore, 1) := by decide +kernel
theorem dX8_goes_114 : decode cX8_goes 114 = .ok (.aload_n 0, 1) := by decide +kernel
theorem dX8_goes_115 : decode cX8_goes 115 = .ok (.getfield 9, 3) := by decide +kernel
theorem dX8_goes_118 : decode cX8_goes 118 = .ok (.bipush 14, 2) := by decide +kernel
theorem dX8_goes_120 : decode cX8_goes 120 = .ok (.iload_n 3, 1) := by decide +kernel
theorem dX8_goes_121 : decode cX8_goes 121 = .ok (.iadd, 1) := by decide +kernel
theorem dX8_goes_122 : decode cX8_goes 122 = .ok (.iaload, 1) := by decide +kernel
theorem dX8_goes_123 : decode cX8_goes 123 = .ok (.ifCond .ne 49, 3) := by decide +kernel
theorem dX8_goes_126 : decode cX8_goes 126 = .ok (.aload_n 0, 1) := by decide +kernel
theorem dX8_goes_127 : decode cX8_goes 127 = .ok (.getfield 28, 3) := by decide +kernel
theorem dX8_goes_130 : decode cX8_goes 130 = .ok (.iload_n 3, 1) := by decide +kernel
theorem dX8_goes_131 : decode cX8_goes 131 = .ok (.iaload, 1) := by decide +kernel
theorem dX8_goes_132 : decode cX8_goes 132 = .ok (.iload_n 2, 1) := by decide +kernel
theorem dX8_goes_133 : decode cX8_goes 133 = .ok (.if_icmp .le 39, 3) := by decide +kernel
theorem dX8_goes_136 : decode cX8_goes 136 = .ok (.aload_n 0, 1) := by decide +kernel
theorem dX8_goes_137 : decode cX8_goes 137 = .ok (.getfield 9, 3) := by decide +kernel
theorem dX8_goes_140 : decode cX8_goes 140 = .ok (.bipush 8, 2) := by decide +kernel
theorem dX8_goes_142 : decode cX8_goes 142 = .ok (.iload_n 3, 1) := by decide +kernel
theorem dX8_goes_143 : decode cX8_goes 143 = .ok (.iadd, 1) := by decide +kernel
theorem dX8_goes_144 : decode cX8_goes 144 = .ok (.aload_n 0, 1) := by decide +kernel
theorem dX8_goes_145 : decode cX8_goes 145 = .ok (.getfield 9, 3) := by decide +kernel
theorem dX8_goes_148 : decode cX8_goes 148 = .ok (.bipush 8, 2) := by decide +kernel
theorem dX8_goes_150 : decode cX8_goes 150 = .ok (.iload_n 3, 1) := by decide +kernel
theorem dX8_goes_151 : decode cX8_goes 151 = .ok (.iadd, 1) := by decide +kernel
theorem dX8_goes_152 : decode cX8_goes 152 = .ok (.iaload, 1) := by decide +kernel
theorem dX8_goes_153 : decode cX8_goes 153 = .ok (.aload_n 0, 1) := by decide +kernel
theorem dX8_goes_154 : decode cX8_goes 154 = .ok (.sipush 216, 3) := by decide +kernel
theorem dX8_goes_157 : decode cX8_goes 157 = .ok (.iconst 2, 1) := by decide +kernel
theorem dX8_goes_158 : decode cX8_goes 158 = .ok (.invokevirtual 123, 3) := by decide +kernel
theorem dX8_goes_161 : decode cX8_goes 161 = .ok (.isub, 1) := by decide +kernel
theorem dX8_goes_162 : decode cX8_goes 162 = .ok (.iconst 0, 1) := by decide +kernel
theorem dX8_goes_163 : decode cX8_goes 163 = .ok (.bipush 99, 2) := by decide +kernel
theorem dX8_goes_165 : decode cX8_goes 165 = .ok (.invokestatic 127, 3) := by decide +kernel
theorem dX8_goes_168 : decode cX8_goes 168 = .ok (.iastore, 1) := by decide +kernel
theorem dX8_goes_169 : decode cX8_goes 169 = .ok (.goto 51, 3) := by decide +kernel
theorem dX8_goes_172 : decode cX8_goes 172 = .ok (.aload_n 0, 1) := by decide +kernel
theorem dX8_goes_173 : decode cX8_goes 173 = .ok (.getfield 9, 3) := by decide +kernel
theorem dX8_goes_176 : decode cX8_goes 176 = .ok (.bipush 14, 2) := by decide +kernel
theorem dX8_goes_178 : decode cX8_goes 178 = .ok (.iload_n 3, 1) := by decide +kernel
theorem dX8_goes_179 : decode cX8_goes 179 = .ok (.iadd, 1) := by decide +kernel
theorem dX8_goes_180 : decode cX8_goes 180 = .ok (.iaload, 1) := by decide +kernel
theorem dX8_goes_181 : decode cX8_goes 181 = .ok (.ifCond .ne 39, 3) := by decide +kernel
theorem dX8_goes_184 : decode cX8_goes 184 = .ok (.aload_n 0, 1) := by decide +kernel
theorem dX8_goes_185 : decode cX8_goes 185 = .ok (.getfield 28, 3) := by decide +kernel
theorem dX8_goes_188 : decode cX8_goes 188 = .ok (.iload_n 3, 1) := by decide +kernel
theorem dX8_goes_189 : decode cX8_goes 189 = .ok (.iaload, 1) := by decide +kernel
theorem dX8_goes_190 : decode cX8_goes 190 = .ok (.iload_n 2, 1) := by decide +kernel
theorem dX8_goes_191 : decode cX8_goes 191 = .ok (.if_icmp .ge 29, 3) := by decide +kernel
theorem dX8_goes_194 : decode cX8_goes 194 = .ok (.aload_n 0, 1) := by decide +kernel
theorem dX8_goes_195 : decode cX8_goes 195 = .ok (.getfield 9, 3) := by decide +kernel
theorem dX8_goes_198 : decode cX8_goes 198 = .ok (.bipush 8, 2) := by decide +kernel
theorem dX8_goes_200 : decode cX8_goes 200 = .ok (.iload_n 3, 1) := by decide +kernel
theorem dX8_goes_201 : decode cX8_goes 201 = .ok (.iadd, 1) := by decide +kernel
theorem dX8_goes_202 : decode cX8_goes 202 = .ok (.aload_n 0, 1) := by decide +kernel
theorem dX8_goes_203 : decode cX8_goes 203 = .ok (.getfield 9, 3) := by decide +kernel
theorem dX8_goes_206 : decode cX8_goes 206 = .ok (.bipush 8, 2) := by decide +kernel
theorem dX8_goes_208 : decode cX8_goes 208 = .ok (.iload_n 3, 1) := by decide +kernel
theorem dX8_goes_209 : decode cX8_goes 209 = .ok (.iadd, 1) := by decide +kernel
theorem dX8_goes_210 : decode cX8_goes 210 = .ok (.iaload, 1) := by decide +kernel
theorem dX8_goes_211 : decode cX8_goes 211 = .ok (.iconst 1, 1) := by decide +kernel
theorem dX8_goes_212 : decode cX8_goes 212 = .ok (.iadd, 1) := by decide +kernel
theorem dX8_goes_213 : decode cX8_goes 213 = .ok (.iconst 0, 1) := by decide +kernel
theorem dX8_goes_214 : decode cX8_goes 214 = .ok (.bipush 99, 2) := by decide +kernel
theorem dX8_goes_216 : decode cX8_goes 216 = .ok (.invokestatic 127, 3) := by decide +kernel
theorem dX8_goes_219 : decode cX8_goes 219 = .ok (.iastore, 1) := by decide +kernel
theorem dX8_goes_220 : decode cX8_goes 220 = .ok (.iinc 3 1, 3) := by decide +kernel
theorem dX8_goes_223 : decode cX8_goes 223 = .ok (.goto (-162), 3) := by decide +kernel
theorem dX8_goes_226 : decode cX8_goes 226 = .ok (.aload_n 0, 1) := by decide +kernel
theorem dX8_goes_227 : decode cX8_goes 227 = .ok (.getfield 9, 3) := by decide +kernel
theorem dX8_goes_230 : decode cX8_goes 230 = .ok (.iconst 0, 1) := by decide +kernel
theorem dX8_goes_231 : decode cX8_goes 231 = .ok (.dup2, 1) := by decide +kernel
theorem dX8_goes_232 : decode cX8_goes 232 = .ok (.iaload, 1) := by decide +kernel
theorem dX8_goes_233 : decode cX8_goes 233 = .ok (.iconst 1, 1) := by decide +kernel
theorem dX8_goes_234 : decode cX8_goes 234 = .ok (.iadd, 1) := by decide +kernel
theorem dX8_goes_235 : decode cX8_goes 235 = .ok (.iastore, 1) := by decide +kernel
theorem dX8_goes_236 : decode cX8_goes 236 = .ok (.return_, 1) := by decide +kernel
set_option maxRecDepth 20000 in
theorem ggX8_goesOn_X8_goes : GoodIn wsX8_goesOn wsX8_goes := goodIn_r _ [5, 6, 7, 8, 9, 10, 4, 11, 12, 13, 14, 15, 16, 17, 18, 19, 20, 21, 22, 23, 24, 25, 26, 27, 28, 29, 30, 31, 32, 33, 34, 35, 36, 37, 38, 39, 40, 41, 42, 43, 44, 45, 46, 47, 48, 49, 50, 51, 52, 53, 54, 55, 56] (by decide +kernel) (by decide +kernel)
set_option maxRecDepth 20000 in
theorem gX8_goesOn_X8_goes : GoodIn wsX8_goesOn (wsV RX8 181 RX8 yX8_goes wsX8_goes) := goodIn_app (goodIn_of _ (by decide +kernel)) ggX8_goesOn_X8_goes
theorem dX8_goesOn_0 : decode cX8_goesOn 0 = .ok (.iconst 0, 1) := by decide +kernel
theorem dX8_goesOn_1 : decode cX8_goesOn 1 = .ok (.istore_n 2, 1) := by decide +kernel
theorem dX8_goesOn_2 : decode cX8_goesOn 2 = .ok (.iload_n 2, 1) := by decide +kernel
theorem dX8_goesOn_3 : decode cX8_goesOn 3 = .ok (.iload_n 1, 1) := by decide +kernel
theorem dX8_goesOn_4 : decode cX8_goesOn 4 = .ok (.if_icmp .ge 13, 3) := by decide +kernel
theorem dX8_goesOn_7 : decode cX8_goesOn 7 = .ok (.aload_n 0, 1) := by decide +kernel
theorem dX8_goesOn_8 : decode cX8_goesOn 8 = .ok (.invokevirtual 181, 3) := by decide +kernel
theorem dX8_goesOn_11 : decode cX8_goesOn 11 = .ok (.iinc 2 1, 3) := by decide +kernel
theorem dX8_goesOn_14 : decode cX8_goesOn 14 = .ok (.goto (-12), 3) := by decide +kernel
theorem dX8_goesOn_17 : decode cX8_goesOn 17 = .ok (.return_, 1) := by decide +kernel
set_option maxRecDepth 20000 in
theorem ggX8_pass_X8_in : GoodIn wsX8_pass wsX8_in := goodIn_r _ [6] (by decide +kernel) (by decide +kernel)
set_option maxRecDepth 20000 in
theorem gX8_pass_X8_in : GoodIn wsX8_pass (va_wsS RX8 38 yX8_in wsX8_in) := goodIn_app (goodIn_of _ (by decide +kernel)) ggX8_pass_X8_in
set_option maxRecDepth 20000 in
theorem ggX8_pass_X8_goes : GoodIn wsX8_pass wsX8_goes := goodIn_r _ [10, 1, 11, 12, 13, 14, 5, 15, 16, 17, 18, 19, 20, 21, 22, 23, 24, 25, 26, 27, 28, 29, 30, 31, 32, 33, 34, 35, 36, 37, 38, 39, 40, 41, 42, 43, 44, 45, 46, 47, 48, 49, 50, 51, 52, 53, 54, 55, 56, 57, 58, 59, 60] (by decide +kernel) (by decide +kernel)
set_option maxRecDepth 20000 in
theorem gX8_pass_X8_goes : GoodIn wsX8_pass (wsV RX8 181 RX8 yX8_goes wsX8_goes) := goodIn_app (goodIn_of _ (by decide +kernel)) ggX8_pass_X8_goes
set_option maxRecDepth 20000 in
theorem ggX8_pass_X8_within : GoodIn wsX8_pass wsX8_within := goodIn_r _ [40] (by decide +kernel) (by decide +kernel)
set_option maxRecDepth 20000 in
theorem gX8_pass_X8_within : GoodIn wsX8_pass (va_wsS RX8 127 yX8_within wsX8_within) := goodIn_app (goodIn_of _ (by decide +kernel)) ggX8_pass_X8_within
theorem dX8_pass_0 : decode cX8_pass 0 = .ok (.iload_n 1, 1) := by decide +kernel
theorem dX8_pass_1 : decode cX8_pass 1 = .ok (.iconst 0, 1) := by decide +kernel
theorem dX8_pass_2 : decode cX8_pass 2 = .ok (.bipush 60, 2) := by decide +kernel
theorem dX8_pass_4 : decode cX8_pass 4 = .ok (.invokestatic 38, 3) := by decide +kernel
theorem dX8_pass_7 : decode cX8_pass 7 = .ok (.ifCond .ne 6, 3) := by decide +kernel
theorem dX8_pass_10 : decode cX8_pass 10 = .ok (.bipush (-2), 2) := by decide +kernel
theorem dX8_pass_12 : decode cX8_pass 12 = .ok (.ireturn, 1) := by decide +kernel
theorem dX8_pass_13 : decode cX8_pass 13 = .ok (.aload_n 0, 1) := by decide +kernel
theorem dX8_pass_14 : decode cX8_pass 14 = .ok (.getfield 9, 3) := by decide +kernel
theorem dX8_pass_17 : decode cX8_pass 17 = .ok (.iconst 0, 1) := by decide +kernel
theorem dX8_pass_18 : decode cX8_pass 18 = .ok (.iaload, 1) := by decide +kernel
theorem dX8_pass_19 : decode cX8_pass 19 = .ok (.iload_n 1, 1) := by decide +kernel
theorem dX8_pass_20 : decode cX8_pass 20 = .ok (.iadd, 1) := by decide +kernel
theorem dX8_pass_21 : decode cX8_pass 21 = .ok (.sipush 9999, 3) := by decide +kernel
theorem dX8_pass_24 : decode cX8_pass 24 = .ok (.if_icmp .le 6, 3) := by decide +kernel
theorem dX8_pass_27 : decode cX8_pass 27 = .ok (.bipush (-3), 2) := by decide +kernel
theorem dX8_pass_29 : decode cX8_pass 29 = .ok (.ireturn, 1) := by decide +kernel
theorem dX8_pass_30 : decode cX8_pass 30 = .ok (.iconst 0, 1) := by decide +kernel
theorem dX8_pass_31 : decode cX8_pass 31 = .ok (.istore_n 2, 1) := by decide +kernel
theorem dX8_pass_32 : decode cX8_pass 32 = .ok (.iload_n 2, 1) := by decide +kernel
theorem dX8_pass_33 : decode cX8_pass 33 = .ok (.iload_n 1, 1) := by decide +kernel
theorem dX8_pass_34 : decode cX8_pass 34 = .ok (.if_icmp .ge 73, 3) := by decide +kernel
theorem dX8_pass_37 : decode cX8_pass 37 = .ok (.aload_n 0, 1) := by decide +kernel
theorem dX8_pass_38 : decode cX8_pass 38 = .ok (.invokevirtual 181, 3) := by decide +kernel
theorem dX8_pass_41 : decode cX8_pass 41 = .ok (.aload_n 0, 1) := by decide +kernel
theorem dX8_pass_42 : decode cX8_pass 42 = .ok (.getfield 9, 3) := by decide +kernel
theorem dX8_pass_45 : decode cX8_pass 45 = .ok (.iconst 1, 1) := by decide +kernel
theorem dX8_pass_46 : decode cX8_pass 46 = .ok (.aload_n 0, 1) := by decide +kernel
theorem dX8_pass_47 : decode cX8_pass 47 = .ok (.getfield 9, 3) := by decide +kernel
theorem dX8_pass_50 : decode cX8_pass 50 = .ok (.iconst 1, 1) := by decide +kernel
theorem dX8_pass_51 : decode cX8_pass 51 = .ok (.iaload, 1) := by decide +kernel
theorem dX8_pass_52 : decode cX8_pass 52 = .ok (.iconst 0, 1) := by decide +kernel
theorem dX8_pass_53 : decode cX8_pass 53 = .ok (.ldc 184, 2) := by decide +kernel
theorem dX8_pass_55 : decode cX8_pass 55 = .ok (.invokestatic 127, 3) := by decide +kernel
theorem dX8_pass_58 : decode cX8_pass 58 = .ok (.iastore, 1) := by decide +kernel
theorem dX8_pass_59 : decode cX8_pass 59 = .ok (.iconst 0, 1) := by decide +kernel
theorem dX8_pass_60 : decode cX8_pass 60 = .ok (.istore_n 3, 1) := by decide +kernel
theorem dX8_pass_61 : decode cX8_pass 61 = .ok (.iload_n 3, 1) := by decide +kernel
theorem dX8_pass_62 : decode cX8_pass 62 = .ok (.aload_n 0, 1) := by decide +kernel
theorem dX8_pass_63 : decode cX8_pass 63 = .ok (.getfield 9, 3) := by decide +kernel
theorem dX8_pass_66 : decode cX8_pass 66 = .ok (.bipush 20, 2) := by decide +kernel
theorem dX8_pass_68 : decode cX8_pass 68 = .ok (.iaload, 1) := by decide +kernel
theorem dX8_pass_69 : decode cX8_pass 69 = .ok (.if_icmp .ge 32, 3) := by decide +kernel
theorem dX8_pass_72 : decode cX8_pass 72 = .ok (.aload_n 0, 1) := by decide +kernel
theorem dX8_pass_73 : decode cX8_pass 73 = .ok (.getfield 9, 3) := by decide +kernel
theorem dX8_pass_76 : decode cX8_pass 76 = .ok (.iconst 2, 1) := by decide +kernel
theorem dX8_pass_77 : decode cX8_pass 77 = .ok (.iload_n 3, 1) := by decide +kernel
theorem dX8_pass_78 : decode cX8_pass 78 = .ok (.iadd, 1) := by decide +kernel
theorem dX8_pass_79 : decode cX8_pass 79 = .ok (.aload_n 0, 1) := by decide +kernel
theorem dX8_pass_80 : decode cX8_pass 80 = .ok (.getfield 9, 3) := by decide +kernel
theorem dX8_pass_83 : decode cX8_pass 83 = .ok (.iconst 2, 1) := by decide +kernel
theorem dX8_pass_84 : decode cX8_pass 84 = .ok (.iload_n 3, 1) := by decide +kernel
theorem dX8_pass_85 : decode cX8_pass 85 = .ok (.iadd, 1) := by decide +kernel
theorem dX8_pass_86 : decode cX8_pass 86 = .ok (.iaload, 1) := by decide +kernel
theorem dX8_pass_87 : decode cX8_pass 87 = .ok (.iconst 0, 1) := by decide +kernel
theorem dX8_pass_88 : decode cX8_pass 88 = .ok (.sipush 9999, 3) := by decide +kernel
theorem dX8_pass_91 : decode cX8_pass 91 = .ok (.invokestatic 127, 3) := by decide +kernel
theorem dX8_pass_94 : decode cX8_pass 94 = .ok (.iastore, 1) := by decide +kernel
theorem dX8_pass_95 : decode cX8_pass 95 = .ok (.iinc 3 1, 3) := by decide +kernel
theorem dX8_pass_98 : decode cX8_pass 98 = .ok (.goto (-37), 3) := by decide +kernel
theorem dX8_pass_101 : decode cX8_pass 101 = .ok (.iinc 2 1, 3) := by decide +kernel
theorem dX8_pass_104 : decode cX8_pass 104 = .ok (.goto (-72), 3) := by decide +kernel
theorem dX8_pass_107 : decode cX8_pass 107 = .ok (.aload_n 0, 1) := by decide +kernel
theorem dX8_pass_108 : decode cX8_pass 108 = .ok (.getfield 9, 3) := by decide +kernel
theorem dX8_pass_111 : decode cX8_pass 111 = .ok (.iconst 1, 1) := by decide +kernel
theorem dX8_pass_112 : decode cX8_pass 112 = .ok (.iaload, 1) := by decide +kernel
theorem dX8_pass_113 : decode cX8_pass 113 = .ok (.ireturn, 1) := by decide +kernel
theorem dX8_workMore_0 : decode cX8_workMore 0 = .ok (.aload_n 0, 1) := by decide +kernel
theorem dX8_workMore_1 : decode cX8_workMore 1 = .ok (.getfield 9, 3) := by decide +kernel
theorem dX8_workMore_4 : decode cX8_workMore 4 = .ok (.iconst 1, 1) := by decide +kernel
theorem dX8_workMore_5 : decode cX8_workMore 5 = .ok (.iaload, 1) := by decide +kernel
theorem dX8_workMore_6 : decode cX8_workMore 6 = .ok (.aload_n 0, 1) := by decide +kernel
theorem dX8_workMore_7 : decode cX8_workMore 7 = .ok (.getfield 18, 3) := by decide +kernel
theorem dX8_workMore_10 : decode cX8_workMore 10 = .ok (.iconst 1, 1) := by decide +kernel
theorem dX8_workMore_11 : decode cX8_workMore 11 = .ok (.iaload, 1) := by decide +kernel
theorem dX8_workMore_12 : decode cX8_workMore 12 = .ok (.isub, 1) := by decide +kernel
theorem dX8_workMore_13 : decode cX8_workMore 13 = .ok (.ireturn, 1) := by decide +kernel
theorem dX8_hoursMore_0 : decode cX8_hoursMore 0 = .ok (.aload_n 0, 1) := by decide +kernel
theorem dX8_hoursMore_1 : decode cX8_hoursMore 1 = .ok (.getfield 9, 3) := by decide +kernel
theorem dX8_hoursMore_4 : decode cX8_hoursMore 4 = .ok (.iconst 2, 1) := by decide +kernel
theorem dX8_hoursMore_5 : decode cX8_hoursMore 5 = .ok (.iload_n 1, 1) := by decide +kernel
theorem dX8_hoursMore_6 : decode cX8_hoursMore 6 = .ok (.iadd, 1) := by decide +kernel
theorem dX8_hoursMore_7 : decode cX8_hoursMore 7 = .ok (.iaload, 1) := by decide +kernel
theorem dX8_hoursMore_8 : decode cX8_hoursMore 8 = .ok (.aload_n 0, 1) := by decide +kernel
theorem dX8_hoursMore_9 : decode cX8_hoursMore 9 = .ok (.getfield 18, 3) := by decide +kernel
theorem dX8_hoursMore_12 : decode cX8_hoursMore 12 = .ok (.iconst 2, 1) := by decide +kernel
theorem dX8_hoursMore_13 : decode cX8_hoursMore 13 = .ok (.iload_n 1, 1) := by decide +kernel
theorem dX8_hoursMore_14 : decode cX8_hoursMore 14 = .ok (.iadd, 1) := by decide +kernel
theorem dX8_hoursMore_15 : decode cX8_hoursMore 15 = .ok (.iaload, 1) := by decide +kernel
theorem dX8_hoursMore_16 : decode cX8_hoursMore 16 = .ok (.isub, 1) := by decide +kernel
theorem dX8_hoursMore_17 : decode cX8_hoursMore 17 = .ok (.ireturn, 1) := by decide +kernel
set_option maxRecDepth 20000 in
theorem ggX8_allMore_X8_hoursMore : GoodIn wsX8_allMore wsX8_hoursMore := goodIn_r _ [6, 1, 7, 8, 9, 10, 11, 12, 13, 14, 15, 16, 17, 18, 19, 20, 21, 22, 23, 24, 25, 26, 27] (by decide +kernel) (by decide +kernel)
set_option maxRecDepth 20000 in
theorem gX8_allMore_X8_hoursMore : GoodIn wsX8_allMore (wsV RX8 185 RX8 yX8_hoursMore wsX8_hoursMore) := goodIn_app (goodIn_of _ (by decide +kernel)) ggX8_allMore_X8_hoursMore
theorem dX8_allMore_0 : decode cX8_allMore 0 = .ok (.iconst 0, 1) := by decide +kernel
theorem dX8_allMore_1 : decode cX8_allMore 1 = .ok (.istore_n 1, 1) := by decide +kernel
theorem dX8_allMore_2 : decode cX8_allMore 2 = .ok (.iconst 0, 1) := by decide +kernel
theorem dX8_allMore_3 : decode cX8_allMore 3 = .ok (.istore_n 2, 1) := by decide +kernel
theorem dX8_allMore_4 : decode cX8_allMore 4 = .ok (.iload_n 2, 1) := by decide +kernel
theorem dX8_allMore_5 : decode cX8_allMore 5 = .ok (.aload_n 0, 1) := by decide +kernel
theorem dX8_allMore_6 : decode cX8_allMore 6 = .ok (.getfield 9, 3) := by decide +kernel
theorem dX8_allMore_9 : decode cX8_allMore 9 = .ok (.bipush 20, 2) := by decide +kernel
theorem dX8_allMore_11 : decode cX8_allMore 11 = .ok (.iaload, 1) := by decide +kernel
theorem dX8_allMore_12 : decode cX8_allMore 12 = .ok (.if_icmp .ge 17, 3) := by decide +kernel
theorem dX8_allMore_15 : decode cX8_allMore 15 = .ok (.iload_n 1, 1) := by decide +kernel
theorem dX8_allMore_16 : decode cX8_allMore 16 = .ok (.aload_n 0, 1) := by decide +kernel
theorem dX8_allMore_17 : decode cX8_allMore 17 = .ok (.iload_n 2, 1) := by decide +kernel
theorem dX8_allMore_18 : decode cX8_allMore 18 = .ok (.invokevirtual 185, 3) := by decide +kernel
theorem dX8_allMore_21 : decode cX8_allMore 21 = .ok (.iadd, 1) := by decide +kernel
theorem dX8_allMore_22 : decode cX8_allMore 22 = .ok (.istore_n 1, 1) := by decide +kernel
theorem dX8_allMore_23 : decode cX8_allMore 23 = .ok (.iinc 2 1, 3) := by decide +kernel
theorem dX8_allMore_26 : decode cX8_allMore 26 = .ok (.goto (-22), 3) := by decide +kernel
theorem dX8_allMore_29 : decode cX8_allMore 29 = .ok (.iload_n 1, 1) := by decide +kernel
theorem dX8_allMore_30 : decode cX8_allMore 30 = .ok (.ireturn, 1) := by decide +kernel
set_option maxRecDepth 20000 in
theorem ggX8_on_X8_in : GoodIn wsX8_on wsX8_in := goodIn_r _ [5] (by decide +kernel) (by decide +kernel)
set_option maxRecDepth 20000 in
theorem gX8_on_X8_in : GoodIn wsX8_on (va_wsS RX8 38 yX8_in wsX8_in) := goodIn_app (goodIn_of _ (by decide +kernel)) ggX8_on_X8_in
set_option maxRecDepth 20000 in
theorem ggX8_on_X8_isPupil : GoodIn wsX8_on wsX8_isPupil := goodIn_r _ [9, 1, 2, 3, 4, 5, 69, 70, 71, 72, 73, 74, 75, 76, 77, 78, 79, 80, 81, 82, 83, 84, 85, 86, 87, 88] (by decide +kernel) (by decide +kernel)
set_option maxRecDepth 20000 in
theorem gX8_on_X8_isPupil : GoodIn wsX8_on (wsV RX8 165 RX8 yX8_isPupil wsX8_isPupil) := goodIn_app (goodIn_of _ (by decide +kernel)) ggX8_on_X8_isPupil
set_option maxRecDepth 20000 in
theorem ggX8_on_X8_keeps : GoodIn wsX8_on wsX8_keeps := goodIn_r _ [13, 14, 1, 69, 70, 71, 72, 73, 74, 75, 76, 77, 78, 79, 80, 81, 82, 83, 84, 85, 86, 87, 88] (by decide +kernel) (by decide +kernel)
set_option maxRecDepth 20000 in
theorem gX8_on_X8_keeps : GoodIn wsX8_on (wsV RX8 188 RX8 yX8_keeps wsX8_keeps) := goodIn_app (goodIn_of _ (by decide +kernel)) ggX8_on_X8_keeps
set_option maxRecDepth 20000 in
theorem ggX8_on_X8_goesOn : GoodIn wsX8_on wsX8_goesOn := goodIn_r _ [18, 19, 20, 21, 4, 22, 1, 23, 24, 25, 26, 27, 28, 29, 30, 31, 32, 33, 34, 35, 36, 37, 38, 39, 40, 41, 42, 43, 44, 45, 46, 47, 48, 49, 50, 51, 52, 69, 70, 71, 72, 73, 74, 75, 76, 77, 78, 79, 80, 81, 82, 83, 84, 85, 86, 87, 88] (by decide +kernel) (by decide +kernel)
set_option maxRecDepth 20000 in
theorem gX8_on_X8_goesOn : GoodIn wsX8_on (wsV RX8 191 RX8 yX8_goesOn wsX8_goesOn) := goodIn_app (goodIn_of _ (by decide +kernel)) ggX8_on_X8_goesOn
set_option maxRecDepth 20000 in
theorem ggX8_on_X8_workMore : GoodIn wsX8_on wsX8_workMore := goodIn_r _ [56, 1, 14, 69, 70, 71, 72, 73, 74, 75, 76, 77, 78, 79, 80, 81, 82, 83, 84, 85, 86, 87, 88] (by decide +kernel) (by decide +kernel)
set_option maxRecDepth 20000 in
theorem gX8_on_X8_workMore : GoodIn wsX8_on (wsV RX8 194 RX8 yX8_workMore wsX8_workMore) := goodIn_app (goodIn_of _ (by decide +kernel)) ggX8_on_X8_workMore
set_option maxRecDepth 20000 in
theorem ggX8_on_X8_allMore : GoodIn wsX8_on wsX8_allMore := goodIn_r _ [60, 1, 61, 62, 63, 4, 64, 14, 69, 70, 71, 72, 73, 74, 75, 76, 77, 78, 79, 80, 81, 82, 83, 84, 85, 86, 87, 88] (by decide +kernel) (by decide +kernel)
set_option maxRecDepth 20000 in
theorem gX8_on_X8_allMore : GoodIn wsX8_on (wsV RX8 197 RX8 yX8_allMore wsX8_allMore) := goodIn_app (goodIn_of _ (by decide +kernel)) ggX8_on_X8_allMore
set_option maxRecDepth 20000 in
theorem ggX8_on_X8_hoursMore : GoodIn wsX8_on wsX8_hoursMore := goodIn_r _ [64, 1, 14, 69, 70, 71, 72, 73, 74, 75, 76, 77, 78, 79, 80, 81, 82, 83, 84, 85, 86, 87, 88] (by decide +kernel) (by decide +kernel)
set_option maxRecDepth 20000 in
theorem gX8_on_X8_hoursMore : GoodIn wsX8_on (wsV RX8 185 RX8 yX8_hoursMore wsX8_hoursMore) := goodIn_app (goodIn_of _ (by decide +kernel)) ggX8_on_X8_hoursMore
set_option maxRecDepth 20000 in
theorem ggX8_on_X8_goesBack : GoodIn wsX8_on wsX8_goesBack := goodIn_r _ [68, 1, 14, 69, 70, 71, 72, 73, 74, 75, 76, 77, 78, 79, 80, 81, 82, 83, 84, 85, 86, 87, 88] (by decide +kernel) (by decide +kernel)
set_option maxRecDepth 20000 in
theorem gX8_on_X8_goesBack : GoodIn wsX8_on (wsV RX8 200 RX8 yX8_goesBack wsX8_goesBack) := goodIn_app (goodIn_of _ (by decide +kernel)) ggX8_on_X8_goesBack
theorem dX8_on_0 : decode cX8_on 0 = .ok (.iload_n 2, 1) := by decide +kernel
theorem dX8_on_1 : decode cX8_on 1 = .ok (.iconst 0, 1) := by decide +kernel
theorem dX8_on_2 : decode cX8_on 2 = .ok (.iconst 1, 1) := by decide +kernel
theorem dX8_on_3 : decode cX8_on 3 = .ok (.invokestatic 38, 3) := by decide +kernel
theorem dX8_on_6 : decode cX8_on 6 = .ok (.ifCond .ne 27, 3) := by decide +kernel
theorem dX8_on_9 : decode cX8_on 9 = .ok (.aload_n 0, 1) := by decide +kernel
theorem dX8_on_10 : decode cX8_on 10 = .ok (.iload_n 2, 1) := by decide +kernel
theorem dX8_on_11 : decode cX8_on 11 = .ok (.bipush 10, 2) := by decide +kernel
theorem dX8_on_13 : decode cX8_on 13 = .ok (.isub, 1) := by decide +kernel
theorem dX8_on_14 : decode cX8_on 14 = .ok (.invokevirtual 165, 3) := by decide +kernel
theorem dX8_on_17 : decode cX8_on 17 = .ok (.ifCond .ne 16, 3) := by decide +kernel
theorem dX8_on_20 : decode cX8_on 20 = .ok (.aload_n 0, 1) := by decide +kernel
theorem dX8_on_21 : decode cX8_on 21 = .ok (.iload_n 2, 1) := by decide +kernel
theorem dX8_on_22 : decode cX8_on 22 = .ok (.bipush 20, 2) := by decide +kernel
theorem dX8_on_24 : decode cX8_on 24 = .ok (.isub, 1) := by decide +kernel
theorem dX8_on_25 : decode cX8_on 25 = .ok (.invokevirtual 165, 3) := by decide +kernel
theorem dX8_on_28 : decode cX8_on 28 = .ok (.ifCond .ne 5, 3) := by decide +kernel
theorem dX8_on_31 : decode cX8_on 31 = .ok (.iconst (-1), 1) := by decide +kernel
theorem dX8_on_32 : decode cX8_on 32 = .ok (.ireturn, 1) := by decide +kernel
theorem dX8_on_33 : decode cX8_on 33 = .ok (.iload_n 1, 1) := by decide +kernel
theorem dX8_on_34 : decode cX8_on 34 = .ok (.iconst 0, 1) := by decide +kernel
theorem dX8_on_35 : decode cX8_on 35 = .ok (.bipush 60, 2) := by decide +kernel
theorem dX8_on_37 : decode cX8_on 37 = .ok (.invokestatic 38, 3) := by decide +kernel
theorem dX8_on_40 : decode cX8_on 40 = .ok (.ifCond .ne 6, 3) := by decide +kernel
theorem dX8_on_43 : decode cX8_on 43 = .ok (.bipush (-2), 2) := by decide +kernel
theorem dX8_on_45 : decode cX8_on 45 = .ok (.ireturn, 1) := by decide +kernel
theorem dX8_on_46 : decode cX8_on 46 = .ok (.aload_n 0, 1) := by decide +kernel
theorem dX8_on_47 : decode cX8_on 47 = .ok (.invokevirtual 188, 3) := by decide +kernel
theorem dX8_on_50 : decode cX8_on 50 = .ok (.aload_n 0, 1) := by decide +kernel
theorem dX8_on_51 : decode cX8_on 51 = .ok (.iload_n 1, 1) := by decide +kernel
theorem dX8_on_52 : decode cX8_on 52 = .ok (.invokevirtual 191, 3) := by decide +kernel
theorem dX8_on_55 : decode cX8_on 55 = .ok (.iload_n 2, 1) := by decide +kernel
theorem dX8_on_56 : decode cX8_on 56 = .ok (.ifCond .ne 10, 3) := by decide +kernel
theorem dX8_on_59 : decode cX8_on 59 = .ok (.aload_n 0, 1) := by decide +kernel
theorem dX8_on_60 : decode cX8_on 60 = .ok (.invokevirtual 194, 3) := by decide +kernel
theorem dX8_on_63 : decode cX8_on 63 = .ok (.goto 44, 3) := by decide +kernel
theorem dX8_on_66 : decode cX8_on 66 = .ok (.iload_n 2, 1) := by decide +kernel
theorem dX8_on_67 : decode cX8_on 67 = .ok (.iconst 1, 1) := by decide +kernel
theorem dX8_on_68 : decode cX8_on 68 = .ok (.if_icmp .ne 10, 3) := by decide +kernel
theorem dX8_on_71 : decode cX8_on 71 = .ok (.aload_n 0, 1) := by decide +kernel
theorem dX8_on_72 : decode cX8_on 72 = .ok (.invokevirtual 197, 3) := by decide +kernel
theorem dX8_on_75 : decode cX8_on 75 = .ok (.goto 32, 3) := by decide +kernel
theorem dX8_on_78 : decode cX8_on 78 = .ok (.iload_n 2, 1) := by decide +kernel
theorem dX8_on_79 : decode cX8_on 79 = .ok (.bipush 20, 2) := by decide +kernel
theorem dX8_on_81 : decode cX8_on 81 = .ok (.if_icmp .ge 14, 3) := by decide +kernel
theorem dX8_on_84 : decode cX8_on 84 = .ok (.aload_n 0, 1) := by decide +kernel
theorem dX8_on_85 : decode cX8_on 85 = .ok (.iload_n 2, 1) := by decide +kernel
theorem dX8_on_86 : decode cX8_on 86 = .ok (.bipush 10, 2) := by decide +kernel
theorem dX8_on_88 : decode cX8_on 88 = .ok (.isub, 1) := by decide +kernel
theorem dX8_on_89 : decode cX8_on 89 = .ok (.invokevirtual 185, 3) := by decide +kernel
theorem dX8_on_92 : decode cX8_on 92 = .ok (.goto 15, 3) := by decide +kernel
theorem dX8_on_95 : decode cX8_on 95 = .ok (.aload_n 0, 1) := by decide +kernel
theorem dX8_on_96 : decode cX8_on 96 = .ok (.getfield 9, 3) := by decide +kernel
theorem dX8_on_99 : decode cX8_on 99 = .ok (.bipush 8, 2) := by decide +kernel
theorem dX8_on_101 : decode cX8_on 101 = .ok (.iload_n 2, 1) := by decide +kernel
theorem dX8_on_102 : decode cX8_on 102 = .ok (.iadd, 1) := by decide +kernel
theorem dX8_on_103 : decode cX8_on 103 = .ok (.bipush 20, 2) := by decide +kernel
theorem dX8_on_105 : decode cX8_on 105 = .ok (.isub, 1) := by decide +kernel
theorem dX8_on_106 : decode cX8_on 106 = .ok (.iaload, 1) := by decide +kernel
theorem dX8_on_107 : decode cX8_on 107 = .ok (.istore_n 3, 1) := by decide +kernel
theorem dX8_on_108 : decode cX8_on 108 = .ok (.aload_n 0, 1) := by decide +kernel
theorem dX8_on_109 : decode cX8_on 109 = .ok (.invokevirtual 200, 3) := by decide +kernel
theorem dX8_on_112 : decode cX8_on 112 = .ok (.iload_n 3, 1) := by decide +kernel
theorem dX8_on_113 : decode cX8_on 113 = .ok (.ireturn, 1) := by decide +kernel
set_option maxRecDepth 20000 in
theorem ggX8_ready_X8_keeps : GoodIn wsX8_ready wsX8_keeps := goodIn_r _ [6, 7, 1, 50, 51, 52, 53, 54, 55, 56, 57, 58, 59, 60, 61, 62, 63, 64, 65, 66, 67, 68, 69] (by decide +kernel) (by decide +kernel)
set_option maxRecDepth 20000 in
theorem gX8_ready_X8_keeps : GoodIn wsX8_ready (wsV RX8 188 RX8 yX8_keeps wsX8_keeps) := goodIn_app (goodIn_of _ (by decide +kernel)) ggX8_ready_X8_keeps
set_option maxRecDepth 20000 in
theorem ggX8_ready_X8_goalNow : GoodIn wsX8_ready wsX8_goalNow := goodIn_r _ [11, 12, 13, 14, 5, 15, 1, 16, 17, 18, 50, 51, 52, 53, 54, 55, 56, 57, 58, 59, 60, 61, 62, 63, 64, 65, 66, 67, 68, 69] (by decide +kernel) (by decide +kernel)
set_option maxRecDepth 20000 in
theorem gX8_ready_X8_goalNow : GoodIn wsX8_ready (wsV RX8 153 RX8 yX8_goalNow wsX8_goalNow) := goodIn_app (goodIn_of _ (by decide +kernel)) ggX8_ready_X8_goalNow
set_option maxRecDepth 20000 in
theorem ggX8_ready_X8_goes : GoodIn wsX8_ready wsX8_goes := goodIn_r _ [22, 1, 23, 24, 25, 26, 5, 27, 28, 29, 30, 31, 32, 33, 34, 35, 36, 37, 12, 13, 14, 15, 38, 39, 40, 41, 42, 43, 44, 45, 16, 17, 18, 50, 51, 52, 53, 54, 55, 56, 57, 58, 59, 60, 61, 62, 63, 64, 65, 66, 67, 68, 69] (by decide +kernel) (by decide +kernel)
set_option maxRecDepth 20000 in
theorem gX8_ready_X8_goes : GoodIn wsX8_ready (wsV RX8 181 RX8 yX8_goes wsX8_goes) := goodIn_app (goodIn_of _ (by decide +kernel)) ggX8_ready_X8_goes
set_option maxRecDepth 20000 in
theorem ggX8_ready_X8_goesBack : GoodIn wsX8_ready wsX8_goesBack := goodIn_r _ [49, 1, 7, 50, 51, 52, 53, 54, 55, 56, 57, 58, 59, 60, 61, 62, 63, 64, 65, 66, 67, 68, 69] (by decide +kernel) (by decide +kernel)
set_option maxRecDepth 20000 in
theorem gX8_ready_X8_goesBack : GoodIn wsX8_ready (wsV RX8 200 RX8 yX8_goesBack wsX8_goesBack) := goodIn_app (goodIn_of _ (by decide +kernel)) ggX8_ready_X8_goesBack
theorem dX8_ready_0 : decode cX8_ready 0 = .ok (.aload_n 0, 1) := by decide +kernel
theorem dX8_ready_1 : decode cX8_ready 1 = .ok (.invokevirtual 188, 3) := by decide +kernel
theorem dX8_ready_4 : decode cX8_ready 4 = .ok (.bipush (-5), 2) := by decide +kernel
theorem dX8_ready_6 : decode cX8_ready 6 = .ok (.istore_n 1, 1) := by decide +kernel
theorem dX8_ready_7 : decode cX8_ready 7 = .ok (.iconst 0, 1) := by decide +kernel
theorem dX8_ready_8 : decode cX8_ready 8 = .ok (.istore_n 2, 1) := by decide +kernel
theorem dX8_ready_9 : decode cX8_ready 9 = .ok (.iload_n 2, 1) := by decide +kernel
theorem dX8_ready_10 : decode cX8_ready 10 = .ok (.bipush 60, 2) := by decide +kernel
theorem dX8_ready_12 : decode cX8_ready 12 = .ok (.if_icmp .gt 39, 3) := by decide +kernel
theorem dX8_ready_15 : decode cX8_ready 15 = .ok (.iload_n 1, 1) := by decide +kernel
theorem dX8_ready_16 : decode cX8_ready 16 = .ok (.bipush (-5), 2) := by decide +kernel
theorem dX8_ready_18 : decode cX8_ready 18 = .ok (.if_icmp .ne 33, 3) := by decide +kernel
theorem dX8_ready_21 : decode cX8_ready 21 = .ok (.aload_n 0, 1) := by decide +kernel
theorem dX8_ready_22 : decode cX8_ready 22 = .ok (.getfield 9, 3) := by decide +kernel
theorem dX8_ready_25 : decode cX8_ready 25 = .ok (.iconst 1, 1) := by decide +kernel
theorem dX8_ready_26 : decode cX8_ready 26 = .ok (.iaload, 1) := by decide +kernel
theorem dX8_ready_27 : decode cX8_ready 27 = .ok (.aload_n 0, 1) := by decide +kernel
theorem dX8_ready_28 : decode cX8_ready 28 = .ok (.invokevirtual 153, 3) := by decide +kernel
theorem dX8_ready_31 : decode cX8_ready 31 = .ok (.if_icmp .lt 7, 3) := by decide +kernel
theorem dX8_ready_34 : decode cX8_ready 34 = .ok (.iload_n 2, 1) := by decide +kernel
theorem dX8_ready_35 : decode cX8_ready 35 = .ok (.goto 5, 3) := by decide +kernel
theorem dX8_ready_38 : decode cX8_ready 38 = .ok (.bipush (-5), 2) := by decide +kernel
theorem dX8_ready_40 : decode cX8_ready 40 = .ok (.istore_n 1, 1) := by decide +kernel
theorem dX8_ready_41 : decode cX8_ready 41 = .ok (.aload_n 0, 1) := by decide +kernel
theorem dX8_ready_42 : decode cX8_ready 42 = .ok (.invokevirtual 181, 3) := by decide +kernel
theorem dX8_ready_45 : decode cX8_ready 45 = .ok (.iinc 2 1, 3) := by decide +kernel
theorem dX8_ready_48 : decode cX8_ready 48 = .ok (.goto (-39), 3) := by decide +kernel
theorem dX8_ready_51 : decode cX8_ready 51 = .ok (.aload_n 0, 1) := by decide +kernel
theorem dX8_ready_52 : decode cX8_ready 52 = .ok (.invokevirtual 200, 3) := by decide +kernel
theorem dX8_ready_55 : decode cX8_ready 55 = .ok (.iload_n 1, 1) := by decide +kernel
theorem dX8_ready_56 : decode cX8_ready 56 = .ok (.ireturn, 1) := by decide +kernel
set_option maxRecDepth 20000 in
theorem ggX8_spread_X8_isRule : GoodIn wsX8_spread wsX8_isRule := goodIn_r _ [6, 7, 8, 5, 9] (by decide +kernel) (by decide +kernel)
set_option maxRecDepth 20000 in
theorem gX8_spread_X8_isRule : GoodIn wsX8_spread (va_wsS RX8 175 yX8_isRule wsX8_isRule) := goodIn_app (goodIn_of _ (by decide +kernel)) ggX8_spread_X8_isRule
set_option maxRecDepth 20000 in
theorem ggX8_spread_X8_markOf : GoodIn wsX8_spread wsX8_markOf := goodIn_r _ [13, 2, 14, 15, 16, 5, 17, 18, 19, 20, 21, 22, 23, 24, 25, 26, 27, 28, 29, 30, 31, 32, 33, 34, 35, 36, 37, 38, 39, 40, 41, 42, 43, 44, 45, 46, 47, 48, 49, 50, 51, 52, 53, 54, 55, 56, 57, 58, 59, 60, 61, 62, 63, 64, 65, 66, 67, 68, 69, 70, 71, 72] (by decide +kernel) (by decide +kernel)
set_option maxRecDepth 20000 in
theorem gX8_spread_X8_markOf : GoodIn wsX8_spread (wsV RX8 178 RX8 yX8_markOf wsX8_markOf) := goodIn_app (goodIn_of _ (by decide +kernel)) ggX8_spread_X8_markOf
theorem dX8_spread_0 : decode cX8_spread 0 = .ok (.iload_n 1, 1) := by decide +kernel
theorem dX8_spread_1 : decode cX8_spread 1 = .ok (.invokestatic 175, 3) := by decide +kernel
theorem dX8_spread_4 : decode cX8_spread 4 = .ok (.ifCond .ne 5, 3) := by decide +kernel
theorem dX8_spread_7 : decode cX8_spread 7 = .ok (.iconst (-1), 1) := by decide +kernel
theorem dX8_spread_8 : decode cX8_spread 8 = .ok (.ireturn, 1) := by decide +kernel
theorem dX8_spread_9 : decode cX8_spread 9 = .ok (.iconst (-1), 1) := by decide +kernel
theorem dX8_spread_10 : decode cX8_spread 10 = .ok (.istore_n 2, 1) := by decide +kernel
theorem dX8_spread_11 : decode cX8_spread 11 = .ok (.ldc 203, 2) := by decide +kernel
theorem dX8_spread_13 : decode cX8_spread 13 = .ok (.istore_n 3, 1) := by decide +kernel
theorem dX8_spread_14 : decode cX8_spread 14 = .ok (.iconst 0, 1) := by decide +kernel
theorem dX8_spread_15 : decode cX8_spread 15 = .ok (.istore 4, 2) := by decide +kernel
theorem dX8_spread_17 : decode cX8_spread 17 = .ok (.iload 4, 2) := by decide +kernel
theorem dX8_spread_19 : decode cX8_spread 19 = .ok (.aload_n 0, 1) := by decide +kernel
theorem dX8_spread_20 : decode cX8_spread 20 = .ok (.getfield 9, 3) := by decide +kernel
theorem dX8_spread_23 : decode cX8_spread 23 = .ok (.bipush 20, 2) := by decide +kernel
theorem dX8_spread_25 : decode cX8_spread 25 = .ok (.iaload, 1) := by decide +kernel
theorem dX8_spread_26 : decode cX8_spread 26 = .ok (.if_icmp .ge 70, 3) := by decide +kernel
theorem dX8_spread_29 : decode cX8_spread 29 = .ok (.aload_n 0, 1) := by decide +kernel
theorem dX8_spread_30 : decode cX8_spread 30 = .ok (.iload 4, 2) := by decide +kernel
theorem dX8_spread_32 : decode cX8_spread 32 = .ok (.iload_n 1, 1) := by decide +kernel
theorem dX8_spread_33 : decode cX8_spread 33 = .ok (.invokevirtual 178, 3) := by decide +kernel
theorem dX8_spread_36 : decode cX8_spread 36 = .ok (.istore 5, 2) := by decide +kernel
theorem dX8_spread_38 : decode cX8_spread 38 = .ok (.aload_n 0, 1) := by decide +kernel
theorem dX8_spread_39 : decode cX8_spread 39 = .ok (.getfield 9, 3) := by decide +kernel
theorem dX8_spread_42 : decode cX8_spread 42 = .ok (.bipush 14, 2) := by decide +kernel
theorem dX8_spread_44 : decode cX8_spread 44 = .ok (.iload 4, 2) := by decide +kernel
theorem dX8_spread_46 : decode cX8_spread 46 = .ok (.iadd, 1) := by decide +kernel
theorem dX8_spread_47 : decode cX8_spread 47 = .ok (.iaload, 1) := by decide +kernel
theorem dX8_spread_48 : decode cX8_spread 48 = .ok (.ifCond .ne 14, 3) := by decide +kernel
theorem dX8_spread_51 : decode cX8_spread 51 = .ok (.iload 5, 2) := by decide +kernel
theorem dX8_spread_53 : decode cX8_spread 53 = .ok (.iload_n 2, 1) := by decide +kernel
theorem dX8_spread_54 : decode cX8_spread 54 = .ok (.if_icmp .le 8, 3) := by decide +kernel
theorem dX8_spread_57 : decode cX8_spread 57 = .ok (.iload 5, 2) := by decide +kernel
theorem dX8_spread_59 : decode cX8_spread 59 = .ok (.goto 4, 3) := by decide +kernel
theorem dX8_spread_62 : decode cX8_spread 62 = .ok (.iload_n 2, 1) := by decide +kernel
theorem dX8_spread_63 : decode cX8_spread 63 = .ok (.istore_n 2, 1) := by decide +kernel
theorem dX8_spread_64 : decode cX8_spread 64 = .ok (.aload_n 0, 1) := by decide +kernel
theorem dX8_spread_65 : decode cX8_spread 65 = .ok (.getfield 9, 3) := by decide +kernel
theorem dX8_spread_68 : decode cX8_spread 68 = .ok (.bipush 14, 2) := by decide +kernel
theorem dX8_spread_70 : decode cX8_spread 70 = .ok (.iload 4, 2) := by decide +kernel
theorem dX8_spread_72 : decode cX8_spread 72 = .ok (.iadd, 1) := by decide +kernel
theorem dX8_spread_73 : decode cX8_spread 73 = .ok (.iaload, 1) := by decide +kernel
theorem dX8_spread_74 : decode cX8_spread 74 = .ok (.ifCond .ne 14, 3) := by decide +kernel
theorem dX8_spread_77 : decode cX8_spread 77 = .ok (.iload 5, 2) := by decide +kernel
theorem dX8_spread_79 : decode cX8_spread 79 = .ok (.iload_n 3, 1) := by decide +kernel
theorem dX8_spread_80 : decode cX8_spread 80 = .ok (.if_icmp .ge 8, 3) := by decide +kernel
theorem dX8_spread_83 : decode cX8_spread 83 = .ok (.iload 5, 2) := by decide +kernel
theorem dX8_spread_85 : decode cX8_spread 85 = .ok (.goto 4, 3) := by decide +kernel
theorem dX8_spread_88 : decode cX8_spread 88 = .ok (.iload_n 3, 1) := by decide +kernel
theorem dX8_spread_89 : decode cX8_spread 89 = .ok (.istore_n 3, 1) := by decide +kernel
theorem dX8_spread_90 : decode cX8_spread 90 = .ok (.iinc 4 1, 3) := by decide +kernel
theorem dX8_spread_93 : decode cX8_spread 93 = .ok (.goto (-76), 3) := by decide +kernel
theorem dX8_spread_96 : decode cX8_spread 96 = .ok (.iload_n 2, 1) := by decide +kernel
theorem dX8_spread_97 : decode cX8_spread 97 = .ok (.iconst (-1), 1) := by decide +kernel
theorem dX8_spread_98 : decode cX8_spread 98 = .ok (.if_icmp .ne 7, 3) := by decide +kernel
theorem dX8_spread_101 : decode cX8_spread 101 = .ok (.iconst 0, 1) := by decide +kernel
theorem dX8_spread_102 : decode cX8_spread 102 = .ok (.goto 6, 3) := by decide +kernel
theorem dX8_spread_105 : decode cX8_spread 105 = .ok (.iload_n 2, 1) := by decide +kernel
theorem dX8_spread_106 : decode cX8_spread 106 = .ok (.iload_n 3, 1) := by decide +kernel
theorem dX8_spread_107 : decode cX8_spread 107 = .ok (.isub, 1) := by decide +kernel
theorem dX8_spread_108 : decode cX8_spread 108 = .ok (.ireturn, 1) := by decide +kernel
set_option maxRecDepth 20000 in
theorem ggX8_farFrom_X8_markOf : GoodIn wsX8_farFrom wsX8_markOf := goodIn_r _ [6, 1, 7, 8, 9, 5, 10, 11, 12, 13, 14, 15, 16, 17, 18, 19, 20, 21, 22, 23, 24, 25, 26, 27, 28, 29, 30, 31, 32, 33, 34, 35, 36, 37, 38, 39, 40, 41, 42, 43, 44, 45, 49, 50, 51, 52, 53, 54, 55, 56, 57, 58, 59, 60, 61, 62, 63, 64, 65, 66, 67, 68] (by decide +kernel) (by decide +kernel)
set_option maxRecDepth 20000 in
theorem gX8_farFrom_X8_markOf : GoodIn wsX8_farFrom (wsV RX8 178 RX8 yX8_markOf wsX8_markOf) := goodIn_app (goodIn_of _ (by decide +kernel)) ggX8_farFrom_X8_markOf
set_option maxRecDepth 20000 in
theorem ggX8_farFrom_X8_size : GoodIn wsX8_farFrom wsX8_size := goodIn_r _ [48] (by decide +kernel) (by decide +kernel)
set_option maxRecDepth 20000 in
theorem gX8_farFrom_X8_size : GoodIn wsX8_farFrom (va_wsS RX8 204 yX8_size wsX8_size) := goodIn_app (goodIn_of _ (by decide +kernel)) ggX8_farFrom_X8_size
theorem dX8_farFrom_0 : decode cX8_farFrom 0 = .ok (.iconst 0, 1) := by decide +kernel
theorem dX8_farFrom_1 : decode cX8_farFrom 1 = .ok (.istore_n 2, 1) := by decide +kernel
theorem dX8_farFrom_2 : decode cX8_farFrom 2 = .ok (.iconst 0, 1) := by decide +kernel
theorem dX8_farFrom_3 : decode cX8_farFrom 3 = .ok (.istore_n 3, 1) := by decide +kernel
theorem dX8_farFrom_4 : decode cX8_farFrom 4 = .ok (.iload_n 3, 1) := by decide +kernel
theorem dX8_farFrom_5 : decode cX8_farFrom 5 = .ok (.aload_n 0, 1) := by decide +kernel
theorem dX8_farFrom_6 : decode cX8_farFrom 6 = .ok (.getfield 9, 3) := by decide +kernel
theorem dX8_farFrom_9 : decode cX8_farFrom 9 = .ok (.bipush 20, 2) := by decide +kernel
theorem dX8_farFrom_11 : decode cX8_farFrom 11 = .ok (.iaload, 1) := by decide +kernel
theorem dX8_farFrom_12 : decode cX8_farFrom 12 = .ok (.if_icmp .ge 28, 3) := by decide +kernel
theorem dX8_farFrom_15 : decode cX8_farFrom 15 = .ok (.iload_n 2, 1) := by decide +kernel
theorem dX8_farFrom_16 : decode cX8_farFrom 16 = .ok (.aload_n 0, 1) := by decide +kernel
theorem dX8_farFrom_17 : decode cX8_farFrom 17 = .ok (.iload_n 3, 1) := by decide +kernel
theorem dX8_farFrom_18 : decode cX8_farFrom 18 = .ok (.iload_n 1, 1) := by decide +kernel
theorem dX8_farFrom_19 : decode cX8_farFrom 19 = .ok (.invokevirtual 178, 3) := by decide +kernel
theorem dX8_farFrom_22 : decode cX8_farFrom 22 = .ok (.aload_n 0, 1) := by decide +kernel
theorem dX8_farFrom_23 : decode cX8_farFrom 23 = .ok (.iload_n 3, 1) := by decide +kernel
theorem dX8_farFrom_24 : decode cX8_farFrom 24 = .ok (.iconst 1, 1) := by decide +kernel
theorem dX8_farFrom_25 : decode cX8_farFrom 25 = .ok (.invokevirtual 178, 3) := by decide +kernel
theorem dX8_farFrom_28 : decode cX8_farFrom 28 = .ok (.isub, 1) := by decide +kernel
theorem dX8_farFrom_29 : decode cX8_farFrom 29 = .ok (.invokestatic 204, 3) := by decide +kernel
theorem dX8_farFrom_32 : decode cX8_farFrom 32 = .ok (.iadd, 1) := by decide +kernel
theorem dX8_farFrom_33 : decode cX8_farFrom 33 = .ok (.istore_n 2, 1) := by decide +kernel
theorem dX8_farFrom_34 : decode cX8_farFrom 34 = .ok (.iinc 3 1, 3) := by decide +kernel
theorem dX8_farFrom_37 : decode cX8_farFrom 37 = .ok (.goto (-33), 3) := by decide +kernel
theorem dX8_farFrom_40 : decode cX8_farFrom 40 = .ok (.iload_n 2, 1) := by decide +kernel
theorem dX8_farFrom_41 : decode cX8_farFrom 41 = .ok (.ireturn, 1) := by decide +kernel
set_option maxRecDepth 20000 in
theorem ggX8_nearest_X8_farFrom : GoodIn wsX8_nearest wsX8_farFrom := goodIn_r _ [5, 6, 7, 8, 9, 4, 10, 11, 12, 13, 14, 15, 16, 17, 18, 19, 20, 21, 22, 23, 24, 25, 26, 27, 28, 29, 30, 31, 32, 33, 34, 35, 36, 37, 38, 39, 40, 41, 42, 43, 44, 45, 46, 47, 48, 49, 50, 51, 52, 53, 54, 55, 56, 57, 58, 59, 60, 61, 62, 63, 64, 65, 66, 67, 68, 69, 70, 71, 72] (by decide +kernel) (by decide +kernel)
set_option maxRecDepth 20000 in
theorem gX8_nearest_X8_farFrom : GoodIn wsX8_nearest (wsV RX8 207 RX8 yX8_farFrom wsX8_farFrom) := goodIn_app (goodIn_of _ (by decide +kernel)) ggX8_nearest_X8_farFrom
theorem dX8_nearest_0 : decode cX8_nearest 0 = .ok (.iconst 0, 1) := by decide +kernel
theorem dX8_nearest_1 : decode cX8_nearest 1 = .ok (.istore_n 1, 1) := by decide +kernel
theorem dX8_nearest_2 : decode cX8_nearest 2 = .ok (.aload_n 0, 1) := by decide +kernel
theorem dX8_nearest_3 : decode cX8_nearest 3 = .ok (.iconst 2, 1) := by decide +kernel
theorem dX8_nearest_4 : decode cX8_nearest 4 = .ok (.invokevirtual 207, 3) := by decide +kernel
theorem dX8_nearest_7 : decode cX8_nearest 7 = .ok (.aload_n 0, 1) := by decide +kernel
theorem dX8_nearest_8 : decode cX8_nearest 8 = .ok (.iload_n 1, 1) := by decide +kernel
theorem dX8_nearest_9 : decode cX8_nearest 9 = .ok (.invokevirtual 207, 3) := by decide +kernel
theorem dX8_nearest_12 : decode cX8_nearest 12 = .ok (.if_icmp .ge 7, 3) := by decide +kernel
theorem dX8_nearest_15 : decode cX8_nearest 15 = .ok (.iconst 2, 1) := by decide +kernel
theorem dX8_nearest_16 : decode cX8_nearest 16 = .ok (.goto 4, 3) := by decide +kernel
theorem dX8_nearest_19 : decode cX8_nearest 19 = .ok (.iload_n 1, 1) := by decide +kernel
theorem dX8_nearest_20 : decode cX8_nearest 20 = .ok (.istore_n 1, 1) := by decide +kernel
theorem dX8_nearest_21 : decode cX8_nearest 21 = .ok (.aload_n 0, 1) := by decide +kernel
theorem dX8_nearest_22 : decode cX8_nearest 22 = .ok (.iconst 3, 1) := by decide +kernel
theorem dX8_nearest_23 : decode cX8_nearest 23 = .ok (.invokevirtual 207, 3) := by decide +kernel
theorem dX8_nearest_26 : decode cX8_nearest 26 = .ok (.aload_n 0, 1) := by decide +kernel
theorem dX8_nearest_27 : decode cX8_nearest 27 = .ok (.iload_n 1, 1) := by decide +kernel
theorem dX8_nearest_28 : decode cX8_nearest 28 = .ok (.invokevirtual 207, 3) := by decide +kernel
theorem dX8_nearest_31 : decode cX8_nearest 31 = .ok (.if_icmp .ge 7, 3) := by decide +kernel
theorem dX8_nearest_34 : decode cX8_nearest 34 = .ok (.iconst 3, 1) := by decide +kernel
theorem dX8_nearest_35 : decode cX8_nearest 35 = .ok (.goto 4, 3) := by decide +kernel
theorem dX8_nearest_38 : decode cX8_nearest 38 = .ok (.iload_n 1, 1) := by decide +kernel
theorem dX8_nearest_39 : decode cX8_nearest 39 = .ok (.ireturn, 1) := by decide +kernel
set_option maxRecDepth 20000 in
theorem ggX8_workBy_X8_keeps : GoodIn wsX8_workBy wsX8_keeps := goodIn_r _ [6, 7, 1, 54, 55, 56, 57, 58, 59, 60, 61, 62, 63, 64, 65, 66, 67, 68, 69, 70, 71, 72, 73] (by decide +kernel) (by decide +kernel)
set_option maxRecDepth 20000 in
theorem gX8_workBy_X8_keeps : GoodIn wsX8_workBy (wsV RX8 188 RX8 yX8_keeps wsX8_keeps) := goodIn_app (goodIn_of _ (by decide +kernel)) ggX8_workBy_X8_keeps
set_option maxRecDepth 20000 in
theorem ggX8_workBy_X8_goesOn : GoodIn wsX8_workBy wsX8_goesOn := goodIn_r _ [11, 12, 13, 14, 5, 15, 1, 16, 17, 18, 19, 20, 21, 22, 23, 24, 25, 26, 27, 28, 29, 30, 31, 32, 33, 34, 35, 36, 37, 38, 39, 40, 41, 42, 43, 44, 45, 54, 55, 56, 57, 58, 59, 60, 61, 62, 63, 64, 65, 66, 67, 68, 69, 70, 71, 72, 73] (by decide +kernel) (by decide +kernel)
set_option maxRecDepth 20000 in
theorem gX8_workBy_X8_goesOn : GoodIn wsX8_workBy (wsV RX8 191 RX8 yX8_goesOn wsX8_goesOn) := goodIn_app (goodIn_of _ (by decide +kernel)) ggX8_workBy_X8_goesOn
set_option maxRecDepth 20000 in
theorem ggX8_workBy_X8_workMore : GoodIn wsX8_workBy wsX8_workMore := goodIn_r _ [49, 1, 7, 54, 55, 56, 57, 58, 59, 60, 61, 62, 63, 64, 65, 66, 67, 68, 69, 70, 71, 72, 73] (by decide +kernel) (by decide +kernel)
set_option maxRecDepth 20000 in
theorem gX8_workBy_X8_workMore : GoodIn wsX8_workBy (wsV RX8 194 RX8 yX8_workMore wsX8_workMore) := goodIn_app (goodIn_of _ (by decide +kernel)) ggX8_workBy_X8_workMore
set_option maxRecDepth 20000 in
theorem ggX8_workBy_X8_goesBack : GoodIn wsX8_workBy wsX8_goesBack := goodIn_r _ [53, 1, 7, 54, 55, 56, 57, 58, 59, 60, 61, 62, 63, 64, 65, 66, 67, 68, 69, 70, 71, 72, 73] (by decide +kernel) (by decide +kernel)
set_option maxRecDepth 20000 in
theorem gX8_workBy_X8_goesBack : GoodIn wsX8_workBy (wsV RX8 200 RX8 yX8_goesBack wsX8_goesBack) := goodIn_app (goodIn_of _ (by decide +kernel)) ggX8_workBy_X8_goesBack
theorem dX8_workBy_0 : decode cX8_workBy 0 = .ok (.aload_n 0, 1) := by decide +kernel
theorem dX8_workBy_1 : decode cX8_workBy 1 = .ok (.invokevirtual 188, 3) := by decide +kernel
theorem dX8_workBy_4 : decode cX8_workBy 4 = .ok (.iconst 0, 1) := by decide +kernel
theorem dX8_workBy_5 : decode cX8_workBy 5 = .ok (.istore_n 3, 1) := by decide +kernel
theorem dX8_workBy_6 : decode cX8_workBy 6 = .ok (.iload_n 3, 1) := by decide +kernel
theorem dX8_workBy_7 : decode cX8_workBy 7 = .ok (.aload_n 0, 1) := by decide +kernel
theorem dX8_workBy_8 : decode cX8_workBy 8 = .ok (.getfield 9, 3) := by decide +kernel
theorem dX8_workBy_11 : decode cX8_workBy 11 = .ok (.bipush 20, 2) := by decide +kernel
theorem dX8_workBy_13 : decode cX8_workBy 13 = .ok (.iaload, 1) := by decide +kernel
theorem dX8_workBy_14 : decode cX8_workBy 14 = .ok (.if_icmp .ge 32, 3) := by decide +kernel
theorem dX8_workBy_17 : decode cX8_workBy 17 = .ok (.aload_n 0, 1) := by decide +kernel
theorem dX8_workBy_18 : decode cX8_workBy 18 = .ok (.getfield 9, 3) := by decide +kernel
theorem dX8_workBy_21 : decode cX8_workBy 21 = .ok (.bipush 14, 2) := by decide +kernel
theorem dX8_workBy_23 : decode cX8_workBy 23 = .ok (.iload_n 3, 1) := by decide +kernel
theorem dX8_workBy_24 : decode cX8_workBy 24 = .ok (.iadd, 1) := by decide +kernel
theorem dX8_workBy_25 : decode cX8_workBy 25 = .ok (.iload_n 1, 1) := by decide +kernel
theorem dX8_workBy_26 : decode cX8_workBy 26 = .ok (.iload_n 3, 1) := by decide +kernel
theorem dX8_workBy_27 : decode cX8_workBy 27 = .ok (.ishr, 1) := by decide +kernel
theorem dX8_workBy_28 : decode cX8_workBy 28 = .ok (.iconst 1, 1) := by decide +kernel
theorem dX8_workBy_29 : decode cX8_workBy 29 = .ok (.iand, 1) := by decide +kernel
theorem dX8_workBy_30 : decode cX8_workBy 30 = .ok (.iconst 1, 1) := by decide +kernel
theorem dX8_workBy_31 : decode cX8_workBy 31 = .ok (.if_icmp .ne 7, 3) := by decide +kernel
theorem dX8_workBy_34 : decode cX8_workBy 34 = .ok (.iconst 0, 1) := by decide +kernel
theorem dX8_workBy_35 : decode cX8_workBy 35 = .ok (.goto 4, 3) := by decide +kernel
theorem dX8_workBy_38 : decode cX8_workBy 38 = .ok (.iconst 1, 1) := by decide +kernel
theorem dX8_workBy_39 : decode cX8_workBy 39 = .ok (.iastore, 1) := by decide +kernel
theorem dX8_workBy_40 : decode cX8_workBy 40 = .ok (.iinc 3 1, 3) := by decide +kernel
theorem dX8_workBy_43 : decode cX8_workBy 43 = .ok (.goto (-37), 3) := by decide +kernel
theorem dX8_workBy_46 : decode cX8_workBy 46 = .ok (.aload_n 0, 1) := by decide +kernel
theorem dX8_workBy_47 : decode cX8_workBy 47 = .ok (.iload_n 2, 1) := by decide +kernel
theorem dX8_workBy_48 : decode cX8_workBy 48 = .ok (.invokevirtual 191, 3) := by decide +kernel
theorem dX8_workBy_51 : decode cX8_workBy 51 = .ok (.aload_n 0, 1) := by decide +kernel
theorem dX8_workBy_52 : decode cX8_workBy 52 = .ok (.invokevirtual 194, 3) := by decide +kernel
theorem dX8_workBy_55 : decode cX8_workBy 55 = .ok (.istore_n 3, 1) := by decide +kernel
theorem dX8_workBy_56 : decode cX8_workBy 56 = .ok (.aload_n 0, 1) := by decide +kernel
theorem dX8_workBy_57 : decode cX8_workBy 57 = .ok (.invokevirtual 200, 3) := by decide +kernel
theorem dX8_workBy_60 : decode cX8_workBy 60 = .ok (.iload_n 3, 1) := by decide +kernel
theorem dX8_workBy_61 : decode cX8_workBy 61 = .ok (.ireturn, 1) := by decide +kernel
theorem dX8_setIn_0 : decode cX8_setIn 0 = .ok (.iconst 0, 1) := by decide +kernel
theorem dX8_setIn_1 : decode cX8_setIn 1 = .ok (.istore_n 1, 1) := by decide +kernel
theorem dX8_setIn_2 : decode cX8_setIn 2 = .ok (.iconst 0, 1) := by decide +kernel
theorem dX8_setIn_3 : decode cX8_setIn 3 = .ok (.istore_n 2, 1) := by decide +kernel
theorem dX8_setIn_4 : decode cX8_setIn 4 = .ok (.iload_n 2, 1) := by decide +kernel
theorem dX8_setIn_5 : decode cX8_setIn 5 = .ok (.aload_n 0, 1) := by decide +kernel
theorem dX8_setIn_6 : decode cX8_setIn 6 = .ok (.getfield 9, 3) := by decide +kernel
theorem dX8_setIn_9 : decode cX8_setIn 9 = .ok (.bipush 20, 2) := by decide +kernel
theorem dX8_setIn_11 : decode cX8_setIn 11 = .ok (.iaload, 1) := by decide +kernel
theorem dX8_setIn_12 : decode cX8_setIn 12 = .ok (.if_icmp .ge 31, 3) := by decide +kernel
theorem dX8_setIn_15 : decode cX8_setIn 15 = .ok (.iload_n 1, 1) := by decide +kernel
theorem dX8_setIn_16 : decode cX8_setIn 16 = .ok (.aload_n 0, 1) := by decide +kernel
theorem dX8_setIn_17 : decode cX8_setIn 17 = .ok (.getfield 9, 3) := by decide +kernel
theorem dX8_setIn_20 : decode cX8_setIn 20 = .ok (.bipush 14, 2) := by decide +kernel
theorem dX8_setIn_22 : decode cX8_setIn 22 = .ok (.iload_n 2, 1) := by decide +kernel
theorem dX8_setIn_23 : decode cX8_setIn 23 = .ok (.iadd, 1) := by decide +kernel
theorem dX8_setIn_24 : decode cX8_setIn 24 = .ok (.iaload, 1) := by decide +kernel
theorem dX8_setIn_25 : decode cX8_setIn 25 = .ok (.ifCond .ne 9, 3) := by decide +kernel
theorem dX8_setIn_28 : decode cX8_setIn 28 = .ok (.iconst 1, 1) := by decide +kernel
theorem dX8_setIn_29 : decode cX8_setIn 29 = .ok (.iload_n 2, 1) := by decide +kernel
theorem dX8_setIn_30 : decode cX8_setIn 30 = .ok (.ishl, 1) := by decide +kernel
theorem dX8_setIn_31 : decode cX8_setIn 31 = .ok (.goto 4, 3) := by decide +kernel
theorem dX8_setIn_34 : decode cX8_setIn 34 = .ok (.iconst 0, 1) := by decide +kernel
theorem dX8_setIn_35 : decode cX8_setIn 35 = .ok (.ior, 1) := by decide +kernel
theorem dX8_setIn_36 : decode cX8_setIn 36 = .ok (.istore_n 1, 1) := by decide +kernel
theorem dX8_setIn_37 : decode cX8_setIn 37 = .ok (.iinc 2 1, 3) := by decide +kernel
theorem dX8_setIn_40 : decode cX8_setIn 40 = .ok (.goto (-36), 3) := by decide +kernel
theorem dX8_setIn_43 : decode cX8_setIn 43 = .ok (.iload_n 1, 1) := by decide +kernel
theorem dX8_setIn_44 : decode cX8_setIn 44 = .ok (.ireturn, 1) := by decide +kernel
set_option maxRecDepth 20000 in
theorem ggX8_throwOut_X8_setIn : GoodIn wsX8_throwOut wsX8_setIn := goodIn_r _ [6, 1, 62, 63, 64, 65, 66, 67, 68, 69, 70, 71, 72, 73, 74, 75, 76, 77, 78, 79, 80, 81] (by decide +kernel) (by decide +kernel)
set_option maxRecDepth 20000 in
theorem gX8_throwOut_X8_setIn : GoodIn wsX8_throwOut (wsV RX8 210 RX8 yX8_setIn wsX8_setIn) := goodIn_app (goodIn_of _ (by decide +kernel)) ggX8_throwOut_X8_setIn
set_option maxRecDepth 20000 in
theorem ggX8_throwOut_X8_workBy : GoodIn wsX8_throwOut wsX8_workBy := goodIn_r _ [10, 1, 11, 12, 13, 5, 14, 15, 16, 17, 18, 19, 20, 21, 22, 23, 24, 25, 26, 27, 28, 29, 30, 31, 32, 33, 34, 35, 36, 37, 38, 39, 40, 41, 42, 43, 44, 45, 46, 47, 48, 49, 50, 51, 52, 53, 54, 55, 56, 57, 58, 59, 60, 61, 62, 63, 64, 65, 66, 67, 68, 69, 70, 71, 72, 73, 74, 75, 76, 77, 78, 79, 80, 81] (by decide +kernel) (by decide +kernel)
set_option maxRecDepth 20000 in
theorem gX8_throwOut_X8_workBy : GoodIn wsX8_throwOut (wsV RX8 213 RX8 yX8_workBy wsX8_workBy) := goodIn_app (goodIn_of _ (by decide +kernel)) ggX8_throwOut_X8_workBy
theorem dX8_throwOut_0 : decode cX8_throwOut 0 = .ok (.aload_n 0, 1) := by decide +kernel
theorem dX8_throwOut_1 : decode cX8_throwOut 1 = .ok (.aload_n 0, 1) := by decide +kernel
theorem dX8_throwOut_2 : decode cX8_throwOut 2 = .ok (.invokevirtual 210, 3) := by decide +kernel
theorem dX8_throwOut_5 : decode cX8_throwOut 5 = .ok (.bipush 20, 2) := by decide +kernel
theorem dX8_throwOut_7 : decode cX8_throwOut 7 = .ok (.invokevirtual 213, 3) := by decide +kernel
theorem dX8_throwOut_10 : decode cX8_throwOut 10 = .ok (.istore_n 1, 1) := by decide +kernel
theorem dX8_throwOut_11 : decode cX8_throwOut 11 = .ok (.bipush (-5), 2) := by decide +kernel
theorem dX8_throwOut_13 : decode cX8_throwOut 13 = .ok (.istore_n 2, 1) := by decide +kernel
theorem dX8_throwOut_14 : decode cX8_throwOut 14 = .ok (.iconst 0, 1) := by decide +kernel
theorem dX8_throwOut_15 : decode cX8_throwOut 15 = .ok (.istore_n 3, 1) := by decide +kernel
theorem dX8_throwOut_16 : decode cX8_throwOut 16 = .ok (.iload_n 3, 1) := by decide +kernel
theorem dX8_throwOut_17 : decode cX8_throwOut 17 = .ok (.aload_n 0, 1) := by decide +kernel
theorem dX8_throwOut_18 : decode cX8_throwOut 18 = .ok (.getfield 9, 3) := by decide +kernel
theorem dX8_throwOut_21 : decode cX8_throwOut 21 = .ok (.bipush 20, 2) := by decide +kernel
theorem dX8_throwOut_23 : decode cX8_throwOut 23 = .ok (.iaload, 1) := by decide +kernel
theorem dX8_throwOut_24 : decode cX8_throwOut 24 = .ok (.if_icmp .ge 68, 3) := by decide +kernel
theorem dX8_throwOut_27 : decode cX8_throwOut 27 = .ok (.aload_n 0, 1) := by decide +kernel
theorem dX8_throwOut_28 : decode cX8_throwOut 28 = .ok (.getfield 9, 3) := by decide +kernel
theorem dX8_throwOut_31 : decode cX8_throwOut 31 = .ok (.bipush 14, 2) := by decide +kernel
theorem dX8_throwOut_33 : decode cX8_throwOut 33 = .ok (.iload_n 3, 1) := by decide +kernel
theorem dX8_throwOut_34 : decode cX8_throwOut 34 = .ok (.iadd, 1) := by decide +kernel
theorem dX8_throwOut_35 : decode cX8_throwOut 35 = .ok (.iaload, 1) := by decide +kernel
theorem dX8_throwOut_36 : decode cX8_throwOut 36 = .ok (.ifCond .ne 22, 3) := by decide +kernel
theorem dX8_throwOut_39 : decode cX8_throwOut 39 = .ok (.aload_n 0, 1) := by decide +kernel
theorem dX8_throwOut_40 : decode cX8_throwOut 40 = .ok (.aload_n 0, 1) := by decide +kernel
theorem dX8_throwOut_41 : decode cX8_throwOut 41 = .ok (.invokevirtual 210, 3) := by decide +kernel
theorem dX8_throwOut_44 : decode cX8_throwOut 44 = .ok (.iconst 1, 1) := by decide +kernel
theorem dX8_throwOut_45 : decode cX8_throwOut 45 = .ok (.iload_n 3, 1) := by decide +kernel
theorem dX8_throwOut_46 : decode cX8_throwOut 46 = .ok (.ishl, 1) := by decide +kernel
theorem dX8_throwOut_47 : decode cX8_throwOut 47 = .ok (.iconst (-1), 1) := by decide +kernel
theorem dX8_throwOut_48 : decode cX8_throwOut 48 = .ok (.ixor, 1) := by decide +kernel
theorem dX8_throwOut_49 : decode cX8_throwOut 49 = .ok (.iand, 1) := by decide +kernel
theorem dX8_throwOut_50 : decode cX8_throwOut 50 = .ok (.bipush 20, 2) := by decide +kernel
theorem dX8_throwOut_52 : decode cX8_throwOut 52 = .ok (.invokevirtual 213, 3) := by decide +kernel
theorem dX8_throwOut_55 : decode cX8_throwOut 55 = .ok (.goto 4, 3) := by decide +kernel
theorem dX8_throwOut_58 : decode cX8_throwOut 58 = .ok (.iconst (-1), 1) := by decide +kernel
theorem dX8_throwOut_59 : decode cX8_throwOut 59 = .ok (.istore 4, 2) := by decide +kernel
theorem dX8_throwOut_61 : decode cX8_throwOut 61 = .ok (.iload 4, 2) := by decide +kernel
theorem dX8_throwOut_63 : decode cX8_throwOut 63 = .ok (.iload_n 1, 1) := by decide +kernel
theorem dX8_throwOut_64 : decode cX8_throwOut 64 = .ok (.if_icmp .le 7, 3) := by decide +kernel
theorem dX8_throwOut_67 : decode cX8_throwOut 67 = .ok (.iload_n 3, 1) := by decide +kernel
theorem dX8_throwOut_68 : decode cX8_throwOut 68 = .ok (.goto 4, 3) := by decide +kernel
theorem dX8_throwOut_71 : decode cX8_throwOut 71 = .ok (.iload_n 2, 1) := by decide +kernel
theorem dX8_throwOut_72 : decode cX8_throwOut 72 = .ok (.istore_n 2, 1) := by decide +kernel
theorem dX8_throwOut_73 : decode cX8_throwOut 73 = .ok (.iload 4, 2) := by decide +kernel
theorem dX8_throwOut_75 : decode cX8_throwOut 75 = .ok (.iload_n 1, 1) := by decide +kernel
theorem dX8_throwOut_76 : decode cX8_throwOut 76 = .ok (.if_icmp .le 8, 3) := by decide +kernel
theorem dX8_throwOut_79 : decode cX8_throwOut 79 = .ok (.iload 4, 2) := by decide +kernel
theorem dX8_throwOut_81 : decode cX8_throwOut 81 = .ok (.goto 4, 3) := by decide +kernel
theorem dX8_throwOut_84 : decode cX8_throwOut 84 = .ok (.iload_n 1, 1) := by decide +kernel
theorem dX8_throwOut_85 : decode cX8_throwOut 85 = .ok (.istore_n 1, 1) := by decide +kernel
theorem dX8_throwOut_86 : decode cX8_throwOut 86 = .ok (.iinc 3 1, 3) := by decide +kernel
theorem dX8_throwOut_89 : decode cX8_throwOut 89 = .ok (.goto (-73), 3) := by decide +kernel
theorem dX8_throwOut_92 : decode cX8_throwOut 92 = .ok (.iload_n 2, 1) := by decide +kernel
theorem dX8_throwOut_93 : decode cX8_throwOut 93 = .ok (.ireturn, 1) := by decide +kernel
set_option maxRecDepth 20000 in
theorem ggX8_alone_X8_isPupil : GoodIn wsX8_alone wsX8_isPupil := goodIn_r _ [5, 6, 7, 8, 4, 9, 65, 66, 67, 68, 69, 70, 71, 72, 73, 74, 75, 76, 77, 78, 79, 80, 81, 82, 83, 84] (by decide +kernel) (by decide +kernel)
set_option maxRecDepth 20000 in
theorem gX8_alone_X8_isPupil : GoodIn wsX8_alone (wsV RX8 165 RX8 yX8_isPupil wsX8_isPupil) := goodIn_app (goodIn_of _ (by decide +kernel)) ggX8_alone_X8_isPupil
set_option maxRecDepth 20000 in
theorem ggX8_alone_X8_workBy : GoodIn wsX8_alone wsX8_workBy := goodIn_r _ [13, 6, 14, 15, 16, 4, 17, 18, 19, 20, 21, 22, 23, 24, 25, 26, 27, 28, 29, 30, 31, 32, 33, 34, 35, 36, 37, 38, 39, 40, 41, 42, 43, 44, 45, 46, 47, 48, 49, 50, 51, 52, 53, 54, 55, 56, 57, 58, 59, 60, 61, 62, 63, 64, 65, 66, 67, 68, 69, 70, 71, 72, 73, 74, 75, 76, 77, 78, 79, 80, 81, 82, 83, 84] (by decide +kernel) (by decide +kernel)
set_option maxRecDepth 20000 in
theorem gX8_alone_X8_workBy : GoodIn wsX8_alone (wsV RX8 213 RX8 yX8_workBy wsX8_workBy) := goodIn_app (goodIn_of _ (by decide +kernel)) ggX8_alone_X8_workBy
theorem dX8_alone_0 : decode cX8_alone 0 = .ok (.aload_n 0, 1) := by decide +kernel
theorem dX8_alone_1 : decode cX8_alone 1 = .ok (.iload_n 1, 1) := by decide +kernel
theorem dX8_alone_2 : decode cX8_alone 2 = .ok (.invokevirtual 165, 3) := by decide +kernel
theorem dX8_alone_5 : decode cX8_alone 5 = .ok (.ifCond .eq 15, 3) := by decide +kernel
theorem dX8_alone_8 : decode cX8_alone 8 = .ok (.aload_n 0, 1) := by decide +kernel
theorem dX8_alone_9 : decode cX8_alone 9 = .ok (.iconst 1, 1) := by decide +kernel
theorem dX8_alone_10 : decode cX8_alone 10 = .ok (.iload_n 1, 1) := by decide +kernel
theorem dX8_alone_11 : decode cX8_alone 11 = .ok (.ishl, 1) := by decide +kernel
theorem dX8_alone_12 : decode cX8_alone 12 = .ok (.bipush 20, 2) := by decide +kernel
theorem dX8_alone_14 : decode cX8_alone 14 = .ok (.invokevirtual 213, 3) := by decide +kernel
theorem dX8_alone_17 : decode cX8_alone 17 = .ok (.goto 4, 3) := by decide +kernel
theorem dX8_alone_20 : decode cX8_alone 20 = .ok (.iconst (-1), 1) := by decide +kernel
theorem dX8_alone_21 : decode cX8_alone 21 = .ok (.ireturn, 1) := by decide +kernel
theorem dX8_countOf_0 : decode cX8_countOf 0 = .ok (.iconst 0, 1) := by decide +kernel
theorem dX8_countOf_1 : decode cX8_countOf 1 = .ok (.istore_n 1, 1) := by decide +kernel
theorem dX8_countOf_2 : decode cX8_countOf 2 = .ok (.iconst 0, 1) := by decide +kernel
theorem dX8_countOf_3 : decode cX8_countOf 3 = .ok (.istore_n 2, 1) := by decide +kernel
theorem dX8_countOf_4 : decode cX8_countOf 4 = .ok (.iload_n 2, 1) := by decide +kernel
theorem dX8_countOf_5 : decode cX8_countOf 5 = .ok (.bipush 6, 2) := by decide +kernel
theorem dX8_countOf_7 : decode cX8_countOf 7 = .ok (.if_icmp .ge 17, 3) := by decide +kernel
theorem dX8_countOf_10 : decode cX8_countOf 10 = .ok (.iload_n 1, 1) := by decide +kernel
theorem dX8_countOf_11 : decode cX8_countOf 11 = .ok (.iload_n 0, 1) := by decide +kernel
theorem dX8_countOf_12 : decode cX8_countOf 12 = .ok (.iload_n 2, 1) := by decide +kernel
theorem dX8_countOf_13 : decode cX8_countOf 13 = .ok (.ishr, 1) := by decide +kernel
theorem dX8_countOf_14 : decode cX8_countOf 14 = .ok (.iconst 1, 1) := by decide +kernel
theorem dX8_countOf_15 : decode cX8_countOf 15 = .ok (.iand, 1) := by decide +kernel
theorem dX8_countOf_16 : decode cX8_countOf 16 = .ok (.iadd, 1) := by decide +kernel
theorem dX8_countOf_17 : decode cX8_countOf 17 = .ok (.istore_n 1, 1) := by decide +kernel
theorem dX8_countOf_18 : decode cX8_countOf 18 = .ok (.iinc 2 1, 3) := by decide +kernel
theorem dX8_countOf_21 : decode cX8_countOf 21 = .ok (.goto (-17), 3) := by decide +kernel
theorem dX8_countOf_24 : decode cX8_countOf 24 = .ok (.iload_n 1, 1) := by decide +kernel
theorem dX8_countOf_25 : decode cX8_countOf 25 = .ok (.ireturn, 1) := by decide +kernel
theorem dX8_everybody_0 : decode cX8_everybody 0 = .ok (.iconst 1, 1) := by decide +kernel
theorem dX8_everybody_1 : decode cX8_everybody 1 = .ok (.aload_n 0, 1) := by decide +kernel
theorem dX8_everybody_2 : decode cX8_everybody 2 = .ok (.getfield 9, 3) := by decide +kernel
theorem dX8_everybody_5 : decode cX8_everybody 5 = .ok (.bipush 20, 2) := by decide +kernel
theorem dX8_everybody_7 : decode cX8_everybody 7 = .ok (.iaload, 1) := by decide +kernel
theorem dX8_everybody_8 : decode cX8_everybody 8 = .ok (.ishl, 1) := by decide +kernel
theorem dX8_everybody_9 : decode cX8_everybody 9 = .ok (.iconst 1, 1) := by decide +kernel
theorem dX8_everybody_10 : decode cX8_everybody 10 = .ok (.isub, 1) := by decide +kernel
theorem dX8_everybody_11 : decode cX8_everybody 11 = .ok (.ireturn, 1) := by decide +kernel
set_option maxRecDepth 20000 in
theorem ggX8_team_X8_in : GoodIn wsX8_team wsX8_in := goodIn_r _ [4] (by decide +kernel) (by decide +kernel)
set_option maxRecDepth 20000 in
theorem gX8_team_X8_in : GoodIn wsX8_team (va_wsS RX8 38 yX8_in wsX8_in) := goodIn_app (goodIn_of _ (by decide +kernel)) ggX8_team_X8_in
set_option maxRecDepth 20000 in
theorem ggX8_team_X8_everybody : GoodIn wsX8_team wsX8_everybody := goodIn_r _ [8, 9, 68, 69, 70, 71, 72, 73, 74, 75, 76, 77, 78, 79, 80, 81, 82, 83, 84, 85, 86, 87] (by decide +kernel) (by decide +kernel)
set_option maxRecDepth 20000 in
theorem gX8_team_X8_everybody : GoodIn wsX8_team (wsV RX8 216 RX8 yX8_everybody wsX8_everybody) := goodIn_app (goodIn_of _ (by decide +kernel)) ggX8_team_X8_everybody
set_option maxRecDepth 20000 in
theorem ggX8_team_X8_countOf : GoodIn wsX8_team wsX8_countOf := goodIn_r _ [12] (by decide +kernel) (by decide +kernel)
set_option maxRecDepth 20000 in
theorem gX8_team_X8_countOf : GoodIn wsX8_team (va_wsS RX8 219 yX8_countOf wsX8_countOf) := goodIn_app (goodIn_of _ (by decide +kernel)) ggX8_team_X8_countOf
set_option maxRecDepth 20000 in
theorem ggX8_team_X8_workBy : GoodIn wsX8_team wsX8_workBy := goodIn_r _ [16, 9, 17, 18, 19, 3, 20, 21, 22, 23, 24, 25, 26, 27, 28, 29, 30, 31, 32, 33, 34, 35, 36, 37, 38, 39, 40, 41, 42, 43, 44, 45, 46, 47, 48, 49, 50, 51, 52, 53, 54, 55, 56, 57, 58, 59, 60, 61, 62, 63, 64, 65, 66, 67, 68, 69, 70, 71, 72, 73, 74, 75, 76, 77, 78, 79, 80, 81, 82, 83, 84, 85, 86, 87] (by decide +kernel) (by decide +kernel)
set_option maxRecDepth 20000 in
theorem gX8_team_X8_workBy : GoodIn wsX8_team (wsV RX8 213 RX8 yX8_workBy wsX8_workBy) := goodIn_app (goodIn_of _ (by decide +kernel)) ggX8_team_X8_workBy
theorem dX8_team_0 : decode cX8_team 0 = .ok (.iload_n 2, 1) := by decide +kernel
theorem dX8_team_1 : decode cX8_team 1 = .ok (.iconst 0, 1) := by decide +kernel
theorem dX8_team_2 : decode cX8_team 2 = .ok (.iconst 1, 1) := by decide +kernel
theorem dX8_team_3 : decode cX8_team 3 = .ok (.invokestatic 38, 3) := by decide +kernel
theorem dX8_team_6 : decode cX8_team 6 = .ok (.ifCond .ne 5, 3) := by decide +kernel
theorem dX8_team_9 : decode cX8_team 9 = .ok (.iconst (-1), 1) := by decide +kernel
theorem dX8_team_10 : decode cX8_team 10 = .ok (.ireturn, 1) := by decide +kernel
theorem dX8_team_11 : decode cX8_team 11 = .ok (.iload_n 1, 1) := by decide +kernel
theorem dX8_team_12 : decode cX8_team 12 = .ok (.iconst 1, 1) := by decide +kernel
theorem dX8_team_13 : decode cX8_team 13 = .ok (.bipush 6, 2) := by decide +kernel
theorem dX8_team_15 : decode cX8_team 15 = .ok (.invokestatic 38, 3) := by decide +kernel
theorem dX8_team_18 : decode cX8_team 18 = .ok (.ifCond .ne 6, 3) := by decide +kernel
theorem dX8_team_21 : decode cX8_team 21 = .ok (.bipush (-2), 2) := by decide +kernel
theorem dX8_team_23 : decode cX8_team 23 = .ok (.ireturn, 1) := by decide +kernel
theorem dX8_team_24 : decode cX8_team 24 = .ok (.bipush (-5), 2) := by decide +kernel
theorem dX8_team_26 : decode cX8_team 26 = .ok (.istore_n 3, 1) := by decide +kernel
theorem dX8_team_27 : decode cX8_team 27 = .ok (.bipush (-5), 2) := by decide +kernel
theorem dX8_team_29 : decode cX8_team 29 = .ok (.istore 4, 2) := by decide +kernel
theorem dX8_team_31 : decode cX8_team 31 = .ok (.iconst 1, 1) := by decide +kernel
theorem dX8_team_32 : decode cX8_team 32 = .ok (.istore 5, 2) := by decide +kernel
theorem dX8_team_34 : decode cX8_team 34 = .ok (.iload 5, 2) := by decide +kernel
theorem dX8_team_36 : decode cX8_team 36 = .ok (.aload_n 0, 1) := by decide +kernel
theorem dX8_team_37 : decode cX8_team 37 = .ok (.invokevirtual 216, 3) := by decide +kernel
theorem dX8_team_40 : decode cX8_team 40 = .ok (.if_icmp .gt 63, 3) := by decide +kernel
theorem dX8_team_43 : decode cX8_team 43 = .ok (.iload 5, 2) := by decide +kernel
theorem dX8_team_45 : decode cX8_team 45 = .ok (.invokestatic 219, 3) := by decide +kernel
theorem dX8_team_48 : decode cX8_team 48 = .ok (.iload_n 1, 1) := by decide +kernel
theorem dX8_team_49 : decode cX8_team 49 = .ok (.if_icmp .ne 14, 3) := by decide +kernel
theorem dX8_team_52 : decode cX8_team 52 = .ok (.aload_n 0, 1) := by decide +kernel
theorem dX8_team_53 : decode cX8_team 53 = .ok (.iload 5, 2) := by decide +kernel
theorem dX8_team_55 : decode cX8_team 55 = .ok (.bipush 10, 2) := by decide +kernel
theorem dX8_team_57 : decode cX8_team 57 = .ok (.invokevirtual 213, 3) := by decide +kernel
theorem dX8_team_60 : decode cX8_team 60 = .ok (.goto 5, 3) := by decide +kernel
theorem dX8_team_63 : decode cX8_team 63 = .ok (.bipush (-5), 2) := by decide +kernel
theorem dX8_team_65 : decode cX8_team 65 = .ok (.istore 6, 2) := by decide +kernel
theorem dX8_team_67 : decode cX8_team 67 = .ok (.iload 6, 2) := by decide +kernel
theorem dX8_team_69 : decode cX8_team 69 = .ok (.iload 4, 2) := by decide +kernel
theorem dX8_team_71 : decode cX8_team 71 = .ok (.if_icmp .le 8, 3) := by decide +kernel
theorem dX8_team_74 : decode cX8_team 74 = .ok (.iload 5, 2) := by decide +kernel
theorem dX8_team_76 : decode cX8_team 76 = .ok (.goto 4, 3) := by decide +kernel
theorem dX8_team_79 : decode cX8_team 79 = .ok (.iload_n 3, 1) := by decide +kernel
theorem dX8_team_80 : decode cX8_team 80 = .ok (.istore_n 3, 1) := by decide +kernel
theorem dX8_team_81 : decode cX8_team 81 = .ok (.iload 6, 2) := by decide +kernel
theorem dX8_team_83 : decode cX8_team 83 = .ok (.iload 4, 2) := by decide +kernel
theorem dX8_team_85 : decode cX8_team 85 = .ok (.if_icmp .le 8, 3) := by decide +kernel
theorem dX8_team_88 : decode cX8_team 88 = .ok (.iload 6, 2) := by decide +kernel
theorem dX8_team_90 : decode cX8_team 90 = .ok (.goto 5, 3) := by decide +kernel
theorem dX8_team_93 : decode cX8_team 93 = .ok (.iload 4, 2) := by decide +kernel
theorem dX8_team_95 : decode cX8_team 95 = .ok (.istore 4, 2) := by decide +kernel
theorem dX8_team_97 : decode cX8_team 97 = .ok (.iinc 5 1, 3) := by decide +kernel
theorem dX8_team_100 : decode cX8_team 100 = .ok (.goto (-66), 3) := by decide +kernel
theorem dX8_team_103 : decode cX8_team 103 = .ok (.iload_n 2, 1) := by decide +kernel
theorem dX8_team_104 : decode cX8_team 104 = .ok (.ifCond .ne 7, 3) := by decide +kernel
theorem dX8_team_107 : decode cX8_team 107 = .ok (.iload_n 3, 1) := by decide +kernel
theorem dX8_team_108 : decode cX8_team 108 = .ok (.goto 5, 3) := by decide +kernel
theorem dX8_team_111 : decode cX8_team 111 = .ok (.iload 4, 2) := by decide +kernel
theorem dX8_team_113 : decode cX8_team 113 = .ok (.ireturn, 1) := by decide +kernel
set_option maxRecDepth 20000 in
theorem ggX8_split_X8_in : GoodIn wsX8_split wsX8_in := goodIn_r _ [5] (by decide +kernel) (by decide +kernel)
set_option maxRecDepth 20000 in
theorem gX8_split_X8_in : GoodIn wsX8_split (va_wsS RX8 38 yX8_in wsX8_in) := goodIn_app (goodIn_of _ (by decide +kernel)) ggX8_split_X8_in
set_option maxRecDepth 20000 in
theorem ggX8_split_X8_everybody : GoodIn wsX8_split wsX8_everybody := goodIn_r _ [9, 10, 69, 70, 71, 72, 73, 74, 75, 76, 77, 78, 79, 80, 81, 82, 83, 84, 85, 86, 87, 88] (by decide +kernel) (by decide +kernel)
set_option maxRecDepth 20000 in
theorem gX8_split_X8_everybody : GoodIn wsX8_split (wsV RX8 216 RX8 yX8_everybody wsX8_everybody) := goodIn_app (goodIn_of _ (by decide +kernel)) ggX8_split_X8_everybody
set_option maxRecDepth 20000 in
theorem ggX8_split_X8_workBy : GoodIn wsX8_split wsX8_workBy := goodIn_r _ [14, 10, 15, 16, 17, 4, 18, 19, 20, 21, 22, 23, 24, 25, 26, 27, 28, 29, 30, 31, 32, 33, 34, 35, 36, 37, 38, 39, 40, 41, 42, 43, 44, 45, 46, 47, 48, 49, 50, 51, 52, 53, 54, 55, 56, 57, 58, 59, 60, 61, 62, 63, 64, 65, 69, 70, 71, 72, 73, 74, 75, 76, 77, 78, 79, 80, 81, 82, 83, 84, 85, 86, 87, 88] (by decide +kernel) (by decide +kernel)
set_option maxRecDepth 20000 in
theorem gX8_split_X8_workBy : GoodIn wsX8_split (wsV RX8 213 RX8 yX8_workBy wsX8_workBy) := goodIn_app (goodIn_of _ (by decide +kernel)) ggX8_split_X8_workBy
set_option maxRecDepth 20000 in
theorem ggX8_split_X8_size : GoodIn wsX8_split wsX8_size := goodIn_r _ [68] (by decide +kernel) (by decide +kernel)
set_option maxRecDepth 20000 in
theorem gX8_split_X8_size : GoodIn wsX8_split (va_wsS RX8 204 yX8_size wsX8_size) := goodIn_app (goodIn_of _ (by decide +kernel)) ggX8_split_X8_size
theorem dX8_split_0 : decode cX8_split 0 = .ok (.iload_n 1, 1) := by decide +kernel
theorem dX8_split_1 : decode cX8_split 1 = .ok (.iconst 0, 1) := by decide +kernel
theorem dX8_split_2 : decode cX8_split 2 = .ok (.iconst 1, 1) := by decide +kernel
theorem dX8_split_3 : decode cX8_split 3 = .ok (.invokestatic 38, 3) := by decide +kernel
theorem dX8_split_6 : decode cX8_split 6 = .ok (.ifCond .ne 5, 3) := by decide +kernel
theorem dX8_split_9 : decode cX8_split 9 = .ok (.iconst (-1), 1) := by decide +kernel
theorem dX8_split_10 : decode cX8_split 10 = .ok (.ireturn, 1) := by decide +kernel
theorem dX8_split_11 : decode cX8_split 11 = .ok (.bipush (-5), 2) := by decide +kernel
theorem dX8_split_13 : decode cX8_split 13 = .ok (.istore_n 2, 1) := by decide +kernel
theorem dX8_split_14 : decode cX8_split 14 = .ok (.ldc 203, 2) := by decide +kernel
theorem dX8_split_16 : decode cX8_split 16 = .ok (.istore_n 3, 1) := by decide +kernel
theorem dX8_split_17 : decode cX8_split 17 = .ok (.iconst 1, 1) := by decide +kernel
theorem dX8_split_18 : decode cX8_split 18 = .ok (.istore 4, 2) := by decide +kernel
theorem dX8_split_20 : decode cX8_split 20 = .ok (.iload 4, 2) := by decide +kernel
theorem dX8_split_22 : decode cX8_split 22 = .ok (.aload_n 0, 1) := by decide +kernel
theorem dX8_split_23 : decode cX8_split 23 = .ok (.invokevirtual 216, 3) := by decide +kernel
theorem dX8_split_26 : decode cX8_split 26 = .ok (.if_icmp .ge 64, 3) := by decide +kernel
theorem dX8_split_29 : decode cX8_split 29 = .ok (.aload_n 0, 1) := by decide +kernel
theorem dX8_split_30 : decode cX8_split 30 = .ok (.iload 4, 2) := by decide +kernel
theorem dX8_split_32 : decode cX8_split 32 = .ok (.bipush 10, 2) := by decide +kernel
theorem dX8_split_34 : decode cX8_split 34 = .ok (.invokevirtual 213, 3) := by decide +kernel
theorem dX8_split_37 : decode cX8_split 37 = .ok (.aload_n 0, 1) := by decide +kernel
theorem dX8_split_38 : decode cX8_split 38 = .ok (.aload_n 0, 1) := by decide +kernel
theorem dX8_split_39 : decode cX8_split 39 = .ok (.invokevirtual 216, 3) := by decide +kernel
theorem dX8_split_42 : decode cX8_split 42 = .ok (.iload 4, 2) := by decide +kernel
theorem dX8_split_44 : decode cX8_split 44 = .ok (.iconst (-1), 1) := by decide +kernel
theorem dX8_split_45 : decode cX8_split 45 = .ok (.ixor, 1) := by decide +kernel
theorem dX8_split_46 : decode cX8_split 46 = .ok (.iand, 1) := by decide +kernel
theorem dX8_split_47 : decode cX8_split 47 = .ok (.bipush 10, 2) := by decide +kernel
theorem dX8_split_49 : decode cX8_split 49 = .ok (.invokevirtual 213, 3) := by decide +kernel
theorem dX8_split_52 : decode cX8_split 52 = .ok (.isub, 1) := by decide +kernel
theorem dX8_split_53 : decode cX8_split 53 = .ok (.invokestatic 204, 3) := by decide +kernel
theorem dX8_split_56 : decode cX8_split 56 = .ok (.istore 5, 2) := by decide +kernel
theorem dX8_split_58 : decode cX8_split 58 = .ok (.iload 5, 2) := by decide +kernel
theorem dX8_split_60 : decode cX8_split 60 = .ok (.iload_n 3, 1) := by decide +kernel
theorem dX8_split_61 : decode cX8_split 61 = .ok (.if_icmp .ge 8, 3) := by decide +kernel
theorem dX8_split_64 : decode cX8_split 64 = .ok (.iload 4, 2) := by decide +kernel
theorem dX8_split_66 : decode cX8_split 66 = .ok (.goto 4, 3) := by decide +kernel
theorem dX8_split_69 : decode cX8_split 69 = .ok (.iload_n 2, 1) := by decide +kernel
theorem dX8_split_70 : decode cX8_split 70 = .ok (.istore_n 2, 1) := by decide +kernel
theorem dX8_split_71 : decode cX8_split 71 = .ok (.iload 5, 2) := by decide +kernel
theorem dX8_split_73 : decode cX8_split 73 = .ok (.iload_n 3, 1) := by decide +kernel
theorem dX8_split_74 : decode cX8_split 74 = .ok (.if_icmp .ge 8, 3) := by decide +kernel
theorem dX8_split_77 : decode cX8_split 77 = .ok (.iload 5, 2) := by decide +kernel
theorem dX8_split_79 : decode cX8_split 79 = .ok (.goto 4, 3) := by decide +kernel
theorem dX8_split_82 : decode cX8_split 82 = .ok (.iload_n 3, 1) := by decide +kernel
theorem dX8_split_83 : decode cX8_split 83 = .ok (.istore_n 3, 1) := by decide +kernel
theorem dX8_split_84 : decode cX8_split 84 = .ok (.iinc 4 2, 3) := by decide +kernel
theorem dX8_split_87 : decode cX8_split 87 = .ok (.goto (-67), 3) := by decide +kernel
theorem dX8_split_90 : decode cX8_split 90 = .ok (.iload_n 1, 1) := by decide +kernel
theorem dX8_split_91 : decode cX8_split 91 = .ok (.ifCond .eq 9, 3) := by decide +kernel
theorem dX8_split_94 : decode cX8_split 94 = .ok (.iload_n 2, 1) := by decide +kernel
theorem dX8_split_95 : decode cX8_split 95 = .ok (.bipush (-5), 2) := by decide +kernel
theorem dX8_split_97 : decode cX8_split 97 = .ok (.if_icmp .ne 7, 3) := by decide +kernel
theorem dX8_split_100 : decode cX8_split 100 = .ok (.iload_n 2, 1) := by decide +kernel
theorem dX8_split_101 : decode cX8_split 101 = .ok (.goto 4, 3) := by decide +kernel
theorem dX8_split_104 : decode cX8_split 104 = .ok (.iload_n 3, 1) := by decide +kernel
theorem dX8_split_105 : decode cX8_split 105 = .ok (.ireturn, 1) := by decide +kernel
theorem dX8_factorial_0 : decode cX8_factorial 0 = .ok (.lconst 1, 1) := by decide +kernel
theorem dX8_factorial_1 : decode cX8_factorial 1 = .ok (.lstore_n 1, 1) := by decide +kernel
theorem dX8_factorial_2 : decode cX8_factorial 2 = .ok (.iconst 2, 1) := by decide +kernel
theorem dX8_factorial_3 : decode cX8_factorial 3 = .ok (.istore_n 3, 1) := by decide +kernel
theorem dX8_factorial_4 : decode cX8_factorial 4 = .ok (.iload_n 3, 1) := by decide +kernel
theorem dX8_factorial_5 : decode cX8_factorial 5 = .ok (.iload_n 0, 1) := by decide +kernel
theorem dX8_factorial_6 : decode cX8_factorial 6 = .ok (.if_icmp .gt 14, 3) := by decide +kernel
theorem dX8_factorial_9 : decode cX8_factorial 9 = .ok (.lload_n 1, 1) := by decide +kernel
theorem dX8_factorial_10 : decode cX8_factorial 10 = .ok (.iload_n 3, 1) := by decide +kernel
theorem dX8_factorial_11 : decode cX8_factorial 11 = .ok (.i2l, 1) := by decide +kernel
theorem dX8_factorial_12 : decode cX8_factorial 12 = .ok (.lmul, 1) := by decide +kernel
theorem dX8_factorial_13 : decode cX8_factorial 13 = .ok (.lstore_n 1, 1) := by decide +kernel
theorem dX8_factorial_14 : decode cX8_factorial 14 = .ok (.iinc 3 1, 3) := by decide +kernel
theorem dX8_factorial_17 : decode cX8_factorial 17 = .ok (.goto (-13), 3) := by decide +kernel
theorem dX8_factorial_20 : decode cX8_factorial 20 = .ok (.lload_n 1, 1) := by decide +kernel
theorem dX8_factorial_21 : decode cX8_factorial 21 = .ok (.lreturn, 1) := by decide +kernel
set_option maxRecDepth 20000 in
theorem ggX8_part_X8_isPupil : GoodIn wsX8_part wsX8_isPupil := goodIn_r _ [7, 2, 8, 9, 6, 10, 79, 80, 81, 82, 83, 84, 85, 86, 87, 88, 89, 90, 91, 92, 93, 94, 95, 96, 97, 98] (by decide +kernel) (by decide +kernel)
set_option maxRecDepth 20000 in
theorem gX8_part_X8_isPupil : GoodIn wsX8_part (wsV RX8 165 RX8 yX8_isPupil wsX8_isPupil) := goodIn_app (goodIn_of _ (by decide +kernel)) ggX8_part_X8_isPupil
set_option maxRecDepth 20000 in
theorem ggX8_part_X8_in : GoodIn wsX8_part wsX8_in := goodIn_r _ [10] (by decide +kernel) (by decide +kernel)
set_option maxRecDepth 20000 in
theorem gX8_part_X8_in : GoodIn wsX8_part (va_wsS RX8 38 yX8_in wsX8_in) := goodIn_app (goodIn_of _ (by decide +kernel)) ggX8_part_X8_in
set_option maxRecDepth 20000 in
theorem ggX8_part_X8_everybody : GoodIn wsX8_part wsX8_everybody := goodIn_r _ [14, 2, 79, 80, 81, 82, 83, 84, 85, 86, 87, 88, 89, 90, 91, 92, 93, 94, 95, 96, 97, 98] (by decide +kernel) (by decide +kernel)
set_option maxRecDepth 20000 in
theorem gX8_part_X8_everybody : GoodIn wsX8_part (wsV RX8 216 RX8 yX8_everybody wsX8_everybody) := goodIn_app (goodIn_of _ (by decide +kernel)) ggX8_part_X8_everybody
set_option maxRecDepth 20000 in
theorem ggX8_part_X8_workBy : GoodIn wsX8_part wsX8_workBy := goodIn_r _ [18, 2, 19, 20, 21, 6, 22, 23, 24, 25, 26, 27, 28, 29, 30, 31, 32, 33, 34, 35, 36, 37, 38, 39, 40, 41, 42, 43, 44, 45, 46, 47, 48, 49, 50, 51, 52, 53, 54, 55, 56, 57, 58, 59, 60, 61, 62, 63, 64, 65, 66, 67, 68, 69, 79, 80, 81, 82, 83, 84, 85, 86, 87, 88, 89, 90, 91, 92, 93, 94, 95, 96, 97, 98] (by decide +kernel) (by decide +kernel)
set_option maxRecDepth 20000 in
theorem gX8_part_X8_workBy : GoodIn wsX8_part (wsV RX8 213 RX8 yX8_workBy wsX8_workBy) := goodIn_app (goodIn_of _ (by decide +kernel)) ggX8_part_X8_workBy
set_option maxRecDepth 20000 in
theorem ggX8_part_X8_countOf : GoodIn wsX8_part wsX8_countOf := goodIn_r _ [72] (by decide +kernel) (by decide +kernel)
set_option maxRecDepth 20000 in
theorem gX8_part_X8_countOf : GoodIn wsX8_part (va_wsS RX8 219 yX8_countOf wsX8_countOf) := goodIn_app (goodIn_of _ (by decide +kernel)) ggX8_part_X8_countOf
set_option maxRecDepth 20000 in
theorem ggX8_part_X8_factorial : GoodIn wsX8_part wsX8_factorial := goodIn_r _ [75] (by decide +kernel) (by decide +kernel)
set_option maxRecDepth 20000 in
theorem gX8_part_X8_factorial : GoodIn wsX8_part (va_wsS RX8 224 yX8_factorial wsX8_factorial) := goodIn_app (goodIn_of _ (by decide +kernel)) ggX8_part_X8_factorial
set_option maxRecDepth 20000 in
theorem ggX8_part_X8_lowest : GoodIn wsX8_part wsX8_lowest := goodIn_r _ [78] (by decide +kernel) (by decide +kernel)
set_option maxRecDepth 20000 in
theorem gX8_part_X8_lowest : GoodIn wsX8_part (va_wsS RX8 228 yX8_lowest wsX8_lowest) := goodIn_app (goodIn_of _ (by decide +kernel)) ggX8_part_X8_lowest
theorem dX8_part_0 : decode cX8_part 0 = .ok (.aload_n 0, 1) := by decide +kernel
theorem dX8_part_1 : decode cX8_part 1 = .ok (.iload_n 1, 1) := by decide +kernel
theorem dX8_part_2 : decode cX8_part 2 = .ok (.invokevirtual 165, 3) := by decide +kernel
theorem dX8_part_5 : decode cX8_part 5 = .ok (.ifCond .eq 12, 3) := by decide +kernel
theorem dX8_part_8 : decode cX8_part 8 = .ok (.iload_n 2, 1) := by decide +kernel
theorem dX8_part_9 : decode cX8_part 9 = .ok (.iconst 0, 1) := by decide +kernel
theorem dX8_part_10 : decode cX8_part 10 = .ok (.iconst 1, 1) := by decide +kernel
theorem dX8_part_11 : decode cX8_part 11 = .ok (.invokestatic 38, 3) := by decide +kernel
theorem dX8_part_14 : decode cX8_part 14 = .ok (.ifCond .ne 7, 3) := by decide +kernel
theorem dX8_part_17 : decode cX8_part 17 = .ok (.ldc2_w 222, 3) := by decide +kernel
theorem dX8_part_20 : decode cX8_part 20 = .ok (.lreturn, 1) := by decide +kernel
theorem dX8_part_21 : decode cX8_part 21 = .ok (.aload_n 0, 1) := by decide +kernel
theorem dX8_part_22 : decode cX8_part 22 = .ok (.getfield 9, 3) := by decide +kernel
theorem dX8_part_25 : decode cX8_part 25 = .ok (.bipush 20, 2) := by decide +kernel
theorem dX8_part_27 : decode cX8_part 27 = .ok (.iaload, 1) := by decide +kernel
theorem dX8_part_28 : decode cX8_part 28 = .ok (.istore_n 3, 1) := by decide +kernel
theorem dX8_part_29 : decode cX8_part 29 = .ok (.lconst 0, 1) := by decide +kernel
theorem dX8_part_30 : decode cX8_part 30 = .ok (.lstore 4, 2) := by decide +kernel
theorem dX8_part_32 : decode cX8_part 32 = .ok (.iconst 0, 1) := by decide +kernel
theorem dX8_part_33 : decode cX8_part 33 = .ok (.istore 6, 2) := by decide +kernel
theorem dX8_part_35 : decode cX8_part 35 = .ok (.iload 6, 2) := by decide +kernel
theorem dX8_part_37 : decode cX8_part 37 = .ok (.aload_n 0, 1) := by decide +kernel
theorem dX8_part_38 : decode cX8_part 38 = .ok (.invokevirtual 216, 3) := by decide +kernel
theorem dX8_part_41 : decode cX8_part 41 = .ok (.if_icmp .gt 82, 3) := by decide +kernel
theorem dX8_part_44 : decode cX8_part 44 = .ok (.iload 6, 2) := by decide +kernel
theorem dX8_part_46 : decode cX8_part 46 = .ok (.iload_n 1, 1) := by decide +kernel
theorem dX8_part_47 : decode cX8_part 47 = .ok (.ishr, 1) := by decide +kernel
theorem dX8_part_48 : decode cX8_part 48 = .ok (.iconst 1, 1) := by decide +kernel
theorem dX8_part_49 : decode cX8_part 49 = .ok (.iand, 1) := by decide +kernel
theorem dX8_part_50 : decode cX8_part 50 = .ok (.ifCond .ne 67, 3) := by decide +kernel
theorem dX8_part_53 : decode cX8_part 53 = .ok (.aload_n 0, 1) := by decide +kernel
theorem dX8_part_54 : decode cX8_part 54 = .ok (.iload 6, 2) := by decide +kernel
theorem dX8_part_56 : decode cX8_part 56 = .ok (.iconst 1, 1) := by decide +kernel
theorem dX8_part_57 : decode cX8_part 57 = .ok (.iload_n 1, 1) := by decide +kernel
theorem dX8_part_58 : decode cX8_part 58 = .ok (.ishl, 1) := by decide +kernel
theorem dX8_part_59 : decode cX8_part 59 = .ok (.ior, 1) := by decide +kernel
theorem dX8_part_60 : decode cX8_part 60 = .ok (.iconst 5, 1) := by decide +kernel
theorem dX8_part_61 : decode cX8_part 61 = .ok (.invokevirtual 213, 3) := by decide +kernel
theorem dX8_part_64 : decode cX8_part 64 = .ok (.istore 7, 2) := by decide +kernel
theorem dX8_part_66 : decode cX8_part 66 = .ok (.iload 6, 2) := by decide +kernel
theorem dX8_part_68 : decode cX8_part 68 = .ok (.ifCond .ne 7, 3) := by decide +kernel
theorem dX8_part_71 : decode cX8_part 71 = .ok (.iconst 0, 1) := by decide +kernel
theorem dX8_part_72 : decode cX8_part 72 = .ok (.goto 10, 3) := by decide +kernel
theorem dX8_part_75 : decode cX8_part 75 = .ok (.aload_n 0, 1) := by decide +kernel
theorem dX8_part_76 : decode cX8_part 76 = .ok (.iload 6, 2) := by decide +kernel
theorem dX8_part_78 : decode cX8_part 78 = .ok (.iconst 5, 1) := by decide +kernel
theorem dX8_part_79 : decode cX8_part 79 = .ok (.invokevirtual 213, 3) := by decide +kernel
theorem dX8_part_82 : decode cX8_part 82 = .ok (.istore 8, 2) := by decide +kernel
theorem dX8_part_84 : decode cX8_part 84 = .ok (.lload 4, 2) := by decide +kernel
theorem dX8_part_86 : decode cX8_part 86 = .ok (.iload 6, 2) := by decide +kernel
theorem dX8_part_88 : decode cX8_part 88 = .ok (.invokestatic 219, 3) := by decide +kernel
theorem dX8_part_91 : decode cX8_part 91 = .ok (.invokestatic 224, 3) := by decide +kernel
theorem dX8_part_94 : decode cX8_part 94 = .ok (.iload_n 3, 1) := by decide +kernel
theorem dX8_part_95 : decode cX8_part 95 = .ok (.iconst 1, 1) := by decide +kernel
theorem dX8_part_96 : decode cX8_part 96 = .ok (.isub, 1) := by decide +kernel
theorem dX8_part_97 : decode cX8_part 97 = .ok (.iload 6, 2) := by decide +kernel
theorem dX8_part_99 : decode cX8_part 99 = .ok (.invokestatic 219, 3) := by decide +kernel
theorem dX8_part_102 : decode cX8_part 102 = .ok (.isub, 1) := by decide +kernel
theorem dX8_part_103 : decode cX8_part 103 = .ok (.invokestatic 224, 3) := by decide +kernel
theorem dX8_part_106 : decode cX8_part 106 = .ok (.lmul, 1) := by decide +kernel
theorem dX8_part_107 : decode cX8_part 107 = .ok (.iload 7, 2) := by decide +kernel
theorem dX8_part_109 : decode cX8_part 109 = .ok (.iload 8, 2) := by decide +kernel
theorem dX8_part_111 : decode cX8_part 111 = .ok (.isub, 1) := by decide +kernel
theorem dX8_part_112 : decode cX8_part 112 = .ok (.i2l, 1) := by decide +kernel
theorem dX8_part_113 : decode cX8_part 113 = .ok (.lmul, 1) := by decide +kernel
theorem dX8_part_114 : decode cX8_part 114 = .ok (.ladd, 1) := by decide +kernel
theorem dX8_part_115 : decode cX8_part 115 = .ok (.lstore 4, 2) := by decide +kernel
theorem dX8_part_117 : decode cX8_part 117 = .ok (.iinc 6 1, 3) := by decide +kernel
theorem dX8_part_120 : decode cX8_part 120 = .ok (.goto (-85), 3) := by decide +kernel
theorem dX8_part_123 : decode cX8_part 123 = .ok (.lload 4, 2) := by decide +kernel
theorem dX8_part_125 : decode cX8_part 125 = .ok (.iload_n 3, 1) := by decide +kernel
theorem dX8_part_126 : decode cX8_part 126 = .ok (.invokestatic 224, 3) := by decide +kernel
theorem dX8_part_129 : decode cX8_part 129 = .ok (.iload_n 2, 1) := by decide +kernel
theorem dX8_part_130 : decode cX8_part 130 = .ok (.invokestatic 228, 3) := by decide +kernel
theorem dX8_part_133 : decode cX8_part 133 = .ok (.lreturn, 1) := by decide +kernel
theorem dX8_lowest_0 : decode cX8_lowest 0 = .ok (.lload_n 0, 1) := by decide +kernel
theorem dX8_lowest_1 : decode cX8_lowest 1 = .ok (.lconst 0, 1) := by decide +kernel
theorem dX8_lowest_2 : decode cX8_lowest 2 = .ok (.lcmp, 1) := by decide +kernel
theorem dX8_lowest_3 : decode cX8_lowest 3 = .ok (.ifCond .ge 8, 3) := by decide +kernel
theorem dX8_lowest_6 : decode cX8_lowest 6 = .ok (.lload_n 0, 1) := by decide +kernel
theorem dX8_lowest_7 : decode cX8_lowest 7 = .ok (.lneg, 1) := by decide +kernel
theorem dX8_lowest_8 : decode cX8_lowest 8 = .ok (.goto 4, 3) := by decide +kernel
theorem dX8_lowest_11 : decode cX8_lowest 11 = .ok (.lload_n 0, 1) := by decide +kernel
theorem dX8_lowest_12 : decode cX8_lowest 12 = .ok (.lstore 5, 2) := by decide +kernel
theorem dX8_lowest_14 : decode cX8_lowest 14 = .ok (.lload_n 2, 1) := by decide +kernel
theorem dX8_lowest_15 : decode cX8_lowest 15 = .ok (.lstore 7, 2) := by decide +kernel
theorem dX8_lowest_17 : decode cX8_lowest 17 = .ok (.lload 7, 2) := by decide +kernel
theorem dX8_lowest_19 : decode cX8_lowest 19 = .ok (.lconst 0, 1) := by decide +kernel
theorem dX8_lowest_20 : decode cX8_lowest 20 = .ok (.lcmp, 1) := by decide +kernel
theorem dX8_lowest_21 : decode cX8_lowest 21 = .ok (.ifCond .eq 21, 3) := by decide +kernel
theorem dX8_lowest_24 : decode cX8_lowest 24 = .ok (.lload 5, 2) := by decide +kernel
theorem dX8_lowest_26 : decode cX8_lowest 26 = .ok (.lload 7, 2) := by decide +kernel
theorem dX8_lowest_28 : decode cX8_lowest 28 = .ok (.lrem, 1) := by decide +kernel
theorem dX8_lowest_29 : decode cX8_lowest 29 = .ok (.lstore 9, 2) := by decide +kernel
theorem dX8_lowest_31 : decode cX8_lowest 31 = .ok (.lload 7, 2) := by decide +kernel
theorem dX8_lowest_33 : decode cX8_lowest 33 = .ok (.lstore 5, 2) := by decide +kernel
theorem dX8_lowest_35 : decode cX8_lowest 35 = .ok (.lload 9, 2) := by decide +kernel
theorem dX8_lowest_37 : decode cX8_lowest 37 = .ok (.lstore 7, 2) := by decide +kernel
theorem dX8_lowest_39 : decode cX8_lowest 39 = .ok (.goto (-22), 3) := by decide +kernel
theorem dX8_lowest_42 : decode cX8_lowest 42 = .ok (.iload 4, 2) := by decide +kernel
theorem dX8_lowest_44 : decode cX8_lowest 44 = .ok (.ifCond .ne 7, 3) := by decide +kernel
theorem dX8_lowest_47 : decode cX8_lowest 47 = .ok (.lload_n 0, 1) := by decide +kernel
theorem dX8_lowest_48 : decode cX8_lowest 48 = .ok (.goto 4, 3) := by decide +kernel
theorem dX8_lowest_51 : decode cX8_lowest 51 = .ok (.lload_n 2, 1) := by decide +kernel
theorem dX8_lowest_52 : decode cX8_lowest 52 = .ok (.lload 5, 2) := by decide +kernel
theorem dX8_lowest_54 : decode cX8_lowest 54 = .ok (.ldiv, 1) := by decide +kernel
theorem dX8_lowest_55 : decode cX8_lowest 55 = .ok (.lreturn, 1) := by decide +kernel
set_option maxRecDepth 20000 in
theorem ggX8_see_X8_in : GoodIn wsX8_see wsX8_in := goodIn_r _ [6] (by decide +kernel) (by decide +kernel)
set_option maxRecDepth 20000 in
theorem gX8_see_X8_in : GoodIn wsX8_see (va_wsS RX8 38 yX8_in wsX8_in) := goodIn_app (goodIn_of _ (by decide +kernel)) ggX8_see_X8_in
theorem dX8_see_0 : decode cX8_see 0 = .ok (.iload_n 1, 1) := by decide +kernel
theorem dX8_see_1 : decode cX8_see 1 = .ok (.iconst (-1), 1) := by decide +kernel
theorem dX8_see_2 : decode cX8_see 2 = .ok (.if_icmp .ne 13, 3) := by decide +kernel
theorem dX8_see_5 : decode cX8_see 5 = .ok (.aload_n 0, 1) := by decide +kernel
theorem dX8_see_6 : decode cX8_see 6 = .ok (.getfield 9, 3) := by decide +kernel
theorem dX8_see_9 : decode cX8_see 9 = .ok (.bipush 22, 2) := by decide +kernel
theorem dX8_see_11 : decode cX8_see 11 = .ok (.iconst 0, 1) := by decide +kernel
theorem dX8_see_12 : decode cX8_see 12 = .ok (.iastore, 1) := by decide +kernel
theorem dX8_see_13 : decode cX8_see 13 = .ok (.iconst 0, 1) := by decide +kernel
theorem dX8_see_14 : decode cX8_see 14 = .ok (.ireturn, 1) := by decide +kernel
theorem dX8_see_15 : decode cX8_see 15 = .ok (.iload_n 1, 1) := by decide +kernel
theorem dX8_see_16 : decode cX8_see 16 = .ok (.iconst 0, 1) := by decide +kernel
theorem dX8_see_17 : decode cX8_see 17 = .ok (.ldc 184, 2) := by decide +kernel
theorem dX8_see_19 : decode cX8_see 19 = .ok (.invokestatic 38, 3) := by decide +kernel
theorem dX8_see_22 : decode cX8_see 22 = .ok (.ifCond .eq 13, 3) := by decide +kernel
theorem dX8_see_25 : decode cX8_see 25 = .ok (.iload_n 2, 1) := by decide +kernel
theorem dX8_see_26 : decode cX8_see 26 = .ok (.iconst 0, 1) := by decide +kernel
theorem dX8_see_27 : decode cX8_see 27 = .ok (.bipush 20, 2) := by decide +kernel
theorem dX8_see_29 : decode cX8_see 29 = .ok (.invokestatic 38, 3) := by decide +kernel
theorem dX8_see_32 : decode cX8_see 32 = .ok (.ifCond .ne 6, 3) := by decide +kernel
theorem dX8_see_35 : decode cX8_see 35 = .ok (.bipush (-2), 2) := by decide +kernel
theorem dX8_see_37 : decode cX8_see 37 = .ok (.ireturn, 1) := by decide +kernel
theorem dX8_see_38 : decode cX8_see 38 = .ok (.aload_n 0, 1) := by decide +kernel
theorem dX8_see_39 : decode cX8_see 39 = .ok (.getfield 9, 3) := by decide +kernel
theorem dX8_see_42 : decode cX8_see 42 = .ok (.bipush 22, 2) := by decide +kernel
theorem dX8_see_44 : decode cX8_see 44 = .ok (.iaload, 1) := by decide +kernel
theorem dX8_see_45 : decode cX8_see 45 = .ok (.iconst 5, 1) := by decide +kernel
theorem dX8_see_46 : decode cX8_see 46 = .ok (.if_icmp .ne 6, 3) := by decide +kernel
theorem dX8_see_49 : decode cX8_see 49 = .ok (.bipush (-4), 2) := by decide +kernel
theorem dX8_see_51 : decode cX8_see 51 = .ok (.ireturn, 1) := by decide +kernel
theorem dX8_see_52 : decode cX8_see 52 = .ok (.aload_n 0, 1) := by decide +kernel
theorem dX8_see_53 : decode cX8_see 53 = .ok (.getfield 9, 3) := by decide +kernel
theorem dX8_see_56 : decode cX8_see 56 = .ok (.bipush 69, 2) := by decide +kernel
theorem dX8_see_58 : decode cX8_see 58 = .ok (.aload_n 0, 1) := by decide +kernel
theorem dX8_see_59 : decode cX8_see 59 = .ok (.getfield 9, 3) := by decide +kernel
theorem dX8_see_62 : decode cX8_see 62 = .ok (.bipush 22, 2) := by decide +kernel
theorem dX8_see_64 : decode cX8_see 64 = .ok (.iaload, 1) := by decide +kernel
theorem dX8_see_65 : decode cX8_see 65 = .ok (.iadd, 1) := by decide +kernel
theorem dX8_see_66 : decode cX8_see 66 = .ok (.iload_n 1, 1) := by decide +kernel
theorem dX8_see_67 : decode cX8_see 67 = .ok (.iastore, 1) := by decide +kernel
theorem dX8_see_68 : decode cX8_see 68 = .ok (.aload_n 0, 1) := by decide +kernel
theorem dX8_see_69 : decode cX8_see 69 = .ok (.getfield 9, 3) := by decide +kernel
theorem dX8_see_72 : decode cX8_see 72 = .ok (.bipush 74, 2) := by decide +kernel
theorem dX8_see_74 : decode cX8_see 74 = .ok (.aload_n 0, 1) := by decide +kernel
theorem dX8_see_75 : decode cX8_see 75 = .ok (.getfield 9, 3) := by decide +kernel
theorem dX8_see_78 : decode cX8_see 78 = .ok (.bipush 22, 2) := by decide +kernel
theorem dX8_see_80 : decode cX8_see 80 = .ok (.iaload, 1) := by decide +kernel
theorem dX8_see_81 : decode cX8_see 81 = .ok (.iadd, 1) := by decide +kernel
theorem dX8_see_82 : decode cX8_see 82 = .ok (.iload_n 2, 1) := by decide +kernel
theorem dX8_see_83 : decode cX8_see 83 = .ok (.iastore, 1) := by decide +kernel
theorem dX8_see_84 : decode cX8_see 84 = .ok (.aload_n 0, 1) := by decide +kernel
theorem dX8_see_85 : decode cX8_see 85 = .ok (.getfield 9, 3) := by decide +kernel
theorem dX8_see_88 : decode cX8_see 88 = .ok (.bipush 22, 2) := by decide +kernel
theorem dX8_see_90 : decode cX8_see 90 = .ok (.dup2, 1) := by decide +kernel
theorem dX8_see_91 : decode cX8_see 91 = .ok (.iaload, 1) := by decide +kernel
theorem dX8_see_92 : decode cX8_see 92 = .ok (.iconst 1, 1) := by decide +kernel
theorem dX8_see_93 : decode cX8_see 93 = .ok (.iadd, 1) := by decide +kernel
theorem dX8_see_94 : decode cX8_see 94 = .ok (.iastore, 1) := by decide +kernel
theorem dX8_see_95 : decode cX8_see 95 = .ok (.aload_n 0, 1) := by decide +kernel
theorem dX8_see_96 : decode cX8_see 96 = .ok (.getfield 9, 3) := by decide +kernel
theorem dX8_see_99 : decode cX8_see 99 = .ok (.bipush 22, 2) := by decide +kernel
theorem dX8_see_101 : decode cX8_see 101 = .ok (.iaload, 1) := by decide +kernel
theorem dX8_see_102 : decode cX8_see 102 = .ok (.ireturn, 1) := by decide +kernel
set_option maxRecDepth 20000 in
theorem ggX8_isAsSeen_X8_workMore : GoodIn wsX8_isAsSeen wsX8_workMore := goodIn_r _ [6, 1, 7, 8, 9, 10, 11, 12, 13, 14, 15, 16, 17, 18, 19, 20, 21, 22, 23, 24, 25, 26, 27] (by decide +kernel) (by decide +kernel)
set_option maxRecDepth 20000 in
theorem gX8_isAsSeen_X8_workMore : GoodIn wsX8_isAsSeen (wsV RX8 194 RX8 yX8_workMore wsX8_workMore) := goodIn_app (goodIn_of _ (by decide +kernel)) ggX8_isAsSeen_X8_workMore
theorem dX8_isAsSeen_0 : decode cX8_isAsSeen 0 = .ok (.iconst 1, 1) := by decide +kernel
theorem dX8_isAsSeen_1 : decode cX8_isAsSeen 1 = .ok (.istore_n 2, 1) := by decide +kernel
theorem dX8_isAsSeen_2 : decode cX8_isAsSeen 2 = .ok (.iconst 0, 1) := by decide +kernel
theorem dX8_isAsSeen_3 : decode cX8_isAsSeen 3 = .ok (.istore_n 3, 1) := by decide +kernel
theorem dX8_isAsSeen_4 : decode cX8_isAsSeen 4 = .ok (.iload_n 3, 1) := by decide +kernel
theorem dX8_isAsSeen_5 : decode cX8_isAsSeen 5 = .ok (.aload_n 0, 1) := by decide +kernel
theorem dX8_isAsSeen_6 : decode cX8_isAsSeen 6 = .ok (.getfield 9, 3) := by decide +kernel
theorem dX8_isAsSeen_9 : decode cX8_isAsSeen 9 = .ok (.bipush 22, 2) := by decide +kernel
theorem dX8_isAsSeen_11 : decode cX8_isAsSeen 11 = .ok (.iaload, 1) := by decide +kernel
theorem dX8_isAsSeen_12 : decode cX8_isAsSeen 12 = .ok (.if_icmp .ge 48, 3) := by decide +kernel
theorem dX8_isAsSeen_15 : decode cX8_isAsSeen 15 = .ok (.iload_n 2, 1) := by decide +kernel
theorem dX8_isAsSeen_16 : decode cX8_isAsSeen 16 = .ok (.ifCond .eq 36, 3) := by decide +kernel
theorem dX8_isAsSeen_19 : decode cX8_isAsSeen 19 = .ok (.aload_n 0, 1) := by decide +kernel
theorem dX8_isAsSeen_20 : decode cX8_isAsSeen 20 = .ok (.getfield 9, 3) := by decide +kernel
theorem dX8_isAsSeen_23 : decode cX8_isAsSeen 23 = .ok (.bipush 74, 2) := by decide +kernel
theorem dX8_isAsSeen_25 : decode cX8_isAsSeen 25 = .ok (.iload_n 3, 1) := by decide +kernel
theorem dX8_isAsSeen_26 : decode cX8_isAsSeen 26 = .ok (.iadd, 1) := by decide +kernel
theorem dX8_isAsSeen_27 : decode cX8_isAsSeen 27 = .ok (.iaload, 1) := by decide +kernel
theorem dX8_isAsSeen_28 : decode cX8_isAsSeen 28 = .ok (.iload_n 1, 1) := by decide +kernel
theorem dX8_isAsSeen_29 : decode cX8_isAsSeen 29 = .ok (.if_icmp .ne 19, 3) := by decide +kernel
theorem dX8_isAsSeen_32 : decode cX8_isAsSeen 32 = .ok (.aload_n 0, 1) := by decide +kernel
theorem dX8_isAsSeen_33 : decode cX8_isAsSeen 33 = .ok (.invokevirtual 194, 3) := by decide +kernel
theorem dX8_isAsSeen_36 : decode cX8_isAsSeen 36 = .ok (.aload_n 0, 1) := by decide +kernel
theorem dX8_isAsSeen_37 : decode cX8_isAsSeen 37 = .ok (.getfield 9, 3) := by decide +kernel
theorem dX8_isAsSeen_40 : decode cX8_isAsSeen 40 = .ok (.bipush 69, 2) := by decide +kernel
theorem dX8_isAsSeen_42 : decode cX8_isAsSeen 42 = .ok (.iload_n 3, 1) := by decide +kernel
theorem dX8_isAsSeen_43 : decode cX8_isAsSeen 43 = .ok (.iadd, 1) := by decide +kernel
theorem dX8_isAsSeen_44 : decode cX8_isAsSeen 44 = .ok (.iaload, 1) := by decide +kernel
theorem dX8_isAsSeen_45 : decode cX8_isAsSeen 45 = .ok (.if_icmp .ne 7, 3) := by decide +kernel
theorem dX8_isAsSeen_48 : decode cX8_isAsSeen 48 = .ok (.iconst 1, 1) := by decide +kernel
theorem dX8_isAsSeen_49 : decode cX8_isAsSeen 49 = .ok (.goto 4, 3) := by decide +kernel
theorem dX8_isAsSeen_52 : decode cX8_isAsSeen 52 = .ok (.iconst 0, 1) := by decide +kernel
theorem dX8_isAsSeen_53 : decode cX8_isAsSeen 53 = .ok (.istore_n 2, 1) := by decide +kernel
theorem dX8_isAsSeen_54 : decode cX8_isAsSeen 54 = .ok (.iinc 3 1, 3) := by decide +kernel
theorem dX8_isAsSeen_57 : decode cX8_isAsSeen 57 = .ok (.goto (-53), 3) := by decide +kernel
theorem dX8_isAsSeen_60 : decode cX8_isAsSeen 60 = .ok (.iload_n 2, 1) := by decide +kernel
theorem dX8_isAsSeen_61 : decode cX8_isAsSeen 61 = .ok (.ireturn, 1) := by decide +kernel
set_option maxRecDepth 20000 in
theorem ggX8_areAsSeen_X8_keeps : GoodIn wsX8_areAsSeen wsX8_keeps := goodIn_r _ [5, 6, 7, 54, 55, 56, 57, 58, 59, 60, 61, 62, 63, 64, 65, 66, 67, 68, 69, 70, 71, 72, 73] (by decide +kernel) (by decide +kernel)
set_option maxRecDepth 20000 in
theorem gX8_areAsSeen_X8_keeps : GoodIn wsX8_areAsSeen (wsV RX8 188 RX8 yX8_keeps wsX8_keeps) := goodIn_app (goodIn_of _ (by decide +kernel)) ggX8_areAsSeen_X8_keeps
set_option maxRecDepth 20000 in
theorem ggX8_areAsSeen_X8_isAsSeen : GoodIn wsX8_areAsSeen wsX8_isAsSeen := goodIn_r _ [11, 7, 12, 13, 14, 4, 15, 6, 54, 55, 56, 57, 58, 59, 60, 61, 62, 63, 64, 65, 66, 67, 68, 69, 70, 71, 72, 73] (by decide +kernel) (by decide +kernel)
set_option maxRecDepth 20000 in
theorem gX8_areAsSeen_X8_isAsSeen : GoodIn wsX8_areAsSeen (wsV RX8 232 RX8 yX8_isAsSeen wsX8_isAsSeen) := goodIn_app (goodIn_of _ (by decide +kernel)) ggX8_areAsSeen_X8_isAsSeen
set_option maxRecDepth 20000 in
theorem ggX8_areAsSeen_X8_goes : GoodIn wsX8_areAsSeen wsX8_goes := goodIn_r _ [19, 7, 20, 21, 22, 23, 4, 24, 25, 26, 27, 28, 29, 30, 31, 32, 33, 34, 35, 36, 37, 38, 39, 40, 41, 42, 43, 44, 45, 46, 47, 48, 49, 54, 55, 56, 57, 58, 59, 60, 61, 62, 63, 64, 65, 66, 67, 68, 69, 70, 71, 72, 73] (by decide +kernel) (by decide +kernel)
set_option maxRecDepth 20000 in
theorem gX8_areAsSeen_X8_goes : GoodIn wsX8_areAsSeen (wsV RX8 181 RX8 yX8_goes wsX8_goes) := goodIn_app (goodIn_of _ (by decide +kernel)) ggX8_areAsSeen_X8_goes
set_option maxRecDepth 20000 in
theorem ggX8_areAsSeen_X8_goesBack : GoodIn wsX8_areAsSeen wsX8_goesBack := goodIn_r _ [53, 7, 6, 54, 55, 56, 57, 58, 59, 60, 61, 62, 63, 64, 65, 66, 67, 68, 69, 70, 71, 72, 73] (by decide +kernel) (by decide +kernel)
set_option maxRecDepth 20000 in
theorem gX8_areAsSeen_X8_goesBack : GoodIn wsX8_areAsSeen (wsV RX8 200 RX8 yX8_goesBack wsX8_goesBack) := goodIn_app (goodIn_of _ (by decide +kernel)) ggX8_areAsSeen_X8_goesBack
theorem dX8_areAsSeen_0 : decode cX8_areAsSeen 0 = .ok (.aload_n 0, 1) := by decide +kernel
theorem dX8_areAsSeen_1 : decode cX8_areAsSeen 1 = .ok (.invokevirtual 188, 3) := by decide +kernel
theorem dX8_areAsSeen_4 : decode cX8_areAsSeen 4 = .ok (.iconst 1, 1) := by decide +kernel
theorem dX8_areAsSeen_5 : decode cX8_areAsSeen 5 = .ok (.istore_n 1, 1) := by decide +kernel
theorem dX8_areAsSeen_6 : decode cX8_areAsSeen 6 = .ok (.iconst 0, 1) := by decide +kernel
theorem dX8_areAsSeen_7 : decode cX8_areAsSeen 7 = .ok (.istore_n 2, 1) := by decide +kernel
theorem dX8_areAsSeen_8 : decode cX8_areAsSeen 8 = .ok (.iload_n 2, 1) := by decide +kernel
theorem dX8_areAsSeen_9 : decode cX8_areAsSeen 9 = .ok (.bipush 20, 2) := by decide +kernel
theorem dX8_areAsSeen_11 : decode cX8_areAsSeen 11 = .ok (.if_icmp .gt 23, 3) := by decide +kernel
theorem dX8_areAsSeen_14 : decode cX8_areAsSeen 14 = .ok (.iload_n 1, 1) := by decide +kernel
theorem dX8_areAsSeen_15 : decode cX8_areAsSeen 15 = .ok (.ifCond .eq 19, 3) := by decide +kernel
theorem dX8_areAsSeen_18 : decode cX8_areAsSeen 18 = .ok (.aload_n 0, 1) := by decide +kernel
theorem dX8_areAsSeen_19 : decode cX8_areAsSeen 19 = .ok (.iload_n 2, 1) := by decide +kernel
theorem dX8_areAsSeen_20 : decode cX8_areAsSeen 20 = .ok (.invokevirtual 232, 3) := by decide +kernel
theorem dX8_areAsSeen_23 : decode cX8_areAsSeen 23 = .ok (.istore_n 1, 1) := by decide +kernel
theorem dX8_areAsSeen_24 : decode cX8_areAsSeen 24 = .ok (.aload_n 0, 1) := by decide +kernel
theorem dX8_areAsSeen_25 : decode cX8_areAsSeen 25 = .ok (.invokevirtual 181, 3) := by decide +kernel
theorem dX8_areAsSeen_28 : decode cX8_areAsSeen 28 = .ok (.iinc 2 1, 3) := by decide +kernel
theorem dX8_areAsSeen_31 : decode cX8_areAsSeen 31 = .ok (.goto (-23), 3) := by decide +kernel
theorem dX8_areAsSeen_34 : decode cX8_areAsSeen 34 = .ok (.aload_n 0, 1) := by decide +kernel
