theorem dX8_areAsSeen_35 : decode cX8_areAsSeen 35 = .ok (.invokevirtual 200, 3) := by decide +kernel
theorem dX8_areAsSeen_38 : decode cX8_areAsSeen 38 = .ok (.iload_n 1, 1) := by decide +kernel
theorem dX8_areAsSeen_39 : decode cX8_areAsSeen 39 = .ok (.ireturn, 1) := by decide +kernel
set_option maxRecDepth 20000 in
theorem ggX8_looksForFitting_X8_areAsSeen : GoodIn wsX8_looksForFitting wsX8_areAsSeen := goodIn_r _ [8, 9, 10, 11, 7, 12, 13, 1, 14, 15, 16, 17, 18, 19, 20, 21, 22, 23, 24, 25, 26, 27, 28, 29, 30, 31, 32, 33, 34, 35, 36, 37, 38, 39, 40, 41, 42, 43, 44, 45, 46, 47, 48, 49, 50, 51, 52, 53, 54, 55, 56, 57, 58, 59, 60, 61, 62, 63, 64, 65, 66, 67, 68, 69, 70, 71, 72, 73, 74, 75, 76, 77, 78, 79] (by decide +kernel) (by decide +kernel)
set_option maxRecDepth 20000 in
theorem gX8_looksForFitting_X8_areAsSeen : GoodIn wsX8_looksForFitting (wsV RX8 241 RX8 yX8_areAsSeen wsX8_areAsSeen) := goodIn_app (goodIn_of _ (by decide +kernel)) ggX8_looksForFitting_X8_areAsSeen
theorem dX8_looksForFitting_0 : decode cX8_looksForFitting 0 = .ok (.aload_n 0, 1) := by decide +kernel
theorem dX8_looksForFitting_1 : decode cX8_looksForFitting 1 = .ok (.getfield 9, 3) := by decide +kernel
theorem dX8_looksForFitting_4 : decode cX8_looksForFitting 4 = .ok (.iload_n 1, 1) := by decide +kernel
theorem dX8_looksForFitting_5 : decode cX8_looksForFitting 5 = .ok (.iaload, 1) := by decide +kernel
theorem dX8_looksForFitting_6 : decode cX8_looksForFitting 6 = .ok (.istore 4, 2) := by decide +kernel
theorem dX8_looksForFitting_8 : decode cX8_looksForFitting 8 = .ok (.aload_n 0, 1) := by decide +kernel
theorem dX8_looksForFitting_9 : decode cX8_looksForFitting 9 = .ok (.iconst 0, 1) := by decide +kernel
theorem dX8_looksForFitting_10 : decode cX8_looksForFitting 10 = .ok (.putfield 235, 3) := by decide +kernel
theorem dX8_looksForFitting_13 : decode cX8_looksForFitting 13 = .ok (.aload_n 0, 1) := by decide +kernel
theorem dX8_looksForFitting_14 : decode cX8_looksForFitting 14 = .ok (.bipush (-5), 2) := by decide +kernel
theorem dX8_looksForFitting_16 : decode cX8_looksForFitting 16 = .ok (.putfield 238, 3) := by decide +kernel
theorem dX8_looksForFitting_19 : decode cX8_looksForFitting 19 = .ok (.iload_n 3, 1) := by decide +kernel
theorem dX8_looksForFitting_20 : decode cX8_looksForFitting 20 = .ok (.istore 5, 2) := by decide +kernel
theorem dX8_looksForFitting_22 : decode cX8_looksForFitting 22 = .ok (.iload 5, 2) := by decide +kernel
theorem dX8_looksForFitting_24 : decode cX8_looksForFitting 24 = .ok (.iload_n 2, 1) := by decide +kernel
theorem dX8_looksForFitting_25 : decode cX8_looksForFitting 25 = .ok (.if_icmp .lt 60, 3) := by decide +kernel
theorem dX8_looksForFitting_28 : decode cX8_looksForFitting 28 = .ok (.aload_n 0, 1) := by decide +kernel
theorem dX8_looksForFitting_29 : decode cX8_looksForFitting 29 = .ok (.getfield 9, 3) := by decide +kernel
theorem dX8_looksForFitting_32 : decode cX8_looksForFitting 32 = .ok (.iload_n 1, 1) := by decide +kernel
theorem dX8_looksForFitting_33 : decode cX8_looksForFitting 33 = .ok (.iload 5, 2) := by decide +kernel
theorem dX8_looksForFitting_35 : decode cX8_looksForFitting 35 = .ok (.iastore, 1) := by decide +kernel
theorem dX8_looksForFitting_36 : decode cX8_looksForFitting 36 = .ok (.aload_n 0, 1) := by decide +kernel
theorem dX8_looksForFitting_37 : decode cX8_looksForFitting 37 = .ok (.invokevirtual 241, 3) := by decide +kernel
theorem dX8_looksForFitting_40 : decode cX8_looksForFitting 40 = .ok (.istore 6, 2) := by decide +kernel
theorem dX8_looksForFitting_42 : decode cX8_looksForFitting 42 = .ok (.aload_n 0, 1) := by decide +kernel
theorem dX8_looksForFitting_43 : decode cX8_looksForFitting 43 = .ok (.dup, 1) := by decide +kernel
theorem dX8_looksForFitting_44 : decode cX8_looksForFitting 44 = .ok (.getfield 235, 3) := by decide +kernel
theorem dX8_looksForFitting_47 : decode cX8_looksForFitting 47 = .ok (.iload 6, 2) := by decide +kernel
theorem dX8_looksForFitting_49 : decode cX8_looksForFitting 49 = .ok (.ifCond .eq 7, 3) := by decide +kernel
theorem dX8_looksForFitting_52 : decode cX8_looksForFitting 52 = .ok (.iconst 1, 1) := by decide +kernel
theorem dX8_looksForFitting_53 : decode cX8_looksForFitting 53 = .ok (.goto 4, 3) := by decide +kernel
theorem dX8_looksForFitting_56 : decode cX8_looksForFitting 56 = .ok (.iconst 0, 1) := by decide +kernel
theorem dX8_looksForFitting_57 : decode cX8_looksForFitting 57 = .ok (.iadd, 1) := by decide +kernel
theorem dX8_looksForFitting_58 : decode cX8_looksForFitting 58 = .ok (.putfield 235, 3) := by decide +kernel
theorem dX8_looksForFitting_61 : decode cX8_looksForFitting 61 = .ok (.aload_n 0, 1) := by decide +kernel
theorem dX8_looksForFitting_62 : decode cX8_looksForFitting 62 = .ok (.iload 6, 2) := by decide +kernel
theorem dX8_looksForFitting_64 : decode cX8_looksForFitting 64 = .ok (.ifCond .eq 8, 3) := by decide +kernel
theorem dX8_looksForFitting_67 : decode cX8_looksForFitting 67 = .ok (.iload 5, 2) := by decide +kernel
theorem dX8_looksForFitting_69 : decode cX8_looksForFitting 69 = .ok (.goto 7, 3) := by decide +kernel
theorem dX8_looksForFitting_72 : decode cX8_looksForFitting 72 = .ok (.aload_n 0, 1) := by decide +kernel
theorem dX8_looksForFitting_73 : decode cX8_looksForFitting 73 = .ok (.getfield 238, 3) := by decide +kernel
theorem dX8_looksForFitting_76 : decode cX8_looksForFitting 76 = .ok (.putfield 238, 3) := by decide +kernel
theorem dX8_looksForFitting_79 : decode cX8_looksForFitting 79 = .ok (.iinc 5 (-1), 3) := by decide +kernel
theorem dX8_looksForFitting_82 : decode cX8_looksForFitting 82 = .ok (.goto (-60), 3) := by decide +kernel
theorem dX8_looksForFitting_85 : decode cX8_looksForFitting 85 = .ok (.aload_n 0, 1) := by decide +kernel
theorem dX8_looksForFitting_86 : decode cX8_looksForFitting 86 = .ok (.getfield 9, 3) := by decide +kernel
theorem dX8_looksForFitting_89 : decode cX8_looksForFitting 89 = .ok (.iload_n 1, 1) := by decide +kernel
theorem dX8_looksForFitting_90 : decode cX8_looksForFitting 90 = .ok (.iload 4, 2) := by decide +kernel
theorem dX8_looksForFitting_92 : decode cX8_looksForFitting 92 = .ok (.iastore, 1) := by decide +kernel
theorem dX8_looksForFitting_93 : decode cX8_looksForFitting 93 = .ok (.return_, 1) := by decide +kernel
set_option maxRecDepth 20000 in
theorem ggX8_skilled_X8_isPupil : GoodIn wsX8_skilled wsX8_isPupil := goodIn_r _ [7, 8, 9, 10, 6, 11, 71, 72, 73, 74, 75, 76, 77, 78, 79, 80, 81, 82, 83, 84, 85, 86, 87, 88, 89, 90] (by decide +kernel) (by decide +kernel)
set_option maxRecDepth 20000 in
theorem gX8_skilled_X8_isPupil : GoodIn wsX8_skilled (wsV RX8 165 RX8 yX8_isPupil wsX8_isPupil) := goodIn_app (goodIn_of _ (by decide +kernel)) ggX8_skilled_X8_isPupil
set_option maxRecDepth 20000 in
theorem ggX8_skilled_X8_in : GoodIn wsX8_skilled wsX8_in := goodIn_r _ [11] (by decide +kernel) (by decide +kernel)
set_option maxRecDepth 20000 in
theorem gX8_skilled_X8_in : GoodIn wsX8_skilled (va_wsS RX8 38 yX8_in wsX8_in) := goodIn_app (goodIn_of _ (by decide +kernel)) ggX8_skilled_X8_in
set_option maxRecDepth 20000 in
theorem ggX8_skilled_X8_looksForFitting : GoodIn wsX8_skilled wsX8_looksForFitting := goodIn_r _ [15, 8, 1, 2, 16, 17, 18, 6, 19, 20, 21, 22, 23, 24, 25, 26, 27, 28, 29, 30, 31, 32, 33, 34, 35, 36, 37, 38, 39, 40, 41, 42, 43, 44, 45, 46, 47, 48, 49, 50, 51, 52, 53, 54, 55, 56, 57, 58, 59, 60, 61, 62, 63, 64, 65, 66, 67, 68, 69, 70, 71, 72, 73, 74, 75, 76, 77, 78, 79, 80, 81, 82, 83, 84, 85, 86, 87, 88, 89, 90] (by decide +kernel) (by decide +kernel)
set_option maxRecDepth 20000 in
theorem gX8_skilled_X8_looksForFitting : GoodIn wsX8_skilled (wsV RX8 245 RX8 yX8_looksForFitting wsX8_looksForFitting) := goodIn_app (goodIn_of _ (by decide +kernel)) ggX8_skilled_X8_looksForFitting
theorem dX8_skilled_0 : decode cX8_skilled 0 = .ok (.aload_n 0, 1) := by decide +kernel
theorem dX8_skilled_1 : decode cX8_skilled 1 = .ok (.iload_n 1, 1) := by decide +kernel
theorem dX8_skilled_2 : decode cX8_skilled 2 = .ok (.invokevirtual 165, 3) := by decide +kernel
theorem dX8_skilled_5 : decode cX8_skilled 5 = .ok (.ifCond .eq 12, 3) := by decide +kernel
theorem dX8_skilled_8 : decode cX8_skilled 8 = .ok (.iload_n 2, 1) := by decide +kernel
theorem dX8_skilled_9 : decode cX8_skilled 9 = .ok (.iconst 0, 1) := by decide +kernel
theorem dX8_skilled_10 : decode cX8_skilled 10 = .ok (.iconst 1, 1) := by decide +kernel
theorem dX8_skilled_11 : decode cX8_skilled 11 = .ok (.invokestatic 38, 3) := by decide +kernel
theorem dX8_skilled_14 : decode cX8_skilled 14 = .ok (.ifCond .ne 5, 3) := by decide +kernel
theorem dX8_skilled_17 : decode cX8_skilled 17 = .ok (.iconst (-1), 1) := by decide +kernel
theorem dX8_skilled_18 : decode cX8_skilled 18 = .ok (.ireturn, 1) := by decide +kernel
theorem dX8_skilled_19 : decode cX8_skilled 19 = .ok (.aload_n 0, 1) := by decide +kernel
theorem dX8_skilled_20 : decode cX8_skilled 20 = .ok (.bipush 39, 2) := by decide +kernel
theorem dX8_skilled_22 : decode cX8_skilled 22 = .ok (.iload_n 1, 1) := by decide +kernel
theorem dX8_skilled_23 : decode cX8_skilled 23 = .ok (.iadd, 1) := by decide +kernel
theorem dX8_skilled_24 : decode cX8_skilled 24 = .ok (.iconst 1, 1) := by decide +kernel
theorem dX8_skilled_25 : decode cX8_skilled 25 = .ok (.bipush 9, 2) := by decide +kernel
theorem dX8_skilled_27 : decode cX8_skilled 27 = .ok (.invokevirtual 245, 3) := by decide +kernel
theorem dX8_skilled_30 : decode cX8_skilled 30 = .ok (.iload_n 2, 1) := by decide +kernel
theorem dX8_skilled_31 : decode cX8_skilled 31 = .ok (.ifCond .ne 10, 3) := by decide +kernel
theorem dX8_skilled_34 : decode cX8_skilled 34 = .ok (.aload_n 0, 1) := by decide +kernel
theorem dX8_skilled_35 : decode cX8_skilled 35 = .ok (.getfield 235, 3) := by decide +kernel
theorem dX8_skilled_38 : decode cX8_skilled 38 = .ok (.goto 7, 3) := by decide +kernel
theorem dX8_skilled_41 : decode cX8_skilled 41 = .ok (.aload_n 0, 1) := by decide +kernel
theorem dX8_skilled_42 : decode cX8_skilled 42 = .ok (.getfield 238, 3) := by decide +kernel
theorem dX8_skilled_45 : decode cX8_skilled 45 = .ok (.ireturn, 1) := by decide +kernel
set_option maxRecDepth 20000 in
theorem ggX8_firm_X8_isPupil : GoodIn wsX8_firm wsX8_isPupil := goodIn_r _ [7, 8, 9, 10, 6, 11, 71, 72, 73, 74, 75, 76, 77, 78, 79, 80, 81, 82, 83, 84, 85, 86, 87, 88, 89, 90] (by decide +kernel) (by decide +kernel)
set_option maxRecDepth 20000 in
theorem gX8_firm_X8_isPupil : GoodIn wsX8_firm (wsV RX8 165 RX8 yX8_isPupil wsX8_isPupil) := goodIn_app (goodIn_of _ (by decide +kernel)) ggX8_firm_X8_isPupil
set_option maxRecDepth 20000 in
theorem ggX8_firm_X8_in : GoodIn wsX8_firm wsX8_in := goodIn_r _ [11] (by decide +kernel) (by decide +kernel)
set_option maxRecDepth 20000 in
theorem gX8_firm_X8_in : GoodIn wsX8_firm (va_wsS RX8 38 yX8_in wsX8_in) := goodIn_app (goodIn_of _ (by decide +kernel)) ggX8_firm_X8_in
set_option maxRecDepth 20000 in
theorem ggX8_firm_X8_looksForFitting : GoodIn wsX8_firm wsX8_looksForFitting := goodIn_r _ [15, 8, 1, 2, 16, 17, 18, 6, 19, 20, 21, 22, 23, 24, 25, 26, 27, 28, 29, 30, 31, 32, 33, 34, 35, 36, 37, 38, 39, 40, 41, 42, 43, 44, 45, 46, 47, 48, 49, 50, 51, 52, 53, 54, 55, 56, 57, 58, 59, 60, 61, 62, 63, 64, 65, 66, 67, 68, 69, 70, 71, 72, 73, 74, 75, 76, 77, 78, 79, 80, 81, 82, 83, 84, 85, 86, 87, 88, 89, 90] (by decide +kernel) (by decide +kernel)
set_option maxRecDepth 20000 in
theorem gX8_firm_X8_looksForFitting : GoodIn wsX8_firm (wsV RX8 245 RX8 yX8_looksForFitting wsX8_looksForFitting) := goodIn_app (goodIn_of _ (by decide +kernel)) ggX8_firm_X8_looksForFitting
theorem dX8_firm_0 : decode cX8_firm 0 = .ok (.aload_n 0, 1) := by decide +kernel
theorem dX8_firm_1 : decode cX8_firm 1 = .ok (.iload_n 1, 1) := by decide +kernel
theorem dX8_firm_2 : decode cX8_firm 2 = .ok (.invokevirtual 165, 3) := by decide +kernel
theorem dX8_firm_5 : decode cX8_firm 5 = .ok (.ifCond .eq 12, 3) := by decide +kernel
theorem dX8_firm_8 : decode cX8_firm 8 = .ok (.iload_n 2, 1) := by decide +kernel
theorem dX8_firm_9 : decode cX8_firm 9 = .ok (.iconst 0, 1) := by decide +kernel
theorem dX8_firm_10 : decode cX8_firm 10 = .ok (.iconst 1, 1) := by decide +kernel
theorem dX8_firm_11 : decode cX8_firm 11 = .ok (.invokestatic 38, 3) := by decide +kernel
theorem dX8_firm_14 : decode cX8_firm 14 = .ok (.ifCond .ne 5, 3) := by decide +kernel
theorem dX8_firm_17 : decode cX8_firm 17 = .ok (.iconst (-1), 1) := by decide +kernel
theorem dX8_firm_18 : decode cX8_firm 18 = .ok (.ireturn, 1) := by decide +kernel
theorem dX8_firm_19 : decode cX8_firm 19 = .ok (.aload_n 0, 1) := by decide +kernel
theorem dX8_firm_20 : decode cX8_firm 20 = .ok (.bipush 33, 2) := by decide +kernel
theorem dX8_firm_22 : decode cX8_firm 22 = .ok (.iload_n 1, 1) := by decide +kernel
theorem dX8_firm_23 : decode cX8_firm 23 = .ok (.iadd, 1) := by decide +kernel
theorem dX8_firm_24 : decode cX8_firm 24 = .ok (.iconst 0, 1) := by decide +kernel
theorem dX8_firm_25 : decode cX8_firm 25 = .ok (.bipush 9, 2) := by decide +kernel
theorem dX8_firm_27 : decode cX8_firm 27 = .ok (.invokevirtual 245, 3) := by decide +kernel
theorem dX8_firm_30 : decode cX8_firm 30 = .ok (.iload_n 2, 1) := by decide +kernel
theorem dX8_firm_31 : decode cX8_firm 31 = .ok (.ifCond .ne 10, 3) := by decide +kernel
theorem dX8_firm_34 : decode cX8_firm 34 = .ok (.aload_n 0, 1) := by decide +kernel
theorem dX8_firm_35 : decode cX8_firm 35 = .ok (.getfield 235, 3) := by decide +kernel
theorem dX8_firm_38 : decode cX8_firm 38 = .ok (.goto 7, 3) := by decide +kernel
theorem dX8_firm_41 : decode cX8_firm 41 = .ok (.aload_n 0, 1) := by decide +kernel
theorem dX8_firm_42 : decode cX8_firm 42 = .ok (.getfield 238, 3) := by decide +kernel
theorem dX8_firm_45 : decode cX8_firm 45 = .ok (.ireturn, 1) := by decide +kernel
set_option maxRecDepth 20000 in
theorem ggX8_odds_X8_in : GoodIn wsX8_odds wsX8_in := goodIn_r _ [7] (by decide +kernel) (by decide +kernel)
set_option maxRecDepth 20000 in
theorem gX8_odds_X8_in : GoodIn wsX8_odds (va_wsS RX8 38 yX8_in wsX8_in) := goodIn_app (goodIn_of _ (by decide +kernel)) ggX8_odds_X8_in
set_option maxRecDepth 20000 in
theorem ggX8_odds_X8_setIn : GoodIn wsX8_odds wsX8_setIn := goodIn_r _ [11, 2, 70, 71, 72, 73, 74, 75, 76, 77, 78, 79, 80, 81, 82, 83, 84, 85, 86, 87, 88, 89] (by decide +kernel) (by decide +kernel)
set_option maxRecDepth 20000 in
theorem gX8_odds_X8_setIn : GoodIn wsX8_odds (wsV RX8 210 RX8 yX8_setIn wsX8_setIn) := goodIn_app (goodIn_of _ (by decide +kernel)) ggX8_odds_X8_setIn
set_option maxRecDepth 20000 in
theorem ggX8_odds_X8_workBy : GoodIn wsX8_odds wsX8_workBy := goodIn_r _ [15, 2, 16, 17, 18, 6, 19, 20, 21, 22, 23, 24, 25, 26, 27, 28, 29, 30, 31, 32, 33, 34, 35, 36, 37, 38, 39, 40, 41, 42, 43, 44, 45, 46, 47, 48, 49, 50, 51, 52, 53, 54, 55, 56, 57, 58, 59, 60, 61, 62, 63, 64, 65, 66, 70, 71, 72, 73, 74, 75, 76, 77, 78, 79, 80, 81, 82, 83, 84, 85, 86, 87, 88, 89] (by decide +kernel) (by decide +kernel)
set_option maxRecDepth 20000 in
theorem gX8_odds_X8_workBy : GoodIn wsX8_odds (wsV RX8 213 RX8 yX8_workBy wsX8_workBy) := goodIn_app (goodIn_of _ (by decide +kernel)) ggX8_odds_X8_workBy
set_option maxRecDepth 20000 in
theorem ggX8_odds_X8_lowest : GoodIn wsX8_odds wsX8_lowest := goodIn_r _ [69] (by decide +kernel) (by decide +kernel)
set_option maxRecDepth 20000 in
theorem gX8_odds_X8_lowest : GoodIn wsX8_odds (va_wsS RX8 228 yX8_lowest wsX8_lowest) := goodIn_app (goodIn_of _ (by decide +kernel)) ggX8_odds_X8_lowest
theorem dX8_odds_0 : decode cX8_odds 0 = .ok (.iload_n 1, 1) := by decide +kernel
theorem dX8_odds_1 : decode cX8_odds 1 = .ok (.iconst 0, 1) := by decide +kernel
theorem dX8_odds_2 : decode cX8_odds 2 = .ok (.bipush 60, 2) := by decide +kernel
theorem dX8_odds_4 : decode cX8_odds 4 = .ok (.invokestatic 38, 3) := by decide +kernel
theorem dX8_odds_7 : decode cX8_odds 7 = .ok (.ifCond .eq 32, 3) := by decide +kernel
theorem dX8_odds_10 : decode cX8_odds 10 = .ok (.iload_n 2, 1) := by decide +kernel
theorem dX8_odds_11 : decode cX8_odds 11 = .ok (.iconst 0, 1) := by decide +kernel
theorem dX8_odds_12 : decode cX8_odds 12 = .ok (.ldc 184, 2) := by decide +kernel
theorem dX8_odds_14 : decode cX8_odds 14 = .ok (.invokestatic 38, 3) := by decide +kernel
theorem dX8_odds_17 : decode cX8_odds 17 = .ok (.ifCond .eq 22, 3) := by decide +kernel
theorem dX8_odds_20 : decode cX8_odds 20 = .ok (.iload_n 3, 1) := by decide +kernel
theorem dX8_odds_21 : decode cX8_odds 21 = .ok (.iconst 0, 1) := by decide +kernel
theorem dX8_odds_22 : decode cX8_odds 22 = .ok (.iconst 1, 1) := by decide +kernel
theorem dX8_odds_23 : decode cX8_odds 23 = .ok (.invokestatic 38, 3) := by decide +kernel
theorem dX8_odds_26 : decode cX8_odds 26 = .ok (.ifCond .eq 13, 3) := by decide +kernel
theorem dX8_odds_29 : decode cX8_odds 29 = .ok (.aload_n 0, 1) := by decide +kernel
theorem dX8_odds_30 : decode cX8_odds 30 = .ok (.getfield 9, 3) := by decide +kernel
theorem dX8_odds_33 : decode cX8_odds 33 = .ok (.bipush 20, 2) := by decide +kernel
theorem dX8_odds_35 : decode cX8_odds 35 = .ok (.iaload, 1) := by decide +kernel
theorem dX8_odds_36 : decode cX8_odds 36 = .ok (.ifCond .ne 7, 3) := by decide +kernel
theorem dX8_odds_39 : decode cX8_odds 39 = .ok (.ldc2_w 222, 3) := by decide +kernel
theorem dX8_odds_42 : decode cX8_odds 42 = .ok (.lreturn, 1) := by decide +kernel
theorem dX8_odds_43 : decode cX8_odds 43 = .ok (.lconst 0, 1) := by decide +kernel
theorem dX8_odds_44 : decode cX8_odds 44 = .ok (.lstore 4, 2) := by decide +kernel
theorem dX8_odds_46 : decode cX8_odds 46 = .ok (.iconst 0, 1) := by decide +kernel
theorem dX8_odds_47 : decode cX8_odds 47 = .ok (.istore 6, 2) := by decide +kernel
theorem dX8_odds_49 : decode cX8_odds 49 = .ok (.iload 6, 2) := by decide +kernel
theorem dX8_odds_51 : decode cX8_odds 51 = .ok (.aload_n 0, 1) := by decide +kernel
theorem dX8_odds_52 : decode cX8_odds 52 = .ok (.getfield 9, 3) := by decide +kernel
theorem dX8_odds_55 : decode cX8_odds 55 = .ok (.bipush 20, 2) := by decide +kernel
theorem dX8_odds_57 : decode cX8_odds 57 = .ok (.iaload, 1) := by decide +kernel
theorem dX8_odds_58 : decode cX8_odds 58 = .ok (.if_icmp .ge 39, 3) := by decide +kernel
theorem dX8_odds_61 : decode cX8_odds 61 = .ok (.lload 4, 2) := by decide +kernel
theorem dX8_odds_63 : decode cX8_odds 63 = .ok (.aload_n 0, 1) := by decide +kernel
theorem dX8_odds_64 : decode cX8_odds 64 = .ok (.aload_n 0, 1) := by decide +kernel
theorem dX8_odds_65 : decode cX8_odds 65 = .ok (.invokevirtual 210, 3) := by decide +kernel
theorem dX8_odds_68 : decode cX8_odds 68 = .ok (.iconst 1, 1) := by decide +kernel
theorem dX8_odds_69 : decode cX8_odds 69 = .ok (.iload 6, 2) := by decide +kernel
theorem dX8_odds_71 : decode cX8_odds 71 = .ok (.ishl, 1) := by decide +kernel
theorem dX8_odds_72 : decode cX8_odds 72 = .ok (.iconst (-1), 1) := by decide +kernel
theorem dX8_odds_73 : decode cX8_odds 73 = .ok (.ixor, 1) := by decide +kernel
theorem dX8_odds_74 : decode cX8_odds 74 = .ok (.iand, 1) := by decide +kernel
theorem dX8_odds_75 : decode cX8_odds 75 = .ok (.iload_n 1, 1) := by decide +kernel
theorem dX8_odds_76 : decode cX8_odds 76 = .ok (.invokevirtual 213, 3) := by decide +kernel
theorem dX8_odds_79 : decode cX8_odds 79 = .ok (.iload_n 2, 1) := by decide +kernel
theorem dX8_odds_80 : decode cX8_odds 80 = .ok (.if_icmp .lt 7, 3) := by decide +kernel
theorem dX8_odds_83 : decode cX8_odds 83 = .ok (.lconst 1, 1) := by decide +kernel
theorem dX8_odds_84 : decode cX8_odds 84 = .ok (.goto 4, 3) := by decide +kernel
theorem dX8_odds_87 : decode cX8_odds 87 = .ok (.lconst 0, 1) := by decide +kernel
theorem dX8_odds_88 : decode cX8_odds 88 = .ok (.ladd, 1) := by decide +kernel
theorem dX8_odds_89 : decode cX8_odds 89 = .ok (.lstore 4, 2) := by decide +kernel
theorem dX8_odds_91 : decode cX8_odds 91 = .ok (.iinc 6 1, 3) := by decide +kernel
theorem dX8_odds_94 : decode cX8_odds 94 = .ok (.goto (-45), 3) := by decide +kernel
theorem dX8_odds_97 : decode cX8_odds 97 = .ok (.lload 4, 2) := by decide +kernel
theorem dX8_odds_99 : decode cX8_odds 99 = .ok (.aload_n 0, 1) := by decide +kernel
theorem dX8_odds_100 : decode cX8_odds 100 = .ok (.getfield 9, 3) := by decide +kernel
theorem dX8_odds_103 : decode cX8_odds 103 = .ok (.bipush 20, 2) := by decide +kernel
theorem dX8_odds_105 : decode cX8_odds 105 = .ok (.iaload, 1) := by decide +kernel
theorem dX8_odds_106 : decode cX8_odds 106 = .ok (.i2l, 1) := by decide +kernel
theorem dX8_odds_107 : decode cX8_odds 107 = .ok (.iload_n 3, 1) := by decide +kernel
theorem dX8_odds_108 : decode cX8_odds 108 = .ok (.invokestatic 228, 3) := by decide +kernel
theorem dX8_odds_111 : decode cX8_odds 111 = .ok (.lreturn, 1) := by decide +kernel
set_option maxRecDepth 20000 in
theorem ggX8_mean_X8_in : GoodIn wsX8_mean wsX8_in := goodIn_r _ [6] (by decide +kernel) (by decide +kernel)
set_option maxRecDepth 20000 in
theorem gX8_mean_X8_in : GoodIn wsX8_mean (va_wsS RX8 38 yX8_in wsX8_in) := goodIn_app (goodIn_of _ (by decide +kernel)) ggX8_mean_X8_in
set_option maxRecDepth 20000 in
theorem ggX8_mean_X8_keeps : GoodIn wsX8_mean wsX8_keeps := goodIn_r _ [10, 11, 1, 65, 66, 67, 68, 69, 70, 71, 72, 73, 74, 75, 76, 77, 78, 79, 80, 81, 82, 83, 84] (by decide +kernel) (by decide +kernel)
set_option maxRecDepth 20000 in
theorem gX8_mean_X8_keeps : GoodIn wsX8_mean (wsV RX8 188 RX8 yX8_keeps wsX8_keeps) := goodIn_app (goodIn_of _ (by decide +kernel)) ggX8_mean_X8_keeps
set_option maxRecDepth 20000 in
theorem ggX8_mean_X8_goesOn : GoodIn wsX8_mean wsX8_goesOn := goodIn_r _ [15, 16, 17, 18, 5, 19, 1, 20, 21, 22, 23, 24, 25, 26, 27, 28, 29, 30, 31, 32, 33, 34, 35, 36, 37, 38, 39, 40, 41, 42, 43, 44, 45, 46, 47, 48, 49, 65, 66, 67, 68, 69, 70, 71, 72, 73, 74, 75, 76, 77, 78, 79, 80, 81, 82, 83, 84] (by decide +kernel) (by decide +kernel)
set_option maxRecDepth 20000 in
theorem gX8_mean_X8_goesOn : GoodIn wsX8_mean (wsV RX8 191 RX8 yX8_goesOn wsX8_goesOn) := goodIn_app (goodIn_of _ (by decide +kernel)) ggX8_mean_X8_goesOn
set_option maxRecDepth 20000 in
theorem ggX8_mean_X8_allMore : GoodIn wsX8_mean wsX8_allMore := goodIn_r _ [53, 1, 54, 55, 56, 5, 57, 11, 65, 66, 67, 68, 69, 70, 71, 72, 73, 74, 75, 76, 77, 78, 79, 80, 81, 82, 83, 84] (by decide +kernel) (by decide +kernel)
set_option maxRecDepth 20000 in
theorem gX8_mean_X8_allMore : GoodIn wsX8_mean (wsV RX8 197 RX8 yX8_allMore wsX8_allMore) := goodIn_app (goodIn_of _ (by decide +kernel)) ggX8_mean_X8_allMore
set_option maxRecDepth 20000 in
theorem ggX8_mean_X8_goesBack : GoodIn wsX8_mean wsX8_goesBack := goodIn_r _ [61, 1, 11, 65, 66, 67, 68, 69, 70, 71, 72, 73, 74, 75, 76, 77, 78, 79, 80, 81, 82, 83, 84] (by decide +kernel) (by decide +kernel)
set_option maxRecDepth 20000 in
theorem gX8_mean_X8_goesBack : GoodIn wsX8_mean (wsV RX8 200 RX8 yX8_goesBack wsX8_goesBack) := goodIn_app (goodIn_of _ (by decide +kernel)) ggX8_mean_X8_goesBack
set_option maxRecDepth 20000 in
theorem ggX8_mean_X8_lowest : GoodIn wsX8_mean wsX8_lowest := goodIn_r _ [64] (by decide +kernel) (by decide +kernel)
set_option maxRecDepth 20000 in
theorem gX8_mean_X8_lowest : GoodIn wsX8_mean (va_wsS RX8 228 yX8_lowest wsX8_lowest) := goodIn_app (goodIn_of _ (by decide +kernel)) ggX8_mean_X8_lowest
theorem dX8_mean_0 : decode cX8_mean 0 = .ok (.iload_n 1, 1) := by decide +kernel
theorem dX8_mean_1 : decode cX8_mean 1 = .ok (.iconst 0, 1) := by decide +kernel
theorem dX8_mean_2 : decode cX8_mean 2 = .ok (.bipush 60, 2) := by decide +kernel
theorem dX8_mean_4 : decode cX8_mean 4 = .ok (.invokestatic 38, 3) := by decide +kernel
theorem dX8_mean_7 : decode cX8_mean 7 = .ok (.ifCond .eq 22, 3) := by decide +kernel
theorem dX8_mean_10 : decode cX8_mean 10 = .ok (.iload_n 2, 1) := by decide +kernel
theorem dX8_mean_11 : decode cX8_mean 11 = .ok (.iconst 0, 1) := by decide +kernel
theorem dX8_mean_12 : decode cX8_mean 12 = .ok (.iconst 1, 1) := by decide +kernel
theorem dX8_mean_13 : decode cX8_mean 13 = .ok (.invokestatic 38, 3) := by decide +kernel
theorem dX8_mean_16 : decode cX8_mean 16 = .ok (.ifCond .eq 13, 3) := by decide +kernel
theorem dX8_mean_19 : decode cX8_mean 19 = .ok (.aload_n 0, 1) := by decide +kernel
theorem dX8_mean_20 : decode cX8_mean 20 = .ok (.getfield 9, 3) := by decide +kernel
theorem dX8_mean_23 : decode cX8_mean 23 = .ok (.bipush 20, 2) := by decide +kernel
theorem dX8_mean_25 : decode cX8_mean 25 = .ok (.iaload, 1) := by decide +kernel
theorem dX8_mean_26 : decode cX8_mean 26 = .ok (.ifCond .ne 7, 3) := by decide +kernel
theorem dX8_mean_29 : decode cX8_mean 29 = .ok (.ldc2_w 222, 3) := by decide +kernel
theorem dX8_mean_32 : decode cX8_mean 32 = .ok (.lreturn, 1) := by decide +kernel
theorem dX8_mean_33 : decode cX8_mean 33 = .ok (.aload_n 0, 1) := by decide +kernel
theorem dX8_mean_34 : decode cX8_mean 34 = .ok (.invokevirtual 188, 3) := by decide +kernel
theorem dX8_mean_37 : decode cX8_mean 37 = .ok (.aload_n 0, 1) := by decide +kernel
theorem dX8_mean_38 : decode cX8_mean 38 = .ok (.iload_n 1, 1) := by decide +kernel
theorem dX8_mean_39 : decode cX8_mean 39 = .ok (.invokevirtual 191, 3) := by decide +kernel
theorem dX8_mean_42 : decode cX8_mean 42 = .ok (.aload_n 0, 1) := by decide +kernel
theorem dX8_mean_43 : decode cX8_mean 43 = .ok (.invokevirtual 197, 3) := by decide +kernel
theorem dX8_mean_46 : decode cX8_mean 46 = .ok (.i2l, 1) := by decide +kernel
theorem dX8_mean_47 : decode cX8_mean 47 = .ok (.lstore_n 3, 1) := by decide +kernel
theorem dX8_mean_48 : decode cX8_mean 48 = .ok (.aload_n 0, 1) := by decide +kernel
theorem dX8_mean_49 : decode cX8_mean 49 = .ok (.invokevirtual 200, 3) := by decide +kernel
theorem dX8_mean_52 : decode cX8_mean 52 = .ok (.lload_n 3, 1) := by decide +kernel
theorem dX8_mean_53 : decode cX8_mean 53 = .ok (.aload_n 0, 1) := by decide +kernel
theorem dX8_mean_54 : decode cX8_mean 54 = .ok (.getfield 9, 3) := by decide +kernel
theorem dX8_mean_57 : decode cX8_mean 57 = .ok (.bipush 20, 2) := by decide +kernel
theorem dX8_mean_59 : decode cX8_mean 59 = .ok (.iaload, 1) := by decide +kernel
theorem dX8_mean_60 : decode cX8_mean 60 = .ok (.i2l, 1) := by decide +kernel
theorem dX8_mean_61 : decode cX8_mean 61 = .ok (.iload_n 2, 1) := by decide +kernel
theorem dX8_mean_62 : decode cX8_mean 62 = .ok (.invokestatic 228, 3) := by decide +kernel
theorem dX8_mean_65 : decode cX8_mean 65 = .ok (.lreturn, 1) := by decide +kernel
set_option maxRecDepth 20000 in
theorem ggX8_plan_X8_in : GoodIn wsX8_plan wsX8_in := goodIn_r _ [5] (by decide +kernel) (by decide +kernel)
set_option maxRecDepth 20000 in
theorem gX8_plan_X8_in : GoodIn wsX8_plan (va_wsS RX8 38 yX8_in wsX8_in) := goodIn_app (goodIn_of _ (by decide +kernel)) ggX8_plan_X8_in
set_option maxRecDepth 20000 in
theorem ggX8_plan_X8_isPupil : GoodIn wsX8_plan wsX8_isPupil := goodIn_r _ [9, 1, 2, 3, 4, 5, 10, 11, 12, 13, 14, 15, 16, 17, 18, 19, 20, 21, 22, 23, 24, 25, 26, 27, 28, 29] (by decide +kernel) (by decide +kernel)
set_option maxRecDepth 20000 in
theorem gX8_plan_X8_isPupil : GoodIn wsX8_plan (wsV RX8 165 RX8 yX8_isPupil wsX8_isPupil) := goodIn_app (goodIn_of _ (by decide +kernel)) ggX8_plan_X8_isPupil
theorem dX8_plan_0 : decode cX8_plan 0 = .ok (.iload_n 1, 1) := by decide +kernel
theorem dX8_plan_1 : decode cX8_plan 1 = .ok (.iconst (-1), 1) := by decide +kernel
theorem dX8_plan_2 : decode cX8_plan 2 = .ok (.if_icmp .ne 13, 3) := by decide +kernel
theorem dX8_plan_5 : decode cX8_plan 5 = .ok (.aload_n 0, 1) := by decide +kernel
theorem dX8_plan_6 : decode cX8_plan 6 = .ok (.getfield 9, 3) := by decide +kernel
theorem dX8_plan_9 : decode cX8_plan 9 = .ok (.bipush 23, 2) := by decide +kernel
theorem dX8_plan_11 : decode cX8_plan 11 = .ok (.iconst 0, 1) := by decide +kernel
theorem dX8_plan_12 : decode cX8_plan 12 = .ok (.iastore, 1) := by decide +kernel
theorem dX8_plan_13 : decode cX8_plan 13 = .ok (.iconst 0, 1) := by decide +kernel
theorem dX8_plan_14 : decode cX8_plan 14 = .ok (.ireturn, 1) := by decide +kernel
theorem dX8_plan_15 : decode cX8_plan 15 = .ok (.iload_n 1, 1) := by decide +kernel
theorem dX8_plan_16 : decode cX8_plan 16 = .ok (.iconst 0, 1) := by decide +kernel
theorem dX8_plan_17 : decode cX8_plan 17 = .ok (.iconst 3, 1) := by decide +kernel
theorem dX8_plan_18 : decode cX8_plan 18 = .ok (.invokestatic 38, 3) := by decide +kernel
theorem dX8_plan_21 : decode cX8_plan 21 = .ok (.ifCond .eq 15, 3) := by decide +kernel
theorem dX8_plan_24 : decode cX8_plan 24 = .ok (.iload_n 1, 1) := by decide +kernel
theorem dX8_plan_25 : decode cX8_plan 25 = .ok (.ifCond .le 13, 3) := by decide +kernel
theorem dX8_plan_28 : decode cX8_plan 28 = .ok (.aload_n 0, 1) := by decide +kernel
theorem dX8_plan_29 : decode cX8_plan 29 = .ok (.iload_n 2, 1) := by decide +kernel
theorem dX8_plan_30 : decode cX8_plan 30 = .ok (.invokevirtual 165, 3) := by decide +kernel
theorem dX8_plan_33 : decode cX8_plan 33 = .ok (.ifCond .ne 5, 3) := by decide +kernel
theorem dX8_plan_36 : decode cX8_plan 36 = .ok (.iconst (-1), 1) := by decide +kernel
theorem dX8_plan_37 : decode cX8_plan 37 = .ok (.ireturn, 1) := by decide +kernel
theorem dX8_plan_38 : decode cX8_plan 38 = .ok (.aload_n 0, 1) := by decide +kernel
theorem dX8_plan_39 : decode cX8_plan 39 = .ok (.getfield 9, 3) := by decide +kernel
theorem dX8_plan_42 : decode cX8_plan 42 = .ok (.bipush 23, 2) := by decide +kernel
theorem dX8_plan_44 : decode cX8_plan 44 = .ok (.iaload, 1) := by decide +kernel
theorem dX8_plan_45 : decode cX8_plan 45 = .ok (.bipush 8, 2) := by decide +kernel
theorem dX8_plan_47 : decode cX8_plan 47 = .ok (.if_icmp .ne 6, 3) := by decide +kernel
theorem dX8_plan_50 : decode cX8_plan 50 = .ok (.bipush (-4), 2) := by decide +kernel
theorem dX8_plan_52 : decode cX8_plan 52 = .ok (.ireturn, 1) := by decide +kernel
theorem dX8_plan_53 : decode cX8_plan 53 = .ok (.aload_n 0, 1) := by decide +kernel
theorem dX8_plan_54 : decode cX8_plan 54 = .ok (.getfield 9, 3) := by decide +kernel
theorem dX8_plan_57 : decode cX8_plan 57 = .ok (.bipush 79, 2) := by decide +kernel
theorem dX8_plan_59 : decode cX8_plan 59 = .ok (.aload_n 0, 1) := by decide +kernel
theorem dX8_plan_60 : decode cX8_plan 60 = .ok (.getfield 9, 3) := by decide +kernel
theorem dX8_plan_63 : decode cX8_plan 63 = .ok (.bipush 23, 2) := by decide +kernel
theorem dX8_plan_65 : decode cX8_plan 65 = .ok (.iaload, 1) := by decide +kernel
theorem dX8_plan_66 : decode cX8_plan 66 = .ok (.iadd, 1) := by decide +kernel
theorem dX8_plan_67 : decode cX8_plan 67 = .ok (.iload_n 1, 1) := by decide +kernel
theorem dX8_plan_68 : decode cX8_plan 68 = .ok (.iastore, 1) := by decide +kernel
theorem dX8_plan_69 : decode cX8_plan 69 = .ok (.aload_n 0, 1) := by decide +kernel
theorem dX8_plan_70 : decode cX8_plan 70 = .ok (.getfield 9, 3) := by decide +kernel
theorem dX8_plan_73 : decode cX8_plan 73 = .ok (.bipush 87, 2) := by decide +kernel
theorem dX8_plan_75 : decode cX8_plan 75 = .ok (.aload_n 0, 1) := by decide +kernel
theorem dX8_plan_76 : decode cX8_plan 76 = .ok (.getfield 9, 3) := by decide +kernel
theorem dX8_plan_79 : decode cX8_plan 79 = .ok (.bipush 23, 2) := by decide +kernel
theorem dX8_plan_81 : decode cX8_plan 81 = .ok (.iaload, 1) := by decide +kernel
theorem dX8_plan_82 : decode cX8_plan 82 = .ok (.iadd, 1) := by decide +kernel
theorem dX8_plan_83 : decode cX8_plan 83 = .ok (.iload_n 2, 1) := by decide +kernel
theorem dX8_plan_84 : decode cX8_plan 84 = .ok (.iastore, 1) := by decide +kernel
theorem dX8_plan_85 : decode cX8_plan 85 = .ok (.aload_n 0, 1) := by decide +kernel
theorem dX8_plan_86 : decode cX8_plan 86 = .ok (.getfield 9, 3) := by decide +kernel
theorem dX8_plan_89 : decode cX8_plan 89 = .ok (.bipush 23, 2) := by decide +kernel
theorem dX8_plan_91 : decode cX8_plan 91 = .ok (.dup2, 1) := by decide +kernel
theorem dX8_plan_92 : decode cX8_plan 92 = .ok (.iaload, 1) := by decide +kernel
theorem dX8_plan_93 : decode cX8_plan 93 = .ok (.iconst 1, 1) := by decide +kernel
theorem dX8_plan_94 : decode cX8_plan 94 = .ok (.iadd, 1) := by decide +kernel
theorem dX8_plan_95 : decode cX8_plan 95 = .ok (.iastore, 1) := by decide +kernel
theorem dX8_plan_96 : decode cX8_plan 96 = .ok (.aload_n 0, 1) := by decide +kernel
theorem dX8_plan_97 : decode cX8_plan 97 = .ok (.getfield 9, 3) := by decide +kernel
theorem dX8_plan_100 : decode cX8_plan 100 = .ok (.bipush 23, 2) := by decide +kernel
theorem dX8_plan_102 : decode cX8_plan 102 = .ok (.iaload, 1) := by decide +kernel
theorem dX8_plan_103 : decode cX8_plan 103 = .ok (.ireturn, 1) := by decide +kernel
set_option maxRecDepth 20000 in
theorem ggX8_goesBy_X8_goes : GoodIn wsX8_goesBy wsX8_goes := goodIn_r _ [6, 1, 7, 8, 9, 10, 5, 11, 12, 13, 14, 15, 16, 17, 18, 19, 20, 21, 22, 23, 24, 25, 26, 27, 28, 29, 30, 31, 32, 33, 34, 35, 36, 37, 38, 39, 40, 41, 42, 43, 44, 45, 46, 47, 48, 49, 50, 51, 52, 53, 54, 55, 56] (by decide +kernel) (by decide +kernel)
set_option maxRecDepth 20000 in
theorem gX8_goesBy_X8_goes : GoodIn wsX8_goesBy (wsV RX8 181 RX8 yX8_goes wsX8_goes) := goodIn_app (goodIn_of _ (by decide +kernel)) ggX8_goesBy_X8_goes
theorem dX8_goesBy_0 : decode cX8_goesBy 0 = .ok (.iload_n 1, 1) := by decide +kernel
theorem dX8_goesBy_1 : decode cX8_goesBy 1 = .ok (.ifCond .ne 10, 3) := by decide +kernel
theorem dX8_goesBy_4 : decode cX8_goesBy 4 = .ok (.aload_n 0, 1) := by decide +kernel
theorem dX8_goesBy_5 : decode cX8_goesBy 5 = .ok (.invokevirtual 181, 3) := by decide +kernel
theorem dX8_goesBy_8 : decode cX8_goesBy 8 = .ok (.goto 41, 3) := by decide +kernel
theorem dX8_goesBy_11 : decode cX8_goesBy 11 = .ok (.iload_n 1, 1) := by decide +kernel
theorem dX8_goesBy_12 : decode cX8_goesBy 12 = .ok (.iconst 3, 1) := by decide +kernel
theorem dX8_goesBy_13 : decode cX8_goesBy 13 = .ok (.if_icmp .ne 17, 3) := by decide +kernel
theorem dX8_goesBy_16 : decode cX8_goesBy 16 = .ok (.aload_n 0, 1) := by decide +kernel
theorem dX8_goesBy_17 : decode cX8_goesBy 17 = .ok (.getfield 9, 3) := by decide +kernel
theorem dX8_goesBy_20 : decode cX8_goesBy 20 = .ok (.bipush 8, 2) := by decide +kernel
theorem dX8_goesBy_22 : decode cX8_goesBy 22 = .ok (.iload_n 2, 1) := by decide +kernel
theorem dX8_goesBy_23 : decode cX8_goesBy 23 = .ok (.iadd, 1) := by decide +kernel
theorem dX8_goesBy_24 : decode cX8_goesBy 24 = .ok (.bipush 99, 2) := by decide +kernel
theorem dX8_goesBy_26 : decode cX8_goesBy 26 = .ok (.iastore, 1) := by decide +kernel
theorem dX8_goesBy_27 : decode cX8_goesBy 27 = .ok (.goto 22, 3) := by decide +kernel
theorem dX8_goesBy_30 : decode cX8_goesBy 30 = .ok (.aload_n 0, 1) := by decide +kernel
theorem dX8_goesBy_31 : decode cX8_goesBy 31 = .ok (.getfield 9, 3) := by decide +kernel
theorem dX8_goesBy_34 : decode cX8_goesBy 34 = .ok (.bipush 14, 2) := by decide +kernel
theorem dX8_goesBy_36 : decode cX8_goesBy 36 = .ok (.iload_n 2, 1) := by decide +kernel
theorem dX8_goesBy_37 : decode cX8_goesBy 37 = .ok (.iadd, 1) := by decide +kernel
theorem dX8_goesBy_38 : decode cX8_goesBy 38 = .ok (.iload_n 1, 1) := by decide +kernel
theorem dX8_goesBy_39 : decode cX8_goesBy 39 = .ok (.iconst 1, 1) := by decide +kernel
theorem dX8_goesBy_40 : decode cX8_goesBy 40 = .ok (.if_icmp .ne 7, 3) := by decide +kernel
theorem dX8_goesBy_43 : decode cX8_goesBy 43 = .ok (.iconst 1, 1) := by decide +kernel
theorem dX8_goesBy_44 : decode cX8_goesBy 44 = .ok (.goto 4, 3) := by decide +kernel
theorem dX8_goesBy_47 : decode cX8_goesBy 47 = .ok (.iconst 0, 1) := by decide +kernel
theorem dX8_goesBy_48 : decode cX8_goesBy 48 = .ok (.iastore, 1) := by decide +kernel
theorem dX8_goesBy_49 : decode cX8_goesBy 49 = .ok (.return_, 1) := by decide +kernel
set_option maxRecDepth 20000 in
theorem ggX8_done_X8_in : GoodIn wsX8_done wsX8_in := goodIn_r _ [5] (by decide +kernel) (by decide +kernel)
set_option maxRecDepth 20000 in
theorem gX8_done_X8_in : GoodIn wsX8_done (va_wsS RX8 38 yX8_in wsX8_in) := goodIn_app (goodIn_of _ (by decide +kernel)) ggX8_done_X8_in
set_option maxRecDepth 20000 in
theorem ggX8_done_X8_keeps : GoodIn wsX8_done wsX8_keeps := goodIn_r _ [9, 10, 1, 65, 66, 67, 68, 69, 70, 71, 72, 73, 74, 75, 76, 77, 78, 79, 80, 81, 82, 83, 84] (by decide +kernel) (by decide +kernel)
set_option maxRecDepth 20000 in
theorem gX8_done_X8_keeps : GoodIn wsX8_done (wsV RX8 188 RX8 yX8_keeps wsX8_keeps) := goodIn_app (goodIn_of _ (by decide +kernel)) ggX8_done_X8_keeps
set_option maxRecDepth 20000 in
theorem ggX8_done_X8_goesBy : GoodIn wsX8_done wsX8_goesBy := goodIn_r _ [14, 1, 15, 16, 17, 4, 18, 19, 20, 21, 22, 23, 24, 25, 26, 27, 28, 29, 30, 31, 32, 33, 34, 35, 36, 37, 38, 39, 40, 41, 42, 43, 44, 45, 46, 47, 48, 65, 66, 67, 68, 69, 70, 71, 72, 73, 74, 75, 76, 77, 78, 79, 80, 81, 82, 83, 84] (by decide +kernel) (by decide +kernel)
set_option maxRecDepth 20000 in
theorem gX8_done_X8_goesBy : GoodIn wsX8_done (wsV RX8 249 RX8 yX8_goesBy wsX8_goesBy) := goodIn_app (goodIn_of _ (by decide +kernel)) ggX8_done_X8_goesBy
set_option maxRecDepth 20000 in
theorem ggX8_done_X8_workMore : GoodIn wsX8_done wsX8_workMore := goodIn_r _ [52, 1, 10, 65, 66, 67, 68, 69, 70, 71, 72, 73, 74, 75, 76, 77, 78, 79, 80, 81, 82, 83, 84] (by decide +kernel) (by decide +kernel)
set_option maxRecDepth 20000 in
theorem gX8_done_X8_workMore : GoodIn wsX8_done (wsV RX8 194 RX8 yX8_workMore wsX8_workMore) := goodIn_app (goodIn_of _ (by decide +kernel)) ggX8_done_X8_workMore
set_option maxRecDepth 20000 in
theorem ggX8_done_X8_allMore : GoodIn wsX8_done wsX8_allMore := goodIn_r _ [56, 1, 57, 58, 59, 4, 60, 10, 65, 66, 67, 68, 69, 70, 71, 72, 73, 74, 75, 76, 77, 78, 79, 80, 81, 82, 83, 84] (by decide +kernel) (by decide +kernel)
set_option maxRecDepth 20000 in
theorem gX8_done_X8_allMore : GoodIn wsX8_done (wsV RX8 197 RX8 yX8_allMore wsX8_allMore) := goodIn_app (goodIn_of _ (by decide +kernel)) ggX8_done_X8_allMore
set_option maxRecDepth 20000 in
theorem ggX8_done_X8_goesBack : GoodIn wsX8_done wsX8_goesBack := goodIn_r _ [64, 1, 10, 65, 66, 67, 68, 69, 70, 71, 72, 73, 74, 75, 76, 77, 78, 79, 80, 81, 82, 83, 84] (by decide +kernel) (by decide +kernel)
set_option maxRecDepth 20000 in
theorem gX8_done_X8_goesBack : GoodIn wsX8_done (wsV RX8 200 RX8 yX8_goesBack wsX8_goesBack) := goodIn_app (goodIn_of _ (by decide +kernel)) ggX8_done_X8_goesBack
theorem dX8_done_0 : decode cX8_done 0 = .ok (.iload_n 1, 1) := by decide +kernel
theorem dX8_done_1 : decode cX8_done 1 = .ok (.iconst 0, 1) := by decide +kernel
theorem dX8_done_2 : decode cX8_done 2 = .ok (.iconst 1, 1) := by decide +kernel
theorem dX8_done_3 : decode cX8_done 3 = .ok (.invokestatic 38, 3) := by decide +kernel
theorem dX8_done_6 : decode cX8_done 6 = .ok (.ifCond .ne 5, 3) := by decide +kernel
theorem dX8_done_9 : decode cX8_done 9 = .ok (.iconst (-1), 1) := by decide +kernel
theorem dX8_done_10 : decode cX8_done 10 = .ok (.ireturn, 1) := by decide +kernel
theorem dX8_done_11 : decode cX8_done 11 = .ok (.aload_n 0, 1) := by decide +kernel
theorem dX8_done_12 : decode cX8_done 12 = .ok (.invokevirtual 188, 3) := by decide +kernel
theorem dX8_done_15 : decode cX8_done 15 = .ok (.iconst 0, 1) := by decide +kernel
theorem dX8_done_16 : decode cX8_done 16 = .ok (.istore_n 2, 1) := by decide +kernel
theorem dX8_done_17 : decode cX8_done 17 = .ok (.iload_n 2, 1) := by decide +kernel
theorem dX8_done_18 : decode cX8_done 18 = .ok (.aload_n 0, 1) := by decide +kernel
theorem dX8_done_19 : decode cX8_done 19 = .ok (.getfield 9, 3) := by decide +kernel
theorem dX8_done_22 : decode cX8_done 22 = .ok (.bipush 23, 2) := by decide +kernel
theorem dX8_done_24 : decode cX8_done 24 = .ok (.iaload, 1) := by decide +kernel
theorem dX8_done_25 : decode cX8_done 25 = .ok (.if_icmp .ge 31, 3) := by decide +kernel
theorem dX8_done_28 : decode cX8_done 28 = .ok (.aload_n 0, 1) := by decide +kernel
theorem dX8_done_29 : decode cX8_done 29 = .ok (.aload_n 0, 1) := by decide +kernel
theorem dX8_done_30 : decode cX8_done 30 = .ok (.getfield 9, 3) := by decide +kernel
theorem dX8_done_33 : decode cX8_done 33 = .ok (.bipush 79, 2) := by decide +kernel
theorem dX8_done_35 : decode cX8_done 35 = .ok (.iload_n 2, 1) := by decide +kernel
theorem dX8_done_36 : decode cX8_done 36 = .ok (.iadd, 1) := by decide +kernel
theorem dX8_done_37 : decode cX8_done 37 = .ok (.iaload, 1) := by decide +kernel
theorem dX8_done_38 : decode cX8_done 38 = .ok (.aload_n 0, 1) := by decide +kernel
theorem dX8_done_39 : decode cX8_done 39 = .ok (.getfield 9, 3) := by decide +kernel
theorem dX8_done_42 : decode cX8_done 42 = .ok (.bipush 87, 2) := by decide +kernel
theorem dX8_done_44 : decode cX8_done 44 = .ok (.iload_n 2, 1) := by decide +kernel
theorem dX8_done_45 : decode cX8_done 45 = .ok (.iadd, 1) := by decide +kernel
theorem dX8_done_46 : decode cX8_done 46 = .ok (.iaload, 1) := by decide +kernel
theorem dX8_done_47 : decode cX8_done 47 = .ok (.invokevirtual 249, 3) := by decide +kernel
theorem dX8_done_50 : decode cX8_done 50 = .ok (.iinc 2 1, 3) := by decide +kernel
theorem dX8_done_53 : decode cX8_done 53 = .ok (.goto (-36), 3) := by decide +kernel
theorem dX8_done_56 : decode cX8_done 56 = .ok (.iload_n 1, 1) := by decide +kernel
theorem dX8_done_57 : decode cX8_done 57 = .ok (.ifCond .ne 10, 3) := by decide +kernel
theorem dX8_done_60 : decode cX8_done 60 = .ok (.aload_n 0, 1) := by decide +kernel
theorem dX8_done_61 : decode cX8_done 61 = .ok (.invokevirtual 194, 3) := by decide +kernel
theorem dX8_done_64 : decode cX8_done 64 = .ok (.goto 7, 3) := by decide +kernel
theorem dX8_done_67 : decode cX8_done 67 = .ok (.aload_n 0, 1) := by decide +kernel
theorem dX8_done_68 : decode cX8_done 68 = .ok (.invokevirtual 197, 3) := by decide +kernel
theorem dX8_done_71 : decode cX8_done 71 = .ok (.istore_n 2, 1) := by decide +kernel
theorem dX8_done_72 : decode cX8_done 72 = .ok (.aload_n 0, 1) := by decide +kernel
theorem dX8_done_73 : decode cX8_done 73 = .ok (.invokevirtual 200, 3) := by decide +kernel
theorem dX8_done_76 : decode cX8_done 76 = .ok (.iload_n 2, 1) := by decide +kernel
theorem dX8_done_77 : decode cX8_done 77 = .ok (.ireturn, 1) := by decide +kernel
set_option maxRecDepth 20000 in
theorem ggX8_book_X8_isPupil : GoodIn wsX8_book wsX8_isPupil := goodIn_r _ [6, 1, 7, 8, 5, 9, 10, 11, 12, 13, 14, 15, 16, 17, 18, 19, 20, 21, 22, 23, 24, 25, 26, 27, 28, 29] (by decide +kernel) (by decide +kernel)
set_option maxRecDepth 20000 in
theorem gX8_book_X8_isPupil : GoodIn wsX8_book (wsV RX8 165 RX8 yX8_isPupil wsX8_isPupil) := goodIn_app (goodIn_of _ (by decide +kernel)) ggX8_book_X8_isPupil
set_option maxRecDepth 20000 in
theorem ggX8_book_X8_in : GoodIn wsX8_book wsX8_in := goodIn_r _ [9] (by decide +kernel) (by decide +kernel)
set_option maxRecDepth 20000 in
theorem gX8_book_X8_in : GoodIn wsX8_book (va_wsS RX8 38 yX8_in wsX8_in) := goodIn_app (goodIn_of _ (by decide +kernel)) ggX8_book_X8_in
theorem dX8_book_0 : decode cX8_book 0 = .ok (.iload_n 1, 1) := by decide +kernel
theorem dX8_book_1 : decode cX8_book 1 = .ok (.iconst (-1), 1) := by decide +kernel
theorem dX8_book_2 : decode cX8_book 2 = .ok (.if_icmp .ne 13, 3) := by decide +kernel
theorem dX8_book_5 : decode cX8_book 5 = .ok (.aload_n 0, 1) := by decide +kernel
theorem dX8_book_6 : decode cX8_book 6 = .ok (.getfield 9, 3) := by decide +kernel
theorem dX8_book_9 : decode cX8_book 9 = .ok (.bipush 24, 2) := by decide +kernel
theorem dX8_book_11 : decode cX8_book 11 = .ok (.iconst 0, 1) := by decide +kernel
theorem dX8_book_12 : decode cX8_book 12 = .ok (.iastore, 1) := by decide +kernel
theorem dX8_book_13 : decode cX8_book 13 = .ok (.iconst 0, 1) := by decide +kernel
theorem dX8_book_14 : decode cX8_book 14 = .ok (.ireturn, 1) := by decide +kernel
theorem dX8_book_15 : decode cX8_book 15 = .ok (.aload_n 0, 1) := by decide +kernel
theorem dX8_book_16 : decode cX8_book 16 = .ok (.iload_n 1, 1) := by decide +kernel
theorem dX8_book_17 : decode cX8_book 17 = .ok (.invokevirtual 165, 3) := by decide +kernel
theorem dX8_book_20 : decode cX8_book 20 = .ok (.ifCond .ne 5, 3) := by decide +kernel
theorem dX8_book_23 : decode cX8_book 23 = .ok (.iconst (-1), 1) := by decide +kernel
theorem dX8_book_24 : decode cX8_book 24 = .ok (.ireturn, 1) := by decide +kernel
theorem dX8_book_25 : decode cX8_book 25 = .ok (.iload_n 2, 1) := by decide +kernel
theorem dX8_book_26 : decode cX8_book 26 = .ok (.iconst 0, 1) := by decide +kernel
theorem dX8_book_27 : decode cX8_book 27 = .ok (.sipush 9999, 3) := by decide +kernel
theorem dX8_book_30 : decode cX8_book 30 = .ok (.invokestatic 38, 3) := by decide +kernel
theorem dX8_book_33 : decode cX8_book 33 = .ok (.ifCond .ne 6, 3) := by decide +kernel
theorem dX8_book_36 : decode cX8_book 36 = .ok (.bipush (-2), 2) := by decide +kernel
theorem dX8_book_38 : decode cX8_book 38 = .ok (.ireturn, 1) := by decide +kernel
theorem dX8_book_39 : decode cX8_book 39 = .ok (.aload_n 0, 1) := by decide +kernel
theorem dX8_book_40 : decode cX8_book 40 = .ok (.getfield 9, 3) := by decide +kernel
theorem dX8_book_43 : decode cX8_book 43 = .ok (.bipush 24, 2) := by decide +kernel
theorem dX8_book_45 : decode cX8_book 45 = .ok (.iaload, 1) := by decide +kernel
theorem dX8_book_46 : decode cX8_book 46 = .ok (.bipush 8, 2) := by decide +kernel
theorem dX8_book_48 : decode cX8_book 48 = .ok (.if_icmp .ne 6, 3) := by decide +kernel
theorem dX8_book_51 : decode cX8_book 51 = .ok (.bipush (-4), 2) := by decide +kernel
theorem dX8_book_53 : decode cX8_book 53 = .ok (.ireturn, 1) := by decide +kernel
theorem dX8_book_54 : decode cX8_book 54 = .ok (.aload_n 0, 1) := by decide +kernel
theorem dX8_book_55 : decode cX8_book 55 = .ok (.getfield 9, 3) := by decide +kernel
theorem dX8_book_58 : decode cX8_book 58 = .ok (.bipush 95, 2) := by decide +kernel
theorem dX8_book_60 : decode cX8_book 60 = .ok (.aload_n 0, 1) := by decide +kernel
theorem dX8_book_61 : decode cX8_book 61 = .ok (.getfield 9, 3) := by decide +kernel
theorem dX8_book_64 : decode cX8_book 64 = .ok (.bipush 24, 2) := by decide +kernel
theorem dX8_book_66 : decode cX8_book 66 = .ok (.iaload, 1) := by decide +kernel
theorem dX8_book_67 : decode cX8_book 67 = .ok (.iadd, 1) := by decide +kernel
theorem dX8_book_68 : decode cX8_book 68 = .ok (.iload_n 1, 1) := by decide +kernel
theorem dX8_book_69 : decode cX8_book 69 = .ok (.iastore, 1) := by decide +kernel
theorem dX8_book_70 : decode cX8_book 70 = .ok (.aload_n 0, 1) := by decide +kernel
theorem dX8_book_71 : decode cX8_book 71 = .ok (.getfield 9, 3) := by decide +kernel
theorem dX8_book_74 : decode cX8_book 74 = .ok (.bipush 103, 2) := by decide +kernel
theorem dX8_book_76 : decode cX8_book 76 = .ok (.aload_n 0, 1) := by decide +kernel
theorem dX8_book_77 : decode cX8_book 77 = .ok (.getfield 9, 3) := by decide +kernel
theorem dX8_book_80 : decode cX8_book 80 = .ok (.bipush 24, 2) := by decide +kernel
theorem dX8_book_82 : decode cX8_book 82 = .ok (.iaload, 1) := by decide +kernel
theorem dX8_book_83 : decode cX8_book 83 = .ok (.iadd, 1) := by decide +kernel
theorem dX8_book_84 : decode cX8_book 84 = .ok (.iload_n 2, 1) := by decide +kernel
theorem dX8_book_85 : decode cX8_book 85 = .ok (.iastore, 1) := by decide +kernel
theorem dX8_book_86 : decode cX8_book 86 = .ok (.aload_n 0, 1) := by decide +kernel
theorem dX8_book_87 : decode cX8_book 87 = .ok (.getfield 9, 3) := by decide +kernel
theorem dX8_book_90 : decode cX8_book 90 = .ok (.bipush 24, 2) := by decide +kernel
theorem dX8_book_92 : decode cX8_book 92 = .ok (.dup2, 1) := by decide +kernel
theorem dX8_book_93 : decode cX8_book 93 = .ok (.iaload, 1) := by decide +kernel
theorem dX8_book_94 : decode cX8_book 94 = .ok (.iconst 1, 1) := by decide +kernel
theorem dX8_book_95 : decode cX8_book 95 = .ok (.iadd, 1) := by decide +kernel
theorem dX8_book_96 : decode cX8_book 96 = .ok (.iastore, 1) := by decide +kernel
theorem dX8_book_97 : decode cX8_book 97 = .ok (.aload_n 0, 1) := by decide +kernel
theorem dX8_book_98 : decode cX8_book 98 = .ok (.getfield 9, 3) := by decide +kernel
theorem dX8_book_101 : decode cX8_book 101 = .ok (.bipush 24, 2) := by decide +kernel
theorem dX8_book_103 : decode cX8_book 103 = .ok (.iaload, 1) := by decide +kernel
theorem dX8_book_104 : decode cX8_book 104 = .ok (.ireturn, 1) := by decide +kernel
theorem dX8_looked_0 : decode cX8_looked 0 = .ok (.iconst 0, 1) := by decide +kernel
theorem dX8_looked_1 : decode cX8_looked 1 = .ok (.istore_n 1, 1) := by decide +kernel
theorem dX8_looked_2 : decode cX8_looked 2 = .ok (.iload_n 1, 1) := by decide +kernel
theorem dX8_looked_3 : decode cX8_looked 3 = .ok (.aload_n 0, 1) := by decide +kernel
theorem dX8_looked_4 : decode cX8_looked 4 = .ok (.getfield 9, 3) := by decide +kernel
theorem dX8_looked_7 : decode cX8_looked 7 = .ok (.bipush 24, 2) := by decide +kernel
theorem dX8_looked_9 : decode cX8_looked 9 = .ok (.iaload, 1) := by decide +kernel
theorem dX8_looked_10 : decode cX8_looked 10 = .ok (.if_icmp .ge 39, 3) := by decide +kernel
theorem dX8_looked_13 : decode cX8_looked 13 = .ok (.aload_n 0, 1) := by decide +kernel
theorem dX8_looked_14 : decode cX8_looked 14 = .ok (.getfield 9, 3) := by decide +kernel
theorem dX8_looked_17 : decode cX8_looked 17 = .ok (.iconst 2, 1) := by decide +kernel
theorem dX8_looked_18 : decode cX8_looked 18 = .ok (.aload_n 0, 1) := by decide +kernel
theorem dX8_looked_19 : decode cX8_looked 19 = .ok (.getfield 9, 3) := by decide +kernel
theorem dX8_looked_22 : decode cX8_looked 22 = .ok (.bipush 95, 2) := by decide +kernel
theorem dX8_looked_24 : decode cX8_looked 24 = .ok (.iload_n 1, 1) := by decide +kernel
theorem dX8_looked_25 : decode cX8_looked 25 = .ok (.iadd, 1) := by decide +kernel
theorem dX8_looked_26 : decode cX8_looked 26 = .ok (.iaload, 1) := by decide +kernel
theorem dX8_looked_27 : decode cX8_looked 27 = .ok (.iadd, 1) := by decide +kernel
theorem dX8_looked_28 : decode cX8_looked 28 = .ok (.iaload, 1) := by decide +kernel
theorem dX8_looked_29 : decode cX8_looked 29 = .ok (.aload_n 0, 1) := by decide +kernel
theorem dX8_looked_30 : decode cX8_looked 30 = .ok (.getfield 9, 3) := by decide +kernel
theorem dX8_looked_33 : decode cX8_looked 33 = .ok (.bipush 103, 2) := by decide +kernel
theorem dX8_looked_35 : decode cX8_looked 35 = .ok (.iload_n 1, 1) := by decide +kernel
theorem dX8_looked_36 : decode cX8_looked 36 = .ok (.iadd, 1) := by decide +kernel
theorem dX8_looked_37 : decode cX8_looked 37 = .ok (.iaload, 1) := by decide +kernel
theorem dX8_looked_38 : decode cX8_looked 38 = .ok (.if_icmp .eq 5, 3) := by decide +kernel
theorem dX8_looked_41 : decode cX8_looked 41 = .ok (.iload_n 1, 1) := by decide +kernel
theorem dX8_looked_42 : decode cX8_looked 42 = .ok (.ireturn, 1) := by decide +kernel
theorem dX8_looked_43 : decode cX8_looked 43 = .ok (.iinc 1 1, 3) := by decide +kernel
theorem dX8_looked_46 : decode cX8_looked 46 = .ok (.goto (-44), 3) := by decide +kernel
theorem dX8_looked_49 : decode cX8_looked 49 = .ok (.bipush (-5), 2) := by decide +kernel
theorem dX8_looked_51 : decode cX8_looked 51 = .ok (.ireturn, 1) := by decide +kernel
theorem dX8_ranBody_0 : decode cX8_ranBody 0 = .ok (.aload_n 0, 1) := by decide +kernel
theorem dX8_ranBody_1 : decode cX8_ranBody 1 = .ok (.getfield 253, 3) := by decide +kernel
theorem dX8_ranBody_4 : decode cX8_ranBody 4 = .ok (.bipush 20, 2) := by decide +kernel
theorem dX8_ranBody_6 : decode cX8_ranBody 6 = .ok (.if_icmp .ge 13, 3) := by decide +kernel
theorem dX8_ranBody_9 : decode cX8_ranBody 9 = .ok (.aload_n 0, 1) := by decide +kernel
theorem dX8_ranBody_10 : decode cX8_ranBody 10 = .ok (.getfield 31, 3) := by decide +kernel
theorem dX8_ranBody_13 : decode cX8_ranBody 13 = .ok (.aload_n 0, 1) := by decide +kernel
theorem dX8_ranBody_14 : decode cX8_ranBody 14 = .ok (.getfield 253, 3) := by decide +kernel
theorem dX8_ranBody_17 : decode cX8_ranBody 17 = .ok (.iload_n 1, 1) := by decide +kernel
theorem dX8_ranBody_18 : decode cX8_ranBody 18 = .ok (.iastore, 1) := by decide +kernel
theorem dX8_ranBody_19 : decode cX8_ranBody 19 = .ok (.aload_n 0, 1) := by decide +kernel
theorem dX8_ranBody_20 : decode cX8_ranBody 20 = .ok (.dup, 1) := by decide +kernel
theorem dX8_ranBody_21 : decode cX8_ranBody 21 = .ok (.getfield 253, 3) := by decide +kernel
theorem dX8_ranBody_24 : decode cX8_ranBody 24 = .ok (.iconst 1, 1) := by decide +kernel
theorem dX8_ranBody_25 : decode cX8_ranBody 25 = .ok (.iadd, 1) := by decide +kernel
theorem dX8_ranBody_26 : decode cX8_ranBody 26 = .ok (.putfield 253, 3) := by decide +kernel
theorem dX8_ranBody_29 : decode cX8_ranBody 29 = .ok (.return_, 1) := by decide +kernel
theorem dX8_isUnder_0 : decode cX8_isUnder 0 = .ok (.iload_n 1, 1) := by decide +kernel
theorem dX8_isUnder_1 : decode cX8_isUnder 1 = .ok (.ifCond .eq 24, 3) := by decide +kernel
theorem dX8_isUnder_4 : decode cX8_isUnder 4 = .ok (.iload_n 1, 1) := by decide +kernel
theorem dX8_isUnder_5 : decode cX8_isUnder 5 = .ok (.iload_n 0, 1) := by decide +kernel
theorem dX8_isUnder_6 : decode cX8_isUnder 6 = .ok (.if_icmp .eq 19, 3) := by decide +kernel
theorem dX8_isUnder_9 : decode cX8_isUnder 9 = .ok (.iload_n 1, 1) := by decide +kernel
theorem dX8_isUnder_10 : decode cX8_isUnder 10 = .ok (.ifCond .le 19, 3) := by decide +kernel
theorem dX8_isUnder_13 : decode cX8_isUnder 13 = .ok (.iload_n 1, 1) := by decide +kernel
theorem dX8_isUnder_14 : decode cX8_isUnder 14 = .ok (.iconst 4, 1) := by decide +kernel
theorem dX8_isUnder_15 : decode cX8_isUnder 15 = .ok (.if_icmp .ge 14, 3) := by decide +kernel
theorem dX8_isUnder_18 : decode cX8_isUnder 18 = .ok (.iload_n 0, 1) := by decide +kernel
theorem dX8_isUnder_19 : decode cX8_isUnder 19 = .ok (.iload_n 1, 1) := by decide +kernel
theorem dX8_isUnder_20 : decode cX8_isUnder 20 = .ok (.iconst 3, 1) := by decide +kernel
theorem dX8_isUnder_21 : decode cX8_isUnder 21 = .ok (.iadd, 1) := by decide +kernel
theorem dX8_isUnder_22 : decode cX8_isUnder 22 = .ok (.if_icmp .ne 7, 3) := by decide +kernel
theorem dX8_isUnder_25 : decode cX8_isUnder 25 = .ok (.iconst 1, 1) := by decide +kernel
theorem dX8_isUnder_26 : decode cX8_isUnder 26 = .ok (.goto 4, 3) := by decide +kernel
theorem dX8_isUnder_29 : decode cX8_isUnder 29 = .ok (.iconst 0, 1) := by decide +kernel
theorem dX8_isUnder_30 : decode cX8_isUnder 30 = .ok (.ireturn, 1) := by decide +kernel
set_option maxRecDepth 20000 in
theorem ggX8_plainThinks_X8_ranBody : GoodIn wsX8_plainThinks wsX8_ranBody := goodIn_r _ [6, 7, 8, 9, 10, 11, 12, 13, 14, 15, 16, 17, 18, 19, 20, 21, 22, 23, 24, 25, 26, 27, 28] (by decide +kernel) (by decide +kernel)
set_option maxRecDepth 20000 in
theorem gX8_plainThinks_X8_ranBody : GoodIn wsX8_plainThinks (wsV RX8 256 RX8 yX8_ranBody wsX8_ranBody) := goodIn_app (goodIn_of _ (by decide +kernel)) ggX8_plainThinks_X8_ranBody
theorem dX8_plainThinks_0 : decode cX8_plainThinks 0 = .ok (.aload_n 0, 1) := by decide +kernel
theorem dX8_plainThinks_1 : decode cX8_plainThinks 1 = .ok (.iconst 1, 1) := by decide +kernel
theorem dX8_plainThinks_2 : decode cX8_plainThinks 2 = .ok (.invokevirtual 256, 3) := by decide +kernel
theorem dX8_plainThinks_5 : decode cX8_plainThinks 5 = .ok (.iload_n 1, 1) := by decide +kernel
theorem dX8_plainThinks_6 : decode cX8_plainThinks 6 = .ok (.aload_n 0, 1) := by decide +kernel
theorem dX8_plainThinks_7 : decode cX8_plainThinks 7 = .ok (.getfield 259, 3) := by decide +kernel
theorem dX8_plainThinks_10 : decode cX8_plainThinks 10 = .ok (.iadd, 1) := by decide +kernel
theorem dX8_plainThinks_11 : decode cX8_plainThinks 11 = .ok (.ireturn, 1) := by decide +kernel
set_option maxRecDepth 20000 in
theorem ggX8_thinksActs_X8_isUnder : GoodIn wsX8_thinksActs wsX8_isUnder := goodIn_r _ [6] (by decide +kernel) (by decide +kernel)
set_option maxRecDepth 20000 in
theorem gX8_thinksActs_X8_isUnder : GoodIn wsX8_thinksActs (va_wsS RX8 265 yX8_isUnder wsX8_isUnder) := goodIn_app (goodIn_of _ (by decide +kernel)) ggX8_thinksActs_X8_isUnder
set_option maxRecDepth 20000 in
theorem ggX8_thinksActs_X8_ranBody : GoodIn wsX8_thinksActs wsX8_ranBody := goodIn_r _ [10, 11, 12, 17, 18, 19, 20, 21, 22, 23, 24, 25, 26, 27, 28, 29, 30, 31, 32, 33, 34, 35, 36] (by decide +kernel) (by decide +kernel)
set_option maxRecDepth 20000 in
theorem gX8_thinksActs_X8_ranBody : GoodIn wsX8_thinksActs (wsV RX8 256 RX8 yX8_ranBody wsX8_ranBody) := goodIn_app (goodIn_of _ (by decide +kernel)) ggX8_thinksActs_X8_ranBody
set_option maxRecDepth 20000 in
theorem ggX8_thinksActs_X8_plainThinks : GoodIn wsX8_thinksActs wsX8_plainThinks := goodIn_r _ [16, 2, 7, 8, 9, 5, 10, 11, 12, 17, 18, 19, 20, 21, 22, 23, 24, 25, 26, 27, 28, 29, 30, 31, 32, 33, 34, 35, 36] (by decide +kernel) (by decide +kernel)
set_option maxRecDepth 20000 in
theorem gX8_thinksActs_X8_plainThinks : GoodIn wsX8_thinksActs (wsV RX8 269 RX8 yX8_plainThinks wsX8_plainThinks) := goodIn_app (goodIn_of _ (by decide +kernel)) ggX8_thinksActs_X8_plainThinks
theorem dX8_thinksActs_0 : decode cX8_thinksActs 0 = .ok (.aload_n 0, 1) := by decide +kernel
theorem dX8_thinksActs_1 : decode cX8_thinksActs 1 = .ok (.getfield 262, 3) := by decide +kernel
theorem dX8_thinksActs_4 : decode cX8_thinksActs 4 = .ok (.iconst 1, 1) := by decide +kernel
theorem dX8_thinksActs_5 : decode cX8_thinksActs 5 = .ok (.invokestatic 265, 3) := by decide +kernel
theorem dX8_thinksActs_8 : decode cX8_thinksActs 8 = .ok (.ifCond .eq 17, 3) := by decide +kernel
theorem dX8_thinksActs_11 : decode cX8_thinksActs 11 = .ok (.aload_n 0, 1) := by decide +kernel
theorem dX8_thinksActs_12 : decode cX8_thinksActs 12 = .ok (.bipush 11, 2) := by decide +kernel
theorem dX8_thinksActs_14 : decode cX8_thinksActs 14 = .ok (.invokevirtual 256, 3) := by decide +kernel
theorem dX8_thinksActs_17 : decode cX8_thinksActs 17 = .ok (.aload_n 0, 1) := by decide +kernel
theorem dX8_thinksActs_18 : decode cX8_thinksActs 18 = .ok (.iload_n 1, 1) := by decide +kernel
theorem dX8_thinksActs_19 : decode cX8_thinksActs 19 = .ok (.iconst 3, 1) := by decide +kernel
theorem dX8_thinksActs_20 : decode cX8_thinksActs 20 = .ok (.imul, 1) := by decide +kernel
theorem dX8_thinksActs_21 : decode cX8_thinksActs 21 = .ok (.invokevirtual 269, 3) := by decide +kernel
theorem dX8_thinksActs_24 : decode cX8_thinksActs 24 = .ok (.ireturn, 1) := by decide +kernel
theorem dX8_thinksActs_25 : decode cX8_thinksActs 25 = .ok (.aload_n 0, 1) := by decide +kernel
theorem dX8_thinksActs_26 : decode cX8_thinksActs 26 = .ok (.getfield 262, 3) := by decide +kernel
theorem dX8_thinksActs_29 : decode cX8_thinksActs 29 = .ok (.iconst 5, 1) := by decide +kernel
theorem dX8_thinksActs_30 : decode cX8_thinksActs 30 = .ok (.if_icmp .ne 20, 3) := by decide +kernel
theorem dX8_thinksActs_33 : decode cX8_thinksActs 33 = .ok (.aload_n 0, 1) := by decide +kernel
theorem dX8_thinksActs_34 : decode cX8_thinksActs 34 = .ok (.bipush 51, 2) := by decide +kernel
theorem dX8_thinksActs_36 : decode cX8_thinksActs 36 = .ok (.invokevirtual 256, 3) := by decide +kernel
theorem dX8_thinksActs_39 : decode cX8_thinksActs 39 = .ok (.aload_n 0, 1) := by decide +kernel
theorem dX8_thinksActs_40 : decode cX8_thinksActs 40 = .ok (.iload_n 1, 1) := by decide +kernel
theorem dX8_thinksActs_41 : decode cX8_thinksActs 41 = .ok (.invokevirtual 269, 3) := by decide +kernel
theorem dX8_thinksActs_44 : decode cX8_thinksActs 44 = .ok (.aload_n 0, 1) := by decide +kernel
theorem dX8_thinksActs_45 : decode cX8_thinksActs 45 = .ok (.getfield 259, 3) := by decide +kernel
theorem dX8_thinksActs_48 : decode cX8_thinksActs 48 = .ok (.ixor, 1) := by decide +kernel
theorem dX8_thinksActs_49 : decode cX8_thinksActs 49 = .ok (.ireturn, 1) := by decide +kernel
theorem dX8_thinksActs_50 : decode cX8_thinksActs 50 = .ok (.aload_n 0, 1) := by decide +kernel
theorem dX8_thinksActs_51 : decode cX8_thinksActs 51 = .ok (.iload_n 1, 1) := by decide +kernel
theorem dX8_thinksActs_52 : decode cX8_thinksActs 52 = .ok (.invokevirtual 269, 3) := by decide +kernel
theorem dX8_thinksActs_55 : decode cX8_thinksActs 55 = .ok (.ireturn, 1) := by decide +kernel
set_option maxRecDepth 20000 in
theorem ggX8_plainWrites_X8_ranBody : GoodIn wsX8_plainWrites wsX8_ranBody := goodIn_r _ [6, 7, 8, 22, 23, 24, 25, 26, 27, 28, 29, 30, 31, 32, 33, 34, 35, 36, 37, 38, 39, 40, 41] (by decide +kernel) (by decide +kernel)
set_option maxRecDepth 20000 in
theorem gX8_plainWrites_X8_ranBody : GoodIn wsX8_plainWrites (wsV RX8 256 RX8 yX8_ranBody wsX8_ranBody) := goodIn_app (goodIn_of _ (by decide +kernel)) ggX8_plainWrites_X8_ranBody
set_option maxRecDepth 20000 in
theorem ggX8_plainWrites_X8_thinksActs : GoodIn wsX8_plainWrites wsX8_thinksActs := goodIn_r _ [12, 13, 14, 15, 16, 5, 17, 2, 3, 4, 6, 7, 8, 18, 19, 20, 21, 22, 23, 24, 25, 26, 27, 28, 29, 30, 31, 32, 33, 34, 35, 36, 37, 38, 39, 40, 41] (by decide +kernel) (by decide +kernel)
set_option maxRecDepth 20000 in
theorem gX8_plainWrites_X8_thinksActs : GoodIn wsX8_plainWrites (wsV RX8 272 RX8 yX8_thinksActs wsX8_thinksActs) := goodIn_app (goodIn_of _ (by decide +kernel)) ggX8_plainWrites_X8_thinksActs
theorem dX8_plainWrites_0 : decode cX8_plainWrites 0 = .ok (.aload_n 0, 1) := by decide +kernel
theorem dX8_plainWrites_1 : decode cX8_plainWrites 1 = .ok (.iconst 2, 1) := by decide +kernel
theorem dX8_plainWrites_2 : decode cX8_plainWrites 2 = .ok (.invokevirtual 256, 3) := by decide +kernel
theorem dX8_plainWrites_5 : decode cX8_plainWrites 5 = .ok (.aload_n 0, 1) := by decide +kernel
theorem dX8_plainWrites_6 : decode cX8_plainWrites 6 = .ok (.iload_n 1, 1) := by decide +kernel
theorem dX8_plainWrites_7 : decode cX8_plainWrites 7 = .ok (.invokevirtual 272, 3) := by decide +kernel
theorem dX8_plainWrites_10 : decode cX8_plainWrites 10 = .ok (.aload_n 0, 1) := by decide +kernel
theorem dX8_plainWrites_11 : decode cX8_plainWrites 11 = .ok (.getfield 275, 3) := by decide +kernel
theorem dX8_plainWrites_14 : decode cX8_plainWrites 14 = .ok (.isub, 1) := by decide +kernel
theorem dX8_plainWrites_15 : decode cX8_plainWrites 15 = .ok (.ireturn, 1) := by decide +kernel
set_option maxRecDepth 20000 in
theorem ggX8_writesActs_X8_isUnder : GoodIn wsX8_writesActs wsX8_isUnder := goodIn_r _ [6] (by decide +kernel) (by decide +kernel)
set_option maxRecDepth 20000 in
theorem gX8_writesActs_X8_isUnder : GoodIn wsX8_writesActs (va_wsS RX8 265 yX8_isUnder wsX8_isUnder) := goodIn_app (goodIn_of _ (by decide +kernel)) ggX8_writesActs_X8_isUnder
set_option maxRecDepth 20000 in
theorem ggX8_writesActs_X8_ranBody : GoodIn wsX8_writesActs wsX8_ranBody := goodIn_r _ [10, 11, 12, 26, 27, 28, 29, 30, 31, 32, 33, 34, 35, 36, 37, 38, 39, 40, 41, 42, 43, 44, 45] (by decide +kernel) (by decide +kernel)
set_option maxRecDepth 20000 in
theorem gX8_writesActs_X8_ranBody : GoodIn wsX8_writesActs (wsV RX8 256 RX8 yX8_ranBody wsX8_ranBody) := goodIn_app (goodIn_of _ (by decide +kernel)) ggX8_writesActs_X8_ranBody
set_option maxRecDepth 20000 in
theorem ggX8_writesActs_X8_plainWrites : GoodIn wsX8_writesActs wsX8_plainWrites := goodIn_r _ [16, 2, 7, 8, 9, 5, 10, 11, 12, 17, 18, 19, 20, 1, 21, 3, 4, 6, 22, 23, 24, 25, 26, 27, 28, 29, 30, 31, 32, 33, 34, 35, 36, 37, 38, 39, 40, 41, 42, 43, 44, 45] (by decide +kernel) (by decide +kernel)
set_option maxRecDepth 20000 in
theorem gX8_writesActs_X8_plainWrites : GoodIn wsX8_writesActs (wsV RX8 278 RX8 yX8_plainWrites wsX8_plainWrites) := goodIn_app (goodIn_of _ (by decide +kernel)) ggX8_writesActs_X8_plainWrites
theorem dX8_writesActs_0 : decode cX8_writesActs 0 = .ok (.aload_n 0, 1) := by decide +kernel
theorem dX8_writesActs_1 : decode cX8_writesActs 1 = .ok (.getfield 262, 3) := by decide +kernel
theorem dX8_writesActs_4 : decode cX8_writesActs 4 = .ok (.iconst 2, 1) := by decide +kernel
theorem dX8_writesActs_5 : decode cX8_writesActs 5 = .ok (.invokestatic 265, 3) := by decide +kernel
theorem dX8_writesActs_8 : decode cX8_writesActs 8 = .ok (.ifCond .eq 16, 3) := by decide +kernel
theorem dX8_writesActs_11 : decode cX8_writesActs 11 = .ok (.aload_n 0, 1) := by decide +kernel
theorem dX8_writesActs_12 : decode cX8_writesActs 12 = .ok (.bipush 21, 2) := by decide +kernel
theorem dX8_writesActs_14 : decode cX8_writesActs 14 = .ok (.invokevirtual 256, 3) := by decide +kernel
theorem dX8_writesActs_17 : decode cX8_writesActs 17 = .ok (.aload_n 0, 1) := by decide +kernel
theorem dX8_writesActs_18 : decode cX8_writesActs 18 = .ok (.iload_n 1, 1) := by decide +kernel
theorem dX8_writesActs_19 : decode cX8_writesActs 19 = .ok (.invokevirtual 278, 3) := by decide +kernel
theorem dX8_writesActs_22 : decode cX8_writesActs 22 = .ok (.ineg, 1) := by decide +kernel
theorem dX8_writesActs_23 : decode cX8_writesActs 23 = .ok (.ireturn, 1) := by decide +kernel
theorem dX8_writesActs_24 : decode cX8_writesActs 24 = .ok (.aload_n 0, 1) := by decide +kernel
theorem dX8_writesActs_25 : decode cX8_writesActs 25 = .ok (.getfield 262, 3) := by decide +kernel
theorem dX8_writesActs_28 : decode cX8_writesActs 28 = .ok (.bipush 6, 2) := by decide +kernel
theorem dX8_writesActs_30 : decode cX8_writesActs 30 = .ok (.if_icmp .ne 20, 3) := by decide +kernel
theorem dX8_writesActs_33 : decode cX8_writesActs 33 = .ok (.aload_n 0, 1) := by decide +kernel
theorem dX8_writesActs_34 : decode cX8_writesActs 34 = .ok (.bipush 61, 2) := by decide +kernel
theorem dX8_writesActs_36 : decode cX8_writesActs 36 = .ok (.invokevirtual 256, 3) := by decide +kernel
theorem dX8_writesActs_39 : decode cX8_writesActs 39 = .ok (.aload_n 0, 1) := by decide +kernel
theorem dX8_writesActs_40 : decode cX8_writesActs 40 = .ok (.iload_n 1, 1) := by decide +kernel
theorem dX8_writesActs_41 : decode cX8_writesActs 41 = .ok (.invokevirtual 278, 3) := by decide +kernel
theorem dX8_writesActs_44 : decode cX8_writesActs 44 = .ok (.aload_n 0, 1) := by decide +kernel
theorem dX8_writesActs_45 : decode cX8_writesActs 45 = .ok (.getfield 275, 3) := by decide +kernel
theorem dX8_writesActs_48 : decode cX8_writesActs 48 = .ok (.iadd, 1) := by decide +kernel
theorem dX8_writesActs_49 : decode cX8_writesActs 49 = .ok (.ireturn, 1) := by decide +kernel
theorem dX8_writesActs_50 : decode cX8_writesActs 50 = .ok (.aload_n 0, 1) := by decide +kernel
theorem dX8_writesActs_51 : decode cX8_writesActs 51 = .ok (.iload_n 1, 1) := by decide +kernel
theorem dX8_writesActs_52 : decode cX8_writesActs 52 = .ok (.invokevirtual 278, 3) := by decide +kernel
theorem dX8_writesActs_55 : decode cX8_writesActs 55 = .ok (.ireturn, 1) := by decide +kernel
set_option maxRecDepth 20000 in
theorem ggX8_plainTelling_X8_ranBody : GoodIn wsX8_plainTelling wsX8_ranBody := goodIn_r _ [5, 6, 7, 30, 31, 32, 33, 34, 35, 36, 37, 38, 39, 40, 41, 42, 43, 44, 45, 46, 47, 48, 49] (by decide +kernel) (by decide +kernel)
set_option maxRecDepth 20000 in
theorem gX8_plainTelling_X8_ranBody : GoodIn wsX8_plainTelling (wsV RX8 256 RX8 yX8_ranBody wsX8_ranBody) := goodIn_app (goodIn_of _ (by decide +kernel)) ggX8_plainTelling_X8_ranBody
set_option maxRecDepth 20000 in
theorem ggX8_plainTelling_X8_writesActs : GoodIn wsX8_plainTelling wsX8_writesActs := goodIn_r _ [11, 12, 13, 14, 15, 4, 16, 1, 2, 3, 5, 6, 7, 17, 18, 19, 20, 21, 22, 23, 24, 25, 26, 27, 28, 29, 30, 31, 32, 33, 34, 35, 36, 37, 38, 39, 40, 41, 42, 43, 44, 45, 46, 47, 48, 49] (by decide +kernel) (by decide +kernel)
set_option maxRecDepth 20000 in
theorem gX8_plainTelling_X8_writesActs : GoodIn wsX8_plainTelling (wsV RX8 281 RX8 yX8_writesActs wsX8_writesActs) := goodIn_app (goodIn_of _ (by decide +kernel)) ggX8_plainTelling_X8_writesActs
theorem dX8_plainTelling_0 : decode cX8_plainTelling 0 = .ok (.aload_n 0, 1) := by decide +kernel
theorem dX8_plainTelling_1 : decode cX8_plainTelling 1 = .ok (.iconst 3, 1) := by decide +kernel
theorem dX8_plainTelling_2 : decode cX8_plainTelling 2 = .ok (.invokevirtual 256, 3) := by decide +kernel
theorem dX8_plainTelling_5 : decode cX8_plainTelling 5 = .ok (.aload_n 0, 1) := by decide +kernel
theorem dX8_plainTelling_6 : decode cX8_plainTelling 6 = .ok (.iload_n 1, 1) := by decide +kernel
theorem dX8_plainTelling_7 : decode cX8_plainTelling 7 = .ok (.invokevirtual 281, 3) := by decide +kernel
theorem dX8_plainTelling_10 : decode cX8_plainTelling 10 = .ok (.iconst 2, 1) := by decide +kernel
theorem dX8_plainTelling_11 : decode cX8_plainTelling 11 = .ok (.imul, 1) := by decide +kernel
theorem dX8_plainTelling_12 : decode cX8_plainTelling 12 = .ok (.ireturn, 1) := by decide +kernel
set_option maxRecDepth 20000 in
theorem ggX8_tellsActs_X8_isUnder : GoodIn wsX8_tellsActs wsX8_isUnder := goodIn_r _ [5] (by decide +kernel) (by decide +kernel)
set_option maxRecDepth 20000 in
theorem gX8_tellsActs_X8_isUnder : GoodIn wsX8_tellsActs (va_wsS RX8 265 yX8_isUnder wsX8_isUnder) := goodIn_app (goodIn_of _ (by decide +kernel)) ggX8_tellsActs_X8_isUnder
set_option maxRecDepth 20000 in
theorem ggX8_tellsActs_X8_ranBody : GoodIn wsX8_tellsActs wsX8_ranBody := goodIn_r _ [9, 10, 11, 34, 35, 36, 37, 38, 39, 40, 41, 42, 43, 44, 45, 46, 47, 48, 49, 50, 51, 52, 53] (by decide +kernel) (by decide +kernel)
set_option maxRecDepth 20000 in
theorem gX8_tellsActs_X8_ranBody : GoodIn wsX8_tellsActs (wsV RX8 256 RX8 yX8_ranBody wsX8_ranBody) := goodIn_app (goodIn_of _ (by decide +kernel)) ggX8_tellsActs_X8_ranBody
set_option maxRecDepth 20000 in
theorem ggX8_tellsActs_X8_plainTelling : GoodIn wsX8_tellsActs wsX8_plainTelling := goodIn_r _ [15, 6, 7, 8, 4, 9, 10, 11, 16, 17, 18, 19, 1, 20, 2, 3, 5, 21, 22, 23, 24, 25, 26, 27, 28, 29, 30, 31, 32, 33, 34, 35, 36, 37, 38, 39, 40, 41, 42, 43, 44, 45, 46, 47, 48, 49, 50, 51, 52, 53] (by decide +kernel) (by decide +kernel)
set_option maxRecDepth 20000 in
theorem gX8_tellsActs_X8_plainTelling : GoodIn wsX8_tellsActs (wsV RX8 284 RX8 yX8_plainTelling wsX8_plainTelling) := goodIn_app (goodIn_of _ (by decide +kernel)) ggX8_tellsActs_X8_plainTelling
set_option maxRecDepth 20000 in
theorem ggX8_tellsActs_X8_thinksActs : GoodIn wsX8_tellsActs wsX8_thinksActs := goodIn_r _ [28, 1, 29, 2, 3, 4, 5, 6, 7, 8, 9, 10, 11, 30, 31, 32, 33, 34, 35, 36, 37, 38, 39, 40, 41, 42, 43, 44, 45, 46, 47, 48, 49, 50, 51, 52, 53] (by decide +kernel) (by decide +kernel)
set_option maxRecDepth 20000 in
theorem gX8_tellsActs_X8_thinksActs : GoodIn wsX8_tellsActs (wsV RX8 272 RX8 yX8_thinksActs wsX8_thinksActs) := goodIn_app (goodIn_of _ (by decide +kernel)) ggX8_tellsActs_X8_thinksActs
theorem dX8_tellsActs_0 : decode cX8_tellsActs 0 = .ok (.aload_n 0, 1) := by decide +kernel
theorem dX8_tellsActs_1 : decode cX8_tellsActs 1 = .ok (.getfield 262, 3) := by decide +kernel
theorem dX8_tellsActs_4 : decode cX8_tellsActs 4 = .ok (.iconst 3, 1) := by decide +kernel
theorem dX8_tellsActs_5 : decode cX8_tellsActs 5 = .ok (.invokestatic 265, 3) := by decide +kernel
theorem dX8_tellsActs_8 : decode cX8_tellsActs 8 = .ok (.ifCond .eq 18, 3) := by decide +kernel
theorem dX8_tellsActs_11 : decode cX8_tellsActs 11 = .ok (.aload_n 0, 1) := by decide +kernel
theorem dX8_tellsActs_12 : decode cX8_tellsActs 12 = .ok (.bipush 31, 2) := by decide +kernel
theorem dX8_tellsActs_14 : decode cX8_tellsActs 14 = .ok (.invokevirtual 256, 3) := by decide +kernel
theorem dX8_tellsActs_17 : decode cX8_tellsActs 17 = .ok (.aload_n 0, 1) := by decide +kernel
theorem dX8_tellsActs_18 : decode cX8_tellsActs 18 = .ok (.iload_n 1, 1) := by decide +kernel
theorem dX8_tellsActs_19 : decode cX8_tellsActs 19 = .ok (.invokevirtual 284, 3) := by decide +kernel
theorem dX8_tellsActs_22 : decode cX8_tellsActs 22 = .ok (.bipush 7, 2) := by decide +kernel
theorem dX8_tellsActs_24 : decode cX8_tellsActs 24 = .ok (.ixor, 1) := by decide +kernel
theorem dX8_tellsActs_25 : decode cX8_tellsActs 25 = .ok (.ireturn, 1) := by decide +kernel
theorem dX8_tellsActs_26 : decode cX8_tellsActs 26 = .ok (.aload_n 0, 1) := by decide +kernel
theorem dX8_tellsActs_27 : decode cX8_tellsActs 27 = .ok (.getfield 262, 3) := by decide +kernel
theorem dX8_tellsActs_30 : decode cX8_tellsActs 30 = .ok (.iconst 4, 1) := by decide +kernel
theorem dX8_tellsActs_31 : decode cX8_tellsActs 31 = .ok (.if_icmp .ne 25, 3) := by decide +kernel
theorem dX8_tellsActs_34 : decode cX8_tellsActs 34 = .ok (.aload_n 0, 1) := by decide +kernel
theorem dX8_tellsActs_35 : decode cX8_tellsActs 35 = .ok (.bipush 41, 2) := by decide +kernel
theorem dX8_tellsActs_37 : decode cX8_tellsActs 37 = .ok (.invokevirtual 256, 3) := by decide +kernel
theorem dX8_tellsActs_40 : decode cX8_tellsActs 40 = .ok (.aload_n 0, 1) := by decide +kernel
theorem dX8_tellsActs_41 : decode cX8_tellsActs 41 = .ok (.iload_n 1, 1) := by decide +kernel
theorem dX8_tellsActs_42 : decode cX8_tellsActs 42 = .ok (.iconst 1, 1) := by decide +kernel
theorem dX8_tellsActs_43 : decode cX8_tellsActs 43 = .ok (.isub, 1) := by decide +kernel
theorem dX8_tellsActs_44 : decode cX8_tellsActs 44 = .ok (.invokevirtual 284, 3) := by decide +kernel
theorem dX8_tellsActs_47 : decode cX8_tellsActs 47 = .ok (.istore_n 2, 1) := by decide +kernel
theorem dX8_tellsActs_48 : decode cX8_tellsActs 48 = .ok (.iload_n 2, 1) := by decide +kernel
theorem dX8_tellsActs_49 : decode cX8_tellsActs 49 = .ok (.aload_n 0, 1) := by decide +kernel
theorem dX8_tellsActs_50 : decode cX8_tellsActs 50 = .ok (.iconst 2, 1) := by decide +kernel
theorem dX8_tellsActs_51 : decode cX8_tellsActs 51 = .ok (.invokevirtual 272, 3) := by decide +kernel
theorem dX8_tellsActs_54 : decode cX8_tellsActs 54 = .ok (.iadd, 1) := by decide +kernel
theorem dX8_tellsActs_55 : decode cX8_tellsActs 55 = .ok (.ireturn, 1) := by decide +kernel
theorem dX8_tellsActs_56 : decode cX8_tellsActs 56 = .ok (.aload_n 0, 1) := by decide +kernel
theorem dX8_tellsActs_57 : decode cX8_tellsActs 57 = .ok (.iload_n 1, 1) := by decide +kernel
theorem dX8_tellsActs_58 : decode cX8_tellsActs 58 = .ok (.invokevirtual 284, 3) := by decide +kernel
theorem dX8_tellsActs_61 : decode cX8_tellsActs 61 = .ok (.ireturn, 1) := by decide +kernel
set_option maxRecDepth 20000 in
theorem ggX8_act_X8_isPupil : GoodIn wsX8_act wsX8_isPupil := goodIn_r _ [10, 2, 11, 12, 9, 13, 46, 47, 48, 49, 50, 51, 52, 53, 54, 55, 56, 57, 58, 59, 60, 61, 62, 63, 64, 65] (by decide +kernel) (by decide +kernel)
set_option maxRecDepth 20000 in
theorem gX8_act_X8_isPupil : GoodIn wsX8_act (wsV RX8 165 RX8 yX8_isPupil wsX8_isPupil) := goodIn_app (goodIn_of _ (by decide +kernel)) ggX8_act_X8_isPupil
set_option maxRecDepth 20000 in
theorem ggX8_act_X8_in : GoodIn wsX8_act wsX8_in := goodIn_r _ [13] (by decide +kernel) (by decide +kernel)
set_option maxRecDepth 20000 in
theorem gX8_act_X8_in : GoodIn wsX8_act (va_wsS RX8 38 yX8_in wsX8_in) := goodIn_app (goodIn_of _ (by decide +kernel)) ggX8_act_X8_in
set_option maxRecDepth 20000 in
theorem ggX8_act_X8_thinksActs : GoodIn wsX8_act wsX8_thinksActs := goodIn_r _ [17, 3, 4, 18, 19, 9, 20, 21, 22, 23, 24, 1, 25, 26, 27, 28, 29, 46, 47, 48, 49, 50, 51, 52, 53, 54, 55, 56, 57, 58, 59, 60, 61, 62, 63, 64, 65] (by decide +kernel) (by decide +kernel)
set_option maxRecDepth 20000 in
theorem gX8_act_X8_thinksActs : GoodIn wsX8_act (wsV RX8 272 RX8 yX8_thinksActs wsX8_thinksActs) := goodIn_app (goodIn_of _ (by decide +kernel)) ggX8_act_X8_thinksActs
set_option maxRecDepth 20000 in
theorem ggX8_act_X8_writesActs : GoodIn wsX8_act wsX8_writesActs := goodIn_r _ [33, 3, 5, 18, 19, 9, 20, 21, 22, 23, 24, 1, 25, 34, 35, 36, 37, 14, 15, 16, 17, 4, 26, 27, 28, 29, 46, 47, 48, 49, 50, 51, 52, 53, 54, 55, 56, 57, 58, 59, 60, 61, 62, 63, 64, 65] (by decide +kernel) (by decide +kernel)
set_option maxRecDepth 20000 in
theorem gX8_act_X8_writesActs : GoodIn wsX8_act (wsV RX8 281 RX8 yX8_writesActs wsX8_writesActs) := goodIn_app (goodIn_of _ (by decide +kernel)) ggX8_act_X8_writesActs
set_option maxRecDepth 20000 in
theorem ggX8_act_X8_tellsActs : GoodIn wsX8_act wsX8_tellsActs := goodIn_r _ [41, 3, 18, 19, 9, 20, 21, 22, 23, 24, 1, 25, 42, 43, 44, 45, 30, 31, 32, 33, 5, 34, 35, 36, 37, 14, 15, 16, 17, 4, 26, 27, 28, 29, 46, 47, 48, 49, 50, 51, 52, 53, 54, 55, 56, 57, 58, 59, 60, 61, 62, 63, 64, 65] (by decide +kernel) (by decide +kernel)
set_option maxRecDepth 20000 in
theorem gX8_act_X8_tellsActs : GoodIn wsX8_act (wsV RX8 287 RX8 yX8_tellsActs wsX8_tellsActs) := goodIn_app (goodIn_of _ (by decide +kernel)) ggX8_act_X8_tellsActs
theorem dX8_act_0 : decode cX8_act 0 = .ok (.aload_n 0, 1) := by decide +kernel
theorem dX8_act_1 : decode cX8_act 1 = .ok (.iconst 0, 1) := by decide +kernel
theorem dX8_act_2 : decode cX8_act 2 = .ok (.putfield 253, 3) := by decide +kernel
theorem dX8_act_5 : decode cX8_act 5 = .ok (.aload_n 0, 1) := by decide +kernel
theorem dX8_act_6 : decode cX8_act 6 = .ok (.iload_n 1, 1) := by decide +kernel
theorem dX8_act_7 : decode cX8_act 7 = .ok (.invokevirtual 165, 3) := by decide +kernel
theorem dX8_act_10 : decode cX8_act 10 = .ok (.ifCond .eq 12, 3) := by decide +kernel
theorem dX8_act_13 : decode cX8_act 13 = .ok (.iload_n 2, 1) := by decide +kernel
theorem dX8_act_14 : decode cX8_act 14 = .ok (.iconst 0, 1) := by decide +kernel
theorem dX8_act_15 : decode cX8_act 15 = .ok (.iconst 2, 1) := by decide +kernel
theorem dX8_act_16 : decode cX8_act 16 = .ok (.invokestatic 38, 3) := by decide +kernel
theorem dX8_act_19 : decode cX8_act 19 = .ok (.ifCond .ne 5, 3) := by decide +kernel
theorem dX8_act_22 : decode cX8_act 22 = .ok (.iconst 0, 1) := by decide +kernel
theorem dX8_act_23 : decode cX8_act 23 = .ok (.ireturn, 1) := by decide +kernel
theorem dX8_act_24 : decode cX8_act 24 = .ok (.aload_n 0, 1) := by decide +kernel
theorem dX8_act_25 : decode cX8_act 25 = .ok (.aload_n 0, 1) := by decide +kernel
theorem dX8_act_26 : decode cX8_act 26 = .ok (.getfield 9, 3) := by decide +kernel
theorem dX8_act_29 : decode cX8_act 29 = .ok (.bipush 27, 2) := by decide +kernel
theorem dX8_act_31 : decode cX8_act 31 = .ok (.iload_n 1, 1) := by decide +kernel
theorem dX8_act_32 : decode cX8_act 32 = .ok (.iadd, 1) := by decide +kernel
theorem dX8_act_33 : decode cX8_act 33 = .ok (.iaload, 1) := by decide +kernel
theorem dX8_act_34 : decode cX8_act 34 = .ok (.putfield 262, 3) := by decide +kernel
theorem dX8_act_37 : decode cX8_act 37 = .ok (.aload_n 0, 1) := by decide +kernel
theorem dX8_act_38 : decode cX8_act 38 = .ok (.iload_n 1, 1) := by decide +kernel
theorem dX8_act_39 : decode cX8_act 39 = .ok (.putfield 259, 3) := by decide +kernel
theorem dX8_act_42 : decode cX8_act 42 = .ok (.aload_n 0, 1) := by decide +kernel
theorem dX8_act_43 : decode cX8_act 43 = .ok (.aload_n 0, 1) := by decide +kernel
theorem dX8_act_44 : decode cX8_act 44 = .ok (.getfield 9, 3) := by decide +kernel
theorem dX8_act_47 : decode cX8_act 47 = .ok (.bipush 33, 2) := by decide +kernel
theorem dX8_act_49 : decode cX8_act 49 = .ok (.iload_n 1, 1) := by decide +kernel
theorem dX8_act_50 : decode cX8_act 50 = .ok (.iadd, 1) := by decide +kernel
theorem dX8_act_51 : decode cX8_act 51 = .ok (.iaload, 1) := by decide +kernel
theorem dX8_act_52 : decode cX8_act 52 = .ok (.putfield 275, 3) := by decide +kernel
theorem dX8_act_55 : decode cX8_act 55 = .ok (.iload_n 2, 1) := by decide +kernel
theorem dX8_act_56 : decode cX8_act 56 = .ok (.ifCond .ne 11, 3) := by decide +kernel
theorem dX8_act_59 : decode cX8_act 59 = .ok (.aload_n 0, 1) := by decide +kernel
theorem dX8_act_60 : decode cX8_act 60 = .ok (.iload_n 3, 1) := by decide +kernel
theorem dX8_act_61 : decode cX8_act 61 = .ok (.invokevirtual 272, 3) := by decide +kernel
theorem dX8_act_64 : decode cX8_act 64 = .ok (.goto 21, 3) := by decide +kernel
theorem dX8_act_67 : decode cX8_act 67 = .ok (.iload_n 2, 1) := by decide +kernel
theorem dX8_act_68 : decode cX8_act 68 = .ok (.iconst 1, 1) := by decide +kernel
theorem dX8_act_69 : decode cX8_act 69 = .ok (.if_icmp .ne 11, 3) := by decide +kernel
theorem dX8_act_72 : decode cX8_act 72 = .ok (.aload_n 0, 1) := by decide +kernel
theorem dX8_act_73 : decode cX8_act 73 = .ok (.iload_n 3, 1) := by decide +kernel
theorem dX8_act_74 : decode cX8_act 74 = .ok (.invokevirtual 281, 3) := by decide +kernel
theorem dX8_act_77 : decode cX8_act 77 = .ok (.goto 8, 3) := by decide +kernel
theorem dX8_act_80 : decode cX8_act 80 = .ok (.aload_n 0, 1) := by decide +kernel
theorem dX8_act_81 : decode cX8_act 81 = .ok (.iload_n 3, 1) := by decide +kernel
theorem dX8_act_82 : decode cX8_act 82 = .ok (.invokevirtual 287, 3) := by decide +kernel
theorem dX8_act_85 : decode cX8_act 85 = .ok (.ireturn, 1) := by decide +kernel
set_option maxRecDepth 20000 in
theorem ggX8_trace_X8_in : GoodIn wsX8_trace wsX8_in := goodIn_r _ [6] (by decide +kernel) (by decide +kernel)
set_option maxRecDepth 20000 in
theorem gX8_trace_X8_in : GoodIn wsX8_trace (va_wsS RX8 38 yX8_in wsX8_in) := goodIn_app (goodIn_of _ (by decide +kernel)) ggX8_trace_X8_in
theorem dX8_trace_0 : decode cX8_trace 0 = .ok (.iload_n 1, 1) := by decide +kernel
theorem dX8_trace_1 : decode cX8_trace 1 = .ok (.iconst 0, 1) := by decide +kernel
theorem dX8_trace_2 : decode cX8_trace 2 = .ok (.aload_n 0, 1) := by decide +kernel
theorem dX8_trace_3 : decode cX8_trace 3 = .ok (.getfield 253, 3) := by decide +kernel
theorem dX8_trace_6 : decode cX8_trace 6 = .ok (.bipush 20, 2) := by decide +kernel
theorem dX8_trace_8 : decode cX8_trace 8 = .ok (.if_icmp .ge 10, 3) := by decide +kernel
theorem dX8_trace_11 : decode cX8_trace 11 = .ok (.aload_n 0, 1) := by decide +kernel
theorem dX8_trace_12 : decode cX8_trace 12 = .ok (.getfield 253, 3) := by decide +kernel
theorem dX8_trace_15 : decode cX8_trace 15 = .ok (.goto 5, 3) := by decide +kernel
theorem dX8_trace_18 : decode cX8_trace 18 = .ok (.bipush 20, 2) := by decide +kernel
theorem dX8_trace_20 : decode cX8_trace 20 = .ok (.iconst 1, 1) := by decide +kernel
theorem dX8_trace_21 : decode cX8_trace 21 = .ok (.isub, 1) := by decide +kernel
theorem dX8_trace_22 : decode cX8_trace 22 = .ok (.invokestatic 38, 3) := by decide +kernel
theorem dX8_trace_25 : decode cX8_trace 25 = .ok (.ifCond .eq 12, 3) := by decide +kernel
theorem dX8_trace_28 : decode cX8_trace 28 = .ok (.aload_n 0, 1) := by decide +kernel
theorem dX8_trace_29 : decode cX8_trace 29 = .ok (.getfield 31, 3) := by decide +kernel
theorem dX8_trace_32 : decode cX8_trace 32 = .ok (.iload_n 1, 1) := by decide +kernel
theorem dX8_trace_33 : decode cX8_trace 33 = .ok (.iaload, 1) := by decide +kernel
theorem dX8_trace_34 : decode cX8_trace 34 = .ok (.goto 4, 3) := by decide +kernel
theorem dX8_trace_37 : decode cX8_trace 37 = .ok (.iconst (-1), 1) := by decide +kernel
theorem dX8_trace_38 : decode cX8_trace 38 = .ok (.ireturn, 1) := by decide +kernel
set_option maxRecDepth 20000 in
theorem ggX8_as_X8_isPupil : GoodIn wsX8_as wsX8_isPupil := goodIn_r _ [6, 1, 7, 8, 5, 9, 13, 14, 15, 16, 17, 18, 19, 20, 21, 22, 23, 24, 25, 26, 27, 28, 29, 30, 31, 32] (by decide +kernel) (by decide +kernel)
set_option maxRecDepth 20000 in
theorem gX8_as_X8_isPupil : GoodIn wsX8_as (wsV RX8 165 RX8 yX8_isPupil wsX8_isPupil) := goodIn_app (goodIn_of _ (by decide +kernel)) ggX8_as_X8_isPupil
set_option maxRecDepth 20000 in
theorem ggX8_as_X8_in : GoodIn wsX8_as wsX8_in := goodIn_r _ [9] (by decide +kernel) (by decide +kernel)
set_option maxRecDepth 20000 in
theorem gX8_as_X8_in : GoodIn wsX8_as (va_wsS RX8 38 yX8_in wsX8_in) := goodIn_app (goodIn_of _ (by decide +kernel)) ggX8_as_X8_in
set_option maxRecDepth 20000 in
theorem ggX8_as_X8_isUnder : GoodIn wsX8_as wsX8_isUnder := goodIn_r _ [12] (by decide +kernel) (by decide +kernel)
set_option maxRecDepth 20000 in
theorem gX8_as_X8_isUnder : GoodIn wsX8_as (va_wsS RX8 265 yX8_isUnder wsX8_isUnder) := goodIn_app (goodIn_of _ (by decide +kernel)) ggX8_as_X8_isUnder
theorem dX8_as_0 : decode cX8_as 0 = .ok (.aload_n 0, 1) := by decide +kernel
theorem dX8_as_1 : decode cX8_as 1 = .ok (.iload_n 1, 1) := by decide +kernel
theorem dX8_as_2 : decode cX8_as 2 = .ok (.invokevirtual 165, 3) := by decide +kernel
theorem dX8_as_5 : decode cX8_as 5 = .ok (.ifCond .eq 13, 3) := by decide +kernel
theorem dX8_as_8 : decode cX8_as 8 = .ok (.iload_n 2, 1) := by decide +kernel
theorem dX8_as_9 : decode cX8_as 9 = .ok (.iconst 0, 1) := by decide +kernel
theorem dX8_as_10 : decode cX8_as 10 = .ok (.bipush 6, 2) := by decide +kernel
theorem dX8_as_12 : decode cX8_as 12 = .ok (.invokestatic 38, 3) := by decide +kernel
theorem dX8_as_15 : decode cX8_as 15 = .ok (.ifCond .ne 5, 3) := by decide +kernel
theorem dX8_as_18 : decode cX8_as 18 = .ok (.iconst (-1), 1) := by decide +kernel
theorem dX8_as_19 : decode cX8_as 19 = .ok (.ireturn, 1) := by decide +kernel
theorem dX8_as_20 : decode cX8_as 20 = .ok (.aload_n 0, 1) := by decide +kernel
theorem dX8_as_21 : decode cX8_as 21 = .ok (.getfield 9, 3) := by decide +kernel
theorem dX8_as_24 : decode cX8_as 24 = .ok (.bipush 27, 2) := by decide +kernel
theorem dX8_as_26 : decode cX8_as 26 = .ok (.iload_n 1, 1) := by decide +kernel
theorem dX8_as_27 : decode cX8_as 27 = .ok (.iadd, 1) := by decide +kernel
theorem dX8_as_28 : decode cX8_as 28 = .ok (.iaload, 1) := by decide +kernel
theorem dX8_as_29 : decode cX8_as 29 = .ok (.iload_n 2, 1) := by decide +kernel
theorem dX8_as_30 : decode cX8_as 30 = .ok (.invokestatic 265, 3) := by decide +kernel
theorem dX8_as_33 : decode cX8_as 33 = .ok (.ifCond .eq 15, 3) := by decide +kernel
theorem dX8_as_36 : decode cX8_as 36 = .ok (.aload_n 0, 1) := by decide +kernel
theorem dX8_as_37 : decode cX8_as 37 = .ok (.getfield 9, 3) := by decide +kernel
theorem dX8_as_40 : decode cX8_as 40 = .ok (.bipush 33, 2) := by decide +kernel
theorem dX8_as_42 : decode cX8_as 42 = .ok (.iload_n 1, 1) := by decide +kernel
theorem dX8_as_43 : decode cX8_as 43 = .ok (.iadd, 1) := by decide +kernel
theorem dX8_as_44 : decode cX8_as 44 = .ok (.iaload, 1) := by decide +kernel
theorem dX8_as_45 : decode cX8_as 45 = .ok (.goto 5, 3) := by decide +kernel
theorem dX8_as_48 : decode cX8_as 48 = .ok (.bipush (-6), 2) := by decide +kernel
theorem dX8_as_50 : decode cX8_as 50 = .ok (.ireturn, 1) := by decide +kernel
theorem dX8_image_0 : decode cX8_image 0 = .ok (.iconst 0, 1) := by decide +kernel
theorem dX8_image_1 : decode cX8_image 1 = .ok (.istore_n 1, 1) := by decide +kernel
theorem dX8_image_2 : decode cX8_image 2 = .ok (.iload_n 1, 1) := by decide +kernel
theorem dX8_image_3 : decode cX8_image 3 = .ok (.sipush 926, 3) := by decide +kernel
theorem dX8_image_6 : decode cX8_image 6 = .ok (.if_icmp .ge 21, 3) := by decide +kernel
theorem dX8_image_9 : decode cX8_image 9 = .ok (.aload_n 0, 1) := by decide +kernel
theorem dX8_image_10 : decode cX8_image 10 = .ok (.getfield 15, 3) := by decide +kernel
theorem dX8_image_13 : decode cX8_image 13 = .ok (.iload_n 1, 1) := by decide +kernel
theorem dX8_image_14 : decode cX8_image 14 = .ok (.aload_n 0, 1) := by decide +kernel
theorem dX8_image_15 : decode cX8_image 15 = .ok (.getfield 9, 3) := by decide +kernel
theorem dX8_image_18 : decode cX8_image 18 = .ok (.iload_n 1, 1) := by decide +kernel
theorem dX8_image_19 : decode cX8_image 19 = .ok (.iaload, 1) := by decide +kernel
theorem dX8_image_20 : decode cX8_image 20 = .ok (.iastore, 1) := by decide +kernel
theorem dX8_image_21 : decode cX8_image 21 = .ok (.iinc 1 1, 3) := by decide +kernel
theorem dX8_image_24 : decode cX8_image 24 = .ok (.goto (-22), 3) := by decide +kernel
theorem dX8_image_27 : decode cX8_image 27 = .ok (.aload_n 0, 1) := by decide +kernel
theorem dX8_image_28 : decode cX8_image 28 = .ok (.iconst 1, 1) := by decide +kernel
theorem dX8_image_29 : decode cX8_image 29 = .ok (.putfield 290, 3) := by decide +kernel
theorem dX8_image_32 : decode cX8_image 32 = .ok (.aload_n 0, 1) := by decide +kernel
theorem dX8_image_33 : decode cX8_image 33 = .ok (.getfield 9, 3) := by decide +kernel
theorem dX8_image_36 : decode cX8_image 36 = .ok (.bipush 20, 2) := by decide +kernel
theorem dX8_image_38 : decode cX8_image 38 = .ok (.iaload, 1) := by decide +kernel
theorem dX8_image_39 : decode cX8_image 39 = .ok (.ireturn, 1) := by decide +kernel
theorem dX8_undo_0 : decode cX8_undo 0 = .ok (.aload_n 0, 1) := by decide +kernel
theorem dX8_undo_1 : decode cX8_undo 1 = .ok (.getfield 290, 3) := by decide +kernel
theorem dX8_undo_4 : decode cX8_undo 4 = .ok (.ifCond .ne 6, 3) := by decide +kernel
theorem dX8_undo_7 : decode cX8_undo 7 = .ok (.bipush (-3), 2) := by decide +kernel
theorem dX8_undo_9 : decode cX8_undo 9 = .ok (.ireturn, 1) := by decide +kernel
theorem dX8_undo_10 : decode cX8_undo 10 = .ok (.iconst 0, 1) := by decide +kernel
theorem dX8_undo_11 : decode cX8_undo 11 = .ok (.istore_n 1, 1) := by decide +kernel
theorem dX8_undo_12 : decode cX8_undo 12 = .ok (.iload_n 1, 1) := by decide +kernel
theorem dX8_undo_13 : decode cX8_undo 13 = .ok (.sipush 926, 3) := by decide +kernel
theorem dX8_undo_16 : decode cX8_undo 16 = .ok (.if_icmp .ge 21, 3) := by decide +kernel
theorem dX8_undo_19 : decode cX8_undo 19 = .ok (.aload_n 0, 1) := by decide +kernel
theorem dX8_undo_20 : decode cX8_undo 20 = .ok (.getfield 9, 3) := by decide +kernel
theorem dX8_undo_23 : decode cX8_undo 23 = .ok (.iload_n 1, 1) := by decide +kernel
theorem dX8_undo_24 : decode cX8_undo 24 = .ok (.aload_n 0, 1) := by decide +kernel
theorem dX8_undo_25 : decode cX8_undo 25 = .ok (.getfield 15, 3) := by decide +kernel
theorem dX8_undo_28 : decode cX8_undo 28 = .ok (.iload_n 1, 1) := by decide +kernel
theorem dX8_undo_29 : decode cX8_undo 29 = .ok (.iaload, 1) := by decide +kernel
theorem dX8_undo_30 : decode cX8_undo 30 = .ok (.iastore, 1) := by decide +kernel
theorem dX8_undo_31 : decode cX8_undo 31 = .ok (.iinc 1 1, 3) := by decide +kernel
theorem dX8_undo_34 : decode cX8_undo 34 = .ok (.goto (-22), 3) := by decide +kernel
theorem dX8_undo_37 : decode cX8_undo 37 = .ok (.aload_n 0, 1) := by decide +kernel
theorem dX8_undo_38 : decode cX8_undo 38 = .ok (.getfield 9, 3) := by decide +kernel
theorem dX8_undo_41 : decode cX8_undo 41 = .ok (.bipush 20, 2) := by decide +kernel
theorem dX8_undo_43 : decode cX8_undo 43 = .ok (.iaload, 1) := by decide +kernel
theorem dX8_undo_44 : decode cX8_undo 44 = .ok (.ireturn, 1) := by decide +kernel
set_option maxRecDepth 20000 in
theorem ggX8_count_X8_in : GoodIn wsX8_count wsX8_in := goodIn_r _ [6] (by decide +kernel) (by decide +kernel)
set_option maxRecDepth 20000 in
theorem gX8_count_X8_in : GoodIn wsX8_count (va_wsS RX8 38 yX8_in wsX8_in) := goodIn_app (goodIn_of _ (by decide +kernel)) ggX8_count_X8_in
theorem dX8_count_0 : decode cX8_count 0 = .ok (.iload_n 1, 1) := by decide +kernel
theorem dX8_count_1 : decode cX8_count 1 = .ok (.bipush 6, 2) := by decide +kernel
theorem dX8_count_3 : decode cX8_count 3 = .ok (.if_icmp .ne 10, 3) := by decide +kernel
theorem dX8_count_6 : decode cX8_count 6 = .ok (.aload_n 0, 1) := by decide +kernel
theorem dX8_count_7 : decode cX8_count 7 = .ok (.getfield 253, 3) := by decide +kernel
theorem dX8_count_10 : decode cX8_count 10 = .ok (.goto 25, 3) := by decide +kernel
theorem dX8_count_13 : decode cX8_count 13 = .ok (.iload_n 1, 1) := by decide +kernel
theorem dX8_count_14 : decode cX8_count 14 = .ok (.iconst 0, 1) := by decide +kernel
theorem dX8_count_15 : decode cX8_count 15 = .ok (.iconst 5, 1) := by decide +kernel
theorem dX8_count_16 : decode cX8_count 16 = .ok (.invokestatic 38, 3) := by decide +kernel
theorem dX8_count_19 : decode cX8_count 19 = .ok (.ifCond .eq 15, 3) := by decide +kernel
theorem dX8_count_22 : decode cX8_count 22 = .ok (.aload_n 0, 1) := by decide +kernel
theorem dX8_count_23 : decode cX8_count 23 = .ok (.getfield 9, 3) := by decide +kernel
theorem dX8_count_26 : decode cX8_count 26 = .ok (.bipush 20, 2) := by decide +kernel
theorem dX8_count_28 : decode cX8_count 28 = .ok (.iload_n 1, 1) := by decide +kernel
theorem dX8_count_29 : decode cX8_count 29 = .ok (.iadd, 1) := by decide +kernel
theorem dX8_count_30 : decode cX8_count 30 = .ok (.iaload, 1) := by decide +kernel
theorem dX8_count_31 : decode cX8_count 31 = .ok (.goto 4, 3) := by decide +kernel
theorem dX8_count_34 : decode cX8_count 34 = .ok (.iconst (-1), 1) := by decide +kernel
theorem dX8_count_35 : decode cX8_count 35 = .ok (.ireturn, 1) := by decide +kernel
theorem dJ11_isValidCodePoint_9a6ad_0 : decode cJ11_isValidCodePoint_9a6ad 0 = .ok (.iload_n 0, 1) := by decide +kernel
theorem dJ11_isValidCodePoint_9a6ad_1 : decode cJ11_isValidCodePoint_9a6ad 1 = .ok (.bipush 16, 2) := by decide +kernel
theorem dJ11_isValidCodePoint_9a6ad_3 : decode cJ11_isValidCodePoint_9a6ad 3 = .ok (.iushr, 1) := by decide +kernel
theorem dJ11_isValidCodePoint_9a6ad_4 : decode cJ11_isValidCodePoint_9a6ad 4 = .ok (.istore_n 1, 1) := by decide +kernel
theorem dJ11_isValidCodePoint_9a6ad_5 : decode cJ11_isValidCodePoint_9a6ad 5 = .ok (.iload_n 1, 1) := by decide +kernel
theorem dJ11_isValidCodePoint_9a6ad_6 : decode cJ11_isValidCodePoint_9a6ad 6 = .ok (.bipush 17, 2) := by decide +kernel
theorem dJ11_isValidCodePoint_9a6ad_8 : decode cJ11_isValidCodePoint_9a6ad 8 = .ok (.if_icmp .ge 7, 3) := by decide +kernel
theorem dJ11_isValidCodePoint_9a6ad_11 : decode cJ11_isValidCodePoint_9a6ad 11 = .ok (.iconst 1, 1) := by decide +kernel
theorem dJ11_isValidCodePoint_9a6ad_12 : decode cJ11_isValidCodePoint_9a6ad 12 = .ok (.goto 4, 3) := by decide +kernel
theorem dJ11_isValidCodePoint_9a6ad_15 : decode cJ11_isValidCodePoint_9a6ad 15 = .ok (.iconst 0, 1) := by decide +kernel
theorem dJ11_isValidCodePoint_9a6ad_16 : decode cJ11_isValidCodePoint_9a6ad 16 = .ok (.ireturn, 1) := by decide +kernel
theorem dJ11_highSurrogate_5068e_0 : decode cJ11_highSurrogate_5068e 0 = .ok (.iload_n 0, 1) := by decide +kernel
theorem dJ11_highSurrogate_5068e_1 : decode cJ11_highSurrogate_5068e 1 = .ok (.bipush 10, 2) := by decide +kernel
theorem dJ11_highSurrogate_5068e_3 : decode cJ11_highSurrogate_5068e 3 = .ok (.iushr, 1) := by decide +kernel
theorem dJ11_highSurrogate_5068e_4 : decode cJ11_highSurrogate_5068e 4 = .ok (.ldc 110, 2) := by decide +kernel
theorem dJ11_highSurrogate_5068e_6 : decode cJ11_highSurrogate_5068e 6 = .ok (.iadd, 1) := by decide +kernel
theorem dJ11_highSurrogate_5068e_7 : decode cJ11_highSurrogate_5068e 7 = .ok (.i2c, 1) := by decide +kernel
theorem dJ11_highSurrogate_5068e_8 : decode cJ11_highSurrogate_5068e 8 = .ok (.ireturn, 1) := by decide +kernel
theorem dJ11_lowSurrogate_5068e_0 : decode cJ11_lowSurrogate_5068e 0 = .ok (.iload_n 0, 1) := by decide +kernel
theorem dJ11_lowSurrogate_5068e_1 : decode cJ11_lowSurrogate_5068e 1 = .ok (.sipush 1023, 3) := by decide +kernel
theorem dJ11_lowSurrogate_5068e_4 : decode cJ11_lowSurrogate_5068e 4 = .ok (.iand, 1) := by decide +kernel
theorem dJ11_lowSurrogate_5068e_5 : decode cJ11_lowSurrogate_5068e 5 = .ok (.ldc 76, 2) := by decide +kernel
theorem dJ11_lowSurrogate_5068e_7 : decode cJ11_lowSurrogate_5068e 7 = .ok (.iadd, 1) := by decide +kernel
theorem dJ11_lowSurrogate_5068e_8 : decode cJ11_lowSurrogate_5068e 8 = .ok (.i2c, 1) := by decide +kernel
theorem dJ11_lowSurrogate_5068e_9 : decode cJ11_lowSurrogate_5068e 9 = .ok (.ireturn, 1) := by decide +kernel
theorem dJ6_bitCount_0f7a4_0 : decode cJ6_bitCount_0f7a4 0 = .ok (.iload_n 0, 1) := by decide +kernel
theorem dJ6_bitCount_0f7a4_1 : decode cJ6_bitCount_0f7a4 1 = .ok (.iload_n 0, 1) := by decide +kernel
theorem dJ6_bitCount_0f7a4_2 : decode cJ6_bitCount_0f7a4 2 = .ok (.iconst 1, 1) := by decide +kernel
theorem dJ6_bitCount_0f7a4_3 : decode cJ6_bitCount_0f7a4 3 = .ok (.iushr, 1) := by decide +kernel
theorem dJ6_bitCount_0f7a4_4 : decode cJ6_bitCount_0f7a4 4 = .ok (.ldc_w 265, 3) := by decide +kernel
theorem dJ6_bitCount_0f7a4_7 : decode cJ6_bitCount_0f7a4 7 = .ok (.iand, 1) := by decide +kernel
theorem dJ6_bitCount_0f7a4_8 : decode cJ6_bitCount_0f7a4 8 = .ok (.isub, 1) := by decide +kernel
theorem dJ6_bitCount_0f7a4_9 : decode cJ6_bitCount_0f7a4 9 = .ok (.istore_n 0, 1) := by decide +kernel
theorem dJ6_bitCount_0f7a4_10 : decode cJ6_bitCount_0f7a4 10 = .ok (.iload_n 0, 1) := by decide +kernel
theorem dJ6_bitCount_0f7a4_11 : decode cJ6_bitCount_0f7a4 11 = .ok (.ldc_w 266, 3) := by decide +kernel
theorem dJ6_bitCount_0f7a4_14 : decode cJ6_bitCount_0f7a4 14 = .ok (.iand, 1) := by decide +kernel
theorem dJ6_bitCount_0f7a4_15 : decode cJ6_bitCount_0f7a4 15 = .ok (.iload_n 0, 1) := by decide +kernel
theorem dJ6_bitCount_0f7a4_16 : decode cJ6_bitCount_0f7a4 16 = .ok (.iconst 2, 1) := by decide +kernel
theorem dJ6_bitCount_0f7a4_17 : decode cJ6_bitCount_0f7a4 17 = .ok (.iushr, 1) := by decide +kernel
theorem dJ6_bitCount_0f7a4_18 : decode cJ6_bitCount_0f7a4 18 = .ok (.ldc_w 266, 3) := by decide +kernel
theorem dJ6_bitCount_0f7a4_21 : decode cJ6_bitCount_0f7a4 21 = .ok (.iand, 1) := by decide +kernel
theorem dJ6_bitCount_0f7a4_22 : decode cJ6_bitCount_0f7a4 22 = .ok (.iadd, 1) := by decide +kernel
theorem dJ6_bitCount_0f7a4_23 : decode cJ6_bitCount_0f7a4 23 = .ok (.istore_n 0, 1) := by decide +kernel
theorem dJ6_bitCount_0f7a4_24 : decode cJ6_bitCount_0f7a4 24 = .ok (.iload_n 0, 1) := by decide +kernel
theorem dJ6_bitCount_0f7a4_25 : decode cJ6_bitCount_0f7a4 25 = .ok (.iload_n 0, 1) := by decide +kernel
theorem dJ6_bitCount_0f7a4_26 : decode cJ6_bitCount_0f7a4 26 = .ok (.iconst 4, 1) := by decide +kernel
theorem dJ6_bitCount_0f7a4_27 : decode cJ6_bitCount_0f7a4 27 = .ok (.iushr, 1) := by decide +kernel
theorem dJ6_bitCount_0f7a4_28 : decode cJ6_bitCount_0f7a4 28 = .ok (.iadd, 1) := by decide +kernel
theorem dJ6_bitCount_0f7a4_29 : decode cJ6_bitCount_0f7a4 29 = .ok (.ldc_w 267, 3) := by decide +kernel
theorem dJ6_bitCount_0f7a4_32 : decode cJ6_bitCount_0f7a4 32 = .ok (.iand, 1) := by decide +kernel
theorem dJ6_bitCount_0f7a4_33 : decode cJ6_bitCount_0f7a4 33 = .ok (.istore_n 0, 1) := by decide +kernel
theorem dJ6_bitCount_0f7a4_34 : decode cJ6_bitCount_0f7a4 34 = .ok (.iload_n 0, 1) := by decide +kernel
theorem dJ6_bitCount_0f7a4_35 : decode cJ6_bitCount_0f7a4 35 = .ok (.iload_n 0, 1) := by decide +kernel
theorem dJ6_bitCount_0f7a4_36 : decode cJ6_bitCount_0f7a4 36 = .ok (.bipush 8, 2) := by decide +kernel
theorem dJ6_bitCount_0f7a4_38 : decode cJ6_bitCount_0f7a4 38 = .ok (.iushr, 1) := by decide +kernel
theorem dJ6_bitCount_0f7a4_39 : decode cJ6_bitCount_0f7a4 39 = .ok (.iadd, 1) := by decide +kernel
theorem dJ6_bitCount_0f7a4_40 : decode cJ6_bitCount_0f7a4 40 = .ok (.istore_n 0, 1) := by decide +kernel
theorem dJ6_bitCount_0f7a4_41 : decode cJ6_bitCount_0f7a4 41 = .ok (.iload_n 0, 1) := by decide +kernel
theorem dJ6_bitCount_0f7a4_42 : decode cJ6_bitCount_0f7a4 42 = .ok (.iload_n 0, 1) := by decide +kernel
theorem dJ6_bitCount_0f7a4_43 : decode cJ6_bitCount_0f7a4 43 = .ok (.bipush 16, 2) := by decide +kernel
theorem dJ6_bitCount_0f7a4_45 : decode cJ6_bitCount_0f7a4 45 = .ok (.iushr, 1) := by decide +kernel
theorem dJ6_bitCount_0f7a4_46 : decode cJ6_bitCount_0f7a4 46 = .ok (.iadd, 1) := by decide +kernel
theorem dJ6_bitCount_0f7a4_47 : decode cJ6_bitCount_0f7a4 47 = .ok (.istore_n 0, 1) := by decide +kernel
theorem dJ6_bitCount_0f7a4_48 : decode cJ6_bitCount_0f7a4 48 = .ok (.iload_n 0, 1) := by decide +kernel
theorem dJ6_bitCount_0f7a4_49 : decode cJ6_bitCount_0f7a4 49 = .ok (.bipush 63, 2) := by decide +kernel
theorem dJ6_bitCount_0f7a4_51 : decode cJ6_bitCount_0f7a4 51 = .ok (.iand, 1) := by decide +kernel
theorem dJ6_bitCount_0f7a4_52 : decode cJ6_bitCount_0f7a4 52 = .ok (.ireturn, 1) := by decide +kernel
theorem dJ9_abs_0f7a4_0 : decode cJ9_abs_0f7a4 0 = .ok (.iload_n 0, 1) := by decide +kernel
theorem dJ9_abs_0f7a4_1 : decode cJ9_abs_0f7a4 1 = .ok (.ifCond .ge 8, 3) := by decide +kernel
theorem dJ9_abs_0f7a4_4 : decode cJ9_abs_0f7a4 4 = .ok (.iload_n 0, 1) := by decide +kernel
theorem dJ9_abs_0f7a4_5 : decode cJ9_abs_0f7a4 5 = .ok (.ineg, 1) := by decide +kernel
theorem dJ9_abs_0f7a4_6 : decode cJ9_abs_0f7a4 6 = .ok (.goto 4, 3) := by decide +kernel
theorem dJ9_abs_0f7a4_9 : decode cJ9_abs_0f7a4 9 = .ok (.iload_n 0, 1) := by decide +kernel
theorem dJ9_abs_0f7a4_10 : decode cJ9_abs_0f7a4 10 = .ok (.ireturn, 1) := by decide +kernel
theorem dJ9_abs_067f4_0 : decode cJ9_abs_067f4 0 = .ok (.lload_n 0, 1) := by decide +kernel
theorem dJ9_abs_067f4_1 : decode cJ9_abs_067f4 1 = .ok (.lconst 0, 1) := by decide +kernel
theorem dJ9_abs_067f4_2 : decode cJ9_abs_067f4 2 = .ok (.lcmp, 1) := by decide +kernel
theorem dJ9_abs_067f4_3 : decode cJ9_abs_067f4 3 = .ok (.ifCond .ge 8, 3) := by decide +kernel
theorem dJ9_abs_067f4_6 : decode cJ9_abs_067f4 6 = .ok (.lload_n 0, 1) := by decide +kernel
theorem dJ9_abs_067f4_7 : decode cJ9_abs_067f4 7 = .ok (.lneg, 1) := by decide +kernel
theorem dJ9_abs_067f4_8 : decode cJ9_abs_067f4 8 = .ok (.goto 4, 3) := by decide +kernel
theorem dJ9_abs_067f4_11 : decode cJ9_abs_067f4 11 = .ok (.lload_n 0, 1) := by decide +kernel
theorem dJ9_abs_067f4_12 : decode cJ9_abs_067f4 12 = .ok (.lreturn, 1) := by decide +kernel
theorem dJ9_max_7cf53_0 : decode cJ9_max_7cf53 0 = .ok (.iload_n 0, 1) := by decide +kernel
theorem dJ9_max_7cf53_1 : decode cJ9_max_7cf53 1 = .ok (.iload_n 1, 1) := by decide +kernel
theorem dJ9_max_7cf53_2 : decode cJ9_max_7cf53 2 = .ok (.if_icmp .lt 7, 3) := by decide +kernel
theorem dJ9_max_7cf53_5 : decode cJ9_max_7cf53 5 = .ok (.iload_n 0, 1) := by decide +kernel
theorem dJ9_max_7cf53_6 : decode cJ9_max_7cf53 6 = .ok (.goto 4, 3) := by decide +kernel
theorem dJ9_max_7cf53_9 : decode cJ9_max_7cf53 9 = .ok (.iload_n 1, 1) := by decide +kernel
theorem dJ9_max_7cf53_10 : decode cJ9_max_7cf53 10 = .ok (.ireturn, 1) := by decide +kernel
theorem dJ9_min_7cf53_0 : decode cJ9_min_7cf53 0 = .ok (.iload_n 0, 1) := by decide +kernel
theorem dJ9_min_7cf53_1 : decode cJ9_min_7cf53 1 = .ok (.iload_n 1, 1) := by decide +kernel
theorem dJ9_min_7cf53_2 : decode cJ9_min_7cf53 2 = .ok (.if_icmp .gt 7, 3) := by decide +kernel
theorem dJ9_min_7cf53_5 : decode cJ9_min_7cf53 5 = .ok (.iload_n 0, 1) := by decide +kernel
theorem dJ9_min_7cf53_6 : decode cJ9_min_7cf53 6 = .ok (.goto 4, 3) := by decide +kernel
theorem dJ9_min_7cf53_9 : decode cJ9_min_7cf53 9 = .ok (.iload_n 1, 1) := by decide +kernel
theorem dJ9_min_7cf53_10 : decode cJ9_min_7cf53 10 = .ok (.ireturn, 1) := by decide +kernel
set_option maxRecDepth 20000 in
theorem ggJ0_length_8abf5_J0_coder_7d493 : GoodIn wsJ0_length_8abf5 wsJ0_coder_7d493 := goodIn_r _ [6, 7, 8] (by decide +kernel) (by decide +kernel)
set_option maxRecDepth 20000 in
theorem gJ0_length_8abf5_J0_coder_7d493 : GoodIn wsJ0_length_8abf5 (wsV RJ0 335 RJ0 yJ0_coder_7d493 wsJ0_coder_7d493) := goodIn_app (goodIn_of _ (by decide +kernel)) ggJ0_length_8abf5_J0_coder_7d493
theorem dJ0_length_8abf5_0 : decode cJ0_length_8abf5 0 = .ok (.aload_n 0, 1) := by decide +kernel
theorem dJ0_length_8abf5_1 : decode cJ0_length_8abf5 1 = .ok (.getfield 9, 3) := by decide +kernel
theorem dJ0_length_8abf5_4 : decode cJ0_length_8abf5 4 = .ok (.arraylength, 1) := by decide +kernel
theorem dJ0_length_8abf5_5 : decode cJ0_length_8abf5 5 = .ok (.aload_n 0, 1) := by decide +kernel
theorem dJ0_length_8abf5_6 : decode cJ0_length_8abf5 6 = .ok (.invokevirtual 335, 3) := by decide +kernel
theorem dJ0_length_8abf5_9 : decode cJ0_length_8abf5 9 = .ok (.ishr, 1) := by decide +kernel
theorem dJ0_length_8abf5_10 : decode cJ0_length_8abf5 10 = .ok (.ireturn, 1) := by decide +kernel
set_option maxRecDepth 20000 in
theorem ggJ0_charAt_5068e_J0_isLatin1_aae02 : GoodIn wsJ0_charAt_5068e wsJ0_isLatin1_aae02 := goodIn_r _ [6, 7, 8] (by decide +kernel) (by decide +kernel)
set_option maxRecDepth 20000 in
theorem gJ0_charAt_5068e_J0_isLatin1_aae02 : GoodIn wsJ0_charAt_5068e (wsV RJ0 492 RJ0 yJ0_isLatin1_aae02 wsJ0_isLatin1_aae02) := goodIn_app (goodIn_of _ (by decide +kernel)) ggJ0_charAt_5068e_J0_isLatin1_aae02
set_option maxRecDepth 20000 in
theorem ggJ0_charAt_5068e_J1_charAt_3b067 : GoodIn wsJ0_charAt_5068e wsJ1_charAt_3b067 := goodIn_r _ [12, 13, 14, 5, 15, 16, 17, 18, 19, 20] (by decide +kernel) (by decide +kernel)
set_option maxRecDepth 20000 in
theorem gJ0_charAt_5068e_J1_charAt_3b067 : GoodIn wsJ0_charAt_5068e (va_wsS RJ0 495 yJ1_charAt_3b067 wsJ1_charAt_3b067) := goodIn_app (goodIn_of _ (by decide +kernel)) ggJ0_charAt_5068e_J1_charAt_3b067
set_option maxRecDepth 20000 in
theorem ggJ0_charAt_5068e_J2_charAt_3b067 : GoodIn wsJ0_charAt_5068e wsJ2_charAt_3b067 := goodIn_r _ [24, 25, 26, 23, 27, 28, 29, 30, 31, 14, 5, 15, 16, 17, 18, 19, 20, 32, 33, 34, 35, 36, 37] (by decide +kernel) (by decide +kernel)
set_option maxRecDepth 20000 in
theorem gJ0_charAt_5068e_J2_charAt_3b067 : GoodIn wsJ0_charAt_5068e (va_wsS RJ0 498 yJ2_charAt_3b067 wsJ2_charAt_3b067) := goodIn_app (goodIn_of _ (by decide +kernel)) ggJ0_charAt_5068e_J2_charAt_3b067
theorem dJ0_charAt_5068e_0 : decode cJ0_charAt_5068e 0 = .ok (.aload_n 0, 1) := by decide +kernel
theorem dJ0_charAt_5068e_1 : decode cJ0_charAt_5068e 1 = .ok (.invokevirtual 492, 3) := by decide +kernel
theorem dJ0_charAt_5068e_4 : decode cJ0_charAt_5068e 4 = .ok (.ifCond .eq 12, 3) := by decide +kernel
theorem dJ0_charAt_5068e_7 : decode cJ0_charAt_5068e 7 = .ok (.aload_n 0, 1) := by decide +kernel
theorem dJ0_charAt_5068e_8 : decode cJ0_charAt_5068e 8 = .ok (.getfield 9, 3) := by decide +kernel
theorem dJ0_charAt_5068e_11 : decode cJ0_charAt_5068e 11 = .ok (.iload_n 1, 1) := by decide +kernel
theorem dJ0_charAt_5068e_12 : decode cJ0_charAt_5068e 12 = .ok (.invokestatic 495, 3) := by decide +kernel
theorem dJ0_charAt_5068e_15 : decode cJ0_charAt_5068e 15 = .ok (.ireturn, 1) := by decide +kernel
theorem dJ0_charAt_5068e_16 : decode cJ0_charAt_5068e 16 = .ok (.aload_n 0, 1) := by decide +kernel
theorem dJ0_charAt_5068e_17 : decode cJ0_charAt_5068e 17 = .ok (.getfield 9, 3) := by decide +kernel
theorem dJ0_charAt_5068e_20 : decode cJ0_charAt_5068e 20 = .ok (.iload_n 1, 1) := by decide +kernel
theorem dJ0_charAt_5068e_21 : decode cJ0_charAt_5068e 21 = .ok (.invokestatic 498, 3) := by decide +kernel
theorem dJ0_charAt_5068e_24 : decode cJ0_charAt_5068e 24 = .ok (.ireturn, 1) := by decide +kernel
set_option maxRecDepth 20000 in
theorem ggJ0_indexOf_0f7a4_J0_indexOf_7cf53 : GoodIn wsJ0_indexOf_0f7a4 wsJ0_indexOf_7cf53 := goodIn_r _ [5, 6, 7, 8, 9, 4, 10, 11, 12, 13, 14, 15, 16, 17, 18, 19, 20, 21, 22, 23, 24, 25, 26, 27, 28, 29, 30, 31, 32, 33, 34, 35, 36, 37, 38, 39, 40, 41, 42, 43, 44, 45, 46, 47, 48, 49, 50, 51, 52, 53, 54, 55, 56, 57, 58, 59, 60, 61, 62, 63, 64, 65, 66, 67, 68, 69, 70, 71, 72, 73, 74, 75, 76, 77, 78, 79, 80, 81, 82, 83, 84, 85] (by decide +kernel) (by decide +kernel)
set_option maxRecDepth 20000 in
theorem gJ0_indexOf_0f7a4_J0_indexOf_7cf53 : GoodIn wsJ0_indexOf_0f7a4 (wsV RJ0 633 RJ0 yJ0_indexOf_7cf53 wsJ0_indexOf_7cf53) := goodIn_app (goodIn_of _ (by decide +kernel)) ggJ0_indexOf_0f7a4_J0_indexOf_7cf53
theorem dJ0_indexOf_0f7a4_0 : decode cJ0_indexOf_0f7a4 0 = .ok (.aload_n 0, 1) := by decide +kernel
theorem dJ0_indexOf_0f7a4_1 : decode cJ0_indexOf_0f7a4 1 = .ok (.iload_n 1, 1) := by decide +kernel
theorem dJ0_indexOf_0f7a4_2 : decode cJ0_indexOf_0f7a4 2 = .ok (.iconst 0, 1) := by decide +kernel
theorem dJ0_indexOf_0f7a4_3 : decode cJ0_indexOf_0f7a4 3 = .ok (.invokevirtual 633, 3) := by decide +kernel
theorem dJ0_indexOf_0f7a4_6 : decode cJ0_indexOf_0f7a4 6 = .ok (.ireturn, 1) := by decide +kernel
set_option maxRecDepth 20000 in
theorem ggJ0_indexOf_7cf53_J0_isLatin1_aae02 : GoodIn wsJ0_indexOf_7cf53 wsJ0_isLatin1_aae02 := goodIn_r _ [6, 7, 8] (by decide +kernel) (by decide +kernel)
set_option maxRecDepth 20000 in
theorem gJ0_indexOf_7cf53_J0_isLatin1_aae02 : GoodIn wsJ0_indexOf_7cf53 (wsV RJ0 492 RJ0 yJ0_isLatin1_aae02 wsJ0_isLatin1_aae02) := goodIn_app (goodIn_of _ (by decide +kernel)) ggJ0_indexOf_7cf53_J0_isLatin1_aae02
set_option maxRecDepth 20000 in
theorem ggJ0_indexOf_7cf53_J0_length_8abf5 : GoodIn wsJ0_indexOf_7cf53 wsJ0_length_8abf5 := goodIn_r _ [12, 1, 13, 14, 15, 5, 16, 7, 8] (by decide +kernel) (by decide +kernel)
set_option maxRecDepth 20000 in
theorem gJ0_indexOf_7cf53_J0_length_8abf5 : GoodIn wsJ0_indexOf_7cf53 (wsV RJ0 505 RJ0 yJ0_length_8abf5 wsJ0_length_8abf5) := goodIn_app (goodIn_of _ (by decide +kernel)) ggJ0_indexOf_7cf53_J0_length_8abf5
set_option maxRecDepth 20000 in
theorem ggJ0_indexOf_7cf53_J1_indexOf_4cfef : GoodIn wsJ0_indexOf_7cf53 wsJ1_indexOf_4cfef := goodIn_r _ [20, 21, 22, 23, 24, 25, 26, 27, 28, 29, 19, 30, 31, 32, 33] (by decide +kernel) (by decide +kernel)
set_option maxRecDepth 20000 in
theorem gJ0_indexOf_7cf53_J1_indexOf_4cfef : GoodIn wsJ0_indexOf_7cf53 (va_wsS RJ0 637 yJ1_indexOf_4cfef wsJ1_indexOf_4cfef) := goodIn_app (goodIn_of _ (by decide +kernel)) ggJ0_indexOf_7cf53_J1_indexOf_4cfef
set_option maxRecDepth 20000 in
theorem ggJ0_indexOf_7cf53_J2_indexOf_4cfef : GoodIn wsJ0_indexOf_7cf53 wsJ2_indexOf_4cfef := goodIn_r _ [37, 38, 22, 23, 24, 39, 26, 27, 40, 41, 42, 36, 43, 44, 45, 46, 47, 48, 49, 50, 51, 5, 52, 53, 54, 55, 56, 57, 58, 59, 60, 61, 62, 63, 64, 65, 66, 67, 68, 69, 70, 71, 72, 73, 74, 75, 76, 77, 78, 79, 80, 81] (by decide +kernel) (by decide +kernel)
set_option maxRecDepth 20000 in
theorem gJ0_indexOf_7cf53_J2_indexOf_4cfef : GoodIn wsJ0_indexOf_7cf53 (va_wsS RJ0 640 yJ2_indexOf_4cfef wsJ2_indexOf_4cfef) := goodIn_app (goodIn_of _ (by decide +kernel)) ggJ0_indexOf_7cf53_J2_indexOf_4cfef
theorem dJ0_indexOf_7cf53_0 : decode cJ0_indexOf_7cf53 0 = .ok (.aload_n 0, 1) := by decide +kernel
theorem dJ0_indexOf_7cf53_1 : decode cJ0_indexOf_7cf53 1 = .ok (.invokevirtual 492, 3) := by decide +kernel
theorem dJ0_indexOf_7cf53_4 : decode cJ0_indexOf_7cf53 4 = .ok (.ifCond .eq 19, 3) := by decide +kernel
theorem dJ0_indexOf_7cf53_7 : decode cJ0_indexOf_7cf53 7 = .ok (.aload_n 0, 1) := by decide +kernel
theorem dJ0_indexOf_7cf53_8 : decode cJ0_indexOf_7cf53 8 = .ok (.getfield 9, 3) := by decide +kernel
theorem dJ0_indexOf_7cf53_11 : decode cJ0_indexOf_7cf53 11 = .ok (.iload_n 1, 1) := by decide +kernel
theorem dJ0_indexOf_7cf53_12 : decode cJ0_indexOf_7cf53 12 = .ok (.iload_n 2, 1) := by decide +kernel
theorem dJ0_indexOf_7cf53_13 : decode cJ0_indexOf_7cf53 13 = .ok (.aload_n 0, 1) := by decide +kernel
theorem dJ0_indexOf_7cf53_14 : decode cJ0_indexOf_7cf53 14 = .ok (.invokevirtual 505, 3) := by decide +kernel
theorem dJ0_indexOf_7cf53_17 : decode cJ0_indexOf_7cf53 17 = .ok (.invokestatic 637, 3) := by decide +kernel
theorem dJ0_indexOf_7cf53_20 : decode cJ0_indexOf_7cf53 20 = .ok (.goto 16, 3) := by decide +kernel
theorem dJ0_indexOf_7cf53_23 : decode cJ0_indexOf_7cf53 23 = .ok (.aload_n 0, 1) := by decide +kernel
theorem dJ0_indexOf_7cf53_24 : decode cJ0_indexOf_7cf53 24 = .ok (.getfield 9, 3) := by decide +kernel
theorem dJ0_indexOf_7cf53_27 : decode cJ0_indexOf_7cf53 27 = .ok (.iload_n 1, 1) := by decide +kernel
theorem dJ0_indexOf_7cf53_28 : decode cJ0_indexOf_7cf53 28 = .ok (.iload_n 2, 1) := by decide +kernel
theorem dJ0_indexOf_7cf53_29 : decode cJ0_indexOf_7cf53 29 = .ok (.aload_n 0, 1) := by decide +kernel
theorem dJ0_indexOf_7cf53_30 : decode cJ0_indexOf_7cf53 30 = .ok (.invokevirtual 505, 3) := by decide +kernel
theorem dJ0_indexOf_7cf53_33 : decode cJ0_indexOf_7cf53 33 = .ok (.invokestatic 640, 3) := by decide +kernel
theorem dJ0_indexOf_7cf53_36 : decode cJ0_indexOf_7cf53 36 = .ok (.ireturn, 1) := by decide +kernel
theorem dJ0_coder_7d493_0 : decode cJ0_coder_7d493 0 = .ok (.getstatic 38, 3) := by decide +kernel
theorem dJ0_coder_7d493_3 : decode cJ0_coder_7d493 3 = .ok (.ifCond .eq 10, 3) := by decide +kernel
theorem dJ0_coder_7d493_6 : decode cJ0_coder_7d493 6 = .ok (.aload_n 0, 1) := by decide +kernel
theorem dJ0_coder_7d493_7 : decode cJ0_coder_7d493 7 = .ok (.getfield 15, 3) := by decide +kernel
theorem dJ0_coder_7d493_10 : decode cJ0_coder_7d493 10 = .ok (.goto 4, 3) := by decide +kernel
theorem dJ0_coder_7d493_13 : decode cJ0_coder_7d493 13 = .ok (.iconst 1, 1) := by decide +kernel
theorem dJ0_coder_7d493_14 : decode cJ0_coder_7d493 14 = .ok (.ireturn, 1) := by decide +kernel
theorem dJ0_isLatin1_aae02_0 : decode cJ0_isLatin1_aae02 0 = .ok (.getstatic 38, 3) := by decide +kernel
theorem dJ0_isLatin1_aae02_3 : decode cJ0_isLatin1_aae02 3 = .ok (.ifCond .eq 14, 3) := by decide +kernel
theorem dJ0_isLatin1_aae02_6 : decode cJ0_isLatin1_aae02 6 = .ok (.aload_n 0, 1) := by decide +kernel
theorem dJ0_isLatin1_aae02_7 : decode cJ0_isLatin1_aae02 7 = .ok (.getfield 15, 3) := by decide +kernel
theorem dJ0_isLatin1_aae02_10 : decode cJ0_isLatin1_aae02 10 = .ok (.ifCond .ne 7, 3) := by decide +kernel
theorem dJ0_isLatin1_aae02_13 : decode cJ0_isLatin1_aae02 13 = .ok (.iconst 1, 1) := by decide +kernel
theorem dJ0_isLatin1_aae02_14 : decode cJ0_isLatin1_aae02 14 = .ok (.goto 4, 3) := by decide +kernel
theorem dJ0_isLatin1_aae02_17 : decode cJ0_isLatin1_aae02 17 = .ok (.iconst 0, 1) := by decide +kernel
theorem dJ0_isLatin1_aae02_18 : decode cJ0_isLatin1_aae02 18 = .ok (.ireturn, 1) := by decide +kernel
set_option maxRecDepth 20000 in
theorem ggJ0_checkIndex_df160_J3_checkIndex_8e157 : GoodIn wsJ0_checkIndex_df160 wsJ3_checkIndex_8e157 := goodIn_r _ [5] (by decide +kernel) (by decide +kernel)
set_option maxRecDepth 20000 in
theorem gJ0_checkIndex_df160_J3_checkIndex_8e157 : GoodIn wsJ0_checkIndex_df160 (va_wsS RJ0 1059 yJ3_checkIndex_8e157 wsJ3_checkIndex_8e157) := goodIn_app (goodIn_of _ (by decide +kernel)) ggJ0_checkIndex_df160_J3_checkIndex_8e157
theorem dJ0_checkIndex_df160_0 : decode cJ0_checkIndex_df160 0 = .ok (.iload_n 0, 1) := by decide +kernel
theorem dJ0_checkIndex_df160_1 : decode cJ0_checkIndex_df160 1 = .ok (.iload_n 1, 1) := by decide +kernel
theorem dJ0_checkIndex_df160_2 : decode cJ0_checkIndex_df160 2 = .ok (.getstatic 1053, 3) := by decide +kernel
theorem dJ0_checkIndex_df160_5 : decode cJ0_checkIndex_df160 5 = .ok (.invokestatic 1059, 3) := by decide +kernel
theorem dJ0_checkIndex_df160_8 : decode cJ0_checkIndex_df160 8 = .ok (.pop, 1) := by decide +kernel
theorem dJ0_checkIndex_df160_9 : decode cJ0_checkIndex_df160 9 = .ok (.return_, 1) := by decide +kernel
set_option maxRecDepth 20000 in
theorem ggJ0_checkBoundsBeginEnd_23922_J3_checkFromToIndex_8c36e : GoodIn wsJ0_checkBoundsBeginEnd_23922 wsJ3_checkFromToIndex_8c36e := goodIn_r _ [5] (by decide +kernel) (by decide +kernel)
set_option maxRecDepth 20000 in
theorem gJ0_checkBoundsBeginEnd_23922_J3_checkFromToIndex_8c36e : GoodIn wsJ0_checkBoundsBeginEnd_23922 (va_wsS RJ0 1062 yJ3_checkFromToIndex_8c36e wsJ3_checkFromToIndex_8c36e) := goodIn_app (goodIn_of _ (by decide +kernel)) ggJ0_checkBoundsBeginEnd_23922_J3_checkFromToIndex_8c36e
theorem dJ0_checkBoundsBeginEnd_23922_0 : decode cJ0_checkBoundsBeginEnd_23922 0 = .ok (.iload_n 0, 1) := by decide +kernel
theorem dJ0_checkBoundsBeginEnd_23922_1 : decode cJ0_checkBoundsBeginEnd_23922 1 = .ok (.iload_n 1, 1) := by decide +kernel
theorem dJ0_checkBoundsBeginEnd_23922_2 : decode cJ0_checkBoundsBeginEnd_23922 2 = .ok (.iload_n 2, 1) := by decide +kernel
theorem dJ0_checkBoundsBeginEnd_23922_3 : decode cJ0_checkBoundsBeginEnd_23922 3 = .ok (.getstatic 1053, 3) := by decide +kernel
theorem dJ0_checkBoundsBeginEnd_23922_6 : decode cJ0_checkBoundsBeginEnd_23922 6 = .ok (.invokestatic 1062, 3) := by decide +kernel
theorem dJ0_checkBoundsBeginEnd_23922_9 : decode cJ0_checkBoundsBeginEnd_23922 9 = .ok (.pop, 1) := by decide +kernel
theorem dJ0_checkBoundsBeginEnd_23922_10 : decode cJ0_checkBoundsBeginEnd_23922 10 = .ok (.return_, 1) := by decide +kernel
set_option maxRecDepth 20000 in
theorem ggJ1_charAt_3b067_J0_checkIndex_df160 : GoodIn wsJ1_charAt_3b067 wsJ0_checkIndex_df160 := goodIn_r _ [4, 5, 6, 7, 8, 9] (by decide +kernel) (by decide +kernel)
set_option maxRecDepth 20000 in
theorem gJ1_charAt_3b067_J0_checkIndex_df160 : GoodIn wsJ1_charAt_3b067 (va_wsS RJ1 9 yJ0_checkIndex_df160 wsJ0_checkIndex_df160) := goodIn_app (goodIn_of _ (by decide +kernel)) ggJ1_charAt_3b067_J0_checkIndex_df160
theorem dJ1_charAt_3b067_0 : decode cJ1_charAt_3b067 0 = .ok (.iload_n 1, 1) := by decide +kernel
theorem dJ1_charAt_3b067_1 : decode cJ1_charAt_3b067 1 = .ok (.aload_n 0, 1) := by decide +kernel
theorem dJ1_charAt_3b067_2 : decode cJ1_charAt_3b067 2 = .ok (.arraylength, 1) := by decide +kernel
theorem dJ1_charAt_3b067_3 : decode cJ1_charAt_3b067 3 = .ok (.invokestatic 9, 3) := by decide +kernel
theorem dJ1_charAt_3b067_6 : decode cJ1_charAt_3b067 6 = .ok (.aload_n 0, 1) := by decide +kernel
theorem dJ1_charAt_3b067_7 : decode cJ1_charAt_3b067 7 = .ok (.iload_n 1, 1) := by decide +kernel
theorem dJ1_charAt_3b067_8 : decode cJ1_charAt_3b067 8 = .ok (.baload, 1) := by decide +kernel
theorem dJ1_charAt_3b067_9 : decode cJ1_charAt_3b067 9 = .ok (.sipush 255, 3) := by decide +kernel
theorem dJ1_charAt_3b067_12 : decode cJ1_charAt_3b067 12 = .ok (.iand, 1) := by decide +kernel
theorem dJ1_charAt_3b067_13 : decode cJ1_charAt_3b067 13 = .ok (.i2c, 1) := by decide +kernel
theorem dJ1_charAt_3b067_14 : decode cJ1_charAt_3b067 14 = .ok (.ireturn, 1) := by decide +kernel
theorem dJ1_canEncode_9a6ad_0 : decode cJ1_canEncode_9a6ad 0 = .ok (.iload_n 0, 1) := by decide +kernel
theorem dJ1_canEncode_9a6ad_1 : decode cJ1_canEncode_9a6ad 1 = .ok (.ifCond .lt 14, 3) := by decide +kernel
theorem dJ1_canEncode_9a6ad_4 : decode cJ1_canEncode_9a6ad 4 = .ok (.iload_n 0, 1) := by decide +kernel
theorem dJ1_canEncode_9a6ad_5 : decode cJ1_canEncode_9a6ad 5 = .ok (.sipush 255, 3) := by decide +kernel
theorem dJ1_canEncode_9a6ad_8 : decode cJ1_canEncode_9a6ad 8 = .ok (.if_icmp .gt 7, 3) := by decide +kernel
theorem dJ1_canEncode_9a6ad_11 : decode cJ1_canEncode_9a6ad 11 = .ok (.iconst 1, 1) := by decide +kernel
theorem dJ1_canEncode_9a6ad_12 : decode cJ1_canEncode_9a6ad 12 = .ok (.goto 4, 3) := by decide +kernel
theorem dJ1_canEncode_9a6ad_15 : decode cJ1_canEncode_9a6ad 15 = .ok (.iconst 0, 1) := by decide +kernel
theorem dJ1_canEncode_9a6ad_16 : decode cJ1_canEncode_9a6ad 16 = .ok (.ireturn, 1) := by decide +kernel
set_option maxRecDepth 20000 in
theorem ggJ1_indexOf_4cfef_J1_canEncode_9a6ad : GoodIn wsJ1_indexOf_4cfef wsJ1_canEncode_9a6ad := goodIn_r _ [11] (by decide +kernel) (by decide +kernel)
set_option maxRecDepth 20000 in
theorem gJ1_indexOf_4cfef_J1_canEncode_9a6ad : GoodIn wsJ1_indexOf_4cfef (va_wsS RJ1 88 yJ1_canEncode_9a6ad wsJ1_canEncode_9a6ad) := goodIn_app (goodIn_of _ (by decide +kernel)) ggJ1_indexOf_4cfef_J1_canEncode_9a6ad
set_option maxRecDepth 20000 in
theorem ggJ1_indexOf_4cfef_J1_indexOfChar_4cfef : GoodIn wsJ1_indexOf_4cfef wsJ1_indexOfChar_4cfef := goodIn_r _ [14] (by decide +kernel) (by decide +kernel)
set_option maxRecDepth 20000 in
theorem gJ1_indexOf_4cfef_J1_indexOfChar_4cfef : GoodIn wsJ1_indexOf_4cfef (va_wsS RJ1 95 yJ1_indexOfChar_4cfef wsJ1_indexOfChar_4cfef) := goodIn_app (goodIn_of _ (by decide +kernel)) ggJ1_indexOf_4cfef_J1_indexOfChar_4cfef
theorem dJ1_indexOf_4cfef_0 : decode cJ1_indexOf_4cfef 0 = .ok (.iload_n 1, 1) := by decide +kernel
theorem dJ1_indexOf_4cfef_1 : decode cJ1_indexOf_4cfef 1 = .ok (.invokestatic 88, 3) := by decide +kernel
theorem dJ1_indexOf_4cfef_4 : decode cJ1_indexOf_4cfef 4 = .ok (.ifCond .ne 5, 3) := by decide +kernel
theorem dJ1_indexOf_4cfef_7 : decode cJ1_indexOf_4cfef 7 = .ok (.iconst (-1), 1) := by decide +kernel
theorem dJ1_indexOf_4cfef_8 : decode cJ1_indexOf_4cfef 8 = .ok (.ireturn, 1) := by decide +kernel
theorem dJ1_indexOf_4cfef_9 : decode cJ1_indexOf_4cfef 9 = .ok (.iload_n 2, 1) := by decide +kernel
theorem dJ1_indexOf_4cfef_10 : decode cJ1_indexOf_4cfef 10 = .ok (.iconst 0, 1) := by decide +kernel
theorem dJ1_indexOf_4cfef_11 : decode cJ1_indexOf_4cfef 11 = .ok (.invokestatic 92, 3) := by decide +kernel
theorem dJ1_indexOf_4cfef_14 : decode cJ1_indexOf_4cfef 14 = .ok (.istore_n 2, 1) := by decide +kernel
theorem dJ1_indexOf_4cfef_15 : decode cJ1_indexOf_4cfef 15 = .ok (.iload_n 3, 1) := by decide +kernel
theorem dJ1_indexOf_4cfef_16 : decode cJ1_indexOf_4cfef 16 = .ok (.aload_n 0, 1) := by decide +kernel
theorem dJ1_indexOf_4cfef_17 : decode cJ1_indexOf_4cfef 17 = .ok (.arraylength, 1) := by decide +kernel
theorem dJ1_indexOf_4cfef_18 : decode cJ1_indexOf_4cfef 18 = .ok (.invokestatic 38, 3) := by decide +kernel
theorem dJ1_indexOf_4cfef_21 : decode cJ1_indexOf_4cfef 21 = .ok (.istore_n 3, 1) := by decide +kernel
theorem dJ1_indexOf_4cfef_22 : decode cJ1_indexOf_4cfef 22 = .ok (.iload_n 2, 1) := by decide +kernel
theorem dJ1_indexOf_4cfef_23 : decode cJ1_indexOf_4cfef 23 = .ok (.iload_n 3, 1) := by decide +kernel
theorem dJ1_indexOf_4cfef_24 : decode cJ1_indexOf_4cfef 24 = .ok (.if_icmp .lt 5, 3) := by decide +kernel
theorem dJ1_indexOf_4cfef_27 : decode cJ1_indexOf_4cfef 27 = .ok (.iconst (-1), 1) := by decide +kernel
theorem dJ1_indexOf_4cfef_28 : decode cJ1_indexOf_4cfef 28 = .ok (.ireturn, 1) := by decide +kernel
theorem dJ1_indexOf_4cfef_29 : decode cJ1_indexOf_4cfef 29 = .ok (.aload_n 0, 1) := by decide +kernel
theorem dJ1_indexOf_4cfef_30 : decode cJ1_indexOf_4cfef 30 = .ok (.iload_n 1, 1) := by decide +kernel
theorem dJ1_indexOf_4cfef_31 : decode cJ1_indexOf_4cfef 31 = .ok (.iload_n 2, 1) := by decide +kernel
theorem dJ1_indexOf_4cfef_32 : decode cJ1_indexOf_4cfef 32 = .ok (.iload_n 3, 1) := by decide +kernel
theorem dJ1_indexOf_4cfef_33 : decode cJ1_indexOf_4cfef 33 = .ok (.invokestatic 95, 3) := by decide +kernel
theorem dJ1_indexOf_4cfef_36 : decode cJ1_indexOf_4cfef 36 = .ok (.ireturn, 1) := by decide +kernel
theorem dJ1_indexOfChar_4cfef_0 : decode cJ1_indexOfChar_4cfef 0 = .ok (.iload_n 1, 1) := by decide +kernel
theorem dJ1_indexOfChar_4cfef_1 : decode cJ1_indexOfChar_4cfef 1 = .ok (.i2b, 1) := by decide +kernel
theorem dJ1_indexOfChar_4cfef_2 : decode cJ1_indexOfChar_4cfef 2 = .ok (.istore 4, 2) := by decide +kernel
theorem dJ1_indexOfChar_4cfef_4 : decode cJ1_indexOfChar_4cfef 4 = .ok (.iload_n 2, 1) := by decide +kernel
theorem dJ1_indexOfChar_4cfef_5 : decode cJ1_indexOfChar_4cfef 5 = .ok (.istore 5, 2) := by decide +kernel
theorem dJ1_indexOfChar_4cfef_7 : decode cJ1_indexOfChar_4cfef 7 = .ok (.iload 5, 2) := by decide +kernel
theorem dJ1_indexOfChar_4cfef_9 : decode cJ1_indexOfChar_4cfef 9 = .ok (.iload_n 3, 1) := by decide +kernel
theorem dJ1_indexOfChar_4cfef_10 : decode cJ1_indexOfChar_4cfef 10 = .ok (.if_icmp .ge 21, 3) := by decide +kernel
theorem dJ1_indexOfChar_4cfef_13 : decode cJ1_indexOfChar_4cfef 13 = .ok (.aload_n 0, 1) := by decide +kernel
theorem dJ1_indexOfChar_4cfef_14 : decode cJ1_indexOfChar_4cfef 14 = .ok (.iload 5, 2) := by decide +kernel
theorem dJ1_indexOfChar_4cfef_16 : decode cJ1_indexOfChar_4cfef 16 = .ok (.baload, 1) := by decide +kernel
theorem dJ1_indexOfChar_4cfef_17 : decode cJ1_indexOfChar_4cfef 17 = .ok (.iload 4, 2) := by decide +kernel
theorem dJ1_indexOfChar_4cfef_19 : decode cJ1_indexOfChar_4cfef 19 = .ok (.if_icmp .ne 6, 3) := by decide +kernel
theorem dJ1_indexOfChar_4cfef_22 : decode cJ1_indexOfChar_4cfef 22 = .ok (.iload 5, 2) := by decide +kernel
theorem dJ1_indexOfChar_4cfef_24 : decode cJ1_indexOfChar_4cfef 24 = .ok (.ireturn, 1) := by decide +kernel
theorem dJ1_indexOfChar_4cfef_25 : decode cJ1_indexOfChar_4cfef 25 = .ok (.iinc 5 1, 3) := by decide +kernel
theorem dJ1_indexOfChar_4cfef_28 : decode cJ1_indexOfChar_4cfef 28 = .ok (.goto (-21), 3) := by decide +kernel
theorem dJ1_indexOfChar_4cfef_31 : decode cJ1_indexOfChar_4cfef 31 = .ok (.iconst (-1), 1) := by decide +kernel
theorem dJ1_indexOfChar_4cfef_32 : decode cJ1_indexOfChar_4cfef 32 = .ok (.ireturn, 1) := by decide +kernel
set_option maxRecDepth 20000 in
theorem ggJ2_getChar_3b067_J2_length_9d52b : GoodIn wsJ2_getChar_3b067 wsJ2_length_9d52b := goodIn_r _ [7] (by decide +kernel) (by decide +kernel)
set_option maxRecDepth 20000 in
theorem gJ2_getChar_3b067_J2_length_9d52b : GoodIn wsJ2_getChar_3b067 (va_wsS RJ2 48 yJ2_length_9d52b wsJ2_length_9d52b) := goodIn_app (goodIn_of _ (by decide +kernel)) ggJ2_getChar_3b067_J2_length_9d52b
theorem dJ2_getChar_3b067_0 : decode cJ2_getChar_3b067 0 = .ok (.getstatic 44, 3) := by decide +kernel
theorem dJ2_getChar_3b067_3 : decode cJ2_getChar_3b067 3 = .ok (.ifCond .ne 25, 3) := by decide +kernel
theorem dJ2_getChar_3b067_6 : decode cJ2_getChar_3b067 6 = .ok (.iload_n 1, 1) := by decide +kernel
theorem dJ2_getChar_3b067_7 : decode cJ2_getChar_3b067 7 = .ok (.ifCond .lt 11, 3) := by decide +kernel
theorem dJ2_getChar_3b067_10 : decode cJ2_getChar_3b067 10 = .ok (.iload_n 1, 1) := by decide +kernel
theorem dJ2_getChar_3b067_11 : decode cJ2_getChar_3b067 11 = .ok (.aload_n 0, 1) := by decide +kernel
theorem dJ2_getChar_3b067_12 : decode cJ2_getChar_3b067 12 = .ok (.invokestatic 48, 3) := by decide +kernel
theorem dJ2_getChar_3b067_15 : decode cJ2_getChar_3b067 15 = .ok (.if_icmp .lt 13, 3) := by decide +kernel
theorem dJ2_getChar_3b067_18 : decode cJ2_getChar_3b067 18 = .ok (.new 52, 3) := by decide +kernel
theorem dJ2_getChar_3b067_21 : decode cJ2_getChar_3b067 21 = .ok (.dup, 1) := by decide +kernel
theorem dJ2_getChar_3b067_22 : decode cJ2_getChar_3b067 22 = .ok (.ldc 54, 2) := by decide +kernel
theorem dJ2_getChar_3b067_24 : decode cJ2_getChar_3b067 24 = .ok (.invokespecial 56, 3) := by decide +kernel
theorem dJ2_getChar_3b067_27 : decode cJ2_getChar_3b067 27 = .ok (.athrow, 1) := by decide +kernel
theorem dJ2_getChar_3b067_28 : decode cJ2_getChar_3b067 28 = .ok (.iload_n 1, 1) := by decide +kernel
theorem dJ2_getChar_3b067_29 : decode cJ2_getChar_3b067 29 = .ok (.iconst 1, 1) := by decide +kernel
theorem dJ2_getChar_3b067_30 : decode cJ2_getChar_3b067 30 = .ok (.ishl, 1) := by decide +kernel
theorem dJ2_getChar_3b067_31 : decode cJ2_getChar_3b067 31 = .ok (.istore_n 1, 1) := by decide +kernel
theorem dJ2_getChar_3b067_32 : decode cJ2_getChar_3b067 32 = .ok (.aload_n 0, 1) := by decide +kernel
theorem dJ2_getChar_3b067_33 : decode cJ2_getChar_3b067 33 = .ok (.iload_n 1, 1) := by decide +kernel
theorem dJ2_getChar_3b067_34 : decode cJ2_getChar_3b067 34 = .ok (.iinc 1 1, 3) := by decide +kernel
theorem dJ2_getChar_3b067_37 : decode cJ2_getChar_3b067 37 = .ok (.baload, 1) := by decide +kernel
theorem dJ2_getChar_3b067_38 : decode cJ2_getChar_3b067 38 = .ok (.sipush 255, 3) := by decide +kernel
theorem dJ2_getChar_3b067_41 : decode cJ2_getChar_3b067 41 = .ok (.iand, 1) := by decide +kernel
theorem dJ2_getChar_3b067_42 : decode cJ2_getChar_3b067 42 = .ok (.getstatic 59, 3) := by decide +kernel
theorem dJ2_getChar_3b067_45 : decode cJ2_getChar_3b067 45 = .ok (.ishl, 1) := by decide +kernel
theorem dJ2_getChar_3b067_46 : decode cJ2_getChar_3b067 46 = .ok (.aload_n 0, 1) := by decide +kernel
theorem dJ2_getChar_3b067_47 : decode cJ2_getChar_3b067 47 = .ok (.iload_n 1, 1) := by decide +kernel
theorem dJ2_getChar_3b067_48 : decode cJ2_getChar_3b067 48 = .ok (.baload, 1) := by decide +kernel
theorem dJ2_getChar_3b067_49 : decode cJ2_getChar_3b067 49 = .ok (.sipush 255, 3) := by decide +kernel
theorem dJ2_getChar_3b067_52 : decode cJ2_getChar_3b067 52 = .ok (.iand, 1) := by decide +kernel
theorem dJ2_getChar_3b067_53 : decode cJ2_getChar_3b067 53 = .ok (.getstatic 63, 3) := by decide +kernel
theorem dJ2_getChar_3b067_56 : decode cJ2_getChar_3b067 56 = .ok (.ishl, 1) := by decide +kernel
theorem dJ2_getChar_3b067_57 : decode cJ2_getChar_3b067 57 = .ok (.ior, 1) := by decide +kernel
theorem dJ2_getChar_3b067_58 : decode cJ2_getChar_3b067 58 = .ok (.i2c, 1) := by decide +kernel
theorem dJ2_getChar_3b067_59 : decode cJ2_getChar_3b067 59 = .ok (.ireturn, 1) := by decide +kernel
theorem dJ2_length_9d52b_0 : decode cJ2_length_9d52b 0 = .ok (.aload_n 0, 1) := by decide +kernel
theorem dJ2_length_9d52b_1 : decode cJ2_length_9d52b 1 = .ok (.arraylength, 1) := by decide +kernel
theorem dJ2_length_9d52b_2 : decode cJ2_length_9d52b 2 = .ok (.iconst 1, 1) := by decide +kernel
theorem dJ2_length_9d52b_3 : decode cJ2_length_9d52b 3 = .ok (.ishr, 1) := by decide +kernel
theorem dJ2_length_9d52b_4 : decode cJ2_length_9d52b 4 = .ok (.ireturn, 1) := by decide +kernel
set_option maxRecDepth 20000 in
theorem ggJ2_indexOf_4cfef_J2_indexOfChar_4cfef : GoodIn wsJ2_indexOf_4cfef wsJ2_indexOfChar_4cfef := goodIn_r _ [12, 13, 14, 11, 15, 16, 17, 18, 19, 20, 21, 22, 23, 24, 25, 26, 27, 28, 29, 30, 31, 32, 33, 34, 35, 36] (by decide +kernel) (by decide +kernel)
set_option maxRecDepth 20000 in
theorem gJ2_indexOf_4cfef_J2_indexOfChar_4cfef : GoodIn wsJ2_indexOf_4cfef (va_wsS RJ2 228 yJ2_indexOfChar_4cfef wsJ2_indexOfChar_4cfef) := goodIn_app (goodIn_of _ (by decide +kernel)) ggJ2_indexOf_4cfef_J2_indexOfChar_4cfef
set_option maxRecDepth 20000 in
theorem ggJ2_indexOf_4cfef_J2_indexOfSupplementary_4cfef : GoodIn wsJ2_indexOf_4cfef wsJ2_indexOfSupplementary_4cfef := goodIn_r _ [39, 40, 41, 42, 43, 44, 45, 46, 47, 48, 49, 50, 51, 13, 14, 11, 15, 16, 17, 18, 19, 20, 21, 22, 23, 24, 25, 26, 27, 31, 32, 33, 34, 35, 36] (by decide +kernel) (by decide +kernel)
set_option maxRecDepth 20000 in
theorem gJ2_indexOf_4cfef_J2_indexOfSupplementary_4cfef : GoodIn wsJ2_indexOf_4cfef (va_wsS RJ2 232 yJ2_indexOfSupplementary_4cfef wsJ2_indexOfSupplementary_4cfef) := goodIn_app (goodIn_of _ (by decide +kernel)) ggJ2_indexOf_4cfef_J2_indexOfSupplementary_4cfef
theorem dJ2_indexOf_4cfef_0 : decode cJ2_indexOf_4cfef 0 = .ok (.iload_n 2, 1) := by decide +kernel
theorem dJ2_indexOf_4cfef_1 : decode cJ2_indexOf_4cfef 1 = .ok (.iconst 0, 1) := by decide +kernel
theorem dJ2_indexOf_4cfef_2 : decode cJ2_indexOf_4cfef 2 = .ok (.invokestatic 224, 3) := by decide +kernel
theorem dJ2_indexOf_4cfef_5 : decode cJ2_indexOf_4cfef 5 = .ok (.istore_n 2, 1) := by decide +kernel
theorem dJ2_indexOf_4cfef_6 : decode cJ2_indexOf_4cfef 6 = .ok (.iload_n 3, 1) := by decide +kernel
theorem dJ2_indexOf_4cfef_7 : decode cJ2_indexOf_4cfef 7 = .ok (.aload_n 0, 1) := by decide +kernel
theorem dJ2_indexOf_4cfef_8 : decode cJ2_indexOf_4cfef 8 = .ok (.arraylength, 1) := by decide +kernel
theorem dJ2_indexOf_4cfef_9 : decode cJ2_indexOf_4cfef 9 = .ok (.iconst 1, 1) := by decide +kernel
theorem dJ2_indexOf_4cfef_10 : decode cJ2_indexOf_4cfef 10 = .ok (.ishr, 1) := by decide +kernel
theorem dJ2_indexOf_4cfef_11 : decode cJ2_indexOf_4cfef 11 = .ok (.invokestatic 183, 3) := by decide +kernel
theorem dJ2_indexOf_4cfef_14 : decode cJ2_indexOf_4cfef 14 = .ok (.istore_n 3, 1) := by decide +kernel
theorem dJ2_indexOf_4cfef_15 : decode cJ2_indexOf_4cfef 15 = .ok (.iload_n 2, 1) := by decide +kernel
theorem dJ2_indexOf_4cfef_16 : decode cJ2_indexOf_4cfef 16 = .ok (.iload_n 3, 1) := by decide +kernel
theorem dJ2_indexOf_4cfef_17 : decode cJ2_indexOf_4cfef 17 = .ok (.if_icmp .lt 5, 3) := by decide +kernel
theorem dJ2_indexOf_4cfef_20 : decode cJ2_indexOf_4cfef 20 = .ok (.iconst (-1), 1) := by decide +kernel
theorem dJ2_indexOf_4cfef_21 : decode cJ2_indexOf_4cfef 21 = .ok (.ireturn, 1) := by decide +kernel
theorem dJ2_indexOf_4cfef_22 : decode cJ2_indexOf_4cfef 22 = .ok (.iload_n 1, 1) := by decide +kernel
theorem dJ2_indexOf_4cfef_23 : decode cJ2_indexOf_4cfef 23 = .ok (.ldc 227, 2) := by decide +kernel
theorem dJ2_indexOf_4cfef_25 : decode cJ2_indexOf_4cfef 25 = .ok (.if_icmp .ge 11, 3) := by decide +kernel
theorem dJ2_indexOf_4cfef_28 : decode cJ2_indexOf_4cfef 28 = .ok (.aload_n 0, 1) := by decide +kernel
theorem dJ2_indexOf_4cfef_29 : decode cJ2_indexOf_4cfef 29 = .ok (.iload_n 1, 1) := by decide +kernel
theorem dJ2_indexOf_4cfef_30 : decode cJ2_indexOf_4cfef 30 = .ok (.iload_n 2, 1) := by decide +kernel
theorem dJ2_indexOf_4cfef_31 : decode cJ2_indexOf_4cfef 31 = .ok (.iload_n 3, 1) := by decide +kernel
theorem dJ2_indexOf_4cfef_32 : decode cJ2_indexOf_4cfef 32 = .ok (.invokestatic 228, 3) := by decide +kernel
theorem dJ2_indexOf_4cfef_35 : decode cJ2_indexOf_4cfef 35 = .ok (.ireturn, 1) := by decide +kernel
theorem dJ2_indexOf_4cfef_36 : decode cJ2_indexOf_4cfef 36 = .ok (.aload_n 0, 1) := by decide +kernel
theorem dJ2_indexOf_4cfef_37 : decode cJ2_indexOf_4cfef 37 = .ok (.iload_n 1, 1) := by decide +kernel
theorem dJ2_indexOf_4cfef_38 : decode cJ2_indexOf_4cfef 38 = .ok (.iload_n 2, 1) := by decide +kernel
theorem dJ2_indexOf_4cfef_39 : decode cJ2_indexOf_4cfef 39 = .ok (.iload_n 3, 1) := by decide +kernel
theorem dJ2_indexOf_4cfef_40 : decode cJ2_indexOf_4cfef 40 = .ok (.invokestatic 232, 3) := by decide +kernel
theorem dJ2_indexOf_4cfef_43 : decode cJ2_indexOf_4cfef 43 = .ok (.ireturn, 1) := by decide +kernel
set_option maxRecDepth 20000 in
theorem ggJ2_indexOfChar_4cfef_J2_checkBoundsBeginEnd_d044e : GoodIn wsJ2_indexOfChar_4cfef wsJ2_checkBoundsBeginEnd_d044e := goodIn_r _ [4, 5, 6, 3, 7, 8, 9, 10, 11, 12, 13, 14, 15, 16] (by decide +kernel) (by decide +kernel)
set_option maxRecDepth 20000 in
theorem gJ2_indexOfChar_4cfef_J2_checkBoundsBeginEnd_d044e : GoodIn wsJ2_indexOfChar_4cfef (va_wsS RJ2 96 yJ2_checkBoundsBeginEnd_d044e wsJ2_checkBoundsBeginEnd_d044e) := goodIn_app (goodIn_of _ (by decide +kernel)) ggJ2_indexOfChar_4cfef_J2_checkBoundsBeginEnd_d044e
set_option maxRecDepth 20000 in
theorem ggJ2_indexOfChar_4cfef_J2_indexOfCharUnsafe_4cfef : GoodIn wsJ2_indexOfChar_4cfef wsJ2_indexOfCharUnsafe_4cfef := goodIn_r _ [19, 20, 21, 3, 22, 23, 24, 25, 5, 6, 7] (by decide +kernel) (by decide +kernel)
set_option maxRecDepth 20000 in
theorem gJ2_indexOfChar_4cfef_J2_indexOfCharUnsafe_4cfef : GoodIn wsJ2_indexOfChar_4cfef (va_wsS RJ2 244 yJ2_indexOfCharUnsafe_4cfef wsJ2_indexOfCharUnsafe_4cfef) := goodIn_app (goodIn_of _ (by decide +kernel)) ggJ2_indexOfChar_4cfef_J2_indexOfCharUnsafe_4cfef
theorem dJ2_indexOfChar_4cfef_0 : decode cJ2_indexOfChar_4cfef 0 = .ok (.iload_n 2, 1) := by decide +kernel
theorem dJ2_indexOfChar_4cfef_1 : decode cJ2_indexOfChar_4cfef 1 = .ok (.iload_n 3, 1) := by decide +kernel
theorem dJ2_indexOfChar_4cfef_2 : decode cJ2_indexOfChar_4cfef 2 = .ok (.aload_n 0, 1) := by decide +kernel
theorem dJ2_indexOfChar_4cfef_3 : decode cJ2_indexOfChar_4cfef 3 = .ok (.invokestatic 96, 3) := by decide +kernel
theorem dJ2_indexOfChar_4cfef_6 : decode cJ2_indexOfChar_4cfef 6 = .ok (.aload_n 0, 1) := by decide +kernel
theorem dJ2_indexOfChar_4cfef_7 : decode cJ2_indexOfChar_4cfef 7 = .ok (.iload_n 1, 1) := by decide +kernel
theorem dJ2_indexOfChar_4cfef_8 : decode cJ2_indexOfChar_4cfef 8 = .ok (.iload_n 2, 1) := by decide +kernel
theorem dJ2_indexOfChar_4cfef_9 : decode cJ2_indexOfChar_4cfef 9 = .ok (.iload_n 3, 1) := by decide +kernel
theorem dJ2_indexOfChar_4cfef_10 : decode cJ2_indexOfChar_4cfef 10 = .ok (.invokestatic 244, 3) := by decide +kernel
theorem dJ2_indexOfChar_4cfef_13 : decode cJ2_indexOfChar_4cfef 13 = .ok (.ireturn, 1) := by decide +kernel
set_option maxRecDepth 20000 in
theorem ggJ2_indexOfCharUnsafe_4cfef_J2_getChar_3b067 : GoodIn wsJ2_indexOfCharUnsafe_4cfef wsJ2_getChar_3b067 := goodIn_r _ [4, 5, 6, 7, 8, 9, 3, 10] (by decide +kernel) (by decide +kernel)
set_option maxRecDepth 20000 in
theorem gJ2_indexOfCharUnsafe_4cfef_J2_getChar_3b067 : GoodIn wsJ2_indexOfCharUnsafe_4cfef (va_wsS RJ2 71 yJ2_getChar_3b067 wsJ2_getChar_3b067) := goodIn_app (goodIn_of _ (by decide +kernel)) ggJ2_indexOfCharUnsafe_4cfef_J2_getChar_3b067
theorem dJ2_indexOfCharUnsafe_4cfef_0 : decode cJ2_indexOfCharUnsafe_4cfef 0 = .ok (.iload_n 2, 1) := by decide +kernel
theorem dJ2_indexOfCharUnsafe_4cfef_1 : decode cJ2_indexOfCharUnsafe_4cfef 1 = .ok (.istore 4, 2) := by decide +kernel
theorem dJ2_indexOfCharUnsafe_4cfef_3 : decode cJ2_indexOfCharUnsafe_4cfef 3 = .ok (.iload 4, 2) := by decide +kernel
theorem dJ2_indexOfCharUnsafe_4cfef_5 : decode cJ2_indexOfCharUnsafe_4cfef 5 = .ok (.iload_n 3, 1) := by decide +kernel
theorem dJ2_indexOfCharUnsafe_4cfef_6 : decode cJ2_indexOfCharUnsafe_4cfef 6 = .ok (.if_icmp .ge 22, 3) := by decide +kernel
theorem dJ2_indexOfCharUnsafe_4cfef_9 : decode cJ2_indexOfCharUnsafe_4cfef 9 = .ok (.aload_n 0, 1) := by decide +kernel
theorem dJ2_indexOfCharUnsafe_4cfef_10 : decode cJ2_indexOfCharUnsafe_4cfef 10 = .ok (.iload 4, 2) := by decide +kernel
theorem dJ2_indexOfCharUnsafe_4cfef_12 : decode cJ2_indexOfCharUnsafe_4cfef 12 = .ok (.invokestatic 71, 3) := by decide +kernel
theorem dJ2_indexOfCharUnsafe_4cfef_15 : decode cJ2_indexOfCharUnsafe_4cfef 15 = .ok (.iload_n 1, 1) := by decide +kernel
theorem dJ2_indexOfCharUnsafe_4cfef_16 : decode cJ2_indexOfCharUnsafe_4cfef 16 = .ok (.if_icmp .ne 6, 3) := by decide +kernel
theorem dJ2_indexOfCharUnsafe_4cfef_19 : decode cJ2_indexOfCharUnsafe_4cfef 19 = .ok (.iload 4, 2) := by decide +kernel
theorem dJ2_indexOfCharUnsafe_4cfef_21 : decode cJ2_indexOfCharUnsafe_4cfef 21 = .ok (.ireturn, 1) := by decide +kernel
theorem dJ2_indexOfCharUnsafe_4cfef_22 : decode cJ2_indexOfCharUnsafe_4cfef 22 = .ok (.iinc 4 1, 3) := by decide +kernel
theorem dJ2_indexOfCharUnsafe_4cfef_25 : decode cJ2_indexOfCharUnsafe_4cfef 25 = .ok (.goto (-22), 3) := by decide +kernel
theorem dJ2_indexOfCharUnsafe_4cfef_28 : decode cJ2_indexOfCharUnsafe_4cfef 28 = .ok (.iconst (-1), 1) := by decide +kernel
theorem dJ2_indexOfCharUnsafe_4cfef_29 : decode cJ2_indexOfCharUnsafe_4cfef 29 = .ok (.ireturn, 1) := by decide +kernel
set_option maxRecDepth 20000 in
theorem ggJ2_indexOfSupplementary_4cfef_J11_isValidCodePoint_9a6ad : GoodIn wsJ2_indexOfSupplementary_4cfef wsJ11_isValidCodePoint_9a6ad := goodIn_r _ [4] (by decide +kernel) (by decide +kernel)
set_option maxRecDepth 20000 in
theorem gJ2_indexOfSupplementary_4cfef_J11_isValidCodePoint_9a6ad : GoodIn wsJ2_indexOfSupplementary_4cfef (va_wsS RJ2 164 yJ11_isValidCodePoint_9a6ad wsJ11_isValidCodePoint_9a6ad) := goodIn_app (goodIn_of _ (by decide +kernel)) ggJ2_indexOfSupplementary_4cfef_J11_isValidCodePoint_9a6ad
set_option maxRecDepth 20000 in
theorem ggJ2_indexOfSupplementary_4cfef_J11_highSurrogate_5068e : GoodIn wsJ2_indexOfSupplementary_4cfef wsJ11_highSurrogate_5068e := goodIn_r _ [7, 8] (by decide +kernel) (by decide +kernel)
set_option maxRecDepth 20000 in
theorem gJ2_indexOfSupplementary_4cfef_J11_highSurrogate_5068e : GoodIn wsJ2_indexOfSupplementary_4cfef (va_wsS RJ2 157 yJ11_highSurrogate_5068e wsJ11_highSurrogate_5068e) := goodIn_app (goodIn_of _ (by decide +kernel)) ggJ2_indexOfSupplementary_4cfef_J11_highSurrogate_5068e
set_option maxRecDepth 20000 in
theorem ggJ2_indexOfSupplementary_4cfef_J11_lowSurrogate_5068e : GoodIn wsJ2_indexOfSupplementary_4cfef wsJ11_lowSurrogate_5068e := goodIn_r _ [11, 12] (by decide +kernel) (by decide +kernel)
set_option maxRecDepth 20000 in
theorem gJ2_indexOfSupplementary_4cfef_J11_lowSurrogate_5068e : GoodIn wsJ2_indexOfSupplementary_4cfef (va_wsS RJ2 161 yJ11_lowSurrogate_5068e wsJ11_lowSurrogate_5068e) := goodIn_app (goodIn_of _ (by decide +kernel)) ggJ2_indexOfSupplementary_4cfef_J11_lowSurrogate_5068e
set_option maxRecDepth 20000 in
theorem ggJ2_indexOfSupplementary_4cfef_J2_checkBoundsBeginEnd_d044e : GoodIn wsJ2_indexOfSupplementary_4cfef wsJ2_checkBoundsBeginEnd_d044e := goodIn_r _ [16, 17, 18, 15, 19, 20, 21, 22, 23, 24, 25, 26, 27, 28] (by decide +kernel) (by decide +kernel)
set_option maxRecDepth 20000 in
theorem gJ2_indexOfSupplementary_4cfef_J2_checkBoundsBeginEnd_d044e : GoodIn wsJ2_indexOfSupplementary_4cfef (va_wsS RJ2 96 yJ2_checkBoundsBeginEnd_d044e wsJ2_checkBoundsBeginEnd_d044e) := goodIn_app (goodIn_of _ (by decide +kernel)) ggJ2_indexOfSupplementary_4cfef_J2_checkBoundsBeginEnd_d044e
set_option maxRecDepth 20000 in
theorem ggJ2_indexOfSupplementary_4cfef_J2_getChar_3b067 : GoodIn wsJ2_indexOfSupplementary_4cfef wsJ2_getChar_3b067 := goodIn_r _ [31, 32, 33, 34, 17, 18, 15, 19] (by decide +kernel) (by decide +kernel)
set_option maxRecDepth 20000 in
theorem gJ2_indexOfSupplementary_4cfef_J2_getChar_3b067 : GoodIn wsJ2_indexOfSupplementary_4cfef (va_wsS RJ2 71 yJ2_getChar_3b067 wsJ2_getChar_3b067) := goodIn_app (goodIn_of _ (by decide +kernel)) ggJ2_indexOfSupplementary_4cfef_J2_getChar_3b067
theorem dJ2_indexOfSupplementary_4cfef_0 : decode cJ2_indexOfSupplementary_4cfef 0 = .ok (.iload_n 1, 1) := by decide +kernel
theorem dJ2_indexOfSupplementary_4cfef_1 : decode cJ2_indexOfSupplementary_4cfef 1 = .ok (.invokestatic 164, 3) := by decide +kernel
theorem dJ2_indexOfSupplementary_4cfef_4 : decode cJ2_indexOfSupplementary_4cfef 4 = .ok (.ifCond .eq 65, 3) := by decide +kernel
theorem dJ2_indexOfSupplementary_4cfef_7 : decode cJ2_indexOfSupplementary_4cfef 7 = .ok (.iload_n 1, 1) := by decide +kernel
theorem dJ2_indexOfSupplementary_4cfef_8 : decode cJ2_indexOfSupplementary_4cfef 8 = .ok (.invokestatic 157, 3) := by decide +kernel
theorem dJ2_indexOfSupplementary_4cfef_11 : decode cJ2_indexOfSupplementary_4cfef 11 = .ok (.istore 4, 2) := by decide +kernel
theorem dJ2_indexOfSupplementary_4cfef_13 : decode cJ2_indexOfSupplementary_4cfef 13 = .ok (.iload_n 1, 1) := by decide +kernel
theorem dJ2_indexOfSupplementary_4cfef_14 : decode cJ2_indexOfSupplementary_4cfef 14 = .ok (.invokestatic 161, 3) := by decide +kernel
theorem dJ2_indexOfSupplementary_4cfef_17 : decode cJ2_indexOfSupplementary_4cfef 17 = .ok (.istore 5, 2) := by decide +kernel
theorem dJ2_indexOfSupplementary_4cfef_19 : decode cJ2_indexOfSupplementary_4cfef 19 = .ok (.iload_n 2, 1) := by decide +kernel
theorem dJ2_indexOfSupplementary_4cfef_20 : decode cJ2_indexOfSupplementary_4cfef 20 = .ok (.iload_n 3, 1) := by decide +kernel
theorem dJ2_indexOfSupplementary_4cfef_21 : decode cJ2_indexOfSupplementary_4cfef 21 = .ok (.aload_n 0, 1) := by decide +kernel
theorem dJ2_indexOfSupplementary_4cfef_22 : decode cJ2_indexOfSupplementary_4cfef 22 = .ok (.invokestatic 96, 3) := by decide +kernel
theorem dJ2_indexOfSupplementary_4cfef_25 : decode cJ2_indexOfSupplementary_4cfef 25 = .ok (.iload_n 2, 1) := by decide +kernel
theorem dJ2_indexOfSupplementary_4cfef_26 : decode cJ2_indexOfSupplementary_4cfef 26 = .ok (.istore 6, 2) := by decide +kernel
theorem dJ2_indexOfSupplementary_4cfef_28 : decode cJ2_indexOfSupplementary_4cfef 28 = .ok (.iload 6, 2) := by decide +kernel
theorem dJ2_indexOfSupplementary_4cfef_30 : decode cJ2_indexOfSupplementary_4cfef 30 = .ok (.iload_n 3, 1) := by decide +kernel
theorem dJ2_indexOfSupplementary_4cfef_31 : decode cJ2_indexOfSupplementary_4cfef 31 = .ok (.iconst 1, 1) := by decide +kernel
theorem dJ2_indexOfSupplementary_4cfef_32 : decode cJ2_indexOfSupplementary_4cfef 32 = .ok (.isub, 1) := by decide +kernel
theorem dJ2_indexOfSupplementary_4cfef_33 : decode cJ2_indexOfSupplementary_4cfef 33 = .ok (.if_icmp .ge 36, 3) := by decide +kernel
theorem dJ2_indexOfSupplementary_4cfef_36 : decode cJ2_indexOfSupplementary_4cfef 36 = .ok (.aload_n 0, 1) := by decide +kernel
theorem dJ2_indexOfSupplementary_4cfef_37 : decode cJ2_indexOfSupplementary_4cfef 37 = .ok (.iload 6, 2) := by decide +kernel
theorem dJ2_indexOfSupplementary_4cfef_39 : decode cJ2_indexOfSupplementary_4cfef 39 = .ok (.invokestatic 71, 3) := by decide +kernel
theorem dJ2_indexOfSupplementary_4cfef_42 : decode cJ2_indexOfSupplementary_4cfef 42 = .ok (.iload 4, 2) := by decide +kernel
theorem dJ2_indexOfSupplementary_4cfef_44 : decode cJ2_indexOfSupplementary_4cfef 44 = .ok (.if_icmp .ne 19, 3) := by decide +kernel
theorem dJ2_indexOfSupplementary_4cfef_47 : decode cJ2_indexOfSupplementary_4cfef 47 = .ok (.aload_n 0, 1) := by decide +kernel
theorem dJ2_indexOfSupplementary_4cfef_48 : decode cJ2_indexOfSupplementary_4cfef 48 = .ok (.iload 6, 2) := by decide +kernel
theorem dJ2_indexOfSupplementary_4cfef_50 : decode cJ2_indexOfSupplementary_4cfef 50 = .ok (.iconst 1, 1) := by decide +kernel
theorem dJ2_indexOfSupplementary_4cfef_51 : decode cJ2_indexOfSupplementary_4cfef 51 = .ok (.iadd, 1) := by decide +kernel
theorem dJ2_indexOfSupplementary_4cfef_52 : decode cJ2_indexOfSupplementary_4cfef 52 = .ok (.invokestatic 71, 3) := by decide +kernel
theorem dJ2_indexOfSupplementary_4cfef_55 : decode cJ2_indexOfSupplementary_4cfef 55 = .ok (.iload 5, 2) := by decide +kernel
theorem dJ2_indexOfSupplementary_4cfef_57 : decode cJ2_indexOfSupplementary_4cfef 57 = .ok (.if_icmp .ne 6, 3) := by decide +kernel
theorem dJ2_indexOfSupplementary_4cfef_60 : decode cJ2_indexOfSupplementary_4cfef 60 = .ok (.iload 6, 2) := by decide +kernel
theorem dJ2_indexOfSupplementary_4cfef_62 : decode cJ2_indexOfSupplementary_4cfef 62 = .ok (.ireturn, 1) := by decide +kernel
theorem dJ2_indexOfSupplementary_4cfef_63 : decode cJ2_indexOfSupplementary_4cfef 63 = .ok (.iinc 6 1, 3) := by decide +kernel
theorem dJ2_indexOfSupplementary_4cfef_66 : decode cJ2_indexOfSupplementary_4cfef 66 = .ok (.goto (-38), 3) := by decide +kernel
theorem dJ2_indexOfSupplementary_4cfef_69 : decode cJ2_indexOfSupplementary_4cfef 69 = .ok (.iconst (-1), 1) := by decide +kernel
theorem dJ2_indexOfSupplementary_4cfef_70 : decode cJ2_indexOfSupplementary_4cfef 70 = .ok (.ireturn, 1) := by decide +kernel
set_option maxRecDepth 20000 in
theorem ggJ2_charAt_3b067_J2_checkIndex_2214a : GoodIn wsJ2_charAt_3b067 wsJ2_checkIndex_2214a := goodIn_r _ [4, 5, 6, 3, 7, 8, 9, 10, 11, 12, 13, 14, 15, 16] (by decide +kernel) (by decide +kernel)
set_option maxRecDepth 20000 in
theorem gJ2_charAt_3b067_J2_checkIndex_2214a : GoodIn wsJ2_charAt_3b067 (va_wsS RJ2 67 yJ2_checkIndex_2214a wsJ2_checkIndex_2214a) := goodIn_app (goodIn_of _ (by decide +kernel)) ggJ2_charAt_3b067_J2_checkIndex_2214a
set_option maxRecDepth 20000 in
theorem ggJ2_charAt_3b067_J2_getChar_3b067 : GoodIn wsJ2_charAt_3b067 wsJ2_getChar_3b067 := goodIn_r _ [19, 20, 21, 22, 5, 6, 3, 7] (by decide +kernel) (by decide +kernel)
set_option maxRecDepth 20000 in
theorem gJ2_charAt_3b067_J2_getChar_3b067 : GoodIn wsJ2_charAt_3b067 (va_wsS RJ2 71 yJ2_getChar_3b067 wsJ2_getChar_3b067) := goodIn_app (goodIn_of _ (by decide +kernel)) ggJ2_charAt_3b067_J2_getChar_3b067
theorem dJ2_charAt_3b067_0 : decode cJ2_charAt_3b067 0 = .ok (.iload_n 1, 1) := by decide +kernel
theorem dJ2_charAt_3b067_1 : decode cJ2_charAt_3b067 1 = .ok (.aload_n 0, 1) := by decide +kernel
theorem dJ2_charAt_3b067_2 : decode cJ2_charAt_3b067 2 = .ok (.invokestatic 67, 3) := by decide +kernel
theorem dJ2_charAt_3b067_5 : decode cJ2_charAt_3b067 5 = .ok (.aload_n 0, 1) := by decide +kernel
theorem dJ2_charAt_3b067_6 : decode cJ2_charAt_3b067 6 = .ok (.iload_n 1, 1) := by decide +kernel
theorem dJ2_charAt_3b067_7 : decode cJ2_charAt_3b067 7 = .ok (.invokestatic 71, 3) := by decide +kernel
theorem dJ2_charAt_3b067_10 : decode cJ2_charAt_3b067 10 = .ok (.ireturn, 1) := by decide +kernel
set_option maxRecDepth 20000 in
theorem ggJ2_checkIndex_2214a_J2_length_9d52b : GoodIn wsJ2_checkIndex_2214a wsJ2_length_9d52b := goodIn_r _ [4] (by decide +kernel) (by decide +kernel)
set_option maxRecDepth 20000 in
theorem gJ2_checkIndex_2214a_J2_length_9d52b : GoodIn wsJ2_checkIndex_2214a (va_wsS RJ2 48 yJ2_length_9d52b wsJ2_length_9d52b) := goodIn_app (goodIn_of _ (by decide +kernel)) ggJ2_checkIndex_2214a_J2_length_9d52b
set_option maxRecDepth 20000 in
theorem ggJ2_checkIndex_2214a_J0_checkIndex_df160 : GoodIn wsJ2_checkIndex_2214a wsJ0_checkIndex_df160 := goodIn_r _ [8, 9, 10, 11, 12, 13] (by decide +kernel) (by decide +kernel)
set_option maxRecDepth 20000 in
theorem gJ2_checkIndex_2214a_J0_checkIndex_df160 : GoodIn wsJ2_checkIndex_2214a (va_wsS RJ2 414 yJ0_checkIndex_df160 wsJ0_checkIndex_df160) := goodIn_app (goodIn_of _ (by decide +kernel)) ggJ2_checkIndex_2214a_J0_checkIndex_df160
theorem dJ2_checkIndex_2214a_0 : decode cJ2_checkIndex_2214a 0 = .ok (.iload_n 0, 1) := by decide +kernel
theorem dJ2_checkIndex_2214a_1 : decode cJ2_checkIndex_2214a 1 = .ok (.aload_n 1, 1) := by decide +kernel
theorem dJ2_checkIndex_2214a_2 : decode cJ2_checkIndex_2214a 2 = .ok (.invokestatic 48, 3) := by decide +kernel
theorem dJ2_checkIndex_2214a_5 : decode cJ2_checkIndex_2214a 5 = .ok (.invokestatic 414, 3) := by decide +kernel
theorem dJ2_checkIndex_2214a_8 : decode cJ2_checkIndex_2214a 8 = .ok (.return_, 1) := by decide +kernel
set_option maxRecDepth 20000 in
theorem ggJ2_checkBoundsBeginEnd_d044e_J2_length_9d52b : GoodIn wsJ2_checkBoundsBeginEnd_d044e wsJ2_length_9d52b := goodIn_r _ [4] (by decide +kernel) (by decide +kernel)
set_option maxRecDepth 20000 in
theorem gJ2_checkBoundsBeginEnd_d044e_J2_length_9d52b : GoodIn wsJ2_checkBoundsBeginEnd_d044e (va_wsS RJ2 48 yJ2_length_9d52b wsJ2_length_9d52b) := goodIn_app (goodIn_of _ (by decide +kernel)) ggJ2_checkBoundsBeginEnd_d044e_J2_length_9d52b
set_option maxRecDepth 20000 in
theorem ggJ2_checkBoundsBeginEnd_d044e_J0_checkBoundsBeginEnd_23922 : GoodIn wsJ2_checkBoundsBeginEnd_d044e wsJ0_checkBoundsBeginEnd_23922 := goodIn_r _ [8, 9, 10, 11, 12, 13] (by decide +kernel) (by decide +kernel)
set_option maxRecDepth 20000 in
theorem gJ2_checkBoundsBeginEnd_d044e_J0_checkBoundsBeginEnd_23922 : GoodIn wsJ2_checkBoundsBeginEnd_d044e (va_wsS RJ2 241 yJ0_checkBoundsBeginEnd_23922 wsJ0_checkBoundsBeginEnd_23922) := goodIn_app (goodIn_of _ (by decide +kernel)) ggJ2_checkBoundsBeginEnd_d044e_J0_checkBoundsBeginEnd_23922
theorem dJ2_checkBoundsBeginEnd_d044e_0 : decode cJ2_checkBoundsBeginEnd_d044e 0 = .ok (.iload_n 0, 1) := by decide +kernel
theorem dJ2_checkBoundsBeginEnd_d044e_1 : decode cJ2_checkBoundsBeginEnd_d044e 1 = .ok (.iload_n 1, 1) := by decide +kernel
theorem dJ2_checkBoundsBeginEnd_d044e_2 : decode cJ2_checkBoundsBeginEnd_d044e 2 = .ok (.aload_n 2, 1) := by decide +kernel
theorem dJ2_checkBoundsBeginEnd_d044e_3 : decode cJ2_checkBoundsBeginEnd_d044e 3 = .ok (.invokestatic 48, 3) := by decide +kernel
theorem dJ2_checkBoundsBeginEnd_d044e_6 : decode cJ2_checkBoundsBeginEnd_d044e 6 = .ok (.invokestatic 241, 3) := by decide +kernel
theorem dJ2_checkBoundsBeginEnd_d044e_9 : decode cJ2_checkBoundsBeginEnd_d044e 9 = .ok (.return_, 1) := by decide +kernel
theorem dJ3_checkIndex_8e157_0 : decode cJ3_checkIndex_8e157 0 = .ok (.iload_n 0, 1) := by decide +kernel
theorem dJ3_checkIndex_8e157_1 : decode cJ3_checkIndex_8e157 1 = .ok (.ifCond .lt 8, 3) := by decide +kernel
theorem dJ3_checkIndex_8e157_4 : decode cJ3_checkIndex_8e157 4 = .ok (.iload_n 0, 1) := by decide +kernel
theorem dJ3_checkIndex_8e157_5 : decode cJ3_checkIndex_8e157 5 = .ok (.iload_n 1, 1) := by decide +kernel
theorem dJ3_checkIndex_8e157_6 : decode cJ3_checkIndex_8e157 6 = .ok (.if_icmp .lt 10, 3) := by decide +kernel
theorem dJ3_checkIndex_8e157_9 : decode cJ3_checkIndex_8e157 9 = .ok (.aload_n 2, 1) := by decide +kernel
theorem dJ3_checkIndex_8e157_10 : decode cJ3_checkIndex_8e157 10 = .ok (.iload_n 0, 1) := by decide +kernel
theorem dJ3_checkIndex_8e157_11 : decode cJ3_checkIndex_8e157 11 = .ok (.iload_n 1, 1) := by decide +kernel
