theorem dX8_spells_0 : decode cX8_spells 0 = .ok (.iconst 0, 1) := by decide +kernel
theorem dX8_spells_1 : decode cX8_spells 1 = .ok (.istore_n 2, 1) := by decide +kernel
theorem dX8_spells_2 : decode cX8_spells 2 = .ok (.iload_n 2, 1) := by decide +kernel
theorem dX8_spells_3 : decode cX8_spells 3 = .ok (.aload_n 1, 1) := by decide +kernel
theorem dX8_spells_4 : decode cX8_spells 4 = .ok (.invokevirtual 56, 3) := by decide +kernel
theorem dX8_spells_7 : decode cX8_spells 7 = .ok (.if_icmp .ge 18, 3) := by decide +kernel
theorem dX8_spells_10 : decode cX8_spells 10 = .ok (.aload_n 0, 1) := by decide +kernel
theorem dX8_spells_11 : decode cX8_spells 11 = .ok (.aload_n 1, 1) := by decide +kernel
theorem dX8_spells_12 : decode cX8_spells 12 = .ok (.iload_n 2, 1) := by decide +kernel
theorem dX8_spells_13 : decode cX8_spells 13 = .ok (.invokevirtual 61, 3) := by decide +kernel
theorem dX8_spells_16 : decode cX8_spells 16 = .ok (.invokevirtual 65, 3) := by decide +kernel
theorem dX8_spells_19 : decode cX8_spells 19 = .ok (.iinc 2 1, 3) := by decide +kernel
theorem dX8_spells_22 : decode cX8_spells 22 = .ok (.goto (-20), 3) := by decide +kernel
theorem dX8_spells_25 : decode cX8_spells 25 = .ok (.return_, 1) := by decide +kernel
set_option maxRecDepth 20000 in
theorem ggX8_figures_X8_here : GoodIn wsX8_figures wsX8_here := goodIn_r _ [7, 2, 8, 9, 13, 14, 15, 16, 17, 18, 19, 20, 21, 22, 23, 24, 25, 26, 27, 28, 29, 30, 31, 32] (by decide +kernel) (by decide +kernel)
set_option maxRecDepth 20000 in
theorem gX8_figures_X8_here : GoodIn wsX8_figures (wsV RX8 52 RX8 yX8_here wsX8_here) := goodIn_app (goodIn_of _ (by decide +kernel)) ggX8_figures_X8_here
set_option maxRecDepth 20000 in
theorem ggX8_figures_X8_in : GoodIn wsX8_figures wsX8_in := goodIn_r _ [12] (by decide +kernel) (by decide +kernel)
set_option maxRecDepth 20000 in
theorem gX8_figures_X8_in : GoodIn wsX8_figures (va_wsS RX8 38 yX8_in wsX8_in) := goodIn_app (goodIn_of _ (by decide +kernel)) ggX8_figures_X8_in
theorem dX8_figures_0 : decode cX8_figures 0 = .ok (.aload_n 0, 1) := by decide +kernel
theorem dX8_figures_1 : decode cX8_figures 1 = .ok (.aload_n 0, 1) := by decide +kernel
theorem dX8_figures_2 : decode cX8_figures 2 = .ok (.getfield 48, 3) := by decide +kernel
theorem dX8_figures_5 : decode cX8_figures 5 = .ok (.ifCond .ne 17, 3) := by decide +kernel
theorem dX8_figures_8 : decode cX8_figures 8 = .ok (.aload_n 0, 1) := by decide +kernel
theorem dX8_figures_9 : decode cX8_figures 9 = .ok (.invokevirtual 52, 3) := by decide +kernel
theorem dX8_figures_12 : decode cX8_figures 12 = .ok (.bipush 48, 2) := by decide +kernel
theorem dX8_figures_14 : decode cX8_figures 14 = .ok (.bipush 57, 2) := by decide +kernel
theorem dX8_figures_16 : decode cX8_figures 16 = .ok (.invokestatic 38, 3) := by decide +kernel
theorem dX8_figures_19 : decode cX8_figures 19 = .ok (.ifCond .ne 7, 3) := by decide +kernel
theorem dX8_figures_22 : decode cX8_figures 22 = .ok (.iconst 1, 1) := by decide +kernel
theorem dX8_figures_23 : decode cX8_figures 23 = .ok (.goto 4, 3) := by decide +kernel
theorem dX8_figures_26 : decode cX8_figures 26 = .ok (.iconst 0, 1) := by decide +kernel
theorem dX8_figures_27 : decode cX8_figures 27 = .ok (.putfield 48, 3) := by decide +kernel
theorem dX8_figures_30 : decode cX8_figures 30 = .ok (.iconst 0, 1) := by decide +kernel
theorem dX8_figures_31 : decode cX8_figures 31 = .ok (.istore_n 1, 1) := by decide +kernel
theorem dX8_figures_32 : decode cX8_figures 32 = .ok (.iconst 0, 1) := by decide +kernel
theorem dX8_figures_33 : decode cX8_figures 33 = .ok (.istore_n 2, 1) := by decide +kernel
theorem dX8_figures_34 : decode cX8_figures 34 = .ok (.iload_n 2, 1) := by decide +kernel
theorem dX8_figures_35 : decode cX8_figures 35 = .ok (.iconst 2, 1) := by decide +kernel
theorem dX8_figures_36 : decode cX8_figures 36 = .ok (.if_icmp .ge 61, 3) := by decide +kernel
theorem dX8_figures_39 : decode cX8_figures 39 = .ok (.aload_n 0, 1) := by decide +kernel
theorem dX8_figures_40 : decode cX8_figures 40 = .ok (.getfield 48, 3) := by decide +kernel
theorem dX8_figures_43 : decode cX8_figures 43 = .ok (.ifCond .ne 54, 3) := by decide +kernel
theorem dX8_figures_46 : decode cX8_figures 46 = .ok (.aload_n 0, 1) := by decide +kernel
theorem dX8_figures_47 : decode cX8_figures 47 = .ok (.invokevirtual 52, 3) := by decide +kernel
theorem dX8_figures_50 : decode cX8_figures 50 = .ok (.bipush 48, 2) := by decide +kernel
theorem dX8_figures_52 : decode cX8_figures 52 = .ok (.bipush 57, 2) := by decide +kernel
theorem dX8_figures_54 : decode cX8_figures 54 = .ok (.invokestatic 38, 3) := by decide +kernel
theorem dX8_figures_57 : decode cX8_figures 57 = .ok (.ifCond .eq 40, 3) := by decide +kernel
theorem dX8_figures_60 : decode cX8_figures 60 = .ok (.iload_n 2, 1) := by decide +kernel
theorem dX8_figures_61 : decode cX8_figures 61 = .ok (.ifCond .eq 7, 3) := by decide +kernel
theorem dX8_figures_64 : decode cX8_figures 64 = .ok (.iload_n 1, 1) := by decide +kernel
theorem dX8_figures_65 : decode cX8_figures 65 = .ok (.ifCond .le 32, 3) := by decide +kernel
theorem dX8_figures_68 : decode cX8_figures 68 = .ok (.bipush 10, 2) := by decide +kernel
theorem dX8_figures_70 : decode cX8_figures 70 = .ok (.iload_n 1, 1) := by decide +kernel
theorem dX8_figures_71 : decode cX8_figures 71 = .ok (.imul, 1) := by decide +kernel
theorem dX8_figures_72 : decode cX8_figures 72 = .ok (.aload_n 0, 1) := by decide +kernel
theorem dX8_figures_73 : decode cX8_figures 73 = .ok (.invokevirtual 52, 3) := by decide +kernel
theorem dX8_figures_76 : decode cX8_figures 76 = .ok (.iadd, 1) := by decide +kernel
theorem dX8_figures_77 : decode cX8_figures 77 = .ok (.bipush 48, 2) := by decide +kernel
theorem dX8_figures_79 : decode cX8_figures 79 = .ok (.isub, 1) := by decide +kernel
theorem dX8_figures_80 : decode cX8_figures 80 = .ok (.istore_n 1, 1) := by decide +kernel
theorem dX8_figures_81 : decode cX8_figures 81 = .ok (.aload_n 0, 1) := by decide +kernel
theorem dX8_figures_82 : decode cX8_figures 82 = .ok (.dup, 1) := by decide +kernel
theorem dX8_figures_83 : decode cX8_figures 83 = .ok (.getfield 42, 3) := by decide +kernel
theorem dX8_figures_86 : decode cX8_figures 86 = .ok (.iconst 1, 1) := by decide +kernel
theorem dX8_figures_87 : decode cX8_figures 87 = .ok (.iadd, 1) := by decide +kernel
theorem dX8_figures_88 : decode cX8_figures 88 = .ok (.putfield 42, 3) := by decide +kernel
theorem dX8_figures_91 : decode cX8_figures 91 = .ok (.iinc 2 1, 3) := by decide +kernel
theorem dX8_figures_94 : decode cX8_figures 94 = .ok (.goto (-60), 3) := by decide +kernel
theorem dX8_figures_97 : decode cX8_figures 97 = .ok (.iload_n 1, 1) := by decide +kernel
theorem dX8_figures_98 : decode cX8_figures 98 = .ok (.ireturn, 1) := by decide +kernel
set_option maxRecDepth 20000 in
theorem ggX8_among_J0_length_8abf5 : GoodIn wsX8_among wsJ0_length_8abf5 := goodIn_r _ [6, 7, 8, 9, 10, 5, 11, 12, 13] (by decide +kernel) (by decide +kernel)
set_option maxRecDepth 20000 in
theorem gX8_among_J0_length_8abf5 : GoodIn wsX8_among (wsV RX8 56 RJ0 yJ0_length_8abf5 wsJ0_length_8abf5) := goodIn_app (goodIn_of _ (by decide +kernel)) ggX8_among_J0_length_8abf5
set_option maxRecDepth 20000 in
theorem ggX8_among_X8_here : GoodIn wsX8_among wsX8_here := goodIn_r _ [18, 1, 19, 20, 58, 59, 60, 61, 62, 63, 64, 65, 66, 67, 68, 69, 70, 71, 72, 73, 74, 75, 76, 77] (by decide +kernel) (by decide +kernel)
set_option maxRecDepth 20000 in
theorem gX8_among_X8_here : GoodIn wsX8_among (wsV RX8 52 RX8 yX8_here wsX8_here) := goodIn_app (goodIn_of _ (by decide +kernel)) ggX8_among_X8_here
set_option maxRecDepth 20000 in
theorem ggX8_among_J0_charAt_5068e : GoodIn wsX8_among wsJ0_charAt_5068e := goodIn_r _ [24, 7, 25, 26, 27, 5, 28, 12, 13, 29, 30, 31, 32, 33, 34, 35, 36, 37, 38, 39, 40, 41, 42, 43, 44, 45, 46, 47, 48, 49, 50, 51, 52, 53, 54, 55, 56, 57] (by decide +kernel) (by decide +kernel)
set_option maxRecDepth 20000 in
theorem gX8_among_J0_charAt_5068e : GoodIn wsX8_among (wsV RX8 61 RJ0 yJ0_charAt_5068e wsJ0_charAt_5068e) := goodIn_app (goodIn_of _ (by decide +kernel)) ggX8_among_J0_charAt_5068e
theorem dX8_among_0 : decode cX8_among 0 = .ok (.iconst 0, 1) := by decide +kernel
theorem dX8_among_1 : decode cX8_among 1 = .ok (.istore_n 2, 1) := by decide +kernel
theorem dX8_among_2 : decode cX8_among 2 = .ok (.iload_n 2, 1) := by decide +kernel
theorem dX8_among_3 : decode cX8_among 3 = .ok (.aload_n 1, 1) := by decide +kernel
theorem dX8_among_4 : decode cX8_among 4 = .ok (.invokevirtual 56, 3) := by decide +kernel
theorem dX8_among_7 : decode cX8_among 7 = .ok (.if_icmp .ge 33, 3) := by decide +kernel
theorem dX8_among_10 : decode cX8_among 10 = .ok (.aload_n 0, 1) := by decide +kernel
theorem dX8_among_11 : decode cX8_among 11 = .ok (.invokevirtual 52, 3) := by decide +kernel
theorem dX8_among_14 : decode cX8_among 14 = .ok (.aload_n 1, 1) := by decide +kernel
theorem dX8_among_15 : decode cX8_among 15 = .ok (.iload_n 2, 1) := by decide +kernel
theorem dX8_among_16 : decode cX8_among 16 = .ok (.invokevirtual 61, 3) := by decide +kernel
theorem dX8_among_19 : decode cX8_among 19 = .ok (.if_icmp .ne 15, 3) := by decide +kernel
theorem dX8_among_22 : decode cX8_among 22 = .ok (.aload_n 0, 1) := by decide +kernel
theorem dX8_among_23 : decode cX8_among 23 = .ok (.dup, 1) := by decide +kernel
theorem dX8_among_24 : decode cX8_among 24 = .ok (.getfield 42, 3) := by decide +kernel
theorem dX8_among_27 : decode cX8_among 27 = .ok (.iconst 1, 1) := by decide +kernel
theorem dX8_among_28 : decode cX8_among 28 = .ok (.iadd, 1) := by decide +kernel
theorem dX8_among_29 : decode cX8_among 29 = .ok (.putfield 42, 3) := by decide +kernel
theorem dX8_among_32 : decode cX8_among 32 = .ok (.iload_n 2, 1) := by decide +kernel
theorem dX8_among_33 : decode cX8_among 33 = .ok (.ireturn, 1) := by decide +kernel
theorem dX8_among_34 : decode cX8_among 34 = .ok (.iinc 2 1, 3) := by decide +kernel
theorem dX8_among_37 : decode cX8_among 37 = .ok (.goto (-35), 3) := by decide +kernel
theorem dX8_among_40 : decode cX8_among 40 = .ok (.iconst (-1), 1) := by decide +kernel
theorem dX8_among_41 : decode cX8_among 41 = .ok (.ireturn, 1) := by decide +kernel
theorem dX8_emits_0 : decode cX8_emits 0 = .ok (.aload_n 0, 1) := by decide +kernel
theorem dX8_emits_1 : decode cX8_emits 1 = .ok (.getfield 48, 3) := by decide +kernel
theorem dX8_emits_4 : decode cX8_emits 4 = .ok (.ifCond .ne 52, 3) := by decide +kernel
theorem dX8_emits_7 : decode cX8_emits 7 = .ok (.aload_n 0, 1) := by decide +kernel
theorem dX8_emits_8 : decode cX8_emits 8 = .ok (.getfield 9, 3) := by decide +kernel
theorem dX8_emits_11 : decode cX8_emits 11 = .ok (.sipush 226, 3) := by decide +kernel
theorem dX8_emits_14 : decode cX8_emits 14 = .ok (.sipush 140, 3) := by decide +kernel
theorem dX8_emits_17 : decode cX8_emits 17 = .ok (.aload_n 0, 1) := by decide +kernel
theorem dX8_emits_18 : decode cX8_emits 18 = .ok (.getfield 69, 3) := by decide +kernel
theorem dX8_emits_21 : decode cX8_emits 21 = .ok (.imul, 1) := by decide +kernel
theorem dX8_emits_22 : decode cX8_emits 22 = .ok (.iadd, 1) := by decide +kernel
theorem dX8_emits_23 : decode cX8_emits 23 = .ok (.aload_n 0, 1) := by decide +kernel
theorem dX8_emits_24 : decode cX8_emits 24 = .ok (.getfield 9, 3) := by decide +kernel
theorem dX8_emits_27 : decode cX8_emits 27 = .ok (.sipush 221, 3) := by decide +kernel
theorem dX8_emits_30 : decode cX8_emits 30 = .ok (.aload_n 0, 1) := by decide +kernel
theorem dX8_emits_31 : decode cX8_emits 31 = .ok (.getfield 69, 3) := by decide +kernel
theorem dX8_emits_34 : decode cX8_emits 34 = .ok (.iadd, 1) := by decide +kernel
theorem dX8_emits_35 : decode cX8_emits 35 = .ok (.iaload, 1) := by decide +kernel
theorem dX8_emits_36 : decode cX8_emits 36 = .ok (.iadd, 1) := by decide +kernel
theorem dX8_emits_37 : decode cX8_emits 37 = .ok (.iload_n 1, 1) := by decide +kernel
theorem dX8_emits_38 : decode cX8_emits 38 = .ok (.iastore, 1) := by decide +kernel
theorem dX8_emits_39 : decode cX8_emits 39 = .ok (.aload_n 0, 1) := by decide +kernel
theorem dX8_emits_40 : decode cX8_emits 40 = .ok (.getfield 9, 3) := by decide +kernel
theorem dX8_emits_43 : decode cX8_emits 43 = .ok (.sipush 221, 3) := by decide +kernel
theorem dX8_emits_46 : decode cX8_emits 46 = .ok (.aload_n 0, 1) := by decide +kernel
theorem dX8_emits_47 : decode cX8_emits 47 = .ok (.getfield 69, 3) := by decide +kernel
theorem dX8_emits_50 : decode cX8_emits 50 = .ok (.iadd, 1) := by decide +kernel
theorem dX8_emits_51 : decode cX8_emits 51 = .ok (.dup2, 1) := by decide +kernel
theorem dX8_emits_52 : decode cX8_emits 52 = .ok (.iaload, 1) := by decide +kernel
theorem dX8_emits_53 : decode cX8_emits 53 = .ok (.iconst 1, 1) := by decide +kernel
theorem dX8_emits_54 : decode cX8_emits 54 = .ok (.iadd, 1) := by decide +kernel
theorem dX8_emits_55 : decode cX8_emits 55 = .ok (.iastore, 1) := by decide +kernel
theorem dX8_emits_56 : decode cX8_emits 56 = .ok (.return_, 1) := by decide +kernel
set_option maxRecDepth 20000 in
theorem ggX8_factor_X8_here : GoodIn wsX8_factor wsX8_here := goodIn_r _ [8, 3, 9, 10, 91, 92, 93, 94, 95, 96, 97, 98, 99, 100, 101, 102, 103, 104, 105, 106, 107, 108, 109, 110] (by decide +kernel) (by decide +kernel)
set_option maxRecDepth 20000 in
theorem gX8_factor_X8_here : GoodIn wsX8_factor (wsV RX8 52 RX8 yX8_here wsX8_here) := goodIn_app (goodIn_of _ (by decide +kernel)) ggX8_factor_X8_here
set_option maxRecDepth 20000 in
theorem ggX8_factor_X8_factor : GoodIn wsX8_factor wsX8_factor := goodIn_r _ [0, 1, 2, 3, 4, 5, 6, 7, 8, 9, 10, 11, 12, 13, 14, 15, 16, 17, 18, 19, 20, 21, 22, 23, 24, 25, 26, 27, 28, 29, 30, 31, 32, 33, 34, 35, 36, 37, 38, 39, 40, 41, 42, 43, 44, 45, 46, 47, 48, 49, 50, 51, 52, 53, 54, 55, 56, 57, 58, 59, 60, 61, 62, 63, 64, 65, 66, 67, 68, 69, 70, 71, 72, 73, 74, 75, 76, 77, 78, 79, 80, 81, 82, 83, 84, 85, 86, 87, 88, 89, 90, 91, 92, 93, 94, 95, 96, 97, 98, 99, 100, 101, 102, 103, 104, 105, 106, 107, 108, 109, 110] (by decide +kernel) (by decide +kernel)
set_option maxRecDepth 20000 in
theorem gX8_factor_X8_factor : GoodIn wsX8_factor (wsV RX8 75 RX8 yX8_factor wsX8_factor) := goodIn_app (goodIn_of _ (by decide +kernel)) ggX8_factor_X8_factor
set_option maxRecDepth 20000 in
theorem ggX8_factor_X8_emits : GoodIn wsX8_factor wsX8_emits := goodIn_r _ [17, 1, 10, 18, 91, 92, 93, 94, 95, 96, 97, 98, 99, 100, 101, 102, 103, 104, 105, 106, 107, 108, 109, 110] (by decide +kernel) (by decide +kernel)
set_option maxRecDepth 20000 in
theorem gX8_factor_X8_emits : GoodIn wsX8_factor (wsV RX8 78 RX8 yX8_emits wsX8_emits) := goodIn_app (goodIn_of _ (by decide +kernel)) ggX8_factor_X8_emits
set_option maxRecDepth 20000 in
theorem ggX8_factor_X8_some : GoodIn wsX8_factor wsX8_some := goodIn_r _ [87, 1, 3, 88, 89, 90, 7, 4, 5, 6, 8, 9, 10, 14, 15, 16, 17, 18, 86, 11, 12, 13, 0, 2, 19, 20, 21, 22, 23, 24, 25, 26, 27, 28, 29, 30, 31, 32, 33, 34, 35, 36, 37, 38, 39, 40, 41, 42, 43, 44, 45, 46, 47, 48, 49, 50, 51, 52, 53, 54, 55, 56, 57, 58, 59, 60, 61, 62, 63, 64, 65, 66, 67, 68, 69, 70, 71, 72, 73, 74, 75, 76, 77, 78, 79, 80, 81, 82, 83, 84, 85, 91, 92, 93, 94, 95, 96, 97, 98, 99, 100, 101, 102, 103, 104, 105, 106, 107, 108, 109, 110] (by decide +kernel) (by decide +kernel)
set_option maxRecDepth 20000 in
theorem gX8_factor_X8_some : GoodIn wsX8_factor (wsV RX8 81 RX8 yX8_some wsX8_some) := goodIn_app (goodIn_of _ (by decide +kernel)) ggX8_factor_X8_some
set_option maxRecDepth 20000 in
theorem ggX8_factor_X8_must : GoodIn wsX8_factor wsX8_must := goodIn_r _ [25, 1, 3, 4, 5, 6, 7, 8, 9, 10, 91, 92, 93, 94, 95, 96, 97, 98, 99, 100, 101, 102, 103, 104, 105, 106, 107, 108, 109, 110] (by decide +kernel) (by decide +kernel)
set_option maxRecDepth 20000 in
theorem gX8_factor_X8_must : GoodIn wsX8_factor (wsV RX8 65 RX8 yX8_must wsX8_must) := goodIn_app (goodIn_of _ (by decide +kernel)) ggX8_factor_X8_must
set_option maxRecDepth 20000 in
theorem ggX8_factor_X8_among : GoodIn wsX8_factor wsX8_among := goodIn_r _ [29, 3, 30, 31, 32, 33, 34, 35, 36, 37, 38, 39, 40, 41, 4, 5, 6, 7, 8, 9, 10, 42, 43, 44, 45, 46, 47, 48, 49, 50, 51, 52, 53, 54, 55, 56, 57, 58, 59, 60, 61, 62, 63, 64, 65, 66, 67, 68, 69, 70, 71, 72, 73, 74, 75, 76, 77, 78, 91, 92, 93, 94, 95, 96, 97, 98, 99, 100, 101, 102, 103, 104, 105, 106, 107, 108, 109, 110] (by decide +kernel) (by decide +kernel)
set_option maxRecDepth 20000 in
theorem gX8_factor_X8_among : GoodIn wsX8_factor (wsV RX8 86 RX8 yX8_among wsX8_among) := goodIn_app (goodIn_of _ (by decide +kernel)) ggX8_factor_X8_among
set_option maxRecDepth 20000 in
theorem ggX8_factor_X8_figures : GoodIn wsX8_factor wsX8_figures := goodIn_r _ [82, 1, 3, 4, 5, 6, 7, 8, 9, 10, 83, 84, 85, 91, 92, 93, 94, 95, 96, 97, 98, 99, 100, 101, 102, 103, 104, 105, 106, 107, 108, 109, 110] (by decide +kernel) (by decide +kernel)
set_option maxRecDepth 20000 in
theorem gX8_factor_X8_figures : GoodIn wsX8_factor (wsV RX8 92 RX8 yX8_figures wsX8_figures) := goodIn_app (goodIn_of _ (by decide +kernel)) ggX8_factor_X8_figures
theorem dX8_factor_0 : decode cX8_factor 0 = .ok (.aload_n 0, 1) := by decide +kernel
theorem dX8_factor_1 : decode cX8_factor 1 = .ok (.getfield 48, 3) := by decide +kernel
theorem dX8_factor_4 : decode cX8_factor 4 = .ok (.ifCond .eq 4, 3) := by decide +kernel
theorem dX8_factor_7 : decode cX8_factor 7 = .ok (.return_, 1) := by decide +kernel
theorem dX8_factor_8 : decode cX8_factor 8 = .ok (.aload_n 0, 1) := by decide +kernel
theorem dX8_factor_9 : decode cX8_factor 9 = .ok (.invokevirtual 52, 3) := by decide +kernel
theorem dX8_factor_12 : decode cX8_factor 12 = .ok (.istore_n 1, 1) := by decide +kernel
theorem dX8_factor_13 : decode cX8_factor 13 = .ok (.iload_n 1, 1) := by decide +kernel
theorem dX8_factor_14 : decode cX8_factor 14 = .ok (.bipush 33, 2) := by decide +kernel
theorem dX8_factor_16 : decode cX8_factor 16 = .ok (.if_icmp .eq 9, 3) := by decide +kernel
theorem dX8_factor_19 : decode cX8_factor 19 = .ok (.iload_n 1, 1) := by decide +kernel
theorem dX8_factor_20 : decode cX8_factor 20 = .ok (.bipush 40, 2) := by decide +kernel
theorem dX8_factor_22 : decode cX8_factor 22 = .ok (.if_icmp .ne 90, 3) := by decide +kernel
theorem dX8_factor_25 : decode cX8_factor 25 = .ok (.aload_n 0, 1) := by decide +kernel
theorem dX8_factor_26 : decode cX8_factor 26 = .ok (.aload_n 0, 1) := by decide +kernel
theorem dX8_factor_27 : decode cX8_factor 27 = .ok (.getfield 72, 3) := by decide +kernel
theorem dX8_factor_30 : decode cX8_factor 30 = .ok (.iconst 5, 1) := by decide +kernel
theorem dX8_factor_31 : decode cX8_factor 31 = .ok (.if_icmp .ne 7, 3) := by decide +kernel
theorem dX8_factor_34 : decode cX8_factor 34 = .ok (.iconst 1, 1) := by decide +kernel
theorem dX8_factor_35 : decode cX8_factor 35 = .ok (.goto 4, 3) := by decide +kernel
theorem dX8_factor_38 : decode cX8_factor 38 = .ok (.iconst 0, 1) := by decide +kernel
theorem dX8_factor_39 : decode cX8_factor 39 = .ok (.putfield 48, 3) := by decide +kernel
theorem dX8_factor_42 : decode cX8_factor 42 = .ok (.aload_n 0, 1) := by decide +kernel
theorem dX8_factor_43 : decode cX8_factor 43 = .ok (.dup, 1) := by decide +kernel
theorem dX8_factor_44 : decode cX8_factor 44 = .ok (.getfield 72, 3) := by decide +kernel
theorem dX8_factor_47 : decode cX8_factor 47 = .ok (.iconst 1, 1) := by decide +kernel
theorem dX8_factor_48 : decode cX8_factor 48 = .ok (.iadd, 1) := by decide +kernel
theorem dX8_factor_49 : decode cX8_factor 49 = .ok (.putfield 72, 3) := by decide +kernel
theorem dX8_factor_52 : decode cX8_factor 52 = .ok (.aload_n 0, 1) := by decide +kernel
theorem dX8_factor_53 : decode cX8_factor 53 = .ok (.dup, 1) := by decide +kernel
theorem dX8_factor_54 : decode cX8_factor 54 = .ok (.getfield 42, 3) := by decide +kernel
theorem dX8_factor_57 : decode cX8_factor 57 = .ok (.aload_n 0, 1) := by decide +kernel
theorem dX8_factor_58 : decode cX8_factor 58 = .ok (.getfield 48, 3) := by decide +kernel
theorem dX8_factor_61 : decode cX8_factor 61 = .ok (.ifCond .eq 7, 3) := by decide +kernel
theorem dX8_factor_64 : decode cX8_factor 64 = .ok (.iconst 0, 1) := by decide +kernel
theorem dX8_factor_65 : decode cX8_factor 65 = .ok (.goto 4, 3) := by decide +kernel
theorem dX8_factor_68 : decode cX8_factor 68 = .ok (.iconst 1, 1) := by decide +kernel
theorem dX8_factor_69 : decode cX8_factor 69 = .ok (.iadd, 1) := by decide +kernel
theorem dX8_factor_70 : decode cX8_factor 70 = .ok (.putfield 42, 3) := by decide +kernel
theorem dX8_factor_73 : decode cX8_factor 73 = .ok (.iload_n 1, 1) := by decide +kernel
theorem dX8_factor_74 : decode cX8_factor 74 = .ok (.bipush 33, 2) := by decide +kernel
theorem dX8_factor_76 : decode cX8_factor 76 = .ok (.if_icmp .ne 15, 3) := by decide +kernel
theorem dX8_factor_79 : decode cX8_factor 79 = .ok (.aload_n 0, 1) := by decide +kernel
theorem dX8_factor_80 : decode cX8_factor 80 = .ok (.invokevirtual 75, 3) := by decide +kernel
theorem dX8_factor_83 : decode cX8_factor 83 = .ok (.aload_n 0, 1) := by decide +kernel
theorem dX8_factor_84 : decode cX8_factor 84 = .ok (.iconst (-1), 1) := by decide +kernel
theorem dX8_factor_85 : decode cX8_factor 85 = .ok (.invokevirtual 78, 3) := by decide +kernel
theorem dX8_factor_88 : decode cX8_factor 88 = .ok (.goto 13, 3) := by decide +kernel
theorem dX8_factor_91 : decode cX8_factor 91 = .ok (.aload_n 0, 1) := by decide +kernel
theorem dX8_factor_92 : decode cX8_factor 92 = .ok (.invokevirtual 81, 3) := by decide +kernel
theorem dX8_factor_95 : decode cX8_factor 95 = .ok (.aload_n 0, 1) := by decide +kernel
theorem dX8_factor_96 : decode cX8_factor 96 = .ok (.bipush 41, 2) := by decide +kernel
theorem dX8_factor_98 : decode cX8_factor 98 = .ok (.invokevirtual 65, 3) := by decide +kernel
theorem dX8_factor_101 : decode cX8_factor 101 = .ok (.aload_n 0, 1) := by decide +kernel
theorem dX8_factor_102 : decode cX8_factor 102 = .ok (.dup, 1) := by decide +kernel
theorem dX8_factor_103 : decode cX8_factor 103 = .ok (.getfield 72, 3) := by decide +kernel
theorem dX8_factor_106 : decode cX8_factor 106 = .ok (.iconst 1, 1) := by decide +kernel
theorem dX8_factor_107 : decode cX8_factor 107 = .ok (.isub, 1) := by decide +kernel
theorem dX8_factor_108 : decode cX8_factor 108 = .ok (.putfield 72, 3) := by decide +kernel
theorem dX8_factor_111 : decode cX8_factor 111 = .ok (.return_, 1) := by decide +kernel
theorem dX8_factor_112 : decode cX8_factor 112 = .ok (.aload_n 0, 1) := by decide +kernel
theorem dX8_factor_113 : decode cX8_factor 113 = .ok (.ldc 84, 2) := by decide +kernel
theorem dX8_factor_115 : decode cX8_factor 115 = .ok (.invokevirtual 86, 3) := by decide +kernel
theorem dX8_factor_118 : decode cX8_factor 118 = .ok (.istore_n 2, 1) := by decide +kernel
theorem dX8_factor_119 : decode cX8_factor 119 = .ok (.aload_n 0, 1) := by decide +kernel
theorem dX8_factor_120 : decode cX8_factor 120 = .ok (.iload_n 2, 1) := by decide +kernel
theorem dX8_factor_121 : decode cX8_factor 121 = .ok (.iconst (-1), 1) := by decide +kernel
theorem dX8_factor_122 : decode cX8_factor 122 = .ok (.if_icmp .ne 7, 3) := by decide +kernel
theorem dX8_factor_125 : decode cX8_factor 125 = .ok (.iconst 1, 1) := by decide +kernel
theorem dX8_factor_126 : decode cX8_factor 126 = .ok (.goto 4, 3) := by decide +kernel
theorem dX8_factor_129 : decode cX8_factor 129 = .ok (.iconst 0, 1) := by decide +kernel
theorem dX8_factor_130 : decode cX8_factor 130 = .ok (.putfield 48, 3) := by decide +kernel
theorem dX8_factor_133 : decode cX8_factor 133 = .ok (.aload_n 0, 1) := by decide +kernel
theorem dX8_factor_134 : decode cX8_factor 134 = .ok (.getfield 48, 3) := by decide +kernel
theorem dX8_factor_137 : decode cX8_factor 137 = .ok (.ifCond .eq 7, 3) := by decide +kernel
theorem dX8_factor_140 : decode cX8_factor 140 = .ok (.iconst 0, 1) := by decide +kernel
theorem dX8_factor_141 : decode cX8_factor 141 = .ok (.goto 9, 3) := by decide +kernel
theorem dX8_factor_144 : decode cX8_factor 144 = .ok (.aload_n 0, 1) := by decide +kernel
theorem dX8_factor_145 : decode cX8_factor 145 = .ok (.ldc 90, 2) := by decide +kernel
theorem dX8_factor_147 : decode cX8_factor 147 = .ok (.invokevirtual 86, 3) := by decide +kernel
theorem dX8_factor_150 : decode cX8_factor 150 = .ok (.istore_n 3, 1) := by decide +kernel
theorem dX8_factor_151 : decode cX8_factor 151 = .ok (.aload_n 0, 1) := by decide +kernel
theorem dX8_factor_152 : decode cX8_factor 152 = .ok (.aload_n 0, 1) := by decide +kernel
theorem dX8_factor_153 : decode cX8_factor 153 = .ok (.getfield 48, 3) := by decide +kernel
theorem dX8_factor_156 : decode cX8_factor 156 = .ok (.ifCond .ne 8, 3) := by decide +kernel
theorem dX8_factor_159 : decode cX8_factor 159 = .ok (.iload_n 3, 1) := by decide +kernel
theorem dX8_factor_160 : decode cX8_factor 160 = .ok (.iconst (-1), 1) := by decide +kernel
theorem dX8_factor_161 : decode cX8_factor 161 = .ok (.if_icmp .ne 7, 3) := by decide +kernel
theorem dX8_factor_164 : decode cX8_factor 164 = .ok (.iconst 1, 1) := by decide +kernel
theorem dX8_factor_165 : decode cX8_factor 165 = .ok (.goto 4, 3) := by decide +kernel
theorem dX8_factor_168 : decode cX8_factor 168 = .ok (.iconst 0, 1) := by decide +kernel
theorem dX8_factor_169 : decode cX8_factor 169 = .ok (.putfield 48, 3) := by decide +kernel
theorem dX8_factor_172 : decode cX8_factor 172 = .ok (.aload_n 0, 1) := by decide +kernel
theorem dX8_factor_173 : decode cX8_factor 173 = .ok (.invokevirtual 92, 3) := by decide +kernel
theorem dX8_factor_176 : decode cX8_factor 176 = .ok (.istore 4, 2) := by decide +kernel
theorem dX8_factor_178 : decode cX8_factor 178 = .ok (.aload_n 0, 1) := by decide +kernel
theorem dX8_factor_179 : decode cX8_factor 179 = .ok (.iload_n 2, 1) := by decide +kernel
theorem dX8_factor_180 : decode cX8_factor 180 = .ok (.bipush 8, 2) := by decide +kernel
theorem dX8_factor_182 : decode cX8_factor 182 = .ok (.iload_n 3, 1) := by decide +kernel
theorem dX8_factor_183 : decode cX8_factor 183 = .ok (.imul, 1) := by decide +kernel
theorem dX8_factor_184 : decode cX8_factor 184 = .ok (.iadd, 1) := by decide +kernel
theorem dX8_factor_185 : decode cX8_factor 185 = .ok (.bipush 32, 2) := by decide +kernel
theorem dX8_factor_187 : decode cX8_factor 187 = .ok (.iload 4, 2) := by decide +kernel
theorem dX8_factor_189 : decode cX8_factor 189 = .ok (.imul, 1) := by decide +kernel
theorem dX8_factor_190 : decode cX8_factor 190 = .ok (.iadd, 1) := by decide +kernel
theorem dX8_factor_191 : decode cX8_factor 191 = .ok (.invokevirtual 78, 3) := by decide +kernel
theorem dX8_factor_194 : decode cX8_factor 194 = .ok (.return_, 1) := by decide +kernel
set_option maxRecDepth 20000 in
theorem ggX8_every_X8_factor : GoodIn wsX8_every wsX8_factor := goodIn_r _ [18, 1, 19, 2, 7, 8, 9, 6, 10, 11, 12, 3, 4, 5, 13, 14, 15, 16, 17, 20, 21, 22, 23, 24, 25, 26, 27, 28, 29, 30, 31, 32, 33, 34, 35, 36, 37, 38, 39, 40, 41, 42, 43, 44, 45, 46, 47, 48, 49, 50, 51, 52, 53, 54, 55, 56, 57, 58, 59, 60, 61, 62, 63, 64, 65, 66, 67, 68, 69, 70, 71, 72, 73, 74, 75, 76, 77, 78, 79, 80, 81, 82, 83, 84, 85, 86, 0, 87, 88, 89, 90, 91, 92, 93, 94, 95, 96, 97, 98, 99, 100, 101, 102, 103, 104, 105, 106, 107, 108, 109, 110] (by decide +kernel) (by decide +kernel)
set_option maxRecDepth 20000 in
theorem gX8_every_X8_factor : GoodIn wsX8_every (wsV RX8 75 RX8 yX8_factor wsX8_factor) := goodIn_app (goodIn_of _ (by decide +kernel)) ggX8_every_X8_factor
set_option maxRecDepth 20000 in
theorem ggX8_every_X8_here : GoodIn wsX8_every wsX8_here := goodIn_r _ [10, 2, 11, 12, 91, 92, 93, 94, 95, 96, 97, 98, 99, 100, 101, 102, 103, 104, 105, 106, 107, 108, 109, 110] (by decide +kernel) (by decide +kernel)
set_option maxRecDepth 20000 in
theorem gX8_every_X8_here : GoodIn wsX8_every (wsV RX8 52 RX8 yX8_here wsX8_here) := goodIn_app (goodIn_of _ (by decide +kernel)) ggX8_every_X8_here
set_option maxRecDepth 20000 in
theorem ggX8_every_X8_emits : GoodIn wsX8_every wsX8_emits := goodIn_r _ [16, 1, 12, 17, 91, 92, 93, 94, 95, 96, 97, 98, 99, 100, 101, 102, 103, 104, 105, 106, 107, 108, 109, 110] (by decide +kernel) (by decide +kernel)
set_option maxRecDepth 20000 in
theorem gX8_every_X8_emits : GoodIn wsX8_every (wsV RX8 78 RX8 yX8_emits wsX8_emits) := goodIn_app (goodIn_of _ (by decide +kernel)) ggX8_every_X8_emits
theorem dX8_every_0 : decode cX8_every 0 = .ok (.aload_n 0, 1) := by decide +kernel
theorem dX8_every_1 : decode cX8_every 1 = .ok (.invokevirtual 75, 3) := by decide +kernel
theorem dX8_every_4 : decode cX8_every 4 = .ok (.aload_n 0, 1) := by decide +kernel
theorem dX8_every_5 : decode cX8_every 5 = .ok (.getfield 48, 3) := by decide +kernel
theorem dX8_every_8 : decode cX8_every 8 = .ok (.ifCond .ne 35, 3) := by decide +kernel
theorem dX8_every_11 : decode cX8_every 11 = .ok (.aload_n 0, 1) := by decide +kernel
theorem dX8_every_12 : decode cX8_every 12 = .ok (.invokevirtual 52, 3) := by decide +kernel
theorem dX8_every_15 : decode cX8_every 15 = .ok (.bipush 38, 2) := by decide +kernel
theorem dX8_every_17 : decode cX8_every 17 = .ok (.if_icmp .ne 26, 3) := by decide +kernel
theorem dX8_every_20 : decode cX8_every 20 = .ok (.aload_n 0, 1) := by decide +kernel
theorem dX8_every_21 : decode cX8_every 21 = .ok (.dup, 1) := by decide +kernel
theorem dX8_every_22 : decode cX8_every 22 = .ok (.getfield 42, 3) := by decide +kernel
theorem dX8_every_25 : decode cX8_every 25 = .ok (.iconst 1, 1) := by decide +kernel
theorem dX8_every_26 : decode cX8_every 26 = .ok (.iadd, 1) := by decide +kernel
theorem dX8_every_27 : decode cX8_every 27 = .ok (.putfield 42, 3) := by decide +kernel
theorem dX8_every_30 : decode cX8_every 30 = .ok (.aload_n 0, 1) := by decide +kernel
theorem dX8_every_31 : decode cX8_every 31 = .ok (.invokevirtual 75, 3) := by decide +kernel
theorem dX8_every_34 : decode cX8_every 34 = .ok (.aload_n 0, 1) := by decide +kernel
theorem dX8_every_35 : decode cX8_every 35 = .ok (.bipush (-2), 2) := by decide +kernel
theorem dX8_every_37 : decode cX8_every 37 = .ok (.invokevirtual 78, 3) := by decide +kernel
theorem dX8_every_40 : decode cX8_every 40 = .ok (.goto (-36), 3) := by decide +kernel
theorem dX8_every_43 : decode cX8_every 43 = .ok (.return_, 1) := by decide +kernel
set_option maxRecDepth 20000 in
theorem ggX8_some_X8_every : GoodIn wsX8_some wsX8_every := goodIn_r _ [18, 1, 2, 19, 20, 21, 6, 7, 8, 9, 10, 11, 12, 13, 14, 15, 16, 17, 22, 23, 24, 25, 26, 27, 28, 29, 30, 31, 32, 33, 34, 35, 36, 37, 38, 39, 40, 41, 42, 43, 44, 45, 46, 47, 48, 49, 50, 51, 52, 53, 54, 55, 56, 57, 58, 59, 60, 61, 62, 63, 64, 65, 66, 67, 68, 69, 70, 71, 72, 73, 74, 75, 76, 77, 78, 79, 80, 81, 82, 83, 84, 85, 86, 87, 88, 89, 90, 0, 3, 4, 5, 91, 92, 93, 94, 95, 96, 97, 98, 99, 100, 101, 102, 103, 104, 105, 106, 107, 108, 109, 110] (by decide +kernel) (by decide +kernel)
set_option maxRecDepth 20000 in
theorem gX8_some_X8_every : GoodIn wsX8_some (wsV RX8 95 RX8 yX8_every wsX8_every) := goodIn_app (goodIn_of _ (by decide +kernel)) ggX8_some_X8_every
set_option maxRecDepth 20000 in
theorem ggX8_some_X8_here : GoodIn wsX8_some wsX8_here := goodIn_r _ [10, 2, 11, 12, 91, 92, 93, 94, 95, 96, 97, 98, 99, 100, 101, 102, 103, 104, 105, 106, 107, 108, 109, 110] (by decide +kernel) (by decide +kernel)
set_option maxRecDepth 20000 in
theorem gX8_some_X8_here : GoodIn wsX8_some (wsV RX8 52 RX8 yX8_here wsX8_here) := goodIn_app (goodIn_of _ (by decide +kernel)) ggX8_some_X8_here
set_option maxRecDepth 20000 in
theorem ggX8_some_X8_emits : GoodIn wsX8_some wsX8_emits := goodIn_r _ [16, 1, 12, 17, 91, 92, 93, 94, 95, 96, 97, 98, 99, 100, 101, 102, 103, 104, 105, 106, 107, 108, 109, 110] (by decide +kernel) (by decide +kernel)
set_option maxRecDepth 20000 in
theorem gX8_some_X8_emits : GoodIn wsX8_some (wsV RX8 78 RX8 yX8_emits wsX8_emits) := goodIn_app (goodIn_of _ (by decide +kernel)) ggX8_some_X8_emits
theorem dX8_some_0 : decode cX8_some 0 = .ok (.aload_n 0, 1) := by decide +kernel
theorem dX8_some_1 : decode cX8_some 1 = .ok (.invokevirtual 95, 3) := by decide +kernel
theorem dX8_some_4 : decode cX8_some 4 = .ok (.aload_n 0, 1) := by decide +kernel
theorem dX8_some_5 : decode cX8_some 5 = .ok (.getfield 48, 3) := by decide +kernel
theorem dX8_some_8 : decode cX8_some 8 = .ok (.ifCond .ne 35, 3) := by decide +kernel
theorem dX8_some_11 : decode cX8_some 11 = .ok (.aload_n 0, 1) := by decide +kernel
theorem dX8_some_12 : decode cX8_some 12 = .ok (.invokevirtual 52, 3) := by decide +kernel
theorem dX8_some_15 : decode cX8_some 15 = .ok (.bipush 124, 2) := by decide +kernel
theorem dX8_some_17 : decode cX8_some 17 = .ok (.if_icmp .ne 26, 3) := by decide +kernel
theorem dX8_some_20 : decode cX8_some 20 = .ok (.aload_n 0, 1) := by decide +kernel
theorem dX8_some_21 : decode cX8_some 21 = .ok (.dup, 1) := by decide +kernel
theorem dX8_some_22 : decode cX8_some 22 = .ok (.getfield 42, 3) := by decide +kernel
theorem dX8_some_25 : decode cX8_some 25 = .ok (.iconst 1, 1) := by decide +kernel
theorem dX8_some_26 : decode cX8_some 26 = .ok (.iadd, 1) := by decide +kernel
theorem dX8_some_27 : decode cX8_some 27 = .ok (.putfield 42, 3) := by decide +kernel
theorem dX8_some_30 : decode cX8_some 30 = .ok (.aload_n 0, 1) := by decide +kernel
theorem dX8_some_31 : decode cX8_some 31 = .ok (.invokevirtual 95, 3) := by decide +kernel
theorem dX8_some_34 : decode cX8_some 34 = .ok (.aload_n 0, 1) := by decide +kernel
theorem dX8_some_35 : decode cX8_some 35 = .ok (.bipush (-3), 2) := by decide +kernel
theorem dX8_some_37 : decode cX8_some 37 = .ok (.invokevirtual 78, 3) := by decide +kernel
theorem dX8_some_40 : decode cX8_some 40 = .ok (.goto (-36), 3) := by decide +kernel
theorem dX8_some_43 : decode cX8_some 43 = .ok (.return_, 1) := by decide +kernel
set_option maxRecDepth 20000 in
theorem ggX8_much_X8_spells : GoodIn wsX8_much wsX8_spells := goodIn_r _ [5, 6, 7, 8, 9, 10, 11, 12, 13, 14, 15, 16, 17, 18, 19, 20, 21, 22, 23, 24, 25, 26, 27, 28, 29, 30, 31, 32, 33, 34, 35, 36, 37, 38, 39, 40, 41, 42, 43, 44, 45, 46, 47, 48, 49, 50, 51, 52, 53, 54, 55, 56, 57, 4, 58, 59, 60, 61, 62, 63, 64, 65, 66, 96, 97, 98, 99, 100, 101, 102, 103, 104, 105, 106, 107, 108, 109, 110, 111, 112, 113, 114, 115] (by decide +kernel) (by decide +kernel)
set_option maxRecDepth 20000 in
theorem gX8_much_X8_spells : GoodIn wsX8_much (wsV RX8 98 RX8 yX8_spells wsX8_spells) := goodIn_app (goodIn_of _ (by decide +kernel)) ggX8_much_X8_spells
set_option maxRecDepth 20000 in
theorem ggX8_much_X8_figures : GoodIn wsX8_much wsX8_figures := goodIn_r _ [70, 59, 60, 61, 62, 63, 4, 64, 65, 66, 71, 72, 73, 96, 97, 98, 99, 100, 101, 102, 103, 104, 105, 106, 107, 108, 109, 110, 111, 112, 113, 114, 115] (by decide +kernel) (by decide +kernel)
set_option maxRecDepth 20000 in
theorem gX8_much_X8_figures : GoodIn wsX8_much (wsV RX8 92 RX8 yX8_figures wsX8_figures) := goodIn_app (goodIn_of _ (by decide +kernel)) ggX8_much_X8_figures
set_option maxRecDepth 20000 in
theorem ggX8_much_X8_must : GoodIn wsX8_much wsX8_must := goodIn_r _ [58, 59, 60, 61, 62, 63, 4, 64, 65, 66, 96, 97, 98, 99, 100, 101, 102, 103, 104, 105, 106, 107, 108, 109, 110, 111, 112, 113, 114, 115] (by decide +kernel) (by decide +kernel)
set_option maxRecDepth 20000 in
theorem gX8_much_X8_must : GoodIn wsX8_much (wsV RX8 65 RX8 yX8_must wsX8_must) := goodIn_app (goodIn_of _ (by decide +kernel)) ggX8_much_X8_must
set_option maxRecDepth 20000 in
theorem ggX8_much_X8_some : GoodIn wsX8_much wsX8_some := goodIn_r _ [77, 59, 60, 78, 79, 80, 4, 61, 62, 63, 64, 65, 66, 81, 82, 83, 84, 85, 86, 87, 88, 89, 90, 91, 74, 75, 76, 55, 56, 57, 58, 92, 93, 94, 95, 6, 7, 8, 9, 10, 11, 12, 13, 14, 15, 16, 17, 18, 19, 20, 21, 22, 23, 24, 25, 26, 27, 28, 29, 30, 31, 32, 33, 34, 35, 36, 37, 38, 39, 40, 41, 42, 43, 44, 45, 46, 47, 48, 49, 50, 51, 52, 53, 54, 67, 68, 69, 70, 71, 72, 73, 96, 97, 98, 99, 100, 101, 102, 103, 104, 105, 106, 107, 108, 109, 110, 111, 112, 113, 114, 115] (by decide +kernel) (by decide +kernel)
set_option maxRecDepth 20000 in
theorem gX8_much_X8_some : GoodIn wsX8_much (wsV RX8 81 RX8 yX8_some wsX8_some) := goodIn_app (goodIn_of _ (by decide +kernel)) ggX8_much_X8_some
set_option maxRecDepth 20000 in
theorem ggX8_much_X8_emits : GoodIn wsX8_much wsX8_emits := goodIn_r _ [84, 59, 66, 85, 96, 97, 98, 99, 100, 101, 102, 103, 104, 105, 106, 107, 108, 109, 110, 111, 112, 113, 114, 115] (by decide +kernel) (by decide +kernel)
set_option maxRecDepth 20000 in
theorem gX8_much_X8_emits : GoodIn wsX8_much (wsV RX8 78 RX8 yX8_emits wsX8_emits) := goodIn_app (goodIn_of _ (by decide +kernel)) ggX8_much_X8_emits
theorem dX8_much_0 : decode cX8_much 0 = .ok (.aload_n 0, 1) := by decide +kernel
theorem dX8_much_1 : decode cX8_much 1 = .ok (.aload_n 2, 1) := by decide +kernel
theorem dX8_much_2 : decode cX8_much 2 = .ok (.invokevirtual 98, 3) := by decide +kernel
theorem dX8_much_5 : decode cX8_much 5 = .ok (.aload_n 0, 1) := by decide +kernel
theorem dX8_much_6 : decode cX8_much 6 = .ok (.invokevirtual 92, 3) := by decide +kernel
theorem dX8_much_9 : decode cX8_much 9 = .ok (.istore_n 3, 1) := by decide +kernel
theorem dX8_much_10 : decode cX8_much 10 = .ok (.aload_n 0, 1) := by decide +kernel
theorem dX8_much_11 : decode cX8_much 11 = .ok (.bipush 32, 2) := by decide +kernel
theorem dX8_much_13 : decode cX8_much 13 = .ok (.invokevirtual 65, 3) := by decide +kernel
theorem dX8_much_16 : decode cX8_much 16 = .ok (.aload_n 0, 1) := by decide +kernel
theorem dX8_much_17 : decode cX8_much 17 = .ok (.invokevirtual 81, 3) := by decide +kernel
theorem dX8_much_20 : decode cX8_much 20 = .ok (.aload_n 0, 1) := by decide +kernel
theorem dX8_much_21 : decode cX8_much 21 = .ok (.iload_n 1, 1) := by decide +kernel
theorem dX8_much_22 : decode cX8_much 22 = .ok (.iload_n 3, 1) := by decide +kernel
theorem dX8_much_23 : decode cX8_much 23 = .ok (.isub, 1) := by decide +kernel
theorem dX8_much_24 : decode cX8_much 24 = .ok (.invokevirtual 78, 3) := by decide +kernel
theorem dX8_much_27 : decode cX8_much 27 = .ok (.return_, 1) := by decide +kernel
set_option maxRecDepth 20000 in
theorem ggX8_tellsHere_X8_spells : GoodIn wsX8_tellsHere wsX8_spells := goodIn_r _ [8, 9, 10, 11, 12, 13, 14, 15, 16, 17, 18, 19, 20, 21, 22, 23, 24, 25, 26, 27, 28, 29, 30, 31, 32, 33, 34, 35, 36, 37, 38, 39, 40, 41, 42, 43, 44, 45, 46, 47, 48, 49, 50, 51, 52, 53, 54, 55, 56, 57, 58, 59, 60, 7, 61, 1, 62, 63, 64, 65, 66, 67, 2, 75, 76, 77, 78, 79, 80, 81, 82, 83, 84, 85, 86, 87, 88, 89, 90, 91, 92, 93, 94] (by decide +kernel) (by decide +kernel)
set_option maxRecDepth 20000 in
theorem gX8_tellsHere_X8_spells : GoodIn wsX8_tellsHere (wsV RX8 98 RX8 yX8_spells wsX8_spells) := goodIn_app (goodIn_of _ (by decide +kernel)) ggX8_tellsHere_X8_spells
set_option maxRecDepth 20000 in
theorem ggX8_tellsHere_X8_figures : GoodIn wsX8_tellsHere wsX8_figures := goodIn_r _ [71, 1, 62, 63, 64, 65, 7, 66, 67, 2, 72, 73, 74, 75, 76, 77, 78, 79, 80, 81, 82, 83, 84, 85, 86, 87, 88, 89, 90, 91, 92, 93, 94] (by decide +kernel) (by decide +kernel)
set_option maxRecDepth 20000 in
theorem gX8_tellsHere_X8_figures : GoodIn wsX8_tellsHere (wsV RX8 92 RX8 yX8_figures wsX8_figures) := goodIn_app (goodIn_of _ (by decide +kernel)) ggX8_tellsHere_X8_figures
theorem dX8_tellsHere_0 : decode cX8_tellsHere 0 = .ok (.aload_n 0, 1) := by decide +kernel
theorem dX8_tellsHere_1 : decode cX8_tellsHere 1 = .ok (.aload_n 2, 1) := by decide +kernel
theorem dX8_tellsHere_2 : decode cX8_tellsHere 2 = .ok (.invokevirtual 98, 3) := by decide +kernel
theorem dX8_tellsHere_5 : decode cX8_tellsHere 5 = .ok (.aload_n 0, 1) := by decide +kernel
theorem dX8_tellsHere_6 : decode cX8_tellsHere 6 = .ok (.invokevirtual 92, 3) := by decide +kernel
theorem dX8_tellsHere_9 : decode cX8_tellsHere 9 = .ok (.istore_n 3, 1) := by decide +kernel
theorem dX8_tellsHere_10 : decode cX8_tellsHere 10 = .ok (.aload_n 0, 1) := by decide +kernel
theorem dX8_tellsHere_11 : decode cX8_tellsHere 11 = .ok (.getfield 48, 3) := by decide +kernel
theorem dX8_tellsHere_14 : decode cX8_tellsHere 14 = .ok (.ifCond .ne 15, 3) := by decide +kernel
theorem dX8_tellsHere_17 : decode cX8_tellsHere 17 = .ok (.aload_n 0, 1) := by decide +kernel
theorem dX8_tellsHere_18 : decode cX8_tellsHere 18 = .ok (.getfield 9, 3) := by decide +kernel
theorem dX8_tellsHere_21 : decode cX8_tellsHere 21 = .ok (.iload_n 1, 1) := by decide +kernel
theorem dX8_tellsHere_22 : decode cX8_tellsHere 22 = .ok (.aload_n 0, 1) := by decide +kernel
theorem dX8_tellsHere_23 : decode cX8_tellsHere 23 = .ok (.getfield 69, 3) := by decide +kernel
theorem dX8_tellsHere_26 : decode cX8_tellsHere 26 = .ok (.iadd, 1) := by decide +kernel
theorem dX8_tellsHere_27 : decode cX8_tellsHere 27 = .ok (.iload_n 3, 1) := by decide +kernel
theorem dX8_tellsHere_28 : decode cX8_tellsHere 28 = .ok (.iastore, 1) := by decide +kernel
theorem dX8_tellsHere_29 : decode cX8_tellsHere 29 = .ok (.return_, 1) := by decide +kernel
set_option maxRecDepth 20000 in
theorem ggX8_wordOfS_X8_must : GoodIn wsX8_wordOfS wsX8_must := goodIn_r _ [5, 6, 7, 8, 9, 10, 4, 11, 12, 13, 100, 101, 102, 103, 104, 105, 106, 107, 108, 109, 110, 111, 112, 113, 114, 115, 116, 117, 118, 119] (by decide +kernel) (by decide +kernel)
set_option maxRecDepth 20000 in
theorem gX8_wordOfS_X8_must : GoodIn wsX8_wordOfS (wsV RX8 65 RX8 yX8_must wsX8_must) := goodIn_app (goodIn_of _ (by decide +kernel)) ggX8_wordOfS_X8_must
set_option maxRecDepth 20000 in
theorem ggX8_wordOfS_X8_here : GoodIn wsX8_wordOfS wsX8_here := goodIn_r _ [11, 7, 12, 13, 100, 101, 102, 103, 104, 105, 106, 107, 108, 109, 110, 111, 112, 113, 114, 115, 116, 117, 118, 119] (by decide +kernel) (by decide +kernel)
set_option maxRecDepth 20000 in
theorem gX8_wordOfS_X8_here : GoodIn wsX8_wordOfS (wsV RX8 52 RX8 yX8_here wsX8_here) := goodIn_app (goodIn_of _ (by decide +kernel)) ggX8_wordOfS_X8_here
set_option maxRecDepth 20000 in
theorem ggX8_wordOfS_X8_much : GoodIn wsX8_wordOfS wsX8_much := goodIn_r _ [17, 18, 19, 20, 4, 21, 22, 23, 24, 25, 26, 27, 28, 29, 30, 31, 32, 33, 34, 35, 36, 37, 38, 39, 40, 41, 42, 43, 44, 45, 46, 47, 48, 49, 50, 51, 52, 53, 54, 55, 56, 57, 58, 59, 60, 61, 62, 63, 64, 65, 66, 67, 68, 69, 70, 1, 2, 3, 5, 6, 7, 8, 9, 10, 11, 12, 13, 71, 72, 73, 74, 75, 76, 77, 78, 79, 80, 81, 82, 83, 84, 85, 86, 87, 88, 89, 90, 91, 92, 93, 94, 95, 96, 97, 98, 99, 100, 101, 102, 103, 104, 105, 106, 107, 108, 109, 110, 111, 112, 113, 114, 115, 116, 117, 118, 119] (by decide +kernel) (by decide +kernel)
set_option maxRecDepth 20000 in
theorem gX8_wordOfS_X8_much : GoodIn wsX8_wordOfS (wsV RX8 104 RX8 yX8_much wsX8_much) := goodIn_app (goodIn_of _ (by decide +kernel)) ggX8_wordOfS_X8_much
theorem dX8_wordOfS_0 : decode cX8_wordOfS 0 = .ok (.aload_n 0, 1) := by decide +kernel
theorem dX8_wordOfS_1 : decode cX8_wordOfS 1 = .ok (.bipush 115, 2) := by decide +kernel
theorem dX8_wordOfS_3 : decode cX8_wordOfS 3 = .ok (.invokevirtual 65, 3) := by decide +kernel
theorem dX8_wordOfS_6 : decode cX8_wordOfS 6 = .ok (.aload_n 0, 1) := by decide +kernel
theorem dX8_wordOfS_7 : decode cX8_wordOfS 7 = .ok (.invokevirtual 52, 3) := by decide +kernel
theorem dX8_wordOfS_10 : decode cX8_wordOfS 10 = .ok (.bipush 112, 2) := by decide +kernel
theorem dX8_wordOfS_12 : decode cX8_wordOfS 12 = .ok (.if_icmp .ne 14, 3) := by decide +kernel
theorem dX8_wordOfS_15 : decode cX8_wordOfS 15 = .ok (.aload_n 0, 1) := by decide +kernel
theorem dX8_wordOfS_16 : decode cX8_wordOfS 16 = .ok (.bipush (-10), 2) := by decide +kernel
theorem dX8_wordOfS_18 : decode cX8_wordOfS 18 = .ok (.ldc 102, 2) := by decide +kernel
theorem dX8_wordOfS_20 : decode cX8_wordOfS 20 = .ok (.invokevirtual 104, 3) := by decide +kernel
theorem dX8_wordOfS_23 : decode cX8_wordOfS 23 = .ok (.goto 12, 3) := by decide +kernel
theorem dX8_wordOfS_26 : decode cX8_wordOfS 26 = .ok (.aload_n 0, 1) := by decide +kernel
theorem dX8_wordOfS_27 : decode cX8_wordOfS 27 = .ok (.sipush (-200), 3) := by decide +kernel
theorem dX8_wordOfS_30 : decode cX8_wordOfS 30 = .ok (.ldc 108, 2) := by decide +kernel
theorem dX8_wordOfS_32 : decode cX8_wordOfS 32 = .ok (.invokevirtual 104, 3) := by decide +kernel
theorem dX8_wordOfS_35 : decode cX8_wordOfS 35 = .ok (.return_, 1) := by decide +kernel
set_option maxRecDepth 20000 in
theorem ggX8_clauseHere_X8_here : GoodIn wsX8_clauseHere wsX8_here := goodIn_r _ [6, 7, 8, 9, 108, 109, 110, 111, 112, 113, 114, 115, 116, 117, 118, 119, 120, 121, 122, 123, 124, 125, 126, 127] (by decide +kernel) (by decide +kernel)
set_option maxRecDepth 20000 in
theorem gX8_clauseHere_X8_here : GoodIn wsX8_clauseHere (wsV RX8 52 RX8 yX8_here wsX8_here) := goodIn_app (goodIn_of _ (by decide +kernel)) ggX8_clauseHere_X8_here
set_option maxRecDepth 20000 in
theorem ggX8_clauseHere_X8_tellsHere : GoodIn wsX8_clauseHere wsX8_tellsHere := goodIn_r _ [13, 1, 9, 14, 15, 16, 17, 5, 18, 19, 20, 21, 22, 23, 24, 25, 26, 27, 28, 29, 30, 31, 32, 33, 34, 35, 36, 37, 38, 39, 40, 41, 42, 43, 44, 45, 46, 47, 48, 49, 50, 51, 52, 53, 54, 55, 56, 57, 58, 59, 60, 61, 62, 63, 64, 65, 66, 67, 68, 69, 70, 71, 7, 2, 3, 4, 6, 8, 72, 73, 74, 75, 76, 77, 78, 108, 109, 110, 111, 112, 113, 114, 115, 116, 117, 118, 119, 120, 121, 122, 123, 124, 125, 126, 127] (by decide +kernel) (by decide +kernel)
set_option maxRecDepth 20000 in
theorem gX8_clauseHere_X8_tellsHere : GoodIn wsX8_clauseHere (wsV RX8 112 RX8 yX8_tellsHere wsX8_tellsHere) := goodIn_app (goodIn_of _ (by decide +kernel)) ggX8_clauseHere_X8_tellsHere
set_option maxRecDepth 20000 in
theorem ggX8_clauseHere_X8_wordOfS : GoodIn wsX8_clauseHere wsX8_wordOfS := goodIn_r _ [82, 68, 69, 70, 5, 71, 1, 7, 2, 3, 4, 6, 8, 9, 83, 84, 85, 86, 15, 16, 17, 18, 19, 20, 21, 22, 23, 24, 25, 26, 27, 28, 29, 30, 31, 32, 33, 34, 35, 36, 37, 38, 39, 40, 41, 42, 43, 44, 45, 46, 47, 48, 49, 50, 51, 52, 53, 54, 55, 56, 57, 58, 59, 60, 61, 62, 63, 64, 65, 66, 67, 72, 73, 74, 75, 76, 77, 78, 87, 88, 89, 90, 91, 92, 93, 94, 95, 96, 97, 14, 98, 99, 100, 101, 102, 103, 104, 105, 106, 107, 108, 109, 110, 111, 112, 113, 114, 115, 116, 117, 118, 119, 120, 121, 122, 123, 124, 125, 126, 127] (by decide +kernel) (by decide +kernel)
set_option maxRecDepth 20000 in
theorem gX8_clauseHere_X8_wordOfS : GoodIn wsX8_clauseHere (wsV RX8 117 RX8 yX8_wordOfS wsX8_wordOfS) := goodIn_app (goodIn_of _ (by decide +kernel)) ggX8_clauseHere_X8_wordOfS
theorem dX8_clauseHere_0 : decode cX8_clauseHere 0 = .ok (.aload_n 0, 1) := by decide +kernel
theorem dX8_clauseHere_1 : decode cX8_clauseHere 1 = .ok (.invokevirtual 52, 3) := by decide +kernel
theorem dX8_clauseHere_4 : decode cX8_clauseHere 4 = .ok (.lookupswitch 67 #[(102, 48), (103, 36), (115, 60)], 36) := by decide +kernel
theorem dX8_clauseHere_40 : decode cX8_clauseHere 40 = .ok (.aload_n 0, 1) := by decide +kernel
theorem dX8_clauseHere_41 : decode cX8_clauseHere 41 = .ok (.sipush 211, 3) := by decide +kernel
theorem dX8_clauseHere_44 : decode cX8_clauseHere 44 = .ok (.ldc 110, 2) := by decide +kernel
theorem dX8_clauseHere_46 : decode cX8_clauseHere 46 = .ok (.invokevirtual 112, 3) := by decide +kernel
theorem dX8_clauseHere_49 : decode cX8_clauseHere 49 = .ok (.goto 27, 3) := by decide +kernel
theorem dX8_clauseHere_52 : decode cX8_clauseHere 52 = .ok (.aload_n 0, 1) := by decide +kernel
theorem dX8_clauseHere_53 : decode cX8_clauseHere 53 = .ok (.sipush 216, 3) := by decide +kernel
theorem dX8_clauseHere_56 : decode cX8_clauseHere 56 = .ok (.ldc 115, 2) := by decide +kernel
theorem dX8_clauseHere_58 : decode cX8_clauseHere 58 = .ok (.invokevirtual 112, 3) := by decide +kernel
theorem dX8_clauseHere_61 : decode cX8_clauseHere 61 = .ok (.goto 15, 3) := by decide +kernel
theorem dX8_clauseHere_64 : decode cX8_clauseHere 64 = .ok (.aload_n 0, 1) := by decide +kernel
theorem dX8_clauseHere_65 : decode cX8_clauseHere 65 = .ok (.invokevirtual 117, 3) := by decide +kernel
theorem dX8_clauseHere_68 : decode cX8_clauseHere 68 = .ok (.goto 8, 3) := by decide +kernel
theorem dX8_clauseHere_71 : decode cX8_clauseHere 71 = .ok (.aload_n 0, 1) := by decide +kernel
theorem dX8_clauseHere_72 : decode cX8_clauseHere 72 = .ok (.iconst 1, 1) := by decide +kernel
theorem dX8_clauseHere_73 : decode cX8_clauseHere 73 = .ok (.putfield 48, 3) := by decide +kernel
theorem dX8_clauseHere_76 : decode cX8_clauseHere 76 = .ok (.return_, 1) := by decide +kernel
set_option maxRecDepth 20000 in
theorem ggX8_school_X8_clauseHere : GoodIn wsX8_school wsX8_clauseHere := goodIn_r _ [11, 5, 12, 13, 14, 10, 15, 4, 3, 1, 16, 17, 18, 19, 2, 20, 21, 22, 23, 24, 25, 26, 27, 28, 29, 30, 31, 32, 33, 34, 35, 36, 37, 38, 39, 40, 41, 42, 43, 44, 45, 46, 47, 48, 49, 50, 51, 52, 53, 54, 55, 56, 57, 58, 59, 60, 61, 62, 63, 64, 65, 66, 67, 68, 69, 70, 71, 72, 73, 74, 75, 76, 77, 78, 79, 80, 81, 82, 83, 84, 85, 86, 87, 88, 89, 90, 91, 92, 93, 94, 95, 96, 97, 98, 99, 100, 101, 102, 103, 104, 105, 106, 107, 6, 108, 109, 110, 111, 112, 113, 114, 115, 116, 117, 118, 119, 120, 121, 122, 123, 124, 125, 126, 127, 128, 129, 130, 131] (by decide +kernel) (by decide +kernel)
set_option maxRecDepth 20000 in
theorem gX8_school_X8_clauseHere : GoodIn wsX8_school (wsV RX8 120 RX8 yX8_clauseHere wsX8_clauseHere) := goodIn_app (goodIn_of _ (by decide +kernel)) ggX8_school_X8_clauseHere
set_option maxRecDepth 20000 in
theorem ggX8_school_X8_here : GoodIn wsX8_school wsX8_here := goodIn_r _ [15, 4, 3, 1, 112, 113, 114, 115, 116, 117, 118, 119, 120, 121, 122, 123, 124, 125, 126, 127, 128, 129, 130, 131] (by decide +kernel) (by decide +kernel)
set_option maxRecDepth 20000 in
theorem gX8_school_X8_here : GoodIn wsX8_school (wsV RX8 52 RX8 yX8_here wsX8_here) := goodIn_app (goodIn_of _ (by decide +kernel)) ggX8_school_X8_here
theorem dX8_school_0 : decode cX8_school 0 = .ok (.aload_n 0, 1) := by decide +kernel
theorem dX8_school_1 : decode cX8_school 1 = .ok (.getfield 9, 3) := by decide +kernel
theorem dX8_school_4 : decode cX8_school 4 = .ok (.bipush 21, 2) := by decide +kernel
theorem dX8_school_6 : decode cX8_school 6 = .ok (.iaload, 1) := by decide +kernel
theorem dX8_school_7 : decode cX8_school 7 = .ok (.iconst 5, 1) := by decide +kernel
theorem dX8_school_8 : decode cX8_school 8 = .ok (.if_icmp .ne 6, 3) := by decide +kernel
theorem dX8_school_11 : decode cX8_school 11 = .ok (.bipush (-4), 2) := by decide +kernel
theorem dX8_school_13 : decode cX8_school 13 = .ok (.ireturn, 1) := by decide +kernel
theorem dX8_school_14 : decode cX8_school 14 = .ok (.aload_n 0, 1) := by decide +kernel
theorem dX8_school_15 : decode cX8_school 15 = .ok (.aload_n 0, 1) := by decide +kernel
theorem dX8_school_16 : decode cX8_school 16 = .ok (.getfield 9, 3) := by decide +kernel
theorem dX8_school_19 : decode cX8_school 19 = .ok (.bipush 21, 2) := by decide +kernel
theorem dX8_school_21 : decode cX8_school 21 = .ok (.iaload, 1) := by decide +kernel
theorem dX8_school_22 : decode cX8_school 22 = .ok (.putfield 69, 3) := by decide +kernel
theorem dX8_school_25 : decode cX8_school 25 = .ok (.aload_n 0, 1) := by decide +kernel
theorem dX8_school_26 : decode cX8_school 26 = .ok (.aload_n 0, 1) := by decide +kernel
theorem dX8_school_27 : decode cX8_school 27 = .ok (.getfield 9, 3) := by decide +kernel
theorem dX8_school_30 : decode cX8_school 30 = .ok (.bipush 25, 2) := by decide +kernel
theorem dX8_school_32 : decode cX8_school 32 = .ok (.iaload, 1) := by decide +kernel
theorem dX8_school_33 : decode cX8_school 33 = .ok (.putfield 45, 3) := by decide +kernel
theorem dX8_school_36 : decode cX8_school 36 = .ok (.aload_n 0, 1) := by decide +kernel
theorem dX8_school_37 : decode cX8_school 37 = .ok (.getfield 9, 3) := by decide +kernel
theorem dX8_school_40 : decode cX8_school 40 = .ok (.bipush 25, 2) := by decide +kernel
theorem dX8_school_42 : decode cX8_school 42 = .ok (.iconst 0, 1) := by decide +kernel
theorem dX8_school_43 : decode cX8_school 43 = .ok (.iastore, 1) := by decide +kernel
theorem dX8_school_44 : decode cX8_school 44 = .ok (.aload_n 0, 1) := by decide +kernel
theorem dX8_school_45 : decode cX8_school 45 = .ok (.getfield 9, 3) := by decide +kernel
theorem dX8_school_48 : decode cX8_school 48 = .ok (.sipush 211, 3) := by decide +kernel
theorem dX8_school_51 : decode cX8_school 51 = .ok (.aload_n 0, 1) := by decide +kernel
theorem dX8_school_52 : decode cX8_school 52 = .ok (.getfield 69, 3) := by decide +kernel
theorem dX8_school_55 : decode cX8_school 55 = .ok (.iadd, 1) := by decide +kernel
theorem dX8_school_56 : decode cX8_school 56 = .ok (.bipush 60, 2) := by decide +kernel
theorem dX8_school_58 : decode cX8_school 58 = .ok (.iastore, 1) := by decide +kernel
theorem dX8_school_59 : decode cX8_school 59 = .ok (.aload_n 0, 1) := by decide +kernel
theorem dX8_school_60 : decode cX8_school 60 = .ok (.getfield 9, 3) := by decide +kernel
theorem dX8_school_63 : decode cX8_school 63 = .ok (.sipush 216, 3) := by decide +kernel
theorem dX8_school_66 : decode cX8_school 66 = .ok (.aload_n 0, 1) := by decide +kernel
theorem dX8_school_67 : decode cX8_school 67 = .ok (.getfield 69, 3) := by decide +kernel
theorem dX8_school_70 : decode cX8_school 70 = .ok (.iadd, 1) := by decide +kernel
theorem dX8_school_71 : decode cX8_school 71 = .ok (.iconst 2, 1) := by decide +kernel
theorem dX8_school_72 : decode cX8_school 72 = .ok (.iastore, 1) := by decide +kernel
theorem dX8_school_73 : decode cX8_school 73 = .ok (.aload_n 0, 1) := by decide +kernel
theorem dX8_school_74 : decode cX8_school 74 = .ok (.getfield 9, 3) := by decide +kernel
theorem dX8_school_77 : decode cX8_school 77 = .ok (.sipush 221, 3) := by decide +kernel
theorem dX8_school_80 : decode cX8_school 80 = .ok (.aload_n 0, 1) := by decide +kernel
theorem dX8_school_81 : decode cX8_school 81 = .ok (.getfield 69, 3) := by decide +kernel
theorem dX8_school_84 : decode cX8_school 84 = .ok (.iadd, 1) := by decide +kernel
theorem dX8_school_85 : decode cX8_school 85 = .ok (.iconst 0, 1) := by decide +kernel
theorem dX8_school_86 : decode cX8_school 86 = .ok (.iastore, 1) := by decide +kernel
theorem dX8_school_87 : decode cX8_school 87 = .ok (.aload_n 0, 1) := by decide +kernel
theorem dX8_school_88 : decode cX8_school 88 = .ok (.iconst 0, 1) := by decide +kernel
theorem dX8_school_89 : decode cX8_school 89 = .ok (.putfield 42, 3) := by decide +kernel
theorem dX8_school_92 : decode cX8_school 92 = .ok (.aload_n 0, 1) := by decide +kernel
theorem dX8_school_93 : decode cX8_school 93 = .ok (.iconst 0, 1) := by decide +kernel
theorem dX8_school_94 : decode cX8_school 94 = .ok (.putfield 48, 3) := by decide +kernel
theorem dX8_school_97 : decode cX8_school 97 = .ok (.aload_n 0, 1) := by decide +kernel
theorem dX8_school_98 : decode cX8_school 98 = .ok (.iconst 0, 1) := by decide +kernel
theorem dX8_school_99 : decode cX8_school 99 = .ok (.putfield 72, 3) := by decide +kernel
theorem dX8_school_102 : decode cX8_school 102 = .ok (.iconst 1, 1) := by decide +kernel
theorem dX8_school_103 : decode cX8_school 103 = .ok (.istore_n 1, 1) := by decide +kernel
theorem dX8_school_104 : decode cX8_school 104 = .ok (.aload_n 0, 1) := by decide +kernel
theorem dX8_school_105 : decode cX8_school 105 = .ok (.invokevirtual 120, 3) := by decide +kernel
theorem dX8_school_108 : decode cX8_school 108 = .ok (.aload_n 0, 1) := by decide +kernel
theorem dX8_school_109 : decode cX8_school 109 = .ok (.getfield 48, 3) := by decide +kernel
theorem dX8_school_112 : decode cX8_school 112 = .ok (.ifCond .ne 38, 3) := by decide +kernel
theorem dX8_school_115 : decode cX8_school 115 = .ok (.iload_n 1, 1) := by decide +kernel
theorem dX8_school_116 : decode cX8_school 116 = .ok (.bipush 10, 2) := by decide +kernel
theorem dX8_school_118 : decode cX8_school 118 = .ok (.if_icmp .ge 32, 3) := by decide +kernel
theorem dX8_school_121 : decode cX8_school 121 = .ok (.aload_n 0, 1) := by decide +kernel
theorem dX8_school_122 : decode cX8_school 122 = .ok (.invokevirtual 52, 3) := by decide +kernel
theorem dX8_school_125 : decode cX8_school 125 = .ok (.bipush 59, 2) := by decide +kernel
theorem dX8_school_127 : decode cX8_school 127 = .ok (.if_icmp .ne 23, 3) := by decide +kernel
theorem dX8_school_130 : decode cX8_school 130 = .ok (.aload_n 0, 1) := by decide +kernel
theorem dX8_school_131 : decode cX8_school 131 = .ok (.dup, 1) := by decide +kernel
theorem dX8_school_132 : decode cX8_school 132 = .ok (.getfield 42, 3) := by decide +kernel
theorem dX8_school_135 : decode cX8_school 135 = .ok (.iconst 1, 1) := by decide +kernel
theorem dX8_school_136 : decode cX8_school 136 = .ok (.iadd, 1) := by decide +kernel
theorem dX8_school_137 : decode cX8_school 137 = .ok (.putfield 42, 3) := by decide +kernel
theorem dX8_school_140 : decode cX8_school 140 = .ok (.aload_n 0, 1) := by decide +kernel
theorem dX8_school_141 : decode cX8_school 141 = .ok (.invokevirtual 120, 3) := by decide +kernel
theorem dX8_school_144 : decode cX8_school 144 = .ok (.iinc 1 1, 3) := by decide +kernel
theorem dX8_school_147 : decode cX8_school 147 = .ok (.goto (-39), 3) := by decide +kernel
theorem dX8_school_150 : decode cX8_school 150 = .ok (.aload_n 0, 1) := by decide +kernel
theorem dX8_school_151 : decode cX8_school 151 = .ok (.getfield 48, 3) := by decide +kernel
theorem dX8_school_154 : decode cX8_school 154 = .ok (.ifCond .ne 14, 3) := by decide +kernel
theorem dX8_school_157 : decode cX8_school 157 = .ok (.aload_n 0, 1) := by decide +kernel
theorem dX8_school_158 : decode cX8_school 158 = .ok (.getfield 42, 3) := by decide +kernel
theorem dX8_school_161 : decode cX8_school 161 = .ok (.aload_n 0, 1) := by decide +kernel
theorem dX8_school_162 : decode cX8_school 162 = .ok (.getfield 45, 3) := by decide +kernel
theorem dX8_school_165 : decode cX8_school 165 = .ok (.if_icmp .eq 11, 3) := by decide +kernel
theorem dX8_school_168 : decode cX8_school 168 = .ok (.bipush (-10), 2) := by decide +kernel
theorem dX8_school_170 : decode cX8_school 170 = .ok (.aload_n 0, 1) := by decide +kernel
theorem dX8_school_171 : decode cX8_school 171 = .ok (.getfield 42, 3) := by decide +kernel
theorem dX8_school_174 : decode cX8_school 174 = .ok (.isub, 1) := by decide +kernel
theorem dX8_school_175 : decode cX8_school 175 = .ok (.ireturn, 1) := by decide +kernel
theorem dX8_school_176 : decode cX8_school 176 = .ok (.aload_n 0, 1) := by decide +kernel
theorem dX8_school_177 : decode cX8_school 177 = .ok (.getfield 9, 3) := by decide +kernel
theorem dX8_school_180 : decode cX8_school 180 = .ok (.bipush 21, 2) := by decide +kernel
theorem dX8_school_182 : decode cX8_school 182 = .ok (.dup2, 1) := by decide +kernel
theorem dX8_school_183 : decode cX8_school 183 = .ok (.iaload, 1) := by decide +kernel
theorem dX8_school_184 : decode cX8_school 184 = .ok (.iconst 1, 1) := by decide +kernel
theorem dX8_school_185 : decode cX8_school 185 = .ok (.iadd, 1) := by decide +kernel
theorem dX8_school_186 : decode cX8_school 186 = .ok (.iastore, 1) := by decide +kernel
theorem dX8_school_187 : decode cX8_school 187 = .ok (.aload_n 0, 1) := by decide +kernel
theorem dX8_school_188 : decode cX8_school 188 = .ok (.getfield 9, 3) := by decide +kernel
theorem dX8_school_191 : decode cX8_school 191 = .ok (.bipush 26, 2) := by decide +kernel
theorem dX8_school_193 : decode cX8_school 193 = .ok (.aload_n 0, 1) := by decide +kernel
theorem dX8_school_194 : decode cX8_school 194 = .ok (.getfield 69, 3) := by decide +kernel
theorem dX8_school_197 : decode cX8_school 197 = .ok (.iastore, 1) := by decide +kernel
theorem dX8_school_198 : decode cX8_school 198 = .ok (.aload_n 0, 1) := by decide +kernel
theorem dX8_school_199 : decode cX8_school 199 = .ok (.getfield 69, 3) := by decide +kernel
theorem dX8_school_202 : decode cX8_school 202 = .ok (.ireturn, 1) := by decide +kernel
theorem dX8_tellsOf_0 : decode cX8_tellsOf 0 = .ok (.aload_n 0, 1) := by decide +kernel
theorem dX8_tellsOf_1 : decode cX8_tellsOf 1 = .ok (.getfield 9, 3) := by decide +kernel
theorem dX8_tellsOf_4 : decode cX8_tellsOf 4 = .ok (.bipush 26, 2) := by decide +kernel
theorem dX8_tellsOf_6 : decode cX8_tellsOf 6 = .ok (.iaload, 1) := by decide +kernel
theorem dX8_tellsOf_7 : decode cX8_tellsOf 7 = .ok (.iconst (-1), 1) := by decide +kernel
theorem dX8_tellsOf_8 : decode cX8_tellsOf 8 = .ok (.if_icmp .ne 7, 3) := by decide +kernel
theorem dX8_tellsOf_11 : decode cX8_tellsOf 11 = .ok (.iload_n 2, 1) := by decide +kernel
theorem dX8_tellsOf_12 : decode cX8_tellsOf 12 = .ok (.goto 17, 3) := by decide +kernel
theorem dX8_tellsOf_15 : decode cX8_tellsOf 15 = .ok (.aload_n 0, 1) := by decide +kernel
theorem dX8_tellsOf_16 : decode cX8_tellsOf 16 = .ok (.getfield 9, 3) := by decide +kernel
theorem dX8_tellsOf_19 : decode cX8_tellsOf 19 = .ok (.iload_n 1, 1) := by decide +kernel
theorem dX8_tellsOf_20 : decode cX8_tellsOf 20 = .ok (.aload_n 0, 1) := by decide +kernel
theorem dX8_tellsOf_21 : decode cX8_tellsOf 21 = .ok (.getfield 9, 3) := by decide +kernel
theorem dX8_tellsOf_24 : decode cX8_tellsOf 24 = .ok (.bipush 26, 2) := by decide +kernel
theorem dX8_tellsOf_26 : decode cX8_tellsOf 26 = .ok (.iaload, 1) := by decide +kernel
theorem dX8_tellsOf_27 : decode cX8_tellsOf 27 = .ok (.iadd, 1) := by decide +kernel
theorem dX8_tellsOf_28 : decode cX8_tellsOf 28 = .ok (.iaload, 1) := by decide +kernel
theorem dX8_tellsOf_29 : decode cX8_tellsOf 29 = .ok (.ireturn, 1) := by decide +kernel
set_option maxRecDepth 20000 in
theorem ggX8_goalNow_X8_tellsOf : GoodIn wsX8_goalNow wsX8_tellsOf := goodIn_r _ [5, 6, 10, 11, 12, 13, 14, 15, 16, 17, 18, 19, 20, 21, 22, 23, 24, 25, 26, 27, 28, 29] (by decide +kernel) (by decide +kernel)
set_option maxRecDepth 20000 in
theorem gX8_goalNow_X8_tellsOf : GoodIn wsX8_goalNow (wsV RX8 123 RX8 yX8_tellsOf wsX8_tellsOf) := goodIn_app (goodIn_of _ (by decide +kernel)) ggX8_goalNow_X8_tellsOf
set_option maxRecDepth 20000 in
theorem ggX8_goalNow_X8_within : GoodIn wsX8_goalNow wsX8_within := goodIn_r _ [9] (by decide +kernel) (by decide +kernel)
set_option maxRecDepth 20000 in
theorem gX8_goalNow_X8_within : GoodIn wsX8_goalNow (va_wsS RX8 127 yX8_within wsX8_within) := goodIn_app (goodIn_of _ (by decide +kernel)) ggX8_goalNow_X8_within
theorem dX8_goalNow_0 : decode cX8_goalNow 0 = .ok (.aload_n 0, 1) := by decide +kernel
theorem dX8_goalNow_1 : decode cX8_goalNow 1 = .ok (.sipush 211, 3) := by decide +kernel
theorem dX8_goalNow_4 : decode cX8_goalNow 4 = .ok (.bipush 60, 2) := by decide +kernel
theorem dX8_goalNow_6 : decode cX8_goalNow 6 = .ok (.invokevirtual 123, 3) := by decide +kernel
theorem dX8_goalNow_9 : decode cX8_goalNow 9 = .ok (.iconst 1, 1) := by decide +kernel
theorem dX8_goalNow_10 : decode cX8_goalNow 10 = .ok (.bipush 99, 2) := by decide +kernel
theorem dX8_goalNow_12 : decode cX8_goalNow 12 = .ok (.invokestatic 127, 3) := by decide +kernel
theorem dX8_goalNow_15 : decode cX8_goalNow 15 = .ok (.ireturn, 1) := by decide +kernel
set_option maxRecDepth 20000 in
theorem ggX8_looks_X8_tellsOf : GoodIn wsX8_looks wsX8_tellsOf := goodIn_r _ [8, 2, 9, 10, 11, 12, 13, 14, 15, 16, 17, 18, 19, 20, 21, 22, 23, 24, 25, 26, 27, 28] (by decide +kernel) (by decide +kernel)
set_option maxRecDepth 20000 in
theorem gX8_looks_X8_tellsOf : GoodIn wsX8_looks (wsV RX8 123 RX8 yX8_tellsOf wsX8_tellsOf) := goodIn_app (goodIn_of _ (by decide +kernel)) ggX8_looks_X8_tellsOf
theorem dX8_looks_0 : decode cX8_looks 0 = .ok (.aload_n 0, 1) := by decide +kernel
theorem dX8_looks_1 : decode cX8_looks 1 = .ok (.getfield 21, 3) := by decide +kernel
theorem dX8_looks_4 : decode cX8_looks 4 = .ok (.iconst 0, 1) := by decide +kernel
theorem dX8_looks_5 : decode cX8_looks 5 = .ok (.iload_n 1, 1) := by decide +kernel
theorem dX8_looks_6 : decode cX8_looks 6 = .ok (.iastore, 1) := by decide +kernel
theorem dX8_looks_7 : decode cX8_looks 7 = .ok (.aload_n 0, 1) := by decide +kernel
theorem dX8_looks_8 : decode cX8_looks 8 = .ok (.getfield 21, 3) := by decide +kernel
theorem dX8_looks_11 : decode cX8_looks 11 = .ok (.iconst 1, 1) := by decide +kernel
theorem dX8_looks_12 : decode cX8_looks 12 = .ok (.aload_n 0, 1) := by decide +kernel
theorem dX8_looks_13 : decode cX8_looks 13 = .ok (.getfield 9, 3) := by decide +kernel
theorem dX8_looks_16 : decode cX8_looks 16 = .ok (.bipush 27, 2) := by decide +kernel
theorem dX8_looks_18 : decode cX8_looks 18 = .ok (.iload_n 1, 1) := by decide +kernel
theorem dX8_looks_19 : decode cX8_looks 19 = .ok (.iadd, 1) := by decide +kernel
theorem dX8_looks_20 : decode cX8_looks 20 = .ok (.iaload, 1) := by decide +kernel
theorem dX8_looks_21 : decode cX8_looks 21 = .ok (.iastore, 1) := by decide +kernel
theorem dX8_looks_22 : decode cX8_looks 22 = .ok (.aload_n 0, 1) := by decide +kernel
theorem dX8_looks_23 : decode cX8_looks 23 = .ok (.getfield 21, 3) := by decide +kernel
theorem dX8_looks_26 : decode cX8_looks 26 = .ok (.iconst 2, 1) := by decide +kernel
theorem dX8_looks_27 : decode cX8_looks 27 = .ok (.aload_n 0, 1) := by decide +kernel
theorem dX8_looks_28 : decode cX8_looks 28 = .ok (.getfield 9, 3) := by decide +kernel
theorem dX8_looks_31 : decode cX8_looks 31 = .ok (.bipush 33, 2) := by decide +kernel
theorem dX8_looks_33 : decode cX8_looks 33 = .ok (.iload_n 1, 1) := by decide +kernel
theorem dX8_looks_34 : decode cX8_looks 34 = .ok (.iadd, 1) := by decide +kernel
theorem dX8_looks_35 : decode cX8_looks 35 = .ok (.iaload, 1) := by decide +kernel
theorem dX8_looks_36 : decode cX8_looks 36 = .ok (.iastore, 1) := by decide +kernel
theorem dX8_looks_37 : decode cX8_looks 37 = .ok (.aload_n 0, 1) := by decide +kernel
theorem dX8_looks_38 : decode cX8_looks 38 = .ok (.getfield 21, 3) := by decide +kernel
theorem dX8_looks_41 : decode cX8_looks 41 = .ok (.iconst 3, 1) := by decide +kernel
theorem dX8_looks_42 : decode cX8_looks 42 = .ok (.aload_n 0, 1) := by decide +kernel
theorem dX8_looks_43 : decode cX8_looks 43 = .ok (.getfield 9, 3) := by decide +kernel
theorem dX8_looks_46 : decode cX8_looks 46 = .ok (.bipush 39, 2) := by decide +kernel
theorem dX8_looks_48 : decode cX8_looks 48 = .ok (.iload_n 1, 1) := by decide +kernel
theorem dX8_looks_49 : decode cX8_looks 49 = .ok (.iadd, 1) := by decide +kernel
theorem dX8_looks_50 : decode cX8_looks 50 = .ok (.iaload, 1) := by decide +kernel
theorem dX8_looks_51 : decode cX8_looks 51 = .ok (.iastore, 1) := by decide +kernel
theorem dX8_looks_52 : decode cX8_looks 52 = .ok (.aload_n 0, 1) := by decide +kernel
theorem dX8_looks_53 : decode cX8_looks 53 = .ok (.getfield 21, 3) := by decide +kernel
theorem dX8_looks_56 : decode cX8_looks 56 = .ok (.iconst 4, 1) := by decide +kernel
theorem dX8_looks_57 : decode cX8_looks 57 = .ok (.aload_n 0, 1) := by decide +kernel
theorem dX8_looks_58 : decode cX8_looks 58 = .ok (.getfield 9, 3) := by decide +kernel
theorem dX8_looks_61 : decode cX8_looks 61 = .ok (.iconst 2, 1) := by decide +kernel
theorem dX8_looks_62 : decode cX8_looks 62 = .ok (.iload_n 1, 1) := by decide +kernel
theorem dX8_looks_63 : decode cX8_looks 63 = .ok (.iadd, 1) := by decide +kernel
theorem dX8_looks_64 : decode cX8_looks 64 = .ok (.iaload, 1) := by decide +kernel
theorem dX8_looks_65 : decode cX8_looks 65 = .ok (.bipush 10, 2) := by decide +kernel
theorem dX8_looks_67 : decode cX8_looks 67 = .ok (.idiv, 1) := by decide +kernel
theorem dX8_looks_68 : decode cX8_looks 68 = .ok (.iastore, 1) := by decide +kernel
theorem dX8_looks_69 : decode cX8_looks 69 = .ok (.aload_n 0, 1) := by decide +kernel
theorem dX8_looks_70 : decode cX8_looks 70 = .ok (.getfield 21, 3) := by decide +kernel
theorem dX8_looks_73 : decode cX8_looks 73 = .ok (.iconst 5, 1) := by decide +kernel
theorem dX8_looks_74 : decode cX8_looks 74 = .ok (.aload_n 0, 1) := by decide +kernel
theorem dX8_looks_75 : decode cX8_looks 75 = .ok (.getfield 9, 3) := by decide +kernel
theorem dX8_looks_78 : decode cX8_looks 78 = .ok (.iconst 0, 1) := by decide +kernel
theorem dX8_looks_79 : decode cX8_looks 79 = .ok (.iaload, 1) := by decide +kernel
theorem dX8_looks_80 : decode cX8_looks 80 = .ok (.bipush 10, 2) := by decide +kernel
theorem dX8_looks_82 : decode cX8_looks 82 = .ok (.irem, 1) := by decide +kernel
theorem dX8_looks_83 : decode cX8_looks 83 = .ok (.iastore, 1) := by decide +kernel
theorem dX8_looks_84 : decode cX8_looks 84 = .ok (.iconst 0, 1) := by decide +kernel
theorem dX8_looks_85 : decode cX8_looks 85 = .ok (.istore_n 2, 1) := by decide +kernel
theorem dX8_looks_86 : decode cX8_looks 86 = .ok (.aload_n 0, 1) := by decide +kernel
theorem dX8_looks_87 : decode cX8_looks 87 = .ok (.sipush 221, 3) := by decide +kernel
theorem dX8_looks_90 : decode cX8_looks 90 = .ok (.iconst 0, 1) := by decide +kernel
theorem dX8_looks_91 : decode cX8_looks 91 = .ok (.invokevirtual 123, 3) := by decide +kernel
theorem dX8_looks_94 : decode cX8_looks 94 = .ok (.istore_n 3, 1) := by decide +kernel
theorem dX8_looks_95 : decode cX8_looks 95 = .ok (.sipush 226, 3) := by decide +kernel
theorem dX8_looks_98 : decode cX8_looks 98 = .ok (.sipush 140, 3) := by decide +kernel
theorem dX8_looks_101 : decode cX8_looks 101 = .ok (.aload_n 0, 1) := by decide +kernel
theorem dX8_looks_102 : decode cX8_looks 102 = .ok (.getfield 9, 3) := by decide +kernel
theorem dX8_looks_105 : decode cX8_looks 105 = .ok (.bipush 26, 2) := by decide +kernel
theorem dX8_looks_107 : decode cX8_looks 107 = .ok (.iaload, 1) := by decide +kernel
theorem dX8_looks_108 : decode cX8_looks 108 = .ok (.imul, 1) := by decide +kernel
theorem dX8_looks_109 : decode cX8_looks 109 = .ok (.iadd, 1) := by decide +kernel
theorem dX8_looks_110 : decode cX8_looks 110 = .ok (.istore 4, 2) := by decide +kernel
theorem dX8_looks_112 : decode cX8_looks 112 = .ok (.iconst 0, 1) := by decide +kernel
theorem dX8_looks_113 : decode cX8_looks 113 = .ok (.istore 5, 2) := by decide +kernel
theorem dX8_looks_115 : decode cX8_looks 115 = .ok (.iload 4, 2) := by decide +kernel
theorem dX8_looks_117 : decode cX8_looks 117 = .ok (.istore 6, 2) := by decide +kernel
theorem dX8_looks_119 : decode cX8_looks 119 = .ok (.iload 6, 2) := by decide +kernel
theorem dX8_looks_121 : decode cX8_looks 121 = .ok (.iload 4, 2) := by decide +kernel
theorem dX8_looks_123 : decode cX8_looks 123 = .ok (.iload_n 3, 1) := by decide +kernel
theorem dX8_looks_124 : decode cX8_looks 124 = .ok (.iadd, 1) := by decide +kernel
theorem dX8_looks_125 : decode cX8_looks 125 = .ok (.if_icmp .ge 300, 3) := by decide +kernel
theorem dX8_looks_128 : decode cX8_looks 128 = .ok (.aload_n 0, 1) := by decide +kernel
theorem dX8_looks_129 : decode cX8_looks 129 = .ok (.getfield 9, 3) := by decide +kernel
theorem dX8_looks_132 : decode cX8_looks 132 = .ok (.iload 6, 2) := by decide +kernel
theorem dX8_looks_134 : decode cX8_looks 134 = .ok (.iaload, 1) := by decide +kernel
theorem dX8_looks_135 : decode cX8_looks 135 = .ok (.istore 7, 2) := by decide +kernel
theorem dX8_looks_137 : decode cX8_looks 137 = .ok (.iload 7, 2) := by decide +kernel
theorem dX8_looks_139 : decode cX8_looks 139 = .ok (.ifCond .lt 97, 3) := by decide +kernel
theorem dX8_looks_142 : decode cX8_looks 142 = .ok (.aload_n 0, 1) := by decide +kernel
theorem dX8_looks_143 : decode cX8_looks 143 = .ok (.getfield 21, 3) := by decide +kernel
theorem dX8_looks_146 : decode cX8_looks 146 = .ok (.iload 7, 2) := by decide +kernel
theorem dX8_looks_148 : decode cX8_looks 148 = .ok (.bipush 8, 2) := by decide +kernel
theorem dX8_looks_150 : decode cX8_looks 150 = .ok (.irem, 1) := by decide +kernel
theorem dX8_looks_151 : decode cX8_looks 151 = .ok (.iaload, 1) := by decide +kernel
theorem dX8_looks_152 : decode cX8_looks 152 = .ok (.istore 8, 2) := by decide +kernel
theorem dX8_looks_154 : decode cX8_looks 154 = .ok (.iload 7, 2) := by decide +kernel
theorem dX8_looks_156 : decode cX8_looks 156 = .ok (.bipush 8, 2) := by decide +kernel
theorem dX8_looks_158 : decode cX8_looks 158 = .ok (.idiv, 1) := by decide +kernel
theorem dX8_looks_159 : decode cX8_looks 159 = .ok (.iconst 4, 1) := by decide +kernel
theorem dX8_looks_160 : decode cX8_looks 160 = .ok (.irem, 1) := by decide +kernel
theorem dX8_looks_161 : decode cX8_looks 161 = .ok (.istore 9, 2) := by decide +kernel
theorem dX8_looks_163 : decode cX8_looks 163 = .ok (.iload 7, 2) := by decide +kernel
theorem dX8_looks_165 : decode cX8_looks 165 = .ok (.bipush 32, 2) := by decide +kernel
theorem dX8_looks_167 : decode cX8_looks 167 = .ok (.idiv, 1) := by decide +kernel
theorem dX8_looks_168 : decode cX8_looks 168 = .ok (.istore 10, 2) := by decide +kernel
theorem dX8_looks_170 : decode cX8_looks 170 = .ok (.aload_n 0, 1) := by decide +kernel
theorem dX8_looks_171 : decode cX8_looks 171 = .ok (.getfield 24, 3) := by decide +kernel
theorem dX8_looks_174 : decode cX8_looks 174 = .ok (.iload 5, 2) := by decide +kernel
theorem dX8_looks_176 : decode cX8_looks 176 = .ok (.iload 9, 2) := by decide +kernel
theorem dX8_looks_178 : decode cX8_looks 178 = .ok (.ifCond .ne 18, 3) := by decide +kernel
theorem dX8_looks_181 : decode cX8_looks 181 = .ok (.iload 8, 2) := by decide +kernel
theorem dX8_looks_183 : decode cX8_looks 183 = .ok (.iload 10, 2) := by decide +kernel
theorem dX8_looks_185 : decode cX8_looks 185 = .ok (.if_icmp .ge 7, 3) := by decide +kernel
theorem dX8_looks_188 : decode cX8_looks 188 = .ok (.iconst 1, 1) := by decide +kernel
theorem dX8_looks_189 : decode cX8_looks 189 = .ok (.goto 40, 3) := by decide +kernel
theorem dX8_looks_192 : decode cX8_looks 192 = .ok (.iconst 0, 1) := by decide +kernel
theorem dX8_looks_193 : decode cX8_looks 193 = .ok (.goto 36, 3) := by decide +kernel
theorem dX8_looks_196 : decode cX8_looks 196 = .ok (.iload 9, 2) := by decide +kernel
theorem dX8_looks_198 : decode cX8_looks 198 = .ok (.iconst 1, 1) := by decide +kernel
theorem dX8_looks_199 : decode cX8_looks 199 = .ok (.if_icmp .ne 18, 3) := by decide +kernel
theorem dX8_looks_202 : decode cX8_looks 202 = .ok (.iload 8, 2) := by decide +kernel
theorem dX8_looks_204 : decode cX8_looks 204 = .ok (.iload 10, 2) := by decide +kernel
theorem dX8_looks_206 : decode cX8_looks 206 = .ok (.if_icmp .ne 7, 3) := by decide +kernel
theorem dX8_looks_209 : decode cX8_looks 209 = .ok (.iconst 1, 1) := by decide +kernel
theorem dX8_looks_210 : decode cX8_looks 210 = .ok (.goto 19, 3) := by decide +kernel
theorem dX8_looks_213 : decode cX8_looks 213 = .ok (.iconst 0, 1) := by decide +kernel
theorem dX8_looks_214 : decode cX8_looks 214 = .ok (.goto 15, 3) := by decide +kernel
theorem dX8_looks_217 : decode cX8_looks 217 = .ok (.iload 8, 2) := by decide +kernel
theorem dX8_looks_219 : decode cX8_looks 219 = .ok (.iload 10, 2) := by decide +kernel
theorem dX8_looks_221 : decode cX8_looks 221 = .ok (.if_icmp .le 7, 3) := by decide +kernel
theorem dX8_looks_224 : decode cX8_looks 224 = .ok (.iconst 1, 1) := by decide +kernel
theorem dX8_looks_225 : decode cX8_looks 225 = .ok (.goto 4, 3) := by decide +kernel
theorem dX8_looks_228 : decode cX8_looks 228 = .ok (.iconst 0, 1) := by decide +kernel
theorem dX8_looks_229 : decode cX8_looks 229 = .ok (.bastore, 1) := by decide +kernel
theorem dX8_looks_230 : decode cX8_looks 230 = .ok (.iinc 5 1, 3) := by decide +kernel
theorem dX8_looks_233 : decode cX8_looks 233 = .ok (.goto 186, 3) := by decide +kernel
theorem dX8_looks_236 : decode cX8_looks 236 = .ok (.iload 7, 2) := by decide +kernel
theorem dX8_looks_238 : decode cX8_looks 238 = .ok (.iconst (-1), 1) := by decide +kernel
theorem dX8_looks_239 : decode cX8_looks 239 = .ok (.if_icmp .ne 32, 3) := by decide +kernel
theorem dX8_looks_242 : decode cX8_looks 242 = .ok (.aload_n 0, 1) := by decide +kernel
theorem dX8_looks_243 : decode cX8_looks 243 = .ok (.getfield 24, 3) := by decide +kernel
theorem dX8_looks_246 : decode cX8_looks 246 = .ok (.iload 5, 2) := by decide +kernel
theorem dX8_looks_248 : decode cX8_looks 248 = .ok (.iconst 1, 1) := by decide +kernel
theorem dX8_looks_249 : decode cX8_looks 249 = .ok (.isub, 1) := by decide +kernel
theorem dX8_looks_250 : decode cX8_looks 250 = .ok (.aload_n 0, 1) := by decide +kernel
theorem dX8_looks_251 : decode cX8_looks 251 = .ok (.getfield 24, 3) := by decide +kernel
theorem dX8_looks_254 : decode cX8_looks 254 = .ok (.iload 5, 2) := by decide +kernel
theorem dX8_looks_256 : decode cX8_looks 256 = .ok (.iconst 1, 1) := by decide +kernel
theorem dX8_looks_257 : decode cX8_looks 257 = .ok (.isub, 1) := by decide +kernel
theorem dX8_looks_258 : decode cX8_looks 258 = .ok (.baload, 1) := by decide +kernel
theorem dX8_looks_259 : decode cX8_looks 259 = .ok (.ifCond .ne 7, 3) := by decide +kernel
theorem dX8_looks_262 : decode cX8_looks 262 = .ok (.iconst 1, 1) := by decide +kernel
theorem dX8_looks_263 : decode cX8_looks 263 = .ok (.goto 4, 3) := by decide +kernel
theorem dX8_looks_266 : decode cX8_looks 266 = .ok (.iconst 0, 1) := by decide +kernel
theorem dX8_looks_267 : decode cX8_looks 267 = .ok (.bastore, 1) := by decide +kernel
theorem dX8_looks_268 : decode cX8_looks 268 = .ok (.goto 151, 3) := by decide +kernel
theorem dX8_looks_271 : decode cX8_looks 271 = .ok (.iload 7, 2) := by decide +kernel
theorem dX8_looks_273 : decode cX8_looks 273 = .ok (.bipush (-10), 2) := by decide +kernel
theorem dX8_looks_275 : decode cX8_looks 275 = .ok (.if_icmp .le 82, 3) := by decide +kernel
theorem dX8_looks_278 : decode cX8_looks 278 = .ok (.iinc 5 (-1), 3) := by decide +kernel
theorem dX8_looks_281 : decode cX8_looks 281 = .ok (.aload_n 0, 1) := by decide +kernel
theorem dX8_looks_282 : decode cX8_looks 282 = .ok (.getfield 24, 3) := by decide +kernel
theorem dX8_looks_285 : decode cX8_looks 285 = .ok (.iload 5, 2) := by decide +kernel
theorem dX8_looks_287 : decode cX8_looks 287 = .ok (.iconst 1, 1) := by decide +kernel
theorem dX8_looks_288 : decode cX8_looks 288 = .ok (.isub, 1) := by decide +kernel
theorem dX8_looks_289 : decode cX8_looks 289 = .ok (.iload 7, 2) := by decide +kernel
theorem dX8_looks_291 : decode cX8_looks 291 = .ok (.bipush (-2), 2) := by decide +kernel
theorem dX8_looks_293 : decode cX8_looks 293 = .ok (.if_icmp .ne 33, 3) := by decide +kernel
theorem dX8_looks_296 : decode cX8_looks 296 = .ok (.aload_n 0, 1) := by decide +kernel
theorem dX8_looks_297 : decode cX8_looks 297 = .ok (.getfield 24, 3) := by decide +kernel
theorem dX8_looks_300 : decode cX8_looks 300 = .ok (.iload 5, 2) := by decide +kernel
theorem dX8_looks_302 : decode cX8_looks 302 = .ok (.iconst 1, 1) := by decide +kernel
theorem dX8_looks_303 : decode cX8_looks 303 = .ok (.isub, 1) := by decide +kernel
theorem dX8_looks_304 : decode cX8_looks 304 = .ok (.baload, 1) := by decide +kernel
theorem dX8_looks_305 : decode cX8_looks 305 = .ok (.ifCond .eq 17, 3) := by decide +kernel
theorem dX8_looks_308 : decode cX8_looks 308 = .ok (.aload_n 0, 1) := by decide +kernel
theorem dX8_looks_309 : decode cX8_looks 309 = .ok (.getfield 24, 3) := by decide +kernel
theorem dX8_looks_312 : decode cX8_looks 312 = .ok (.iload 5, 2) := by decide +kernel
theorem dX8_looks_314 : decode cX8_looks 314 = .ok (.baload, 1) := by decide +kernel
theorem dX8_looks_315 : decode cX8_looks 315 = .ok (.ifCond .eq 7, 3) := by decide +kernel
theorem dX8_looks_318 : decode cX8_looks 318 = .ok (.iconst 1, 1) := by decide +kernel
theorem dX8_looks_319 : decode cX8_looks 319 = .ok (.goto 34, 3) := by decide +kernel
theorem dX8_looks_322 : decode cX8_looks 322 = .ok (.iconst 0, 1) := by decide +kernel
theorem dX8_looks_323 : decode cX8_looks 323 = .ok (.goto 30, 3) := by decide +kernel
theorem dX8_looks_326 : decode cX8_looks 326 = .ok (.aload_n 0, 1) := by decide +kernel
theorem dX8_looks_327 : decode cX8_looks 327 = .ok (.getfield 24, 3) := by decide +kernel
theorem dX8_looks_330 : decode cX8_looks 330 = .ok (.iload 5, 2) := by decide +kernel
theorem dX8_looks_332 : decode cX8_looks 332 = .ok (.iconst 1, 1) := by decide +kernel
theorem dX8_looks_333 : decode cX8_looks 333 = .ok (.isub, 1) := by decide +kernel
theorem dX8_looks_334 : decode cX8_looks 334 = .ok (.baload, 1) := by decide +kernel
theorem dX8_looks_335 : decode cX8_looks 335 = .ok (.ifCond .ne 13, 3) := by decide +kernel
theorem dX8_looks_338 : decode cX8_looks 338 = .ok (.aload_n 0, 1) := by decide +kernel
theorem dX8_looks_339 : decode cX8_looks 339 = .ok (.getfield 24, 3) := by decide +kernel
theorem dX8_looks_342 : decode cX8_looks 342 = .ok (.iload 5, 2) := by decide +kernel
theorem dX8_looks_344 : decode cX8_looks 344 = .ok (.baload, 1) := by decide +kernel
theorem dX8_looks_345 : decode cX8_looks 345 = .ok (.ifCond .eq 7, 3) := by decide +kernel
theorem dX8_looks_348 : decode cX8_looks 348 = .ok (.iconst 1, 1) := by decide +kernel
theorem dX8_looks_349 : decode cX8_looks 349 = .ok (.goto 4, 3) := by decide +kernel
theorem dX8_looks_352 : decode cX8_looks 352 = .ok (.iconst 0, 1) := by decide +kernel
theorem dX8_looks_353 : decode cX8_looks 353 = .ok (.bastore, 1) := by decide +kernel
theorem dX8_looks_354 : decode cX8_looks 354 = .ok (.goto 65, 3) := by decide +kernel
theorem dX8_looks_357 : decode cX8_looks 357 = .ok (.iconst 0, 1) := by decide +kernel
theorem dX8_looks_358 : decode cX8_looks 358 = .ok (.istore 5, 2) := by decide +kernel
theorem dX8_looks_360 : decode cX8_looks 360 = .ok (.aload_n 0, 1) := by decide +kernel
theorem dX8_looks_361 : decode cX8_looks 361 = .ok (.getfield 24, 3) := by decide +kernel
theorem dX8_looks_364 : decode cX8_looks 364 = .ok (.iconst 0, 1) := by decide +kernel
theorem dX8_looks_365 : decode cX8_looks 365 = .ok (.baload, 1) := by decide +kernel
theorem dX8_looks_366 : decode cX8_looks 366 = .ok (.istore 8, 2) := by decide +kernel
theorem dX8_looks_368 : decode cX8_looks 368 = .ok (.iload_n 2, 1) := by decide +kernel
theorem dX8_looks_369 : decode cX8_looks 369 = .ok (.iload 8, 2) := by decide +kernel
theorem dX8_looks_371 : decode cX8_looks 371 = .ok (.ifCond .eq 19, 3) := by decide +kernel
theorem dX8_looks_374 : decode cX8_looks 374 = .ok (.iload 7, 2) := by decide +kernel
theorem dX8_looks_376 : decode cX8_looks 376 = .ok (.sipush (-200), 3) := by decide +kernel
theorem dX8_looks_379 : decode cX8_looks 379 = .ok (.if_icmp .le 11, 3) := by decide +kernel
theorem dX8_looks_382 : decode cX8_looks 382 = .ok (.bipush (-10), 2) := by decide +kernel
theorem dX8_looks_384 : decode cX8_looks 384 = .ok (.iload 7, 2) := by decide +kernel
theorem dX8_looks_386 : decode cX8_looks 386 = .ok (.isub, 1) := by decide +kernel
theorem dX8_looks_387 : decode cX8_looks 387 = .ok (.goto 4, 3) := by decide +kernel
theorem dX8_looks_390 : decode cX8_looks 390 = .ok (.iconst 0, 1) := by decide +kernel
theorem dX8_looks_391 : decode cX8_looks 391 = .ok (.iadd, 1) := by decide +kernel
theorem dX8_looks_392 : decode cX8_looks 392 = .ok (.istore_n 2, 1) := by decide +kernel
theorem dX8_looks_393 : decode cX8_looks 393 = .ok (.iload_n 2, 1) := by decide +kernel
theorem dX8_looks_394 : decode cX8_looks 394 = .ok (.iload 8, 2) := by decide +kernel
theorem dX8_looks_396 : decode cX8_looks 396 = .ok (.ifCond .eq 20, 3) := by decide +kernel
theorem dX8_looks_399 : decode cX8_looks 399 = .ok (.iload 7, 2) := by decide +kernel
theorem dX8_looks_401 : decode cX8_looks 401 = .ok (.sipush (-200), 3) := by decide +kernel
theorem dX8_looks_404 : decode cX8_looks 404 = .ok (.if_icmp .gt 12, 3) := by decide +kernel
theorem dX8_looks_407 : decode cX8_looks 407 = .ok (.sipush (-200), 3) := by decide +kernel
theorem dX8_looks_410 : decode cX8_looks 410 = .ok (.iload 7, 2) := by decide +kernel
theorem dX8_looks_412 : decode cX8_looks 412 = .ok (.isub, 1) := by decide +kernel
theorem dX8_looks_413 : decode cX8_looks 413 = .ok (.goto 4, 3) := by decide +kernel
theorem dX8_looks_416 : decode cX8_looks 416 = .ok (.iconst 0, 1) := by decide +kernel
theorem dX8_looks_417 : decode cX8_looks 417 = .ok (.isub, 1) := by decide +kernel
theorem dX8_looks_418 : decode cX8_looks 418 = .ok (.istore_n 2, 1) := by decide +kernel
theorem dX8_looks_419 : decode cX8_looks 419 = .ok (.iinc 6 1, 3) := by decide +kernel
theorem dX8_looks_422 : decode cX8_looks 422 = .ok (.goto (-303), 3) := by decide +kernel
theorem dX8_looks_425 : decode cX8_looks 425 = .ok (.iload_n 2, 1) := by decide +kernel
theorem dX8_looks_426 : decode cX8_looks 426 = .ok (.ireturn, 1) := by decide +kernel
set_option maxRecDepth 20000 in
theorem ggX8_zealOf_X8_looks : GoodIn wsX8_zealOf wsX8_looks := goodIn_r _ [5, 6, 7, 8, 9, 10, 11, 4, 12, 13, 14, 15, 16, 17, 18, 19, 20, 21, 22, 23, 24, 25, 26, 27, 28, 29, 30, 31, 32] (by decide +kernel) (by decide +kernel)
set_option maxRecDepth 20000 in
theorem gX8_zealOf_X8_looks : GoodIn wsX8_zealOf (wsV RX8 131 RX8 yX8_looks wsX8_looks) := goodIn_app (goodIn_of _ (by decide +kernel)) ggX8_zealOf_X8_looks
theorem dX8_zealOf_0 : decode cX8_zealOf 0 = .ok (.iconst 5, 1) := by decide +kernel
theorem dX8_zealOf_1 : decode cX8_zealOf 1 = .ok (.aload_n 0, 1) := by decide +kernel
theorem dX8_zealOf_2 : decode cX8_zealOf 2 = .ok (.iload_n 1, 1) := by decide +kernel
theorem dX8_zealOf_3 : decode cX8_zealOf 3 = .ok (.invokevirtual 131, 3) := by decide +kernel
theorem dX8_zealOf_6 : decode cX8_zealOf 6 = .ok (.iadd, 1) := by decide +kernel
theorem dX8_zealOf_7 : decode cX8_zealOf 7 = .ok (.istore_n 2, 1) := by decide +kernel
theorem dX8_zealOf_8 : decode cX8_zealOf 8 = .ok (.iload_n 2, 1) := by decide +kernel
theorem dX8_zealOf_9 : decode cX8_zealOf 9 = .ok (.ifCond .ge 7, 3) := by decide +kernel
theorem dX8_zealOf_12 : decode cX8_zealOf 12 = .ok (.iconst 0, 1) := by decide +kernel
theorem dX8_zealOf_13 : decode cX8_zealOf 13 = .ok (.goto 4, 3) := by decide +kernel
theorem dX8_zealOf_16 : decode cX8_zealOf 16 = .ok (.iload_n 2, 1) := by decide +kernel
theorem dX8_zealOf_17 : decode cX8_zealOf 17 = .ok (.ireturn, 1) := by decide +kernel
theorem dX8_manyIn_0 : decode cX8_manyIn 0 = .ok (.iconst 0, 1) := by decide +kernel
theorem dX8_manyIn_1 : decode cX8_manyIn 1 = .ok (.istore_n 1, 1) := by decide +kernel
theorem dX8_manyIn_2 : decode cX8_manyIn 2 = .ok (.iconst 0, 1) := by decide +kernel
theorem dX8_manyIn_3 : decode cX8_manyIn 3 = .ok (.istore_n 2, 1) := by decide +kernel
theorem dX8_manyIn_4 : decode cX8_manyIn 4 = .ok (.iload_n 2, 1) := by decide +kernel
theorem dX8_manyIn_5 : decode cX8_manyIn 5 = .ok (.aload_n 0, 1) := by decide +kernel
theorem dX8_manyIn_6 : decode cX8_manyIn 6 = .ok (.getfield 9, 3) := by decide +kernel
theorem dX8_manyIn_9 : decode cX8_manyIn 9 = .ok (.bipush 20, 2) := by decide +kernel
theorem dX8_manyIn_11 : decode cX8_manyIn 11 = .ok (.iaload, 1) := by decide +kernel
theorem dX8_manyIn_12 : decode cX8_manyIn 12 = .ok (.if_icmp .ge 29, 3) := by decide +kernel
theorem dX8_manyIn_15 : decode cX8_manyIn 15 = .ok (.iload_n 1, 1) := by decide +kernel
theorem dX8_manyIn_16 : decode cX8_manyIn 16 = .ok (.aload_n 0, 1) := by decide +kernel
theorem dX8_manyIn_17 : decode cX8_manyIn 17 = .ok (.getfield 9, 3) := by decide +kernel
theorem dX8_manyIn_20 : decode cX8_manyIn 20 = .ok (.bipush 14, 2) := by decide +kernel
theorem dX8_manyIn_22 : decode cX8_manyIn 22 = .ok (.iload_n 2, 1) := by decide +kernel
theorem dX8_manyIn_23 : decode cX8_manyIn 23 = .ok (.iadd, 1) := by decide +kernel
theorem dX8_manyIn_24 : decode cX8_manyIn 24 = .ok (.iaload, 1) := by decide +kernel
theorem dX8_manyIn_25 : decode cX8_manyIn 25 = .ok (.ifCond .ne 7, 3) := by decide +kernel
theorem dX8_manyIn_28 : decode cX8_manyIn 28 = .ok (.iconst 1, 1) := by decide +kernel
theorem dX8_manyIn_29 : decode cX8_manyIn 29 = .ok (.goto 4, 3) := by decide +kernel
theorem dX8_manyIn_32 : decode cX8_manyIn 32 = .ok (.iconst 0, 1) := by decide +kernel
theorem dX8_manyIn_33 : decode cX8_manyIn 33 = .ok (.iadd, 1) := by decide +kernel
theorem dX8_manyIn_34 : decode cX8_manyIn 34 = .ok (.istore_n 1, 1) := by decide +kernel
theorem dX8_manyIn_35 : decode cX8_manyIn 35 = .ok (.iinc 2 1, 3) := by decide +kernel
theorem dX8_manyIn_38 : decode cX8_manyIn 38 = .ok (.goto (-34), 3) := by decide +kernel
theorem dX8_manyIn_41 : decode cX8_manyIn 41 = .ok (.iload_n 1, 1) := by decide +kernel
theorem dX8_manyIn_42 : decode cX8_manyIn 42 = .ok (.ireturn, 1) := by decide +kernel
theorem dX8_moreSkilled_0 : decode cX8_moreSkilled 0 = .ok (.iconst 0, 1) := by decide +kernel
theorem dX8_moreSkilled_1 : decode cX8_moreSkilled 1 = .ok (.istore_n 2, 1) := by decide +kernel
theorem dX8_moreSkilled_2 : decode cX8_moreSkilled 2 = .ok (.iconst 0, 1) := by decide +kernel
theorem dX8_moreSkilled_3 : decode cX8_moreSkilled 3 = .ok (.istore_n 3, 1) := by decide +kernel
theorem dX8_moreSkilled_4 : decode cX8_moreSkilled 4 = .ok (.iload_n 3, 1) := by decide +kernel
theorem dX8_moreSkilled_5 : decode cX8_moreSkilled 5 = .ok (.aload_n 0, 1) := by decide +kernel
theorem dX8_moreSkilled_6 : decode cX8_moreSkilled 6 = .ok (.getfield 9, 3) := by decide +kernel
theorem dX8_moreSkilled_9 : decode cX8_moreSkilled 9 = .ok (.bipush 20, 2) := by decide +kernel
theorem dX8_moreSkilled_11 : decode cX8_moreSkilled 11 = .ok (.iaload, 1) := by decide +kernel
theorem dX8_moreSkilled_12 : decode cX8_moreSkilled 12 = .ok (.if_icmp .ge 55, 3) := by decide +kernel
theorem dX8_moreSkilled_15 : decode cX8_moreSkilled 15 = .ok (.iload_n 2, 1) := by decide +kernel
theorem dX8_moreSkilled_16 : decode cX8_moreSkilled 16 = .ok (.iload_n 3, 1) := by decide +kernel
theorem dX8_moreSkilled_17 : decode cX8_moreSkilled 17 = .ok (.iload_n 1, 1) := by decide +kernel
theorem dX8_moreSkilled_18 : decode cX8_moreSkilled 18 = .ok (.if_icmp .eq 40, 3) := by decide +kernel
theorem dX8_moreSkilled_21 : decode cX8_moreSkilled 21 = .ok (.aload_n 0, 1) := by decide +kernel
theorem dX8_moreSkilled_22 : decode cX8_moreSkilled 22 = .ok (.getfield 9, 3) := by decide +kernel
theorem dX8_moreSkilled_25 : decode cX8_moreSkilled 25 = .ok (.bipush 14, 2) := by decide +kernel
theorem dX8_moreSkilled_27 : decode cX8_moreSkilled 27 = .ok (.iload_n 3, 1) := by decide +kernel
theorem dX8_moreSkilled_28 : decode cX8_moreSkilled 28 = .ok (.iadd, 1) := by decide +kernel
theorem dX8_moreSkilled_29 : decode cX8_moreSkilled 29 = .ok (.iaload, 1) := by decide +kernel
theorem dX8_moreSkilled_30 : decode cX8_moreSkilled 30 = .ok (.ifCond .ne 28, 3) := by decide +kernel
theorem dX8_moreSkilled_33 : decode cX8_moreSkilled 33 = .ok (.aload_n 0, 1) := by decide +kernel
theorem dX8_moreSkilled_34 : decode cX8_moreSkilled 34 = .ok (.getfield 9, 3) := by decide +kernel
theorem dX8_moreSkilled_37 : decode cX8_moreSkilled 37 = .ok (.bipush 39, 2) := by decide +kernel
theorem dX8_moreSkilled_39 : decode cX8_moreSkilled 39 = .ok (.iload_n 3, 1) := by decide +kernel
theorem dX8_moreSkilled_40 : decode cX8_moreSkilled 40 = .ok (.iadd, 1) := by decide +kernel
theorem dX8_moreSkilled_41 : decode cX8_moreSkilled 41 = .ok (.iaload, 1) := by decide +kernel
theorem dX8_moreSkilled_42 : decode cX8_moreSkilled 42 = .ok (.aload_n 0, 1) := by decide +kernel
theorem dX8_moreSkilled_43 : decode cX8_moreSkilled 43 = .ok (.getfield 9, 3) := by decide +kernel
theorem dX8_moreSkilled_46 : decode cX8_moreSkilled 46 = .ok (.bipush 39, 2) := by decide +kernel
theorem dX8_moreSkilled_48 : decode cX8_moreSkilled 48 = .ok (.iload_n 1, 1) := by decide +kernel
theorem dX8_moreSkilled_49 : decode cX8_moreSkilled 49 = .ok (.iadd, 1) := by decide +kernel
theorem dX8_moreSkilled_50 : decode cX8_moreSkilled 50 = .ok (.iaload, 1) := by decide +kernel
theorem dX8_moreSkilled_51 : decode cX8_moreSkilled 51 = .ok (.if_icmp .le 7, 3) := by decide +kernel
theorem dX8_moreSkilled_54 : decode cX8_moreSkilled 54 = .ok (.iconst 1, 1) := by decide +kernel
theorem dX8_moreSkilled_55 : decode cX8_moreSkilled 55 = .ok (.goto 4, 3) := by decide +kernel
theorem dX8_moreSkilled_58 : decode cX8_moreSkilled 58 = .ok (.iconst 0, 1) := by decide +kernel
theorem dX8_moreSkilled_59 : decode cX8_moreSkilled 59 = .ok (.iadd, 1) := by decide +kernel
theorem dX8_moreSkilled_60 : decode cX8_moreSkilled 60 = .ok (.istore_n 2, 1) := by decide +kernel
theorem dX8_moreSkilled_61 : decode cX8_moreSkilled 61 = .ok (.iinc 3 1, 3) := by decide +kernel
theorem dX8_moreSkilled_64 : decode cX8_moreSkilled 64 = .ok (.goto (-60), 3) := by decide +kernel
theorem dX8_moreSkilled_67 : decode cX8_moreSkilled 67 = .ok (.iload_n 2, 1) := by decide +kernel
theorem dX8_moreSkilled_68 : decode cX8_moreSkilled 68 = .ok (.ireturn, 1) := by decide +kernel
set_option maxRecDepth 20000 in
theorem ggX8_doesOf_X8_zealOf : GoodIn wsX8_doesOf wsX8_zealOf := goodIn_r _ [6, 7, 8, 9, 5, 10, 11, 1, 12, 13, 14, 15, 16, 28, 29, 30, 31, 32, 33, 34, 35, 36, 37, 38, 39, 40, 41, 42, 43, 44, 45, 46, 47] (by decide +kernel) (by decide +kernel)
set_option maxRecDepth 20000 in
theorem gX8_doesOf_X8_zealOf : GoodIn wsX8_doesOf (wsV RX8 135 RX8 yX8_zealOf wsX8_zealOf) := goodIn_app (goodIn_of _ (by decide +kernel)) ggX8_doesOf_X8_zealOf
set_option maxRecDepth 20000 in
theorem ggX8_doesOf_X8_manyIn : GoodIn wsX8_doesOf wsX8_manyIn := goodIn_r _ [20, 1, 28, 29, 30, 31, 32, 33, 34, 35, 36, 37, 38, 39, 40, 41, 42, 43, 44, 45, 46, 47] (by decide +kernel) (by decide +kernel)
set_option maxRecDepth 20000 in
theorem gX8_doesOf_X8_manyIn : GoodIn wsX8_doesOf (wsV RX8 138 RX8 yX8_manyIn wsX8_manyIn) := goodIn_app (goodIn_of _ (by decide +kernel)) ggX8_doesOf_X8_manyIn
set_option maxRecDepth 20000 in
theorem ggX8_doesOf_X8_moreSkilled : GoodIn wsX8_doesOf wsX8_moreSkilled := goodIn_r _ [24, 1, 28, 29, 30, 31, 32, 33, 34, 35, 36, 37, 38, 39, 40, 41, 42, 43, 44, 45, 46, 47] (by decide +kernel) (by decide +kernel)
set_option maxRecDepth 20000 in
theorem gX8_doesOf_X8_moreSkilled : GoodIn wsX8_doesOf (wsV RX8 141 RX8 yX8_moreSkilled wsX8_moreSkilled) := goodIn_app (goodIn_of _ (by decide +kernel)) ggX8_doesOf_X8_moreSkilled
set_option maxRecDepth 20000 in
theorem ggX8_doesOf_X8_within : GoodIn wsX8_doesOf wsX8_within := goodIn_r _ [27] (by decide +kernel) (by decide +kernel)
set_option maxRecDepth 20000 in
theorem gX8_doesOf_X8_within : GoodIn wsX8_doesOf (va_wsS RX8 127 yX8_within wsX8_within) := goodIn_app (goodIn_of _ (by decide +kernel)) ggX8_doesOf_X8_within
theorem dX8_doesOf_0 : decode cX8_doesOf 0 = .ok (.aload_n 0, 1) := by decide +kernel
theorem dX8_doesOf_1 : decode cX8_doesOf 1 = .ok (.getfield 9, 3) := by decide +kernel
theorem dX8_doesOf_4 : decode cX8_doesOf 4 = .ok (.bipush 14, 2) := by decide +kernel
theorem dX8_doesOf_6 : decode cX8_doesOf 6 = .ok (.iload_n 1, 1) := by decide +kernel
theorem dX8_doesOf_7 : decode cX8_doesOf 7 = .ok (.iadd, 1) := by decide +kernel
theorem dX8_doesOf_8 : decode cX8_doesOf 8 = .ok (.iaload, 1) := by decide +kernel
theorem dX8_doesOf_9 : decode cX8_doesOf 9 = .ok (.iconst 1, 1) := by decide +kernel
theorem dX8_doesOf_10 : decode cX8_doesOf 10 = .ok (.if_icmp .ne 5, 3) := by decide +kernel
theorem dX8_doesOf_13 : decode cX8_doesOf 13 = .ok (.iconst 0, 1) := by decide +kernel
theorem dX8_doesOf_14 : decode cX8_doesOf 14 = .ok (.ireturn, 1) := by decide +kernel
theorem dX8_doesOf_15 : decode cX8_doesOf 15 = .ok (.aload_n 0, 1) := by decide +kernel
theorem dX8_doesOf_16 : decode cX8_doesOf 16 = .ok (.iload_n 1, 1) := by decide +kernel
theorem dX8_doesOf_17 : decode cX8_doesOf 17 = .ok (.invokevirtual 135, 3) := by decide +kernel
theorem dX8_doesOf_20 : decode cX8_doesOf 20 = .ok (.istore_n 2, 1) := by decide +kernel
theorem dX8_doesOf_21 : decode cX8_doesOf 21 = .ok (.iload_n 2, 1) := by decide +kernel
theorem dX8_doesOf_22 : decode cX8_doesOf 22 = .ok (.istore_n 3, 1) := by decide +kernel
theorem dX8_doesOf_23 : decode cX8_doesOf 23 = .ok (.aload_n 0, 1) := by decide +kernel
theorem dX8_doesOf_24 : decode cX8_doesOf 24 = .ok (.getfield 9, 3) := by decide +kernel
theorem dX8_doesOf_27 : decode cX8_doesOf 27 = .ok (.bipush 27, 2) := by decide +kernel
theorem dX8_doesOf_29 : decode cX8_doesOf 29 = .ok (.iload_n 1, 1) := by decide +kernel
theorem dX8_doesOf_30 : decode cX8_doesOf 30 = .ok (.iadd, 1) := by decide +kernel
theorem dX8_doesOf_31 : decode cX8_doesOf 31 = .ok (.iaload, 1) := by decide +kernel
theorem dX8_doesOf_32 : decode cX8_doesOf 32 = .ok (.tableswitch 133 1 6 #[40, 57, 133, 64, 94, 107], 40) := by decide +kernel
theorem dX8_doesOf_72 : decode cX8_doesOf 72 = .ok (.iload_n 2, 1) := by decide +kernel
theorem dX8_doesOf_73 : decode cX8_doesOf 73 = .ok (.aload_n 0, 1) := by decide +kernel
theorem dX8_doesOf_74 : decode cX8_doesOf 74 = .ok (.getfield 9, 3) := by decide +kernel
theorem dX8_doesOf_77 : decode cX8_doesOf 77 = .ok (.bipush 33, 2) := by decide +kernel
theorem dX8_doesOf_79 : decode cX8_doesOf 79 = .ok (.iload_n 1, 1) := by decide +kernel
theorem dX8_doesOf_80 : decode cX8_doesOf 80 = .ok (.iadd, 1) := by decide +kernel
theorem dX8_doesOf_81 : decode cX8_doesOf 81 = .ok (.iaload, 1) := by decide +kernel
theorem dX8_doesOf_82 : decode cX8_doesOf 82 = .ok (.iconst 2, 1) := by decide +kernel
theorem dX8_doesOf_83 : decode cX8_doesOf 83 = .ok (.idiv, 1) := by decide +kernel
theorem dX8_doesOf_84 : decode cX8_doesOf 84 = .ok (.iadd, 1) := by decide +kernel
theorem dX8_doesOf_85 : decode cX8_doesOf 85 = .ok (.istore_n 3, 1) := by decide +kernel
theorem dX8_doesOf_86 : decode cX8_doesOf 86 = .ok (.goto 79, 3) := by decide +kernel
theorem dX8_doesOf_89 : decode cX8_doesOf 89 = .ok (.iload_n 2, 1) := by decide +kernel
theorem dX8_doesOf_90 : decode cX8_doesOf 90 = .ok (.iconst 2, 1) := by decide +kernel
theorem dX8_doesOf_91 : decode cX8_doesOf 91 = .ok (.idiv, 1) := by decide +kernel
theorem dX8_doesOf_92 : decode cX8_doesOf 92 = .ok (.istore_n 3, 1) := by decide +kernel
theorem dX8_doesOf_93 : decode cX8_doesOf 93 = .ok (.goto 72, 3) := by decide +kernel
theorem dX8_doesOf_96 : decode cX8_doesOf 96 = .ok (.iload_n 2, 1) := by decide +kernel
theorem dX8_doesOf_97 : decode cX8_doesOf 97 = .ok (.aload_n 0, 1) := by decide +kernel
theorem dX8_doesOf_98 : decode cX8_doesOf 98 = .ok (.getfield 9, 3) := by decide +kernel
theorem dX8_doesOf_101 : decode cX8_doesOf 101 = .ok (.bipush 33, 2) := by decide +kernel
theorem dX8_doesOf_103 : decode cX8_doesOf 103 = .ok (.iload_n 1, 1) := by decide +kernel
theorem dX8_doesOf_104 : decode cX8_doesOf 104 = .ok (.iadd, 1) := by decide +kernel
theorem dX8_doesOf_105 : decode cX8_doesOf 105 = .ok (.iaload, 1) := by decide +kernel
theorem dX8_doesOf_106 : decode cX8_doesOf 106 = .ok (.iconst 2, 1) := by decide +kernel
theorem dX8_doesOf_107 : decode cX8_doesOf 107 = .ok (.idiv, 1) := by decide +kernel
theorem dX8_doesOf_108 : decode cX8_doesOf 108 = .ok (.iadd, 1) := by decide +kernel
theorem dX8_doesOf_109 : decode cX8_doesOf 109 = .ok (.aload_n 0, 1) := by decide +kernel
theorem dX8_doesOf_110 : decode cX8_doesOf 110 = .ok (.getfield 9, 3) := by decide +kernel
theorem dX8_doesOf_113 : decode cX8_doesOf 113 = .ok (.bipush 20, 2) := by decide +kernel
theorem dX8_doesOf_115 : decode cX8_doesOf 115 = .ok (.iaload, 1) := by decide +kernel
theorem dX8_doesOf_116 : decode cX8_doesOf 116 = .ok (.iadd, 1) := by decide +kernel
theorem dX8_doesOf_117 : decode cX8_doesOf 117 = .ok (.aload_n 0, 1) := by decide +kernel
theorem dX8_doesOf_118 : decode cX8_doesOf 118 = .ok (.invokevirtual 138, 3) := by decide +kernel
theorem dX8_doesOf_121 : decode cX8_doesOf 121 = .ok (.isub, 1) := by decide +kernel
theorem dX8_doesOf_122 : decode cX8_doesOf 122 = .ok (.istore_n 3, 1) := by decide +kernel
theorem dX8_doesOf_123 : decode cX8_doesOf 123 = .ok (.goto 42, 3) := by decide +kernel
theorem dX8_doesOf_126 : decode cX8_doesOf 126 = .ok (.iload_n 2, 1) := by decide +kernel
theorem dX8_doesOf_127 : decode cX8_doesOf 127 = .ok (.iconst 2, 1) := by decide +kernel
theorem dX8_doesOf_128 : decode cX8_doesOf 128 = .ok (.idiv, 1) := by decide +kernel
theorem dX8_doesOf_129 : decode cX8_doesOf 129 = .ok (.aload_n 0, 1) := by decide +kernel
theorem dX8_doesOf_130 : decode cX8_doesOf 130 = .ok (.iload_n 1, 1) := by decide +kernel
theorem dX8_doesOf_131 : decode cX8_doesOf 131 = .ok (.invokevirtual 141, 3) := by decide +kernel
theorem dX8_doesOf_134 : decode cX8_doesOf 134 = .ok (.isub, 1) := by decide +kernel
theorem dX8_doesOf_135 : decode cX8_doesOf 135 = .ok (.istore_n 3, 1) := by decide +kernel
theorem dX8_doesOf_136 : decode cX8_doesOf 136 = .ok (.goto 29, 3) := by decide +kernel
theorem dX8_doesOf_139 : decode cX8_doesOf 139 = .ok (.iload_n 2, 1) := by decide +kernel
theorem dX8_doesOf_140 : decode cX8_doesOf 140 = .ok (.aload_n 0, 1) := by decide +kernel
theorem dX8_doesOf_141 : decode cX8_doesOf 141 = .ok (.getfield 9, 3) := by decide +kernel
theorem dX8_doesOf_144 : decode cX8_doesOf 144 = .ok (.bipush 45, 2) := by decide +kernel
theorem dX8_doesOf_146 : decode cX8_doesOf 146 = .ok (.iconst 4, 1) := by decide +kernel
theorem dX8_doesOf_147 : decode cX8_doesOf 147 = .ok (.iload_n 1, 1) := by decide +kernel
theorem dX8_doesOf_148 : decode cX8_doesOf 148 = .ok (.imul, 1) := by decide +kernel
theorem dX8_doesOf_149 : decode cX8_doesOf 149 = .ok (.iadd, 1) := by decide +kernel
theorem dX8_doesOf_150 : decode cX8_doesOf 150 = .ok (.aload_n 0, 1) := by decide +kernel
theorem dX8_doesOf_151 : decode cX8_doesOf 151 = .ok (.getfield 9, 3) := by decide +kernel
theorem dX8_doesOf_154 : decode cX8_doesOf 154 = .ok (.iconst 0, 1) := by decide +kernel
theorem dX8_doesOf_155 : decode cX8_doesOf 155 = .ok (.iaload, 1) := by decide +kernel
theorem dX8_doesOf_156 : decode cX8_doesOf 156 = .ok (.iconst 4, 1) := by decide +kernel
theorem dX8_doesOf_157 : decode cX8_doesOf 157 = .ok (.irem, 1) := by decide +kernel
theorem dX8_doesOf_158 : decode cX8_doesOf 158 = .ok (.iadd, 1) := by decide +kernel
theorem dX8_doesOf_159 : decode cX8_doesOf 159 = .ok (.iaload, 1) := by decide +kernel
theorem dX8_doesOf_160 : decode cX8_doesOf 160 = .ok (.iadd, 1) := by decide +kernel
theorem dX8_doesOf_161 : decode cX8_doesOf 161 = .ok (.istore_n 3, 1) := by decide +kernel
theorem dX8_doesOf_162 : decode cX8_doesOf 162 = .ok (.goto 3, 3) := by decide +kernel
theorem dX8_doesOf_165 : decode cX8_doesOf 165 = .ok (.iload_n 3, 1) := by decide +kernel
theorem dX8_doesOf_166 : decode cX8_doesOf 166 = .ok (.iconst 0, 1) := by decide +kernel
theorem dX8_doesOf_167 : decode cX8_doesOf 167 = .ok (.aload_n 0, 1) := by decide +kernel
theorem dX8_doesOf_168 : decode cX8_doesOf 168 = .ok (.getfield 9, 3) := by decide +kernel
theorem dX8_doesOf_171 : decode cX8_doesOf 171 = .ok (.bipush 8, 2) := by decide +kernel
theorem dX8_doesOf_173 : decode cX8_doesOf 173 = .ok (.iload_n 1, 1) := by decide +kernel
theorem dX8_doesOf_174 : decode cX8_doesOf 174 = .ok (.iadd, 1) := by decide +kernel
theorem dX8_doesOf_175 : decode cX8_doesOf 175 = .ok (.iaload, 1) := by decide +kernel
theorem dX8_doesOf_176 : decode cX8_doesOf 176 = .ok (.invokestatic 127, 3) := by decide +kernel
theorem dX8_doesOf_179 : decode cX8_doesOf 179 = .ok (.ireturn, 1) := by decide +kernel
theorem dX8_allHours_0 : decode cX8_allHours 0 = .ok (.iconst 0, 1) := by decide +kernel
theorem dX8_allHours_1 : decode cX8_allHours 1 = .ok (.istore_n 1, 1) := by decide +kernel
theorem dX8_allHours_2 : decode cX8_allHours 2 = .ok (.iconst 0, 1) := by decide +kernel
theorem dX8_allHours_3 : decode cX8_allHours 3 = .ok (.istore_n 2, 1) := by decide +kernel
theorem dX8_allHours_4 : decode cX8_allHours 4 = .ok (.iload_n 2, 1) := by decide +kernel
theorem dX8_allHours_5 : decode cX8_allHours 5 = .ok (.aload_n 0, 1) := by decide +kernel
theorem dX8_allHours_6 : decode cX8_allHours 6 = .ok (.getfield 9, 3) := by decide +kernel
theorem dX8_allHours_9 : decode cX8_allHours 9 = .ok (.bipush 20, 2) := by decide +kernel
theorem dX8_allHours_11 : decode cX8_allHours 11 = .ok (.iaload, 1) := by decide +kernel
theorem dX8_allHours_12 : decode cX8_allHours 12 = .ok (.if_icmp .ge 20, 3) := by decide +kernel
theorem dX8_allHours_15 : decode cX8_allHours 15 = .ok (.iload_n 1, 1) := by decide +kernel
theorem dX8_allHours_16 : decode cX8_allHours 16 = .ok (.aload_n 0, 1) := by decide +kernel
theorem dX8_allHours_17 : decode cX8_allHours 17 = .ok (.getfield 9, 3) := by decide +kernel
theorem dX8_allHours_20 : decode cX8_allHours 20 = .ok (.iconst 2, 1) := by decide +kernel
theorem dX8_allHours_21 : decode cX8_allHours 21 = .ok (.iload_n 2, 1) := by decide +kernel
theorem dX8_allHours_22 : decode cX8_allHours 22 = .ok (.iadd, 1) := by decide +kernel
theorem dX8_allHours_23 : decode cX8_allHours 23 = .ok (.iaload, 1) := by decide +kernel
theorem dX8_allHours_24 : decode cX8_allHours 24 = .ok (.iadd, 1) := by decide +kernel
theorem dX8_allHours_25 : decode cX8_allHours 25 = .ok (.istore_n 1, 1) := by decide +kernel
theorem dX8_allHours_26 : decode cX8_allHours 26 = .ok (.iinc 2 1, 3) := by decide +kernel
theorem dX8_allHours_29 : decode cX8_allHours 29 = .ok (.goto (-25), 3) := by decide +kernel
theorem dX8_allHours_32 : decode cX8_allHours 32 = .ok (.iload_n 1, 1) := by decide +kernel
theorem dX8_allHours_33 : decode cX8_allHours 33 = .ok (.ireturn, 1) := by decide +kernel
set_option maxRecDepth 20000 in
theorem ggX8_shareOf_X8_allHours : GoodIn wsX8_shareOf wsX8_allHours := goodIn_r _ [6, 1, 7, 8, 9, 10, 11, 12, 13, 14, 15, 16, 17, 18, 19, 20, 21, 22, 23, 24, 25, 26] (by decide +kernel) (by decide +kernel)
set_option maxRecDepth 20000 in
theorem gX8_shareOf_X8_allHours : GoodIn wsX8_shareOf (wsV RX8 144 RX8 yX8_allHours wsX8_allHours) := goodIn_app (goodIn_of _ (by decide +kernel)) ggX8_shareOf_X8_allHours
theorem dX8_shareOf_0 : decode cX8_shareOf 0 = .ok (.aload_n 0, 1) := by decide +kernel
theorem dX8_shareOf_1 : decode cX8_shareOf 1 = .ok (.invokevirtual 144, 3) := by decide +kernel
theorem dX8_shareOf_4 : decode cX8_shareOf 4 = .ok (.istore_n 2, 1) := by decide +kernel
theorem dX8_shareOf_5 : decode cX8_shareOf 5 = .ok (.iload_n 2, 1) := by decide +kernel
theorem dX8_shareOf_6 : decode cX8_shareOf 6 = .ok (.ifCond .ne 7, 3) := by decide +kernel
theorem dX8_shareOf_9 : decode cX8_shareOf 9 = .ok (.iconst 0, 1) := by decide +kernel
theorem dX8_shareOf_10 : decode cX8_shareOf 10 = .ok (.goto 16, 3) := by decide +kernel
theorem dX8_shareOf_13 : decode cX8_shareOf 13 = .ok (.bipush 100, 2) := by decide +kernel
theorem dX8_shareOf_15 : decode cX8_shareOf 15 = .ok (.aload_n 0, 1) := by decide +kernel
theorem dX8_shareOf_16 : decode cX8_shareOf 16 = .ok (.getfield 9, 3) := by decide +kernel
theorem dX8_shareOf_19 : decode cX8_shareOf 19 = .ok (.iconst 2, 1) := by decide +kernel
theorem dX8_shareOf_20 : decode cX8_shareOf 20 = .ok (.iload_n 1, 1) := by decide +kernel
theorem dX8_shareOf_21 : decode cX8_shareOf 21 = .ok (.iadd, 1) := by decide +kernel
theorem dX8_shareOf_22 : decode cX8_shareOf 22 = .ok (.iaload, 1) := by decide +kernel
theorem dX8_shareOf_23 : decode cX8_shareOf 23 = .ok (.imul, 1) := by decide +kernel
theorem dX8_shareOf_24 : decode cX8_shareOf 24 = .ok (.iload_n 2, 1) := by decide +kernel
theorem dX8_shareOf_25 : decode cX8_shareOf 25 = .ok (.idiv, 1) := by decide +kernel
theorem dX8_shareOf_26 : decode cX8_shareOf 26 = .ok (.ireturn, 1) := by decide +kernel
set_option maxRecDepth 20000 in
theorem ggX8_claimOf_X8_shareOf : GoodIn wsX8_claimOf wsX8_shareOf := goodIn_r _ [6, 1, 7, 8, 9, 5, 10, 14, 15, 16, 17, 18, 19, 20, 21, 22, 23, 24, 25, 26, 27, 28, 29, 30, 31, 32, 33] (by decide +kernel) (by decide +kernel)
set_option maxRecDepth 20000 in
theorem gX8_claimOf_X8_shareOf : GoodIn wsX8_claimOf (wsV RX8 147 RX8 yX8_shareOf wsX8_shareOf) := goodIn_app (goodIn_of _ (by decide +kernel)) ggX8_claimOf_X8_shareOf
set_option maxRecDepth 20000 in
theorem ggX8_claimOf_X8_within : GoodIn wsX8_claimOf wsX8_within := goodIn_r _ [13] (by decide +kernel) (by decide +kernel)
set_option maxRecDepth 20000 in
theorem gX8_claimOf_X8_within : GoodIn wsX8_claimOf (va_wsS RX8 127 yX8_within wsX8_within) := goodIn_app (goodIn_of _ (by decide +kernel)) ggX8_claimOf_X8_within
theorem dX8_claimOf_0 : decode cX8_claimOf 0 = .ok (.aload_n 0, 1) := by decide +kernel
theorem dX8_claimOf_1 : decode cX8_claimOf 1 = .ok (.iload_n 1, 1) := by decide +kernel
theorem dX8_claimOf_2 : decode cX8_claimOf 2 = .ok (.invokevirtual 147, 3) := by decide +kernel
theorem dX8_claimOf_5 : decode cX8_claimOf 5 = .ok (.istore_n 2, 1) := by decide +kernel
theorem dX8_claimOf_6 : decode cX8_claimOf 6 = .ok (.aload_n 0, 1) := by decide +kernel
theorem dX8_claimOf_7 : decode cX8_claimOf 7 = .ok (.getfield 9, 3) := by decide +kernel
theorem dX8_claimOf_10 : decode cX8_claimOf 10 = .ok (.bipush 33, 2) := by decide +kernel
theorem dX8_claimOf_12 : decode cX8_claimOf 12 = .ok (.iload_n 1, 1) := by decide +kernel
theorem dX8_claimOf_13 : decode cX8_claimOf 13 = .ok (.iadd, 1) := by decide +kernel
theorem dX8_claimOf_14 : decode cX8_claimOf 14 = .ok (.iaload, 1) := by decide +kernel
theorem dX8_claimOf_15 : decode cX8_claimOf 15 = .ok (.istore_n 3, 1) := by decide +kernel
theorem dX8_claimOf_16 : decode cX8_claimOf 16 = .ok (.aload_n 0, 1) := by decide +kernel
theorem dX8_claimOf_17 : decode cX8_claimOf 17 = .ok (.getfield 9, 3) := by decide +kernel
theorem dX8_claimOf_20 : decode cX8_claimOf 20 = .ok (.bipush 27, 2) := by decide +kernel
theorem dX8_claimOf_22 : decode cX8_claimOf 22 = .ok (.iload_n 1, 1) := by decide +kernel
theorem dX8_claimOf_23 : decode cX8_claimOf 23 = .ok (.iadd, 1) := by decide +kernel
theorem dX8_claimOf_24 : decode cX8_claimOf 24 = .ok (.iaload, 1) := by decide +kernel
theorem dX8_claimOf_25 : decode cX8_claimOf 25 = .ok (.tableswitch 112 1 6 #[39, 49, 59, 39, 69, 81], 39) := by decide +kernel
theorem dX8_claimOf_64 : decode cX8_claimOf 64 = .ok (.iload_n 2, 1) := by decide +kernel
theorem dX8_claimOf_65 : decode cX8_claimOf 65 = .ok (.iload_n 3, 1) := by decide +kernel
theorem dX8_claimOf_66 : decode cX8_claimOf 66 = .ok (.isub, 1) := by decide +kernel
theorem dX8_claimOf_67 : decode cX8_claimOf 67 = .ok (.iconst 0, 1) := by decide +kernel
theorem dX8_claimOf_68 : decode cX8_claimOf 68 = .ok (.bipush 100, 2) := by decide +kernel
theorem dX8_claimOf_70 : decode cX8_claimOf 70 = .ok (.invokestatic 127, 3) := by decide +kernel
theorem dX8_claimOf_73 : decode cX8_claimOf 73 = .ok (.ireturn, 1) := by decide +kernel
theorem dX8_claimOf_74 : decode cX8_claimOf 74 = .ok (.iload_n 2, 1) := by decide +kernel
theorem dX8_claimOf_75 : decode cX8_claimOf 75 = .ok (.iload_n 3, 1) := by decide +kernel
theorem dX8_claimOf_76 : decode cX8_claimOf 76 = .ok (.iadd, 1) := by decide +kernel
theorem dX8_claimOf_77 : decode cX8_claimOf 77 = .ok (.iconst 0, 1) := by decide +kernel
theorem dX8_claimOf_78 : decode cX8_claimOf 78 = .ok (.bipush 100, 2) := by decide +kernel
theorem dX8_claimOf_80 : decode cX8_claimOf 80 = .ok (.invokestatic 127, 3) := by decide +kernel
theorem dX8_claimOf_83 : decode cX8_claimOf 83 = .ok (.ireturn, 1) := by decide +kernel
theorem dX8_claimOf_84 : decode cX8_claimOf 84 = .ok (.iconst 2, 1) := by decide +kernel
theorem dX8_claimOf_85 : decode cX8_claimOf 85 = .ok (.iload_n 2, 1) := by decide +kernel
theorem dX8_claimOf_86 : decode cX8_claimOf 86 = .ok (.imul, 1) := by decide +kernel
theorem dX8_claimOf_87 : decode cX8_claimOf 87 = .ok (.iconst 0, 1) := by decide +kernel
theorem dX8_claimOf_88 : decode cX8_claimOf 88 = .ok (.bipush 100, 2) := by decide +kernel
theorem dX8_claimOf_90 : decode cX8_claimOf 90 = .ok (.invokestatic 127, 3) := by decide +kernel
theorem dX8_claimOf_93 : decode cX8_claimOf 93 = .ok (.ireturn, 1) := by decide +kernel
theorem dX8_claimOf_94 : decode cX8_claimOf 94 = .ok (.iload_n 2, 1) := by decide +kernel
theorem dX8_claimOf_95 : decode cX8_claimOf 95 = .ok (.iload_n 3, 1) := by decide +kernel
theorem dX8_claimOf_96 : decode cX8_claimOf 96 = .ok (.iadd, 1) := by decide +kernel
theorem dX8_claimOf_97 : decode cX8_claimOf 97 = .ok (.iconst 0, 1) := by decide +kernel
theorem dX8_claimOf_98 : decode cX8_claimOf 98 = .ok (.bipush 100, 2) := by decide +kernel
theorem dX8_claimOf_100 : decode cX8_claimOf 100 = .ok (.invokestatic 127, 3) := by decide +kernel
theorem dX8_claimOf_103 : decode cX8_claimOf 103 = .ok (.iconst 2, 1) := by decide +kernel
theorem dX8_claimOf_104 : decode cX8_claimOf 104 = .ok (.idiv, 1) := by decide +kernel
theorem dX8_claimOf_105 : decode cX8_claimOf 105 = .ok (.ireturn, 1) := by decide +kernel
theorem dX8_claimOf_106 : decode cX8_claimOf 106 = .ok (.iconst 2, 1) := by decide +kernel
theorem dX8_claimOf_107 : decode cX8_claimOf 107 = .ok (.iload_n 2, 1) := by decide +kernel
theorem dX8_claimOf_108 : decode cX8_claimOf 108 = .ok (.imul, 1) := by decide +kernel
theorem dX8_claimOf_109 : decode cX8_claimOf 109 = .ok (.aload_n 0, 1) := by decide +kernel
theorem dX8_claimOf_110 : decode cX8_claimOf 110 = .ok (.getfield 9, 3) := by decide +kernel
theorem dX8_claimOf_113 : decode cX8_claimOf 113 = .ok (.bipush 45, 2) := by decide +kernel
theorem dX8_claimOf_115 : decode cX8_claimOf 115 = .ok (.iconst 4, 1) := by decide +kernel
theorem dX8_claimOf_116 : decode cX8_claimOf 116 = .ok (.iload_n 1, 1) := by decide +kernel
theorem dX8_claimOf_117 : decode cX8_claimOf 117 = .ok (.imul, 1) := by decide +kernel
theorem dX8_claimOf_118 : decode cX8_claimOf 118 = .ok (.iadd, 1) := by decide +kernel
theorem dX8_claimOf_119 : decode cX8_claimOf 119 = .ok (.aload_n 0, 1) := by decide +kernel
theorem dX8_claimOf_120 : decode cX8_claimOf 120 = .ok (.getfield 9, 3) := by decide +kernel
theorem dX8_claimOf_123 : decode cX8_claimOf 123 = .ok (.iconst 0, 1) := by decide +kernel
theorem dX8_claimOf_124 : decode cX8_claimOf 124 = .ok (.iaload, 1) := by decide +kernel
theorem dX8_claimOf_125 : decode cX8_claimOf 125 = .ok (.iconst 4, 1) := by decide +kernel
theorem dX8_claimOf_126 : decode cX8_claimOf 126 = .ok (.irem, 1) := by decide +kernel
theorem dX8_claimOf_127 : decode cX8_claimOf 127 = .ok (.iadd, 1) := by decide +kernel
theorem dX8_claimOf_128 : decode cX8_claimOf 128 = .ok (.iaload, 1) := by decide +kernel
theorem dX8_claimOf_129 : decode cX8_claimOf 129 = .ok (.iadd, 1) := by decide +kernel
theorem dX8_claimOf_130 : decode cX8_claimOf 130 = .ok (.iconst 0, 1) := by decide +kernel
theorem dX8_claimOf_131 : decode cX8_claimOf 131 = .ok (.bipush 100, 2) := by decide +kernel
theorem dX8_claimOf_133 : decode cX8_claimOf 133 = .ok (.invokestatic 127, 3) := by decide +kernel
theorem dX8_claimOf_136 : decode cX8_claimOf 136 = .ok (.ireturn, 1) := by decide +kernel
theorem dX8_claimOf_137 : decode cX8_claimOf 137 = .ok (.iload_n 2, 1) := by decide +kernel
theorem dX8_claimOf_138 : decode cX8_claimOf 138 = .ok (.ireturn, 1) := by decide +kernel
set_option maxRecDepth 20000 in
theorem ggX8_allClaims_X8_claimOf : GoodIn wsX8_allClaims wsX8_claimOf := goodIn_r _ [6, 1, 7, 8, 9, 5, 10, 11, 12, 13, 14, 15, 16, 17, 18, 19, 20, 21, 22, 23, 24, 25, 26, 27, 28, 29, 30, 31, 32, 33, 34, 35, 36, 37] (by decide +kernel) (by decide +kernel)
set_option maxRecDepth 20000 in
theorem gX8_allClaims_X8_claimOf : GoodIn wsX8_allClaims (wsV RX8 150 RX8 yX8_claimOf wsX8_claimOf) := goodIn_app (goodIn_of _ (by decide +kernel)) ggX8_allClaims_X8_claimOf
theorem dX8_allClaims_0 : decode cX8_allClaims 0 = .ok (.iconst 0, 1) := by decide +kernel
theorem dX8_allClaims_1 : decode cX8_allClaims 1 = .ok (.istore_n 1, 1) := by decide +kernel
theorem dX8_allClaims_2 : decode cX8_allClaims 2 = .ok (.iconst 0, 1) := by decide +kernel
theorem dX8_allClaims_3 : decode cX8_allClaims 3 = .ok (.istore_n 2, 1) := by decide +kernel
theorem dX8_allClaims_4 : decode cX8_allClaims 4 = .ok (.iload_n 2, 1) := by decide +kernel
theorem dX8_allClaims_5 : decode cX8_allClaims 5 = .ok (.aload_n 0, 1) := by decide +kernel
theorem dX8_allClaims_6 : decode cX8_allClaims 6 = .ok (.getfield 9, 3) := by decide +kernel
theorem dX8_allClaims_9 : decode cX8_allClaims 9 = .ok (.bipush 20, 2) := by decide +kernel
theorem dX8_allClaims_11 : decode cX8_allClaims 11 = .ok (.iaload, 1) := by decide +kernel
theorem dX8_allClaims_12 : decode cX8_allClaims 12 = .ok (.if_icmp .ge 17, 3) := by decide +kernel
theorem dX8_allClaims_15 : decode cX8_allClaims 15 = .ok (.iload_n 1, 1) := by decide +kernel
theorem dX8_allClaims_16 : decode cX8_allClaims 16 = .ok (.aload_n 0, 1) := by decide +kernel
theorem dX8_allClaims_17 : decode cX8_allClaims 17 = .ok (.iload_n 2, 1) := by decide +kernel
theorem dX8_allClaims_18 : decode cX8_allClaims 18 = .ok (.invokevirtual 150, 3) := by decide +kernel
theorem dX8_allClaims_21 : decode cX8_allClaims 21 = .ok (.iadd, 1) := by decide +kernel
theorem dX8_allClaims_22 : decode cX8_allClaims 22 = .ok (.istore_n 1, 1) := by decide +kernel
theorem dX8_allClaims_23 : decode cX8_allClaims 23 = .ok (.iinc 2 1, 3) := by decide +kernel
theorem dX8_allClaims_26 : decode cX8_allClaims 26 = .ok (.goto (-22), 3) := by decide +kernel
theorem dX8_allClaims_29 : decode cX8_allClaims 29 = .ok (.iload_n 1, 1) := by decide +kernel
theorem dX8_allClaims_30 : decode cX8_allClaims 30 = .ok (.ireturn, 1) := by decide +kernel
set_option maxRecDepth 20000 in
theorem ggX8_baseNow_X8_goalNow : GoodIn wsX8_baseNow wsX8_goalNow := goodIn_r _ [6, 7, 8, 9, 5, 10, 1, 11, 12, 13, 14, 15, 16, 17, 18, 19, 20, 21, 22, 23, 24, 25, 26, 27, 28, 29, 30, 31, 32, 33] (by decide +kernel) (by decide +kernel)
set_option maxRecDepth 20000 in
theorem gX8_baseNow_X8_goalNow : GoodIn wsX8_baseNow (wsV RX8 153 RX8 yX8_goalNow wsX8_goalNow) := goodIn_app (goodIn_of _ (by decide +kernel)) ggX8_baseNow_X8_goalNow
set_option maxRecDepth 20000 in
theorem ggX8_baseNow_X8_within : GoodIn wsX8_baseNow wsX8_within := goodIn_r _ [13] (by decide +kernel) (by decide +kernel)
set_option maxRecDepth 20000 in
theorem gX8_baseNow_X8_within : GoodIn wsX8_baseNow (va_wsS RX8 127 yX8_within wsX8_within) := goodIn_app (goodIn_of _ (by decide +kernel)) ggX8_baseNow_X8_within
theorem dX8_baseNow_0 : decode cX8_baseNow 0 = .ok (.bipush 100, 2) := by decide +kernel
theorem dX8_baseNow_2 : decode cX8_baseNow 2 = .ok (.aload_n 0, 1) := by decide +kernel
theorem dX8_baseNow_3 : decode cX8_baseNow 3 = .ok (.getfield 9, 3) := by decide +kernel
theorem dX8_baseNow_6 : decode cX8_baseNow 6 = .ok (.iconst 1, 1) := by decide +kernel
theorem dX8_baseNow_7 : decode cX8_baseNow 7 = .ok (.iaload, 1) := by decide +kernel
theorem dX8_baseNow_8 : decode cX8_baseNow 8 = .ok (.imul, 1) := by decide +kernel
theorem dX8_baseNow_9 : decode cX8_baseNow 9 = .ok (.aload_n 0, 1) := by decide +kernel
theorem dX8_baseNow_10 : decode cX8_baseNow 10 = .ok (.invokevirtual 153, 3) := by decide +kernel
theorem dX8_baseNow_13 : decode cX8_baseNow 13 = .ok (.idiv, 1) := by decide +kernel
theorem dX8_baseNow_14 : decode cX8_baseNow 14 = .ok (.iconst 0, 1) := by decide +kernel
theorem dX8_baseNow_15 : decode cX8_baseNow 15 = .ok (.bipush 100, 2) := by decide +kernel
theorem dX8_baseNow_17 : decode cX8_baseNow 17 = .ok (.invokestatic 127, 3) := by decide +kernel
theorem dX8_baseNow_20 : decode cX8_baseNow 20 = .ok (.ireturn, 1) := by decide +kernel
set_option maxRecDepth 20000 in
theorem ggX8_partOf_X8_claimOf : GoodIn wsX8_partOf wsX8_claimOf := goodIn_r _ [6, 1, 7, 8, 9, 5, 10, 11, 12, 13, 14, 15, 16, 17, 18, 19, 20, 21, 22, 23, 24, 25, 26, 27, 28, 29, 30, 31, 32, 33, 34, 35, 36, 37] (by decide +kernel) (by decide +kernel)
set_option maxRecDepth 20000 in
theorem gX8_partOf_X8_claimOf : GoodIn wsX8_partOf (wsV RX8 150 RX8 yX8_claimOf wsX8_claimOf) := goodIn_app (goodIn_of _ (by decide +kernel)) ggX8_partOf_X8_claimOf
theorem dX8_partOf_0 : decode cX8_partOf 0 = .ok (.iload_n 2, 1) := by decide +kernel
theorem dX8_partOf_1 : decode cX8_partOf 1 = .ok (.iconst 1, 1) := by decide +kernel
theorem dX8_partOf_2 : decode cX8_partOf 2 = .ok (.if_icmp .ne 14, 3) := by decide +kernel
theorem dX8_partOf_5 : decode cX8_partOf 5 = .ok (.aload_n 0, 1) := by decide +kernel
theorem dX8_partOf_6 : decode cX8_partOf 6 = .ok (.getfield 9, 3) := by decide +kernel
theorem dX8_partOf_9 : decode cX8_partOf 9 = .ok (.iconst 2, 1) := by decide +kernel
theorem dX8_partOf_10 : decode cX8_partOf 10 = .ok (.iload_n 1, 1) := by decide +kernel
theorem dX8_partOf_11 : decode cX8_partOf 11 = .ok (.iadd, 1) := by decide +kernel
theorem dX8_partOf_12 : decode cX8_partOf 12 = .ok (.iaload, 1) := by decide +kernel
theorem dX8_partOf_13 : decode cX8_partOf 13 = .ok (.goto 8, 3) := by decide +kernel
theorem dX8_partOf_16 : decode cX8_partOf 16 = .ok (.aload_n 0, 1) := by decide +kernel
theorem dX8_partOf_17 : decode cX8_partOf 17 = .ok (.iload_n 1, 1) := by decide +kernel
theorem dX8_partOf_18 : decode cX8_partOf 18 = .ok (.invokevirtual 150, 3) := by decide +kernel
theorem dX8_partOf_21 : decode cX8_partOf 21 = .ok (.ireturn, 1) := by decide +kernel
theorem dX8_leastSkill_0 : decode cX8_leastSkill 0 = .ok (.bipush 99, 2) := by decide +kernel
theorem dX8_leastSkill_2 : decode cX8_leastSkill 2 = .ok (.istore_n 1, 1) := by decide +kernel
theorem dX8_leastSkill_3 : decode cX8_leastSkill 3 = .ok (.iconst 0, 1) := by decide +kernel
theorem dX8_leastSkill_4 : decode cX8_leastSkill 4 = .ok (.istore_n 2, 1) := by decide +kernel
theorem dX8_leastSkill_5 : decode cX8_leastSkill 5 = .ok (.iload_n 2, 1) := by decide +kernel
theorem dX8_leastSkill_6 : decode cX8_leastSkill 6 = .ok (.aload_n 0, 1) := by decide +kernel
theorem dX8_leastSkill_7 : decode cX8_leastSkill 7 = .ok (.getfield 9, 3) := by decide +kernel
theorem dX8_leastSkill_10 : decode cX8_leastSkill 10 = .ok (.bipush 20, 2) := by decide +kernel
theorem dX8_leastSkill_12 : decode cX8_leastSkill 12 = .ok (.iaload, 1) := by decide +kernel
theorem dX8_leastSkill_13 : decode cX8_leastSkill 13 = .ok (.if_icmp .ge 48, 3) := by decide +kernel
theorem dX8_leastSkill_16 : decode cX8_leastSkill 16 = .ok (.aload_n 0, 1) := by decide +kernel
theorem dX8_leastSkill_17 : decode cX8_leastSkill 17 = .ok (.getfield 9, 3) := by decide +kernel
theorem dX8_leastSkill_20 : decode cX8_leastSkill 20 = .ok (.bipush 14, 2) := by decide +kernel
theorem dX8_leastSkill_22 : decode cX8_leastSkill 22 = .ok (.iload_n 2, 1) := by decide +kernel
theorem dX8_leastSkill_23 : decode cX8_leastSkill 23 = .ok (.iadd, 1) := by decide +kernel
theorem dX8_leastSkill_24 : decode cX8_leastSkill 24 = .ok (.iaload, 1) := by decide +kernel
theorem dX8_leastSkill_25 : decode cX8_leastSkill 25 = .ok (.ifCond .ne 28, 3) := by decide +kernel
theorem dX8_leastSkill_28 : decode cX8_leastSkill 28 = .ok (.aload_n 0, 1) := by decide +kernel
theorem dX8_leastSkill_29 : decode cX8_leastSkill 29 = .ok (.getfield 9, 3) := by decide +kernel
theorem dX8_leastSkill_32 : decode cX8_leastSkill 32 = .ok (.bipush 39, 2) := by decide +kernel
theorem dX8_leastSkill_34 : decode cX8_leastSkill 34 = .ok (.iload_n 2, 1) := by decide +kernel
theorem dX8_leastSkill_35 : decode cX8_leastSkill 35 = .ok (.iadd, 1) := by decide +kernel
theorem dX8_leastSkill_36 : decode cX8_leastSkill 36 = .ok (.iaload, 1) := by decide +kernel
theorem dX8_leastSkill_37 : decode cX8_leastSkill 37 = .ok (.iload_n 1, 1) := by decide +kernel
theorem dX8_leastSkill_38 : decode cX8_leastSkill 38 = .ok (.if_icmp .ge 15, 3) := by decide +kernel
theorem dX8_leastSkill_41 : decode cX8_leastSkill 41 = .ok (.aload_n 0, 1) := by decide +kernel
theorem dX8_leastSkill_42 : decode cX8_leastSkill 42 = .ok (.getfield 9, 3) := by decide +kernel
theorem dX8_leastSkill_45 : decode cX8_leastSkill 45 = .ok (.bipush 39, 2) := by decide +kernel
theorem dX8_leastSkill_47 : decode cX8_leastSkill 47 = .ok (.iload_n 2, 1) := by decide +kernel
theorem dX8_leastSkill_48 : decode cX8_leastSkill 48 = .ok (.iadd, 1) := by decide +kernel
theorem dX8_leastSkill_49 : decode cX8_leastSkill 49 = .ok (.iaload, 1) := by decide +kernel
theorem dX8_leastSkill_50 : decode cX8_leastSkill 50 = .ok (.goto 4, 3) := by decide +kernel
theorem dX8_leastSkill_53 : decode cX8_leastSkill 53 = .ok (.iload_n 1, 1) := by decide +kernel
theorem dX8_leastSkill_54 : decode cX8_leastSkill 54 = .ok (.istore_n 1, 1) := by decide +kernel
theorem dX8_leastSkill_55 : decode cX8_leastSkill 55 = .ok (.iinc 2 1, 3) := by decide +kernel
theorem dX8_leastSkill_58 : decode cX8_leastSkill 58 = .ok (.goto (-53), 3) := by decide +kernel
theorem dX8_leastSkill_61 : decode cX8_leastSkill 61 = .ok (.iload_n 1, 1) := by decide +kernel
theorem dX8_leastSkill_62 : decode cX8_leastSkill 62 = .ok (.ireturn, 1) := by decide +kernel
set_option maxRecDepth 20000 in
theorem ggX8_markOf_X8_baseNow : GoodIn wsX8_markOf wsX8_baseNow := goodIn_r _ [6, 1, 7, 8, 9, 5, 10, 11, 12, 13, 14, 15, 16, 17, 42, 43, 44, 45, 46, 47, 48, 49, 50, 51, 52, 53, 54, 55, 56, 57, 58, 59, 60, 61] (by decide +kernel) (by decide +kernel)
set_option maxRecDepth 20000 in
theorem gX8_markOf_X8_baseNow : GoodIn wsX8_markOf (wsV RX8 156 RX8 yX8_baseNow wsX8_baseNow) := goodIn_app (goodIn_of _ (by decide +kernel)) ggX8_markOf_X8_baseNow
set_option maxRecDepth 20000 in
theorem ggX8_markOf_X8_leastSkill : GoodIn wsX8_markOf wsX8_leastSkill := goodIn_r _ [21, 1, 42, 43, 44, 45, 46, 47, 48, 49, 50, 51, 52, 53, 54, 55, 56, 57, 58, 59, 60, 61] (by decide +kernel) (by decide +kernel)
set_option maxRecDepth 20000 in
theorem gX8_markOf_X8_leastSkill : GoodIn wsX8_markOf (wsV RX8 159 RX8 yX8_leastSkill wsX8_leastSkill) := goodIn_app (goodIn_of _ (by decide +kernel)) ggX8_markOf_X8_leastSkill
set_option maxRecDepth 20000 in
theorem ggX8_markOf_X8_partOf : GoodIn wsX8_markOf wsX8_partOf := goodIn_r _ [25, 1, 26, 27, 28, 5, 29, 30, 31, 32, 33, 34, 35, 36, 37, 15, 16, 17, 42, 43, 44, 45, 46, 47, 48, 49, 50, 51, 52, 53, 54, 55, 56, 57, 58, 59, 60, 61] (by decide +kernel) (by decide +kernel)
set_option maxRecDepth 20000 in
theorem gX8_markOf_X8_partOf : GoodIn wsX8_markOf (wsV RX8 162 RX8 yX8_partOf wsX8_partOf) := goodIn_app (goodIn_of _ (by decide +kernel)) ggX8_markOf_X8_partOf
set_option maxRecDepth 20000 in
theorem ggX8_markOf_X8_manyIn : GoodIn wsX8_markOf wsX8_manyIn := goodIn_r _ [41, 1, 42, 43, 44, 45, 46, 47, 48, 49, 50, 51, 52, 53, 54, 55, 56, 57, 58, 59, 60, 61] (by decide +kernel) (by decide +kernel)
set_option maxRecDepth 20000 in
theorem gX8_markOf_X8_manyIn : GoodIn wsX8_markOf (wsV RX8 138 RX8 yX8_manyIn wsX8_manyIn) := goodIn_app (goodIn_of _ (by decide +kernel)) ggX8_markOf_X8_manyIn
set_option maxRecDepth 20000 in
theorem ggX8_markOf_X8_within : GoodIn wsX8_markOf wsX8_within := goodIn_r _ [17] (by decide +kernel) (by decide +kernel)
set_option maxRecDepth 20000 in
theorem gX8_markOf_X8_within : GoodIn wsX8_markOf (va_wsS RX8 127 yX8_within wsX8_within) := goodIn_app (goodIn_of _ (by decide +kernel)) ggX8_markOf_X8_within
theorem dX8_markOf_0 : decode cX8_markOf 0 = .ok (.aload_n 0, 1) := by decide +kernel
theorem dX8_markOf_1 : decode cX8_markOf 1 = .ok (.getfield 9, 3) := by decide +kernel
theorem dX8_markOf_4 : decode cX8_markOf 4 = .ok (.bipush 14, 2) := by decide +kernel
theorem dX8_markOf_6 : decode cX8_markOf 6 = .ok (.iload_n 1, 1) := by decide +kernel
theorem dX8_markOf_7 : decode cX8_markOf 7 = .ok (.iadd, 1) := by decide +kernel
theorem dX8_markOf_8 : decode cX8_markOf 8 = .ok (.iaload, 1) := by decide +kernel
theorem dX8_markOf_9 : decode cX8_markOf 9 = .ok (.iconst 1, 1) := by decide +kernel
theorem dX8_markOf_10 : decode cX8_markOf 10 = .ok (.if_icmp .ne 5, 3) := by decide +kernel
theorem dX8_markOf_13 : decode cX8_markOf 13 = .ok (.iconst 0, 1) := by decide +kernel
theorem dX8_markOf_14 : decode cX8_markOf 14 = .ok (.ireturn, 1) := by decide +kernel
theorem dX8_markOf_15 : decode cX8_markOf 15 = .ok (.aload_n 0, 1) := by decide +kernel
theorem dX8_markOf_16 : decode cX8_markOf 16 = .ok (.invokevirtual 156, 3) := by decide +kernel
theorem dX8_markOf_19 : decode cX8_markOf 19 = .ok (.istore_n 3, 1) := by decide +kernel
theorem dX8_markOf_20 : decode cX8_markOf 20 = .ok (.iload_n 2, 1) := by decide +kernel
theorem dX8_markOf_21 : decode cX8_markOf 21 = .ok (.ifCond .ne 5, 3) := by decide +kernel
theorem dX8_markOf_24 : decode cX8_markOf 24 = .ok (.iload_n 3, 1) := by decide +kernel
theorem dX8_markOf_25 : decode cX8_markOf 25 = .ok (.ireturn, 1) := by decide +kernel
theorem dX8_markOf_26 : decode cX8_markOf 26 = .ok (.iload_n 2, 1) := by decide +kernel
theorem dX8_markOf_27 : decode cX8_markOf 27 = .ok (.iconst 3, 1) := by decide +kernel
theorem dX8_markOf_28 : decode cX8_markOf 28 = .ok (.if_icmp .ne 13, 3) := by decide +kernel
theorem dX8_markOf_31 : decode cX8_markOf 31 = .ok (.iload_n 3, 1) := by decide +kernel
theorem dX8_markOf_32 : decode cX8_markOf 32 = .ok (.aload_n 0, 1) := by decide +kernel
theorem dX8_markOf_33 : decode cX8_markOf 33 = .ok (.invokevirtual 159, 3) := by decide +kernel
theorem dX8_markOf_36 : decode cX8_markOf 36 = .ok (.imul, 1) := by decide +kernel
theorem dX8_markOf_37 : decode cX8_markOf 37 = .ok (.bipush 9, 2) := by decide +kernel
theorem dX8_markOf_39 : decode cX8_markOf 39 = .ok (.idiv, 1) := by decide +kernel
theorem dX8_markOf_40 : decode cX8_markOf 40 = .ok (.ireturn, 1) := by decide +kernel
theorem dX8_markOf_41 : decode cX8_markOf 41 = .ok (.iconst 0, 1) := by decide +kernel
theorem dX8_markOf_42 : decode cX8_markOf 42 = .ok (.istore 4, 2) := by decide +kernel
theorem dX8_markOf_44 : decode cX8_markOf 44 = .ok (.iconst 0, 1) := by decide +kernel
theorem dX8_markOf_45 : decode cX8_markOf 45 = .ok (.istore 5, 2) := by decide +kernel
theorem dX8_markOf_47 : decode cX8_markOf 47 = .ok (.iload 5, 2) := by decide +kernel
theorem dX8_markOf_49 : decode cX8_markOf 49 = .ok (.aload_n 0, 1) := by decide +kernel
theorem dX8_markOf_50 : decode cX8_markOf 50 = .ok (.getfield 9, 3) := by decide +kernel
theorem dX8_markOf_53 : decode cX8_markOf 53 = .ok (.bipush 20, 2) := by decide +kernel
theorem dX8_markOf_55 : decode cX8_markOf 55 = .ok (.iaload, 1) := by decide +kernel
theorem dX8_markOf_56 : decode cX8_markOf 56 = .ok (.if_icmp .ge 38, 3) := by decide +kernel
theorem dX8_markOf_59 : decode cX8_markOf 59 = .ok (.iload 4, 2) := by decide +kernel
theorem dX8_markOf_61 : decode cX8_markOf 61 = .ok (.aload_n 0, 1) := by decide +kernel
theorem dX8_markOf_62 : decode cX8_markOf 62 = .ok (.getfield 9, 3) := by decide +kernel
theorem dX8_markOf_65 : decode cX8_markOf 65 = .ok (.bipush 14, 2) := by decide +kernel
theorem dX8_markOf_67 : decode cX8_markOf 67 = .ok (.iload 5, 2) := by decide +kernel
theorem dX8_markOf_69 : decode cX8_markOf 69 = .ok (.iadd, 1) := by decide +kernel
theorem dX8_markOf_70 : decode cX8_markOf 70 = .ok (.iaload, 1) := by decide +kernel
theorem dX8_markOf_71 : decode cX8_markOf 71 = .ok (.ifCond .ne 13, 3) := by decide +kernel
theorem dX8_markOf_74 : decode cX8_markOf 74 = .ok (.aload_n 0, 1) := by decide +kernel
theorem dX8_markOf_75 : decode cX8_markOf 75 = .ok (.iload 5, 2) := by decide +kernel
theorem dX8_markOf_77 : decode cX8_markOf 77 = .ok (.iload_n 2, 1) := by decide +kernel
theorem dX8_markOf_78 : decode cX8_markOf 78 = .ok (.invokevirtual 162, 3) := by decide +kernel
theorem dX8_markOf_81 : decode cX8_markOf 81 = .ok (.goto 4, 3) := by decide +kernel
theorem dX8_markOf_84 : decode cX8_markOf 84 = .ok (.iconst 0, 1) := by decide +kernel
theorem dX8_markOf_85 : decode cX8_markOf 85 = .ok (.iadd, 1) := by decide +kernel
theorem dX8_markOf_86 : decode cX8_markOf 86 = .ok (.istore 4, 2) := by decide +kernel
theorem dX8_markOf_88 : decode cX8_markOf 88 = .ok (.iinc 5 1, 3) := by decide +kernel
theorem dX8_markOf_91 : decode cX8_markOf 91 = .ok (.goto (-44), 3) := by decide +kernel
theorem dX8_markOf_94 : decode cX8_markOf 94 = .ok (.iload 4, 2) := by decide +kernel
theorem dX8_markOf_96 : decode cX8_markOf 96 = .ok (.ifCond .ne 7, 3) := by decide +kernel
theorem dX8_markOf_99 : decode cX8_markOf 99 = .ok (.iload_n 3, 1) := by decide +kernel
theorem dX8_markOf_100 : decode cX8_markOf 100 = .ok (.goto 25, 3) := by decide +kernel
theorem dX8_markOf_103 : decode cX8_markOf 103 = .ok (.iload_n 3, 1) := by decide +kernel
theorem dX8_markOf_104 : decode cX8_markOf 104 = .ok (.aload_n 0, 1) := by decide +kernel
theorem dX8_markOf_105 : decode cX8_markOf 105 = .ok (.iload_n 1, 1) := by decide +kernel
theorem dX8_markOf_106 : decode cX8_markOf 106 = .ok (.iload_n 2, 1) := by decide +kernel
theorem dX8_markOf_107 : decode cX8_markOf 107 = .ok (.invokevirtual 162, 3) := by decide +kernel
theorem dX8_markOf_110 : decode cX8_markOf 110 = .ok (.imul, 1) := by decide +kernel
theorem dX8_markOf_111 : decode cX8_markOf 111 = .ok (.aload_n 0, 1) := by decide +kernel
theorem dX8_markOf_112 : decode cX8_markOf 112 = .ok (.invokevirtual 138, 3) := by decide +kernel
theorem dX8_markOf_115 : decode cX8_markOf 115 = .ok (.imul, 1) := by decide +kernel
theorem dX8_markOf_116 : decode cX8_markOf 116 = .ok (.iload 4, 2) := by decide +kernel
theorem dX8_markOf_118 : decode cX8_markOf 118 = .ok (.idiv, 1) := by decide +kernel
theorem dX8_markOf_119 : decode cX8_markOf 119 = .ok (.iconst 0, 1) := by decide +kernel
theorem dX8_markOf_120 : decode cX8_markOf 120 = .ok (.bipush 100, 2) := by decide +kernel
theorem dX8_markOf_122 : decode cX8_markOf 122 = .ok (.invokestatic 127, 3) := by decide +kernel
theorem dX8_markOf_125 : decode cX8_markOf 125 = .ok (.ireturn, 1) := by decide +kernel
set_option maxRecDepth 20000 in
theorem ggX8_pupil_X8_in : GoodIn wsX8_pupil wsX8_in := goodIn_r _ [5] (by decide +kernel) (by decide +kernel)
set_option maxRecDepth 20000 in
theorem gX8_pupil_X8_in : GoodIn wsX8_pupil (va_wsS RX8 38 yX8_in wsX8_in) := goodIn_app (goodIn_of _ (by decide +kernel)) ggX8_pupil_X8_in
theorem dX8_pupil_0 : decode cX8_pupil 0 = .ok (.iload_n 1, 1) := by decide +kernel
theorem dX8_pupil_1 : decode cX8_pupil 1 = .ok (.iconst 0, 1) := by decide +kernel
theorem dX8_pupil_2 : decode cX8_pupil 2 = .ok (.bipush 6, 2) := by decide +kernel
theorem dX8_pupil_4 : decode cX8_pupil 4 = .ok (.invokestatic 38, 3) := by decide +kernel
theorem dX8_pupil_7 : decode cX8_pupil 7 = .ok (.ifCond .ne 5, 3) := by decide +kernel
theorem dX8_pupil_10 : decode cX8_pupil 10 = .ok (.iconst (-1), 1) := by decide +kernel
theorem dX8_pupil_11 : decode cX8_pupil 11 = .ok (.ireturn, 1) := by decide +kernel
theorem dX8_pupil_12 : decode cX8_pupil 12 = .ok (.iload_n 2, 1) := by decide +kernel
theorem dX8_pupil_13 : decode cX8_pupil 13 = .ok (.iconst 0, 1) := by decide +kernel
theorem dX8_pupil_14 : decode cX8_pupil 14 = .ok (.bipush 9, 2) := by decide +kernel
theorem dX8_pupil_16 : decode cX8_pupil 16 = .ok (.invokestatic 38, 3) := by decide +kernel
theorem dX8_pupil_19 : decode cX8_pupil 19 = .ok (.ifCond .eq 24, 3) := by decide +kernel
theorem dX8_pupil_22 : decode cX8_pupil 22 = .ok (.iload_n 3, 1) := by decide +kernel
theorem dX8_pupil_23 : decode cX8_pupil 23 = .ok (.iconst 1, 1) := by decide +kernel
theorem dX8_pupil_24 : decode cX8_pupil 24 = .ok (.bipush 9, 2) := by decide +kernel
theorem dX8_pupil_26 : decode cX8_pupil 26 = .ok (.invokestatic 38, 3) := by decide +kernel
theorem dX8_pupil_29 : decode cX8_pupil 29 = .ok (.ifCond .eq 14, 3) := by decide +kernel
theorem dX8_pupil_32 : decode cX8_pupil 32 = .ok (.iload 4, 2) := by decide +kernel
theorem dX8_pupil_34 : decode cX8_pupil 34 = .ok (.iconst 0, 1) := by decide +kernel
theorem dX8_pupil_35 : decode cX8_pupil 35 = .ok (.bipush 99, 2) := by decide +kernel
theorem dX8_pupil_37 : decode cX8_pupil 37 = .ok (.invokestatic 38, 3) := by decide +kernel
theorem dX8_pupil_40 : decode cX8_pupil 40 = .ok (.ifCond .ne 6, 3) := by decide +kernel
theorem dX8_pupil_43 : decode cX8_pupil 43 = .ok (.bipush (-2), 2) := by decide +kernel
theorem dX8_pupil_45 : decode cX8_pupil 45 = .ok (.ireturn, 1) := by decide +kernel
theorem dX8_pupil_46 : decode cX8_pupil 46 = .ok (.aload_n 0, 1) := by decide +kernel
theorem dX8_pupil_47 : decode cX8_pupil 47 = .ok (.getfield 9, 3) := by decide +kernel
theorem dX8_pupil_50 : decode cX8_pupil 50 = .ok (.bipush 20, 2) := by decide +kernel
theorem dX8_pupil_52 : decode cX8_pupil 52 = .ok (.iaload, 1) := by decide +kernel
theorem dX8_pupil_53 : decode cX8_pupil 53 = .ok (.bipush 6, 2) := by decide +kernel
theorem dX8_pupil_55 : decode cX8_pupil 55 = .ok (.if_icmp .ne 6, 3) := by decide +kernel
theorem dX8_pupil_58 : decode cX8_pupil 58 = .ok (.bipush (-4), 2) := by decide +kernel
theorem dX8_pupil_60 : decode cX8_pupil 60 = .ok (.ireturn, 1) := by decide +kernel
theorem dX8_pupil_61 : decode cX8_pupil 61 = .ok (.aload_n 0, 1) := by decide +kernel
theorem dX8_pupil_62 : decode cX8_pupil 62 = .ok (.getfield 9, 3) := by decide +kernel
theorem dX8_pupil_65 : decode cX8_pupil 65 = .ok (.bipush 20, 2) := by decide +kernel
theorem dX8_pupil_67 : decode cX8_pupil 67 = .ok (.iaload, 1) := by decide +kernel
theorem dX8_pupil_68 : decode cX8_pupil 68 = .ok (.istore 5, 2) := by decide +kernel
theorem dX8_pupil_70 : decode cX8_pupil 70 = .ok (.aload_n 0, 1) := by decide +kernel
theorem dX8_pupil_71 : decode cX8_pupil 71 = .ok (.getfield 9, 3) := by decide +kernel
theorem dX8_pupil_74 : decode cX8_pupil 74 = .ok (.bipush 27, 2) := by decide +kernel
theorem dX8_pupil_76 : decode cX8_pupil 76 = .ok (.iload 5, 2) := by decide +kernel
theorem dX8_pupil_78 : decode cX8_pupil 78 = .ok (.iadd, 1) := by decide +kernel
theorem dX8_pupil_79 : decode cX8_pupil 79 = .ok (.iload_n 1, 1) := by decide +kernel
theorem dX8_pupil_80 : decode cX8_pupil 80 = .ok (.iastore, 1) := by decide +kernel
theorem dX8_pupil_81 : decode cX8_pupil 81 = .ok (.aload_n 0, 1) := by decide +kernel
theorem dX8_pupil_82 : decode cX8_pupil 82 = .ok (.getfield 9, 3) := by decide +kernel
theorem dX8_pupil_85 : decode cX8_pupil 85 = .ok (.bipush 33, 2) := by decide +kernel
theorem dX8_pupil_87 : decode cX8_pupil 87 = .ok (.iload 5, 2) := by decide +kernel
theorem dX8_pupil_89 : decode cX8_pupil 89 = .ok (.iadd, 1) := by decide +kernel
theorem dX8_pupil_90 : decode cX8_pupil 90 = .ok (.iload_n 2, 1) := by decide +kernel
theorem dX8_pupil_91 : decode cX8_pupil 91 = .ok (.iastore, 1) := by decide +kernel
theorem dX8_pupil_92 : decode cX8_pupil 92 = .ok (.aload_n 0, 1) := by decide +kernel
theorem dX8_pupil_93 : decode cX8_pupil 93 = .ok (.getfield 9, 3) := by decide +kernel
theorem dX8_pupil_96 : decode cX8_pupil 96 = .ok (.bipush 39, 2) := by decide +kernel
theorem dX8_pupil_98 : decode cX8_pupil 98 = .ok (.iload 5, 2) := by decide +kernel
theorem dX8_pupil_100 : decode cX8_pupil 100 = .ok (.iadd, 1) := by decide +kernel
theorem dX8_pupil_101 : decode cX8_pupil 101 = .ok (.iload_n 3, 1) := by decide +kernel
theorem dX8_pupil_102 : decode cX8_pupil 102 = .ok (.iastore, 1) := by decide +kernel
theorem dX8_pupil_103 : decode cX8_pupil 103 = .ok (.aload_n 0, 1) := by decide +kernel
theorem dX8_pupil_104 : decode cX8_pupil 104 = .ok (.getfield 9, 3) := by decide +kernel
theorem dX8_pupil_107 : decode cX8_pupil 107 = .ok (.bipush 8, 2) := by decide +kernel
theorem dX8_pupil_109 : decode cX8_pupil 109 = .ok (.iload 5, 2) := by decide +kernel
theorem dX8_pupil_111 : decode cX8_pupil 111 = .ok (.iadd, 1) := by decide +kernel
theorem dX8_pupil_112 : decode cX8_pupil 112 = .ok (.iload 4, 2) := by decide +kernel
theorem dX8_pupil_114 : decode cX8_pupil 114 = .ok (.iastore, 1) := by decide +kernel
theorem dX8_pupil_115 : decode cX8_pupil 115 = .ok (.aload_n 0, 1) := by decide +kernel
theorem dX8_pupil_116 : decode cX8_pupil 116 = .ok (.getfield 9, 3) := by decide +kernel
theorem dX8_pupil_119 : decode cX8_pupil 119 = .ok (.iconst 2, 1) := by decide +kernel
theorem dX8_pupil_120 : decode cX8_pupil 120 = .ok (.iload 5, 2) := by decide +kernel
theorem dX8_pupil_122 : decode cX8_pupil 122 = .ok (.iadd, 1) := by decide +kernel
theorem dX8_pupil_123 : decode cX8_pupil 123 = .ok (.iconst 0, 1) := by decide +kernel
theorem dX8_pupil_124 : decode cX8_pupil 124 = .ok (.iastore, 1) := by decide +kernel
theorem dX8_pupil_125 : decode cX8_pupil 125 = .ok (.aload_n 0, 1) := by decide +kernel
theorem dX8_pupil_126 : decode cX8_pupil 126 = .ok (.getfield 9, 3) := by decide +kernel
theorem dX8_pupil_129 : decode cX8_pupil 129 = .ok (.bipush 14, 2) := by decide +kernel
theorem dX8_pupil_131 : decode cX8_pupil 131 = .ok (.iload 5, 2) := by decide +kernel
theorem dX8_pupil_133 : decode cX8_pupil 133 = .ok (.iadd, 1) := by decide +kernel
theorem dX8_pupil_134 : decode cX8_pupil 134 = .ok (.iconst 0, 1) := by decide +kernel
theorem dX8_pupil_135 : decode cX8_pupil 135 = .ok (.iastore, 1) := by decide +kernel
theorem dX8_pupil_136 : decode cX8_pupil 136 = .ok (.iconst 0, 1) := by decide +kernel
theorem dX8_pupil_137 : decode cX8_pupil 137 = .ok (.istore 6, 2) := by decide +kernel
theorem dX8_pupil_139 : decode cX8_pupil 139 = .ok (.iload 6, 2) := by decide +kernel
theorem dX8_pupil_141 : decode cX8_pupil 141 = .ok (.iconst 4, 1) := by decide +kernel
theorem dX8_pupil_142 : decode cX8_pupil 142 = .ok (.if_icmp .ge 25, 3) := by decide +kernel
theorem dX8_pupil_145 : decode cX8_pupil 145 = .ok (.aload_n 0, 1) := by decide +kernel
theorem dX8_pupil_146 : decode cX8_pupil 146 = .ok (.getfield 9, 3) := by decide +kernel
theorem dX8_pupil_149 : decode cX8_pupil 149 = .ok (.bipush 45, 2) := by decide +kernel
theorem dX8_pupil_151 : decode cX8_pupil 151 = .ok (.iconst 4, 1) := by decide +kernel
theorem dX8_pupil_152 : decode cX8_pupil 152 = .ok (.iload 5, 2) := by decide +kernel
theorem dX8_pupil_154 : decode cX8_pupil 154 = .ok (.imul, 1) := by decide +kernel
theorem dX8_pupil_155 : decode cX8_pupil 155 = .ok (.iadd, 1) := by decide +kernel
theorem dX8_pupil_156 : decode cX8_pupil 156 = .ok (.iload 6, 2) := by decide +kernel
theorem dX8_pupil_158 : decode cX8_pupil 158 = .ok (.iadd, 1) := by decide +kernel
theorem dX8_pupil_159 : decode cX8_pupil 159 = .ok (.iconst 0, 1) := by decide +kernel
theorem dX8_pupil_160 : decode cX8_pupil 160 = .ok (.iastore, 1) := by decide +kernel
theorem dX8_pupil_161 : decode cX8_pupil 161 = .ok (.iinc 6 1, 3) := by decide +kernel
theorem dX8_pupil_164 : decode cX8_pupil 164 = .ok (.goto (-25), 3) := by decide +kernel
theorem dX8_pupil_167 : decode cX8_pupil 167 = .ok (.aload_n 0, 1) := by decide +kernel
theorem dX8_pupil_168 : decode cX8_pupil 168 = .ok (.getfield 9, 3) := by decide +kernel
theorem dX8_pupil_171 : decode cX8_pupil 171 = .ok (.bipush 20, 2) := by decide +kernel
theorem dX8_pupil_173 : decode cX8_pupil 173 = .ok (.dup2, 1) := by decide +kernel
theorem dX8_pupil_174 : decode cX8_pupil 174 = .ok (.iaload, 1) := by decide +kernel
theorem dX8_pupil_175 : decode cX8_pupil 175 = .ok (.iconst 1, 1) := by decide +kernel
theorem dX8_pupil_176 : decode cX8_pupil 176 = .ok (.iadd, 1) := by decide +kernel
theorem dX8_pupil_177 : decode cX8_pupil 177 = .ok (.iastore, 1) := by decide +kernel
theorem dX8_pupil_178 : decode cX8_pupil 178 = .ok (.iload 5, 2) := by decide +kernel
theorem dX8_pupil_180 : decode cX8_pupil 180 = .ok (.ireturn, 1) := by decide +kernel
set_option maxRecDepth 20000 in
theorem ggX8_of_X8_isPupil : GoodIn wsX8_of wsX8_isPupil := goodIn_r _ [6, 1, 7, 8, 5, 9, 51, 52, 53, 54, 55, 56, 57, 58, 59, 60, 61, 62, 63, 64, 65, 66, 67, 68, 69, 70] (by decide +kernel) (by decide +kernel)
set_option maxRecDepth 20000 in
theorem gX8_of_X8_isPupil : GoodIn wsX8_of (wsV RX8 165 RX8 yX8_isPupil wsX8_isPupil) := goodIn_app (goodIn_of _ (by decide +kernel)) ggX8_of_X8_isPupil
set_option maxRecDepth 20000 in
theorem ggX8_of_X8_zealOf : GoodIn wsX8_of wsX8_zealOf := goodIn_r _ [13, 14, 15, 16, 5, 17, 18, 1, 19, 20, 21, 22, 23, 51, 52, 53, 54, 55, 56, 57, 58, 59, 60, 61, 62, 63, 64, 65, 66, 67, 68, 69, 70] (by decide +kernel) (by decide +kernel)
set_option maxRecDepth 20000 in
theorem gX8_of_X8_zealOf : GoodIn wsX8_of (wsV RX8 135 RX8 yX8_zealOf wsX8_zealOf) := goodIn_app (goodIn_of _ (by decide +kernel)) ggX8_of_X8_zealOf
set_option maxRecDepth 20000 in
theorem ggX8_of_X8_doesOf : GoodIn wsX8_of wsX8_doesOf := goodIn_r _ [27, 1, 10, 11, 12, 5, 13, 14, 15, 16, 17, 18, 19, 20, 21, 22, 23, 28, 29, 30, 31, 32, 33, 34, 35, 36, 37, 38, 51, 52, 53, 54, 55, 56, 57, 58, 59, 60, 61, 62, 63, 64, 65, 66, 67, 68, 69, 70] (by decide +kernel) (by decide +kernel)
set_option maxRecDepth 20000 in
theorem gX8_of_X8_doesOf : GoodIn wsX8_of (wsV RX8 169 RX8 yX8_doesOf wsX8_doesOf) := goodIn_app (goodIn_of _ (by decide +kernel)) ggX8_of_X8_doesOf
set_option maxRecDepth 20000 in
theorem ggX8_of_X8_shareOf : GoodIn wsX8_of wsX8_shareOf := goodIn_r _ [42, 1, 43, 44, 45, 5, 46, 51, 52, 53, 54, 55, 56, 57, 58, 59, 60, 61, 62, 63, 64, 65, 66, 67, 68, 69, 70] (by decide +kernel) (by decide +kernel)
set_option maxRecDepth 20000 in
theorem gX8_of_X8_shareOf : GoodIn wsX8_of (wsV RX8 147 RX8 yX8_shareOf wsX8_shareOf) := goodIn_app (goodIn_of _ (by decide +kernel)) ggX8_of_X8_shareOf
set_option maxRecDepth 20000 in
theorem ggX8_of_X8_claimOf : GoodIn wsX8_of wsX8_claimOf := goodIn_r _ [50, 1, 39, 40, 41, 5, 42, 43, 44, 45, 46, 36, 37, 38, 51, 52, 53, 54, 55, 56, 57, 58, 59, 60, 61, 62, 63, 64, 65, 66, 67, 68, 69, 70] (by decide +kernel) (by decide +kernel)
set_option maxRecDepth 20000 in
theorem gX8_of_X8_claimOf : GoodIn wsX8_of (wsV RX8 150 RX8 yX8_claimOf wsX8_claimOf) := goodIn_app (goodIn_of _ (by decide +kernel)) ggX8_of_X8_claimOf
