set_option maxRecDepth 20000 in
theorem wl_r27 : GoodIn lw_tbl wsL_law_r27 := goodIn_p wsL_law_r27 [674, 678, 1118, 1122, 1126] (by decide +kernel) (by decide +kernel)
set_option maxRecDepth 20000 in
theorem wl_r28 : GoodIn lw_tbl wsL_law_r28 := goodIn_p wsL_law_r28 [1130, 1134, 1138, 1142, 683, 1146] (by decide +kernel) (by decide +kernel)
set_option maxRecDepth 20000 in
theorem wl_r29 : GoodIn lw_tbl wsL_law_r29 := goodIn_p wsL_law_r29 [687, 691, 1150, 696, 700, 703] (by decide +kernel) (by decide +kernel)
set_option maxRecDepth 20000 in
theorem wl_r30 : GoodIn lw_tbl wsL_law_r30 := goodIn_p wsL_law_r30 [1155, 1159, 1162, 707, 711, 1166] (by decide +kernel) (by decide +kernel)
set_option maxRecDepth 20000 in
theorem wl_r31 : GoodIn lw_tbl wsL_law_r31 := goodIn_p wsL_law_r31 [1170, 1174, 716, 720, 1178, 725] (by decide +kernel) (by decide +kernel)
set_option maxRecDepth 20000 in
theorem wl_r32 : GoodIn lw_tbl wsL_law_r32 := goodIn_p wsL_law_r32 [728, 1182, 1186, 1189, 735] (by decide +kernel) (by decide +kernel)
set_option maxRecDepth 20000 in
theorem wl_r33 : GoodIn lw_tbl wsL_law_r33 := goodIn_p wsL_law_r33 [1193, 740, 743, 749, 752, 1197] (by decide +kernel) (by decide +kernel)
set_option maxRecDepth 20000 in
theorem wl_r34 : GoodIn lw_tbl wsL_law_r34 := goodIn_p wsL_law_r34 [1201, 1204, 756, 760, 765, 769] (by decide +kernel) (by decide +kernel)
set_option maxRecDepth 20000 in
theorem wl_r35 : GoodIn lw_tbl wsL_law_r35 := goodIn_p wsL_law_r35 [1208, 774, 778, 781, 1212, 1216] (by decide +kernel) (by decide +kernel)
set_option maxRecDepth 20000 in
theorem wl_r36 : GoodIn lw_tbl wsL_law_r36 := goodIn_p wsL_law_r36 [1220, 1224, 785, 1228, 789, 1232] (by decide +kernel) (by decide +kernel)
set_option maxRecDepth 20000 in
theorem wl_r37 : GoodIn lw_tbl wsL_law_r37 := goodIn_p wsL_law_r37 [793, 1236, 797, 1240, 801, 805] (by decide +kernel) (by decide +kernel)
set_option maxRecDepth 20000 in
theorem wl_r38 : GoodIn lw_tbl wsL_law_r38 := goodIn_p wsL_law_r38 [1244, 1248, 809, 1252, 813, 1256] (by decide +kernel) (by decide +kernel)
set_option maxRecDepth 20000 in
theorem wl_r39 : GoodIn lw_tbl wsL_law_r39 := goodIn_p wsL_law_r39 [817, 821, 825, 830, 835, 1260] (by decide +kernel) (by decide +kernel)
set_option maxRecDepth 20000 in
theorem wl_r40 : GoodIn lw_tbl wsL_law_r40 := goodIn_p wsL_law_r40 [1264, 1267, 1271, 1275, 1279] (by decide +kernel) (by decide +kernel)
set_option maxRecDepth 20000 in
theorem wl_r41 : GoodIn lw_tbl wsL_law_r41 := goodIn_p wsL_law_r41 [1283, 1287, 1291, 840, 1295, 844] (by decide +kernel) (by decide +kernel)
set_option maxRecDepth 20000 in
theorem wl_r42 : GoodIn lw_tbl wsL_law_r42 := goodIn_p wsL_law_r42 [847, 1299, 851, 855, 861, 1303] (by decide +kernel) (by decide +kernel)
set_option maxRecDepth 20000 in
theorem wl_r43 : GoodIn lw_tbl wsL_law_r43 := goodIn_p wsL_law_r43 [866, 1307, 870, 1311] (by decide +kernel) (by decide +kernel)
set_option maxRecDepth 20000 in
theorem wl_wsX70 : GoodIn lw_tbl wsX70 := goodIn_p wsX70 [] (by decide +kernel) (by decide +kernel)
set_option maxRecDepth 20000 in
theorem wl_wsX80 : GoodIn lw_tbl wsX80 := goodIn_p wsX80 [] (by decide +kernel) (by decide +kernel)
set_option maxRecDepth 20000 in
theorem wl_wsX50 : GoodIn lw_tbl wsX50 := goodIn_p wsX50 [] (by decide +kernel) (by decide +kernel)
set_option maxRecDepth 20000 in
theorem wl_wsX10 : GoodIn lw_tbl wsX10 := goodIn_p wsX10 [] (by decide +kernel) (by decide +kernel)
set_option maxRecDepth 20000 in
theorem wl_wsX00 : GoodIn lw_tbl wsX00 := goodIn_p wsX00 [] (by decide +kernel) (by decide +kernel)
set_option maxRecDepth 20000 in
theorem wl_wsX20 : GoodIn lw_tbl wsX20 := goodIn_p wsX20 [] (by decide +kernel) (by decide +kernel)
set_option maxRecDepth 20000 in
theorem wl_wsX30 : GoodIn lw_tbl wsX30 := goodIn_p wsX30 [] (by decide +kernel) (by decide +kernel)
set_option maxRecDepth 20000 in
theorem wl_wsX60 : GoodIn lw_tbl wsX60 := goodIn_p wsX60 [] (by decide +kernel) (by decide +kernel)
set_option maxRecDepth 20000 in
theorem wl_wsX40 : GoodIn lw_tbl wsX40 := goodIn_p wsX40 [] (by decide +kernel) (by decide +kernel)
theorem wsL_law_in : ∀ w ∈ wsL_law, w ∈ lw_tbl := fun w h => ((goodIn_app (goodIn_app (goodIn_app (goodIn_app (goodIn_app (goodIn_app (goodIn_app (goodIn_app (goodIn_app (goodIn_app (goodIn_app wl_r1 (goodIn_app wl_r2 (goodIn_app wl_r3 (goodIn_app wl_r4 (goodIn_app wl_r5 (goodIn_app wl_r6 (goodIn_app wl_r7 (goodIn_app wl_r8 (goodIn_app wl_r9 (goodIn_app wl_r10 (goodIn_app wl_r11 (goodIn_app wl_r12 (goodIn_app wl_r13 (goodIn_app wl_r14 (goodIn_app wl_r15 (goodIn_app wl_r16 (goodIn_app wl_r17 (goodIn_app wl_r18 (goodIn_app wl_r19 (goodIn_app wl_r20 (goodIn_app wl_r21 (goodIn_app wl_r22 (goodIn_app wl_r23 (goodIn_app wl_r24 (goodIn_app wl_r25 (goodIn_app wl_r26 (goodIn_app wl_r27 (goodIn_app wl_r28 (goodIn_app wl_r29 (goodIn_app wl_r30 (goodIn_app wl_r31 (goodIn_app wl_r32 (goodIn_app wl_r33 (goodIn_app wl_r34 (goodIn_app wl_r35 (goodIn_app wl_r36 (goodIn_app wl_r37 (goodIn_app wl_r38 (goodIn_app wl_r39 (goodIn_app wl_r40 (goodIn_app wl_r41 (goodIn_app wl_r42 wl_r43)))))))))))))))))))))))))))))))))))))))))) wl_wsX70) wl_wsX80) wl_wsX50) wl_wsX10) wl_wsX00) wl_wsX20) wl_wsX30) wl_wsX60) wl_wsX40) (fun _ h => absurd h List.not_mem_nil)) w h).1
