set_option maxRecDepth 20000 in
theorem wl_r27 : GoodIn lw_tbl wsL_law_r27 := goodIn_p wsL_law_r27 [671, 675, 1115, 1119, 1123] (by decide +kernel) (by decide +kernel)
set_option maxRecDepth 20000 in
theorem wl_r28 : GoodIn lw_tbl wsL_law_r28 := goodIn_p wsL_law_r28 [1127, 1131, 1135, 1139, 680, 1143] (by decide +kernel) (by decide +kernel)
set_option maxRecDepth 20000 in
theorem wl_r29 : GoodIn lw_tbl wsL_law_r29 := goodIn_p wsL_law_r29 [684, 688, 1147, 693, 697, 700] (by decide +kernel) (by decide +kernel)
set_option maxRecDepth 20000 in
theorem wl_r30 : GoodIn lw_tbl wsL_law_r30 := goodIn_p wsL_law_r30 [1152, 1156, 1159, 704, 708, 1163] (by decide +kernel) (by decide +kernel)
set_option maxRecDepth 20000 in
theorem wl_r31 : GoodIn lw_tbl wsL_law_r31 := goodIn_p wsL_law_r31 [1167, 1171, 713, 717, 1175, 722] (by decide +kernel) (by decide +kernel)
set_option maxRecDepth 20000 in
theorem wl_r32 : GoodIn lw_tbl wsL_law_r32 := goodIn_p wsL_law_r32 [725, 1179, 1183, 1186, 732] (by decide +kernel) (by decide +kernel)
set_option maxRecDepth 20000 in
theorem wl_r33 : GoodIn lw_tbl wsL_law_r33 := goodIn_p wsL_law_r33 [1190, 737, 740, 746, 749, 1194] (by decide +kernel) (by decide +kernel)
set_option maxRecDepth 20000 in
theorem wl_r34 : GoodIn lw_tbl wsL_law_r34 := goodIn_p wsL_law_r34 [1198, 1201, 753, 757, 762, 766] (by decide +kernel) (by decide +kernel)
set_option maxRecDepth 20000 in
theorem wl_r35 : GoodIn lw_tbl wsL_law_r35 := goodIn_p wsL_law_r35 [1205, 771, 775, 778, 1209, 1213] (by decide +kernel) (by decide +kernel)
set_option maxRecDepth 20000 in
theorem wl_r36 : GoodIn lw_tbl wsL_law_r36 := goodIn_p wsL_law_r36 [1217, 1221, 782, 1225, 786, 1229] (by decide +kernel) (by decide +kernel)
set_option maxRecDepth 20000 in
theorem wl_r37 : GoodIn lw_tbl wsL_law_r37 := goodIn_p wsL_law_r37 [790, 1233, 794, 1237, 798, 802] (by decide +kernel) (by decide +kernel)
set_option maxRecDepth 20000 in
theorem wl_r38 : GoodIn lw_tbl wsL_law_r38 := goodIn_p wsL_law_r38 [1241, 1245, 806, 1249, 810, 1253] (by decide +kernel) (by decide +kernel)
set_option maxRecDepth 20000 in
theorem wl_r39 : GoodIn lw_tbl wsL_law_r39 := goodIn_p wsL_law_r39 [814, 818, 822, 827, 832] (by decide +kernel) (by decide +kernel)
set_option maxRecDepth 20000 in
theorem wl_r40 : GoodIn lw_tbl wsL_law_r40 := goodIn_p wsL_law_r40 [1257, 1261, 1264, 1268, 1272] (by decide +kernel) (by decide +kernel)
set_option maxRecDepth 20000 in
theorem wl_r41 : GoodIn lw_tbl wsL_law_r41 := goodIn_p wsL_law_r41 [1276, 1280, 1284, 1288, 837, 1292] (by decide +kernel) (by decide +kernel)
set_option maxRecDepth 20000 in
theorem wl_r42 : GoodIn lw_tbl wsL_law_r42 := goodIn_p wsL_law_r42 [841, 844, 1296, 848, 852, 858] (by decide +kernel) (by decide +kernel)
set_option maxRecDepth 20000 in
theorem wl_r43 : GoodIn lw_tbl wsL_law_r43 := goodIn_p wsL_law_r43 [1300, 863, 1304, 867, 1308] (by decide +kernel) (by decide +kernel)
set_option maxRecDepth 20000 in
theorem wl_wsX70 : GoodIn lw_tbl wsX70 := goodIn_p wsX70 [] (by decide +kernel) (by decide +kernel)
set_option maxRecDepth 20000 in
theorem wl_wsX80 : GoodIn lw_tbl wsX80 := goodIn_p wsX80 [] (by decide +kernel) (by decide +kernel)
set_option maxRecDepth 20000 in
theorem wl_wsX50 : GoodIn lw_tbl wsX50 := goodIn_p wsX50 [] (by decide +kernel) (by decide +kernel)
set_option maxRecDepth 20000 in
theorem wl_wsX10 : GoodIn lw_tbl wsX10 := goodIn_p wsX10 [] (by decide +kernel) (by decide +kernel)
set_option maxRecDepth 20000 in
theorem wl_wsX00 : GoodIn lw_tbl wsX00 := goodIn_p wsX00 [] (by decide +kernel) (by decide +kernel)
set_option maxRecDepth 20000 in
theorem wl_wsX20 : GoodIn lw_tbl wsX20 := goodIn_p wsX20 [] (by decide +kernel) (by decide +kernel)
set_option maxRecDepth 20000 in
theorem wl_wsX30 : GoodIn lw_tbl wsX30 := goodIn_p wsX30 [] (by decide +kernel) (by decide +kernel)
set_option maxRecDepth 20000 in
theorem wl_wsX60 : GoodIn lw_tbl wsX60 := goodIn_p wsX60 [] (by decide +kernel) (by decide +kernel)
set_option maxRecDepth 20000 in
theorem wl_wsX40 : GoodIn lw_tbl wsX40 := goodIn_p wsX40 [] (by decide +kernel) (by decide +kernel)
theorem wsL_law_in : ∀ w ∈ wsL_law, w ∈ lw_tbl := fun w h => ((goodIn_app (goodIn_app (goodIn_app (goodIn_app (goodIn_app (goodIn_app (goodIn_app (goodIn_app (goodIn_app (goodIn_app (goodIn_app wl_r1 (goodIn_app wl_r2 (goodIn_app wl_r3 (goodIn_app wl_r4 (goodIn_app wl_r5 (goodIn_app wl_r6 (goodIn_app wl_r7 (goodIn_app wl_r8 (goodIn_app wl_r9 (goodIn_app wl_r10 (goodIn_app wl_r11 (goodIn_app wl_r12 (goodIn_app wl_r13 (goodIn_app wl_r14 (goodIn_app wl_r15 (goodIn_app wl_r16 (goodIn_app wl_r17 (goodIn_app wl_r18 (goodIn_app wl_r19 (goodIn_app wl_r20 (goodIn_app wl_r21 (goodIn_app wl_r22 (goodIn_app wl_r23 (goodIn_app wl_r24 (goodIn_app wl_r25 (goodIn_app wl_r26 (goodIn_app wl_r27 (goodIn_app wl_r28 (goodIn_app wl_r29 (goodIn_app wl_r30 (goodIn_app wl_r31 (goodIn_app wl_r32 (goodIn_app wl_r33 (goodIn_app wl_r34 (goodIn_app wl_r35 (goodIn_app wl_r36 (goodIn_app wl_r37 (goodIn_app wl_r38 (goodIn_app wl_r39 (goodIn_app wl_r40 (goodIn_app wl_r41 (goodIn_app wl_r42 wl_r43)))))))))))))))))))))))))))))))))))))))))) wl_wsX70) wl_wsX80) wl_wsX50) wl_wsX10) wl_wsX00) wl_wsX20) wl_wsX30) wl_wsX60) wl_wsX40) (fun _ h => absurd h List.not_mem_nil)) w h).1
