set_option maxRecDepth 20000 in
theorem ggL_law_X7_mean : GoodIn wsL_law wsX7_mean := goodIn_r _ [866, 774, 15, 21, 776, 777, 2, 778, 602, 603, 604, 20, 605, 90, 89, 92, 606, 607, 608, 31, 609, 51, 52, 53, 55, 56, 57, 58, 59, 61, 62, 610, 611, 612, 613, 614, 381, 382, 14, 383, 38, 41, 37, 615, 616, 617, 618, 619, 580, 581, 582, 63, 400, 140, 81, 141, 583, 584, 397, 398, 399, 401, 80, 82, 402, 385, 386, 40, 387, 71, 70, 67, 69, 388, 389, 390, 391, 392, 393, 394, 395, 403, 404, 405, 406, 407, 408, 409, 410, 411, 412, 413, 414, 585, 586, 587, 588, 628, 629, 630, 631, 632, 420, 421, 422, 779, 780, 781, 782, 783, 784, 1025, 1026, 1027, 1028, 1029, 1050, 1051, 1052, 1053, 1054, 1055, 1056, 1057, 1058, 1067, 1068, 1069, 1070, 1071, 1072, 1073, 1074, 1075, 1076, 1077, 1059, 1060, 1061, 1078, 1079, 1080, 1081, 1082, 1083, 1084] (by decide +kernel) (by decide +kernel)
set_option maxRecDepth 20000 in
theorem gL_law_X7_mean : GoodIn wsL_law (wsV RL 113 RX7 yX7_mean wsX7_mean) := goodIn_app (goodIn_of _ (by decide +kernel)) ggL_law_X7_mean
set_option maxRecDepth 20000 in
theorem ggL_law_X8_mean : GoodIn wsL_law wsX8_mean := goodIn_r _ [870, 105, 789, 120, 121, 5, 122, 637, 638, 639, 640, 107, 641, 642, 643, 644, 594, 595, 596, 597, 110, 451, 452, 453, 454, 439, 440, 441, 442, 443, 444, 445, 446, 108, 109, 447, 448, 449, 450, 455, 456, 457, 458, 459, 460, 461, 462, 463, 464, 465, 649, 650, 651, 652, 653, 654, 655, 656, 657, 658, 659, 660, 793, 794, 795, 1030, 1031, 1032, 1033, 1034, 1035, 1036, 1037, 1038, 1039, 1040, 1041, 1042, 1043, 1044, 1045, 1046, 1047, 1048, 1049] (by decide +kernel) (by decide +kernel)
set_option maxRecDepth 20000 in
theorem gL_law_X8_mean : GoodIn wsL_law (wsV RL 116 RX8 yX8_mean wsX8_mean) := goodIn_app (goodIn_of _ (by decide +kernel)) ggL_law_X8_mean
set_option maxRecDepth 20000 in
theorem ggL_law_X7_plan : GoodIn wsL_law wsX7_plan := goodIn_r _ [874, 15, 801, 802, 803, 44, 804, 78, 376, 377, 378, 2, 379, 805, 806, 807, 808, 83, 84, 809, 810, 811, 812, 813, 1025, 1026, 1027, 1028, 1029, 1050, 1051, 1052, 1053, 1054, 1055, 1056, 1057, 1058, 1085, 1086, 1087, 1067, 1068, 1069, 1070, 1071, 1072, 1073, 1074, 1075, 1076, 1077] (by decide +kernel) (by decide +kernel)
set_option maxRecDepth 20000 in
theorem gL_law_X7_plan : GoodIn wsL_law (wsV RL 117 RX7 yX7_plan wsX7_plan) := goodIn_app (goodIn_of _ (by decide +kernel)) ggL_law_X7_plan
set_option maxRecDepth 20000 in
theorem ggL_law_X8_plan : GoodIn wsL_law wsX8_plan := goodIn_r _ [878, 105, 120, 121, 5, 122, 435, 436, 437, 438, 1030, 1031, 1032, 1033, 1034, 1035, 1036, 1037, 1038, 1039, 1040, 1041, 1042, 1043, 1044, 1045, 1046, 1047, 1048, 1049] (by decide +kernel) (by decide +kernel)
set_option maxRecDepth 20000 in
theorem gL_law_X8_plan : GoodIn wsL_law (wsV RL 120 RX8 yX8_plan wsX8_plan) := goodIn_app (goodIn_of _ (by decide +kernel)) ggL_law_X8_plan
set_option maxRecDepth 20000 in
theorem ggL_law_X7_done : GoodIn wsL_law wsX7_done := goodIn_r _ [882, 21, 15, 602, 603, 604, 20, 605, 90, 89, 92, 606, 607, 608, 31, 609, 51, 52, 53, 55, 56, 57, 58, 59, 61, 62, 610, 611, 612, 613, 614, 381, 382, 14, 383, 38, 41, 37, 883, 884, 885, 886, 619, 580, 581, 582, 63, 400, 140, 81, 141, 583, 584, 397, 398, 399, 401, 80, 82, 402, 385, 386, 40, 387, 71, 70, 67, 69, 388, 389, 390, 391, 392, 393, 394, 395, 403, 404, 405, 406, 407, 408, 409, 410, 411, 412, 413, 414, 585, 586, 587, 588, 624, 625, 626, 627, 628, 629, 630, 631, 632, 420, 421, 422, 1025, 1026, 1027, 1028, 1029, 1050, 1051, 1052, 1053, 1054, 1055, 1056, 1057, 1058, 1059, 1060, 1061, 1067, 1068, 1069, 1070, 1071, 1072, 1073, 1074, 1075, 1076, 1077, 1085, 1086, 1087, 1078, 1079, 1080, 1081, 1082, 1083, 1084] (by decide +kernel) (by decide +kernel)
set_option maxRecDepth 20000 in
theorem gL_law_X7_done : GoodIn wsL_law (wsV RL 121 RX7 yX7_done wsX7_done) := goodIn_app (goodIn_of _ (by decide +kernel)) ggL_law_X7_done
set_option maxRecDepth 20000 in
theorem ggL_law_X8_done : GoodIn wsL_law wsX8_done := goodIn_r _ [890, 105, 120, 121, 5, 122, 637, 638, 639, 640, 107, 891, 892, 893, 894, 594, 595, 596, 597, 110, 451, 452, 453, 454, 439, 440, 441, 442, 443, 444, 445, 446, 108, 109, 447, 448, 449, 450, 455, 456, 457, 458, 459, 460, 461, 462, 463, 464, 465, 645, 646, 647, 648, 649, 650, 651, 652, 653, 654, 655, 656, 657, 658, 659, 660, 1030, 1031, 1032, 1033, 1034, 1035, 1036, 1037, 1038, 1039, 1040, 1041, 1042, 1043, 1044, 1045, 1046, 1047, 1048, 1049] (by decide +kernel) (by decide +kernel)
set_option maxRecDepth 20000 in
theorem gL_law_X8_done : GoodIn wsL_law (wsV RL 124 RX8 yX8_done wsX8_done) := goodIn_app (goodIn_of _ (by decide +kernel)) ggL_law_X8_done
set_option maxRecDepth 20000 in
theorem ggL_law_X7_book : GoodIn wsL_law wsX7_book := goodIn_r _ [898, 15, 801, 802, 803, 44, 804, 78, 376, 377, 378, 2, 379, 805, 806, 807, 808, 83, 84, 809, 810, 811, 812, 813, 1025, 1026, 1027, 1028, 1029, 1050, 1051, 1052, 1053, 1054, 1055, 1056, 1057, 1058, 1085, 1086, 1087, 1067, 1068, 1069, 1070, 1071, 1072, 1073, 1074, 1075, 1076, 1077] (by decide +kernel) (by decide +kernel)
set_option maxRecDepth 20000 in
theorem gL_law_X7_book : GoodIn wsL_law (wsV RL 125 RX7 yX7_book wsX7_book) := goodIn_app (goodIn_of _ (by decide +kernel)) ggL_law_X7_book
set_option maxRecDepth 20000 in
theorem ggL_law_X8_book : GoodIn wsL_law wsX8_book := goodIn_r _ [902, 105, 435, 436, 437, 5, 438, 120, 121, 122, 1030, 1031, 1032, 1033, 1034, 1035, 1036, 1037, 1038, 1039, 1040, 1041, 1042, 1043, 1044, 1045, 1046, 1047, 1048, 1049] (by decide +kernel) (by decide +kernel)
set_option maxRecDepth 20000 in
theorem gL_law_X8_book : GoodIn wsL_law (wsV RL 128 RX8 yX8_book wsX8_book) := goodIn_app (goodIn_of _ (by decide +kernel)) ggL_law_X8_book
set_option maxRecDepth 20000 in
theorem ggL_law_X7_looked : GoodIn wsL_law wsX7_looked := goodIn_r _ [906, 15, 376, 377, 378, 2, 379, 1025, 1026, 1027, 1028, 1029, 1050, 1051, 1052, 1053, 1054, 1055, 1056, 1057, 1058, 1085, 1086, 1087, 1067, 1068, 1069, 1070, 1071, 1072, 1073, 1074, 1075, 1076, 1077] (by decide +kernel) (by decide +kernel)
set_option maxRecDepth 20000 in
theorem gL_law_X7_looked : GoodIn wsL_law (wsV RL 129 RX7 yX7_looked wsX7_looked) := goodIn_app (goodIn_of _ (by decide +kernel)) ggL_law_X7_looked
set_option maxRecDepth 20000 in
theorem ggL_law_X8_looked : GoodIn wsL_law wsX8_looked := goodIn_r _ [910, 105, 1030, 1031, 1032, 1033, 1034, 1035, 1036, 1037, 1038, 1039, 1040, 1041, 1042, 1043, 1044, 1045, 1046, 1047, 1048, 1049] (by decide +kernel) (by decide +kernel)
set_option maxRecDepth 20000 in
theorem gL_law_X8_looked : GoodIn wsL_law (wsV RL 132 RX8 yX8_looked wsX8_looked) := goodIn_app (goodIn_of _ (by decide +kernel)) ggL_law_X8_looked
set_option maxRecDepth 20000 in
theorem ggL_law_X7_act : GoodIn wsL_law wsX7_act := goodIn_r _ [914, 25, 15, 376, 377, 378, 2, 379, 915, 24, 916, 917, 100, 918, 919, 920, 921, 97, 96, 922, 923, 924, 925, 99, 98, 926, 927, 928, 929, 930, 1025, 1026, 1027, 1028, 1029, 1062, 1063, 1064, 1065, 1066, 1050, 1051, 1052, 1053, 1054, 1055, 1056, 1057, 1058, 1067, 1068, 1069, 1070, 1071, 1072, 1073, 1074, 1075, 1076, 1077] (by decide +kernel) (by decide +kernel)
set_option maxRecDepth 20000 in
theorem gL_law_X7_act : GoodIn wsL_law (wsV RL 133 RX7 yX7_act wsX7_act) := goodIn_app (goodIn_of _ (by decide +kernel)) ggL_law_X7_act
set_option maxRecDepth 20000 in
theorem ggL_law_X8_act : GoodIn wsL_law wsX8_act := goodIn_r _ [934, 935, 105, 936, 937, 938, 435, 436, 437, 5, 438, 120, 121, 122, 939, 940, 941, 942, 943, 944, 945, 946, 947, 948, 949, 111, 950, 951, 952, 953, 954, 955, 956, 957, 958, 959, 960, 961, 962, 963, 964, 965, 966, 967, 968, 969, 1030, 1031, 1032, 1033, 1034, 1035, 1036, 1037, 1038, 1039, 1040, 1041, 1042, 1043, 1044, 1045, 1046, 1047, 1048, 1049] (by decide +kernel) (by decide +kernel)
set_option maxRecDepth 20000 in
theorem gL_law_X8_act : GoodIn wsL_law (wsV RL 136 RX8 yX8_act wsX8_act) := goodIn_app (goodIn_of _ (by decide +kernel)) ggL_law_X8_act
