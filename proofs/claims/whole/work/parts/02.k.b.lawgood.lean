set_option maxRecDepth 20000 in
theorem ggL_law_X7_will : GoodIn wsL_law wsX7_will := goodIn_r _ [489, 15, 376, 377, 378, 2, 379, 1025, 1026, 1027, 1028, 1029, 1050, 1051, 1052, 1053, 1054, 1055, 1056, 1057, 1058, 1067, 1068, 1069, 1070, 1071, 1072, 1073, 1074, 1075, 1076, 1077] (by decide +kernel) (by decide +kernel)
set_option maxRecDepth 20000 in
theorem gL_law_X7_will : GoodIn wsL_law (wsV RL 38 RX7 yX7_will wsX7_will) := goodIn_app (goodIn_of _ (by decide +kernel)) ggL_law_X7_will
set_option maxRecDepth 20000 in
theorem ggL_law_X8_will : GoodIn wsL_law wsX8_will := goodIn_r _ [493, 105, 435, 436, 437, 5, 438, 120, 121, 122, 1030, 1031, 1032, 1033, 1034, 1035, 1036, 1037, 1038, 1039, 1040, 1041, 1042, 1043, 1044, 1045, 1046, 1047, 1048, 1049] (by decide +kernel) (by decide +kernel)
set_option maxRecDepth 20000 in
theorem gL_law_X8_will : GoodIn wsL_law (wsV RL 41 RX8 yX8_will wsX8_will) := goodIn_app (goodIn_of _ (by decide +kernel)) ggL_law_X8_will
set_option maxRecDepth 20000 in
theorem ggL_law_X7_out : GoodIn wsL_law wsX7_out := goodIn_r _ [497, 15, 376, 377, 378, 2, 379, 1025, 1026, 1027, 1028, 1029, 1050, 1051, 1052, 1053, 1054, 1055, 1056, 1057, 1058, 1067, 1068, 1069, 1070, 1071, 1072, 1073, 1074, 1075, 1076, 1077] (by decide +kernel) (by decide +kernel)
set_option maxRecDepth 20000 in
theorem gL_law_X7_out : GoodIn wsL_law (wsV RL 42 RX7 yX7_out wsX7_out) := goodIn_app (goodIn_of _ (by decide +kernel)) ggL_law_X7_out
set_option maxRecDepth 20000 in
theorem ggL_law_X8_out : GoodIn wsL_law wsX8_out := goodIn_r _ [501, 105, 435, 436, 437, 5, 438, 120, 121, 122, 1030, 1031, 1032, 1033, 1034, 1035, 1036, 1037, 1038, 1039, 1040, 1041, 1042, 1043, 1044, 1045, 1046, 1047, 1048, 1049] (by decide +kernel) (by decide +kernel)
set_option maxRecDepth 20000 in
theorem gL_law_X8_out : GoodIn wsL_law (wsV RL 46 RX8 yX8_out wsX8_out) := goodIn_app (goodIn_of _ (by decide +kernel)) ggL_law_X8_out
set_option maxRecDepth 20000 in
theorem ggL_law_X7_told : GoodIn wsL_law wsX7_told := goodIn_r _ [505, 15, 380, 381, 382, 14, 383, 38, 41, 37, 506, 507, 508, 40, 509, 72, 388, 80, 81, 82, 510, 420, 421, 31, 422, 51, 59, 511, 512, 513, 514, 515, 424, 425, 426, 55, 56, 427, 416, 417, 418, 419, 428, 429, 430, 400, 140, 141, 401, 411, 412, 413, 414, 62, 52, 516, 517, 518, 519, 53, 1025, 1026, 1027, 1028, 1029, 1050, 1051, 1052, 1053, 1054, 1055, 1056, 1057, 1058, 1067, 1068, 1069, 1070, 1071, 1072, 1073, 1074, 1075, 1076, 1077, 1078, 1079, 1080, 1081, 1082, 1083, 1084] (by decide +kernel) (by decide +kernel)
set_option maxRecDepth 20000 in
theorem gL_law_X7_told : GoodIn wsL_law (wsV RL 47 RX7 yX7_told wsX7_told) := goodIn_app (goodIn_of _ (by decide +kernel)) ggL_law_X7_told
set_option maxRecDepth 20000 in
theorem ggL_law_X8_told : GoodIn wsL_law wsX8_told := goodIn_r _ [523, 105, 524, 525, 526, 5, 527, 447, 448, 449, 450, 463, 464, 465, 470, 471, 472, 473, 528, 529, 530, 531, 474, 475, 476, 477, 466, 467, 468, 469, 532, 533, 534, 535, 1030, 1031, 1032, 1033, 1034, 1035, 1036, 1037, 1038, 1039, 1040, 1041, 1042, 1043, 1044, 1045, 1046, 1047, 1048, 1049] (by decide +kernel) (by decide +kernel)
set_option maxRecDepth 20000 in
theorem gL_law_X8_told : GoodIn wsL_law (wsV RL 50 RX8 yX8_told wsX8_told) := goodIn_app (goodIn_of _ (by decide +kernel)) ggL_law_X8_told
set_option maxRecDepth 20000 in
theorem ggL_law_X7_mark : GoodIn wsL_law wsX7_mark := goodIn_r _ [539, 15, 376, 377, 378, 2, 379, 540, 541, 542, 380, 381, 382, 14, 383, 38, 41, 37, 506, 507, 508, 40, 509, 72, 388, 80, 81, 82, 543, 544, 545, 31, 546, 61, 51, 400, 140, 141, 547, 517, 518, 519, 53, 548, 549, 550, 551, 57, 552, 553, 554, 555, 59, 515, 424, 425, 426, 55, 56, 427, 416, 417, 418, 419, 420, 421, 422, 428, 429, 430, 401, 411, 412, 413, 414, 62, 52, 403, 404, 405, 406, 1025, 1026, 1027, 1028, 1029, 1050, 1051, 1052, 1053, 1054, 1055, 1056, 1057, 1058, 1067, 1068, 1069, 1070, 1071, 1072, 1073, 1074, 1075, 1076, 1077, 1078, 1079, 1080, 1081, 1082, 1083, 1084] (by decide +kernel) (by decide +kernel)
set_option maxRecDepth 20000 in
theorem gL_law_X7_mark : GoodIn wsL_law (wsV RL 51 RX7 yX7_mark wsX7_mark) := goodIn_app (goodIn_of _ (by decide +kernel)) ggL_law_X7_mark
set_option maxRecDepth 20000 in
theorem ggL_law_X8_mark : GoodIn wsL_law wsX8_mark := goodIn_r _ [559, 435, 436, 437, 5, 438, 105, 120, 121, 122, 560, 561, 562, 563, 564, 565, 566, 532, 533, 534, 535, 524, 525, 526, 527, 447, 448, 449, 450, 463, 464, 465, 567, 568, 569, 570, 571, 572, 573, 574, 474, 475, 476, 477, 466, 467, 468, 469, 470, 471, 472, 473, 455, 456, 457, 458, 1030, 1031, 1032, 1033, 1034, 1035, 1036, 1037, 1038, 1039, 1040, 1041, 1042, 1043, 1044, 1045, 1046, 1047, 1048, 1049] (by decide +kernel) (by decide +kernel)
set_option maxRecDepth 20000 in
theorem gL_law_X8_mark : GoodIn wsL_law (wsV RL 54 RX8 yX8_mark wsX8_mark) := goodIn_app (goodIn_of _ (by decide +kernel)) ggL_law_X8_mark
set_option maxRecDepth 20000 in
theorem ggL_law_X7_pass : GoodIn wsL_law wsX7_pass := goodIn_r _ [578, 15, 380, 381, 382, 14, 383, 38, 41, 37, 579, 580, 581, 31, 582, 51, 63, 59, 53, 57, 400, 140, 81, 141, 583, 52, 584, 397, 398, 399, 61, 55, 56, 58, 401, 80, 82, 402, 385, 386, 40, 387, 71, 70, 67, 69, 388, 389, 390, 391, 392, 393, 394, 395, 403, 404, 405, 406, 407, 408, 409, 410, 411, 412, 413, 414, 62, 585, 586, 587, 588, 1025, 1026, 1027, 1028, 1029, 1050, 1051, 1052, 1053, 1054, 1055, 1056, 1057, 1058, 1067, 1068, 1069, 1070, 1071, 1072, 1073, 1074, 1075, 1076, 1077, 1078, 1079, 1080, 1081, 1082, 1083, 1084] (by decide +kernel) (by decide +kernel)
set_option maxRecDepth 20000 in
theorem gL_law_X7_pass : GoodIn wsL_law (wsV RL 55 RX7 yX7_pass wsX7_pass) := goodIn_app (goodIn_of _ (by decide +kernel)) ggL_law_X7_pass
set_option maxRecDepth 20000 in
theorem ggL_law_X8_pass : GoodIn wsL_law wsX8_pass := goodIn_r _ [592, 105, 593, 120, 121, 5, 122, 594, 595, 596, 597, 110, 451, 452, 453, 454, 439, 440, 441, 442, 443, 444, 445, 446, 108, 109, 447, 448, 449, 450, 455, 456, 457, 458, 459, 460, 461, 462, 463, 464, 465, 1030, 1031, 1032, 1033, 1034, 1035, 1036, 1037, 1038, 1039, 1040, 1041, 1042, 1043, 1044, 1045, 1046, 1047, 1048, 1049] (by decide +kernel) (by decide +kernel)
set_option maxRecDepth 20000 in
theorem gL_law_X8_pass : GoodIn wsL_law (wsV RL 58 RX8 yX8_pass wsX8_pass) := goodIn_app (goodIn_of _ (by decide +kernel)) ggL_law_X8_pass
set_option maxRecDepth 20000 in
theorem ggL_law_X7_on : GoodIn wsL_law wsX7_on := goodIn_r _ [601, 21, 15, 376, 377, 378, 2, 379, 602, 603, 604, 20, 605, 90, 89, 92, 606, 607, 608, 31, 609, 51, 52, 53, 55, 56, 57, 58, 59, 61, 62, 610, 611, 612, 613, 614, 381, 382, 14, 383, 38, 41, 37, 615, 616, 617, 618, 619, 580, 581, 582, 63, 400, 140, 81, 141, 583, 584, 397, 398, 399, 401, 80, 82, 402, 385, 386, 40, 387, 71, 70, 67, 69, 388, 389, 390, 391, 392, 393, 394, 395, 403, 404, 405, 406, 407, 408, 409, 410, 411, 412, 413, 414, 585, 586, 587, 588, 620, 621, 622, 623, 624, 625, 626, 627, 628, 629, 630, 631, 632, 420, 421, 422, 1025, 1026, 1027, 1028, 1029, 1059, 1060, 1061, 1067, 1068, 1069, 1070, 1071, 1072, 1073, 1074, 1075, 1076, 1077, 1050, 1051, 1052, 1053, 1054, 1055, 1056, 1057, 1058, 1078, 1079, 1080, 1081, 1082, 1083, 1084] (by decide +kernel) (by decide +kernel)
set_option maxRecDepth 20000 in
theorem gL_law_X7_on : GoodIn wsL_law (wsV RL 59 RX7 yX7_on wsX7_on) := goodIn_app (goodIn_of _ (by decide +kernel)) ggL_law_X7_on
set_option maxRecDepth 20000 in
theorem ggL_law_X8_on : GoodIn wsL_law wsX8_on := goodIn_r _ [636, 105, 120, 121, 5, 122, 435, 436, 437, 438, 637, 638, 639, 640, 107, 641, 642, 643, 644, 594, 595, 596, 597, 110, 451, 452, 453, 454, 439, 440, 441, 442, 443, 444, 445, 446, 108, 109, 447, 448, 449, 450, 455, 456, 457, 458, 459, 460, 461, 462, 463, 464, 465, 645, 646, 647, 648, 649, 650, 651, 652, 653, 654, 655, 656, 657, 658, 659, 660, 1030, 1031, 1032, 1033, 1034, 1035, 1036, 1037, 1038, 1039, 1040, 1041, 1042, 1043, 1044, 1045, 1046, 1047, 1048, 1049] (by decide +kernel) (by decide +kernel)
set_option maxRecDepth 20000 in
theorem gL_law_X8_on : GoodIn wsL_law (wsV RL 62 RX8 yX8_on wsX8_on) := goodIn_app (goodIn_of _ (by decide +kernel)) ggL_law_X8_on
