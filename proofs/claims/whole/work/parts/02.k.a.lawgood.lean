set_option maxRecDepth 20000 in
theorem ggL_law_X7_init : GoodIn wsL_law wsX7_init := goodIn_r _ [8, 9, 10, 11, 12, 13, 14, 15, 16, 17, 18, 19, 20, 21, 22, 23, 24, 25, 26, 27, 28, 29, 30, 31, 32, 33, 34, 35, 36, 37, 38, 39, 40, 41, 42, 43, 44, 45, 46, 47, 48, 49, 50, 51, 52, 53, 54, 55, 56, 57, 58, 59, 60, 61, 62, 63, 64, 65, 66, 67, 68, 69, 70, 71, 72, 73, 74, 75, 76, 77, 78, 79, 80, 81, 82, 83, 84, 85, 86, 87, 88, 89, 90, 91, 92, 93, 94, 95, 96, 97, 98, 99, 100, 1050, 1051, 1052, 1053, 1054, 1055, 1056, 1057, 1058, 1025, 1026, 1027, 1028, 1029, 1059, 1060, 1061, 1062, 1063, 1064, 1065, 1066, 1067, 1068, 1069, 1070, 1071, 1072, 1073, 1074, 1075, 1076, 1077, 1078, 1079, 1080, 1081, 1082, 1083, 1084, 1085, 1086, 1087] (by decide +kernel) (by decide +kernel)
set_option maxRecDepth 20000 in
theorem gL_law_X7_init : GoodIn wsL_law (wsX7_init) := ggL_law_X7_init
set_option maxRecDepth 20000 in
theorem ggL_law_X8_init : GoodIn wsL_law wsX8_init := goodIn_r _ [103, 104, 10, 11, 54, 105, 106, 107, 108, 60, 109, 110, 111, 1030, 1031, 1032, 1033, 1034, 1035, 1036, 1037, 1038, 1039, 1040, 1041, 1042, 1043, 1044, 1045, 1046, 1047, 1048, 1049] (by decide +kernel) (by decide +kernel)
set_option maxRecDepth 20000 in
theorem gL_law_X8_init : GoodIn wsL_law (wsX8_init) := ggL_law_X8_init
set_option maxRecDepth 20000 in
theorem ggL_law_X7_feed : GoodIn wsL_law wsX7_feed := goodIn_r _ [115, 15, 1025, 1026, 1027, 1028, 1029, 1050, 1051, 1052, 1053, 1054, 1055, 1056, 1057, 1058] (by decide +kernel) (by decide +kernel)
set_option maxRecDepth 20000 in
theorem gL_law_X7_feed : GoodIn wsL_law (wsV RL 13 RX7 yX7_feed wsX7_feed) := goodIn_app (goodIn_of _ (by decide +kernel)) ggL_law_X7_feed
set_option maxRecDepth 20000 in
theorem ggL_law_X8_feed : GoodIn wsL_law wsX8_feed := goodIn_r _ [119, 105, 120, 121, 5, 122, 1030, 1031, 1032, 1033, 1034, 1035, 1036, 1037, 1038, 1039, 1040, 1041, 1042, 1043, 1044, 1045, 1046, 1047, 1048, 1049] (by decide +kernel) (by decide +kernel)
set_option maxRecDepth 20000 in
theorem gL_law_X8_feed : GoodIn wsL_law (wsV RL 17 RX8 yX8_feed wsX8_feed) := goodIn_app (goodIn_of _ (by decide +kernel)) ggL_law_X8_feed
set_option maxRecDepth 20000 in
theorem ggL_law_X7_school : GoodIn wsL_law wsX7_school := goodIn_r _ [126, 15, 127, 128, 129, 130, 131, 132, 133, 10, 11, 134, 135, 136, 39, 40, 137, 138, 139, 140, 81, 141, 142, 64, 65, 66, 54, 67, 68, 69, 70, 71, 72, 73, 143, 144, 145, 146, 147, 148, 149, 150, 151, 152, 153, 154, 155, 156, 157, 158, 159, 160, 161, 162, 163, 164, 165, 166, 167, 168, 169, 170, 171, 172, 173, 174, 175, 176, 177, 178, 179, 180, 181, 182, 183, 184, 185, 186, 187, 188, 189, 190, 191, 192, 193, 194, 195, 196, 197, 198, 199, 200, 201, 202, 203, 204, 205, 206, 207, 208, 209, 210, 211, 212, 213, 214, 215, 216, 217, 218, 219, 220, 221, 222, 223, 224, 225, 226, 227, 228, 80, 82, 229, 230, 231, 232, 233, 234, 235, 236, 237, 238, 239, 240, 241, 242, 243, 244, 245, 246, 247, 248, 249, 250, 251, 252, 253, 254, 255, 256, 257, 258, 259, 260, 261, 262, 263, 264, 265, 266, 267, 268, 269, 270, 271, 272, 273, 274, 275, 276, 277, 278, 279, 280, 281, 282, 283, 284, 285, 286, 287, 288, 289, 290, 291, 292, 1025, 1026, 1027, 1028, 1029, 1050, 1051, 1052, 1053, 1054, 1055, 1056, 1057, 1058, 1088, 1089, 1090, 1091, 1092, 1078, 1079, 1080, 1081, 1082, 1083, 1084] (by decide +kernel) (by decide +kernel)
set_option maxRecDepth 20000 in
theorem gL_law_X7_school : GoodIn wsL_law (wsV RL 18 RX7 yX7_school wsX7_school) := goodIn_app (goodIn_of _ (by decide +kernel)) ggL_law_X7_school
set_option maxRecDepth 20000 in
theorem ggL_law_X8_school : GoodIn wsL_law wsX8_school := goodIn_r _ [296, 105, 297, 298, 299, 300, 301, 302, 303, 304, 5, 305, 306, 307, 308, 309, 310, 311, 312, 313, 314, 315, 316, 317, 318, 160, 161, 162, 163, 164, 165, 166, 167, 168, 169, 170, 319, 172, 173, 174, 175, 176, 177, 178, 179, 180, 181, 182, 183, 184, 185, 186, 187, 188, 189, 190, 191, 192, 193, 194, 195, 196, 197, 198, 199, 200, 201, 202, 203, 204, 205, 206, 207, 320, 321, 322, 323, 324, 325, 326, 327, 120, 121, 122, 328, 329, 330, 331, 332, 333, 334, 335, 336, 337, 338, 339, 340, 341, 342, 343, 344, 345, 346, 347, 348, 349, 350, 351, 352, 353, 354, 355, 1030, 1031, 1032, 1033, 1034, 1035, 1036, 1037, 1038, 1039, 1040, 1041, 1042, 1043, 1044, 1045, 1046, 1047, 1048, 1049] (by decide +kernel) (by decide +kernel)
set_option maxRecDepth 20000 in
theorem gL_law_X8_school : GoodIn wsL_law (wsV RL 22 RX8 yX8_school wsX8_school) := goodIn_app (goodIn_of _ (by decide +kernel)) ggL_law_X8_school
set_option maxRecDepth 20000 in
theorem ggL_law_X7_pupil : GoodIn wsL_law wsX7_pupil := goodIn_r _ [359, 15, 360, 361, 2, 362, 363, 364, 365, 366, 31, 367, 51, 55, 56, 57, 58, 59, 61, 62, 1025, 1026, 1027, 1028, 1029, 1050, 1051, 1052, 1053, 1054, 1055, 1056, 1057, 1058, 1067, 1068, 1069, 1070, 1071, 1072, 1073, 1074, 1075, 1076, 1077] (by decide +kernel) (by decide +kernel)
set_option maxRecDepth 20000 in
theorem gL_law_X7_pupil : GoodIn wsL_law (wsV RL 23 RX7 yX7_pupil wsX7_pupil) := goodIn_app (goodIn_of _ (by decide +kernel)) ggL_law_X7_pupil
set_option maxRecDepth 20000 in
theorem ggL_law_X8_pupil : GoodIn wsL_law wsX8_pupil := goodIn_r _ [371, 105, 120, 121, 5, 122, 1030, 1031, 1032, 1033, 1034, 1035, 1036, 1037, 1038, 1039, 1040, 1041, 1042, 1043, 1044, 1045, 1046, 1047, 1048, 1049] (by decide +kernel) (by decide +kernel)
set_option maxRecDepth 20000 in
theorem gL_law_X8_pupil : GoodIn wsL_law (wsV RL 27 RX8 yX8_pupil wsX8_pupil) := goodIn_app (goodIn_of _ (by decide +kernel)) ggL_law_X8_pupil
set_option maxRecDepth 20000 in
theorem ggL_law_X7_of : GoodIn wsL_law wsX7_of := goodIn_r _ [375, 15, 376, 377, 378, 2, 379, 380, 381, 382, 14, 383, 38, 41, 37, 384, 385, 386, 40, 387, 71, 70, 67, 69, 388, 80, 81, 82, 389, 390, 391, 392, 393, 394, 31, 395, 55, 56, 57, 59, 52, 396, 397, 398, 399, 61, 51, 58, 400, 140, 141, 401, 402, 403, 404, 405, 406, 407, 408, 409, 410, 411, 412, 413, 414, 62, 415, 416, 417, 418, 419, 420, 421, 422, 423, 424, 425, 426, 427, 428, 429, 430, 1025, 1026, 1027, 1028, 1029, 1050, 1051, 1052, 1053, 1054, 1055, 1056, 1057, 1058, 1067, 1068, 1069, 1070, 1071, 1072, 1073, 1074, 1075, 1076, 1077, 1078, 1079, 1080, 1081, 1082, 1083, 1084] (by decide +kernel) (by decide +kernel)
set_option maxRecDepth 20000 in
theorem gL_law_X7_of : GoodIn wsL_law (wsV RL 28 RX7 yX7_of wsX7_of) := goodIn_app (goodIn_of _ (by decide +kernel)) ggL_law_X7_of
set_option maxRecDepth 20000 in
theorem ggL_law_X8_of : GoodIn wsL_law wsX8_of := goodIn_r _ [434, 105, 435, 436, 437, 5, 438, 120, 121, 122, 439, 440, 441, 442, 443, 444, 445, 446, 108, 109, 447, 448, 449, 450, 451, 452, 453, 454, 455, 456, 457, 458, 459, 460, 461, 462, 463, 464, 465, 466, 467, 468, 469, 470, 471, 472, 473, 474, 475, 476, 477, 1030, 1031, 1032, 1033, 1034, 1035, 1036, 1037, 1038, 1039, 1040, 1041, 1042, 1043, 1044, 1045, 1046, 1047, 1048, 1049] (by decide +kernel) (by decide +kernel)
set_option maxRecDepth 20000 in
theorem gL_law_X8_of : GoodIn wsL_law (wsV RL 32 RX8 yX8_of wsX8_of) := goodIn_app (goodIn_of _ (by decide +kernel)) ggL_law_X8_of
set_option maxRecDepth 20000 in
theorem ggL_law_X7_row : GoodIn wsL_law wsX7_row := goodIn_r _ [481, 15, 376, 377, 378, 2, 379, 1025, 1026, 1027, 1028, 1029, 1050, 1051, 1052, 1053, 1054, 1055, 1056, 1057, 1058, 1067, 1068, 1069, 1070, 1071, 1072, 1073, 1074, 1075, 1076, 1077] (by decide +kernel) (by decide +kernel)
set_option maxRecDepth 20000 in
theorem gL_law_X7_row : GoodIn wsL_law (wsV RL 33 RX7 yX7_row wsX7_row) := goodIn_app (goodIn_of _ (by decide +kernel)) ggL_law_X7_row
set_option maxRecDepth 20000 in
theorem ggL_law_X8_row : GoodIn wsL_law wsX8_row := goodIn_r _ [485, 105, 435, 436, 437, 5, 438, 120, 121, 122, 1030, 1031, 1032, 1033, 1034, 1035, 1036, 1037, 1038, 1039, 1040, 1041, 1042, 1043, 1044, 1045, 1046, 1047, 1048, 1049] (by decide +kernel) (by decide +kernel)
set_option maxRecDepth 20000 in
theorem gL_law_X8_row : GoodIn wsL_law (wsV RL 37 RX8 yX8_row wsX8_row) := goodIn_app (goodIn_of _ (by decide +kernel)) ggL_law_X8_row
