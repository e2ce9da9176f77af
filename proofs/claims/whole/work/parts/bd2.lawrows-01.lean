set_option maxRecDepth 20000 in
theorem gr_read_1 : GoodIn wsL_law (.code yX6_read cX6_read 1 (some .int) :: wsX6_read_r1) := goodIn_r _ [260, 32, 17, 247, 246, 261, 262, 263, 264, 96, 265, 266, 267, 268, 269, 270, 31, 271, 90, 272, 273, 274, 275, 276, 277] (by decide +kernel) (by decide +kernel)
set_option maxRecDepth 20000 in
theorem gr_read_2 : GoodIn wsL_law wsX6_read_r2 := goodIn_r _ [278, 22, 279, 280, 56, 57, 281, 282, 283, 284, 285, 286, 287, 288, 289, 290, 291, 292, 293, 294, 295, 296, 297, 298] (by decide +kernel) (by decide +kernel)
set_option maxRecDepth 20000 in
theorem gr_read_3 : GoodIn wsL_law wsX6_read_r3 := goodIn_r _ [299, 300, 301, 302, 303, 304, 305, 306, 307, 308, 309, 310, 311, 312, 313, 314, 315, 316, 317, 318, 319, 320, 321, 322] (by decide +kernel) (by decide +kernel)
set_option maxRecDepth 20000 in
theorem gr_read_4 : GoodIn wsL_law wsX6_read_r4 := goodIn_r _ [323, 324, 325, 326, 327, 328, 329, 330, 331, 332, 333, 334, 335, 336, 337, 338, 339, 340, 341, 342, 343, 344, 345, 346] (by decide +kernel) (by decide +kernel)
set_option maxRecDepth 20000 in
theorem gr_read_5 : GoodIn wsL_law wsX6_read_r5 := goodIn_r _ [347, 348, 349, 350, 351, 352, 353, 354, 355, 356, 357, 358, 359, 360, 361, 362, 363, 364, 365, 366, 367, 368, 369, 370] (by decide +kernel) (by decide +kernel)
set_option maxRecDepth 20000 in
theorem gr_read_6 : GoodIn wsL_law wsX6_read_r6 := goodIn_r _ [371, 372, 2, 373, 374, 375, 376, 377, 378, 379, 380, 381, 382, 383, 384, 385, 386, 387, 54, 388, 389, 390, 391, 392] (by decide +kernel) (by decide +kernel)
set_option maxRecDepth 20000 in
theorem gr_read_7 : GoodIn wsL_law wsX6_read_r7 := goodIn_r _ [393, 394, 395, 396, 397, 398, 399, 400, 401, 402, 403, 55, 404, 405, 406, 407, 408, 409, 410, 411, 412, 413, 414, 415] (by decide +kernel) (by decide +kernel)
set_option maxRecDepth 20000 in
theorem gr_read_8 : GoodIn wsL_law wsX6_read_r8 := goodIn_r _ [416, 155, 156, 157, 92, 93, 94, 95, 26, 97, 98, 99, 100, 101, 25, 102, 69, 103, 104, 105, 106, 107, 108, 109] (by decide +kernel) (by decide +kernel)
set_option maxRecDepth 20000 in
theorem gr_read_9 : GoodIn wsL_law wsX6_read_r9 := goodIn_r _ [110, 111, 112, 113, 71, 114, 115, 116, 117, 68, 118, 119, 120, 121, 122, 76, 77, 78, 123, 79, 124, 125, 126, 127] (by decide +kernel) (by decide +kernel)
set_option maxRecDepth 20000 in
theorem gr_read_10 : GoodIn wsL_law wsX6_read_r10 := goodIn_r _ [128, 129, 130, 131, 132, 133, 134, 135, 136, 137, 138, 35, 139, 140, 83, 84, 85, 141, 142, 60, 143, 144, 145, 146] (by decide +kernel) (by decide +kernel)
set_option maxRecDepth 20000 in
theorem gr_read_11 : GoodIn wsL_law wsX6_read_r11 := goodIn_r _ [147, 148, 149, 46, 150, 151, 152, 153, 154, 158, 159, 160, 161, 162, 163, 164, 6, 165, 166, 167, 168, 169, 170, 171] (by decide +kernel) (by decide +kernel)
set_option maxRecDepth 20000 in
theorem gr_read_12 : GoodIn wsL_law wsX6_read_r12 := goodIn_r _ [172, 173, 72, 174, 175, 176, 177, 178, 179, 180, 181, 182, 183, 184, 185, 186, 187, 188, 189, 190, 191, 192, 193, 194] (by decide +kernel) (by decide +kernel)
set_option maxRecDepth 20000 in
theorem gr_read_13 : GoodIn wsL_law wsX6_read_r13 := goodIn_r _ [195, 196, 197, 198, 199, 200, 201, 202, 203, 204, 205, 206, 207, 208, 209, 210, 211, 212, 213, 214, 215, 216, 217, 218] (by decide +kernel) (by decide +kernel)
set_option maxRecDepth 20000 in
theorem gr_read_14 : GoodIn wsL_law wsX6_read_r14 := goodIn_r _ [219, 220, 221] (by decide +kernel) (by decide +kernel)
set_option maxRecDepth 20000 in
theorem gr_read_X60 : GoodIn wsL_law wsX60 := goodIn_r _ [1057, 1058, 1059, 1060, 1061, 1062, 1063, 1064, 1065, 1066, 1067] (by decide +kernel) (by decide +kernel)
set_option maxRecDepth 20000 in
theorem gr_read_X50 : GoodIn wsL_law wsX50 := goodIn_r _ [1109, 1110, 1111, 1112, 1113, 1114, 1115] (by decide +kernel) (by decide +kernel)
set_option maxRecDepth 20000 in
theorem gr_read_X30 : GoodIn wsL_law wsX30 := goodIn_r _ [1132, 1133, 1134, 1135, 1136] (by decide +kernel) (by decide +kernel)
set_option maxRecDepth 20000 in
theorem gr_read_X10 : GoodIn wsL_law wsX10 := goodIn_r _ [1116, 1117, 1118, 1119, 1120, 1121] (by decide +kernel) (by decide +kernel)
set_option maxRecDepth 20000 in
theorem gr_read_X00 : GoodIn wsL_law wsX00 := goodIn_r _ [1122, 1123, 1124, 1125, 1126, 1127, 1128, 1129, 1130, 1131] (by decide +kernel) (by decide +kernel)
set_option maxRecDepth 20000 in
theorem gr_read_X20 : GoodIn wsL_law wsX20 := goodIn_r _ [1141, 1142, 1143, 1144, 1145, 1146, 1147, 1148, 1149] (by decide +kernel) (by decide +kernel)
set_option maxRecDepth 20000 in
theorem gr_read_X40 : GoodIn wsL_law wsX40 := goodIn_r _ [1137, 1138, 1139, 1140] (by decide +kernel) (by decide +kernel)
theorem ggL_law_X6_read : GoodIn wsL_law wsX6_read := goodIn_ca (goodIn_ca (goodIn_ca (goodIn_ca (goodIn_ca (goodIn_ca (goodIn_ca (goodIn_ca gr_read_1 (goodIn_app gr_read_2 (goodIn_app gr_read_3 (goodIn_app gr_read_4 (goodIn_app gr_read_5 (goodIn_app gr_read_6 (goodIn_app gr_read_7 (goodIn_app gr_read_8 (goodIn_app gr_read_9 (goodIn_app gr_read_10 (goodIn_app gr_read_11 (goodIn_app gr_read_12 (goodIn_app gr_read_13 gr_read_14))))))))))))) gr_read_X60) gr_read_X50) gr_read_X30) gr_read_X10) gr_read_X00) gr_read_X20) gr_read_X40
set_option maxRecDepth 20000 in
theorem gL_law_X6_read : GoodIn wsL_law (wsV RL 30 RX6 yX6_read wsX6_read) := goodIn_app (goodIn_of _ (by decide +kernel)) ggL_law_X6_read
set_option maxRecDepth 20000 in
theorem ggL_law_X7_read : GoodIn wsL_law wsX7_read := goodIn_r _ [420, 255, 226, 421, 231, 422, 423, 424, 425, 426, 427, 428, 429, 430, 431, 432, 5, 433, 434, 435, 436, 437, 438, 439, 440, 441, 442, 443, 444, 445, 227, 446, 447, 448, 449, 450, 451, 452, 453, 454, 455, 456, 457, 458, 459, 460, 461, 462, 463, 464, 465, 466, 467, 468, 469, 470, 471, 472, 473, 474, 475, 476, 477, 478, 479, 480, 1068, 1069, 1070, 1071, 1072, 1073, 1074, 1075, 1076, 1077, 1078, 1079, 1080, 1081, 1082, 1083, 1084, 1085, 1086, 1087, 1088, 1089, 1090, 1091, 1092, 1093, 1094, 1095, 1096, 1097, 1098, 1099, 1100, 1101, 1102, 1103, 1104, 1105, 1106, 1107, 1108] (by decide +kernel) (by decide +kernel)
set_option maxRecDepth 20000 in
theorem gL_law_X7_read : GoodIn wsL_law (wsV RL 34 RX7 yX7_read wsX7_read) := goodIn_app (goodIn_of _ (by decide +kernel)) ggL_law_X7_read
set_option maxRecDepth 20000 in
theorem ggL_law_X6_fault : GoodIn wsL_law wsX6_fault := goodIn_r _ [484, 17, 264, 262, 1057, 1058, 1059, 1060, 1061, 1062, 1063, 1064, 1065, 1066, 1067, 1109, 1110, 1111, 1112, 1113, 1114, 1115] (by decide +kernel) (by decide +kernel)
set_option maxRecDepth 20000 in
theorem gL_law_X6_fault : GoodIn wsL_law (wsV RL 35 RX6 yX6_fault wsX6_fault) := goodIn_app (goodIn_of _ (by decide +kernel)) ggL_law_X6_fault
set_option maxRecDepth 20000 in
theorem ggL_law_X7_fault : GoodIn wsL_law wsX7_fault := goodIn_r _ [488, 255, 226, 1068, 1069, 1070, 1071, 1072, 1073, 1074, 1075, 1076, 1077, 1078, 1079, 1080, 1081, 1082, 1083, 1084, 1085, 1086, 1087, 1088, 1089, 1090, 1091, 1092, 1093, 1094, 1095, 1096, 1097, 1098, 1099, 1100, 1101, 1102, 1103, 1104, 1105, 1106, 1107, 1108] (by decide +kernel) (by decide +kernel)
set_option maxRecDepth 20000 in
theorem gL_law_X7_fault : GoodIn wsL_law (wsV RL 39 RX7 yX7_fault wsX7_fault) := goodIn_app (goodIn_of _ (by decide +kernel)) ggL_law_X7_fault
