set_option maxRecDepth 20000 in
theorem gr_X70 : GoodIn wsL_law wsX70 := goodIn_r _ [1068, 1069, 1070, 1071, 1072, 1073, 1074, 1075, 1076, 1077, 1078, 1079, 1080, 1081, 1082, 1083, 1084, 1085, 1086, 1087, 1088, 1089, 1090, 1091, 1092, 1093, 1094, 1095, 1096, 1097, 1098, 1099, 1100, 1101, 1102, 1103, 1104, 1105, 1106, 1107, 1108] (by decide +kernel) (by decide +kernel)
set_option maxRecDepth 20000 in
theorem gr_X6_undo_1 : GoodIn wsL_law (.code yX6_undo cX6_undo 1 (some .int) :: wsX6_undo_r1) := goodIn_r _ [670, 266, 17, 96, 20, 412, 413, 414, 22, 415, 54, 280, 416, 155, 156, 157, 55, 56, 57, 281, 92, 93, 94, 2, 95] (by decide +kernel) (by decide +kernel)
set_option maxRecDepth 20000 in
theorem gr_X6_undo_2 : GoodIn wsL_law wsX6_undo_r2 := goodIn_r _ [26, 97, 98, 99, 100, 101, 25, 102, 69, 103, 104, 105, 106, 107, 108, 109, 110, 111, 112, 113, 71, 114, 115, 116] (by decide +kernel) (by decide +kernel)
set_option maxRecDepth 20000 in
theorem gr_X6_undo_3 : GoodIn wsL_law wsX6_undo_r3 := goodIn_r _ [117, 68, 118, 119, 120, 121, 122, 76, 77, 78, 123, 79, 124, 125, 126, 127, 128, 129, 130, 131, 132, 133, 134, 135] (by decide +kernel) (by decide +kernel)
set_option maxRecDepth 20000 in
theorem gr_X6_undo_4 : GoodIn wsL_law wsX6_undo_r4 := goodIn_r _ [136, 137, 138, 35, 139, 140, 83, 84, 85, 141, 142, 60, 143, 144, 145, 146, 147, 148, 149, 46, 150, 151, 152, 153] (by decide +kernel) (by decide +kernel)
set_option maxRecDepth 20000 in
theorem gr_X6_undo_5 : GoodIn wsL_law wsX6_undo_r5 := goodIn_r _ [154, 158, 159, 160, 161, 162, 163, 164, 6, 165, 166, 167, 168, 169, 170, 171, 172, 173, 72, 174, 175, 176, 177, 178] (by decide +kernel) (by decide +kernel)
set_option maxRecDepth 20000 in
theorem gr_X6_undo_6 : GoodIn wsL_law wsX6_undo_r6 := goodIn_r _ [179, 180, 181, 182, 183, 184, 185, 186, 187, 188, 189, 190, 191, 192, 193, 194, 195, 196, 197, 198, 199, 200, 201, 202] (by decide +kernel) (by decide +kernel)
set_option maxRecDepth 20000 in
theorem gr_X6_undo_7 : GoodIn wsL_law wsX6_undo_r7 := goodIn_r _ [203, 204, 205, 206, 207, 208, 209, 210, 211, 212, 213, 214, 215, 216, 217, 218, 219, 220, 221] (by decide +kernel) (by decide +kernel)
set_option maxRecDepth 20000 in
theorem ggL_law_X6_undo : GoodIn wsL_law wsX6_undo := (goodIn_ca (goodIn_ca (goodIn_ca (goodIn_ca (goodIn_ca (goodIn_ca (goodIn_ca gr_X6_undo_1 (goodIn_app gr_X6_undo_2 (goodIn_app gr_X6_undo_3 (goodIn_app gr_X6_undo_4 (goodIn_app gr_X6_undo_5 (goodIn_app gr_X6_undo_6 gr_X6_undo_7)))))) gr_read_X60) gr_read_X50) gr_read_X10) gr_read_X00) gr_read_X20) gr_read_X40)
set_option maxRecDepth 20000 in
theorem gL_law_X6_undo : GoodIn wsL_law (wsV RL 66 RX6 yX6_undo wsX6_undo) := goodIn_app (goodIn_of _ (by decide +kernel)) ggL_law_X6_undo
set_option maxRecDepth 20000 in
theorem gr_X7_undo_1 : GoodIn wsL_law (.code yX7_undo cX7_undo 2 (some .int) :: [.fieldLink RX7 58 "KnapsackCoreModel" "raised" "I", .fieldLink RX7 157 "KnapsackCoreModel" "undos" "I", .fieldLink RX7 7 "KnapsackCoreModel" "all" "[I", .fieldLink RX7 21 "KnapsackCoreModel" "undone" "[I"]) := goodIn_r _ [674, 255, 429, 226, 230] (by decide +kernel) (by decide +kernel)
set_option maxRecDepth 20000 in
theorem ggL_law_X7_undo : GoodIn wsL_law wsX7_undo := (goodIn_ca gr_X7_undo_1 gr_X70)
set_option maxRecDepth 20000 in
theorem gL_law_X7_undo : GoodIn wsL_law (wsV RL 69 RX7 yX7_undo wsX7_undo) := goodIn_app (goodIn_of _ (by decide +kernel)) ggL_law_X7_undo
set_option maxRecDepth 20000 in
theorem gr_X6_count_1 : GoodIn wsL_law (.code yX6_count cX6_count 2 (some .int) :: wsX6_count_r1) := goodIn_r _ [678, 17, 96, 267, 493, 519, 26, 679, 680, 681, 682, 683, 684, 570, 571, 572, 685, 686, 266, 246, 687, 688, 689, 2, 690] (by decide +kernel) (by decide +kernel)
set_option maxRecDepth 20000 in
theorem gr_X6_count_2 : GoodIn wsL_law wsX6_count_r2 := goodIn_r _ [691, 692, 693, 68, 694, 133, 120, 695, 696, 697, 698, 122, 134, 699, 211, 212, 213, 78, 79, 214, 215, 216, 217, 573] (by decide +kernel) (by decide +kernel)
set_option maxRecDepth 20000 in
theorem gr_X6_count_3 : GoodIn wsL_law wsX6_count_r3 := goodIn_r _ [177, 178, 25, 179, 71, 114, 106, 107, 69, 173, 700, 701, 702, 703, 704, 705, 706, 707, 708, 709, 710, 711, 135, 712] (by decide +kernel) (by decide +kernel)
set_option maxRecDepth 20000 in
theorem gr_X6_count_4 : GoodIn wsL_law wsX6_count_r4 := goodIn_r _ [713, 714, 197, 198, 199, 194, 200, 715, 385, 386, 22, 387, 54, 388, 389, 390, 391, 280, 716, 401, 402, 403, 55] (by decide +kernel) (by decide +kernel)
set_option maxRecDepth 20000 in
theorem ggL_law_X6_count : GoodIn wsL_law wsX6_count := (goodIn_ca (goodIn_ca (goodIn_ca (goodIn_ca (goodIn_ca (goodIn_ca (goodIn_ca gr_X6_count_1 (goodIn_app gr_X6_count_2 (goodIn_app gr_X6_count_3 gr_X6_count_4))) gr_read_X60) gr_read_X50) gr_read_X10) gr_read_X00) gr_read_X20) gr_read_X40)
set_option maxRecDepth 20000 in
theorem gL_law_X6_count : GoodIn wsL_law (wsV RL 70 RX6 yX6_count wsX6_count) := goodIn_app (goodIn_of _ (by decide +kernel)) ggL_law_X6_count
set_option maxRecDepth 20000 in
theorem gr_X7_count_1 : GoodIn wsL_law (.code yX7_count cX7_count 2 (some .int) :: wsX7_count_r1) := goodIn_r _ [720, 255, 226, 590, 593, 594, 591, 592, 579, 580, 602, 597, 596, 429, 581, 582, 583, 5, 584, 585, 586, 587, 588, 589, 236] (by decide +kernel) (by decide +kernel)
set_option maxRecDepth 20000 in
theorem gr_X7_count_2 : GoodIn wsL_law wsX7_count_r2 := goodIn_r _ [237, 238, 595, 598, 599, 600, 601, 232, 233, 234, 235, 603, 604, 605, 606, 607, 608, 609, 610, 611, 612, 613, 614, 615] (by decide +kernel) (by decide +kernel)
set_option maxRecDepth 20000 in
theorem gr_X7_count_3 : GoodIn wsL_law wsX7_count_r3 := goodIn_r _ [616, 617, 618, 619, 620, 621, 622, 623, 624, 625, 626, 627, 241, 240, 239, 628, 629, 630, 631, 632, 633, 634, 635, 636] (by decide +kernel) (by decide +kernel)
set_option maxRecDepth 20000 in
theorem gr_X7_count_4 : GoodIn wsL_law wsX7_count_r4 := goodIn_r _ [637, 638, 639, 640, 641, 642, 643, 721, 722, 723, 724, 725, 726, 727, 728, 644, 645, 646, 647, 729, 730, 731, 732, 733] (by decide +kernel) (by decide +kernel)
set_option maxRecDepth 20000 in
theorem gr_X7_count_5 : GoodIn wsL_law wsX7_count_r5 := goodIn_r _ [734, 735, 736, 737, 738, 739, 740, 741, 742, 743, 744, 541, 542, 543, 544] (by decide +kernel) (by decide +kernel)
set_option maxRecDepth 20000 in
theorem ggL_law_X7_count : GoodIn wsL_law wsX7_count := (goodIn_ca (goodIn_ca gr_X7_count_1 (goodIn_app gr_X7_count_2 (goodIn_app gr_X7_count_3 (goodIn_app gr_X7_count_4 gr_X7_count_5)))) gr_X70)
set_option maxRecDepth 20000 in
theorem gL_law_X7_count : GoodIn wsL_law (wsV RL 73 RX7 yX7_count wsX7_count) := goodIn_app (goodIn_of _ (by decide +kernel)) ggL_law_X7_count
