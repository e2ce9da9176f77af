set_option maxRecDepth 20000 in
theorem ggL_law_X7_reduced : GoodIn wsL_law wsX7_reduced := goodIn_r _ [782, 255, 233, 581, 582, 583, 5, 584, 226, 579, 585, 586, 587, 588, 589, 590, 591, 592, 580, 236, 237, 593, 238, 594, 595, 596, 597, 598, 599, 600, 601, 602, 232, 234, 235, 603, 604, 605, 606, 607, 608, 609, 610, 611, 612, 613, 614, 615, 616, 617, 618, 619, 620, 621, 622, 623, 624, 625, 626, 627, 241, 240, 239, 628, 629, 630, 631, 632, 633, 634, 635, 636, 637, 638, 639, 640, 641, 642, 643, 562, 563, 564, 565, 446, 447, 448, 725, 726, 727, 728, 737, 738, 739, 740, 1068, 1069, 1070, 1071, 1072, 1073, 1074, 1075, 1076, 1077, 1078, 1079, 1080, 1081, 1082, 1083, 1084, 1085, 1086, 1087, 1088, 1089, 1090, 1091, 1092, 1093, 1094, 1095, 1096, 1097, 1098, 1099, 1100, 1101, 1102, 1103, 1104, 1105, 1106, 1107, 1108] (by decide +kernel) (by decide +kernel)
set_option maxRecDepth 20000 in
theorem gL_law_X7_reduced : GoodIn wsL_law (wsV RL 87 RX7 yX7_reduced wsX7_reduced) := goodIn_app (goodIn_of _ (by decide +kernel)) ggL_law_X7_reduced
set_option maxRecDepth 20000 in
theorem ggL_law_X6_order : GoodIn wsL_law wsX6_order := goodIn_r _ [786, 17, 96, 26, 679, 787, 549, 550, 551, 22, 552, 280, 1057, 1058, 1059, 1060, 1061, 1062, 1063, 1064, 1065, 1066, 1067, 1109, 1110, 1111, 1112, 1113, 1114, 1115, 1122, 1123, 1124, 1125, 1126, 1127, 1128, 1129, 1130, 1131, 1141, 1142, 1143, 1144, 1145, 1146, 1147, 1148, 1149, 1116, 1117, 1118, 1119, 1120, 1121] (by decide +kernel) (by decide +kernel)
set_option maxRecDepth 20000 in
theorem gL_law_X6_order : GoodIn wsL_law (wsV RL 88 RX6 yX6_order wsX6_order) := goodIn_app (goodIn_of _ (by decide +kernel)) ggL_law_X6_order
set_option maxRecDepth 20000 in
theorem ggL_law_X7_order : GoodIn wsL_law wsX7_order := goodIn_r _ [791, 255, 602, 232, 581, 582, 583, 5, 584, 226, 579, 585, 586, 587, 588, 589, 590, 591, 592, 580, 236, 237, 593, 238, 594, 595, 596, 597, 598, 599, 600, 601, 233, 234, 235, 603, 604, 605, 606, 607, 608, 609, 610, 611, 612, 613, 614, 615, 616, 617, 618, 619, 620, 621, 622, 623, 624, 625, 626, 627, 241, 240, 239, 628, 629, 630, 631, 632, 633, 634, 635, 636, 637, 638, 639, 640, 641, 642, 643, 446, 447, 448, 1068, 1069, 1070, 1071, 1072, 1073, 1074, 1075, 1076, 1077, 1078, 1079, 1080, 1081, 1082, 1083, 1084, 1085, 1086, 1087, 1088, 1089, 1090, 1091, 1092, 1093, 1094, 1095, 1096, 1097, 1098, 1099, 1100, 1101, 1102, 1103, 1104, 1105, 1106, 1107, 1108] (by decide +kernel) (by decide +kernel)
set_option maxRecDepth 20000 in
theorem gL_law_X7_order : GoodIn wsL_law (wsV RL 91 RX7 yX7_order wsX7_order) := goodIn_app (goodIn_of _ (by decide +kernel)) ggL_law_X7_order
set_option maxRecDepth 20000 in
theorem ggL_law_L_set : GoodIn wsL_law wsL_set := goodIn_ca (goodIn_r _ [794, 749, 795, 796, 797, 2, 798, 754, 755, 26, 571, 799, 800, 801, 802, 803, 804, 35, 805, 140, 806, 206, 207, 25, 208, 69, 200, 71, 194, 106, 209, 193, 107, 210, 211, 212, 68, 213, 120, 78, 79, 214, 215, 216, 217, 807, 808, 809, 810, 811, 812, 813, 1057, 1058, 1059, 1060, 1061, 1062, 1063, 1064, 1065, 1066, 1067, 1122, 1123, 1124, 1125, 1126, 1127, 1128, 1129, 1130, 1131, 1137, 1138, 1139, 1140, 1141, 1142, 1143, 1144, 1145, 1146, 1147, 1148, 1149] (by decide +kernel) (by decide +kernel)) (goodIn_sub (fun _ h => List.mem_append_right _ h) (by decide +kernel))
set_option maxRecDepth 20000 in
theorem gL_law_L_set : GoodIn wsL_law (va_wsS RL 92 yL_set wsL_set) := goodIn_app (goodIn_of _ (by decide +kernel)) ggL_law_L_set
set_option maxRecDepth 20000 in
theorem ggL_law_X7_set : GoodIn wsL_law wsX7_set := goodIn_r _ [817, 580, 767, 255, 237, 238, 236, 581, 582, 583, 5, 584, 226, 579, 585, 586, 587, 588, 589, 590, 591, 592, 593, 594, 595, 596, 597, 598, 599, 600, 601, 602, 232, 233, 234, 235, 603, 604, 605, 606, 607, 608, 609, 610, 611, 612, 613, 614, 615, 616, 617, 618, 619, 620, 621, 622, 623, 624, 625, 626, 627, 241, 240, 239, 628, 629, 630, 631, 632, 633, 634, 635, 636, 637, 638, 639, 640, 641, 642, 643, 446, 447, 448, 818, 819, 820, 768, 769, 770, 1068, 1069, 1070, 1071, 1072, 1073, 1074, 1075, 1076, 1077, 1078, 1079, 1080, 1081, 1082, 1083, 1084, 1085, 1086, 1087, 1088, 1089, 1090, 1091, 1092, 1093, 1094, 1095, 1096, 1097, 1098, 1099, 1100, 1101, 1102, 1103, 1104, 1105, 1106, 1107, 1108] (by decide +kernel) (by decide +kernel)
set_option maxRecDepth 20000 in
theorem gL_law_X7_set : GoodIn wsL_law (wsV RL 94 RX7 yX7_set wsX7_set) := goodIn_app (goodIn_of _ (by decide +kernel)) ggL_law_X7_set
set_option maxRecDepth 20000 in
theorem ggL_law_X6_best : GoodIn wsL_law wsX6_best := goodIn_r _ [824, 26, 825, 1057, 1058, 1059, 1060, 1061, 1062, 1063, 1064, 1065, 1066, 1067, 1122, 1123, 1124, 1125, 1126, 1127, 1128, 1129, 1130, 1131] (by decide +kernel) (by decide +kernel)
set_option maxRecDepth 20000 in
theorem gL_law_X6_best : GoodIn wsL_law (wsV RL 95 RX6 yX6_best wsX6_best) := goodIn_app (goodIn_of _ (by decide +kernel)) ggL_law_X6_best
set_option maxRecDepth 20000 in
theorem ggL_law_X7_best : GoodIn wsL_law wsX7_best := goodIn_r _ [829, 255, 595, 581, 582, 583, 5, 584, 226, 579, 585, 586, 587, 588, 589, 590, 591, 592, 580, 236, 237, 593, 238, 594, 596, 597, 598, 599, 600, 601, 602, 232, 233, 234, 235, 603, 604, 605, 606, 607, 608, 609, 610, 611, 612, 613, 614, 615, 616, 617, 618, 619, 620, 621, 622, 623, 624, 625, 626, 627, 241, 240, 239, 628, 629, 630, 631, 632, 633, 634, 635, 636, 637, 638, 639, 640, 641, 642, 643, 1068, 1069, 1070, 1071, 1072, 1073, 1074, 1075, 1076, 1077, 1078, 1079, 1080, 1081, 1082, 1083, 1084, 1085, 1086, 1087, 1088, 1089, 1090, 1091, 1092, 1093, 1094, 1095, 1096, 1097, 1098, 1099, 1100, 1101, 1102, 1103, 1104, 1105, 1106, 1107, 1108] (by decide +kernel) (by decide +kernel)
set_option maxRecDepth 20000 in
theorem gL_law_X7_best : GoodIn wsL_law (wsV RL 99 RX7 yX7_best wsX7_best) := goodIn_app (goodIn_of _ (by decide +kernel)) ggL_law_X7_best
set_option maxRecDepth 20000 in
theorem ggL_law_X6_share : GoodIn wsL_law wsX6_share := goodIn_r _ [833, 17, 96, 756, 757, 549, 550, 551, 22, 552, 280, 834, 835, 2, 836, 837, 1057, 1058, 1059, 1060, 1061, 1062, 1063, 1064, 1065, 1066, 1067, 1109, 1110, 1111, 1112, 1113, 1114, 1115, 1116, 1117, 1118, 1119, 1120, 1121] (by decide +kernel) (by decide +kernel)
set_option maxRecDepth 20000 in
theorem gL_law_X6_share : GoodIn wsL_law (wsV RL 100 RX6 yX6_share wsX6_share) := goodIn_app (goodIn_of _ (by decide +kernel)) ggL_law_X6_share
set_option maxRecDepth 20000 in
theorem ggL_law_X7_share : GoodIn wsL_law wsX7_share := goodIn_r _ [841, 255, 226, 562, 563, 564, 5, 565, 446, 447, 448, 842, 843, 844, 845, 846, 847, 848, 849, 850, 851, 852, 853, 1068, 1069, 1070, 1071, 1072, 1073, 1074, 1075, 1076, 1077, 1078, 1079, 1080, 1081, 1082, 1083, 1084, 1085, 1086, 1087, 1088, 1089, 1090, 1091, 1092, 1093, 1094, 1095, 1096, 1097, 1098, 1099, 1100, 1101, 1102, 1103, 1104, 1105, 1106, 1107, 1108] (by decide +kernel) (by decide +kernel)
set_option maxRecDepth 20000 in
theorem gL_law_X7_share : GoodIn wsL_law (wsV RL 103 RX7 yX7_share wsX7_share) := goodIn_app (goodIn_of _ (by decide +kernel)) ggL_law_X7_share
set_option maxRecDepth 20000 in
theorem ggL_law_X6_linear : GoodIn wsL_law wsX6_linear := goodIn_r _ [857, 858, 859, 860, 2, 861, 26, 679, 682, 862, 680, 863, 691, 692, 693, 68, 694, 133, 120, 695, 696, 697, 698, 122, 134, 864, 865, 866, 867, 868, 869, 1057, 1058, 1059, 1060, 1061, 1062, 1063, 1064, 1065, 1066, 1067, 1122, 1123, 1124, 1125, 1126, 1127, 1128, 1129, 1130, 1131, 1141, 1142, 1143, 1144, 1145, 1146, 1147, 1148, 1149] (by decide +kernel) (by decide +kernel)
set_option maxRecDepth 20000 in
theorem gL_law_X6_linear : GoodIn wsL_law (wsV RL 104 RX6 yX6_linear wsX6_linear) := goodIn_app (goodIn_of _ (by decide +kernel)) ggL_law_X6_linear
set_option maxRecDepth 20000 in
theorem ggL_law_X7_linear : GoodIn wsL_law wsX7_linear := goodIn_r _ [873, 255, 581, 582, 583, 5, 584, 226, 579, 585, 586, 587, 588, 589, 590, 591, 592, 580, 236, 237, 593, 238, 594, 595, 596, 597, 598, 599, 600, 601, 602, 232, 233, 234, 235, 603, 604, 605, 606, 607, 608, 609, 610, 611, 612, 613, 614, 615, 616, 617, 618, 619, 620, 621, 622, 623, 624, 625, 626, 627, 241, 240, 239, 628, 629, 630, 631, 632, 633, 634, 635, 636, 637, 638, 639, 640, 641, 642, 643, 874, 875, 876, 877, 725, 726, 727, 728, 878, 879, 880, 881, 882, 883, 884, 885, 886, 887, 888, 889, 1068, 1069, 1070, 1071, 1072, 1073, 1074, 1075, 1076, 1077, 1078, 1079, 1080, 1081, 1082, 1083, 1084, 1085, 1086, 1087, 1088, 1089, 1090, 1091, 1092, 1093, 1094, 1095, 1096, 1097, 1098, 1099, 1100, 1101, 1102, 1103, 1104, 1105, 1106, 1107, 1108] (by decide +kernel) (by decide +kernel)
set_option maxRecDepth 20000 in
theorem gL_law_X7_linear : GoodIn wsL_law (wsV RL 107 RX7 yX7_linear wsX7_linear) := goodIn_app (goodIn_of _ (by decide +kernel)) ggL_law_X7_linear
set_option maxRecDepth 20000 in
theorem ggL_law_X6_part : GoodIn wsL_law wsX6_part := goodIn_r _ [893, 858, 859, 860, 2, 861, 26, 679, 682, 862, 680, 863, 691, 692, 693, 68, 694, 133, 120, 695, 696, 697, 698, 122, 134, 1057, 1058, 1059, 1060, 1061, 1062, 1063, 1064, 1065, 1066, 1067, 1122, 1123, 1124, 1125, 1126, 1127, 1128, 1129, 1130, 1131, 1141, 1142, 1143, 1144, 1145, 1146, 1147, 1148, 1149] (by decide +kernel) (by decide +kernel)
set_option maxRecDepth 20000 in
theorem gL_law_X6_part : GoodIn wsL_law (wsV RL 108 RX6 yX6_part wsX6_part) := goodIn_app (goodIn_of _ (by decide +kernel)) ggL_law_X6_part
set_option maxRecDepth 20000 in
theorem ggL_law_X7_part : GoodIn wsL_law wsX7_part := goodIn_r _ [897, 255, 581, 582, 583, 5, 584, 226, 579, 585, 586, 587, 588, 589, 590, 591, 592, 580, 236, 237, 593, 238, 594, 595, 596, 597, 598, 599, 600, 601, 602, 232, 233, 234, 235, 603, 604, 605, 606, 607, 608, 609, 610, 611, 612, 613, 614, 615, 616, 617, 618, 619, 620, 621, 622, 623, 624, 625, 626, 627, 241, 240, 239, 628, 629, 630, 631, 632, 633, 634, 635, 636, 637, 638, 639, 640, 641, 642, 643, 874, 875, 876, 877, 725, 726, 727, 728, 1068, 1069, 1070, 1071, 1072, 1073, 1074, 1075, 1076, 1077, 1078, 1079, 1080, 1081, 1082, 1083, 1084, 1085, 1086, 1087, 1088, 1089, 1090, 1091, 1092, 1093, 1094, 1095, 1096, 1097, 1098, 1099, 1100, 1101, 1102, 1103, 1104, 1105, 1106, 1107, 1108] (by decide +kernel) (by decide +kernel)
set_option maxRecDepth 20000 in
theorem gL_law_X7_part : GoodIn wsL_law (wsV RL 111 RX7 yX7_part wsX7_part) := goodIn_app (goodIn_of _ (by decide +kernel)) ggL_law_X7_part
set_option maxRecDepth 20000 in
theorem ggL_law_X6_greedy : GoodIn wsL_law wsX6_greedy := goodIn_r _ [901, 26, 679, 902, 862, 903, 863, 904, 1057, 1058, 1059, 1060, 1061, 1062, 1063, 1064, 1065, 1066, 1067, 1122, 1123, 1124, 1125, 1126, 1127, 1128, 1129, 1130, 1131, 1141, 1142, 1143, 1144, 1145, 1146, 1147, 1148, 1149] (by decide +kernel) (by decide +kernel)
set_option maxRecDepth 20000 in
theorem gL_law_X6_greedy : GoodIn wsL_law (wsV RL 112 RX6 yX6_greedy wsX6_greedy) := goodIn_app (goodIn_of _ (by decide +kernel)) ggL_law_X6_greedy
