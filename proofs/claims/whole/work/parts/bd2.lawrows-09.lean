set_option maxRecDepth 20000 in
theorem ggL_law_X7_share : GoodIn wsL_law wsX7_share := goodIn_r _ [841, 255, 226, 562, 563, 564, 5, 565, 446, 447, 448, 842, 843, 844, 845, 846, 847, 848, 849, 850, 851, 852, 853, 1068, 1069, 1070, 1071, 1072, 1073, 1074, 1075, 1076, 1077, 1078, 1079, 1080, 1081, 1082, 1083, 1084, 1085, 1086, 1087, 1088, 1089, 1090, 1091, 1092, 1093, 1094, 1095, 1096, 1097, 1098, 1099, 1100, 1101, 1102, 1103, 1104, 1105, 1106, 1107, 1108] (by decide +kernel) (by decide +kernel)
set_option maxRecDepth 20000 in
theorem gL_law_X7_share : GoodIn wsL_law (wsV RL 103 RX7 yX7_share wsX7_share) := goodIn_app (goodIn_of _ (by decide +kernel)) ggL_law_X7_share
set_option maxRecDepth 20000 in
theorem ggL_law_X6_linear : GoodIn wsL_law wsX6_linear := goodIn_r _ [857, 858, 859, 860, 2, 861, 26, 679, 682, 862, 680, 863, 691, 692, 693, 68, 694, 133, 120, 695, 696, 697, 698, 122, 134, 864, 865, 866, 867, 868, 869, 1057, 1058, 1059, 1060, 1061, 1062, 1063, 1064, 1065, 1066, 1067, 1122, 1123, 1124, 1125, 1126, 1127, 1128, 1129, 1130, 1131, 1141, 1142, 1143, 1144, 1145, 1146, 1147, 1148, 1149] (by decide +kernel) (by decide +kernel)
set_option maxRecDepth 20000 in
theorem gL_law_X6_linear : GoodIn wsL_law (wsV RL 104 RX6 yX6_linear wsX6_linear) := goodIn_app (goodIn_of _ (by decide +kernel)) ggL_law_X6_linear
set_option maxRecDepth 20000 in
theorem ggL_law_X7_linear : GoodIn wsL_law wsX7_linear := goodIn_r _ [873, 255, 581, 582, 583, 5, 584, 226, 579, 585, 586, 587, 588, 589, 590, 591, 592, 580, 236, 237, 593, 238, 594, 595, 596, 597, 598, 599, 600, 601, 602, 232, 233, 234, 235, 603, 604, 605, 606, 607, 608, 609, 610, 611, 612, 613, 614, 615, 616, 617, 618, 619, 620, 621, 622, 623, 624, 625, 626, 627, 241, 240, 239, 628, 629, 630, 631, 632, 633, 634, 635, 636, 637, 638, 639, 640, 641, 642, 643, 874, 875, 876, 877, 725, 726, 727, 728, 878, 879, 880, 881, 882, 883, 884, 885, 886, 887, 888, 889, 1068, 1069, 1070, 1071, 1072, 1073, 1074, 1075, 1076, 1077, 1078, 1079, 1080, 1081, 1082, 1083, 1084, 1085, 1086, 1087, 1088, 1089, 1090, 1091, 1092, 1093, 1094, 1095, 1096, 1097, 1098, 1099, 1100, 1101, 1102, 1103, 1104, 1105, 1106, 1107, 1108] (by decide +kernel) (by decide +kernel)
set_option maxRecDepth 20000 in
theorem gL_law_X7_linear : GoodIn wsL_law (wsV RL 107 RX7 yX7_linear wsX7_linear) := goodIn_app (goodIn_of _ (by decide +kernel)) ggL_law_X7_linear
set_option maxRecDepth 20000 in
theorem ggL_law_X6_part : GoodIn wsL_law wsX6_part := goodIn_r _ [893, 858, 859, 860, 2, 861, 26, 679, 682, 862, 680, 863, 691, 692, 693, 68, 694, 133, 120, 695, 696, 697, 698, 122, 134, 1057, 1058, 1059, 1060, 1061, 1062, 1063, 1064, 1065, 1066, 1067, 1122, 1123, 1124, 1125, 1126, 1127, 1128, 1129, 1130, 1131, 1141, 1142, 1143, 1144, 1145, 1146, 1147, 1148, 1149] (by decide +kernel) (by decide +kernel)
set_option maxRecDepth 20000 in
theorem gL_law_X6_part : GoodIn wsL_law (wsV RL 108 RX6 yX6_part wsX6_part) := goodIn_app (goodIn_of _ (by decide +kernel)) ggL_law_X6_part
