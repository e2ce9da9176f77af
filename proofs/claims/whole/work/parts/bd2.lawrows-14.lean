set_option maxRecDepth 20000 in
theorem ggL_law_X7_ahead : GoodIn wsL_law wsX7_ahead := goodIn_r _ [1004, 255, 579, 580, 581, 582, 583, 5, 584, 226, 585, 586, 587, 588, 589, 590, 591, 592, 236, 237, 593, 238, 594, 595, 596, 597, 598, 599, 600, 601, 602, 232, 233, 234, 235, 603, 604, 605, 606, 607, 608, 609, 610, 611, 612, 613, 614, 615, 616, 617, 618, 619, 620, 621, 622, 623, 624, 625, 626, 627, 241, 240, 239, 628, 629, 630, 631, 632, 633, 634, 635, 636, 637, 638, 639, 640, 641, 642, 643, 644, 645, 646, 647, 1068, 1069, 1070, 1071, 1072, 1073, 1074, 1075, 1076, 1077, 1078, 1079, 1080, 1081, 1082, 1083, 1084, 1085, 1086, 1087, 1088, 1089, 1090, 1091, 1092, 1093, 1094, 1095, 1096, 1097, 1098, 1099, 1100, 1101, 1102, 1103, 1104, 1105, 1106, 1107, 1108] (by decide +kernel) (by decide +kernel)
set_option maxRecDepth 20000 in
theorem gL_law_X7_ahead : GoodIn wsL_law (wsV RL 143 RX7 yX7_ahead wsX7_ahead) := goodIn_app (goodIn_of _ (by decide +kernel)) ggL_law_X7_ahead
set_option maxRecDepth 20000 in
theorem ggL_law_X6_shelve : GoodIn wsL_law wsX6_shelve := goodIn_r _ [1008, 26, 571, 17, 96, 1009, 799, 756, 1010, 800, 757, 1011, 1012, 2, 1013, 802, 803, 804, 35, 805, 140, 549, 550, 551, 22, 552, 280, 1057, 1058, 1059, 1060, 1061, 1062, 1063, 1064, 1065, 1066, 1067, 1122, 1123, 1124, 1125, 1126, 1127, 1128, 1129, 1130, 1131, 1109, 1110, 1111, 1112, 1113, 1114, 1115, 1137, 1138, 1139, 1140, 1116, 1117, 1118, 1119, 1120, 1121] (by decide +kernel) (by decide +kernel)
set_option maxRecDepth 20000 in
theorem gL_law_X6_shelve : GoodIn wsL_law (wsV RL 144 RX6 yX6_shelve wsX6_shelve) := goodIn_app (goodIn_of _ (by decide +kernel)) ggL_law_X6_shelve
set_option maxRecDepth 20000 in
theorem ggL_law_X7_shelve : GoodIn wsL_law wsX7_shelve := goodIn_r _ [1017, 255, 580, 226, 237, 238, 581, 582, 583, 5, 584, 579, 585, 586, 587, 588, 589, 590, 591, 592, 236, 593, 594, 595, 596, 597, 598, 599, 600, 601, 602, 232, 233, 234, 235, 603, 604, 605, 606, 607, 608, 609, 610, 611, 612, 613, 614, 615, 616, 617, 618, 619, 620, 621, 622, 623, 624, 625, 626, 627, 241, 240, 239, 628, 629, 630, 631, 632, 633, 634, 635, 636, 637, 638, 639, 640, 641, 642, 643, 1018, 1019, 1020, 945, 446, 447, 448, 562, 563, 564, 565, 1068, 1069, 1070, 1071, 1072, 1073, 1074, 1075, 1076, 1077, 1078, 1079, 1080, 1081, 1082, 1083, 1084, 1085, 1086, 1087, 1088, 1089, 1090, 1091, 1092, 1093, 1094, 1095, 1096, 1097, 1098, 1099, 1100, 1101, 1102, 1103, 1104, 1105, 1106, 1107, 1108] (by decide +kernel) (by decide +kernel)
set_option maxRecDepth 20000 in
theorem gL_law_X7_shelve : GoodIn wsL_law (wsV RL 148 RX7 yX7_shelve wsX7_shelve) := goodIn_app (goodIn_of _ (by decide +kernel)) ggL_law_X7_shelve
set_option maxRecDepth 20000 in
theorem ggL_law_X6_shelved : GoodIn wsL_law wsX6_shelved := goodIn_r _ [1024, 17, 1010, 1009, 1011, 1012, 2, 1013, 1057, 1058, 1059, 1060, 1061, 1062, 1063, 1064, 1065, 1066, 1067, 1109, 1110, 1111, 1112, 1113, 1114, 1115] (by decide +kernel) (by decide +kernel)
set_option maxRecDepth 20000 in
theorem gL_law_X6_shelved : GoodIn wsL_law (wsV RL 149 RX6 yX6_shelved wsX6_shelved) := goodIn_app (goodIn_of _ (by decide +kernel)) ggL_law_X6_shelved
