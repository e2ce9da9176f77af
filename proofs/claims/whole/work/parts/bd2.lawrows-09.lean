set_option maxRecDepth 20000 in
theorem gr_X7_share_1 : GoodIn wsL_law (.code yX7_share cX7_share 4 (some .int) :: [.fieldLink RX7 58 "KnapsackCoreModel" "raised" "I", .fieldLink RX7 7 "KnapsackCoreModel" "all" "[I", .methodLink RX7 257 yX7_isItem, .instanceMethod yX7_isItem, .selects RX7 yX7_isItem yX7_isItem, .initialized RX7, .code yX7_isItem cX7_isItem 2 (some .boolean), .methodLink RX7 88 yX7_in, .static yX7_in, .code yX7_in cX7_in 6 (some .boolean), .methodLink RX7 296 yJxf58ca_floatToIntBits_5c35a, .static yJxf58ca_floatToIntBits_5c35a, .initialized RJxf58ca, .code yJxf58ca_floatToIntBits_5c35a cJxf58ca_floatToIntBits_5c35a 1 (some .int), .methodLink RJxf58ca 74 ⟨"java/lang/Float", "floatToRawIntBits", "(F)I"⟩, .native ⟨"java/lang/Float", "floatToRawIntBits", "(F)I"⟩, .static ⟨"java/lang/Float", "floatToRawIntBits", "(F)I"⟩, .initialized "java/lang/Float", .constant RJxf58ca 77 (2143289344), .methodLink RJxf58ca 59 yJxf58ca_isNaN_12338, .static yJxf58ca_isNaN_12338, .code yJxf58ca_isNaN_12338 cJxf58ca_isNaN_12338 1 (some .boolean)]) := goodIn_r _ [841, 255, 226, 562, 563, 564, 5, 565, 446, 447, 448, 842, 843, 844, 845, 846, 847, 848, 849, 850, 851, 852, 853] (by decide +kernel) (by decide +kernel)
set_option maxRecDepth 20000 in
theorem ggL_law_X7_share : GoodIn wsL_law wsX7_share := (goodIn_ca gr_X7_share_1 gr_X70)
set_option maxRecDepth 20000 in
theorem gL_law_X7_share : GoodIn wsL_law (wsV RL 103 RX7 yX7_share wsX7_share) := goodIn_app (goodIn_of _ (by decide +kernel)) ggL_law_X7_share
set_option maxRecDepth 20000 in
theorem gr_X6_linear_1 : GoodIn wsL_law (.code yX6_linear cX6_linear 1 (some .long) :: wsX6_linear_r1) := goodIn_r _ [857, 858, 859, 860, 2, 861, 26, 679, 682, 862, 680, 863, 691, 692, 693, 68, 694, 133, 120, 695, 696, 697, 698, 122, 134] (by decide +kernel) (by decide +kernel)
set_option maxRecDepth 20000 in
theorem gr_X6_linear_2 : GoodIn wsL_law wsX6_linear_r2 := goodIn_r _ [864, 865, 866, 867, 868, 869] (by decide +kernel) (by decide +kernel)
set_option maxRecDepth 20000 in
theorem ggL_law_X6_linear : GoodIn wsL_law wsX6_linear := (goodIn_ca (goodIn_ca (goodIn_ca (goodIn_ca gr_X6_linear_1 gr_X6_linear_2) gr_read_X60) gr_read_X00) gr_read_X20)
set_option maxRecDepth 20000 in
theorem gL_law_X6_linear : GoodIn wsL_law (wsV RL 104 RX6 yX6_linear wsX6_linear) := goodIn_app (goodIn_of _ (by decide +kernel)) ggL_law_X6_linear
set_option maxRecDepth 20000 in
theorem gr_X7_linear_1 : GoodIn wsL_law (.code yX7_linear cX7_linear 1 (some .long) :: wsX7_linear_r1) := goodIn_r _ [873, 255, 581, 582, 583, 5, 584, 226, 579, 585, 586, 587, 588, 589, 590, 591, 592, 580, 236, 237, 593, 238, 594, 595, 596] (by decide +kernel) (by decide +kernel)
set_option maxRecDepth 20000 in
theorem gr_X7_linear_2 : GoodIn wsL_law wsX7_linear_r2 := goodIn_r _ [597, 598, 599, 600, 601, 602, 232, 233, 234, 235, 603, 604, 605, 606, 607, 608, 609, 610, 611, 612, 613, 614, 615, 616] (by decide +kernel) (by decide +kernel)
set_option maxRecDepth 20000 in
theorem gr_X7_linear_3 : GoodIn wsL_law wsX7_linear_r3 := goodIn_r _ [617, 618, 619, 620, 621, 622, 623, 624, 625, 626, 627, 241, 240, 239, 628, 629, 630, 631, 632, 633, 634, 635, 636, 637] (by decide +kernel) (by decide +kernel)
set_option maxRecDepth 20000 in
theorem gr_X7_linear_4 : GoodIn wsL_law wsX7_linear_r4 := goodIn_r _ [638, 639, 640, 641, 642, 643, 874, 875, 876, 877, 725, 726, 727, 728, 878, 879, 880, 881, 882, 883, 884, 885, 886, 887] (by decide +kernel) (by decide +kernel)
set_option maxRecDepth 20000 in
theorem gr_X7_linear_5 : GoodIn wsL_law wsX7_linear_r5 := goodIn_r _ [888, 889] (by decide +kernel) (by decide +kernel)
set_option maxRecDepth 20000 in
theorem ggL_law_X7_linear : GoodIn wsL_law wsX7_linear := (goodIn_ca (goodIn_ca gr_X7_linear_1 (goodIn_app gr_X7_linear_2 (goodIn_app gr_X7_linear_3 (goodIn_app gr_X7_linear_4 gr_X7_linear_5)))) gr_X70)
set_option maxRecDepth 20000 in
theorem gL_law_X7_linear : GoodIn wsL_law (wsV RL 107 RX7 yX7_linear wsX7_linear) := goodIn_app (goodIn_of _ (by decide +kernel)) ggL_law_X7_linear
set_option maxRecDepth 20000 in
theorem gr_X6_part_1 : GoodIn wsL_law (.code yX6_part cX6_part 3 (some .int) :: [.methodLink RX6 263 yX6_linearValue, .instanceMethod yX6_linearValue, .selects RX6 yX6_linearValue yX6_linearValue, .initialized RX6, .code yX6_linearValue cX6_linearValue 6 (some .double), .fieldLink RX6 30 "KnapsackCore" "core" "LKnapsackCore$Core;", .fieldLink RX6 157 "KnapsackCore$Core" "ranked" "LKnapsackCore$Ranked;", .fieldLink RX6 169 "KnapsackCore$Ranked" "breakProfit" "I", .fieldLink RX6 272 "KnapsackCore$Ranked" "weights" "[I", .fieldLink RX6 161 "KnapsackCore$Ranked" "breakPlace" "I", .fieldLink RX6 274 "KnapsackCore$Ranked" "profits" "[I", .methodLink RX6 225 yX2_breakIsItem, .instanceMethod yX2_breakIsItem, .selects RX2 yX2_breakIsItem yX2_breakIsItem, .initialized RX2, .code yX2_breakIsItem cX2_breakIsItem 1 (some .boolean), .fieldLink RX2 44 "KnapsackCore$Ranked" "breakPlace" "I", .fieldLink RX2 30 "KnapsackCore$Ranked" "items" "I", .methodLink RX6 327 yX2_roomLeft, .instanceMethod yX2_roomLeft, .selects RX2 yX2_roomLeft yX2_roomLeft, .code yX2_roomLeft cX2_roomLeft 1 (some .long), .fieldLink RX2 34 "KnapsackCore$Ranked" "room" "I", .fieldLink RX2 47 "KnapsackCore$Ranked" "breakWeight" "I"]) := goodIn_r _ [893, 858, 859, 860, 2, 861, 26, 679, 682, 862, 680, 863, 691, 692, 693, 68, 694, 133, 120, 695, 696, 697, 698, 122, 134] (by decide +kernel) (by decide +kernel)
set_option maxRecDepth 20000 in
theorem ggL_law_X6_part : GoodIn wsL_law wsX6_part := (goodIn_ca (goodIn_ca (goodIn_ca gr_X6_part_1 gr_read_X60) gr_read_X00) gr_read_X20)
set_option maxRecDepth 20000 in
theorem gL_law_X6_part : GoodIn wsL_law (wsV RL 108 RX6 yX6_part wsX6_part) := goodIn_app (goodIn_of _ (by decide +kernel)) ggL_law_X6_part
