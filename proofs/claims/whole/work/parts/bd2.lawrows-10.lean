set_option maxRecDepth 20000 in
theorem gr_X7_part_1 : GoodIn wsL_law (.code yX7_part cX7_part 7 (some .int) :: wsX7_part_r1) := goodIn_r _ [897, 255, 581, 582, 583, 5, 584, 226, 579, 585, 586, 587, 588, 589, 590, 591, 592, 580, 236, 237, 593, 238, 594, 595, 596] (by decide +kernel) (by decide +kernel)
set_option maxRecDepth 20000 in
theorem gr_X7_part_2 : GoodIn wsL_law wsX7_part_r2 := goodIn_r _ [597, 598, 599, 600, 601, 602, 232, 233, 234, 235, 603, 604, 605, 606, 607, 608, 609, 610, 611, 612, 613, 614, 615, 616] (by decide +kernel) (by decide +kernel)
set_option maxRecDepth 20000 in
theorem gr_X7_part_3 : GoodIn wsL_law wsX7_part_r3 := goodIn_r _ [617, 618, 619, 620, 621, 622, 623, 624, 625, 626, 627, 241, 240, 239, 628, 629, 630, 631, 632, 633, 634, 635, 636, 637] (by decide +kernel) (by decide +kernel)
set_option maxRecDepth 20000 in
theorem gr_X7_part_4 : GoodIn wsL_law wsX7_part_r4 := goodIn_r _ [638, 639, 640, 641, 642, 643, 874, 875, 876, 877, 725, 726, 727, 728] (by decide +kernel) (by decide +kernel)
set_option maxRecDepth 20000 in
theorem ggL_law_X7_part : GoodIn wsL_law wsX7_part := (goodIn_ca (goodIn_ca gr_X7_part_1 (goodIn_app gr_X7_part_2 (goodIn_app gr_X7_part_3 gr_X7_part_4))) gr_X70)
set_option maxRecDepth 20000 in
theorem gL_law_X7_part : GoodIn wsL_law (wsV RL 111 RX7 yX7_part wsX7_part) := goodIn_app (goodIn_of _ (by decide +kernel)) ggL_law_X7_part
set_option maxRecDepth 20000 in
theorem gr_X6_greedy_1 : GoodIn wsL_law (.code yX6_greedy cX6_greedy 10 (some .long) :: [.fieldLink RX6 30 "KnapsackCore" "core" "LKnapsackCore$Core;", .fieldLink RX6 157 "KnapsackCore$Core" "ranked" "LKnapsackCore$Ranked;", .fieldLink RX6 271 "KnapsackCore$Ranked" "items" "I", .fieldLink RX6 272 "KnapsackCore$Ranked" "weights" "[I", .fieldLink RX6 273 "KnapsackCore$Ranked" "room" "I", .fieldLink RX6 274 "KnapsackCore$Ranked" "profits" "[I", .constantLong RX6 275 (-1)]) := goodIn_r _ [901, 26, 679, 902, 862, 903, 863, 904] (by decide +kernel) (by decide +kernel)
set_option maxRecDepth 20000 in
theorem ggL_law_X6_greedy : GoodIn wsL_law wsX6_greedy := (goodIn_ca (goodIn_ca (goodIn_ca gr_X6_greedy_1 gr_read_X60) gr_read_X00) gr_read_X20)
set_option maxRecDepth 20000 in
theorem gL_law_X6_greedy : GoodIn wsL_law (wsV RL 112 RX6 yX6_greedy wsX6_greedy) := goodIn_app (goodIn_of _ (by decide +kernel)) ggL_law_X6_greedy
set_option maxRecDepth 20000 in
theorem gr_X7_greedy_1 : GoodIn wsL_law (.code yX7_greedy cX7_greedy 9 (some .long) :: wsX7_greedy_r1) := goodIn_r _ [908, 255, 457, 640, 602, 234, 589, 235, 446, 447, 5, 448, 581, 582, 583, 584, 226, 579, 585, 586, 587, 588, 590, 591, 592] (by decide +kernel) (by decide +kernel)
set_option maxRecDepth 20000 in
theorem gr_X7_greedy_2 : GoodIn wsL_law wsX7_greedy_r2 := goodIn_r _ [580, 236, 237, 593, 238, 594, 595, 596, 597, 598, 599, 600, 601, 232, 233, 603, 604, 605, 606, 607, 608, 609, 610, 611] (by decide +kernel) (by decide +kernel)
set_option maxRecDepth 20000 in
theorem gr_X7_greedy_3 : GoodIn wsL_law wsX7_greedy_r3 := goodIn_r _ [612, 613, 614, 615, 616, 617, 618, 619, 620, 621, 622, 623, 624, 625, 626, 627, 241, 240, 239, 628, 629, 630, 631, 632] (by decide +kernel) (by decide +kernel)
set_option maxRecDepth 20000 in
theorem gr_X7_greedy_4 : GoodIn wsL_law wsX7_greedy_r4 := goodIn_r _ [633, 634, 635, 636, 637, 638, 639, 641, 642, 643] (by decide +kernel) (by decide +kernel)
set_option maxRecDepth 20000 in
theorem ggL_law_X7_greedy : GoodIn wsL_law wsX7_greedy := (goodIn_ca (goodIn_ca gr_X7_greedy_1 (goodIn_app gr_X7_greedy_2 (goodIn_app gr_X7_greedy_3 gr_X7_greedy_4))) gr_X70)
set_option maxRecDepth 20000 in
theorem gL_law_X7_greedy : GoodIn wsL_law (wsV RL 115 RX7 yX7_greedy wsX7_greedy) := goodIn_app (goodIn_of _ (by decide +kernel)) ggL_law_X7_greedy
set_option maxRecDepth 20000 in
theorem gr_X6_swap_1 : GoodIn wsL_law (.code yX6_swap cX6_swap 7 (some .int) :: [.fieldLink RX6 10 "KnapsackCore" "now" "LKnapsackCore$State;", .fieldLink RX6 85 "KnapsackCore$State" "load" "LKnapsackCore$Load;", .fieldLink RX6 98 "KnapsackCore$Load" "items" "I", .fieldLink RX6 30 "KnapsackCore" "core" "LKnapsackCore$Core;", .fieldLink RX6 157 "KnapsackCore$Core" "ranked" "LKnapsackCore$Ranked;", .fieldLink RX6 274 "KnapsackCore$Ranked" "profits" "[I", .fieldLink RX6 232 "KnapsackCore$Ranked" "itemAt" "[I", .methodLink RX6 217 yX0_bestHas, .instanceMethod yX0_bestHas, .selects RX0 yX0_bestHas yX0_bestHas, .initialized RX0, .code yX0_bestHas cX0_bestHas 2 (some .boolean), .fieldLink RX0 12 "KnapsackCore$Core" "ranked" "LKnapsackCore$Ranked;", .fieldLink RX0 74 "KnapsackCore$Ranked" "items" "I", .fieldLink RX0 63 "KnapsackCore$Core" "bestBits" "J", .methodLink RX6 277 yX6_bestInsteadOf, .instanceMethod yX6_bestInsteadOf, .selects RX6 yX6_bestInsteadOf yX6_bestInsteadOf, .initialized RX6, .code yX6_bestInsteadOf cX6_bestInsteadOf 7 (some .int), .fieldLink RX6 273 "KnapsackCore$Ranked" "room" "I", .fieldLink RX6 184 "KnapsackCore$Core" "bestWeight" "I", .fieldLink RX6 272 "KnapsackCore$Ranked" "weights" "[I", .fieldLink RX6 271 "KnapsackCore$Ranked" "items" "I"]) := goodIn_r _ [912, 17, 96, 267, 26, 679, 863, 787, 759, 760, 761, 25, 762, 69, 173, 113, 913, 914, 915, 2, 916, 903, 686, 862, 902] (by decide +kernel) (by decide +kernel)
set_option maxRecDepth 20000 in
theorem ggL_law_X6_swap : GoodIn wsL_law wsX6_swap := (goodIn_ca (goodIn_ca (goodIn_ca (goodIn_ca (goodIn_ca gr_X6_swap_1 gr_read_X60) gr_read_X50) gr_read_X10) gr_read_X00) gr_read_X20)
set_option maxRecDepth 20000 in
theorem gL_law_X6_swap : GoodIn wsL_law (wsV RL 116 RX6 yX6_swap wsX6_swap) := goodIn_app (goodIn_of _ (by decide +kernel)) ggL_law_X6_swap
