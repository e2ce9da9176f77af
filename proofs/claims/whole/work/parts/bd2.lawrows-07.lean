set_option maxRecDepth 20000 in
theorem gr_X7_reduced_1 : GoodIn wsL_law (.code yX7_reduced cX7_reduced 2 (some .long) :: wsX7_reduced_r1) := goodIn_r _ [782, 255, 233, 581, 582, 583, 5, 584, 226, 579, 585, 586, 587, 588, 589, 590, 591, 592, 580, 236, 237, 593, 238, 594, 595] (by decide +kernel) (by decide +kernel)
set_option maxRecDepth 20000 in
theorem gr_X7_reduced_2 : GoodIn wsL_law wsX7_reduced_r2 := goodIn_r _ [596, 597, 598, 599, 600, 601, 602, 232, 234, 235, 603, 604, 605, 606, 607, 608, 609, 610, 611, 612, 613, 614, 615, 616] (by decide +kernel) (by decide +kernel)
set_option maxRecDepth 20000 in
theorem gr_X7_reduced_3 : GoodIn wsL_law wsX7_reduced_r3 := goodIn_r _ [617, 618, 619, 620, 621, 622, 623, 624, 625, 626, 627, 241, 240, 239, 628, 629, 630, 631, 632, 633, 634, 635, 636, 637] (by decide +kernel) (by decide +kernel)
set_option maxRecDepth 20000 in
theorem gr_X7_reduced_4 : GoodIn wsL_law wsX7_reduced_r4 := goodIn_r _ [638, 639, 640, 641, 642, 643, 562, 563, 564, 565, 446, 447, 448, 725, 726, 727, 728, 737, 738, 739, 740] (by decide +kernel) (by decide +kernel)
set_option maxRecDepth 20000 in
theorem ggL_law_X7_reduced : GoodIn wsL_law wsX7_reduced := (goodIn_ca (goodIn_ca gr_X7_reduced_1 (goodIn_app gr_X7_reduced_2 (goodIn_app gr_X7_reduced_3 gr_X7_reduced_4))) gr_X70)
set_option maxRecDepth 20000 in
theorem gL_law_X7_reduced : GoodIn wsL_law (wsV RL 87 RX7 yX7_reduced wsX7_reduced) := goodIn_app (goodIn_of _ (by decide +kernel)) ggL_law_X7_reduced
set_option maxRecDepth 20000 in
theorem gr_X6_order_1 : GoodIn wsL_law (.code yX6_order cX6_order 2 (some .int) :: [.fieldLink RX6 10 "KnapsackCore" "now" "LKnapsackCore$State;", .fieldLink RX6 85 "KnapsackCore$State" "load" "LKnapsackCore$Load;", .fieldLink RX6 30 "KnapsackCore" "core" "LKnapsackCore$Core;", .fieldLink RX6 157 "KnapsackCore$Core" "ranked" "LKnapsackCore$Ranked;", .fieldLink RX6 232 "KnapsackCore$Ranked" "itemAt" "[I", .methodLink RX6 128 yX1_has, .instanceMethod yX1_has, .selects RX1 yX1_has yX1_has, .initialized RX1, .code yX1_has cX1_has 2 (some .boolean), .fieldLink RX1 25 "KnapsackCore$Load" "items" "I"]) := goodIn_r _ [786, 17, 96, 26, 679, 787, 549, 550, 551, 22, 552, 280] (by decide +kernel) (by decide +kernel)
set_option maxRecDepth 20000 in
theorem ggL_law_X6_order : GoodIn wsL_law wsX6_order := (goodIn_ca (goodIn_ca (goodIn_ca (goodIn_ca (goodIn_ca gr_X6_order_1 gr_read_X60) gr_read_X50) gr_read_X00) gr_read_X20) gr_read_X10)
set_option maxRecDepth 20000 in
theorem gL_law_X6_order : GoodIn wsL_law (wsV RL 88 RX6 yX6_order wsX6_order) := goodIn_app (goodIn_of _ (by decide +kernel)) ggL_law_X6_order
set_option maxRecDepth 20000 in
theorem gr_X7_order_1 : GoodIn wsL_law (.code yX7_order cX7_order 2 (some .int) :: wsX7_order_r1) := goodIn_r _ [791, 255, 602, 232, 581, 582, 583, 5, 584, 226, 579, 585, 586, 587, 588, 589, 590, 591, 592, 580, 236, 237, 593, 238, 594] (by decide +kernel) (by decide +kernel)
set_option maxRecDepth 20000 in
theorem gr_X7_order_2 : GoodIn wsL_law wsX7_order_r2 := goodIn_r _ [595, 596, 597, 598, 599, 600, 601, 233, 234, 235, 603, 604, 605, 606, 607, 608, 609, 610, 611, 612, 613, 614, 615, 616] (by decide +kernel) (by decide +kernel)
set_option maxRecDepth 20000 in
theorem gr_X7_order_3 : GoodIn wsL_law wsX7_order_r3 := goodIn_r _ [617, 618, 619, 620, 621, 622, 623, 624, 625, 626, 627, 241, 240, 239, 628, 629, 630, 631, 632, 633, 634, 635, 636, 637] (by decide +kernel) (by decide +kernel)
set_option maxRecDepth 20000 in
theorem gr_X7_order_4 : GoodIn wsL_law wsX7_order_r4 := goodIn_r _ [638, 639, 640, 641, 642, 643, 446, 447, 448] (by decide +kernel) (by decide +kernel)
set_option maxRecDepth 20000 in
theorem ggL_law_X7_order : GoodIn wsL_law wsX7_order := (goodIn_ca (goodIn_ca gr_X7_order_1 (goodIn_app gr_X7_order_2 (goodIn_app gr_X7_order_3 gr_X7_order_4))) gr_X70)
set_option maxRecDepth 20000 in
theorem gL_law_X7_order : GoodIn wsL_law (wsV RL 91 RX7 yX7_order wsX7_order) := goodIn_app (goodIn_of _ (by decide +kernel)) ggL_law_X7_order
set_option maxRecDepth 20000 in
theorem gr_L_set_1 : GoodIn wsL_law (.codeWith yL_set cL_set 5 (some .int) [(0, 9, 12, 13)] :: wsL_set_r1) := goodIn_r _ [794, 749, 795, 796, 797, 2, 798, 754, 755, 26, 571, 799, 800, 801, 802, 803, 804, 35, 805, 140, 806, 206, 207, 25, 208] (by decide +kernel) (by decide +kernel)
set_option maxRecDepth 20000 in
theorem gr_L_set_2 : GoodIn wsL_law wsL_set_r2 := goodIn_r _ [69, 200, 71, 194, 106, 209, 193, 107, 210, 211, 212, 68, 213, 120, 78, 79, 214, 215, 216, 217, 807, 808, 809, 810] (by decide +kernel) (by decide +kernel)
set_option maxRecDepth 20000 in
theorem gr_L_set_3 : GoodIn wsL_law wsL_set_r3 := goodIn_r _ [811, 812, 813] (by decide +kernel) (by decide +kernel)
set_option maxRecDepth 20000 in
theorem ggL_law_L_set : GoodIn wsL_law wsL_set := goodIn_ca (goodIn_ca (goodIn_ca (goodIn_ca (goodIn_ca (goodIn_ca gr_L_set_1 (goodIn_app gr_L_set_2 gr_L_set_3)) gr_read_X60) gr_read_X00) gr_read_X40) gr_read_X20) (goodIn_sub (fun _ h => List.mem_append_right _ h) (by decide +kernel))
set_option maxRecDepth 20000 in
theorem gL_law_L_set : GoodIn wsL_law (va_wsS RL 92 yL_set wsL_set) := goodIn_app (goodIn_of _ (by decide +kernel)) ggL_law_L_set
