set_option maxRecDepth 20000 in
theorem gr_X7_set_1 : GoodIn wsL_law (.code yX7_set cX7_set 3 (some .long) :: wsX7_set_r1) := goodIn_r _ [817, 580, 767, 255, 237, 238, 236, 581, 582, 583, 5, 584, 226, 579, 585, 586, 587, 588, 589, 590, 591, 592, 593, 594, 595] (by decide +kernel) (by decide +kernel)
set_option maxRecDepth 20000 in
theorem gr_X7_set_2 : GoodIn wsL_law wsX7_set_r2 := goodIn_r _ [596, 597, 598, 599, 600, 601, 602, 232, 233, 234, 235, 603, 604, 605, 606, 607, 608, 609, 610, 611, 612, 613, 614, 615] (by decide +kernel) (by decide +kernel)
set_option maxRecDepth 20000 in
theorem gr_X7_set_3 : GoodIn wsL_law wsX7_set_r3 := goodIn_r _ [616, 617, 618, 619, 620, 621, 622, 623, 624, 625, 626, 627, 241, 240, 239, 628, 629, 630, 631, 632, 633, 634, 635, 636] (by decide +kernel) (by decide +kernel)
set_option maxRecDepth 20000 in
theorem gr_X7_set_4 : GoodIn wsL_law wsX7_set_r4 := goodIn_r _ [637, 638, 639, 640, 641, 642, 643, 446, 447, 448, 818, 819, 820, 768, 769, 770] (by decide +kernel) (by decide +kernel)
set_option maxRecDepth 20000 in
theorem ggL_law_X7_set : GoodIn wsL_law wsX7_set := (goodIn_ca (goodIn_ca gr_X7_set_1 (goodIn_app gr_X7_set_2 (goodIn_app gr_X7_set_3 gr_X7_set_4))) gr_X70)
set_option maxRecDepth 20000 in
theorem gL_law_X7_set : GoodIn wsL_law (wsV RL 94 RX7 yX7_set wsX7_set) := goodIn_app (goodIn_of _ (by decide +kernel)) ggL_law_X7_set
set_option maxRecDepth 20000 in
theorem gr_X6_best_1 : GoodIn wsL_law (.code yX6_best cX6_best 1 (some .long) :: [.fieldLink RX6 30 "KnapsackCore" "core" "LKnapsackCore$Core;", .fieldLink RX6 255 "KnapsackCore$Core" "bestBits" "J"]) := goodIn_r _ [824, 26, 825] (by decide +kernel) (by decide +kernel)
set_option maxRecDepth 20000 in
theorem ggL_law_X6_best : GoodIn wsL_law wsX6_best := (goodIn_ca (goodIn_ca gr_X6_best_1 gr_read_X60) gr_read_X00)
set_option maxRecDepth 20000 in
theorem gL_law_X6_best : GoodIn wsL_law (wsV RL 95 RX6 yX6_best wsX6_best) := goodIn_app (goodIn_of _ (by decide +kernel)) ggL_law_X6_best
set_option maxRecDepth 20000 in
theorem gr_X7_best_1 : GoodIn wsL_law (.code yX7_best cX7_best 1 (some .long) :: wsX7_best_r1) := goodIn_r _ [829, 255, 595, 581, 582, 583, 5, 584, 226, 579, 585, 586, 587, 588, 589, 590, 591, 592, 580, 236, 237, 593, 238, 594, 596] (by decide +kernel) (by decide +kernel)
set_option maxRecDepth 20000 in
theorem gr_X7_best_2 : GoodIn wsL_law wsX7_best_r2 := goodIn_r _ [597, 598, 599, 600, 601, 602, 232, 233, 234, 235, 603, 604, 605, 606, 607, 608, 609, 610, 611, 612, 613, 614, 615, 616] (by decide +kernel) (by decide +kernel)
set_option maxRecDepth 20000 in
theorem gr_X7_best_3 : GoodIn wsL_law wsX7_best_r3 := goodIn_r _ [617, 618, 619, 620, 621, 622, 623, 624, 625, 626, 627, 241, 240, 239, 628, 629, 630, 631, 632, 633, 634, 635, 636, 637] (by decide +kernel) (by decide +kernel)
set_option maxRecDepth 20000 in
theorem gr_X7_best_4 : GoodIn wsL_law wsX7_best_r4 := goodIn_r _ [638, 639, 640, 641, 642, 643] (by decide +kernel) (by decide +kernel)
set_option maxRecDepth 20000 in
theorem ggL_law_X7_best : GoodIn wsL_law wsX7_best := (goodIn_ca (goodIn_ca gr_X7_best_1 (goodIn_app gr_X7_best_2 (goodIn_app gr_X7_best_3 gr_X7_best_4))) gr_X70)
set_option maxRecDepth 20000 in
theorem gL_law_X7_best : GoodIn wsL_law (wsV RL 99 RX7 yX7_best wsX7_best) := goodIn_app (goodIn_of _ (by decide +kernel)) ggL_law_X7_best
set_option maxRecDepth 20000 in
theorem gr_X6_share_1 : GoodIn wsL_law (.code yX6_share cX6_share 2 (some .int) :: [.fieldLink RX6 10 "KnapsackCore" "now" "LKnapsackCore$State;", .fieldLink RX6 85 "KnapsackCore$State" "load" "LKnapsackCore$Load;", .fieldLink RX6 207 "KnapsackCore$Load" "weights" "[I", .fieldLink RX6 211 "KnapsackCore$Load" "profits" "[I", .methodLink RX6 128 yX1_has, .instanceMethod yX1_has, .selects RX1 yX1_has yX1_has, .initialized RX1, .code yX1_has cX1_has 2 (some .boolean), .fieldLink RX1 25 "KnapsackCore$Load" "items" "I", .methodLink RX6 259 yX6_bitsOfFloat, .static yX6_bitsOfFloat, .initialized RX6, .code yX6_bitsOfFloat cX6_bitsOfFloat 4 (some .int), .constantFloat RX6 341 (1258291200)]) := goodIn_r _ [833, 17, 96, 756, 757, 549, 550, 551, 22, 552, 280, 834, 835, 2, 836, 837] (by decide +kernel) (by decide +kernel)
set_option maxRecDepth 20000 in
theorem ggL_law_X6_share : GoodIn wsL_law wsX6_share := (goodIn_ca (goodIn_ca (goodIn_ca gr_X6_share_1 gr_read_X60) gr_read_X50) gr_read_X10)
set_option maxRecDepth 20000 in
theorem gL_law_X6_share : GoodIn wsL_law (wsV RL 100 RX6 yX6_share wsX6_share) := goodIn_app (goodIn_of _ (by decide +kernel)) ggL_law_X6_share
