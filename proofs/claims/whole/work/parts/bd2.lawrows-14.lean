set_option maxRecDepth 20000 in
theorem gr_X7_ahead_1 : GoodIn wsL_law (.code yX7_ahead cX7_ahead 5 (some .int) :: wsX7_ahead_r1) := goodIn_r _ [1004, 255, 579, 580, 581, 582, 583, 5, 584, 226, 585, 586, 587, 588, 589, 590, 591, 592, 236, 237, 593, 238, 594, 595, 596] (by decide +kernel) (by decide +kernel)
set_option maxRecDepth 20000 in
theorem gr_X7_ahead_2 : GoodIn wsL_law wsX7_ahead_r2 := goodIn_r _ [597, 598, 599, 600, 601, 602, 232, 233, 234, 235, 603, 604, 605, 606, 607, 608, 609, 610, 611, 612, 613, 614, 615, 616] (by decide +kernel) (by decide +kernel)
set_option maxRecDepth 20000 in
theorem gr_X7_ahead_3 : GoodIn wsL_law wsX7_ahead_r3 := goodIn_r _ [617, 618, 619, 620, 621, 622, 623, 624, 625, 626, 627, 241, 240, 239, 628, 629, 630, 631, 632, 633, 634, 635, 636, 637] (by decide +kernel) (by decide +kernel)
set_option maxRecDepth 20000 in
theorem gr_X7_ahead_4 : GoodIn wsL_law wsX7_ahead_r4 := goodIn_r _ [638, 639, 640, 641, 642, 643, 644, 645, 646, 647] (by decide +kernel) (by decide +kernel)
set_option maxRecDepth 20000 in
theorem ggL_law_X7_ahead : GoodIn wsL_law wsX7_ahead := (goodIn_ca (goodIn_ca gr_X7_ahead_1 (goodIn_app gr_X7_ahead_2 (goodIn_app gr_X7_ahead_3 gr_X7_ahead_4))) gr_X70)
set_option maxRecDepth 20000 in
theorem gL_law_X7_ahead : GoodIn wsL_law (wsV RL 143 RX7 yX7_ahead wsX7_ahead) := goodIn_app (goodIn_of _ (by decide +kernel)) ggL_law_X7_ahead
set_option maxRecDepth 20000 in
theorem gr_X6_shelve_1 : GoodIn wsL_law (.code yX6_shelve cX6_shelve 6 (some .int) :: wsX6_shelve_r1) := goodIn_r _ [1008, 26, 571, 17, 96, 1009, 799, 756, 1010, 800, 757, 1011, 1012, 2, 1013, 802, 803, 804, 35, 805, 140, 549, 550, 551, 22] (by decide +kernel) (by decide +kernel)
set_option maxRecDepth 20000 in
theorem gr_X6_shelve_2 : GoodIn wsL_law wsX6_shelve_r2 := goodIn_r _ [552, 280] (by decide +kernel) (by decide +kernel)
set_option maxRecDepth 20000 in
theorem ggL_law_X6_shelve : GoodIn wsL_law wsX6_shelve := (goodIn_ca (goodIn_ca (goodIn_ca (goodIn_ca (goodIn_ca (goodIn_ca gr_X6_shelve_1 gr_X6_shelve_2) gr_read_X60) gr_read_X00) gr_read_X50) gr_read_X40) gr_read_X10)
set_option maxRecDepth 20000 in
theorem gL_law_X6_shelve : GoodIn wsL_law (wsV RL 144 RX6 yX6_shelve wsX6_shelve) := goodIn_app (goodIn_of _ (by decide +kernel)) ggL_law_X6_shelve
set_option maxRecDepth 20000 in
theorem gr_X7_shelve_1 : GoodIn wsL_law (.code yX7_shelve cX7_shelve 6 (some .int) :: wsX7_shelve_r1) := goodIn_r _ [1017, 255, 580, 226, 237, 238, 581, 582, 583, 5, 584, 579, 585, 586, 587, 588, 589, 590, 591, 592, 236, 593, 594, 595, 596] (by decide +kernel) (by decide +kernel)
set_option maxRecDepth 20000 in
theorem gr_X7_shelve_2 : GoodIn wsL_law wsX7_shelve_r2 := goodIn_r _ [597, 598, 599, 600, 601, 602, 232, 233, 234, 235, 603, 604, 605, 606, 607, 608, 609, 610, 611, 612, 613, 614, 615, 616] (by decide +kernel) (by decide +kernel)
set_option maxRecDepth 20000 in
theorem gr_X7_shelve_3 : GoodIn wsL_law wsX7_shelve_r3 := goodIn_r _ [617, 618, 619, 620, 621, 622, 623, 624, 625, 626, 627, 241, 240, 239, 628, 629, 630, 631, 632, 633, 634, 635, 636, 637] (by decide +kernel) (by decide +kernel)
set_option maxRecDepth 20000 in
theorem gr_X7_shelve_4 : GoodIn wsL_law wsX7_shelve_r4 := goodIn_r _ [638, 639, 640, 641, 642, 643, 1018, 1019, 1020, 945, 446, 447, 448, 562, 563, 564, 565] (by decide +kernel) (by decide +kernel)
set_option maxRecDepth 20000 in
theorem ggL_law_X7_shelve : GoodIn wsL_law wsX7_shelve := (goodIn_ca (goodIn_ca gr_X7_shelve_1 (goodIn_app gr_X7_shelve_2 (goodIn_app gr_X7_shelve_3 gr_X7_shelve_4))) gr_X70)
set_option maxRecDepth 20000 in
theorem gL_law_X7_shelve : GoodIn wsL_law (wsV RL 148 RX7 yX7_shelve wsX7_shelve) := goodIn_app (goodIn_of _ (by decide +kernel)) ggL_law_X7_shelve
set_option maxRecDepth 20000 in
theorem gr_X6_shelved_1 : GoodIn wsL_law (.code yX6_shelved cX6_shelved 5 (some .int) :: [.fieldLink RX6 10 "KnapsackCore" "now" "LKnapsackCore$State;", .fieldLink RX6 315 "KnapsackCore$State" "shelfProfits" "[I", .fieldLink RX6 312 "KnapsackCore$State" "shelfWeights" "[I", .methodLink RX6 309 yX6_isShelfPlace, .static yX6_isShelfPlace, .initialized RX6, .code yX6_isShelfPlace cX6_isShelfPlace 2 (some .boolean)]) := goodIn_r _ [1024, 17, 1010, 1009, 1011, 1012, 2, 1013] (by decide +kernel) (by decide +kernel)
set_option maxRecDepth 20000 in
theorem ggL_law_X6_shelved : GoodIn wsL_law wsX6_shelved := (goodIn_ca (goodIn_ca gr_X6_shelved_1 gr_read_X60) gr_read_X50)
set_option maxRecDepth 20000 in
theorem gL_law_X6_shelved : GoodIn wsL_law (wsV RL 149 RX6 yX6_shelved wsX6_shelved) := goodIn_app (goodIn_of _ (by decide +kernel)) ggL_law_X6_shelved
