set_option maxRecDepth 20000 in
theorem gr_X7_with_1 : GoodIn wsL_law (.code yX7_with cX7_with 4 (some .int) :: wsX7_with_r1) := goodIn_r _ [985, 255, 226, 640, 562, 563, 564, 5, 565, 446, 447, 448, 966, 967, 968, 969, 597, 585, 586, 587, 588, 589, 590, 591, 592] (by decide +kernel) (by decide +kernel)
set_option maxRecDepth 20000 in
theorem gr_X7_with_2 : GoodIn wsL_law wsX7_with_r2 := goodIn_r _ [579, 580, 236, 237, 593, 238, 594, 595, 596, 598, 599, 600, 601, 602, 232, 233, 234, 235, 603, 604, 605, 606, 607, 608] (by decide +kernel) (by decide +kernel)
set_option maxRecDepth 20000 in
theorem gr_X7_with_3 : GoodIn wsL_law wsX7_with_r3 := goodIn_r _ [609, 610, 663, 664, 665, 666, 644, 645, 646, 647, 611, 612, 613, 614, 615, 616, 617, 618, 619, 620, 621, 622, 623, 624] (by decide +kernel) (by decide +kernel)
set_option maxRecDepth 20000 in
theorem gr_X7_with_4 : GoodIn wsL_law wsX7_with_r4 := goodIn_r _ [625, 626, 627, 241, 240, 239, 628, 629, 630, 631, 632, 633, 634, 635, 636, 637, 638, 639, 641, 642, 643] (by decide +kernel) (by decide +kernel)
set_option maxRecDepth 20000 in
theorem ggL_law_X7_with : GoodIn wsL_law wsX7_with := (goodIn_ca (goodIn_ca gr_X7_with_1 (goodIn_app gr_X7_with_2 (goodIn_app gr_X7_with_3 gr_X7_with_4))) gr_X70)
set_option maxRecDepth 20000 in
theorem gL_law_X7_with : GoodIn wsL_law (wsV RL 135 RX7 yX7_with wsX7_with) := goodIn_app (goodIn_of _ (by decide +kernel)) ggL_law_X7_with
set_option maxRecDepth 20000 in
theorem gr_X6_least_1 : GoodIn wsL_law (.code yX6_least cX6_least 7 (some .int) :: wsX6_least_r1) := goodIn_r _ [989, 27, 17, 96, 374, 990, 991, 152, 992, 412, 413, 414, 22, 415, 54, 280, 416, 155, 156, 157, 55, 56, 57, 281, 715] (by decide +kernel) (by decide +kernel)
set_option maxRecDepth 20000 in
theorem gr_X6_least_2 : GoodIn wsL_law wsX6_least_r2 := goodIn_r _ [385, 386, 387, 388, 389, 390, 391, 958, 959, 960, 2, 961, 493, 28, 685, 99, 100, 101, 25, 102, 69, 103, 104, 105] (by decide +kernel) (by decide +kernel)
set_option maxRecDepth 20000 in
theorem gr_X6_least_3 : GoodIn wsL_law wsX6_least_r3 := goodIn_r _ [106, 107, 108, 109, 110, 111, 112, 113, 71, 114, 115, 116, 117, 68, 118, 119, 120, 121, 122, 76, 77, 78, 123, 79] (by decide +kernel) (by decide +kernel)
set_option maxRecDepth 20000 in
theorem gr_X6_least_4 : GoodIn wsL_law wsX6_least_r4 := goodIn_r _ [124, 125, 126, 127, 128, 129, 130, 131, 132, 133, 134, 135, 136, 137, 138, 35, 139, 140, 83, 84, 85, 141, 142, 60] (by decide +kernel) (by decide +kernel)
set_option maxRecDepth 20000 in
theorem gr_X6_least_5 : GoodIn wsL_law wsX6_least_r5 := goodIn_r _ [143, 144, 145, 146, 147, 148, 149, 46, 150, 151, 153, 154, 158, 159, 160, 161, 162, 163, 164, 6, 652, 653, 654, 655] (by decide +kernel) (by decide +kernel)
set_option maxRecDepth 20000 in
theorem gr_X6_least_6 : GoodIn wsL_law wsX6_least_r6 := goodIn_r _ [656, 657, 658, 169, 170, 171, 172, 173, 72, 174, 175, 176, 177, 178, 179, 180, 181, 182, 183, 184, 185, 186, 187, 188] (by decide +kernel) (by decide +kernel)
set_option maxRecDepth 20000 in
theorem gr_X6_least_7 : GoodIn wsL_law wsX6_least_r7 := goodIn_r _ [189, 190, 191, 192, 193, 194, 195, 196, 197, 198, 199, 200, 201, 202, 203, 204, 205, 206, 207, 208, 209, 210, 211, 212] (by decide +kernel) (by decide +kernel)
set_option maxRecDepth 20000 in
theorem gr_X6_least_8 : GoodIn wsL_law wsX6_least_r8 := goodIn_r _ [213, 214, 215, 216, 217, 218, 219, 220, 221, 573] (by decide +kernel) (by decide +kernel)
set_option maxRecDepth 20000 in
theorem ggL_law_X6_least : GoodIn wsL_law wsX6_least := (goodIn_ca (goodIn_ca (goodIn_ca (goodIn_ca (goodIn_ca (goodIn_ca (goodIn_ca gr_X6_least_1 (goodIn_app gr_X6_least_2 (goodIn_app gr_X6_least_3 (goodIn_app gr_X6_least_4 (goodIn_app gr_X6_least_5 (goodIn_app gr_X6_least_6 (goodIn_app gr_X6_least_7 gr_X6_least_8))))))) gr_read_X60) gr_read_X50) gr_read_X10) gr_read_X00) gr_read_X20) gr_read_X40)
set_option maxRecDepth 20000 in
theorem gL_law_X6_least : GoodIn wsL_law (wsV RL 136 RX6 yX6_least wsX6_least) := goodIn_app (goodIn_of _ (by decide +kernel)) ggL_law_X6_least
set_option maxRecDepth 20000 in
theorem gr_X7_least_1 : GoodIn wsL_law (.code yX7_least cX7_least 10 (some .int) :: wsX7_least_r1) := goodIn_r _ [996, 255, 456, 457, 640, 541, 542, 543, 5, 544, 226, 966, 967, 968, 969, 597, 585, 586, 587, 588, 589, 590, 591, 592, 579] (by decide +kernel) (by decide +kernel)
set_option maxRecDepth 20000 in
theorem gr_X7_least_2 : GoodIn wsL_law wsX7_least_r2 := goodIn_r _ [580, 236, 237, 593, 238, 594, 595, 596, 598, 599, 600, 601, 602, 232, 233, 234, 235, 603, 604, 605, 606, 607, 608, 609] (by decide +kernel) (by decide +kernel)
set_option maxRecDepth 20000 in
theorem gr_X7_least_3 : GoodIn wsL_law wsX7_least_r3 := goodIn_r _ [610, 663, 664, 665, 666, 644, 645, 646, 647, 611, 612, 613, 614, 615, 616, 617, 618, 619, 620, 621, 622, 623, 624, 625] (by decide +kernel) (by decide +kernel)
set_option maxRecDepth 20000 in
theorem gr_X7_least_4 : GoodIn wsL_law wsX7_least_r4 := goodIn_r _ [626, 627, 241, 240, 239, 628, 629, 630, 631, 632, 633, 634, 635, 636, 637, 638, 639, 641, 642, 643] (by decide +kernel) (by decide +kernel)
set_option maxRecDepth 20000 in
theorem ggL_law_X7_least : GoodIn wsL_law wsX7_least := (goodIn_ca (goodIn_ca gr_X7_least_1 (goodIn_app gr_X7_least_2 (goodIn_app gr_X7_least_3 gr_X7_least_4))) gr_X70)
set_option maxRecDepth 20000 in
theorem gL_law_X7_least : GoodIn wsL_law (wsV RL 139 RX7 yX7_least wsX7_least) := goodIn_app (goodIn_of _ (by decide +kernel)) ggL_law_X7_least
set_option maxRecDepth 20000 in
theorem gr_X6_ahead_1 : GoodIn wsL_law (.code yX6_ahead cX6_ahead 3 (some .int) :: wsX6_ahead_r1) := goodIn_r _ [1000, 28, 17, 96, 26, 570, 99, 100, 101, 25, 102, 69, 103, 104, 105, 106, 107, 108, 109, 110, 111, 112, 113, 71, 114] (by decide +kernel) (by decide +kernel)
set_option maxRecDepth 20000 in
theorem gr_X6_ahead_2 : GoodIn wsL_law wsX6_ahead_r2 := goodIn_r _ [115, 116, 117, 68, 118, 119, 120, 121, 122, 76, 77, 78, 123, 79, 124, 125, 126, 127, 22, 128, 55, 54, 129, 130] (by decide +kernel) (by decide +kernel)
set_option maxRecDepth 20000 in
theorem gr_X6_ahead_3 : GoodIn wsL_law wsX6_ahead_r3 := goodIn_r _ [131, 132, 133, 134, 135, 136, 137, 138, 35, 139, 140, 83, 84, 85, 141, 142, 60, 143, 144, 145, 146, 147, 148, 149] (by decide +kernel) (by decide +kernel)
set_option maxRecDepth 20000 in
theorem gr_X6_ahead_4 : GoodIn wsL_law wsX6_ahead_r4 := goodIn_r _ [46, 150, 151, 152, 153, 154, 155, 156, 157, 158, 159, 160, 161, 162, 163, 164, 6, 165, 166, 167, 168, 169, 170, 171] (by decide +kernel) (by decide +kernel)
set_option maxRecDepth 20000 in
theorem gr_X6_ahead_5 : GoodIn wsL_law wsX6_ahead_r5 := goodIn_r _ [172, 173, 72, 174, 175, 176, 177, 178, 179, 180, 181, 182, 183, 184, 185, 186, 187, 188, 189, 190, 191, 192, 193, 194] (by decide +kernel) (by decide +kernel)
set_option maxRecDepth 20000 in
theorem gr_X6_ahead_6 : GoodIn wsL_law wsX6_ahead_r6 := goodIn_r _ [195, 196, 197, 198, 199, 200, 201, 202, 203, 204, 205, 206, 207, 208, 209, 210, 211, 212, 213, 214, 215, 216, 217, 218] (by decide +kernel) (by decide +kernel)
set_option maxRecDepth 20000 in
theorem gr_X6_ahead_7 : GoodIn wsL_law wsX6_ahead_r7 := goodIn_r _ [219, 220, 221, 652, 653, 654, 655, 656, 657, 658] (by decide +kernel) (by decide +kernel)
set_option maxRecDepth 20000 in
theorem ggL_law_X6_ahead : GoodIn wsL_law wsX6_ahead := (goodIn_ca (goodIn_ca (goodIn_ca (goodIn_ca (goodIn_ca (goodIn_ca (goodIn_ca gr_X6_ahead_1 (goodIn_app gr_X6_ahead_2 (goodIn_app gr_X6_ahead_3 (goodIn_app gr_X6_ahead_4 (goodIn_app gr_X6_ahead_5 (goodIn_app gr_X6_ahead_6 gr_X6_ahead_7)))))) gr_read_X60) gr_read_X50) gr_read_X00) gr_read_X10) gr_read_X20) gr_read_X40)
set_option maxRecDepth 20000 in
theorem gL_law_X6_ahead : GoodIn wsL_law (wsV RL 140 RX6 yX6_ahead wsX6_ahead) := goodIn_app (goodIn_of _ (by decide +kernel)) ggL_law_X6_ahead
