set_option maxRecDepth 20000 in
theorem gr_X7_other_1 : GoodIn wsL_law (.code yX7_other cX7_other 2 (some .int) :: wsX7_other_r1) := goodIn_r _ [965, 255, 456, 446, 447, 5, 448, 966, 967, 968, 969, 597, 640, 585, 586, 587, 588, 589, 590, 591, 592, 579, 580, 236, 237] (by decide +kernel) (by decide +kernel)
set_option maxRecDepth 20000 in
theorem gr_X7_other_2 : GoodIn wsL_law wsX7_other_r2 := goodIn_r _ [593, 238, 594, 595, 596, 598, 599, 600, 601, 602, 226, 232, 233, 234, 235, 603, 604, 605, 606, 607, 608, 609, 610, 663] (by decide +kernel) (by decide +kernel)
set_option maxRecDepth 20000 in
theorem gr_X7_other_3 : GoodIn wsL_law wsX7_other_r3 := goodIn_r _ [664, 665, 666, 644, 645, 646, 647, 611, 612, 613, 614, 615, 616, 617, 618, 619, 620, 621, 622, 623, 624, 625, 626, 627] (by decide +kernel) (by decide +kernel)
set_option maxRecDepth 20000 in
theorem gr_X7_other_4 : GoodIn wsL_law wsX7_other_r4 := goodIn_r _ [241, 240, 239, 628, 629, 630, 631, 632, 633, 634, 635, 636, 637, 638, 639, 641, 642, 643] (by decide +kernel) (by decide +kernel)
set_option maxRecDepth 20000 in
theorem ggL_law_X7_other : GoodIn wsL_law wsX7_other := (goodIn_ca (goodIn_ca gr_X7_other_1 (goodIn_app gr_X7_other_2 (goodIn_app gr_X7_other_3 gr_X7_other_4))) gr_X70)
set_option maxRecDepth 20000 in
theorem gL_law_X7_other : GoodIn wsL_law (wsV RL 127 RX7 yX7_other wsX7_other) := goodIn_app (goodIn_of _ (by decide +kernel)) ggL_law_X7_other
set_option maxRecDepth 20000 in
theorem gr_X6_without_1 : GoodIn wsL_law (.code yX6_without cX6_without 2 (some .int) :: wsX6_without_r1) := goodIn_r _ [973, 17, 96, 27, 493, 549, 550, 551, 22, 552, 280, 412, 413, 414, 415, 54, 416, 155, 156, 157, 55, 56, 57, 281, 553] (by decide +kernel) (by decide +kernel)
set_option maxRecDepth 20000 in
theorem gr_X6_without_2 : GoodIn wsL_law wsX6_without_r2 := goodIn_r _ [554, 555, 556, 557, 958, 959, 960, 2, 961, 28, 685, 99, 100, 101, 25, 102, 69, 103, 104, 105, 106, 107, 108, 109] (by decide +kernel) (by decide +kernel)
set_option maxRecDepth 20000 in
theorem gr_X6_without_3 : GoodIn wsL_law wsX6_without_r3 := goodIn_r _ [110, 111, 112, 113, 71, 114, 115, 116, 117, 68, 118, 119, 120, 121, 122, 76, 77, 78, 123, 79, 124, 125, 126, 127] (by decide +kernel) (by decide +kernel)
set_option maxRecDepth 20000 in
theorem gr_X6_without_4 : GoodIn wsL_law wsX6_without_r4 := goodIn_r _ [128, 129, 130, 131, 132, 133, 134, 135, 136, 137, 138, 35, 139, 140, 83, 84, 85, 141, 142, 60, 143, 144, 145, 146] (by decide +kernel) (by decide +kernel)
set_option maxRecDepth 20000 in
theorem gr_X6_without_5 : GoodIn wsL_law wsX6_without_r5 := goodIn_r _ [147, 148, 149, 46, 150, 151, 152, 153, 154, 158, 159, 160, 161, 162, 163, 164, 6, 652, 653, 654, 655, 656, 657, 658] (by decide +kernel) (by decide +kernel)
set_option maxRecDepth 20000 in
theorem gr_X6_without_6 : GoodIn wsL_law wsX6_without_r6 := goodIn_r _ [169, 170, 171, 172, 173, 72, 174, 175, 176, 177, 178, 179, 180, 181, 182, 183, 184, 185, 186, 187, 188, 189, 190, 191] (by decide +kernel) (by decide +kernel)
set_option maxRecDepth 20000 in
theorem gr_X6_without_7 : GoodIn wsL_law wsX6_without_r7 := goodIn_r _ [192, 193, 194, 195, 196, 197, 198, 199, 200, 201, 202, 203, 204, 205, 206, 207, 208, 209, 210, 211, 212, 213, 214, 215] (by decide +kernel) (by decide +kernel)
set_option maxRecDepth 20000 in
theorem gr_X6_without_8 : GoodIn wsL_law wsX6_without_r8 := goodIn_r _ [216, 217, 218, 219, 220, 221, 573] (by decide +kernel) (by decide +kernel)
set_option maxRecDepth 20000 in
theorem ggL_law_X6_without : GoodIn wsL_law wsX6_without := (goodIn_ca (goodIn_ca (goodIn_ca (goodIn_ca (goodIn_ca (goodIn_ca (goodIn_ca gr_X6_without_1 (goodIn_app gr_X6_without_2 (goodIn_app gr_X6_without_3 (goodIn_app gr_X6_without_4 (goodIn_app gr_X6_without_5 (goodIn_app gr_X6_without_6 (goodIn_app gr_X6_without_7 gr_X6_without_8))))))) gr_read_X60) gr_read_X50) gr_read_X10) gr_read_X00) gr_read_X20) gr_read_X40)
set_option maxRecDepth 20000 in
theorem gL_law_X6_without : GoodIn wsL_law (wsV RL 128 RX6 yX6_without wsX6_without) := goodIn_app (goodIn_of _ (by decide +kernel)) ggL_law_X6_without
set_option maxRecDepth 20000 in
theorem gr_X7_without_1 : GoodIn wsL_law (.code yX7_without cX7_without 2 (some .int) :: wsX7_without_r1) := goodIn_r _ [977, 255, 226, 562, 563, 564, 5, 565, 446, 447, 448, 966, 967, 968, 969, 597, 640, 585, 586, 587, 588, 589, 590, 591, 592] (by decide +kernel) (by decide +kernel)
set_option maxRecDepth 20000 in
theorem gr_X7_without_2 : GoodIn wsL_law wsX7_without_r2 := goodIn_r _ [579, 580, 236, 237, 593, 238, 594, 595, 596, 598, 599, 600, 601, 602, 232, 233, 234, 235, 603, 604, 605, 606, 607, 608] (by decide +kernel) (by decide +kernel)
set_option maxRecDepth 20000 in
theorem gr_X7_without_3 : GoodIn wsL_law wsX7_without_r3 := goodIn_r _ [609, 610, 663, 664, 665, 666, 644, 645, 646, 647, 611, 612, 613, 614, 615, 616, 617, 618, 619, 620, 621, 622, 623, 624] (by decide +kernel) (by decide +kernel)
set_option maxRecDepth 20000 in
theorem gr_X7_without_4 : GoodIn wsL_law wsX7_without_r4 := goodIn_r _ [625, 626, 627, 241, 240, 239, 628, 629, 630, 631, 632, 633, 634, 635, 636, 637, 638, 639, 641, 642, 643] (by decide +kernel) (by decide +kernel)
set_option maxRecDepth 20000 in
theorem ggL_law_X7_without : GoodIn wsL_law wsX7_without := (goodIn_ca (goodIn_ca gr_X7_without_1 (goodIn_app gr_X7_without_2 (goodIn_app gr_X7_without_3 gr_X7_without_4))) gr_X70)
set_option maxRecDepth 20000 in
theorem gL_law_X7_without : GoodIn wsL_law (wsV RL 131 RX7 yX7_without wsX7_without) := goodIn_app (goodIn_of _ (by decide +kernel)) ggL_law_X7_without
set_option maxRecDepth 20000 in
theorem gr_X6_with_1 : GoodIn wsL_law (.code yX6_with cX6_with 3 (some .int) :: wsX6_with_r1) := goodIn_r _ [981, 17, 96, 756, 493, 27, 757, 549, 550, 551, 22, 552, 280, 412, 413, 414, 415, 54, 416, 155, 156, 157, 55, 56, 57] (by decide +kernel) (by decide +kernel)
set_option maxRecDepth 20000 in
theorem gr_X6_with_2 : GoodIn wsL_law wsX6_with_r2 := goodIn_r _ [281, 553, 554, 555, 556, 557, 958, 959, 960, 2, 961, 28, 685, 99, 100, 101, 25, 102, 69, 103, 104, 105, 106, 107] (by decide +kernel) (by decide +kernel)
set_option maxRecDepth 20000 in
theorem gr_X6_with_3 : GoodIn wsL_law wsX6_with_r3 := goodIn_r _ [108, 109, 110, 111, 112, 113, 71, 114, 115, 116, 117, 68, 118, 119, 120, 121, 122, 76, 77, 78, 123, 79, 124, 125] (by decide +kernel) (by decide +kernel)
set_option maxRecDepth 20000 in
theorem gr_X6_with_4 : GoodIn wsL_law wsX6_with_r4 := goodIn_r _ [126, 127, 128, 129, 130, 131, 132, 133, 134, 135, 136, 137, 138, 35, 139, 140, 83, 84, 85, 141, 142, 60, 143, 144] (by decide +kernel) (by decide +kernel)
set_option maxRecDepth 20000 in
theorem gr_X6_with_5 : GoodIn wsL_law wsX6_with_r5 := goodIn_r _ [145, 146, 147, 148, 149, 46, 150, 151, 152, 153, 154, 158, 159, 160, 161, 162, 163, 164, 6, 652, 653, 654, 655, 656] (by decide +kernel) (by decide +kernel)
set_option maxRecDepth 20000 in
theorem gr_X6_with_6 : GoodIn wsL_law wsX6_with_r6 := goodIn_r _ [657, 658, 169, 170, 171, 172, 173, 72, 174, 175, 176, 177, 178, 179, 180, 181, 182, 183, 184, 185, 186, 187, 188, 189] (by decide +kernel) (by decide +kernel)
set_option maxRecDepth 20000 in
theorem gr_X6_with_7 : GoodIn wsL_law wsX6_with_r7 := goodIn_r _ [190, 191, 192, 193, 194, 195, 196, 197, 198, 199, 200, 201, 202, 203, 204, 205, 206, 207, 208, 209, 210, 211, 212, 213] (by decide +kernel) (by decide +kernel)
set_option maxRecDepth 20000 in
theorem gr_X6_with_8 : GoodIn wsL_law wsX6_with_r8 := goodIn_r _ [214, 215, 216, 217, 218, 219, 220, 221, 573] (by decide +kernel) (by decide +kernel)
set_option maxRecDepth 20000 in
theorem ggL_law_X6_with : GoodIn wsL_law wsX6_with := (goodIn_ca (goodIn_ca (goodIn_ca (goodIn_ca (goodIn_ca (goodIn_ca (goodIn_ca gr_X6_with_1 (goodIn_app gr_X6_with_2 (goodIn_app gr_X6_with_3 (goodIn_app gr_X6_with_4 (goodIn_app gr_X6_with_5 (goodIn_app gr_X6_with_6 (goodIn_app gr_X6_with_7 gr_X6_with_8))))))) gr_read_X60) gr_read_X50) gr_read_X10) gr_read_X00) gr_read_X20) gr_read_X40)
set_option maxRecDepth 20000 in
theorem gL_law_X6_with : GoodIn wsL_law (wsV RL 132 RX6 yX6_with wsX6_with) := goodIn_app (goodIn_of _ (by decide +kernel)) ggL_law_X6_with
