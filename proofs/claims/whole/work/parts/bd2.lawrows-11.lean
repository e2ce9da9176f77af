set_option maxRecDepth 20000 in
theorem gr_X7_swap_1 : GoodIn wsL_law (.code yX7_swap cX7_swap 9 (some .int) :: wsX7_swap_r1) := goodIn_r _ [920, 255, 457, 602, 595, 596, 234, 589, 235, 232, 446, 447, 5, 448, 581, 582, 583, 584, 226, 579, 585, 586, 587, 588, 590] (by decide +kernel) (by decide +kernel)
set_option maxRecDepth 20000 in
theorem gr_X7_swap_2 : GoodIn wsL_law wsX7_swap_r2 := goodIn_r _ [591, 592, 580, 236, 237, 593, 238, 594, 597, 598, 599, 600, 601, 233, 603, 604, 605, 606, 607, 608, 609, 610, 611, 612] (by decide +kernel) (by decide +kernel)
set_option maxRecDepth 20000 in
theorem gr_X7_swap_3 : GoodIn wsL_law wsX7_swap_r3 := goodIn_r _ [613, 614, 615, 616, 617, 618, 619, 620, 621, 622, 623, 624, 625, 626, 627, 241, 240, 239, 628, 629, 630, 631, 632, 633] (by decide +kernel) (by decide +kernel)
set_option maxRecDepth 20000 in
theorem gr_X7_swap_4 : GoodIn wsL_law wsX7_swap_r4 := goodIn_r _ [634, 635, 636, 637, 638, 639, 640, 641, 642, 643, 768, 769, 770] (by decide +kernel) (by decide +kernel)
set_option maxRecDepth 20000 in
theorem ggL_law_X7_swap : GoodIn wsL_law wsX7_swap := (goodIn_ca (goodIn_ca gr_X7_swap_1 (goodIn_app gr_X7_swap_2 (goodIn_app gr_X7_swap_3 gr_X7_swap_4))) gr_X70)
set_option maxRecDepth 20000 in
theorem gL_law_X7_swap : GoodIn wsL_law (wsV RL 119 RX7 yX7_swap wsX7_swap) := goodIn_app (goodIn_of _ (by decide +kernel)) ggL_law_X7_swap
set_option maxRecDepth 20000 in
theorem gr_X6_front_1 : GoodIn wsL_law (.code yX6_front cX6_front 3 (some .long) :: wsX6_front_r1) := goodIn_r _ [924, 98, 925, 36, 572, 904, 799, 800, 801, 926, 927, 928, 2, 929, 26, 679, 902, 37, 862, 863, 17, 96, 519, 930, 137] (by decide +kernel) (by decide +kernel)
set_option maxRecDepth 20000 in
theorem gr_X6_front_2 : GoodIn wsL_law wsX6_front_r2 := goodIn_r _ [138, 35, 139, 140, 83, 84, 85, 141, 142, 60, 143, 144, 145, 146, 147, 148, 149, 46, 150, 151, 152, 153, 154, 155] (by decide +kernel) (by decide +kernel)
set_option maxRecDepth 20000 in
theorem gr_X6_front_3 : GoodIn wsL_law wsX6_front_r3 := goodIn_r _ [156, 157, 158, 159, 160, 161, 162, 163, 164, 6, 931, 181, 182, 183, 184, 185, 186, 187, 188, 802, 803, 804, 805, 932] (by decide +kernel) (by decide +kernel)
set_option maxRecDepth 20000 in
theorem gr_X6_front_4 : GoodIn wsL_law wsX6_front_r4 := goodIn_r _ [933, 934, 935, 936, 937, 938, 939] (by decide +kernel) (by decide +kernel)
set_option maxRecDepth 20000 in
theorem ggL_law_X6_front : GoodIn wsL_law wsX6_front := (goodIn_ca (goodIn_ca (goodIn_ca (goodIn_ca (goodIn_ca (goodIn_ca (goodIn_ca gr_X6_front_1 (goodIn_app gr_X6_front_2 (goodIn_app gr_X6_front_3 gr_X6_front_4))) gr_read_X60) gr_read_X40) gr_read_X00) gr_read_X20) gr_read_X50) gr_read_X10)
set_option maxRecDepth 20000 in
theorem gL_law_X6_front : GoodIn wsL_law (wsV RL 120 RX6 yX6_front wsX6_front) := goodIn_app (goodIn_of _ (by decide +kernel)) ggL_law_X6_front
set_option maxRecDepth 20000 in
theorem gr_X7_front_1 : GoodIn wsL_law (.code yX7_front cX7_front 3 (some .long) :: wsX7_front_r1) := goodIn_r _ [943, 255, 944, 580, 640, 945, 237, 238, 236, 946, 947, 948, 5, 949, 602, 234, 235, 615, 226, 585, 586, 587, 588, 589, 590] (by decide +kernel) (by decide +kernel)
set_option maxRecDepth 20000 in
theorem gr_X7_front_2 : GoodIn wsL_law wsX7_front_r2 := goodIn_r _ [591, 592, 579, 593, 594, 595, 596, 597, 598, 599, 600, 601, 232, 233, 603, 604, 605, 606, 607, 608, 609, 610, 620, 621] (by decide +kernel) (by decide +kernel)
set_option maxRecDepth 20000 in
theorem gr_X7_front_3 : GoodIn wsL_law wsX7_front_r3 := goodIn_r _ [622, 623, 624, 625, 626, 627, 241, 240, 239, 628, 629, 630, 631, 632, 633, 634, 635, 446, 447, 448, 950, 951, 952, 953] (by decide +kernel) (by decide +kernel)
set_option maxRecDepth 20000 in
theorem ggL_law_X7_front : GoodIn wsL_law wsX7_front := (goodIn_ca (goodIn_ca gr_X7_front_1 (goodIn_app gr_X7_front_2 gr_X7_front_3)) gr_X70)
set_option maxRecDepth 20000 in
theorem gL_law_X7_front : GoodIn wsL_law (wsV RL 123 RX7 yX7_front wsX7_front) := goodIn_app (goodIn_of _ (by decide +kernel)) ggL_law_X7_front
set_option maxRecDepth 20000 in
theorem gr_X6_other_1 : GoodIn wsL_law (.code yX6_other cX6_other 2 (some .int) :: wsX6_other_r1) := goodIn_r _ [957, 27, 17, 96, 494, 372, 2, 373, 374, 412, 413, 414, 22, 415, 54, 280, 416, 155, 156, 157, 55, 56, 57, 281, 958] (by decide +kernel) (by decide +kernel)
set_option maxRecDepth 20000 in
theorem gr_X6_other_2 : GoodIn wsL_law wsX6_other_r2 := goodIn_r _ [959, 960, 961, 493, 28, 685, 99, 100, 101, 25, 102, 69, 103, 104, 105, 106, 107, 108, 109, 110, 111, 112, 113, 71] (by decide +kernel) (by decide +kernel)
set_option maxRecDepth 20000 in
theorem gr_X6_other_3 : GoodIn wsL_law wsX6_other_r3 := goodIn_r _ [114, 115, 116, 117, 68, 118, 119, 120, 121, 122, 76, 77, 78, 123, 79, 124, 125, 126, 127, 128, 129, 130, 131, 132] (by decide +kernel) (by decide +kernel)
set_option maxRecDepth 20000 in
theorem gr_X6_other_4 : GoodIn wsL_law wsX6_other_r4 := goodIn_r _ [133, 134, 135, 136, 137, 138, 35, 139, 140, 83, 84, 85, 141, 142, 60, 143, 144, 145, 146, 147, 148, 149, 46, 150] (by decide +kernel) (by decide +kernel)
set_option maxRecDepth 20000 in
theorem gr_X6_other_5 : GoodIn wsL_law wsX6_other_r5 := goodIn_r _ [151, 152, 153, 154, 158, 159, 160, 161, 162, 163, 164, 6, 652, 653, 654, 655, 656, 657, 658, 169, 170, 171, 172, 173] (by decide +kernel) (by decide +kernel)
set_option maxRecDepth 20000 in
theorem gr_X6_other_6 : GoodIn wsL_law wsX6_other_r6 := goodIn_r _ [72, 174, 175, 176, 177, 178, 179, 180, 181, 182, 183, 184, 185, 186, 187, 188, 189, 190, 191, 192, 193, 194, 195, 196] (by decide +kernel) (by decide +kernel)
set_option maxRecDepth 20000 in
theorem gr_X6_other_7 : GoodIn wsL_law wsX6_other_r7 := goodIn_r _ [197, 198, 199, 200, 201, 202, 203, 204, 205, 206, 207, 208, 209, 210, 211, 212, 213, 214, 215, 216, 217, 218, 219, 220] (by decide +kernel) (by decide +kernel)
set_option maxRecDepth 20000 in
theorem gr_X6_other_8 : GoodIn wsL_law wsX6_other_r8 := goodIn_r _ [221, 573] (by decide +kernel) (by decide +kernel)
set_option maxRecDepth 20000 in
theorem ggL_law_X6_other : GoodIn wsL_law wsX6_other := (goodIn_ca (goodIn_ca (goodIn_ca (goodIn_ca (goodIn_ca (goodIn_ca (goodIn_ca gr_X6_other_1 (goodIn_app gr_X6_other_2 (goodIn_app gr_X6_other_3 (goodIn_app gr_X6_other_4 (goodIn_app gr_X6_other_5 (goodIn_app gr_X6_other_6 (goodIn_app gr_X6_other_7 gr_X6_other_8))))))) gr_read_X60) gr_read_X50) gr_read_X10) gr_read_X00) gr_read_X20) gr_read_X40)
set_option maxRecDepth 20000 in
theorem gL_law_X6_other : GoodIn wsL_law (wsV RL 124 RX6 yX6_other wsX6_other) := goodIn_app (goodIn_of _ (by decide +kernel)) ggL_law_X6_other
