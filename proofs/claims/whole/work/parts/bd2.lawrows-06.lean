set_option maxRecDepth 20000 in
theorem gr_L_item_1 : GoodIn wsL_law (.codeWith yL_item cL_item 5 (some .int) [(0, 10, 13, 13)] :: wsL_item_r1) := goodIn_r _ [748, 749, 750, 751, 752, 2, 753, 754, 755, 17, 96, 756, 757, 26, 679, 758, 549, 550, 551, 22, 552, 280, 759, 760, 761] (by decide +kernel) (by decide +kernel)
set_option maxRecDepth 20000 in
theorem gr_L_item_2 : GoodIn wsL_law wsL_item_r2 := goodIn_r _ [25, 762, 69, 173, 113, 704, 705, 706, 707, 685, 691, 692, 693, 68, 694, 133, 120, 708, 709, 710, 711, 135, 79, 78] (by decide +kernel) (by decide +kernel)
set_option maxRecDepth 20000 in
theorem gr_L_item_3 : GoodIn wsL_law wsL_item_r3 := goodIn_r _ [712, 696, 697, 698, 122, 134, 713, 211, 212, 213, 214, 215, 216, 217] (by decide +kernel) (by decide +kernel)
set_option maxRecDepth 20000 in
theorem ggL_law_L_item : GoodIn wsL_law wsL_item := goodIn_ca (goodIn_ca (goodIn_ca (goodIn_ca (goodIn_ca (goodIn_ca (goodIn_ca gr_L_item_1 (goodIn_app gr_L_item_2 gr_L_item_3)) gr_read_X60) gr_read_X50) gr_read_X10) gr_read_X00) gr_read_X20) (goodIn_sub (fun _ h => List.mem_append_right _ h) (by decide +kernel))
set_option maxRecDepth 20000 in
theorem gL_law_L_item : GoodIn wsL_law (va_wsS RL 74 yL_item wsL_item) := goodIn_app (goodIn_of _ (by decide +kernel)) ggL_law_L_item
set_option maxRecDepth 20000 in
theorem gr_X7_item_1 : GoodIn wsL_law (.code yX7_item cX7_item 3 (some .int) :: wsX7_item_r1) := goodIn_r _ [766, 767, 255, 226, 233, 595, 562, 563, 564, 5, 565, 446, 447, 448, 581, 582, 583, 584, 579, 585, 586, 587, 588, 589, 590] (by decide +kernel) (by decide +kernel)
set_option maxRecDepth 20000 in
theorem gr_X7_item_2 : GoodIn wsL_law wsX7_item_r2 := goodIn_r _ [591, 592, 580, 236, 237, 593, 238, 594, 596, 597, 598, 599, 600, 601, 602, 232, 234, 235, 603, 604, 605, 606, 607, 608] (by decide +kernel) (by decide +kernel)
set_option maxRecDepth 20000 in
theorem gr_X7_item_3 : GoodIn wsL_law wsX7_item_r3 := goodIn_r _ [609, 610, 611, 612, 613, 614, 615, 616, 617, 618, 619, 620, 621, 622, 623, 624, 625, 626, 627, 241, 240, 239, 628, 629] (by decide +kernel) (by decide +kernel)
set_option maxRecDepth 20000 in
theorem gr_X7_item_4 : GoodIn wsL_law wsX7_item_r4 := goodIn_r _ [630, 631, 632, 633, 634, 635, 636, 637, 638, 639, 640, 641, 642, 643, 768, 769, 770, 733, 734, 735, 736, 725, 726, 727] (by decide +kernel) (by decide +kernel)
set_option maxRecDepth 20000 in
theorem gr_X7_item_5 : GoodIn wsL_law wsX7_item_r5 := goodIn_r _ [728, 737, 738, 739, 740] (by decide +kernel) (by decide +kernel)
set_option maxRecDepth 20000 in
theorem ggL_law_X7_item : GoodIn wsL_law wsX7_item := (goodIn_ca (goodIn_ca gr_X7_item_1 (goodIn_app gr_X7_item_2 (goodIn_app gr_X7_item_3 (goodIn_app gr_X7_item_4 gr_X7_item_5)))) gr_X70)
set_option maxRecDepth 20000 in
theorem gL_law_X7_item : GoodIn wsL_law (wsV RL 79 RX7 yX7_item wsX7_item) := goodIn_app (goodIn_of _ (by decide +kernel)) ggL_law_X7_item
set_option maxRecDepth 20000 in
theorem gr_X7_thrown_1 : GoodIn wsL_law (.code yX7_thrown cX7_thrown 1 (some .int) :: [.fieldLink RX7 58 "KnapsackCoreModel" "raised" "I"]) := goodIn_r _ [774, 255] (by decide +kernel) (by decide +kernel)
set_option maxRecDepth 20000 in
theorem ggL_law_X7_thrown : GoodIn wsL_law wsX7_thrown := (goodIn_ca gr_X7_thrown_1 gr_X70)
set_option maxRecDepth 20000 in
theorem gL_law_X7_thrown : GoodIn wsL_law (wsV RL 80 RX7 yX7_thrown wsX7_thrown) := goodIn_app (goodIn_of _ (by decide +kernel)) ggL_law_X7_thrown
set_option maxRecDepth 20000 in
theorem gr_X6_reduced_1 : GoodIn wsL_law (.code yX6_reduced cX6_reduced 2 (some .long) :: wsX6_reduced_r1) := goodIn_r _ [778, 17, 96, 26, 679, 758, 549, 550, 551, 22, 552, 280, 691, 692, 693, 68, 694, 133, 120, 708, 709, 710, 711, 135, 79] (by decide +kernel) (by decide +kernel)
set_option maxRecDepth 20000 in
theorem gr_X6_reduced_2 : GoodIn wsL_law wsX6_reduced_r2 := goodIn_r _ [78, 712, 696, 697, 698, 122, 134, 713, 211, 212, 213, 214, 215, 216, 217] (by decide +kernel) (by decide +kernel)
set_option maxRecDepth 20000 in
theorem ggL_law_X6_reduced : GoodIn wsL_law wsX6_reduced := (goodIn_ca (goodIn_ca (goodIn_ca (goodIn_ca (goodIn_ca (goodIn_ca gr_X6_reduced_1 gr_X6_reduced_2) gr_read_X60) gr_read_X50) gr_read_X00) gr_read_X20) gr_read_X10)
set_option maxRecDepth 20000 in
theorem gL_law_X6_reduced : GoodIn wsL_law (wsV RL 83 RX6 yX6_reduced wsX6_reduced) := goodIn_app (goodIn_of _ (by decide +kernel)) ggL_law_X6_reduced
