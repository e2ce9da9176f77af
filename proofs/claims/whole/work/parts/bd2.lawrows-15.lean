set_option maxRecDepth 20000 in
theorem gr_X7_shelved_1 : GoodIn wsL_law (.code yX7_shelved cX7_shelved 4 (some .int) :: [.fieldLink RX7 58 "KnapsackCoreModel" "raised" "I", .fieldLink RX7 7 "KnapsackCoreModel" "all" "[I", .methodLink RX7 326 yX7_isShelf, .static yX7_isShelf, .initialized RX7, .code yX7_isShelf cX7_isShelf 2 (some .boolean), .constantLong RX7 317 (3), .methodLink RX7 88 yX7_in, .static yX7_in, .code yX7_in cX7_in 6 (some .boolean)]) := goodIn_r _ [1028, 255, 226, 1018, 1019, 5, 1020, 945, 446, 447, 448] (by decide +kernel) (by decide +kernel)
set_option maxRecDepth 20000 in
theorem ggL_law_X7_shelved : GoodIn wsL_law wsX7_shelved := (goodIn_ca gr_X7_shelved_1 gr_X70)
set_option maxRecDepth 20000 in
theorem gL_law_X7_shelved : GoodIn wsL_law (wsV RL 153 RX7 yX7_shelved wsX7_shelved) := goodIn_app (goodIn_of _ (by decide +kernel)) ggL_law_X7_shelved
set_option maxRecDepth 20000 in
theorem gr_X6_image_1 : GoodIn wsL_law (.code yX6_image cX6_image 2 (some .boolean) :: wsX6_image_r1) := goodIn_r _ [1032, 18, 14, 15, 16, 17, 38, 39, 40, 41, 12, 13, 42, 21, 22, 43, 44, 45, 46, 47, 48, 49, 50, 51, 52] (by decide +kernel) (by decide +kernel)
set_option maxRecDepth 20000 in
theorem gr_X6_image_2 : GoodIn wsL_law wsX6_image_r2 := goodIn_r _ [53, 54, 55, 56, 57, 58, 59, 60, 61, 1033, 1034, 1035, 1036, 1037, 1038, 155, 156, 157, 1039, 1040, 413, 414, 415, 280] (by decide +kernel) (by decide +kernel)
set_option maxRecDepth 20000 in
theorem gr_X6_image_3 : GoodIn wsL_law wsX6_image_r3 := goodIn_r _ [416, 281] (by decide +kernel) (by decide +kernel)
set_option maxRecDepth 20000 in
theorem ggL_law_X6_image : GoodIn wsL_law wsX6_image := (goodIn_ca (goodIn_ca (goodIn_ca (goodIn_ca gr_X6_image_1 (goodIn_app gr_X6_image_2 gr_X6_image_3)) gr_read_X60) gr_read_X50) gr_read_X10)
set_option maxRecDepth 20000 in
theorem gL_law_X6_image : GoodIn wsL_law (wsV RL 154 RX6 yX6_image wsX6_image) := goodIn_app (goodIn_of _ (by decide +kernel)) ggL_law_X6_image
set_option maxRecDepth 20000 in
theorem gr_X7_image_1 : GoodIn wsL_law (.code yX7_image cX7_image 2 (some .boolean) :: [.fieldLink RX7 58 "KnapsackCoreModel" "raised" "I", .constantLong RX7 150 (2), .fieldLink RX7 17 "KnapsackCoreModel" "saved" "[Z", .methodLink RX7 88 yX7_in, .static yX7_in, .initialized RX7, .code yX7_in cX7_in 6 (some .boolean), .methodLink RX7 329 yX7_copiesText, .instanceMethod yX7_copiesText, .selects RX7 yX7_copiesText yX7_copiesText, .code yX7_copiesText cX7_copiesText 4 none, .fieldLink RX7 7 "KnapsackCoreModel" "all" "[I", .fieldLink RX7 13 "KnapsackCoreModel" "text" "[B"]) := goodIn_r _ [1044, 255, 457, 229, 446, 447, 5, 448, 1045, 1046, 1047, 1048, 226, 227] (by decide +kernel) (by decide +kernel)
set_option maxRecDepth 20000 in
theorem ggL_law_X7_image : GoodIn wsL_law wsX7_image := (goodIn_ca gr_X7_image_1 gr_X70)
set_option maxRecDepth 20000 in
theorem gL_law_X7_image : GoodIn wsL_law (wsV RL 157 RX7 yX7_image wsX7_image) := goodIn_app (goodIn_of _ (by decide +kernel)) ggL_law_X7_image
set_option maxRecDepth 20000 in
theorem gr_X6_again_1 : GoodIn wsL_law (.code yX6_again cX6_again 2 (some .boolean) :: wsX6_again_r1) := goodIn_r _ [1052, 18, 17, 266, 1033, 1034, 1035, 16, 1036, 43, 45, 1037, 1038, 155, 156, 157, 1039, 49, 47, 48, 1040, 413, 414, 22, 415] (by decide +kernel) (by decide +kernel)
set_option maxRecDepth 20000 in
theorem gr_X6_again_2 : GoodIn wsL_law wsX6_again_r2 := goodIn_r _ [54, 280, 416, 55, 56, 57, 281, 92, 93, 94, 2, 95, 26, 96, 97, 98, 99, 100, 101, 25, 102, 69, 103, 104] (by decide +kernel) (by decide +kernel)
set_option maxRecDepth 20000 in
theorem gr_X6_again_3 : GoodIn wsL_law wsX6_again_r3 := goodIn_r _ [105, 106, 107, 108, 109, 110, 111, 112, 113, 71, 114, 115, 116, 117, 68, 118, 119, 120, 121, 122, 76, 77, 78, 123] (by decide +kernel) (by decide +kernel)
set_option maxRecDepth 20000 in
theorem gr_X6_again_4 : GoodIn wsL_law wsX6_again_r4 := goodIn_r _ [79, 124, 125, 126, 127, 128, 129, 130, 131, 132, 133, 134, 135, 136, 137, 138, 35, 139, 140, 83, 84, 85, 141, 142] (by decide +kernel) (by decide +kernel)
set_option maxRecDepth 20000 in
theorem gr_X6_again_5 : GoodIn wsL_law wsX6_again_r5 := goodIn_r _ [60, 143, 144, 145, 146, 147, 148, 149, 46, 150, 151, 152, 153, 154, 158, 159, 160, 161, 162, 163, 164, 6, 165, 166] (by decide +kernel) (by decide +kernel)
set_option maxRecDepth 20000 in
theorem gr_X6_again_6 : GoodIn wsL_law wsX6_again_r6 := goodIn_r _ [167, 168, 169, 170, 171, 172, 173, 72, 174, 175, 176, 177, 178, 179, 180, 181, 182, 183, 184, 185, 186, 187, 188, 189] (by decide +kernel) (by decide +kernel)
set_option maxRecDepth 20000 in
theorem gr_X6_again_7 : GoodIn wsL_law wsX6_again_r7 := goodIn_r _ [190, 191, 192, 193, 194, 195, 196, 197, 198, 199, 200, 201, 202, 203, 204, 205, 206, 207, 208, 209, 210, 211, 212, 213] (by decide +kernel) (by decide +kernel)
set_option maxRecDepth 20000 in
theorem gr_X6_again_8 : GoodIn wsL_law wsX6_again_r8 := goodIn_r _ [214, 215, 216, 217, 218, 219, 220, 221] (by decide +kernel) (by decide +kernel)
set_option maxRecDepth 20000 in
theorem ggL_law_X6_again : GoodIn wsL_law wsX6_again := (goodIn_ca (goodIn_ca (goodIn_ca (goodIn_ca (goodIn_ca (goodIn_ca (goodIn_ca gr_X6_again_1 (goodIn_app gr_X6_again_2 (goodIn_app gr_X6_again_3 (goodIn_app gr_X6_again_4 (goodIn_app gr_X6_again_5 (goodIn_app gr_X6_again_6 (goodIn_app gr_X6_again_7 gr_X6_again_8))))))) gr_read_X60) gr_read_X50) gr_read_X10) gr_read_X00) gr_read_X20) gr_read_X40)
set_option maxRecDepth 20000 in
theorem gL_law_X6_again : GoodIn wsL_law (wsV RL 158 RX6 yX6_again wsX6_again) := goodIn_app (goodIn_of _ (by decide +kernel)) ggL_law_X6_again
