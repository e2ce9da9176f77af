set_option maxRecDepth 20000 in
theorem gr_X7_again_1 : GoodIn wsL_law (.code yX7_again cX7_again 2 (some .boolean) :: [.fieldLink RX7 58 "KnapsackCoreModel" "raised" "I", .constantLong RX7 150 (2), .fieldLink RX7 17 "KnapsackCoreModel" "saved" "[Z", .fieldLink RX7 157 "KnapsackCoreModel" "undos" "I", .methodLink RX7 88 yX7_in, .static yX7_in, .initialized RX7, .code yX7_in cX7_in 6 (some .boolean), .methodLink RX7 329 yX7_copiesText, .instanceMethod yX7_copiesText, .selects RX7 yX7_copiesText yX7_copiesText, .code yX7_copiesText cX7_copiesText 4 none, .fieldLink RX7 7 "KnapsackCoreModel" "all" "[I", .fieldLink RX7 13 "KnapsackCoreModel" "text" "[B"]) := goodIn_r _ [1056, 255, 457, 229, 429, 446, 447, 5, 448, 1045, 1046, 1047, 1048, 226, 227] (by decide +kernel) (by decide +kernel)
set_option maxRecDepth 20000 in
theorem ggL_law_X7_again : GoodIn wsL_law wsX7_again := (goodIn_ca gr_X7_again_1 gr_X70)
set_option maxRecDepth 20000 in
theorem gL_law_X7_again : GoodIn wsL_law (wsV RL 161 RX7 yX7_again wsX7_again) := goodIn_app (goodIn_of _ (by decide +kernel)) ggL_law_X7_again
