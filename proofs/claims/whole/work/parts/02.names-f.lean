theorem dX6_swap_117 : decode cX6_swap 117 = .ok (.getfield 274, 3) := by decide +kernel
theorem dX6_swap_120 : decode cX6_swap 120 = .ok (.iload 5, 2) := by decide +kernel
theorem dX6_swap_122 : decode cX6_swap 122 = .ok (.iaload, 1) := by decide +kernel
theorem dX6_swap_123 : decode cX6_swap 123 = .ok (.isub, 1) := by decide +kernel
theorem dX6_swap_124 : decode cX6_swap 124 = .ok (.istore_n 2, 1) := by decide +kernel
theorem dX6_swap_125 : decode cX6_swap 125 = .ok (.aload_n 0, 1) := by decide +kernel
theorem dX6_swap_126 : decode cX6_swap 126 = .ok (.getfield 30, 3) := by decide +kernel
theorem dX6_swap_129 : decode cX6_swap 129 = .ok (.getfield 157, 3) := by decide +kernel
theorem dX6_swap_132 : decode cX6_swap 132 = .ok (.getfield 232, 3) := by decide +kernel
theorem dX6_swap_135 : decode cX6_swap 135 = .ok (.iload 5, 2) := by decide +kernel
theorem dX6_swap_137 : decode cX6_swap 137 = .ok (.iaload, 1) := by decide +kernel
theorem dX6_swap_138 : decode cX6_swap 138 = .ok (.istore_n 3, 1) := by decide +kernel
theorem dX6_swap_139 : decode cX6_swap 139 = .ok (.aload_n 0, 1) := by decide +kernel
theorem dX6_swap_140 : decode cX6_swap 140 = .ok (.getfield 30, 3) := by decide +kernel
theorem dX6_swap_143 : decode cX6_swap 143 = .ok (.getfield 157, 3) := by decide +kernel
theorem dX6_swap_146 : decode cX6_swap 146 = .ok (.getfield 232, 3) := by decide +kernel
theorem dX6_swap_149 : decode cX6_swap 149 = .ok (.iload 6, 2) := by decide +kernel
theorem dX6_swap_151 : decode cX6_swap 151 = .ok (.iaload, 1) := by decide +kernel
theorem dX6_swap_152 : decode cX6_swap 152 = .ok (.istore 4, 2) := by decide +kernel
theorem dX6_swap_154 : decode cX6_swap 154 = .ok (.iinc 5 1, 3) := by decide +kernel
theorem dX6_swap_157 : decode cX6_swap 157 = .ok (.goto (-136), 3) := by decide +kernel
theorem dX6_swap_160 : decode cX6_swap 160 = .ok (.iload_n 1, 1) := by decide +kernel
theorem dX6_swap_161 : decode cX6_swap 161 = .ok (.ifCond .ne 5, 3) := by decide +kernel
theorem dX6_swap_164 : decode cX6_swap 164 = .ok (.iload_n 2, 1) := by decide +kernel
theorem dX6_swap_165 : decode cX6_swap 165 = .ok (.ireturn, 1) := by decide +kernel
theorem dX6_swap_166 : decode cX6_swap 166 = .ok (.iload_n 1, 1) := by decide +kernel
theorem dX6_swap_167 : decode cX6_swap 167 = .ok (.iconst 1, 1) := by decide +kernel
theorem dX6_swap_168 : decode cX6_swap 168 = .ok (.if_icmp .ne 7, 3) := by decide +kernel
theorem dX6_swap_171 : decode cX6_swap 171 = .ok (.iload_n 3, 1) := by decide +kernel
theorem dX6_swap_172 : decode cX6_swap 172 = .ok (.goto 5, 3) := by decide +kernel
theorem dX6_swap_175 : decode cX6_swap 175 = .ok (.iload 4, 2) := by decide +kernel
theorem dX6_swap_177 : decode cX6_swap 177 = .ok (.ireturn, 1) := by decide +kernel
set_option maxRecDepth 20000 in
theorem ggX6_front_X6_makeFront : GoodIn wsX6_front wsX6_makeFront := goodIn_r _ [13, 1, 3, 4, 14, 15, 16, 17, 18, 19, 20, 21, 22, 23, 24, 25, 26, 27, 28, 29, 30, 31, 32, 33, 34, 35, 36, 37, 38, 39, 40, 41, 42, 43, 44, 45, 46, 47, 48, 49, 50, 51, 52, 53, 54, 55, 56, 57, 58, 59, 60, 61, 62, 63, 64, 65, 66, 67, 80, 81, 82, 83, 84, 85, 86, 87, 88, 89, 90, 91, 92, 93, 94, 95, 96, 97, 98, 99, 100, 101, 102, 103, 104, 105, 106, 107, 108, 109, 110, 111, 112, 113, 114, 115, 116, 117, 118, 119, 120, 121, 122, 123, 124, 125, 126] (by decide +kernel) (by decide +kernel)
set_option maxRecDepth 20000 in
theorem gX6_front_X6_makeFront : GoodIn wsX6_front (wsV RX6 281 RX6 yX6_makeFront wsX6_makeFront) := goodIn_app (goodIn_of _ (by decide +kernel)) ggX6_front_X6_makeFront
set_option maxRecDepth 20000 in
theorem ggX6_front_X4_has : GoodIn wsX6_front wsX4_has := goodIn_r _ [71, 28, 91, 92, 93, 94] (by decide +kernel) (by decide +kernel)
set_option maxRecDepth 20000 in
theorem gX6_front_X4_has : GoodIn wsX6_front (wsV RX6 235 RX4 yX4_has wsX4_has) := goodIn_app (goodIn_of _ (by decide +kernel)) ggX6_front_X4_has
set_option maxRecDepth 20000 in
theorem ggX6_front_X4_isCorner : GoodIn wsX6_front wsX4_isCorner := goodIn_r _ [75, 28, 76, 77, 78, 26, 79, 30, 29, 91, 92, 93, 94] (by decide +kernel) (by decide +kernel)
set_option maxRecDepth 20000 in
theorem gX6_front_X4_isCorner : GoodIn wsX6_front (wsV RX6 289 RX4 yX4_isCorner wsX4_isCorner) := goodIn_app (goodIn_of _ (by decide +kernel)) ggX6_front_X4_isCorner
theorem dX6_front_0 : decode cX6_front 0 = .ok (.aload_n 0, 1) := by decide +kernel
theorem dX6_front_1 : decode cX6_front 1 = .ok (.invokevirtual 281, 3) := by decide +kernel
theorem dX6_front_4 : decode cX6_front 4 = .ok (.aload_n 0, 1) := by decide +kernel
theorem dX6_front_5 : decode cX6_front 5 = .ok (.getfield 284, 3) := by decide +kernel
theorem dX6_front_8 : decode cX6_front 8 = .ok (.iconst 2, 1) := by decide +kernel
theorem dX6_front_9 : decode cX6_front 9 = .ok (.if_icmp .ne 7, 3) := by decide +kernel
theorem dX6_front_12 : decode cX6_front 12 = .ok (.ldc2_w 287, 3) := by decide +kernel
theorem dX6_front_15 : decode cX6_front 15 = .ok (.lreturn, 1) := by decide +kernel
theorem dX6_front_16 : decode cX6_front 16 = .ok (.iload_n 1, 1) := by decide +kernel
theorem dX6_front_17 : decode cX6_front 17 = .ok (.iconst (-1), 1) := by decide +kernel
theorem dX6_front_18 : decode cX6_front 18 = .ok (.if_icmp .ne 16, 3) := by decide +kernel
theorem dX6_front_21 : decode cX6_front 21 = .ok (.iload_n 2, 1) := by decide +kernel
theorem dX6_front_22 : decode cX6_front 22 = .ok (.ifCond .ne 12, 3) := by decide +kernel
theorem dX6_front_25 : decode cX6_front 25 = .ok (.aload_n 0, 1) := by decide +kernel
theorem dX6_front_26 : decode cX6_front 26 = .ok (.getfield 51, 3) := by decide +kernel
theorem dX6_front_29 : decode cX6_front 29 = .ok (.getfield 150, 3) := by decide +kernel
theorem dX6_front_32 : decode cX6_front 32 = .ok (.i2l, 1) := by decide +kernel
theorem dX6_front_33 : decode cX6_front 33 = .ok (.lreturn, 1) := by decide +kernel
theorem dX6_front_34 : decode cX6_front 34 = .ok (.aload_n 0, 1) := by decide +kernel
theorem dX6_front_35 : decode cX6_front 35 = .ok (.getfield 51, 3) := by decide +kernel
theorem dX6_front_38 : decode cX6_front 38 = .ok (.iload_n 1, 1) := by decide +kernel
theorem dX6_front_39 : decode cX6_front 39 = .ok (.invokevirtual 235, 3) := by decide +kernel
theorem dX6_front_42 : decode cX6_front 42 = .ok (.ifCond .ne 7, 3) := by decide +kernel
theorem dX6_front_45 : decode cX6_front 45 = .ok (.ldc2_w 275, 3) := by decide +kernel
theorem dX6_front_48 : decode cX6_front 48 = .ok (.lreturn, 1) := by decide +kernel
theorem dX6_front_49 : decode cX6_front 49 = .ok (.iload_n 2, 1) := by decide +kernel
theorem dX6_front_50 : decode cX6_front 50 = .ok (.tableswitch 79 0 3 #[30, 41, 52, 62], 30) := by decide +kernel
theorem dX6_front_80 : decode cX6_front 80 = .ok (.aload_n 0, 1) := by decide +kernel
theorem dX6_front_81 : decode cX6_front 81 = .ok (.getfield 51, 3) := by decide +kernel
theorem dX6_front_84 : decode cX6_front 84 = .ok (.getfield 238, 3) := by decide +kernel
theorem dX6_front_87 : decode cX6_front 87 = .ok (.iload_n 1, 1) := by decide +kernel
theorem dX6_front_88 : decode cX6_front 88 = .ok (.iaload, 1) := by decide +kernel
theorem dX6_front_89 : decode cX6_front 89 = .ok (.i2l, 1) := by decide +kernel
theorem dX6_front_90 : decode cX6_front 90 = .ok (.lreturn, 1) := by decide +kernel
theorem dX6_front_91 : decode cX6_front 91 = .ok (.aload_n 0, 1) := by decide +kernel
theorem dX6_front_92 : decode cX6_front 92 = .ok (.getfield 51, 3) := by decide +kernel
theorem dX6_front_95 : decode cX6_front 95 = .ok (.getfield 239, 3) := by decide +kernel
theorem dX6_front_98 : decode cX6_front 98 = .ok (.iload_n 1, 1) := by decide +kernel
theorem dX6_front_99 : decode cX6_front 99 = .ok (.iaload, 1) := by decide +kernel
theorem dX6_front_100 : decode cX6_front 100 = .ok (.i2l, 1) := by decide +kernel
theorem dX6_front_101 : decode cX6_front 101 = .ok (.lreturn, 1) := by decide +kernel
theorem dX6_front_102 : decode cX6_front 102 = .ok (.aload_n 0, 1) := by decide +kernel
theorem dX6_front_103 : decode cX6_front 103 = .ok (.getfield 51, 3) := by decide +kernel
theorem dX6_front_106 : decode cX6_front 106 = .ok (.getfield 243, 3) := by decide +kernel
theorem dX6_front_109 : decode cX6_front 109 = .ok (.iload_n 1, 1) := by decide +kernel
theorem dX6_front_110 : decode cX6_front 110 = .ok (.laload, 1) := by decide +kernel
theorem dX6_front_111 : decode cX6_front 111 = .ok (.lreturn, 1) := by decide +kernel
theorem dX6_front_112 : decode cX6_front 112 = .ok (.aload_n 0, 1) := by decide +kernel
theorem dX6_front_113 : decode cX6_front 113 = .ok (.getfield 51, 3) := by decide +kernel
theorem dX6_front_116 : decode cX6_front 116 = .ok (.iload_n 1, 1) := by decide +kernel
theorem dX6_front_117 : decode cX6_front 117 = .ok (.invokevirtual 289, 3) := by decide +kernel
theorem dX6_front_120 : decode cX6_front 120 = .ok (.ifCond .eq 7, 3) := by decide +kernel
theorem dX6_front_123 : decode cX6_front 123 = .ok (.lconst 1, 1) := by decide +kernel
theorem dX6_front_124 : decode cX6_front 124 = .ok (.goto 4, 3) := by decide +kernel
theorem dX6_front_127 : decode cX6_front 127 = .ok (.lconst 0, 1) := by decide +kernel
theorem dX6_front_128 : decode cX6_front 128 = .ok (.lreturn, 1) := by decide +kernel
theorem dX6_front_129 : decode cX6_front 129 = .ok (.ldc2_w 275, 3) := by decide +kernel
theorem dX6_front_132 : decode cX6_front 132 = .ok (.lreturn, 1) := by decide +kernel
set_option maxRecDepth 20000 in
theorem ggX6_other_X6_canBeRoom : GoodIn wsX6_other wsX6_canBeRoom := goodIn_r _ [7, 8] (by decide +kernel) (by decide +kernel)
set_option maxRecDepth 20000 in
theorem gX6_other_X6_canBeRoom : GoodIn wsX6_other (va_wsS RX6 101 yX6_canBeRoom wsX6_canBeRoom) := goodIn_app (goodIn_of _ (by decide +kernel)) ggX6_other_X6_canBeRoom
set_option maxRecDepth 20000 in
theorem ggX6_other_X1_copyFrom : GoodIn wsX6_other wsX1_copyFrom := goodIn_r _ [13, 14, 15, 16, 17, 18, 19, 20, 21, 22, 23, 189, 190, 191, 192, 193, 194] (by decide +kernel) (by decide +kernel)
set_option maxRecDepth 20000 in
theorem gX6_other_X1_copyFrom : GoodIn wsX6_other (wsV RX6 91 RX1 yX1_copyFrom wsX1_copyFrom) := goodIn_app (goodIn_of _ (by decide +kernel)) ggX6_other_X1_copyFrom
set_option maxRecDepth 20000 in
theorem ggX6_other_X6_optimumOfSupposed : GoodIn wsX6_other wsX6_optimumOfSupposed := goodIn_r _ [27, 1, 28, 29, 30, 31, 32, 33, 34, 35, 36, 37, 38, 39, 40, 41, 42, 43, 44, 45, 46, 47, 48, 49, 50, 51, 52, 53, 54, 55, 56, 57, 58, 59, 60, 61, 62, 63, 64, 65, 66, 67, 12, 68, 20, 14, 69, 70, 71, 72, 73, 74, 75, 76, 77, 78, 79, 80, 81, 82, 83, 84, 85, 86, 87, 88, 89, 90, 91, 92, 93, 94, 95, 96, 97, 98, 99, 100, 17, 18, 19, 101, 102, 103, 104, 105, 106, 107, 108, 109, 110, 111, 112, 113, 114, 115, 116, 117, 118, 119, 120, 121, 122, 123, 124, 125, 126, 127, 128, 129, 130, 131, 132, 133, 134, 135, 136, 137, 138, 139, 140, 141, 142, 143, 144, 145, 146, 147, 148, 149, 150, 151, 152, 153, 154, 155, 156, 157, 158, 159, 160, 161, 162, 163, 164, 165, 166, 167, 168, 169, 170, 171, 172, 173, 174, 175, 176, 177, 178, 179, 180, 181, 189, 190, 191, 192, 193, 194, 195, 196, 197, 198, 199, 200, 201, 202, 203, 204, 205, 206, 207, 208, 209, 210, 211, 212, 213, 214, 215, 216, 217] (by decide +kernel) (by decide +kernel)
set_option maxRecDepth 20000 in
theorem gX6_other_X6_optimumOfSupposed : GoodIn wsX6_other (wsV RX6 292 RX6 yX6_optimumOfSupposed wsX6_optimumOfSupposed) := goodIn_app (goodIn_of _ (by decide +kernel)) ggX6_other_X6_optimumOfSupposed
theorem dX6_other_0 : decode cX6_other 0 = .ok (.iload_n 1, 1) := by decide +kernel
theorem dX6_other_1 : decode cX6_other 1 = .ok (.i2l, 1) := by decide +kernel
theorem dX6_other_2 : decode cX6_other 2 = .ok (.invokestatic 101, 3) := by decide +kernel
theorem dX6_other_5 : decode cX6_other 5 = .ok (.ifCond .ne 5, 3) := by decide +kernel
theorem dX6_other_8 : decode cX6_other 8 = .ok (.iconst (-1), 1) := by decide +kernel
theorem dX6_other_9 : decode cX6_other 9 = .ok (.ireturn, 1) := by decide +kernel
theorem dX6_other_10 : decode cX6_other 10 = .ok (.aload_n 0, 1) := by decide +kernel
theorem dX6_other_11 : decode cX6_other 11 = .ok (.getfield 34, 3) := by decide +kernel
theorem dX6_other_14 : decode cX6_other 14 = .ok (.aload_n 0, 1) := by decide +kernel
theorem dX6_other_15 : decode cX6_other 15 = .ok (.getfield 10, 3) := by decide +kernel
theorem dX6_other_18 : decode cX6_other 18 = .ok (.getfield 85, 3) := by decide +kernel
theorem dX6_other_21 : decode cX6_other 21 = .ok (.invokevirtual 91, 3) := by decide +kernel
theorem dX6_other_24 : decode cX6_other 24 = .ok (.aload_n 0, 1) := by decide +kernel
theorem dX6_other_25 : decode cX6_other 25 = .ok (.iload_n 1, 1) := by decide +kernel
theorem dX6_other_26 : decode cX6_other 26 = .ok (.invokevirtual 292, 3) := by decide +kernel
theorem dX6_other_29 : decode cX6_other 29 = .ok (.ireturn, 1) := by decide +kernel
set_option maxRecDepth 20000 in
theorem ggX6_without_X1_has : GoodIn wsX6_without wsX1_has := goodIn_r _ [9, 10, 194, 195, 196, 197, 198, 199] (by decide +kernel) (by decide +kernel)
set_option maxRecDepth 20000 in
theorem gX6_without_X1_has : GoodIn wsX6_without (wsV RX6 128 RX1 yX1_has wsX1_has) := goodIn_app (goodIn_of _ (by decide +kernel)) ggX6_without_X1_has
set_option maxRecDepth 20000 in
theorem ggX6_without_X1_copyFrom : GoodIn wsX6_without wsX1_copyFrom := goodIn_r _ [14, 15, 10, 16, 17, 18, 19, 20, 21, 22, 23, 194, 195, 196, 197, 198, 199] (by decide +kernel) (by decide +kernel)
set_option maxRecDepth 20000 in
theorem gX6_without_X1_copyFrom : GoodIn wsX6_without (wsV RX6 91 RX1 yX1_copyFrom wsX1_copyFrom) := goodIn_app (goodIn_of _ (by decide +kernel)) ggX6_without_X1_copyFrom
set_option maxRecDepth 20000 in
theorem ggX6_without_X1_takeOut : GoodIn wsX6_without wsX1_takeOut := goodIn_r _ [27, 15, 10, 16, 17, 18, 19, 20, 28, 6, 7, 8, 9, 194, 195, 196, 197, 198, 199] (by decide +kernel) (by decide +kernel)
set_option maxRecDepth 20000 in
theorem gX6_without_X1_takeOut : GoodIn wsX6_without (wsV RX6 132 RX1 yX1_takeOut wsX1_takeOut) := goodIn_app (goodIn_of _ (by decide +kernel)) ggX6_without_X1_takeOut
set_option maxRecDepth 20000 in
theorem ggX6_without_X6_optimumOfSupposed : GoodIn wsX6_without wsX6_optimumOfSupposed := goodIn_r _ [33, 3, 4, 34, 35, 36, 37, 38, 39, 40, 41, 42, 43, 44, 45, 46, 47, 48, 49, 50, 51, 52, 53, 54, 55, 56, 57, 58, 59, 60, 61, 62, 63, 64, 65, 66, 67, 68, 69, 70, 71, 72, 8, 73, 20, 15, 74, 75, 76, 77, 78, 79, 80, 81, 82, 83, 84, 85, 86, 87, 88, 89, 90, 91, 92, 93, 94, 95, 96, 97, 98, 99, 100, 101, 102, 103, 104, 105, 17, 18, 19, 106, 107, 108, 109, 110, 111, 112, 113, 114, 115, 116, 117, 118, 119, 120, 121, 122, 123, 124, 125, 126, 127, 128, 129, 130, 131, 132, 133, 134, 135, 136, 137, 138, 139, 140, 141, 142, 143, 144, 145, 146, 147, 148, 149, 150, 151, 152, 153, 154, 155, 156, 157, 158, 159, 160, 161, 162, 163, 164, 165, 166, 167, 168, 169, 170, 171, 172, 173, 174, 175, 176, 177, 178, 179, 180, 181, 182, 183, 184, 185, 186, 194, 195, 196, 197, 198, 199, 200, 201, 202, 203, 204, 205, 206, 207, 208, 209, 210, 211, 212, 213, 214, 215, 216, 217, 218, 219, 220, 221, 222] (by decide +kernel) (by decide +kernel)
set_option maxRecDepth 20000 in
theorem gX6_without_X6_optimumOfSupposed : GoodIn wsX6_without (wsV RX6 292 RX6 yX6_optimumOfSupposed wsX6_optimumOfSupposed) := goodIn_app (goodIn_of _ (by decide +kernel)) ggX6_without_X6_optimumOfSupposed
theorem dX6_without_0 : decode cX6_without 0 = .ok (.aload_n 0, 1) := by decide +kernel
theorem dX6_without_1 : decode cX6_without 1 = .ok (.getfield 10, 3) := by decide +kernel
theorem dX6_without_4 : decode cX6_without 4 = .ok (.getfield 85, 3) := by decide +kernel
theorem dX6_without_7 : decode cX6_without 7 = .ok (.iload_n 1, 1) := by decide +kernel
theorem dX6_without_8 : decode cX6_without 8 = .ok (.invokevirtual 128, 3) := by decide +kernel
theorem dX6_without_11 : decode cX6_without 11 = .ok (.ifCond .ne 5, 3) := by decide +kernel
theorem dX6_without_14 : decode cX6_without 14 = .ok (.iconst (-1), 1) := by decide +kernel
theorem dX6_without_15 : decode cX6_without 15 = .ok (.ireturn, 1) := by decide +kernel
theorem dX6_without_16 : decode cX6_without 16 = .ok (.aload_n 0, 1) := by decide +kernel
theorem dX6_without_17 : decode cX6_without 17 = .ok (.getfield 34, 3) := by decide +kernel
theorem dX6_without_20 : decode cX6_without 20 = .ok (.aload_n 0, 1) := by decide +kernel
theorem dX6_without_21 : decode cX6_without 21 = .ok (.getfield 10, 3) := by decide +kernel
theorem dX6_without_24 : decode cX6_without 24 = .ok (.getfield 85, 3) := by decide +kernel
theorem dX6_without_27 : decode cX6_without 27 = .ok (.invokevirtual 91, 3) := by decide +kernel
theorem dX6_without_30 : decode cX6_without 30 = .ok (.aload_n 0, 1) := by decide +kernel
theorem dX6_without_31 : decode cX6_without 31 = .ok (.getfield 34, 3) := by decide +kernel
theorem dX6_without_34 : decode cX6_without 34 = .ok (.iload_n 1, 1) := by decide +kernel
theorem dX6_without_35 : decode cX6_without 35 = .ok (.invokevirtual 132, 3) := by decide +kernel
theorem dX6_without_38 : decode cX6_without 38 = .ok (.aload_n 0, 1) := by decide +kernel
theorem dX6_without_39 : decode cX6_without 39 = .ok (.aload_n 0, 1) := by decide +kernel
theorem dX6_without_40 : decode cX6_without 40 = .ok (.getfield 10, 3) := by decide +kernel
theorem dX6_without_43 : decode cX6_without 43 = .ok (.getfield 85, 3) := by decide +kernel
theorem dX6_without_46 : decode cX6_without 46 = .ok (.getfield 105, 3) := by decide +kernel
theorem dX6_without_49 : decode cX6_without 49 = .ok (.invokevirtual 292, 3) := by decide +kernel
theorem dX6_without_52 : decode cX6_without 52 = .ok (.ireturn, 1) := by decide +kernel
set_option maxRecDepth 20000 in
theorem ggX6_with_X1_has : GoodIn wsX6_with wsX1_has := goodIn_r _ [11, 12, 196, 197, 198, 199, 200, 201] (by decide +kernel) (by decide +kernel)
set_option maxRecDepth 20000 in
theorem gX6_with_X1_has : GoodIn wsX6_with (wsV RX6 128 RX1 yX1_has wsX1_has) := goodIn_app (goodIn_of _ (by decide +kernel)) ggX6_with_X1_has
set_option maxRecDepth 20000 in
theorem ggX6_with_X1_copyFrom : GoodIn wsX6_with wsX1_copyFrom := goodIn_r _ [16, 17, 12, 18, 19, 20, 21, 22, 23, 24, 25, 196, 197, 198, 199, 200, 201] (by decide +kernel) (by decide +kernel)
set_option maxRecDepth 20000 in
theorem gX6_with_X1_copyFrom : GoodIn wsX6_with (wsV RX6 91 RX1 yX1_copyFrom wsX1_copyFrom) := goodIn_app (goodIn_of _ (by decide +kernel)) ggX6_with_X1_copyFrom
set_option maxRecDepth 20000 in
theorem ggX6_with_X1_takeOut : GoodIn wsX6_with wsX1_takeOut := goodIn_r _ [29, 17, 12, 18, 19, 20, 21, 22, 30, 8, 9, 10, 11, 196, 197, 198, 199, 200, 201] (by decide +kernel) (by decide +kernel)
set_option maxRecDepth 20000 in
theorem gX6_with_X1_takeOut : GoodIn wsX6_with (wsV RX6 132 RX1 yX1_takeOut wsX1_takeOut) := goodIn_app (goodIn_of _ (by decide +kernel)) ggX6_with_X1_takeOut
set_option maxRecDepth 20000 in
theorem ggX6_with_X6_optimumOfSupposed : GoodIn wsX6_with wsX6_optimumOfSupposed := goodIn_r _ [35, 5, 4, 36, 37, 38, 39, 40, 41, 42, 43, 44, 45, 46, 47, 48, 49, 50, 51, 52, 53, 54, 55, 56, 57, 58, 59, 60, 61, 62, 63, 64, 65, 66, 67, 68, 69, 70, 71, 72, 73, 74, 10, 75, 22, 17, 76, 77, 78, 79, 80, 81, 82, 83, 84, 85, 86, 87, 88, 89, 90, 91, 92, 93, 94, 95, 96, 97, 98, 99, 100, 101, 102, 103, 104, 105, 106, 107, 19, 20, 21, 108, 109, 110, 111, 112, 113, 114, 115, 116, 117, 118, 119, 120, 121, 122, 123, 124, 125, 126, 127, 128, 129, 130, 131, 132, 133, 134, 135, 136, 137, 138, 139, 140, 141, 142, 143, 144, 145, 146, 147, 148, 149, 150, 151, 152, 153, 154, 155, 156, 157, 158, 159, 160, 161, 162, 163, 164, 165, 166, 167, 168, 169, 170, 171, 172, 173, 174, 175, 176, 177, 178, 179, 180, 181, 182, 183, 184, 185, 186, 187, 188, 196, 197, 198, 199, 200, 201, 202, 203, 204, 205, 206, 207, 208, 209, 210, 211, 212, 213, 214, 215, 216, 217, 218, 219, 220, 221, 222, 223, 224] (by decide +kernel) (by decide +kernel)
set_option maxRecDepth 20000 in
theorem gX6_with_X6_optimumOfSupposed : GoodIn wsX6_with (wsV RX6 292 RX6 yX6_optimumOfSupposed wsX6_optimumOfSupposed) := goodIn_app (goodIn_of _ (by decide +kernel)) ggX6_with_X6_optimumOfSupposed
theorem dX6_with_0 : decode cX6_with 0 = .ok (.aload_n 0, 1) := by decide +kernel
theorem dX6_with_1 : decode cX6_with 1 = .ok (.getfield 10, 3) := by decide +kernel
theorem dX6_with_4 : decode cX6_with 4 = .ok (.getfield 85, 3) := by decide +kernel
theorem dX6_with_7 : decode cX6_with 7 = .ok (.iload_n 1, 1) := by decide +kernel
theorem dX6_with_8 : decode cX6_with 8 = .ok (.invokevirtual 128, 3) := by decide +kernel
theorem dX6_with_11 : decode cX6_with 11 = .ok (.ifCond .eq 28, 3) := by decide +kernel
theorem dX6_with_14 : decode cX6_with 14 = .ok (.aload_n 0, 1) := by decide +kernel
theorem dX6_with_15 : decode cX6_with 15 = .ok (.getfield 10, 3) := by decide +kernel
theorem dX6_with_18 : decode cX6_with 18 = .ok (.getfield 85, 3) := by decide +kernel
theorem dX6_with_21 : decode cX6_with 21 = .ok (.getfield 207, 3) := by decide +kernel
theorem dX6_with_24 : decode cX6_with 24 = .ok (.iload_n 1, 1) := by decide +kernel
theorem dX6_with_25 : decode cX6_with 25 = .ok (.iaload, 1) := by decide +kernel
theorem dX6_with_26 : decode cX6_with 26 = .ok (.aload_n 0, 1) := by decide +kernel
theorem dX6_with_27 : decode cX6_with 27 = .ok (.getfield 10, 3) := by decide +kernel
theorem dX6_with_30 : decode cX6_with 30 = .ok (.getfield 85, 3) := by decide +kernel
theorem dX6_with_33 : decode cX6_with 33 = .ok (.getfield 105, 3) := by decide +kernel
theorem dX6_with_36 : decode cX6_with 36 = .ok (.if_icmp .le 5, 3) := by decide +kernel
theorem dX6_with_39 : decode cX6_with 39 = .ok (.iconst (-1), 1) := by decide +kernel
theorem dX6_with_40 : decode cX6_with 40 = .ok (.ireturn, 1) := by decide +kernel
theorem dX6_with_41 : decode cX6_with 41 = .ok (.aload_n 0, 1) := by decide +kernel
theorem dX6_with_42 : decode cX6_with 42 = .ok (.getfield 34, 3) := by decide +kernel
theorem dX6_with_45 : decode cX6_with 45 = .ok (.aload_n 0, 1) := by decide +kernel
theorem dX6_with_46 : decode cX6_with 46 = .ok (.getfield 10, 3) := by decide +kernel
theorem dX6_with_49 : decode cX6_with 49 = .ok (.getfield 85, 3) := by decide +kernel
theorem dX6_with_52 : decode cX6_with 52 = .ok (.invokevirtual 91, 3) := by decide +kernel
theorem dX6_with_55 : decode cX6_with 55 = .ok (.aload_n 0, 1) := by decide +kernel
theorem dX6_with_56 : decode cX6_with 56 = .ok (.getfield 34, 3) := by decide +kernel
theorem dX6_with_59 : decode cX6_with 59 = .ok (.iload_n 1, 1) := by decide +kernel
theorem dX6_with_60 : decode cX6_with 60 = .ok (.invokevirtual 132, 3) := by decide +kernel
theorem dX6_with_63 : decode cX6_with 63 = .ok (.aload_n 0, 1) := by decide +kernel
theorem dX6_with_64 : decode cX6_with 64 = .ok (.aload_n 0, 1) := by decide +kernel
theorem dX6_with_65 : decode cX6_with 65 = .ok (.getfield 10, 3) := by decide +kernel
theorem dX6_with_68 : decode cX6_with 68 = .ok (.getfield 85, 3) := by decide +kernel
theorem dX6_with_71 : decode cX6_with 71 = .ok (.getfield 105, 3) := by decide +kernel
theorem dX6_with_74 : decode cX6_with 74 = .ok (.aload_n 0, 1) := by decide +kernel
theorem dX6_with_75 : decode cX6_with 75 = .ok (.getfield 10, 3) := by decide +kernel
theorem dX6_with_78 : decode cX6_with 78 = .ok (.getfield 85, 3) := by decide +kernel
theorem dX6_with_81 : decode cX6_with 81 = .ok (.getfield 207, 3) := by decide +kernel
theorem dX6_with_84 : decode cX6_with 84 = .ok (.iload_n 1, 1) := by decide +kernel
theorem dX6_with_85 : decode cX6_with 85 = .ok (.iaload, 1) := by decide +kernel
theorem dX6_with_86 : decode cX6_with 86 = .ok (.isub, 1) := by decide +kernel
theorem dX6_with_87 : decode cX6_with 87 = .ok (.invokevirtual 292, 3) := by decide +kernel
theorem dX6_with_90 : decode cX6_with 90 = .ok (.istore_n 2, 1) := by decide +kernel
theorem dX6_with_91 : decode cX6_with 91 = .ok (.iload_n 2, 1) := by decide +kernel
theorem dX6_with_92 : decode cX6_with 92 = .ok (.iconst (-1), 1) := by decide +kernel
theorem dX6_with_93 : decode cX6_with 93 = .ok (.if_icmp .ne 7, 3) := by decide +kernel
theorem dX6_with_96 : decode cX6_with 96 = .ok (.iconst (-1), 1) := by decide +kernel
theorem dX6_with_97 : decode cX6_with 97 = .ok (.goto 17, 3) := by decide +kernel
theorem dX6_with_100 : decode cX6_with 100 = .ok (.iload_n 2, 1) := by decide +kernel
theorem dX6_with_101 : decode cX6_with 101 = .ok (.aload_n 0, 1) := by decide +kernel
theorem dX6_with_102 : decode cX6_with 102 = .ok (.getfield 10, 3) := by decide +kernel
theorem dX6_with_105 : decode cX6_with 105 = .ok (.getfield 85, 3) := by decide +kernel
theorem dX6_with_108 : decode cX6_with 108 = .ok (.getfield 211, 3) := by decide +kernel
theorem dX6_with_111 : decode cX6_with 111 = .ok (.iload_n 1, 1) := by decide +kernel
theorem dX6_with_112 : decode cX6_with 112 = .ok (.iaload, 1) := by decide +kernel
theorem dX6_with_113 : decode cX6_with 113 = .ok (.iadd, 1) := by decide +kernel
theorem dX6_with_114 : decode cX6_with 114 = .ok (.ireturn, 1) := by decide +kernel
set_option maxRecDepth 20000 in
theorem ggX6_least_X1_copyFrom : GoodIn wsX6_least wsX1_copyFrom := goodIn_r _ [13, 14, 15, 16, 17, 18, 19, 20, 21, 22, 23, 197, 198, 199, 200, 201, 202] (by decide +kernel) (by decide +kernel)
set_option maxRecDepth 20000 in
theorem gX6_least_X1_copyFrom : GoodIn wsX6_least (wsV RX6 91 RX1 yX1_copyFrom wsX1_copyFrom) := goodIn_app (goodIn_of _ (by decide +kernel)) ggX6_least_X1_copyFrom
set_option maxRecDepth 20000 in
theorem ggX6_least_X1_allWeights : GoodIn wsX6_least wsX1_allWeights := goodIn_r _ [27, 14, 28, 29, 30, 12, 31, 15, 197, 198, 199, 200, 201, 202] (by decide +kernel) (by decide +kernel)
set_option maxRecDepth 20000 in
theorem gX6_least_X1_allWeights : GoodIn wsX6_least (wsV RX6 193 RX1 yX1_allWeights wsX1_allWeights) := goodIn_app (goodIn_of _ (by decide +kernel)) ggX6_least_X1_allWeights
set_option maxRecDepth 20000 in
theorem ggX6_least_X6_optimumOfSupposed : GoodIn wsX6_least wsX6_optimumOfSupposed := goodIn_r _ [36, 1, 37, 38, 39, 40, 41, 42, 43, 44, 45, 46, 47, 48, 49, 50, 51, 52, 53, 54, 55, 56, 57, 58, 59, 60, 61, 62, 63, 64, 65, 66, 67, 68, 69, 70, 71, 72, 73, 74, 75, 76, 12, 77, 20, 14, 78, 79, 80, 81, 82, 83, 84, 85, 86, 87, 88, 89, 90, 91, 92, 93, 94, 95, 96, 97, 98, 99, 100, 101, 102, 103, 104, 105, 106, 7, 107, 108, 17, 18, 19, 109, 110, 111, 112, 113, 114, 115, 116, 117, 118, 119, 120, 121, 122, 123, 124, 125, 126, 127, 128, 129, 130, 131, 132, 133, 134, 135, 136, 137, 138, 139, 140, 141, 142, 143, 144, 145, 146, 147, 148, 149, 150, 151, 152, 153, 154, 155, 156, 157, 158, 159, 160, 161, 162, 163, 164, 165, 166, 167, 168, 169, 170, 171, 172, 173, 174, 175, 176, 177, 178, 179, 180, 181, 182, 183, 184, 185, 186, 187, 188, 189, 197, 198, 199, 200, 201, 202, 203, 204, 205, 206, 207, 208, 209, 210, 211, 212, 213, 214, 215, 216, 217, 218, 219, 220, 221, 222, 223, 224, 225] (by decide +kernel) (by decide +kernel)
set_option maxRecDepth 20000 in
theorem gX6_least_X6_optimumOfSupposed : GoodIn wsX6_least (wsV RX6 292 RX6 yX6_optimumOfSupposed wsX6_optimumOfSupposed) := goodIn_app (goodIn_of _ (by decide +kernel)) ggX6_least_X6_optimumOfSupposed
theorem dX6_least_0 : decode cX6_least 0 = .ok (.iload_n 1, 1) := by decide +kernel
theorem dX6_least_1 : decode cX6_least 1 = .ok (.ifCond .ge 5, 3) := by decide +kernel
theorem dX6_least_4 : decode cX6_least 4 = .ok (.iconst (-1), 1) := by decide +kernel
theorem dX6_least_5 : decode cX6_least 5 = .ok (.ireturn, 1) := by decide +kernel
theorem dX6_least_6 : decode cX6_least 6 = .ok (.aload_n 0, 1) := by decide +kernel
theorem dX6_least_7 : decode cX6_least 7 = .ok (.getfield 34, 3) := by decide +kernel
theorem dX6_least_10 : decode cX6_least 10 = .ok (.aload_n 0, 1) := by decide +kernel
theorem dX6_least_11 : decode cX6_least 11 = .ok (.getfield 10, 3) := by decide +kernel
theorem dX6_least_14 : decode cX6_least 14 = .ok (.getfield 85, 3) := by decide +kernel
theorem dX6_least_17 : decode cX6_least 17 = .ok (.invokevirtual 91, 3) := by decide +kernel
theorem dX6_least_20 : decode cX6_least 20 = .ok (.iconst 0, 1) := by decide +kernel
theorem dX6_least_21 : decode cX6_least 21 = .ok (.istore_n 2, 1) := by decide +kernel
theorem dX6_least_22 : decode cX6_least 22 = .ok (.aload_n 0, 1) := by decide +kernel
theorem dX6_least_23 : decode cX6_least 23 = .ok (.getfield 10, 3) := by decide +kernel
theorem dX6_least_26 : decode cX6_least 26 = .ok (.getfield 85, 3) := by decide +kernel
theorem dX6_least_29 : decode cX6_least 29 = .ok (.invokevirtual 193, 3) := by decide +kernel
theorem dX6_least_32 : decode cX6_least 32 = .ok (.ldc2_w 295, 3) := by decide +kernel
theorem dX6_least_35 : decode cX6_least 35 = .ok (.invokestatic 297, 3) := by decide +kernel
theorem dX6_least_38 : decode cX6_least 38 = .ok (.l2i, 1) := by decide +kernel
theorem dX6_least_39 : decode cX6_least 39 = .ok (.istore_n 3, 1) := by decide +kernel
theorem dX6_least_40 : decode cX6_least 40 = .ok (.aload_n 0, 1) := by decide +kernel
theorem dX6_least_41 : decode cX6_least 41 = .ok (.iload_n 3, 1) := by decide +kernel
theorem dX6_least_42 : decode cX6_least 42 = .ok (.invokevirtual 292, 3) := by decide +kernel
theorem dX6_least_45 : decode cX6_least 45 = .ok (.istore 4, 2) := by decide +kernel
theorem dX6_least_47 : decode cX6_least 47 = .ok (.iload 4, 2) := by decide +kernel
theorem dX6_least_49 : decode cX6_least 49 = .ok (.iconst (-1), 1) := by decide +kernel
theorem dX6_least_50 : decode cX6_least 50 = .ok (.if_icmp .eq 9, 3) := by decide +kernel
theorem dX6_least_53 : decode cX6_least 53 = .ok (.iload 4, 2) := by decide +kernel
theorem dX6_least_55 : decode cX6_least 55 = .ok (.iload_n 1, 1) := by decide +kernel
theorem dX6_least_56 : decode cX6_least 56 = .ok (.if_icmp .ge 5, 3) := by decide +kernel
theorem dX6_least_59 : decode cX6_least 59 = .ok (.iconst (-1), 1) := by decide +kernel
theorem dX6_least_60 : decode cX6_least 60 = .ok (.ireturn, 1) := by decide +kernel
theorem dX6_least_61 : decode cX6_least 61 = .ok (.iconst 0, 1) := by decide +kernel
theorem dX6_least_62 : decode cX6_least 62 = .ok (.istore 5, 2) := by decide +kernel
theorem dX6_least_64 : decode cX6_least 64 = .ok (.iload 5, 2) := by decide +kernel
theorem dX6_least_66 : decode cX6_least 66 = .ok (.bipush 32, 2) := by decide +kernel
theorem dX6_least_68 : decode cX6_least 68 = .ok (.if_icmp .ge 56, 3) := by decide +kernel
theorem dX6_least_71 : decode cX6_least 71 = .ok (.iload_n 2, 1) := by decide +kernel
theorem dX6_least_72 : decode cX6_least 72 = .ok (.iload_n 3, 1) := by decide +kernel
theorem dX6_least_73 : decode cX6_least 73 = .ok (.if_icmp .ge 51, 3) := by decide +kernel
theorem dX6_least_76 : decode cX6_least 76 = .ok (.iload_n 2, 1) := by decide +kernel
theorem dX6_least_77 : decode cX6_least 77 = .ok (.iload_n 3, 1) := by decide +kernel
theorem dX6_least_78 : decode cX6_least 78 = .ok (.iload_n 2, 1) := by decide +kernel
theorem dX6_least_79 : decode cX6_least 79 = .ok (.isub, 1) := by decide +kernel
theorem dX6_least_80 : decode cX6_least 80 = .ok (.iconst 2, 1) := by decide +kernel
theorem dX6_least_81 : decode cX6_least 81 = .ok (.idiv, 1) := by decide +kernel
theorem dX6_least_82 : decode cX6_least 82 = .ok (.iadd, 1) := by decide +kernel
theorem dX6_least_83 : decode cX6_least 83 = .ok (.istore 6, 2) := by decide +kernel
theorem dX6_least_85 : decode cX6_least 85 = .ok (.aload_n 0, 1) := by decide +kernel
theorem dX6_least_86 : decode cX6_least 86 = .ok (.iload 6, 2) := by decide +kernel
theorem dX6_least_88 : decode cX6_least 88 = .ok (.invokevirtual 292, 3) := by decide +kernel
theorem dX6_least_91 : decode cX6_least 91 = .ok (.istore 4, 2) := by decide +kernel
theorem dX6_least_93 : decode cX6_least 93 = .ok (.iload 4, 2) := by decide +kernel
theorem dX6_least_95 : decode cX6_least 95 = .ok (.iconst (-1), 1) := by decide +kernel
theorem dX6_least_96 : decode cX6_least 96 = .ok (.if_icmp .ne 5, 3) := by decide +kernel
theorem dX6_least_99 : decode cX6_least 99 = .ok (.iconst (-1), 1) := by decide +kernel
theorem dX6_least_100 : decode cX6_least 100 = .ok (.ireturn, 1) := by decide +kernel
theorem dX6_least_101 : decode cX6_least 101 = .ok (.iload 4, 2) := by decide +kernel
theorem dX6_least_103 : decode cX6_least 103 = .ok (.iload_n 1, 1) := by decide +kernel
theorem dX6_least_104 : decode cX6_least 104 = .ok (.if_icmp .lt 9, 3) := by decide +kernel
theorem dX6_least_107 : decode cX6_least 107 = .ok (.iload 6, 2) := by decide +kernel
theorem dX6_least_109 : decode cX6_least 109 = .ok (.istore_n 3, 1) := by decide +kernel
theorem dX6_least_110 : decode cX6_least 110 = .ok (.goto 8, 3) := by decide +kernel
theorem dX6_least_113 : decode cX6_least 113 = .ok (.iload 6, 2) := by decide +kernel
theorem dX6_least_115 : decode cX6_least 115 = .ok (.iconst 1, 1) := by decide +kernel
theorem dX6_least_116 : decode cX6_least 116 = .ok (.iadd, 1) := by decide +kernel
theorem dX6_least_117 : decode cX6_least 117 = .ok (.istore_n 2, 1) := by decide +kernel
theorem dX6_least_118 : decode cX6_least 118 = .ok (.iinc 5 1, 3) := by decide +kernel
theorem dX6_least_121 : decode cX6_least 121 = .ok (.goto (-57), 3) := by decide +kernel
theorem dX6_least_124 : decode cX6_least 124 = .ok (.iload_n 3, 1) := by decide +kernel
theorem dX6_least_125 : decode cX6_least 125 = .ok (.ireturn, 1) := by decide +kernel
set_option maxRecDepth 20000 in
theorem ggX6_ahead_X0_begin : GoodIn wsX6_ahead wsX0_begin := goodIn_r _ [10, 11, 12, 13, 14, 15, 16, 17, 18, 19, 20, 21, 22, 23, 24, 25, 26, 27, 28, 29, 30, 31, 32, 33, 34, 35, 36, 37, 38, 39, 40, 41, 42, 43, 44, 45, 46, 47, 48, 49, 50, 51, 52, 53, 54, 55, 56, 57, 58, 59, 60, 61, 62, 63, 64, 65, 66, 67, 68, 69, 70, 71, 72, 73, 74, 75, 76, 77, 78, 79, 80, 81, 82, 83, 84, 85, 86, 87, 88, 89, 173, 174, 175, 176, 177, 178, 179, 180, 181, 182, 183, 184, 185, 186, 187, 188, 189, 190, 191, 192, 193, 194, 195, 196, 197, 198, 199, 200, 201] (by decide +kernel) (by decide +kernel)
set_option maxRecDepth 20000 in
theorem gX6_ahead_X0_begin : GoodIn wsX6_ahead (wsV RX6 303 RX0 yX0_begin wsX0_begin) := goodIn_app (goodIn_of _ (by decide +kernel)) ggX6_ahead_X0_begin
set_option maxRecDepth 20000 in
theorem ggX6_ahead_X0_widenTo : GoodIn wsX6_ahead wsX0_widenTo := goodIn_r _ [93, 17, 94, 95, 96, 9, 97, 16, 11, 98, 15, 99, 23, 100, 101, 13, 102, 103, 104, 105, 24, 106, 107, 108, 57, 109, 59, 61, 60, 62, 110, 111, 112, 113, 114, 55, 56, 58, 63, 64, 65, 66, 67, 68, 69, 70, 71, 72, 73, 74, 75, 76, 77, 78, 79, 80, 81, 82, 83, 84, 85, 86, 87, 88, 89, 115, 116, 117, 118, 119, 21, 120, 19, 121, 22, 122, 123, 124, 125, 126, 127, 128, 129, 130, 131, 132, 133, 134, 135, 136, 137, 138, 28, 139, 31, 36, 38, 140, 141, 142, 143, 144, 145, 146, 147, 173, 174, 175, 176, 177, 178, 179, 180, 181, 182, 189, 190, 191, 192, 193, 194, 195, 196, 197, 198, 199, 200, 201] (by decide +kernel) (by decide +kernel)
set_option maxRecDepth 20000 in
theorem gX6_ahead_X0_widenTo : GoodIn wsX6_ahead (wsV RX6 306 RX0 yX0_widenTo wsX0_widenTo) := goodIn_app (goodIn_of _ (by decide +kernel)) ggX6_ahead_X0_widenTo
set_option maxRecDepth 20000 in
theorem ggX6_ahead_X0_widenToTheEnd : GoodIn wsX6_ahead wsX0_widenToTheEnd := goodIn_r _ [151, 23, 24, 152, 153, 76, 154, 94, 95, 96, 9, 97, 17, 16, 11, 98, 15, 99, 100, 101, 13, 102, 103, 104, 105, 106, 107, 108, 57, 109, 59, 61, 60, 62, 110, 111, 112, 113, 114, 55, 56, 58, 63, 64, 65, 66, 67, 68, 69, 70, 71, 72, 73, 74, 75, 77, 78, 79, 80, 81, 82, 83, 84, 85, 86, 87, 88, 89, 115, 116, 117, 118, 119, 21, 120, 19, 121, 22, 122, 123, 124, 125, 126, 127, 128, 129, 130, 131, 132, 133, 134, 135, 136, 137, 138, 28, 139, 31, 36, 38, 140, 141, 142, 143, 144, 145, 146, 147, 173, 174, 175, 176, 177, 178, 179, 180, 181, 182, 198, 199, 200, 201, 189, 190, 191, 192, 193, 194, 195, 196, 197] (by decide +kernel) (by decide +kernel)
set_option maxRecDepth 20000 in
theorem gX6_ahead_X0_widenToTheEnd : GoodIn wsX6_ahead (wsV RX6 153 RX0 yX0_widenToTheEnd wsX0_widenToTheEnd) := goodIn_app (goodIn_of _ (by decide +kernel)) ggX6_ahead_X0_widenToTheEnd
theorem dX6_ahead_0 : decode cX6_ahead 0 = .ok (.aload_n 0, 1) := by decide +kernel
theorem dX6_ahead_1 : decode cX6_ahead 1 = .ok (.getfield 38, 3) := by decide +kernel
theorem dX6_ahead_4 : decode cX6_ahead 4 = .ok (.aload_n 0, 1) := by decide +kernel
theorem dX6_ahead_5 : decode cX6_ahead 5 = .ok (.getfield 10, 3) := by decide +kernel
theorem dX6_ahead_8 : decode cX6_ahead 8 = .ok (.getfield 85, 3) := by decide +kernel
theorem dX6_ahead_11 : decode cX6_ahead 11 = .ok (.invokevirtual 303, 3) := by decide +kernel
theorem dX6_ahead_14 : decode cX6_ahead 14 = .ok (.aload_n 0, 1) := by decide +kernel
theorem dX6_ahead_15 : decode cX6_ahead 15 = .ok (.getfield 38, 3) := by decide +kernel
theorem dX6_ahead_18 : decode cX6_ahead 18 = .ok (.aload_n 0, 1) := by decide +kernel
theorem dX6_ahead_19 : decode cX6_ahead 19 = .ok (.getfield 30, 3) := by decide +kernel
theorem dX6_ahead_22 : decode cX6_ahead 22 = .ok (.getfield 143, 3) := by decide +kernel
theorem dX6_ahead_25 : decode cX6_ahead 25 = .ok (.invokevirtual 306, 3) := by decide +kernel
theorem dX6_ahead_28 : decode cX6_ahead 28 = .ok (.aload_n 0, 1) := by decide +kernel
theorem dX6_ahead_29 : decode cX6_ahead 29 = .ok (.getfield 38, 3) := by decide +kernel
theorem dX6_ahead_32 : decode cX6_ahead 32 = .ok (.invokevirtual 153, 3) := by decide +kernel
theorem dX6_ahead_35 : decode cX6_ahead 35 = .ok (.istore_n 2, 1) := by decide +kernel
theorem dX6_ahead_36 : decode cX6_ahead 36 = .ok (.iload_n 1, 1) := by decide +kernel
theorem dX6_ahead_37 : decode cX6_ahead 37 = .ok (.ifCond .eq 7, 3) := by decide +kernel
theorem dX6_ahead_40 : decode cX6_ahead 40 = .ok (.iload_n 2, 1) := by decide +kernel
theorem dX6_ahead_41 : decode cX6_ahead 41 = .ok (.goto 18, 3) := by decide +kernel
theorem dX6_ahead_44 : decode cX6_ahead 44 = .ok (.aload_n 0, 1) := by decide +kernel
theorem dX6_ahead_45 : decode cX6_ahead 45 = .ok (.getfield 38, 3) := by decide +kernel
theorem dX6_ahead_48 : decode cX6_ahead 48 = .ok (.getfield 143, 3) := by decide +kernel
theorem dX6_ahead_51 : decode cX6_ahead 51 = .ok (.aload_n 0, 1) := by decide +kernel
theorem dX6_ahead_52 : decode cX6_ahead 52 = .ok (.getfield 30, 3) := by decide +kernel
theorem dX6_ahead_55 : decode cX6_ahead 55 = .ok (.getfield 143, 3) := by decide +kernel
theorem dX6_ahead_58 : decode cX6_ahead 58 = .ok (.isub, 1) := by decide +kernel
theorem dX6_ahead_59 : decode cX6_ahead 59 = .ok (.ireturn, 1) := by decide +kernel
set_option maxRecDepth 20000 in
theorem ggX6_shelve_X6_isShelfPlace : GoodIn wsX6_shelve wsX6_isShelfPlace := goodIn_r _ [14] (by decide +kernel) (by decide +kernel)
set_option maxRecDepth 20000 in
theorem gX6_shelve_X6_isShelfPlace : GoodIn wsX6_shelve (va_wsS RX6 309 yX6_isShelfPlace wsX6_isShelfPlace) := goodIn_app (goodIn_of _ (by decide +kernel)) ggX6_shelve_X6_isShelfPlace
set_option maxRecDepth 20000 in
theorem ggX6_shelve_X4_has : GoodIn wsX6_shelve wsX4_has := goodIn_r _ [19, 20, 55, 56, 57, 58] (by decide +kernel) (by decide +kernel)
set_option maxRecDepth 20000 in
theorem gX6_shelve_X4_has : GoodIn wsX6_shelve (wsV RX6 235 RX4 yX4_has wsX4_has) := goodIn_app (goodIn_of _ (by decide +kernel)) ggX6_shelve_X4_has
set_option maxRecDepth 20000 in
theorem ggX6_shelve_X1_has : GoodIn wsX6_shelve wsX1_has := goodIn_r _ [25, 26, 59, 60, 61, 62, 63, 64] (by decide +kernel) (by decide +kernel)
set_option maxRecDepth 20000 in
theorem gX6_shelve_X1_has : GoodIn wsX6_shelve (wsV RX6 128 RX1 yX1_has wsX1_has) := goodIn_app (goodIn_of _ (by decide +kernel)) ggX6_shelve_X1_has
theorem dX6_shelve_0 : decode cX6_shelve 0 = .ok (.iload_n 1, 1) := by decide +kernel
theorem dX6_shelve_1 : decode cX6_shelve 1 = .ok (.iload_n 2, 1) := by decide +kernel
theorem dX6_shelve_2 : decode cX6_shelve 2 = .ok (.invokestatic 309, 3) := by decide +kernel
theorem dX6_shelve_5 : decode cX6_shelve 5 = .ok (.ifCond .ne 5, 3) := by decide +kernel
theorem dX6_shelve_8 : decode cX6_shelve 8 = .ok (.iconst (-1), 1) := by decide +kernel
theorem dX6_shelve_9 : decode cX6_shelve 9 = .ok (.ireturn, 1) := by decide +kernel
theorem dX6_shelve_10 : decode cX6_shelve 10 = .ok (.iload_n 3, 1) := by decide +kernel
theorem dX6_shelve_11 : decode cX6_shelve 11 = .ok (.ifCond .eq 21, 3) := by decide +kernel
theorem dX6_shelve_14 : decode cX6_shelve 14 = .ok (.aload_n 0, 1) := by decide +kernel
theorem dX6_shelve_15 : decode cX6_shelve 15 = .ok (.getfield 30, 3) := by decide +kernel
theorem dX6_shelve_18 : decode cX6_shelve 18 = .ok (.getfield 147, 3) := by decide +kernel
theorem dX6_shelve_21 : decode cX6_shelve 21 = .ok (.iload 4, 2) := by decide +kernel
theorem dX6_shelve_23 : decode cX6_shelve 23 = .ok (.invokevirtual 235, 3) := by decide +kernel
theorem dX6_shelve_26 : decode cX6_shelve 26 = .ok (.ifCond .ne 23, 3) := by decide +kernel
theorem dX6_shelve_29 : decode cX6_shelve 29 = .ok (.goto 18, 3) := by decide +kernel
theorem dX6_shelve_32 : decode cX6_shelve 32 = .ok (.aload_n 0, 1) := by decide +kernel
theorem dX6_shelve_33 : decode cX6_shelve 33 = .ok (.getfield 10, 3) := by decide +kernel
theorem dX6_shelve_36 : decode cX6_shelve 36 = .ok (.getfield 85, 3) := by decide +kernel
theorem dX6_shelve_39 : decode cX6_shelve 39 = .ok (.iload 4, 2) := by decide +kernel
theorem dX6_shelve_41 : decode cX6_shelve 41 = .ok (.invokevirtual 128, 3) := by decide +kernel
theorem dX6_shelve_44 : decode cX6_shelve 44 = .ok (.ifCond .ne 5, 3) := by decide +kernel
theorem dX6_shelve_47 : decode cX6_shelve 47 = .ok (.iconst (-1), 1) := by decide +kernel
theorem dX6_shelve_48 : decode cX6_shelve 48 = .ok (.ireturn, 1) := by decide +kernel
theorem dX6_shelve_49 : decode cX6_shelve 49 = .ok (.iload_n 3, 1) := by decide +kernel
theorem dX6_shelve_50 : decode cX6_shelve 50 = .ok (.iload_n 1, 1) := by decide +kernel
theorem dX6_shelve_51 : decode cX6_shelve 51 = .ok (.iconst 1, 1) := by decide +kernel
theorem dX6_shelve_52 : decode cX6_shelve 52 = .ok (.if_icmp .ne 7, 3) := by decide +kernel
theorem dX6_shelve_55 : decode cX6_shelve 55 = .ok (.iconst 1, 1) := by decide +kernel
theorem dX6_shelve_56 : decode cX6_shelve 56 = .ok (.goto 4, 3) := by decide +kernel
theorem dX6_shelve_59 : decode cX6_shelve 59 = .ok (.iconst 0, 1) := by decide +kernel
theorem dX6_shelve_60 : decode cX6_shelve 60 = .ok (.if_icmp .eq 6, 3) := by decide +kernel
theorem dX6_shelve_63 : decode cX6_shelve 63 = .ok (.bipush (-2), 2) := by decide +kernel
theorem dX6_shelve_65 : decode cX6_shelve 65 = .ok (.ireturn, 1) := by decide +kernel
theorem dX6_shelve_66 : decode cX6_shelve 66 = .ok (.iload_n 1, 1) := by decide +kernel
theorem dX6_shelve_67 : decode cX6_shelve 67 = .ok (.iconst 4, 1) := by decide +kernel
theorem dX6_shelve_68 : decode cX6_shelve 68 = .ok (.imul, 1) := by decide +kernel
theorem dX6_shelve_69 : decode cX6_shelve 69 = .ok (.iload_n 2, 1) := by decide +kernel
theorem dX6_shelve_70 : decode cX6_shelve 70 = .ok (.iadd, 1) := by decide +kernel
theorem dX6_shelve_71 : decode cX6_shelve 71 = .ok (.istore 5, 2) := by decide +kernel
theorem dX6_shelve_73 : decode cX6_shelve 73 = .ok (.aload_n 0, 1) := by decide +kernel
theorem dX6_shelve_74 : decode cX6_shelve 74 = .ok (.getfield 10, 3) := by decide +kernel
theorem dX6_shelve_77 : decode cX6_shelve 77 = .ok (.getfield 312, 3) := by decide +kernel
theorem dX6_shelve_80 : decode cX6_shelve 80 = .ok (.iload 5, 2) := by decide +kernel
theorem dX6_shelve_82 : decode cX6_shelve 82 = .ok (.iload_n 3, 1) := by decide +kernel
theorem dX6_shelve_83 : decode cX6_shelve 83 = .ok (.ifCond .eq 19, 3) := by decide +kernel
theorem dX6_shelve_86 : decode cX6_shelve 86 = .ok (.aload_n 0, 1) := by decide +kernel
theorem dX6_shelve_87 : decode cX6_shelve 87 = .ok (.getfield 30, 3) := by decide +kernel
theorem dX6_shelve_90 : decode cX6_shelve 90 = .ok (.getfield 147, 3) := by decide +kernel
theorem dX6_shelve_93 : decode cX6_shelve 93 = .ok (.getfield 238, 3) := by decide +kernel
theorem dX6_shelve_96 : decode cX6_shelve 96 = .ok (.iload 4, 2) := by decide +kernel
theorem dX6_shelve_98 : decode cX6_shelve 98 = .ok (.iaload, 1) := by decide +kernel
theorem dX6_shelve_99 : decode cX6_shelve 99 = .ok (.goto 16, 3) := by decide +kernel
theorem dX6_shelve_102 : decode cX6_shelve 102 = .ok (.aload_n 0, 1) := by decide +kernel
theorem dX6_shelve_103 : decode cX6_shelve 103 = .ok (.getfield 10, 3) := by decide +kernel
theorem dX6_shelve_106 : decode cX6_shelve 106 = .ok (.getfield 85, 3) := by decide +kernel
theorem dX6_shelve_109 : decode cX6_shelve 109 = .ok (.getfield 207, 3) := by decide +kernel
theorem dX6_shelve_112 : decode cX6_shelve 112 = .ok (.iload 4, 2) := by decide +kernel
theorem dX6_shelve_114 : decode cX6_shelve 114 = .ok (.iaload, 1) := by decide +kernel
theorem dX6_shelve_115 : decode cX6_shelve 115 = .ok (.iastore, 1) := by decide +kernel
theorem dX6_shelve_116 : decode cX6_shelve 116 = .ok (.aload_n 0, 1) := by decide +kernel
theorem dX6_shelve_117 : decode cX6_shelve 117 = .ok (.getfield 10, 3) := by decide +kernel
theorem dX6_shelve_120 : decode cX6_shelve 120 = .ok (.getfield 315, 3) := by decide +kernel
theorem dX6_shelve_123 : decode cX6_shelve 123 = .ok (.iload 5, 2) := by decide +kernel
theorem dX6_shelve_125 : decode cX6_shelve 125 = .ok (.iload_n 3, 1) := by decide +kernel
theorem dX6_shelve_126 : decode cX6_shelve 126 = .ok (.ifCond .eq 19, 3) := by decide +kernel
theorem dX6_shelve_129 : decode cX6_shelve 129 = .ok (.aload_n 0, 1) := by decide +kernel
theorem dX6_shelve_130 : decode cX6_shelve 130 = .ok (.getfield 30, 3) := by decide +kernel
theorem dX6_shelve_133 : decode cX6_shelve 133 = .ok (.getfield 147, 3) := by decide +kernel
theorem dX6_shelve_136 : decode cX6_shelve 136 = .ok (.getfield 239, 3) := by decide +kernel
theorem dX6_shelve_139 : decode cX6_shelve 139 = .ok (.iload 4, 2) := by decide +kernel
theorem dX6_shelve_141 : decode cX6_shelve 141 = .ok (.iaload, 1) := by decide +kernel
theorem dX6_shelve_142 : decode cX6_shelve 142 = .ok (.goto 16, 3) := by decide +kernel
theorem dX6_shelve_145 : decode cX6_shelve 145 = .ok (.aload_n 0, 1) := by decide +kernel
theorem dX6_shelve_146 : decode cX6_shelve 146 = .ok (.getfield 10, 3) := by decide +kernel
theorem dX6_shelve_149 : decode cX6_shelve 149 = .ok (.getfield 85, 3) := by decide +kernel
theorem dX6_shelve_152 : decode cX6_shelve 152 = .ok (.getfield 211, 3) := by decide +kernel
theorem dX6_shelve_155 : decode cX6_shelve 155 = .ok (.iload 4, 2) := by decide +kernel
theorem dX6_shelve_157 : decode cX6_shelve 157 = .ok (.iaload, 1) := by decide +kernel
theorem dX6_shelve_158 : decode cX6_shelve 158 = .ok (.iastore, 1) := by decide +kernel
theorem dX6_shelve_159 : decode cX6_shelve 159 = .ok (.iconst 0, 1) := by decide +kernel
theorem dX6_shelve_160 : decode cX6_shelve 160 = .ok (.ireturn, 1) := by decide +kernel
set_option maxRecDepth 20000 in
theorem ggX6_shelved_X6_isShelfPlace : GoodIn wsX6_shelved wsX6_isShelfPlace := goodIn_r _ [7] (by decide +kernel) (by decide +kernel)
set_option maxRecDepth 20000 in
theorem gX6_shelved_X6_isShelfPlace : GoodIn wsX6_shelved (va_wsS RX6 309 yX6_isShelfPlace wsX6_isShelfPlace) := goodIn_app (goodIn_of _ (by decide +kernel)) ggX6_shelved_X6_isShelfPlace
theorem dX6_shelved_0 : decode cX6_shelved 0 = .ok (.iload_n 1, 1) := by decide +kernel
theorem dX6_shelved_1 : decode cX6_shelved 1 = .ok (.iload_n 2, 1) := by decide +kernel
theorem dX6_shelved_2 : decode cX6_shelved 2 = .ok (.invokestatic 309, 3) := by decide +kernel
theorem dX6_shelved_5 : decode cX6_shelved 5 = .ok (.ifCond .ne 5, 3) := by decide +kernel
theorem dX6_shelved_8 : decode cX6_shelved 8 = .ok (.iconst (-1), 1) := by decide +kernel
theorem dX6_shelved_9 : decode cX6_shelved 9 = .ok (.ireturn, 1) := by decide +kernel
theorem dX6_shelved_10 : decode cX6_shelved 10 = .ok (.iload_n 1, 1) := by decide +kernel
theorem dX6_shelved_11 : decode cX6_shelved 11 = .ok (.iconst 4, 1) := by decide +kernel
theorem dX6_shelved_12 : decode cX6_shelved 12 = .ok (.imul, 1) := by decide +kernel
theorem dX6_shelved_13 : decode cX6_shelved 13 = .ok (.iload_n 2, 1) := by decide +kernel
theorem dX6_shelved_14 : decode cX6_shelved 14 = .ok (.iadd, 1) := by decide +kernel
theorem dX6_shelved_15 : decode cX6_shelved 15 = .ok (.istore 4, 2) := by decide +kernel
theorem dX6_shelved_17 : decode cX6_shelved 17 = .ok (.iload_n 3, 1) := by decide +kernel
theorem dX6_shelved_18 : decode cX6_shelved 18 = .ok (.ifCond .eq 16, 3) := by decide +kernel
theorem dX6_shelved_21 : decode cX6_shelved 21 = .ok (.aload_n 0, 1) := by decide +kernel
theorem dX6_shelved_22 : decode cX6_shelved 22 = .ok (.getfield 10, 3) := by decide +kernel
theorem dX6_shelved_25 : decode cX6_shelved 25 = .ok (.getfield 315, 3) := by decide +kernel
theorem dX6_shelved_28 : decode cX6_shelved 28 = .ok (.iload 4, 2) := by decide +kernel
theorem dX6_shelved_30 : decode cX6_shelved 30 = .ok (.iaload, 1) := by decide +kernel
theorem dX6_shelved_31 : decode cX6_shelved 31 = .ok (.goto 13, 3) := by decide +kernel
theorem dX6_shelved_34 : decode cX6_shelved 34 = .ok (.aload_n 0, 1) := by decide +kernel
theorem dX6_shelved_35 : decode cX6_shelved 35 = .ok (.getfield 10, 3) := by decide +kernel
theorem dX6_shelved_38 : decode cX6_shelved 38 = .ok (.getfield 312, 3) := by decide +kernel
theorem dX6_shelved_41 : decode cX6_shelved 41 = .ok (.iload 4, 2) := by decide +kernel
theorem dX6_shelved_43 : decode cX6_shelved 43 = .ok (.iaload, 1) := by decide +kernel
theorem dX6_shelved_44 : decode cX6_shelved 44 = .ok (.ireturn, 1) := by decide +kernel
set_option maxRecDepth 20000 in
theorem ggX6_image_X5_init : GoodIn wsX6_image wsX5_init := goodIn_r _ [8, 9, 10, 11, 12, 13, 14, 15, 16, 17, 18, 19, 20, 21, 22, 23, 24, 25, 26, 27, 28, 29, 30, 31, 32, 33, 69, 70, 71, 72, 73, 74, 62, 63, 64, 65, 66, 67, 68] (by decide +kernel) (by decide +kernel)
set_option maxRecDepth 20000 in
theorem gX6_image_X5_init : GoodIn wsX6_image (wsX5_init) := ggX6_image_X5_init
set_option maxRecDepth 20000 in
theorem ggX6_image_X5_copyFrom : GoodIn wsX6_image wsX5_copyFrom := goodIn_r _ [37, 15, 17, 38, 39, 40, 41, 42, 43, 21, 19, 20, 44, 45, 46, 14, 47, 26, 48, 49, 27, 28, 29, 50, 62, 63, 64, 65, 66, 67, 68, 69, 70, 71, 72, 73, 74] (by decide +kernel) (by decide +kernel)
set_option maxRecDepth 20000 in
theorem gX6_image_X5_copyFrom : GoodIn wsX6_image (wsV RX6 318 RX5 yX5_copyFrom wsX5_copyFrom) := goodIn_app (goodIn_of _ (by decide +kernel)) ggX6_image_X5_copyFrom
theorem dX6_image_0 : decode cX6_image 0 = .ok (.iload_n 1, 1) := by decide +kernel
theorem dX6_image_1 : decode cX6_image 1 = .ok (.ifCond .lt 8, 3) := by decide +kernel
theorem dX6_image_4 : decode cX6_image 4 = .ok (.iload_n 1, 1) := by decide +kernel
theorem dX6_image_5 : decode cX6_image 5 = .ok (.iconst 3, 1) := by decide +kernel
theorem dX6_image_6 : decode cX6_image 6 = .ok (.if_icmp .lt 5, 3) := by decide +kernel
theorem dX6_image_9 : decode cX6_image 9 = .ok (.iconst 0, 1) := by decide +kernel
theorem dX6_image_10 : decode cX6_image 10 = .ok (.ireturn, 1) := by decide +kernel
theorem dX6_image_11 : decode cX6_image 11 = .ok (.aload_n 0, 1) := by decide +kernel
theorem dX6_image_12 : decode cX6_image 12 = .ok (.getfield 16, 3) := by decide +kernel
theorem dX6_image_15 : decode cX6_image 15 = .ok (.iload_n 1, 1) := by decide +kernel
theorem dX6_image_16 : decode cX6_image 16 = .ok (.aaload, 1) := by decide +kernel
theorem dX6_image_17 : decode cX6_image 17 = .ok (.ifnonnull 16, 3) := by decide +kernel
theorem dX6_image_20 : decode cX6_image 20 = .ok (.aload_n 0, 1) := by decide +kernel
theorem dX6_image_21 : decode cX6_image 21 = .ok (.getfield 16, 3) := by decide +kernel
theorem dX6_image_24 : decode cX6_image 24 = .ok (.iload_n 1, 1) := by decide +kernel
theorem dX6_image_25 : decode cX6_image 25 = .ok (.new 7, 3) := by decide +kernel
theorem dX6_image_28 : decode cX6_image 28 = .ok (.dup, 1) := by decide +kernel
theorem dX6_image_29 : decode cX6_image 29 = .ok (.invokespecial 9, 3) := by decide +kernel
theorem dX6_image_32 : decode cX6_image 32 = .ok (.aastore, 1) := by decide +kernel
theorem dX6_image_33 : decode cX6_image 33 = .ok (.aload_n 0, 1) := by decide +kernel
theorem dX6_image_34 : decode cX6_image 34 = .ok (.getfield 16, 3) := by decide +kernel
theorem dX6_image_37 : decode cX6_image 37 = .ok (.iload_n 1, 1) := by decide +kernel
theorem dX6_image_38 : decode cX6_image 38 = .ok (.aaload, 1) := by decide +kernel
theorem dX6_image_39 : decode cX6_image 39 = .ok (.aload_n 0, 1) := by decide +kernel
theorem dX6_image_40 : decode cX6_image 40 = .ok (.getfield 10, 3) := by decide +kernel
theorem dX6_image_43 : decode cX6_image 43 = .ok (.invokevirtual 318, 3) := by decide +kernel
theorem dX6_image_46 : decode cX6_image 46 = .ok (.iconst 1, 1) := by decide +kernel
theorem dX6_image_47 : decode cX6_image 47 = .ok (.ireturn, 1) := by decide +kernel
set_option maxRecDepth 20000 in
theorem ggX6_again_X5_copyFrom : GoodIn wsX6_again wsX5_copyFrom := goodIn_r _ [8, 9, 10, 11, 12, 13, 14, 15, 16, 17, 18, 19, 20, 21, 22, 23, 24, 25, 26, 27, 28, 29, 30, 31, 188, 189, 190, 191, 192, 193, 194, 195, 196, 197, 198, 199, 200] (by decide +kernel) (by decide +kernel)
set_option maxRecDepth 20000 in
theorem gX6_again_X5_copyFrom : GoodIn wsX6_again (wsV RX6 318 RX5 yX5_copyFrom wsX5_copyFrom) := goodIn_app (goodIn_of _ (by decide +kernel)) ggX6_again_X5_copyFrom
set_option maxRecDepth 20000 in
theorem ggX6_again_X6_makeCoreAnew : GoodIn wsX6_again wsX6_makeCoreAnew := goodIn_r _ [36, 37, 2, 38, 39, 40, 41, 42, 43, 44, 45, 46, 47, 48, 49, 50, 51, 52, 53, 54, 55, 56, 57, 58, 59, 60, 61, 62, 63, 64, 65, 66, 67, 68, 69, 70, 71, 72, 73, 74, 75, 76, 77, 23, 78, 28, 25, 79, 80, 81, 82, 83, 84, 85, 86, 87, 88, 89, 90, 91, 92, 93, 94, 95, 96, 97, 98, 99, 100, 101, 102, 103, 104, 105, 106, 107, 108, 109, 110, 13, 14, 15, 111, 112, 113, 114, 115, 116, 117, 118, 119, 120, 121, 122, 123, 124, 125, 126, 127, 128, 129, 130, 131, 132, 133, 134, 135, 136, 137, 138, 139, 140, 141, 142, 143, 144, 145, 146, 147, 148, 149, 150, 151, 152, 153, 154, 155, 156, 157, 158, 159, 160, 161, 162, 163, 164, 165, 166, 167, 168, 169, 170, 171, 172, 173, 174, 175, 176, 177, 178, 179, 180, 181, 182, 183, 184, 185, 186, 187, 188, 189, 190, 191, 192, 193, 194, 195, 196, 197, 198, 199, 200, 201, 202, 203, 204, 205, 206, 207, 208, 209, 210, 211, 212, 213, 214, 215, 216, 217, 218, 219, 220, 221, 222, 223] (by decide +kernel) (by decide +kernel)
set_option maxRecDepth 20000 in
theorem gX6_again_X6_makeCoreAnew : GoodIn wsX6_again (wsV RX6 58 RX6 yX6_makeCoreAnew wsX6_makeCoreAnew) := goodIn_app (goodIn_of _ (by decide +kernel)) ggX6_again_X6_makeCoreAnew
theorem dX6_again_0 : decode cX6_again 0 = .ok (.iload_n 1, 1) := by decide +kernel
theorem dX6_again_1 : decode cX6_again 1 = .ok (.ifCond .lt 17, 3) := by decide +kernel
theorem dX6_again_4 : decode cX6_again 4 = .ok (.iload_n 1, 1) := by decide +kernel
theorem dX6_again_5 : decode cX6_again 5 = .ok (.iconst 3, 1) := by decide +kernel
theorem dX6_again_6 : decode cX6_again 6 = .ok (.if_icmp .ge 12, 3) := by decide +kernel
theorem dX6_again_9 : decode cX6_again 9 = .ok (.aload_n 0, 1) := by decide +kernel
theorem dX6_again_10 : decode cX6_again 10 = .ok (.getfield 16, 3) := by decide +kernel
theorem dX6_again_13 : decode cX6_again 13 = .ok (.iload_n 1, 1) := by decide +kernel
theorem dX6_again_14 : decode cX6_again 14 = .ok (.aaload, 1) := by decide +kernel
theorem dX6_again_15 : decode cX6_again 15 = .ok (.ifnonnull 5, 3) := by decide +kernel
theorem dX6_again_18 : decode cX6_again 18 = .ok (.iconst 0, 1) := by decide +kernel
theorem dX6_again_19 : decode cX6_again 19 = .ok (.ireturn, 1) := by decide +kernel
theorem dX6_again_20 : decode cX6_again 20 = .ok (.aload_n 0, 1) := by decide +kernel
theorem dX6_again_21 : decode cX6_again 21 = .ok (.getfield 10, 3) := by decide +kernel
theorem dX6_again_24 : decode cX6_again 24 = .ok (.aload_n 0, 1) := by decide +kernel
theorem dX6_again_25 : decode cX6_again 25 = .ok (.getfield 16, 3) := by decide +kernel
theorem dX6_again_28 : decode cX6_again 28 = .ok (.iload_n 1, 1) := by decide +kernel
theorem dX6_again_29 : decode cX6_again 29 = .ok (.aaload, 1) := by decide +kernel
theorem dX6_again_30 : decode cX6_again 30 = .ok (.invokevirtual 318, 3) := by decide +kernel
theorem dX6_again_33 : decode cX6_again 33 = .ok (.aload_n 0, 1) := by decide +kernel
theorem dX6_again_34 : decode cX6_again 34 = .ok (.iconst 0, 1) := by decide +kernel
theorem dX6_again_35 : decode cX6_again 35 = .ok (.putfield 95, 3) := by decide +kernel
theorem dX6_again_38 : decode cX6_again 38 = .ok (.aload_n 0, 1) := by decide +kernel
theorem dX6_again_39 : decode cX6_again 39 = .ok (.invokevirtual 58, 3) := by decide +kernel
theorem dX6_again_42 : decode cX6_again 42 = .ok (.iconst 1, 1) := by decide +kernel
theorem dX6_again_43 : decode cX6_again 43 = .ok (.ireturn, 1) := by decide +kernel
theorem dX6_byteAt_0 : decode cX6_byteAt 0 = .ok (.lload_n 0, 1) := by decide +kernel
theorem dX6_byteAt_1 : decode cX6_byteAt 1 = .ok (.bipush 56, 2) := by decide +kernel
theorem dX6_byteAt_3 : decode cX6_byteAt 3 = .ok (.bipush 8, 2) := by decide +kernel
theorem dX6_byteAt_5 : decode cX6_byteAt 5 = .ok (.iload_n 2, 1) := by decide +kernel
theorem dX6_byteAt_6 : decode cX6_byteAt 6 = .ok (.imul, 1) := by decide +kernel
theorem dX6_byteAt_7 : decode cX6_byteAt 7 = .ok (.isub, 1) := by decide +kernel
theorem dX6_byteAt_8 : decode cX6_byteAt 8 = .ok (.lushr, 1) := by decide +kernel
theorem dX6_byteAt_9 : decode cX6_byteAt 9 = .ok (.l2i, 1) := by decide +kernel
theorem dX6_byteAt_10 : decode cX6_byteAt 10 = .ok (.i2b, 1) := by decide +kernel
theorem dX6_byteAt_11 : decode cX6_byteAt 11 = .ok (.ireturn, 1) := by decide +kernel
theorem dX6_canBeRoom_0 : decode cX6_canBeRoom 0 = .ok (.lload_n 0, 1) := by decide +kernel
theorem dX6_canBeRoom_1 : decode cX6_canBeRoom 1 = .ok (.lconst 0, 1) := by decide +kernel
theorem dX6_canBeRoom_2 : decode cX6_canBeRoom 2 = .ok (.lcmp, 1) := by decide +kernel
theorem dX6_canBeRoom_3 : decode cX6_canBeRoom 3 = .ok (.ifCond .lt 15, 3) := by decide +kernel
theorem dX6_canBeRoom_6 : decode cX6_canBeRoom 6 = .ok (.lload_n 0, 1) := by decide +kernel
theorem dX6_canBeRoom_7 : decode cX6_canBeRoom 7 = .ok (.ldc2_w 295, 3) := by decide +kernel
theorem dX6_canBeRoom_10 : decode cX6_canBeRoom 10 = .ok (.lcmp, 1) := by decide +kernel
theorem dX6_canBeRoom_11 : decode cX6_canBeRoom 11 = .ok (.ifCond .gt 7, 3) := by decide +kernel
theorem dX6_canBeRoom_14 : decode cX6_canBeRoom 14 = .ok (.iconst 1, 1) := by decide +kernel
theorem dX6_canBeRoom_15 : decode cX6_canBeRoom 15 = .ok (.goto 4, 3) := by decide +kernel
theorem dX6_canBeRoom_18 : decode cX6_canBeRoom 18 = .ok (.iconst 0, 1) := by decide +kernel
theorem dX6_canBeRoom_19 : decode cX6_canBeRoom 19 = .ok (.ireturn, 1) := by decide +kernel
theorem dX6_canBeMost_0 : decode cX6_canBeMost 0 = .ok (.lload_n 0, 1) := by decide +kernel
theorem dX6_canBeMost_1 : decode cX6_canBeMost 1 = .ok (.ldc2_w 321, 3) := by decide +kernel
theorem dX6_canBeMost_4 : decode cX6_canBeMost 4 = .ok (.lcmp, 1) := by decide +kernel
theorem dX6_canBeMost_5 : decode cX6_canBeMost 5 = .ok (.ifCond .lt 15, 3) := by decide +kernel
theorem dX6_canBeMost_8 : decode cX6_canBeMost 8 = .ok (.lload_n 0, 1) := by decide +kernel
theorem dX6_canBeMost_9 : decode cX6_canBeMost 9 = .ok (.ldc2_w 323, 3) := by decide +kernel
theorem dX6_canBeMost_12 : decode cX6_canBeMost 12 = .ok (.lcmp, 1) := by decide +kernel
theorem dX6_canBeMost_13 : decode cX6_canBeMost 13 = .ok (.ifCond .gt 7, 3) := by decide +kernel
theorem dX6_canBeMost_16 : decode cX6_canBeMost 16 = .ok (.iconst 1, 1) := by decide +kernel
theorem dX6_canBeMost_17 : decode cX6_canBeMost 17 = .ok (.goto 4, 3) := by decide +kernel
theorem dX6_canBeMost_20 : decode cX6_canBeMost 20 = .ok (.iconst 0, 1) := by decide +kernel
theorem dX6_canBeMost_21 : decode cX6_canBeMost 21 = .ok (.ireturn, 1) := by decide +kernel
theorem dX6_canBeItemsNumber_0 : decode cX6_canBeItemsNumber 0 = .ok (.lload_n 0, 1) := by decide +kernel
theorem dX6_canBeItemsNumber_1 : decode cX6_canBeItemsNumber 1 = .ok (.lconst 1, 1) := by decide +kernel
theorem dX6_canBeItemsNumber_2 : decode cX6_canBeItemsNumber 2 = .ok (.lcmp, 1) := by decide +kernel
theorem dX6_canBeItemsNumber_3 : decode cX6_canBeItemsNumber 3 = .ok (.ifCond .lt 15, 3) := by decide +kernel
theorem dX6_canBeItemsNumber_6 : decode cX6_canBeItemsNumber 6 = .ok (.lload_n 0, 1) := by decide +kernel
theorem dX6_canBeItemsNumber_7 : decode cX6_canBeItemsNumber 7 = .ok (.ldc2_w 325, 3) := by decide +kernel
theorem dX6_canBeItemsNumber_10 : decode cX6_canBeItemsNumber 10 = .ok (.lcmp, 1) := by decide +kernel
theorem dX6_canBeItemsNumber_11 : decode cX6_canBeItemsNumber 11 = .ok (.ifCond .gt 7, 3) := by decide +kernel
theorem dX6_canBeItemsNumber_14 : decode cX6_canBeItemsNumber 14 = .ok (.iconst 1, 1) := by decide +kernel
theorem dX6_canBeItemsNumber_15 : decode cX6_canBeItemsNumber 15 = .ok (.goto 4, 3) := by decide +kernel
theorem dX6_canBeItemsNumber_18 : decode cX6_canBeItemsNumber 18 = .ok (.iconst 0, 1) := by decide +kernel
theorem dX6_canBeItemsNumber_19 : decode cX6_canBeItemsNumber 19 = .ok (.ireturn, 1) := by decide +kernel
theorem dX6_isShelfPlace_0 : decode cX6_isShelfPlace 0 = .ok (.iload_n 0, 1) := by decide +kernel
theorem dX6_isShelfPlace_1 : decode cX6_isShelfPlace 1 = .ok (.ifCond .lt 21, 3) := by decide +kernel
theorem dX6_isShelfPlace_4 : decode cX6_isShelfPlace 4 = .ok (.iload_n 0, 1) := by decide +kernel
theorem dX6_isShelfPlace_5 : decode cX6_isShelfPlace 5 = .ok (.iconst 2, 1) := by decide +kernel
theorem dX6_isShelfPlace_6 : decode cX6_isShelfPlace 6 = .ok (.if_icmp .ge 16, 3) := by decide +kernel
theorem dX6_isShelfPlace_9 : decode cX6_isShelfPlace 9 = .ok (.iload_n 1, 1) := by decide +kernel
theorem dX6_isShelfPlace_10 : decode cX6_isShelfPlace 10 = .ok (.ifCond .lt 12, 3) := by decide +kernel
theorem dX6_isShelfPlace_13 : decode cX6_isShelfPlace 13 = .ok (.iload_n 1, 1) := by decide +kernel
theorem dX6_isShelfPlace_14 : decode cX6_isShelfPlace 14 = .ok (.iconst 4, 1) := by decide +kernel
theorem dX6_isShelfPlace_15 : decode cX6_isShelfPlace 15 = .ok (.if_icmp .ge 7, 3) := by decide +kernel
theorem dX6_isShelfPlace_18 : decode cX6_isShelfPlace 18 = .ok (.iconst 1, 1) := by decide +kernel
theorem dX6_isShelfPlace_19 : decode cX6_isShelfPlace 19 = .ok (.goto 4, 3) := by decide +kernel
theorem dX6_isShelfPlace_22 : decode cX6_isShelfPlace 22 = .ok (.iconst 0, 1) := by decide +kernel
theorem dX6_isShelfPlace_23 : decode cX6_isShelfPlace 23 = .ok (.ireturn, 1) := by decide +kernel
set_option maxRecDepth 20000 in
theorem ggX6_remember_X1_copyFrom : GoodIn wsX6_remember wsX1_copyFrom := goodIn_r _ [9, 10, 11, 12, 13, 14, 15, 16, 17, 18, 19, 38, 39, 40, 41, 42, 43] (by decide +kernel) (by decide +kernel)
set_option maxRecDepth 20000 in
theorem gX6_remember_X1_copyFrom : GoodIn wsX6_remember (wsV RX6 91 RX1 yX1_copyFrom wsX1_copyFrom) := goodIn_app (goodIn_of _ (by decide +kernel)) ggX6_remember_X1_copyFrom
theorem dX6_remember_0 : decode cX6_remember 0 = .ok (.aload_n 0, 1) := by decide +kernel
theorem dX6_remember_1 : decode cX6_remember 1 = .ok (.getfield 95, 3) := by decide +kernel
theorem dX6_remember_4 : decode cX6_remember 4 = .ok (.bipush 8, 2) := by decide +kernel
theorem dX6_remember_6 : decode cX6_remember 6 = .ok (.if_icmp .ne 58, 3) := by decide +kernel
theorem dX6_remember_9 : decode cX6_remember 9 = .ok (.aload_n 0, 1) := by decide +kernel
theorem dX6_remember_10 : decode cX6_remember 10 = .ok (.getfield 22, 3) := by decide +kernel
theorem dX6_remember_13 : decode cX6_remember 13 = .ok (.iconst 0, 1) := by decide +kernel
theorem dX6_remember_14 : decode cX6_remember 14 = .ok (.aaload, 1) := by decide +kernel
theorem dX6_remember_15 : decode cX6_remember 15 = .ok (.astore_n 1, 1) := by decide +kernel
theorem dX6_remember_16 : decode cX6_remember 16 = .ok (.iconst 1, 1) := by decide +kernel
theorem dX6_remember_17 : decode cX6_remember 17 = .ok (.istore_n 2, 1) := by decide +kernel
theorem dX6_remember_18 : decode cX6_remember 18 = .ok (.iload_n 2, 1) := by decide +kernel
theorem dX6_remember_19 : decode cX6_remember 19 = .ok (.bipush 8, 2) := by decide +kernel
theorem dX6_remember_21 : decode cX6_remember 21 = .ok (.if_icmp .ge 23, 3) := by decide +kernel
theorem dX6_remember_24 : decode cX6_remember 24 = .ok (.aload_n 0, 1) := by decide +kernel
theorem dX6_remember_25 : decode cX6_remember 25 = .ok (.getfield 22, 3) := by decide +kernel
theorem dX6_remember_28 : decode cX6_remember 28 = .ok (.iload_n 2, 1) := by decide +kernel
theorem dX6_remember_29 : decode cX6_remember 29 = .ok (.iconst 1, 1) := by decide +kernel
theorem dX6_remember_30 : decode cX6_remember 30 = .ok (.isub, 1) := by decide +kernel
theorem dX6_remember_31 : decode cX6_remember 31 = .ok (.aload_n 0, 1) := by decide +kernel
theorem dX6_remember_32 : decode cX6_remember 32 = .ok (.getfield 22, 3) := by decide +kernel
theorem dX6_remember_35 : decode cX6_remember 35 = .ok (.iload_n 2, 1) := by decide +kernel
theorem dX6_remember_36 : decode cX6_remember 36 = .ok (.aaload, 1) := by decide +kernel
theorem dX6_remember_37 : decode cX6_remember 37 = .ok (.aastore, 1) := by decide +kernel
theorem dX6_remember_38 : decode cX6_remember 38 = .ok (.iinc 2 1, 3) := by decide +kernel
theorem dX6_remember_41 : decode cX6_remember 41 = .ok (.goto (-23), 3) := by decide +kernel
theorem dX6_remember_44 : decode cX6_remember 44 = .ok (.aload_n 0, 1) := by decide +kernel
theorem dX6_remember_45 : decode cX6_remember 45 = .ok (.dup, 1) := by decide +kernel
theorem dX6_remember_46 : decode cX6_remember 46 = .ok (.getfield 95, 3) := by decide +kernel
theorem dX6_remember_49 : decode cX6_remember 49 = .ok (.iconst 1, 1) := by decide +kernel
theorem dX6_remember_50 : decode cX6_remember 50 = .ok (.isub, 1) := by decide +kernel
theorem dX6_remember_51 : decode cX6_remember 51 = .ok (.putfield 95, 3) := by decide +kernel
theorem dX6_remember_54 : decode cX6_remember 54 = .ok (.aload_n 0, 1) := by decide +kernel
theorem dX6_remember_55 : decode cX6_remember 55 = .ok (.getfield 22, 3) := by decide +kernel
theorem dX6_remember_58 : decode cX6_remember 58 = .ok (.aload_n 0, 1) := by decide +kernel
theorem dX6_remember_59 : decode cX6_remember 59 = .ok (.getfield 95, 3) := by decide +kernel
theorem dX6_remember_62 : decode cX6_remember 62 = .ok (.aload_n 1, 1) := by decide +kernel
theorem dX6_remember_63 : decode cX6_remember 63 = .ok (.aastore, 1) := by decide +kernel
theorem dX6_remember_64 : decode cX6_remember 64 = .ok (.aload_n 0, 1) := by decide +kernel
theorem dX6_remember_65 : decode cX6_remember 65 = .ok (.getfield 22, 3) := by decide +kernel
theorem dX6_remember_68 : decode cX6_remember 68 = .ok (.aload_n 0, 1) := by decide +kernel
theorem dX6_remember_69 : decode cX6_remember 69 = .ok (.getfield 95, 3) := by decide +kernel
theorem dX6_remember_72 : decode cX6_remember 72 = .ok (.aaload, 1) := by decide +kernel
theorem dX6_remember_73 : decode cX6_remember 73 = .ok (.aload_n 0, 1) := by decide +kernel
theorem dX6_remember_74 : decode cX6_remember 74 = .ok (.getfield 10, 3) := by decide +kernel
theorem dX6_remember_77 : decode cX6_remember 77 = .ok (.getfield 85, 3) := by decide +kernel
theorem dX6_remember_80 : decode cX6_remember 80 = .ok (.invokevirtual 91, 3) := by decide +kernel
theorem dX6_remember_83 : decode cX6_remember 83 = .ok (.aload_n 0, 1) := by decide +kernel
theorem dX6_remember_84 : decode cX6_remember 84 = .ok (.dup, 1) := by decide +kernel
theorem dX6_remember_85 : decode cX6_remember 85 = .ok (.getfield 95, 3) := by decide +kernel
theorem dX6_remember_88 : decode cX6_remember 88 = .ok (.iconst 1, 1) := by decide +kernel
theorem dX6_remember_89 : decode cX6_remember 89 = .ok (.iadd, 1) := by decide +kernel
theorem dX6_remember_90 : decode cX6_remember 90 = .ok (.putfield 95, 3) := by decide +kernel
theorem dX6_remember_93 : decode cX6_remember 93 = .ok (.return_, 1) := by decide +kernel
set_option maxRecDepth 20000 in
theorem ggX6_beginAgain_X0_begin : GoodIn wsX6_beginAgain wsX0_begin := goodIn_r _ [10, 11, 12, 13, 14, 15, 16, 17, 18, 19, 20, 21, 22, 23, 24, 25, 26, 27, 28, 29, 30, 31, 32, 33, 34, 35, 36, 37, 38, 39, 40, 41, 42, 43, 44, 45, 46, 47, 48, 49, 50, 51, 52, 53, 54, 55, 56, 57, 58, 59, 60, 61, 62, 63, 64, 65, 66, 67, 68, 69, 70, 71, 72, 73, 74, 75, 76, 77, 78, 79, 80, 81, 82, 83, 84, 85, 86, 87, 88, 89, 114, 115, 116, 117, 118, 119, 120, 121, 122, 123, 108, 109, 110, 111, 112, 113, 124, 125, 126, 127, 128, 129, 130, 131, 132, 133, 134, 135, 136] (by decide +kernel) (by decide +kernel)
set_option maxRecDepth 20000 in
theorem gX6_beginAgain_X0_begin : GoodIn wsX6_beginAgain (wsV RX6 303 RX0 yX0_begin wsX0_begin) := goodIn_app (goodIn_of _ (by decide +kernel)) ggX6_beginAgain_X0_begin
theorem dX6_beginAgain_0 : decode cX6_beginAgain 0 = .ok (.aload_n 0, 1) := by decide +kernel
theorem dX6_beginAgain_1 : decode cX6_beginAgain 1 = .ok (.getfield 10, 3) := by decide +kernel
theorem dX6_beginAgain_4 : decode cX6_beginAgain 4 = .ok (.getfield 85, 3) := by decide +kernel
theorem dX6_beginAgain_7 : decode cX6_beginAgain 7 = .ok (.iconst 0, 1) := by decide +kernel
theorem dX6_beginAgain_8 : decode cX6_beginAgain 8 = .ok (.putfield 146, 3) := by decide +kernel
theorem dX6_beginAgain_11 : decode cX6_beginAgain 11 = .ok (.aload_n 0, 1) := by decide +kernel
theorem dX6_beginAgain_12 : decode cX6_beginAgain 12 = .ok (.getfield 30, 3) := by decide +kernel
theorem dX6_beginAgain_15 : decode cX6_beginAgain 15 = .ok (.aload_n 0, 1) := by decide +kernel
theorem dX6_beginAgain_16 : decode cX6_beginAgain 16 = .ok (.getfield 10, 3) := by decide +kernel
theorem dX6_beginAgain_19 : decode cX6_beginAgain 19 = .ok (.getfield 85, 3) := by decide +kernel
theorem dX6_beginAgain_22 : decode cX6_beginAgain 22 = .ok (.invokevirtual 303, 3) := by decide +kernel
theorem dX6_beginAgain_25 : decode cX6_beginAgain 25 = .ok (.aload_n 0, 1) := by decide +kernel
theorem dX6_beginAgain_26 : decode cX6_beginAgain 26 = .ok (.iconst 0, 1) := by decide +kernel
theorem dX6_beginAgain_27 : decode cX6_beginAgain 27 = .ok (.putfield 284, 3) := by decide +kernel
theorem dX6_beginAgain_30 : decode cX6_beginAgain 30 = .ok (.return_, 1) := by decide +kernel
set_option maxRecDepth 20000 in
theorem ggX6_makeCoreAnew_X0_begin : GoodIn wsX6_makeCoreAnew wsX0_begin := goodIn_r _ [10, 11, 12, 13, 14, 15, 16, 17, 18, 19, 20, 21, 22, 23, 24, 25, 26, 27, 28, 29, 30, 31, 32, 33, 34, 35, 36, 37, 38, 39, 40, 41, 42, 43, 44, 45, 46, 47, 48, 49, 50, 51, 52, 53, 54, 55, 56, 57, 58, 59, 60, 61, 62, 63, 64, 65, 66, 67, 68, 69, 70, 71, 72, 73, 74, 75, 76, 77, 78, 79, 80, 81, 82, 83, 84, 85, 86, 87, 88, 89, 172, 173, 174, 175, 176, 177, 178, 179, 180, 181, 166, 167, 168, 169, 170, 171, 182, 183, 184, 185, 186, 187, 188, 189, 190, 191, 192, 193, 194] (by decide +kernel) (by decide +kernel)
set_option maxRecDepth 20000 in
theorem gX6_makeCoreAnew_X0_begin : GoodIn wsX6_makeCoreAnew (wsV RX6 303 RX0 yX0_begin wsX0_begin) := goodIn_app (goodIn_of _ (by decide +kernel)) ggX6_makeCoreAnew_X0_begin
set_option maxRecDepth 20000 in
theorem ggX6_makeCoreAnew_X0_widenTo : GoodIn wsX6_makeCoreAnew wsX0_widenTo := goodIn_r _ [93, 17, 94, 95, 96, 9, 97, 16, 11, 98, 15, 99, 23, 100, 101, 13, 102, 103, 104, 105, 24, 106, 107, 108, 57, 109, 59, 61, 60, 62, 110, 111, 112, 113, 114, 55, 56, 58, 63, 64, 65, 66, 67, 68, 69, 70, 71, 72, 73, 74, 75, 76, 77, 78, 79, 80, 81, 82, 83, 84, 85, 86, 87, 88, 89, 115, 116, 117, 118, 119, 21, 120, 19, 121, 22, 122, 123, 124, 125, 126, 127, 128, 129, 130, 131, 132, 133, 134, 135, 136, 137, 138, 28, 139, 31, 36, 38, 140, 141, 142, 143, 144, 145, 146, 147, 172, 173, 174, 175, 176, 177, 178, 179, 180, 181, 182, 183, 184, 185, 186, 187, 188, 189, 190, 191, 192, 193, 194] (by decide +kernel) (by decide +kernel)
set_option maxRecDepth 20000 in
theorem gX6_makeCoreAnew_X0_widenTo : GoodIn wsX6_makeCoreAnew (wsV RX6 306 RX0 yX0_widenTo wsX0_widenTo) := goodIn_app (goodIn_of _ (by decide +kernel)) ggX6_makeCoreAnew_X0_widenTo
theorem dX6_makeCoreAnew_0 : decode cX6_makeCoreAnew 0 = .ok (.aload_n 0, 1) := by decide +kernel
theorem dX6_makeCoreAnew_1 : decode cX6_makeCoreAnew 1 = .ok (.getfield 30, 3) := by decide +kernel
theorem dX6_makeCoreAnew_4 : decode cX6_makeCoreAnew 4 = .ok (.aload_n 0, 1) := by decide +kernel
theorem dX6_makeCoreAnew_5 : decode cX6_makeCoreAnew 5 = .ok (.getfield 10, 3) := by decide +kernel
theorem dX6_makeCoreAnew_8 : decode cX6_makeCoreAnew 8 = .ok (.getfield 85, 3) := by decide +kernel
theorem dX6_makeCoreAnew_11 : decode cX6_makeCoreAnew 11 = .ok (.invokevirtual 303, 3) := by decide +kernel
theorem dX6_makeCoreAnew_14 : decode cX6_makeCoreAnew 14 = .ok (.aload_n 0, 1) := by decide +kernel
theorem dX6_makeCoreAnew_15 : decode cX6_makeCoreAnew 15 = .ok (.getfield 30, 3) := by decide +kernel
theorem dX6_makeCoreAnew_18 : decode cX6_makeCoreAnew 18 = .ok (.aload_n 0, 1) := by decide +kernel
theorem dX6_makeCoreAnew_19 : decode cX6_makeCoreAnew 19 = .ok (.getfield 10, 3) := by decide +kernel
theorem dX6_makeCoreAnew_22 : decode cX6_makeCoreAnew 22 = .ok (.getfield 85, 3) := by decide +kernel
theorem dX6_makeCoreAnew_25 : decode cX6_makeCoreAnew 25 = .ok (.getfield 146, 3) := by decide +kernel
theorem dX6_makeCoreAnew_28 : decode cX6_makeCoreAnew 28 = .ok (.invokevirtual 306, 3) := by decide +kernel
theorem dX6_makeCoreAnew_31 : decode cX6_makeCoreAnew 31 = .ok (.aload_n 0, 1) := by decide +kernel
theorem dX6_makeCoreAnew_32 : decode cX6_makeCoreAnew 32 = .ok (.iconst 0, 1) := by decide +kernel
theorem dX6_makeCoreAnew_33 : decode cX6_makeCoreAnew 33 = .ok (.putfield 284, 3) := by decide +kernel
theorem dX6_makeCoreAnew_36 : decode cX6_makeCoreAnew 36 = .ok (.return_, 1) := by decide +kernel
set_option maxRecDepth 20000 in
theorem ggX6_linearBound_X2_breakIsItem : GoodIn wsX6_linearBound wsX2_breakIsItem := goodIn_r _ [9, 10, 11, 49, 50, 51, 52, 53, 54, 55, 56, 57] (by decide +kernel) (by decide +kernel)
set_option maxRecDepth 20000 in
theorem gX6_linearBound_X2_breakIsItem : GoodIn wsX6_linearBound (wsV RX6 225 RX2 yX2_breakIsItem wsX2_breakIsItem) := goodIn_app (goodIn_of _ (by decide +kernel)) ggX6_linearBound_X2_breakIsItem
set_option maxRecDepth 20000 in
theorem ggX6_linearBound_X2_roomLeft : GoodIn wsX6_linearBound wsX2_roomLeft := goodIn_r _ [15, 16, 17, 49, 50, 51, 52, 53, 54, 55, 56, 57] (by decide +kernel) (by decide +kernel)
set_option maxRecDepth 20000 in
theorem gX6_linearBound_X2_roomLeft : GoodIn wsX6_linearBound (wsV RX6 327 RX2 yX2_roomLeft wsX2_roomLeft) := goodIn_app (goodIn_of _ (by decide +kernel)) ggX6_linearBound_X2_roomLeft
set_option maxRecDepth 20000 in
theorem ggX6_linearBound_X2_worthDown : GoodIn wsX6_linearBound wsX2_worthDown := goodIn_r _ [21, 11, 22, 23, 24, 25, 26, 27, 49, 50, 51, 52, 53, 54, 55, 56, 57] (by decide +kernel) (by decide +kernel)
set_option maxRecDepth 20000 in
theorem gX6_linearBound_X2_worthDown : GoodIn wsX6_linearBound (wsV RX6 330 RX2 yX2_worthDown wsX2_worthDown) := goodIn_app (goodIn_of _ (by decide +kernel)) ggX6_linearBound_X2_worthDown
theorem dX6_linearBound_0 : decode cX6_linearBound 0 = .ok (.aload_n 0, 1) := by decide +kernel
theorem dX6_linearBound_1 : decode cX6_linearBound 1 = .ok (.getfield 30, 3) := by decide +kernel
theorem dX6_linearBound_4 : decode cX6_linearBound 4 = .ok (.getfield 157, 3) := by decide +kernel
theorem dX6_linearBound_7 : decode cX6_linearBound 7 = .ok (.astore_n 1, 1) := by decide +kernel
theorem dX6_linearBound_8 : decode cX6_linearBound 8 = .ok (.aload_n 1, 1) := by decide +kernel
theorem dX6_linearBound_9 : decode cX6_linearBound 9 = .ok (.invokevirtual 225, 3) := by decide +kernel
theorem dX6_linearBound_12 : decode cX6_linearBound 12 = .ok (.ifCond .eq 18, 3) := by decide +kernel
theorem dX6_linearBound_15 : decode cX6_linearBound 15 = .ok (.aload_n 1, 1) := by decide +kernel
theorem dX6_linearBound_16 : decode cX6_linearBound 16 = .ok (.aload_n 1, 1) := by decide +kernel
theorem dX6_linearBound_17 : decode cX6_linearBound 17 = .ok (.getfield 161, 3) := by decide +kernel
theorem dX6_linearBound_20 : decode cX6_linearBound 20 = .ok (.aload_n 1, 1) := by decide +kernel
theorem dX6_linearBound_21 : decode cX6_linearBound 21 = .ok (.invokevirtual 327, 3) := by decide +kernel
theorem dX6_linearBound_24 : decode cX6_linearBound 24 = .ok (.invokevirtual 330, 3) := by decide +kernel
theorem dX6_linearBound_27 : decode cX6_linearBound 27 = .ok (.goto 4, 3) := by decide +kernel
theorem dX6_linearBound_30 : decode cX6_linearBound 30 = .ok (.lconst 0, 1) := by decide +kernel
theorem dX6_linearBound_31 : decode cX6_linearBound 31 = .ok (.lstore_n 2, 1) := by decide +kernel
theorem dX6_linearBound_32 : decode cX6_linearBound 32 = .ok (.aload_n 1, 1) := by decide +kernel
theorem dX6_linearBound_33 : decode cX6_linearBound 33 = .ok (.getfield 169, 3) := by decide +kernel
theorem dX6_linearBound_36 : decode cX6_linearBound 36 = .ok (.i2l, 1) := by decide +kernel
theorem dX6_linearBound_37 : decode cX6_linearBound 37 = .ok (.lload_n 2, 1) := by decide +kernel
theorem dX6_linearBound_38 : decode cX6_linearBound 38 = .ok (.ladd, 1) := by decide +kernel
theorem dX6_linearBound_39 : decode cX6_linearBound 39 = .ok (.l2i, 1) := by decide +kernel
theorem dX6_linearBound_40 : decode cX6_linearBound 40 = .ok (.ireturn, 1) := by decide +kernel
set_option maxRecDepth 20000 in
theorem ggX6_linearValue_X2_breakIsItem : GoodIn wsX6_linearValue wsX2_breakIsItem := goodIn_r _ [11, 12, 13, 41, 42, 43, 44, 45, 46, 47, 48, 49] (by decide +kernel) (by decide +kernel)
set_option maxRecDepth 20000 in
theorem gX6_linearValue_X2_breakIsItem : GoodIn wsX6_linearValue (wsV RX6 225 RX2 yX2_breakIsItem wsX2_breakIsItem) := goodIn_app (goodIn_of _ (by decide +kernel)) ggX6_linearValue_X2_breakIsItem
set_option maxRecDepth 20000 in
theorem ggX6_linearValue_X2_roomLeft : GoodIn wsX6_linearValue wsX2_roomLeft := goodIn_r _ [17, 18, 19, 41, 42, 43, 44, 45, 46, 47, 48, 49] (by decide +kernel) (by decide +kernel)
set_option maxRecDepth 20000 in
theorem gX6_linearValue_X2_roomLeft : GoodIn wsX6_linearValue (wsV RX6 327 RX2 yX2_roomLeft wsX2_roomLeft) := goodIn_app (goodIn_of _ (by decide +kernel)) ggX6_linearValue_X2_roomLeft
theorem dX6_linearValue_0 : decode cX6_linearValue 0 = .ok (.aload_n 0, 1) := by decide +kernel
theorem dX6_linearValue_1 : decode cX6_linearValue 1 = .ok (.getfield 30, 3) := by decide +kernel
theorem dX6_linearValue_4 : decode cX6_linearValue 4 = .ok (.getfield 157, 3) := by decide +kernel
theorem dX6_linearValue_7 : decode cX6_linearValue 7 = .ok (.astore_n 1, 1) := by decide +kernel
theorem dX6_linearValue_8 : decode cX6_linearValue 8 = .ok (.aload_n 1, 1) := by decide +kernel
theorem dX6_linearValue_9 : decode cX6_linearValue 9 = .ok (.getfield 169, 3) := by decide +kernel
theorem dX6_linearValue_12 : decode cX6_linearValue 12 = .ok (.i2d, 1) := by decide +kernel
theorem dX6_linearValue_13 : decode cX6_linearValue 13 = .ok (.dstore_n 2, 1) := by decide +kernel
theorem dX6_linearValue_14 : decode cX6_linearValue 14 = .ok (.aload_n 1, 1) := by decide +kernel
theorem dX6_linearValue_15 : decode cX6_linearValue 15 = .ok (.invokevirtual 225, 3) := by decide +kernel
theorem dX6_linearValue_18 : decode cX6_linearValue 18 = .ok (.ifCond .eq 16, 3) := by decide +kernel
theorem dX6_linearValue_21 : decode cX6_linearValue 21 = .ok (.aload_n 1, 1) := by decide +kernel
theorem dX6_linearValue_22 : decode cX6_linearValue 22 = .ok (.getfield 272, 3) := by decide +kernel
theorem dX6_linearValue_25 : decode cX6_linearValue 25 = .ok (.aload_n 1, 1) := by decide +kernel
theorem dX6_linearValue_26 : decode cX6_linearValue 26 = .ok (.getfield 161, 3) := by decide +kernel
theorem dX6_linearValue_29 : decode cX6_linearValue 29 = .ok (.iaload, 1) := by decide +kernel
theorem dX6_linearValue_30 : decode cX6_linearValue 30 = .ok (.iconst 1, 1) := by decide +kernel
theorem dX6_linearValue_31 : decode cX6_linearValue 31 = .ok (.if_icmp .ge 5, 3) := by decide +kernel
theorem dX6_linearValue_34 : decode cX6_linearValue 34 = .ok (.dload_n 2, 1) := by decide +kernel
theorem dX6_linearValue_35 : decode cX6_linearValue 35 = .ok (.dreturn, 1) := by decide +kernel
theorem dX6_linearValue_36 : decode cX6_linearValue 36 = .ok (.aload_n 1, 1) := by decide +kernel
theorem dX6_linearValue_37 : decode cX6_linearValue 37 = .ok (.invokevirtual 327, 3) := by decide +kernel
theorem dX6_linearValue_40 : decode cX6_linearValue 40 = .ok (.l2d, 1) := by decide +kernel
theorem dX6_linearValue_41 : decode cX6_linearValue 41 = .ok (.dstore 4, 2) := by decide +kernel
theorem dX6_linearValue_43 : decode cX6_linearValue 43 = .ok (.dload_n 2, 1) := by decide +kernel
theorem dX6_linearValue_44 : decode cX6_linearValue 44 = .ok (.dload 4, 2) := by decide +kernel
theorem dX6_linearValue_46 : decode cX6_linearValue 46 = .ok (.aload_n 1, 1) := by decide +kernel
theorem dX6_linearValue_47 : decode cX6_linearValue 47 = .ok (.getfield 274, 3) := by decide +kernel
theorem dX6_linearValue_50 : decode cX6_linearValue 50 = .ok (.aload_n 1, 1) := by decide +kernel
theorem dX6_linearValue_51 : decode cX6_linearValue 51 = .ok (.getfield 161, 3) := by decide +kernel
theorem dX6_linearValue_54 : decode cX6_linearValue 54 = .ok (.iaload, 1) := by decide +kernel
theorem dX6_linearValue_55 : decode cX6_linearValue 55 = .ok (.i2d, 1) := by decide +kernel
theorem dX6_linearValue_56 : decode cX6_linearValue 56 = .ok (.dmul, 1) := by decide +kernel
theorem dX6_linearValue_57 : decode cX6_linearValue 57 = .ok (.aload_n 1, 1) := by decide +kernel
theorem dX6_linearValue_58 : decode cX6_linearValue 58 = .ok (.getfield 272, 3) := by decide +kernel
theorem dX6_linearValue_61 : decode cX6_linearValue 61 = .ok (.aload_n 1, 1) := by decide +kernel
theorem dX6_linearValue_62 : decode cX6_linearValue 62 = .ok (.getfield 161, 3) := by decide +kernel
theorem dX6_linearValue_65 : decode cX6_linearValue 65 = .ok (.iaload, 1) := by decide +kernel
theorem dX6_linearValue_66 : decode cX6_linearValue 66 = .ok (.i2d, 1) := by decide +kernel
theorem dX6_linearValue_67 : decode cX6_linearValue 67 = .ok (.ddiv, 1) := by decide +kernel
theorem dX6_linearValue_68 : decode cX6_linearValue 68 = .ok (.dadd, 1) := by decide +kernel
theorem dX6_linearValue_69 : decode cX6_linearValue 69 = .ok (.dreturn, 1) := by decide +kernel
set_option maxRecDepth 20000 in
theorem ggX6_isFixed_X2_breakIsItem : GoodIn wsX6_isFixed wsX2_breakIsItem := goodIn_r _ [8, 9, 10, 53, 54, 55, 56, 57, 58, 59, 60, 61] (by decide +kernel) (by decide +kernel)
set_option maxRecDepth 20000 in
theorem gX6_isFixed_X2_breakIsItem : GoodIn wsX6_isFixed (wsV RX6 225 RX2 yX2_breakIsItem wsX2_breakIsItem) := goodIn_app (goodIn_of _ (by decide +kernel)) ggX6_isFixed_X2_breakIsItem
set_option maxRecDepth 20000 in
theorem ggX6_isFixed_X2_reducedAt : GoodIn wsX6_isFixed wsX2_reducedAt := goodIn_r _ [14, 10, 9, 15, 16, 17, 18, 19, 20, 7, 21, 22, 23, 24, 25, 26, 27, 28, 29, 30, 31, 53, 54, 55, 56, 57, 58, 59, 60, 61] (by decide +kernel) (by decide +kernel)
set_option maxRecDepth 20000 in
theorem gX6_isFixed_X2_reducedAt : GoodIn wsX6_isFixed (wsV RX6 228 RX2 yX2_reducedAt wsX2_reducedAt) := goodIn_app (goodIn_of _ (by decide +kernel)) ggX6_isFixed_X2_reducedAt
theorem dX6_isFixed_0 : decode cX6_isFixed 0 = .ok (.aload_n 0, 1) := by decide +kernel
theorem dX6_isFixed_1 : decode cX6_isFixed 1 = .ok (.getfield 30, 3) := by decide +kernel
theorem dX6_isFixed_4 : decode cX6_isFixed 4 = .ok (.getfield 157, 3) := by decide +kernel
theorem dX6_isFixed_7 : decode cX6_isFixed 7 = .ok (.invokevirtual 225, 3) := by decide +kernel
theorem dX6_isFixed_10 : decode cX6_isFixed 10 = .ok (.ifCond .eq 30, 3) := by decide +kernel
theorem dX6_isFixed_13 : decode cX6_isFixed 13 = .ok (.aload_n 0, 1) := by decide +kernel
theorem dX6_isFixed_14 : decode cX6_isFixed 14 = .ok (.getfield 30, 3) := by decide +kernel
theorem dX6_isFixed_17 : decode cX6_isFixed 17 = .ok (.getfield 157, 3) := by decide +kernel
theorem dX6_isFixed_20 : decode cX6_isFixed 20 = .ok (.iload_n 1, 1) := by decide +kernel
theorem dX6_isFixed_21 : decode cX6_isFixed 21 = .ok (.invokevirtual 228, 3) := by decide +kernel
theorem dX6_isFixed_24 : decode cX6_isFixed 24 = .ok (.aload_n 0, 1) := by decide +kernel
theorem dX6_isFixed_25 : decode cX6_isFixed 25 = .ok (.getfield 30, 3) := by decide +kernel
theorem dX6_isFixed_28 : decode cX6_isFixed 28 = .ok (.getfield 181, 3) := by decide +kernel
theorem dX6_isFixed_31 : decode cX6_isFixed 31 = .ok (.i2l, 1) := by decide +kernel
theorem dX6_isFixed_32 : decode cX6_isFixed 32 = .ok (.lcmp, 1) := by decide +kernel
theorem dX6_isFixed_33 : decode cX6_isFixed 33 = .ok (.ifCond .gt 7, 3) := by decide +kernel
theorem dX6_isFixed_36 : decode cX6_isFixed 36 = .ok (.iconst 1, 1) := by decide +kernel
theorem dX6_isFixed_37 : decode cX6_isFixed 37 = .ok (.goto 4, 3) := by decide +kernel
theorem dX6_isFixed_40 : decode cX6_isFixed 40 = .ok (.iconst 0, 1) := by decide +kernel
theorem dX6_isFixed_41 : decode cX6_isFixed 41 = .ok (.ireturn, 1) := by decide +kernel
set_option maxRecDepth 20000 in
theorem ggX6_countFixed_X6_isFixed : GoodIn wsX6_countFixed wsX6_isFixed := goodIn_r _ [8, 9, 10, 11, 12, 13, 14, 15, 16, 17, 18, 19, 20, 21, 22, 23, 24, 25, 26, 27, 28, 29, 30, 31, 32, 33, 34, 35, 36, 37, 38, 39, 40, 41, 42, 43, 44, 45, 46, 47, 48, 49, 50, 64, 65, 66, 67, 68, 69, 70, 71, 72, 73, 74, 75, 76, 77, 78, 79, 80, 81, 82] (by decide +kernel) (by decide +kernel)
set_option maxRecDepth 20000 in
theorem gX6_countFixed_X6_isFixed : GoodIn wsX6_countFixed (wsV RX6 220 RX6 yX6_isFixed wsX6_isFixed) := goodIn_app (goodIn_of _ (by decide +kernel)) ggX6_countFixed_X6_isFixed
theorem dX6_countFixed_0 : decode cX6_countFixed 0 = .ok (.iconst 0, 1) := by decide +kernel
theorem dX6_countFixed_1 : decode cX6_countFixed 1 = .ok (.istore_n 1, 1) := by decide +kernel
theorem dX6_countFixed_2 : decode cX6_countFixed 2 = .ok (.iconst 0, 1) := by decide +kernel
theorem dX6_countFixed_3 : decode cX6_countFixed 3 = .ok (.istore_n 2, 1) := by decide +kernel
theorem dX6_countFixed_4 : decode cX6_countFixed 4 = .ok (.iload_n 2, 1) := by decide +kernel
theorem dX6_countFixed_5 : decode cX6_countFixed 5 = .ok (.aload_n 0, 1) := by decide +kernel
theorem dX6_countFixed_6 : decode cX6_countFixed 6 = .ok (.getfield 10, 3) := by decide +kernel
theorem dX6_countFixed_9 : decode cX6_countFixed 9 = .ok (.getfield 85, 3) := by decide +kernel
theorem dX6_countFixed_12 : decode cX6_countFixed 12 = .ok (.getfield 98, 3) := by decide +kernel
theorem dX6_countFixed_15 : decode cX6_countFixed 15 = .ok (.if_icmp .ge 25, 3) := by decide +kernel
theorem dX6_countFixed_18 : decode cX6_countFixed 18 = .ok (.iload_n 1, 1) := by decide +kernel
theorem dX6_countFixed_19 : decode cX6_countFixed 19 = .ok (.aload_n 0, 1) := by decide +kernel
theorem dX6_countFixed_20 : decode cX6_countFixed 20 = .ok (.iload_n 2, 1) := by decide +kernel
theorem dX6_countFixed_21 : decode cX6_countFixed 21 = .ok (.invokevirtual 220, 3) := by decide +kernel
theorem dX6_countFixed_24 : decode cX6_countFixed 24 = .ok (.ifCond .eq 7, 3) := by decide +kernel
theorem dX6_countFixed_27 : decode cX6_countFixed 27 = .ok (.iconst 1, 1) := by decide +kernel
theorem dX6_countFixed_28 : decode cX6_countFixed 28 = .ok (.goto 4, 3) := by decide +kernel
theorem dX6_countFixed_31 : decode cX6_countFixed 31 = .ok (.iconst 0, 1) := by decide +kernel
theorem dX6_countFixed_32 : decode cX6_countFixed 32 = .ok (.iadd, 1) := by decide +kernel
theorem dX6_countFixed_33 : decode cX6_countFixed 33 = .ok (.istore_n 1, 1) := by decide +kernel
theorem dX6_countFixed_34 : decode cX6_countFixed 34 = .ok (.iinc 2 1, 3) := by decide +kernel
theorem dX6_countFixed_37 : decode cX6_countFixed 37 = .ok (.goto (-33), 3) := by decide +kernel
theorem dX6_countFixed_40 : decode cX6_countFixed 40 = .ok (.iload_n 1, 1) := by decide +kernel
theorem dX6_countFixed_41 : decode cX6_countFixed 41 = .ok (.ireturn, 1) := by decide +kernel
set_option maxRecDepth 20000 in
theorem ggX6_bestInsteadOf_X0_bestHas : GoodIn wsX6_bestInsteadOf wsX0_bestHas := goodIn_r _ [12, 13, 14, 15, 27, 28, 29, 30, 31, 32, 33, 34, 35, 36, 37, 38, 39, 40, 41, 42, 43, 44, 45] (by decide +kernel) (by decide +kernel)
set_option maxRecDepth 20000 in
theorem gX6_bestInsteadOf_X0_bestHas : GoodIn wsX6_bestInsteadOf (wsV RX6 217 RX0 yX0_bestHas wsX0_bestHas) := goodIn_app (goodIn_of _ (by decide +kernel)) ggX6_bestInsteadOf_X0_bestHas
theorem dX6_bestInsteadOf_0 : decode cX6_bestInsteadOf 0 = .ok (.aload_n 0, 1) := by decide +kernel
theorem dX6_bestInsteadOf_1 : decode cX6_bestInsteadOf 1 = .ok (.getfield 30, 3) := by decide +kernel
theorem dX6_bestInsteadOf_4 : decode cX6_bestInsteadOf 4 = .ok (.getfield 157, 3) := by decide +kernel
theorem dX6_bestInsteadOf_7 : decode cX6_bestInsteadOf 7 = .ok (.astore_n 2, 1) := by decide +kernel
theorem dX6_bestInsteadOf_8 : decode cX6_bestInsteadOf 8 = .ok (.aload_n 2, 1) := by decide +kernel
theorem dX6_bestInsteadOf_9 : decode cX6_bestInsteadOf 9 = .ok (.getfield 273, 3) := by decide +kernel
theorem dX6_bestInsteadOf_12 : decode cX6_bestInsteadOf 12 = .ok (.i2l, 1) := by decide +kernel
theorem dX6_bestInsteadOf_13 : decode cX6_bestInsteadOf 13 = .ok (.aload_n 0, 1) := by decide +kernel
theorem dX6_bestInsteadOf_14 : decode cX6_bestInsteadOf 14 = .ok (.getfield 30, 3) := by decide +kernel
theorem dX6_bestInsteadOf_17 : decode cX6_bestInsteadOf 17 = .ok (.getfield 184, 3) := by decide +kernel
theorem dX6_bestInsteadOf_20 : decode cX6_bestInsteadOf 20 = .ok (.i2l, 1) := by decide +kernel
theorem dX6_bestInsteadOf_21 : decode cX6_bestInsteadOf 21 = .ok (.lsub, 1) := by decide +kernel
theorem dX6_bestInsteadOf_22 : decode cX6_bestInsteadOf 22 = .ok (.aload_n 2, 1) := by decide +kernel
theorem dX6_bestInsteadOf_23 : decode cX6_bestInsteadOf 23 = .ok (.getfield 272, 3) := by decide +kernel
theorem dX6_bestInsteadOf_26 : decode cX6_bestInsteadOf 26 = .ok (.iload_n 1, 1) := by decide +kernel
theorem dX6_bestInsteadOf_27 : decode cX6_bestInsteadOf 27 = .ok (.iaload, 1) := by decide +kernel
theorem dX6_bestInsteadOf_28 : decode cX6_bestInsteadOf 28 = .ok (.i2l, 1) := by decide +kernel
theorem dX6_bestInsteadOf_29 : decode cX6_bestInsteadOf 29 = .ok (.ladd, 1) := by decide +kernel
theorem dX6_bestInsteadOf_30 : decode cX6_bestInsteadOf 30 = .ok (.lstore_n 3, 1) := by decide +kernel
theorem dX6_bestInsteadOf_31 : decode cX6_bestInsteadOf 31 = .ok (.iconst (-1), 1) := by decide +kernel
theorem dX6_bestInsteadOf_32 : decode cX6_bestInsteadOf 32 = .ok (.istore 5, 2) := by decide +kernel
theorem dX6_bestInsteadOf_34 : decode cX6_bestInsteadOf 34 = .ok (.iconst 0, 1) := by decide +kernel
theorem dX6_bestInsteadOf_35 : decode cX6_bestInsteadOf 35 = .ok (.istore 6, 2) := by decide +kernel
theorem dX6_bestInsteadOf_37 : decode cX6_bestInsteadOf 37 = .ok (.iload 6, 2) := by decide +kernel
theorem dX6_bestInsteadOf_39 : decode cX6_bestInsteadOf 39 = .ok (.aload_n 2, 1) := by decide +kernel
theorem dX6_bestInsteadOf_40 : decode cX6_bestInsteadOf 40 = .ok (.getfield 271, 3) := by decide +kernel
theorem dX6_bestInsteadOf_43 : decode cX6_bestInsteadOf 43 = .ok (.if_icmp .ge 61, 3) := by decide +kernel
theorem dX6_bestInsteadOf_46 : decode cX6_bestInsteadOf 46 = .ok (.aload_n 0, 1) := by decide +kernel
theorem dX6_bestInsteadOf_47 : decode cX6_bestInsteadOf 47 = .ok (.getfield 30, 3) := by decide +kernel
theorem dX6_bestInsteadOf_50 : decode cX6_bestInsteadOf 50 = .ok (.iload 6, 2) := by decide +kernel
theorem dX6_bestInsteadOf_52 : decode cX6_bestInsteadOf 52 = .ok (.invokevirtual 217, 3) := by decide +kernel
theorem dX6_bestInsteadOf_55 : decode cX6_bestInsteadOf 55 = .ok (.ifCond .ne 43, 3) := by decide +kernel
theorem dX6_bestInsteadOf_58 : decode cX6_bestInsteadOf 58 = .ok (.aload_n 2, 1) := by decide +kernel
theorem dX6_bestInsteadOf_59 : decode cX6_bestInsteadOf 59 = .ok (.getfield 272, 3) := by decide +kernel
theorem dX6_bestInsteadOf_62 : decode cX6_bestInsteadOf 62 = .ok (.iload 6, 2) := by decide +kernel
theorem dX6_bestInsteadOf_64 : decode cX6_bestInsteadOf 64 = .ok (.iaload, 1) := by decide +kernel
theorem dX6_bestInsteadOf_65 : decode cX6_bestInsteadOf 65 = .ok (.i2l, 1) := by decide +kernel
theorem dX6_bestInsteadOf_66 : decode cX6_bestInsteadOf 66 = .ok (.lload_n 3, 1) := by decide +kernel
theorem dX6_bestInsteadOf_67 : decode cX6_bestInsteadOf 67 = .ok (.lcmp, 1) := by decide +kernel
theorem dX6_bestInsteadOf_68 : decode cX6_bestInsteadOf 68 = .ok (.ifCond .gt 30, 3) := by decide +kernel
theorem dX6_bestInsteadOf_71 : decode cX6_bestInsteadOf 71 = .ok (.iload 5, 2) := by decide +kernel
theorem dX6_bestInsteadOf_73 : decode cX6_bestInsteadOf 73 = .ok (.iconst (-1), 1) := by decide +kernel
theorem dX6_bestInsteadOf_74 : decode cX6_bestInsteadOf 74 = .ok (.if_icmp .eq 20, 3) := by decide +kernel
theorem dX6_bestInsteadOf_77 : decode cX6_bestInsteadOf 77 = .ok (.aload_n 2, 1) := by decide +kernel
theorem dX6_bestInsteadOf_78 : decode cX6_bestInsteadOf 78 = .ok (.getfield 274, 3) := by decide +kernel
theorem dX6_bestInsteadOf_81 : decode cX6_bestInsteadOf 81 = .ok (.iload 6, 2) := by decide +kernel
theorem dX6_bestInsteadOf_83 : decode cX6_bestInsteadOf 83 = .ok (.iaload, 1) := by decide +kernel
theorem dX6_bestInsteadOf_84 : decode cX6_bestInsteadOf 84 = .ok (.aload_n 2, 1) := by decide +kernel
theorem dX6_bestInsteadOf_85 : decode cX6_bestInsteadOf 85 = .ok (.getfield 274, 3) := by decide +kernel
theorem dX6_bestInsteadOf_88 : decode cX6_bestInsteadOf 88 = .ok (.iload 5, 2) := by decide +kernel
theorem dX6_bestInsteadOf_90 : decode cX6_bestInsteadOf 90 = .ok (.iaload, 1) := by decide +kernel
theorem dX6_bestInsteadOf_91 : decode cX6_bestInsteadOf 91 = .ok (.if_icmp .le 7, 3) := by decide +kernel
theorem dX6_bestInsteadOf_94 : decode cX6_bestInsteadOf 94 = .ok (.iload 6, 2) := by decide +kernel
theorem dX6_bestInsteadOf_96 : decode cX6_bestInsteadOf 96 = .ok (.istore 5, 2) := by decide +kernel
theorem dX6_bestInsteadOf_98 : decode cX6_bestInsteadOf 98 = .ok (.iinc 6 1, 3) := by decide +kernel
theorem dX6_bestInsteadOf_101 : decode cX6_bestInsteadOf 101 = .ok (.goto (-64), 3) := by decide +kernel
theorem dX6_bestInsteadOf_104 : decode cX6_bestInsteadOf 104 = .ok (.iload 5, 2) := by decide +kernel
theorem dX6_bestInsteadOf_106 : decode cX6_bestInsteadOf 106 = .ok (.ireturn, 1) := by decide +kernel
set_option maxRecDepth 20000 in
theorem ggX6_makeFront_X4_put : GoodIn wsX6_makeFront wsX4_put := goodIn_r _ [17, 18, 19, 20, 21, 22, 23, 24, 25, 26, 27, 28, 29, 30, 31, 32, 33, 34, 35, 36, 37, 38, 39, 40, 41, 42, 43, 44, 45, 46, 47, 48, 69, 70, 71, 72] (by decide +kernel) (by decide +kernel)
set_option maxRecDepth 20000 in
theorem gX6_makeFront_X4_put : GoodIn wsX6_makeFront (wsV RX6 334 RX4 yX4_put wsX4_put) := goodIn_app (goodIn_of _ (by decide +kernel)) ggX6_makeFront_X4_put
set_option maxRecDepth 20000 in
theorem ggX6_makeFront_X4_mergeOf : GoodIn wsX6_makeFront wsX4_mergeOf := goodIn_r _ [52, 18, 20, 19, 21, 53, 54, 55, 16, 56, 57, 14, 15, 17, 22, 23, 24, 25, 26, 27, 28, 29, 30, 31, 32, 33, 34, 35, 36, 37, 38, 39, 40, 41, 42, 43, 44, 45, 46, 47, 48, 69, 70, 71, 72] (by decide +kernel) (by decide +kernel)
set_option maxRecDepth 20000 in
theorem gX6_makeFront_X4_mergeOf : GoodIn wsX6_makeFront (wsV RX6 337 RX4 yX4_mergeOf wsX4_mergeOf) := goodIn_app (goodIn_of _ (by decide +kernel)) ggX6_makeFront_X4_mergeOf
theorem dX6_makeFront_0 : decode cX6_makeFront 0 = .ok (.aload_n 0, 1) := by decide +kernel
theorem dX6_makeFront_1 : decode cX6_makeFront 1 = .ok (.getfield 284, 3) := by decide +kernel
theorem dX6_makeFront_4 : decode cX6_makeFront 4 = .ok (.ifCond .eq 4, 3) := by decide +kernel
theorem dX6_makeFront_7 : decode cX6_makeFront 7 = .ok (.return_, 1) := by decide +kernel
theorem dX6_makeFront_8 : decode cX6_makeFront 8 = .ok (.aload_n 0, 1) := by decide +kernel
theorem dX6_makeFront_9 : decode cX6_makeFront 9 = .ok (.getfield 51, 3) := by decide +kernel
theorem dX6_makeFront_12 : decode cX6_makeFront 12 = .ok (.iconst 0, 1) := by decide +kernel
theorem dX6_makeFront_13 : decode cX6_makeFront 13 = .ok (.putfield 150, 3) := by decide +kernel
theorem dX6_makeFront_16 : decode cX6_makeFront 16 = .ok (.aload_n 0, 1) := by decide +kernel
theorem dX6_makeFront_17 : decode cX6_makeFront 17 = .ok (.getfield 51, 3) := by decide +kernel
theorem dX6_makeFront_20 : decode cX6_makeFront 20 = .ok (.iconst 0, 1) := by decide +kernel
theorem dX6_makeFront_21 : decode cX6_makeFront 21 = .ok (.iconst 0, 1) := by decide +kernel
theorem dX6_makeFront_22 : decode cX6_makeFront 22 = .ok (.lconst 0, 1) := by decide +kernel
theorem dX6_makeFront_23 : decode cX6_makeFront 23 = .ok (.invokevirtual 334, 3) := by decide +kernel
theorem dX6_makeFront_26 : decode cX6_makeFront 26 = .ok (.aload_n 0, 1) := by decide +kernel
theorem dX6_makeFront_27 : decode cX6_makeFront 27 = .ok (.getfield 30, 3) := by decide +kernel
theorem dX6_makeFront_30 : decode cX6_makeFront 30 = .ok (.getfield 157, 3) := by decide +kernel
theorem dX6_makeFront_33 : decode cX6_makeFront 33 = .ok (.astore_n 1, 1) := by decide +kernel
theorem dX6_makeFront_34 : decode cX6_makeFront 34 = .ok (.iconst 0, 1) := by decide +kernel
theorem dX6_makeFront_35 : decode cX6_makeFront 35 = .ok (.istore_n 2, 1) := by decide +kernel
theorem dX6_makeFront_36 : decode cX6_makeFront 36 = .ok (.iload_n 2, 1) := by decide +kernel
theorem dX6_makeFront_37 : decode cX6_makeFront 37 = .ok (.aload_n 1, 1) := by decide +kernel
theorem dX6_makeFront_38 : decode cX6_makeFront 38 = .ok (.getfield 271, 3) := by decide +kernel
theorem dX6_makeFront_41 : decode cX6_makeFront 41 = .ok (.if_icmp .ge 72, 3) := by decide +kernel
theorem dX6_makeFront_44 : decode cX6_makeFront 44 = .ok (.aload_n 0, 1) := by decide +kernel
theorem dX6_makeFront_45 : decode cX6_makeFront 45 = .ok (.getfield 55, 3) := by decide +kernel
theorem dX6_makeFront_48 : decode cX6_makeFront 48 = .ok (.aload_n 0, 1) := by decide +kernel
theorem dX6_makeFront_49 : decode cX6_makeFront 49 = .ok (.getfield 51, 3) := by decide +kernel
theorem dX6_makeFront_52 : decode cX6_makeFront 52 = .ok (.aload_n 1, 1) := by decide +kernel
theorem dX6_makeFront_53 : decode cX6_makeFront 53 = .ok (.getfield 272, 3) := by decide +kernel
theorem dX6_makeFront_56 : decode cX6_makeFront 56 = .ok (.iload_n 2, 1) := by decide +kernel
theorem dX6_makeFront_57 : decode cX6_makeFront 57 = .ok (.iaload, 1) := by decide +kernel
theorem dX6_makeFront_58 : decode cX6_makeFront 58 = .ok (.aload_n 1, 1) := by decide +kernel
theorem dX6_makeFront_59 : decode cX6_makeFront 59 = .ok (.getfield 274, 3) := by decide +kernel
theorem dX6_makeFront_62 : decode cX6_makeFront 62 = .ok (.iload_n 2, 1) := by decide +kernel
theorem dX6_makeFront_63 : decode cX6_makeFront 63 = .ok (.iaload, 1) := by decide +kernel
theorem dX6_makeFront_64 : decode cX6_makeFront 64 = .ok (.lconst 1, 1) := by decide +kernel
theorem dX6_makeFront_65 : decode cX6_makeFront 65 = .ok (.iload_n 2, 1) := by decide +kernel
theorem dX6_makeFront_66 : decode cX6_makeFront 66 = .ok (.lshl, 1) := by decide +kernel
theorem dX6_makeFront_67 : decode cX6_makeFront 67 = .ok (.aload_n 0, 1) := by decide +kernel
theorem dX6_makeFront_68 : decode cX6_makeFront 68 = .ok (.getfield 10, 3) := by decide +kernel
theorem dX6_makeFront_71 : decode cX6_makeFront 71 = .ok (.getfield 85, 3) := by decide +kernel
theorem dX6_makeFront_74 : decode cX6_makeFront 74 = .ok (.getfield 117, 3) := by decide +kernel
theorem dX6_makeFront_77 : decode cX6_makeFront 77 = .ok (.invokevirtual 337, 3) := by decide +kernel
theorem dX6_makeFront_80 : decode cX6_makeFront 80 = .ok (.ifCond .ne 9, 3) := by decide +kernel
theorem dX6_makeFront_83 : decode cX6_makeFront 83 = .ok (.aload_n 0, 1) := by decide +kernel
theorem dX6_makeFront_84 : decode cX6_makeFront 84 = .ok (.iconst 2, 1) := by decide +kernel
theorem dX6_makeFront_85 : decode cX6_makeFront 85 = .ok (.putfield 284, 3) := by decide +kernel
theorem dX6_makeFront_88 : decode cX6_makeFront 88 = .ok (.return_, 1) := by decide +kernel
theorem dX6_makeFront_89 : decode cX6_makeFront 89 = .ok (.aload_n 0, 1) := by decide +kernel
theorem dX6_makeFront_90 : decode cX6_makeFront 90 = .ok (.getfield 55, 3) := by decide +kernel
theorem dX6_makeFront_93 : decode cX6_makeFront 93 = .ok (.astore_n 3, 1) := by decide +kernel
theorem dX6_makeFront_94 : decode cX6_makeFront 94 = .ok (.aload_n 0, 1) := by decide +kernel
theorem dX6_makeFront_95 : decode cX6_makeFront 95 = .ok (.aload_n 0, 1) := by decide +kernel
theorem dX6_makeFront_96 : decode cX6_makeFront 96 = .ok (.getfield 51, 3) := by decide +kernel
theorem dX6_makeFront_99 : decode cX6_makeFront 99 = .ok (.putfield 55, 3) := by decide +kernel
theorem dX6_makeFront_102 : decode cX6_makeFront 102 = .ok (.aload_n 0, 1) := by decide +kernel
theorem dX6_makeFront_103 : decode cX6_makeFront 103 = .ok (.aload_n 3, 1) := by decide +kernel
theorem dX6_makeFront_104 : decode cX6_makeFront 104 = .ok (.putfield 51, 3) := by decide +kernel
theorem dX6_makeFront_107 : decode cX6_makeFront 107 = .ok (.iinc 2 1, 3) := by decide +kernel
theorem dX6_makeFront_110 : decode cX6_makeFront 110 = .ok (.goto (-74), 3) := by decide +kernel
theorem dX6_makeFront_113 : decode cX6_makeFront 113 = .ok (.aload_n 0, 1) := by decide +kernel
theorem dX6_makeFront_114 : decode cX6_makeFront 114 = .ok (.iconst 1, 1) := by decide +kernel
theorem dX6_makeFront_115 : decode cX6_makeFront 115 = .ok (.putfield 284, 3) := by decide +kernel
theorem dX6_makeFront_118 : decode cX6_makeFront 118 = .ok (.return_, 1) := by decide +kernel
set_option maxRecDepth 20000 in
theorem ggX6_optimumOfSupposed_X0_begin : GoodIn wsX6_optimumOfSupposed wsX0_begin := goodIn_r _ [9, 10, 11, 12, 13, 14, 15, 16, 17, 18, 19, 20, 21, 22, 23, 24, 25, 26, 27, 28, 29, 30, 31, 32, 33, 34, 35, 36, 37, 38, 39, 40, 41, 42, 43, 44, 45, 46, 47, 48, 49, 50, 51, 52, 53, 54, 55, 56, 57, 58, 59, 60, 61, 62, 63, 64, 65, 66, 67, 68, 69, 70, 71, 72, 73, 74, 75, 76, 77, 78, 79, 80, 81, 82, 83, 84, 85, 86, 87, 88, 168, 169, 170, 171, 172, 173, 174, 175, 176, 177, 162, 163, 164, 165, 166, 167, 178, 179, 180, 181, 182, 183, 184, 185, 186, 187, 188, 189, 190] (by decide +kernel) (by decide +kernel)
set_option maxRecDepth 20000 in
theorem gX6_optimumOfSupposed_X0_begin : GoodIn wsX6_optimumOfSupposed (wsV RX6 303 RX0 yX0_begin wsX0_begin) := goodIn_app (goodIn_of _ (by decide +kernel)) ggX6_optimumOfSupposed_X0_begin
set_option maxRecDepth 20000 in
theorem ggX6_optimumOfSupposed_X0_widenToTheEnd : GoodIn wsX6_optimumOfSupposed wsX0_widenToTheEnd := goodIn_r _ [92, 22, 23, 93, 94, 75, 95, 96, 97, 98, 8, 99, 16, 15, 10, 100, 14, 101, 102, 103, 12, 104, 105, 106, 107, 108, 109, 110, 56, 111, 58, 60, 59, 61, 112, 113, 114, 115, 116, 54, 55, 57, 62, 63, 64, 65, 66, 67, 68, 69, 70, 71, 72, 73, 74, 76, 77, 78, 79, 80, 81, 82, 83, 84, 85, 86, 87, 88, 117, 118, 119, 120, 121, 20, 122, 18, 123, 21, 124, 125, 126, 127, 128, 129, 130, 131, 132, 133, 134, 135, 136, 137, 138, 139, 140, 27, 141, 30, 35, 37, 142, 143, 144, 145, 146, 147, 148, 149, 168, 169, 170, 171, 172, 173, 174, 175, 176, 177, 187, 188, 189, 190, 178, 179, 180, 181, 182, 183, 184, 185, 186] (by decide +kernel) (by decide +kernel)
set_option maxRecDepth 20000 in
theorem gX6_optimumOfSupposed_X0_widenToTheEnd : GoodIn wsX6_optimumOfSupposed (wsV RX6 153 RX0 yX0_widenToTheEnd wsX0_widenToTheEnd) := goodIn_app (goodIn_of _ (by decide +kernel)) ggX6_optimumOfSupposed_X0_widenToTheEnd
set_option maxRecDepth 20000 in
theorem ggX6_optimumOfSupposed_X0_isProved : GoodIn wsX6_optimumOfSupposed wsX0_isProved := goodIn_r _ [107, 22, 23, 14, 15, 10, 100, 168, 169, 170, 171, 172, 173, 174, 175, 176, 177, 187, 188, 189, 190, 178, 179, 180, 181, 182, 183, 184, 185, 186] (by decide +kernel) (by decide +kernel)
set_option maxRecDepth 20000 in
theorem gX6_optimumOfSupposed_X0_isProved : GoodIn wsX6_optimumOfSupposed (wsV RX6 136 RX0 yX0_isProved wsX0_isProved) := goodIn_app (goodIn_of _ (by decide +kernel)) ggX6_optimumOfSupposed_X0_isProved
theorem dX6_optimumOfSupposed_0 : decode cX6_optimumOfSupposed 0 = .ok (.aload_n 0, 1) := by decide +kernel
theorem dX6_optimumOfSupposed_1 : decode cX6_optimumOfSupposed 1 = .ok (.getfield 34, 3) := by decide +kernel
theorem dX6_optimumOfSupposed_4 : decode cX6_optimumOfSupposed 4 = .ok (.iload_n 1, 1) := by decide +kernel
theorem dX6_optimumOfSupposed_5 : decode cX6_optimumOfSupposed 5 = .ok (.putfield 105, 3) := by decide +kernel
theorem dX6_optimumOfSupposed_8 : decode cX6_optimumOfSupposed 8 = .ok (.aload_n 0, 1) := by decide +kernel
theorem dX6_optimumOfSupposed_9 : decode cX6_optimumOfSupposed 9 = .ok (.getfield 38, 3) := by decide +kernel
theorem dX6_optimumOfSupposed_12 : decode cX6_optimumOfSupposed 12 = .ok (.aload_n 0, 1) := by decide +kernel
theorem dX6_optimumOfSupposed_13 : decode cX6_optimumOfSupposed 13 = .ok (.getfield 34, 3) := by decide +kernel
theorem dX6_optimumOfSupposed_16 : decode cX6_optimumOfSupposed 16 = .ok (.invokevirtual 303, 3) := by decide +kernel
theorem dX6_optimumOfSupposed_19 : decode cX6_optimumOfSupposed 19 = .ok (.aload_n 0, 1) := by decide +kernel
theorem dX6_optimumOfSupposed_20 : decode cX6_optimumOfSupposed 20 = .ok (.getfield 38, 3) := by decide +kernel
theorem dX6_optimumOfSupposed_23 : decode cX6_optimumOfSupposed 23 = .ok (.invokevirtual 153, 3) := by decide +kernel
theorem dX6_optimumOfSupposed_26 : decode cX6_optimumOfSupposed 26 = .ok (.pop, 1) := by decide +kernel
theorem dX6_optimumOfSupposed_27 : decode cX6_optimumOfSupposed 27 = .ok (.aload_n 0, 1) := by decide +kernel
theorem dX6_optimumOfSupposed_28 : decode cX6_optimumOfSupposed 28 = .ok (.getfield 38, 3) := by decide +kernel
theorem dX6_optimumOfSupposed_31 : decode cX6_optimumOfSupposed 31 = .ok (.invokevirtual 136, 3) := by decide +kernel
theorem dX6_optimumOfSupposed_34 : decode cX6_optimumOfSupposed 34 = .ok (.ifCond .eq 13, 3) := by decide +kernel
theorem dX6_optimumOfSupposed_37 : decode cX6_optimumOfSupposed 37 = .ok (.aload_n 0, 1) := by decide +kernel
theorem dX6_optimumOfSupposed_38 : decode cX6_optimumOfSupposed 38 = .ok (.getfield 38, 3) := by decide +kernel
theorem dX6_optimumOfSupposed_41 : decode cX6_optimumOfSupposed 41 = .ok (.getfield 181, 3) := by decide +kernel
theorem dX6_optimumOfSupposed_44 : decode cX6_optimumOfSupposed 44 = .ok (.goto 4, 3) := by decide +kernel
theorem dX6_optimumOfSupposed_47 : decode cX6_optimumOfSupposed 47 = .ok (.iconst (-1), 1) := by decide +kernel
theorem dX6_optimumOfSupposed_48 : decode cX6_optimumOfSupposed 48 = .ok (.ireturn, 1) := by decide +kernel
theorem dX6_bitsOfFloat_0 : decode cX6_bitsOfFloat 0 = .ok (.fload_n 0, 1) := by decide +kernel
theorem dX6_bitsOfFloat_1 : decode cX6_bitsOfFloat 1 = .ok (.fconst 0, 1) := by decide +kernel
theorem dX6_bitsOfFloat_2 : decode cX6_bitsOfFloat 2 = .ok (.fcmp .l, 1) := by decide +kernel
theorem dX6_bitsOfFloat_3 : decode cX6_bitsOfFloat 3 = .ok (.ifCond .gt 5, 3) := by decide +kernel
theorem dX6_bitsOfFloat_6 : decode cX6_bitsOfFloat 6 = .ok (.iconst 0, 1) := by decide +kernel
theorem dX6_bitsOfFloat_7 : decode cX6_bitsOfFloat 7 = .ok (.ireturn, 1) := by decide +kernel
theorem dX6_bitsOfFloat_8 : decode cX6_bitsOfFloat 8 = .ok (.fload_n 0, 1) := by decide +kernel
theorem dX6_bitsOfFloat_9 : decode cX6_bitsOfFloat 9 = .ok (.fstore_n 1, 1) := by decide +kernel
theorem dX6_bitsOfFloat_10 : decode cX6_bitsOfFloat 10 = .ok (.bipush 127, 2) := by decide +kernel
theorem dX6_bitsOfFloat_12 : decode cX6_bitsOfFloat 12 = .ok (.istore_n 2, 1) := by decide +kernel
theorem dX6_bitsOfFloat_13 : decode cX6_bitsOfFloat 13 = .ok (.iconst 0, 1) := by decide +kernel
theorem dX6_bitsOfFloat_14 : decode cX6_bitsOfFloat 14 = .ok (.istore_n 3, 1) := by decide +kernel
theorem dX6_bitsOfFloat_15 : decode cX6_bitsOfFloat 15 = .ok (.iload_n 3, 1) := by decide +kernel
theorem dX6_bitsOfFloat_16 : decode cX6_bitsOfFloat 16 = .ok (.bipush 126, 2) := by decide +kernel
theorem dX6_bitsOfFloat_18 : decode cX6_bitsOfFloat 18 = .ok (.if_icmp .ge 22, 3) := by decide +kernel
theorem dX6_bitsOfFloat_21 : decode cX6_bitsOfFloat 21 = .ok (.fload_n 1, 1) := by decide +kernel
theorem dX6_bitsOfFloat_22 : decode cX6_bitsOfFloat 22 = .ok (.fconst 2, 1) := by decide +kernel
theorem dX6_bitsOfFloat_23 : decode cX6_bitsOfFloat 23 = .ok (.fcmp .l, 1) := by decide +kernel
theorem dX6_bitsOfFloat_24 : decode cX6_bitsOfFloat 24 = .ok (.ifCond .lt 16, 3) := by decide +kernel
theorem dX6_bitsOfFloat_27 : decode cX6_bitsOfFloat 27 = .ok (.fload_n 1, 1) := by decide +kernel
theorem dX6_bitsOfFloat_28 : decode cX6_bitsOfFloat 28 = .ok (.fconst 2, 1) := by decide +kernel
theorem dX6_bitsOfFloat_29 : decode cX6_bitsOfFloat 29 = .ok (.fdiv, 1) := by decide +kernel
theorem dX6_bitsOfFloat_30 : decode cX6_bitsOfFloat 30 = .ok (.fstore_n 1, 1) := by decide +kernel
theorem dX6_bitsOfFloat_31 : decode cX6_bitsOfFloat 31 = .ok (.iinc 2 1, 3) := by decide +kernel
theorem dX6_bitsOfFloat_34 : decode cX6_bitsOfFloat 34 = .ok (.iinc 3 1, 3) := by decide +kernel
theorem dX6_bitsOfFloat_37 : decode cX6_bitsOfFloat 37 = .ok (.goto (-22), 3) := by decide +kernel
theorem dX6_bitsOfFloat_40 : decode cX6_bitsOfFloat 40 = .ok (.iconst 0, 1) := by decide +kernel
theorem dX6_bitsOfFloat_41 : decode cX6_bitsOfFloat 41 = .ok (.istore_n 3, 1) := by decide +kernel
theorem dX6_bitsOfFloat_42 : decode cX6_bitsOfFloat 42 = .ok (.iload_n 3, 1) := by decide +kernel
theorem dX6_bitsOfFloat_43 : decode cX6_bitsOfFloat 43 = .ok (.bipush 126, 2) := by decide +kernel
theorem dX6_bitsOfFloat_45 : decode cX6_bitsOfFloat 45 = .ok (.if_icmp .ge 22, 3) := by decide +kernel
theorem dX6_bitsOfFloat_48 : decode cX6_bitsOfFloat 48 = .ok (.fload_n 1, 1) := by decide +kernel
theorem dX6_bitsOfFloat_49 : decode cX6_bitsOfFloat 49 = .ok (.fconst 1, 1) := by decide +kernel
theorem dX6_bitsOfFloat_50 : decode cX6_bitsOfFloat 50 = .ok (.fcmp .g, 1) := by decide +kernel
theorem dX6_bitsOfFloat_51 : decode cX6_bitsOfFloat 51 = .ok (.ifCond .ge 16, 3) := by decide +kernel
theorem dX6_bitsOfFloat_54 : decode cX6_bitsOfFloat 54 = .ok (.fload_n 1, 1) := by decide +kernel
theorem dX6_bitsOfFloat_55 : decode cX6_bitsOfFloat 55 = .ok (.fconst 2, 1) := by decide +kernel
theorem dX6_bitsOfFloat_56 : decode cX6_bitsOfFloat 56 = .ok (.fmul, 1) := by decide +kernel
theorem dX6_bitsOfFloat_57 : decode cX6_bitsOfFloat 57 = .ok (.fstore_n 1, 1) := by decide +kernel
theorem dX6_bitsOfFloat_58 : decode cX6_bitsOfFloat 58 = .ok (.iinc 2 (-1), 3) := by decide +kernel
theorem dX6_bitsOfFloat_61 : decode cX6_bitsOfFloat 61 = .ok (.iinc 3 1, 3) := by decide +kernel
theorem dX6_bitsOfFloat_64 : decode cX6_bitsOfFloat 64 = .ok (.goto (-22), 3) := by decide +kernel
theorem dX6_bitsOfFloat_67 : decode cX6_bitsOfFloat 67 = .ok (.iload_n 2, 1) := by decide +kernel
theorem dX6_bitsOfFloat_68 : decode cX6_bitsOfFloat 68 = .ok (.bipush 23, 2) := by decide +kernel
theorem dX6_bitsOfFloat_70 : decode cX6_bitsOfFloat 70 = .ok (.ishl, 1) := by decide +kernel
theorem dX6_bitsOfFloat_71 : decode cX6_bitsOfFloat 71 = .ok (.fload_n 1, 1) := by decide +kernel
theorem dX6_bitsOfFloat_72 : decode cX6_bitsOfFloat 72 = .ok (.fconst 1, 1) := by decide +kernel
theorem dX6_bitsOfFloat_73 : decode cX6_bitsOfFloat 73 = .ok (.fsub, 1) := by decide +kernel
theorem dX6_bitsOfFloat_74 : decode cX6_bitsOfFloat 74 = .ok (.ldc_w 341, 3) := by decide +kernel
theorem dX6_bitsOfFloat_77 : decode cX6_bitsOfFloat 77 = .ok (.fmul, 1) := by decide +kernel
theorem dX6_bitsOfFloat_78 : decode cX6_bitsOfFloat 78 = .ok (.f2i, 1) := by decide +kernel
theorem dX6_bitsOfFloat_79 : decode cX6_bitsOfFloat 79 = .ok (.ior, 1) := by decide +kernel
theorem dX6_bitsOfFloat_80 : decode cX6_bitsOfFloat 80 = .ok (.ireturn, 1) := by decide +kernel
theorem dX6_bitsOfDouble_0 : decode cX6_bitsOfDouble 0 = .ok (.dload_n 0, 1) := by decide +kernel
theorem dX6_bitsOfDouble_1 : decode cX6_bitsOfDouble 1 = .ok (.dconst 0, 1) := by decide +kernel
theorem dX6_bitsOfDouble_2 : decode cX6_bitsOfDouble 2 = .ok (.dcmp .l, 1) := by decide +kernel
theorem dX6_bitsOfDouble_3 : decode cX6_bitsOfDouble 3 = .ok (.ifCond .gt 5, 3) := by decide +kernel
theorem dX6_bitsOfDouble_6 : decode cX6_bitsOfDouble 6 = .ok (.lconst 0, 1) := by decide +kernel
theorem dX6_bitsOfDouble_7 : decode cX6_bitsOfDouble 7 = .ok (.lreturn, 1) := by decide +kernel
theorem dX6_bitsOfDouble_8 : decode cX6_bitsOfDouble 8 = .ok (.dload_n 0, 1) := by decide +kernel
theorem dX6_bitsOfDouble_9 : decode cX6_bitsOfDouble 9 = .ok (.dstore_n 2, 1) := by decide +kernel
theorem dX6_bitsOfDouble_10 : decode cX6_bitsOfDouble 10 = .ok (.ldc2_w 342, 3) := by decide +kernel
theorem dX6_bitsOfDouble_13 : decode cX6_bitsOfDouble 13 = .ok (.lstore 4, 2) := by decide +kernel
theorem dX6_bitsOfDouble_15 : decode cX6_bitsOfDouble 15 = .ok (.iconst 0, 1) := by decide +kernel
theorem dX6_bitsOfDouble_16 : decode cX6_bitsOfDouble 16 = .ok (.istore 6, 2) := by decide +kernel
theorem dX6_bitsOfDouble_18 : decode cX6_bitsOfDouble 18 = .ok (.iload 6, 2) := by decide +kernel
theorem dX6_bitsOfDouble_20 : decode cX6_bitsOfDouble 20 = .ok (.sipush 1022, 3) := by decide +kernel
