theorem dX7_optimum_3 : decode cX7_optimum 3 = .ok (.invokevirtual 238, 3) := by decide +kernel
theorem dX7_optimum_6 : decode cX7_optimum 6 = .ok (.aload_n 0, 1) := by decide +kernel
theorem dX7_optimum_7 : decode cX7_optimum 7 = .ok (.invokevirtual 264, 3) := by decide +kernel
theorem dX7_optimum_10 : decode cX7_optimum 10 = .ok (.ifCond .eq 10, 3) := by decide +kernel
theorem dX7_optimum_13 : decode cX7_optimum 13 = .ok (.aload_n 0, 1) := by decide +kernel
theorem dX7_optimum_14 : decode cX7_optimum 14 = .ok (.getfield 204, 3) := by decide +kernel
theorem dX7_optimum_17 : decode cX7_optimum 17 = .ok (.goto 6, 3) := by decide +kernel
theorem dX7_optimum_20 : decode cX7_optimum 20 = .ok (.ldc2_w 219, 3) := by decide +kernel
theorem dX7_optimum_23 : decode cX7_optimum 23 = .ok (.lreturn, 1) := by decide +kernel
set_option maxRecDepth 20000 in
theorem ggX7_other_X7_in : GoodIn wsX7_other wsX7_in := goodIn_r _ [6] (by decide +kernel) (by decide +kernel)
set_option maxRecDepth 20000 in
theorem gX7_other_X7_in : GoodIn wsX7_other (va_wsS RX7 88 yX7_in wsX7_in) := goodIn_app (goodIn_of _ (by decide +kernel)) ggX7_other_X7_in
set_option maxRecDepth 20000 in
theorem ggX7_other_X7_optimum : GoodIn wsX7_other wsX7_optimum := goodIn_r _ [10, 11, 12, 13, 14, 15, 5, 16, 17, 18, 19, 20, 21, 22, 23, 24, 25, 26, 27, 28, 29, 30, 31, 32, 33, 34, 35, 36, 37, 38, 39, 40, 41, 42, 43, 44, 45, 46, 47, 48, 49, 50, 51, 52, 53, 54, 55, 56, 57, 58, 59, 60, 61, 62, 63, 64, 65, 66, 67, 68, 69, 70, 71, 72, 73, 74, 75, 76, 77, 78, 79, 80, 81, 82, 83, 84, 85, 86, 87, 88, 89, 90, 91, 92, 93, 94, 95, 96, 97, 98, 99, 100, 101, 102, 103, 104, 105, 106, 107, 108, 109, 110, 111, 112, 113, 114, 115, 116, 117, 118, 119, 120, 121, 122, 123, 124, 125, 126, 127, 128, 129, 130, 131] (by decide +kernel) (by decide +kernel)
set_option maxRecDepth 20000 in
theorem gX7_other_X7_optimum : GoodIn wsX7_other (wsV RX7 322 RX7 yX7_optimum wsX7_optimum) := goodIn_app (goodIn_of _ (by decide +kernel)) ggX7_other_X7_optimum
theorem dX7_other_0 : decode cX7_other 0 = .ok (.aload_n 0, 1) := by decide +kernel
theorem dX7_other_1 : decode cX7_other 1 = .ok (.iconst 0, 1) := by decide +kernel
theorem dX7_other_2 : decode cX7_other 2 = .ok (.putfield 58, 3) := by decide +kernel
theorem dX7_other_5 : decode cX7_other 5 = .ok (.iload_n 1, 1) := by decide +kernel
theorem dX7_other_6 : decode cX7_other 6 = .ok (.i2l, 1) := by decide +kernel
theorem dX7_other_7 : decode cX7_other 7 = .ok (.lconst 0, 1) := by decide +kernel
theorem dX7_other_8 : decode cX7_other 8 = .ok (.ldc2_w 148, 3) := by decide +kernel
theorem dX7_other_11 : decode cX7_other 11 = .ok (.invokestatic 88, 3) := by decide +kernel
theorem dX7_other_14 : decode cX7_other 14 = .ok (.ifCond .eq 14, 3) := by decide +kernel
theorem dX7_other_17 : decode cX7_other 17 = .ok (.aload_n 0, 1) := by decide +kernel
theorem dX7_other_18 : decode cX7_other 18 = .ok (.iconst (-1), 1) := by decide +kernel
theorem dX7_other_19 : decode cX7_other 19 = .ok (.iload_n 1, 1) := by decide +kernel
theorem dX7_other_20 : decode cX7_other 20 = .ok (.i2l, 1) := by decide +kernel
theorem dX7_other_21 : decode cX7_other 21 = .ok (.invokevirtual 322, 3) := by decide +kernel
theorem dX7_other_24 : decode cX7_other 24 = .ok (.l2i, 1) := by decide +kernel
theorem dX7_other_25 : decode cX7_other 25 = .ok (.goto 4, 3) := by decide +kernel
theorem dX7_other_28 : decode cX7_other 28 = .ok (.iconst (-1), 1) := by decide +kernel
theorem dX7_other_29 : decode cX7_other 29 = .ok (.ireturn, 1) := by decide +kernel
set_option maxRecDepth 20000 in
theorem ggX7_without_X7_isItem : GoodIn wsX7_without wsX7_isItem := goodIn_r _ [7, 2, 8, 9, 6, 10, 94, 95, 96, 97, 98, 99, 100, 101, 102, 103, 104, 105, 106, 107, 108, 109, 110, 111, 112, 113, 114, 115, 116, 117, 118, 119, 120, 121, 122, 123, 124, 125, 126, 127, 128, 129, 130, 131, 132, 133, 134] (by decide +kernel) (by decide +kernel)
set_option maxRecDepth 20000 in
theorem gX7_without_X7_isItem : GoodIn wsX7_without (wsV RX7 257 RX7 yX7_isItem wsX7_isItem) := goodIn_app (goodIn_of _ (by decide +kernel)) ggX7_without_X7_isItem
set_option maxRecDepth 20000 in
theorem ggX7_without_X7_optimum : GoodIn wsX7_without wsX7_optimum := goodIn_r _ [14, 15, 16, 17, 18, 19, 6, 20, 21, 22, 23, 24, 25, 26, 27, 28, 29, 30, 31, 32, 33, 34, 35, 36, 37, 38, 2, 39, 40, 41, 42, 43, 44, 45, 46, 47, 48, 49, 50, 51, 52, 53, 54, 55, 56, 57, 58, 59, 60, 61, 62, 63, 64, 65, 66, 67, 68, 69, 70, 71, 72, 73, 74, 75, 76, 77, 78, 79, 80, 81, 82, 83, 84, 85, 86, 87, 88, 89, 90, 91, 92, 93, 94, 95, 96, 97, 98, 99, 100, 101, 102, 103, 104, 105, 106, 107, 108, 109, 110, 111, 112, 113, 114, 115, 116, 117, 118, 119, 120, 121, 122, 123, 124, 125, 126, 127, 128, 129, 130, 131, 132, 133, 134] (by decide +kernel) (by decide +kernel)
set_option maxRecDepth 20000 in
theorem gX7_without_X7_optimum : GoodIn wsX7_without (wsV RX7 322 RX7 yX7_optimum wsX7_optimum) := goodIn_app (goodIn_of _ (by decide +kernel)) ggX7_without_X7_optimum
theorem dX7_without_0 : decode cX7_without 0 = .ok (.aload_n 0, 1) := by decide +kernel
theorem dX7_without_1 : decode cX7_without 1 = .ok (.iconst 0, 1) := by decide +kernel
theorem dX7_without_2 : decode cX7_without 2 = .ok (.putfield 58, 3) := by decide +kernel
theorem dX7_without_5 : decode cX7_without 5 = .ok (.aload_n 0, 1) := by decide +kernel
theorem dX7_without_6 : decode cX7_without 6 = .ok (.iload_n 1, 1) := by decide +kernel
theorem dX7_without_7 : decode cX7_without 7 = .ok (.invokevirtual 257, 3) := by decide +kernel
theorem dX7_without_10 : decode cX7_without 10 = .ok (.ifCond .eq 19, 3) := by decide +kernel
theorem dX7_without_13 : decode cX7_without 13 = .ok (.aload_n 0, 1) := by decide +kernel
theorem dX7_without_14 : decode cX7_without 14 = .ok (.iload_n 1, 1) := by decide +kernel
theorem dX7_without_15 : decode cX7_without 15 = .ok (.aload_n 0, 1) := by decide +kernel
theorem dX7_without_16 : decode cX7_without 16 = .ok (.getfield 7, 3) := by decide +kernel
theorem dX7_without_19 : decode cX7_without 19 = .ok (.iconst 1, 1) := by decide +kernel
theorem dX7_without_20 : decode cX7_without 20 = .ok (.iaload, 1) := by decide +kernel
theorem dX7_without_21 : decode cX7_without 21 = .ok (.i2l, 1) := by decide +kernel
theorem dX7_without_22 : decode cX7_without 22 = .ok (.invokevirtual 322, 3) := by decide +kernel
theorem dX7_without_25 : decode cX7_without 25 = .ok (.l2i, 1) := by decide +kernel
theorem dX7_without_26 : decode cX7_without 26 = .ok (.goto 4, 3) := by decide +kernel
theorem dX7_without_29 : decode cX7_without 29 = .ok (.iconst (-1), 1) := by decide +kernel
theorem dX7_without_30 : decode cX7_without 30 = .ok (.ireturn, 1) := by decide +kernel
set_option maxRecDepth 20000 in
theorem ggX7_with_X7_isItem : GoodIn wsX7_with wsX7_isItem := goodIn_r _ [8, 2, 9, 10, 7, 11, 94, 95, 96, 97, 98, 99, 100, 101, 102, 103, 104, 105, 106, 107, 108, 109, 110, 111, 112, 113, 114, 115, 116, 117, 118, 119, 120, 121, 122, 123, 124, 125, 126, 127, 128, 129, 130, 131, 132, 133, 134] (by decide +kernel) (by decide +kernel)
set_option maxRecDepth 20000 in
theorem gX7_with_X7_isItem : GoodIn wsX7_with (wsV RX7 257 RX7 yX7_isItem wsX7_isItem) := goodIn_app (goodIn_of _ (by decide +kernel)) ggX7_with_X7_isItem
set_option maxRecDepth 20000 in
theorem ggX7_with_X7_optimum : GoodIn wsX7_with wsX7_optimum := goodIn_r _ [15, 16, 3, 17, 18, 19, 7, 20, 21, 22, 23, 24, 25, 26, 27, 28, 29, 30, 31, 32, 33, 34, 35, 36, 37, 38, 2, 39, 40, 41, 42, 43, 44, 45, 46, 47, 48, 49, 50, 51, 52, 53, 54, 55, 56, 57, 58, 59, 60, 61, 62, 63, 64, 65, 66, 67, 68, 69, 70, 71, 72, 73, 74, 75, 76, 77, 78, 79, 80, 81, 82, 83, 84, 85, 86, 87, 88, 89, 90, 91, 92, 93, 94, 95, 96, 97, 98, 99, 100, 101, 102, 103, 104, 105, 106, 107, 108, 109, 110, 111, 112, 113, 114, 115, 116, 117, 118, 119, 120, 121, 122, 123, 124, 125, 126, 127, 128, 129, 130, 131, 132, 133, 134] (by decide +kernel) (by decide +kernel)
set_option maxRecDepth 20000 in
theorem gX7_with_X7_optimum : GoodIn wsX7_with (wsV RX7 322 RX7 yX7_optimum wsX7_optimum) := goodIn_app (goodIn_of _ (by decide +kernel)) ggX7_with_X7_optimum
theorem dX7_with_0 : decode cX7_with 0 = .ok (.aload_n 0, 1) := by decide +kernel
theorem dX7_with_1 : decode cX7_with 1 = .ok (.iconst 0, 1) := by decide +kernel
theorem dX7_with_2 : decode cX7_with 2 = .ok (.putfield 58, 3) := by decide +kernel
theorem dX7_with_5 : decode cX7_with 5 = .ok (.aload_n 0, 1) := by decide +kernel
theorem dX7_with_6 : decode cX7_with 6 = .ok (.iload_n 1, 1) := by decide +kernel
theorem dX7_with_7 : decode cX7_with 7 = .ok (.invokevirtual 257, 3) := by decide +kernel
theorem dX7_with_10 : decode cX7_with 10 = .ok (.ifCond .eq 20, 3) := by decide +kernel
theorem dX7_with_13 : decode cX7_with 13 = .ok (.aload_n 0, 1) := by decide +kernel
theorem dX7_with_14 : decode cX7_with 14 = .ok (.getfield 7, 3) := by decide +kernel
theorem dX7_with_17 : decode cX7_with 17 = .ok (.iconst 4, 1) := by decide +kernel
theorem dX7_with_18 : decode cX7_with 18 = .ok (.iload_n 1, 1) := by decide +kernel
theorem dX7_with_19 : decode cX7_with 19 = .ok (.iadd, 1) := by decide +kernel
theorem dX7_with_20 : decode cX7_with 20 = .ok (.iaload, 1) := by decide +kernel
theorem dX7_with_21 : decode cX7_with 21 = .ok (.aload_n 0, 1) := by decide +kernel
theorem dX7_with_22 : decode cX7_with 22 = .ok (.getfield 7, 3) := by decide +kernel
theorem dX7_with_25 : decode cX7_with 25 = .ok (.iconst 1, 1) := by decide +kernel
theorem dX7_with_26 : decode cX7_with 26 = .ok (.iaload, 1) := by decide +kernel
theorem dX7_with_27 : decode cX7_with 27 = .ok (.if_icmp .le 5, 3) := by decide +kernel
theorem dX7_with_30 : decode cX7_with 30 = .ok (.iconst (-1), 1) := by decide +kernel
theorem dX7_with_31 : decode cX7_with 31 = .ok (.ireturn, 1) := by decide +kernel
theorem dX7_with_32 : decode cX7_with 32 = .ok (.aload_n 0, 1) := by decide +kernel
theorem dX7_with_33 : decode cX7_with 33 = .ok (.iload_n 1, 1) := by decide +kernel
theorem dX7_with_34 : decode cX7_with 34 = .ok (.aload_n 0, 1) := by decide +kernel
theorem dX7_with_35 : decode cX7_with 35 = .ok (.getfield 7, 3) := by decide +kernel
theorem dX7_with_38 : decode cX7_with 38 = .ok (.iconst 1, 1) := by decide +kernel
theorem dX7_with_39 : decode cX7_with 39 = .ok (.iaload, 1) := by decide +kernel
theorem dX7_with_40 : decode cX7_with 40 = .ok (.aload_n 0, 1) := by decide +kernel
theorem dX7_with_41 : decode cX7_with 41 = .ok (.getfield 7, 3) := by decide +kernel
theorem dX7_with_44 : decode cX7_with 44 = .ok (.iconst 4, 1) := by decide +kernel
theorem dX7_with_45 : decode cX7_with 45 = .ok (.iload_n 1, 1) := by decide +kernel
theorem dX7_with_46 : decode cX7_with 46 = .ok (.iadd, 1) := by decide +kernel
theorem dX7_with_47 : decode cX7_with 47 = .ok (.iaload, 1) := by decide +kernel
theorem dX7_with_48 : decode cX7_with 48 = .ok (.isub, 1) := by decide +kernel
theorem dX7_with_49 : decode cX7_with 49 = .ok (.i2l, 1) := by decide +kernel
theorem dX7_with_50 : decode cX7_with 50 = .ok (.invokevirtual 322, 3) := by decide +kernel
theorem dX7_with_53 : decode cX7_with 53 = .ok (.lstore_n 2, 1) := by decide +kernel
theorem dX7_with_54 : decode cX7_with 54 = .ok (.lload_n 2, 1) := by decide +kernel
theorem dX7_with_55 : decode cX7_with 55 = .ok (.ldc2_w 219, 3) := by decide +kernel
theorem dX7_with_58 : decode cX7_with 58 = .ok (.lcmp, 1) := by decide +kernel
theorem dX7_with_59 : decode cX7_with 59 = .ok (.ifCond .ne 7, 3) := by decide +kernel
theorem dX7_with_62 : decode cX7_with 62 = .ok (.iconst (-1), 1) := by decide +kernel
theorem dX7_with_63 : decode cX7_with 63 = .ok (.goto 15, 3) := by decide +kernel
theorem dX7_with_66 : decode cX7_with 66 = .ok (.lload_n 2, 1) := by decide +kernel
theorem dX7_with_67 : decode cX7_with 67 = .ok (.l2i, 1) := by decide +kernel
theorem dX7_with_68 : decode cX7_with 68 = .ok (.aload_n 0, 1) := by decide +kernel
theorem dX7_with_69 : decode cX7_with 69 = .ok (.getfield 7, 3) := by decide +kernel
theorem dX7_with_72 : decode cX7_with 72 = .ok (.bipush 64, 2) := by decide +kernel
theorem dX7_with_74 : decode cX7_with 74 = .ok (.iload_n 1, 1) := by decide +kernel
theorem dX7_with_75 : decode cX7_with 75 = .ok (.iadd, 1) := by decide +kernel
theorem dX7_with_76 : decode cX7_with 76 = .ok (.iaload, 1) := by decide +kernel
theorem dX7_with_77 : decode cX7_with 77 = .ok (.iadd, 1) := by decide +kernel
theorem dX7_with_78 : decode cX7_with 78 = .ok (.ireturn, 1) := by decide +kernel
set_option maxRecDepth 20000 in
theorem ggX7_least_X7_sumOf : GoodIn wsX7_least wsX7_sumOf := goodIn_r _ [9, 10, 93, 94, 95, 96, 97, 98, 99, 100, 101, 102, 103, 104, 105, 106, 107, 108, 109, 110, 111, 112, 113, 114, 115, 116, 117, 118, 119, 120, 121, 122, 123, 124, 125, 126, 127, 128, 129, 130, 131, 132, 133] (by decide +kernel) (by decide +kernel)
set_option maxRecDepth 20000 in
theorem gX7_least_X7_sumOf : GoodIn wsX7_least (wsV RX7 254 RX7 yX7_sumOf wsX7_sumOf) := goodIn_app (goodIn_of _ (by decide +kernel)) ggX7_least_X7_sumOf
set_option maxRecDepth 20000 in
theorem ggX7_least_X7_optimum : GoodIn wsX7_least wsX7_optimum := goodIn_r _ [14, 15, 4, 16, 17, 18, 8, 19, 20, 21, 22, 23, 24, 25, 26, 27, 28, 29, 30, 31, 32, 33, 34, 35, 36, 37, 10, 38, 39, 40, 41, 42, 43, 44, 45, 46, 47, 48, 49, 50, 51, 52, 53, 54, 55, 56, 57, 58, 59, 60, 61, 62, 63, 64, 65, 66, 67, 68, 69, 70, 71, 72, 73, 74, 75, 76, 77, 78, 79, 80, 81, 82, 83, 84, 85, 86, 87, 88, 89, 90, 91, 92, 93, 94, 95, 96, 97, 98, 99, 100, 101, 102, 103, 104, 105, 106, 107, 108, 109, 110, 111, 112, 113, 114, 115, 116, 117, 118, 119, 120, 121, 122, 123, 124, 125, 126, 127, 128, 129, 130, 131, 132, 133] (by decide +kernel) (by decide +kernel)
set_option maxRecDepth 20000 in
theorem gX7_least_X7_optimum : GoodIn wsX7_least (wsV RX7 322 RX7 yX7_optimum wsX7_optimum) := goodIn_app (goodIn_of _ (by decide +kernel)) ggX7_least_X7_optimum
theorem dX7_least_0 : decode cX7_least 0 = .ok (.aload_n 0, 1) := by decide +kernel
theorem dX7_least_1 : decode cX7_least 1 = .ok (.iconst 0, 1) := by decide +kernel
theorem dX7_least_2 : decode cX7_least 2 = .ok (.putfield 58, 3) := by decide +kernel
theorem dX7_least_5 : decode cX7_least 5 = .ok (.lconst 0, 1) := by decide +kernel
theorem dX7_least_6 : decode cX7_least 6 = .ok (.lstore_n 2, 1) := by decide +kernel
theorem dX7_least_7 : decode cX7_least 7 = .ok (.aload_n 0, 1) := by decide +kernel
theorem dX7_least_8 : decode cX7_least 8 = .ok (.iconst 4, 1) := by decide +kernel
theorem dX7_least_9 : decode cX7_least 9 = .ok (.invokevirtual 254, 3) := by decide +kernel
theorem dX7_least_12 : decode cX7_least 12 = .ok (.ldc2_w 148, 3) := by decide +kernel
theorem dX7_least_15 : decode cX7_least 15 = .ok (.lcmp, 1) := by decide +kernel
theorem dX7_least_16 : decode cX7_least 16 = .ok (.ifCond .le 9, 3) := by decide +kernel
theorem dX7_least_19 : decode cX7_least 19 = .ok (.ldc2_w 148, 3) := by decide +kernel
theorem dX7_least_22 : decode cX7_least 22 = .ok (.goto 8, 3) := by decide +kernel
theorem dX7_least_25 : decode cX7_least 25 = .ok (.aload_n 0, 1) := by decide +kernel
theorem dX7_least_26 : decode cX7_least 26 = .ok (.iconst 4, 1) := by decide +kernel
theorem dX7_least_27 : decode cX7_least 27 = .ok (.invokevirtual 254, 3) := by decide +kernel
theorem dX7_least_30 : decode cX7_least 30 = .ok (.lstore 4, 2) := by decide +kernel
theorem dX7_least_32 : decode cX7_least 32 = .ok (.iload_n 1, 1) := by decide +kernel
theorem dX7_least_33 : decode cX7_least 33 = .ok (.ifCond .lt 16, 3) := by decide +kernel
theorem dX7_least_36 : decode cX7_least 36 = .ok (.aload_n 0, 1) := by decide +kernel
theorem dX7_least_37 : decode cX7_least 37 = .ok (.iconst (-1), 1) := by decide +kernel
theorem dX7_least_38 : decode cX7_least 38 = .ok (.lload 4, 2) := by decide +kernel
theorem dX7_least_40 : decode cX7_least 40 = .ok (.invokevirtual 322, 3) := by decide +kernel
theorem dX7_least_43 : decode cX7_least 43 = .ok (.iload_n 1, 1) := by decide +kernel
theorem dX7_least_44 : decode cX7_least 44 = .ok (.i2l, 1) := by decide +kernel
theorem dX7_least_45 : decode cX7_least 45 = .ok (.lcmp, 1) := by decide +kernel
theorem dX7_least_46 : decode cX7_least 46 = .ok (.ifCond .ge 5, 3) := by decide +kernel
theorem dX7_least_49 : decode cX7_least 49 = .ok (.iconst (-1), 1) := by decide +kernel
theorem dX7_least_50 : decode cX7_least 50 = .ok (.ireturn, 1) := by decide +kernel
theorem dX7_least_51 : decode cX7_least 51 = .ok (.lload_n 2, 1) := by decide +kernel
theorem dX7_least_52 : decode cX7_least 52 = .ok (.lload 4, 2) := by decide +kernel
theorem dX7_least_54 : decode cX7_least 54 = .ok (.lcmp, 1) := by decide +kernel
theorem dX7_least_55 : decode cX7_least 55 = .ok (.ifCond .ge 56, 3) := by decide +kernel
theorem dX7_least_58 : decode cX7_least 58 = .ok (.lload_n 2, 1) := by decide +kernel
theorem dX7_least_59 : decode cX7_least 59 = .ok (.lload 4, 2) := by decide +kernel
theorem dX7_least_61 : decode cX7_least 61 = .ok (.ladd, 1) := by decide +kernel
theorem dX7_least_62 : decode cX7_least 62 = .ok (.ldc2_w 150, 3) := by decide +kernel
theorem dX7_least_65 : decode cX7_least 65 = .ok (.ldiv, 1) := by decide +kernel
theorem dX7_least_66 : decode cX7_least 66 = .ok (.lstore 6, 2) := by decide +kernel
theorem dX7_least_68 : decode cX7_least 68 = .ok (.aload_n 0, 1) := by decide +kernel
theorem dX7_least_69 : decode cX7_least 69 = .ok (.iconst (-1), 1) := by decide +kernel
theorem dX7_least_70 : decode cX7_least 70 = .ok (.lload 6, 2) := by decide +kernel
theorem dX7_least_72 : decode cX7_least 72 = .ok (.invokevirtual 322, 3) := by decide +kernel
theorem dX7_least_75 : decode cX7_least 75 = .ok (.lstore 8, 2) := by decide +kernel
theorem dX7_least_77 : decode cX7_least 77 = .ok (.lload 8, 2) := by decide +kernel
theorem dX7_least_79 : decode cX7_least 79 = .ok (.ldc2_w 219, 3) := by decide +kernel
theorem dX7_least_82 : decode cX7_least 82 = .ok (.lcmp, 1) := by decide +kernel
theorem dX7_least_83 : decode cX7_least 83 = .ok (.ifCond .ne 5, 3) := by decide +kernel
theorem dX7_least_86 : decode cX7_least 86 = .ok (.iconst (-1), 1) := by decide +kernel
theorem dX7_least_87 : decode cX7_least 87 = .ok (.ireturn, 1) := by decide +kernel
theorem dX7_least_88 : decode cX7_least 88 = .ok (.lload 8, 2) := by decide +kernel
theorem dX7_least_90 : decode cX7_least 90 = .ok (.iload_n 1, 1) := by decide +kernel
theorem dX7_least_91 : decode cX7_least 91 = .ok (.i2l, 1) := by decide +kernel
theorem dX7_least_92 : decode cX7_least 92 = .ok (.lcmp, 1) := by decide +kernel
theorem dX7_least_93 : decode cX7_least 93 = .ok (.ifCond .lt 10, 3) := by decide +kernel
theorem dX7_least_96 : decode cX7_least 96 = .ok (.lload 6, 2) := by decide +kernel
theorem dX7_least_98 : decode cX7_least 98 = .ok (.lstore 4, 2) := by decide +kernel
theorem dX7_least_100 : decode cX7_least 100 = .ok (.goto 8, 3) := by decide +kernel
theorem dX7_least_103 : decode cX7_least 103 = .ok (.lload 6, 2) := by decide +kernel
theorem dX7_least_105 : decode cX7_least 105 = .ok (.lconst 1, 1) := by decide +kernel
theorem dX7_least_106 : decode cX7_least 106 = .ok (.ladd, 1) := by decide +kernel
theorem dX7_least_107 : decode cX7_least 107 = .ok (.lstore_n 2, 1) := by decide +kernel
theorem dX7_least_108 : decode cX7_least 108 = .ok (.goto (-57), 3) := by decide +kernel
theorem dX7_least_111 : decode cX7_least 111 = .ok (.lload 4, 2) := by decide +kernel
theorem dX7_least_113 : decode cX7_least 113 = .ok (.l2i, 1) := by decide +kernel
theorem dX7_least_114 : decode cX7_least 114 = .ok (.ireturn, 1) := by decide +kernel
set_option maxRecDepth 20000 in
theorem ggX7_ahead_X7_lays : GoodIn wsX7_ahead wsX7_lays := goodIn_r _ [8, 9, 2, 10, 11, 12, 7, 13, 14, 15, 16, 17, 3, 18, 19, 20, 21, 22, 23, 24, 25, 26, 27, 28, 29, 30, 31, 32, 33, 34, 35, 36, 37, 38, 39, 40, 41, 42, 43, 44, 45, 46, 47, 48, 49, 50, 51, 52, 53, 54, 55, 56, 57, 58, 59, 60, 61, 62, 63, 64, 65, 66, 67, 68, 69, 70, 71, 72, 73, 74, 75, 76, 77, 78, 83, 84, 85, 86, 87, 88, 89, 90, 91, 92, 93, 94, 95, 96, 97, 98, 99, 100, 101, 102, 103, 104, 105, 106, 107, 108, 109, 110, 111, 112, 113, 114, 115, 116, 117, 118, 119, 120, 121, 122, 123] (by decide +kernel) (by decide +kernel)
set_option maxRecDepth 20000 in
theorem gX7_ahead_X7_lays : GoodIn wsX7_ahead (wsV RX7 261 RX7 yX7_lays wsX7_lays) := goodIn_app (goodIn_of _ (by decide +kernel)) ggX7_ahead_X7_lays
set_option maxRecDepth 20000 in
theorem ggX7_ahead_X7_isProved : GoodIn wsX7_ahead wsX7_isProved := goodIn_r _ [82, 3, 16, 17, 30, 83, 84, 85, 86, 87, 88, 89, 90, 91, 92, 93, 94, 95, 96, 97, 98, 99, 100, 101, 102, 103, 104, 105, 106, 107, 108, 109, 110, 111, 112, 113, 114, 115, 116, 117, 118, 119, 120, 121, 122, 123] (by decide +kernel) (by decide +kernel)
set_option maxRecDepth 20000 in
theorem gX7_ahead_X7_isProved : GoodIn wsX7_ahead (wsV RX7 245 RX7 yX7_isProved wsX7_isProved) := goodIn_app (goodIn_of _ (by decide +kernel)) ggX7_ahead_X7_isProved
set_option maxRecDepth 20000 in
theorem ggX7_ahead_X7_goes : GoodIn wsX7_ahead wsX7_goes := goodIn_r _ [46, 17, 16, 33, 34, 47, 9, 2, 3, 19, 14, 21, 25, 18, 23, 24, 48, 49, 50, 7, 51, 30, 52, 53, 54, 55, 56, 57, 58, 59, 60, 61, 62, 63, 64, 65, 66, 67, 68, 69, 70, 71, 72, 73, 74, 75, 76, 77, 78, 83, 84, 85, 86, 87, 88, 89, 90, 91, 92, 93, 94, 95, 96, 97, 98, 99, 100, 101, 102, 103, 104, 105, 106, 107, 108, 109, 110, 111, 112, 113, 114, 115, 116, 117, 118, 119, 120, 121, 122, 123] (by decide +kernel) (by decide +kernel)
set_option maxRecDepth 20000 in
theorem gX7_ahead_X7_goes : GoodIn wsX7_ahead (wsV RX7 242 RX7 yX7_goes wsX7_goes) := goodIn_app (goodIn_of _ (by decide +kernel)) ggX7_ahead_X7_goes
theorem dX7_ahead_0 : decode cX7_ahead 0 = .ok (.aload_n 0, 1) := by decide +kernel
theorem dX7_ahead_1 : decode cX7_ahead 1 = .ok (.iconst 0, 1) := by decide +kernel
theorem dX7_ahead_2 : decode cX7_ahead 2 = .ok (.putfield 58, 3) := by decide +kernel
theorem dX7_ahead_5 : decode cX7_ahead 5 = .ok (.aload_n 0, 1) := by decide +kernel
theorem dX7_ahead_6 : decode cX7_ahead 6 = .ok (.invokevirtual 261, 3) := by decide +kernel
theorem dX7_ahead_9 : decode cX7_ahead 9 = .ok (.aload_n 0, 1) := by decide +kernel
theorem dX7_ahead_10 : decode cX7_ahead 10 = .ok (.getfield 192, 3) := by decide +kernel
theorem dX7_ahead_13 : decode cX7_ahead 13 = .ok (.istore_n 2, 1) := by decide +kernel
theorem dX7_ahead_14 : decode cX7_ahead 14 = .ok (.aload_n 0, 1) := by decide +kernel
theorem dX7_ahead_15 : decode cX7_ahead 15 = .ok (.getfield 195, 3) := by decide +kernel
theorem dX7_ahead_18 : decode cX7_ahead 18 = .ok (.istore_n 3, 1) := by decide +kernel
theorem dX7_ahead_19 : decode cX7_ahead 19 = .ok (.iconst 1, 1) := by decide +kernel
theorem dX7_ahead_20 : decode cX7_ahead 20 = .ok (.istore 4, 2) := by decide +kernel
theorem dX7_ahead_22 : decode cX7_ahead 22 = .ok (.iload 4, 2) := by decide +kernel
theorem dX7_ahead_24 : decode cX7_ahead 24 = .ok (.ifCond .eq 36, 3) := by decide +kernel
theorem dX7_ahead_27 : decode cX7_ahead 27 = .ok (.aload_n 0, 1) := by decide +kernel
theorem dX7_ahead_28 : decode cX7_ahead 28 = .ok (.invokevirtual 245, 3) := by decide +kernel
theorem dX7_ahead_31 : decode cX7_ahead 31 = .ok (.ifCond .ne 29, 3) := by decide +kernel
theorem dX7_ahead_34 : decode cX7_ahead 34 = .ok (.aload_n 0, 1) := by decide +kernel
theorem dX7_ahead_35 : decode cX7_ahead 35 = .ok (.invokevirtual 242, 3) := by decide +kernel
theorem dX7_ahead_38 : decode cX7_ahead 38 = .ok (.istore 4, 2) := by decide +kernel
theorem dX7_ahead_40 : decode cX7_ahead 40 = .ok (.aload_n 0, 1) := by decide +kernel
theorem dX7_ahead_41 : decode cX7_ahead 41 = .ok (.getfield 195, 3) := by decide +kernel
theorem dX7_ahead_44 : decode cX7_ahead 44 = .ok (.iload_n 3, 1) := by decide +kernel
theorem dX7_ahead_45 : decode cX7_ahead 45 = .ok (.if_icmp .le 10, 3) := by decide +kernel
theorem dX7_ahead_48 : decode cX7_ahead 48 = .ok (.aload_n 0, 1) := by decide +kernel
theorem dX7_ahead_49 : decode cX7_ahead 49 = .ok (.getfield 195, 3) := by decide +kernel
theorem dX7_ahead_52 : decode cX7_ahead 52 = .ok (.goto 4, 3) := by decide +kernel
theorem dX7_ahead_55 : decode cX7_ahead 55 = .ok (.iload_n 3, 1) := by decide +kernel
theorem dX7_ahead_56 : decode cX7_ahead 56 = .ok (.istore_n 3, 1) := by decide +kernel
theorem dX7_ahead_57 : decode cX7_ahead 57 = .ok (.goto (-35), 3) := by decide +kernel
theorem dX7_ahead_60 : decode cX7_ahead 60 = .ok (.iload_n 1, 1) := by decide +kernel
theorem dX7_ahead_61 : decode cX7_ahead 61 = .ok (.ifCond .eq 7, 3) := by decide +kernel
theorem dX7_ahead_64 : decode cX7_ahead 64 = .ok (.iload_n 3, 1) := by decide +kernel
theorem dX7_ahead_65 : decode cX7_ahead 65 = .ok (.goto 9, 3) := by decide +kernel
theorem dX7_ahead_68 : decode cX7_ahead 68 = .ok (.aload_n 0, 1) := by decide +kernel
theorem dX7_ahead_69 : decode cX7_ahead 69 = .ok (.getfield 192, 3) := by decide +kernel
theorem dX7_ahead_72 : decode cX7_ahead 72 = .ok (.iload_n 2, 1) := by decide +kernel
theorem dX7_ahead_73 : decode cX7_ahead 73 = .ok (.isub, 1) := by decide +kernel
theorem dX7_ahead_74 : decode cX7_ahead 74 = .ok (.ireturn, 1) := by decide +kernel
set_option maxRecDepth 20000 in
theorem ggX7_isShelf_X7_in : GoodIn wsX7_isShelf wsX7_in := goodIn_r _ [5] (by decide +kernel) (by decide +kernel)
set_option maxRecDepth 20000 in
theorem gX7_isShelf_X7_in : GoodIn wsX7_isShelf (va_wsS RX7 88 yX7_in wsX7_in) := goodIn_app (goodIn_of _ (by decide +kernel)) ggX7_isShelf_X7_in
theorem dX7_isShelf_0 : decode cX7_isShelf 0 = .ok (.iload_n 0, 1) := by decide +kernel
theorem dX7_isShelf_1 : decode cX7_isShelf 1 = .ok (.i2l, 1) := by decide +kernel
theorem dX7_isShelf_2 : decode cX7_isShelf 2 = .ok (.lconst 0, 1) := by decide +kernel
theorem dX7_isShelf_3 : decode cX7_isShelf 3 = .ok (.lconst 1, 1) := by decide +kernel
theorem dX7_isShelf_4 : decode cX7_isShelf 4 = .ok (.invokestatic 88, 3) := by decide +kernel
theorem dX7_isShelf_7 : decode cX7_isShelf 7 = .ok (.ifCond .eq 19, 3) := by decide +kernel
theorem dX7_isShelf_10 : decode cX7_isShelf 10 = .ok (.iload_n 1, 1) := by decide +kernel
theorem dX7_isShelf_11 : decode cX7_isShelf 11 = .ok (.i2l, 1) := by decide +kernel
theorem dX7_isShelf_12 : decode cX7_isShelf 12 = .ok (.lconst 0, 1) := by decide +kernel
theorem dX7_isShelf_13 : decode cX7_isShelf 13 = .ok (.ldc2_w 317, 3) := by decide +kernel
theorem dX7_isShelf_16 : decode cX7_isShelf 16 = .ok (.invokestatic 88, 3) := by decide +kernel
theorem dX7_isShelf_19 : decode cX7_isShelf 19 = .ok (.ifCond .eq 7, 3) := by decide +kernel
theorem dX7_isShelf_22 : decode cX7_isShelf 22 = .ok (.iconst 1, 1) := by decide +kernel
theorem dX7_isShelf_23 : decode cX7_isShelf 23 = .ok (.goto 4, 3) := by decide +kernel
theorem dX7_isShelf_26 : decode cX7_isShelf 26 = .ok (.iconst 0, 1) := by decide +kernel
theorem dX7_isShelf_27 : decode cX7_isShelf 27 = .ok (.ireturn, 1) := by decide +kernel
set_option maxRecDepth 20000 in
theorem ggX7_shelve_X7_lays : GoodIn wsX7_shelve wsX7_lays := goodIn_r _ [10, 3, 11, 12, 13, 14, 9, 15, 16, 17, 18, 19, 2, 20, 4, 21, 5, 22, 23, 24, 25, 26, 27, 28, 29, 30, 31, 32, 33, 34, 35, 36, 37, 38, 39, 40, 41, 42, 43, 44, 45, 46, 47, 48, 49, 50, 51, 52, 53, 54, 55, 56, 57, 58, 59, 60, 61, 62, 63, 64, 65, 66, 67, 68, 69, 70, 71, 72, 73, 74, 75, 76, 77, 78, 90, 91, 92, 93, 94, 95, 96, 97, 98, 99, 100, 101, 102, 103, 104, 105, 106, 107, 108, 109, 110, 111, 112, 113, 114, 115, 116, 117, 118, 119, 120, 121, 122, 123, 124, 125, 126, 127, 128, 129, 130] (by decide +kernel) (by decide +kernel)
set_option maxRecDepth 20000 in
theorem gX7_shelve_X7_lays : GoodIn wsX7_shelve (wsV RX7 261 RX7 yX7_lays wsX7_lays) := goodIn_app (goodIn_of _ (by decide +kernel)) ggX7_shelve_X7_lays
set_option maxRecDepth 20000 in
theorem ggX7_shelve_X7_isShelf : GoodIn wsX7_shelve wsX7_isShelf := goodIn_r _ [81, 82, 83, 84, 9, 85] (by decide +kernel) (by decide +kernel)
set_option maxRecDepth 20000 in
theorem gX7_shelve_X7_isShelf : GoodIn wsX7_shelve (va_wsS RX7 326 yX7_isShelf wsX7_isShelf) := goodIn_app (goodIn_of _ (by decide +kernel)) ggX7_shelve_X7_isShelf
set_option maxRecDepth 20000 in
theorem ggX7_shelve_X7_in : GoodIn wsX7_shelve wsX7_in := goodIn_r _ [85] (by decide +kernel) (by decide +kernel)
set_option maxRecDepth 20000 in
theorem gX7_shelve_X7_in : GoodIn wsX7_shelve (va_wsS RX7 88 yX7_in wsX7_in) := goodIn_app (goodIn_of _ (by decide +kernel)) ggX7_shelve_X7_in
set_option maxRecDepth 20000 in
theorem ggX7_shelve_X7_isItem : GoodIn wsX7_shelve wsX7_isItem := goodIn_r _ [89, 3, 83, 84, 9, 85, 90, 91, 92, 93, 94, 95, 96, 97, 98, 99, 100, 101, 102, 103, 104, 105, 106, 107, 108, 109, 110, 111, 112, 113, 114, 115, 116, 117, 118, 119, 120, 121, 122, 123, 124, 125, 126, 127, 128, 129, 130] (by decide +kernel) (by decide +kernel)
set_option maxRecDepth 20000 in
theorem gX7_shelve_X7_isItem : GoodIn wsX7_shelve (wsV RX7 257 RX7 yX7_isItem wsX7_isItem) := goodIn_app (goodIn_of _ (by decide +kernel)) ggX7_shelve_X7_isItem
theorem dX7_shelve_0 : decode cX7_shelve 0 = .ok (.aload_n 0, 1) := by decide +kernel
theorem dX7_shelve_1 : decode cX7_shelve 1 = .ok (.iconst 0, 1) := by decide +kernel
theorem dX7_shelve_2 : decode cX7_shelve 2 = .ok (.putfield 58, 3) := by decide +kernel
theorem dX7_shelve_5 : decode cX7_shelve 5 = .ok (.aload_n 0, 1) := by decide +kernel
theorem dX7_shelve_6 : decode cX7_shelve 6 = .ok (.invokevirtual 261, 3) := by decide +kernel
theorem dX7_shelve_9 : decode cX7_shelve 9 = .ok (.iload_n 1, 1) := by decide +kernel
theorem dX7_shelve_10 : decode cX7_shelve 10 = .ok (.iload_n 2, 1) := by decide +kernel
theorem dX7_shelve_11 : decode cX7_shelve 11 = .ok (.invokestatic 326, 3) := by decide +kernel
theorem dX7_shelve_14 : decode cX7_shelve 14 = .ok (.ifCond .eq 36, 3) := by decide +kernel
theorem dX7_shelve_17 : decode cX7_shelve 17 = .ok (.iload_n 3, 1) := by decide +kernel
theorem dX7_shelve_18 : decode cX7_shelve 18 = .ok (.ifCond .eq 23, 3) := by decide +kernel
theorem dX7_shelve_21 : decode cX7_shelve 21 = .ok (.iload 4, 2) := by decide +kernel
theorem dX7_shelve_23 : decode cX7_shelve 23 = .ok (.i2l, 1) := by decide +kernel
theorem dX7_shelve_24 : decode cX7_shelve 24 = .ok (.lconst 0, 1) := by decide +kernel
theorem dX7_shelve_25 : decode cX7_shelve 25 = .ok (.aload_n 0, 1) := by decide +kernel
theorem dX7_shelve_26 : decode cX7_shelve 26 = .ok (.getfield 195, 3) := by decide +kernel
theorem dX7_shelve_29 : decode cX7_shelve 29 = .ok (.iconst 1, 1) := by decide +kernel
theorem dX7_shelve_30 : decode cX7_shelve 30 = .ok (.isub, 1) := by decide +kernel
theorem dX7_shelve_31 : decode cX7_shelve 31 = .ok (.i2l, 1) := by decide +kernel
theorem dX7_shelve_32 : decode cX7_shelve 32 = .ok (.invokestatic 88, 3) := by decide +kernel
theorem dX7_shelve_35 : decode cX7_shelve 35 = .ok (.ifCond .eq 15, 3) := by decide +kernel
theorem dX7_shelve_38 : decode cX7_shelve 38 = .ok (.goto 14, 3) := by decide +kernel
theorem dX7_shelve_41 : decode cX7_shelve 41 = .ok (.aload_n 0, 1) := by decide +kernel
theorem dX7_shelve_42 : decode cX7_shelve 42 = .ok (.iload 4, 2) := by decide +kernel
theorem dX7_shelve_44 : decode cX7_shelve 44 = .ok (.invokevirtual 257, 3) := by decide +kernel
theorem dX7_shelve_47 : decode cX7_shelve 47 = .ok (.ifCond .ne 5, 3) := by decide +kernel
theorem dX7_shelve_50 : decode cX7_shelve 50 = .ok (.iconst (-1), 1) := by decide +kernel
theorem dX7_shelve_51 : decode cX7_shelve 51 = .ok (.ireturn, 1) := by decide +kernel
theorem dX7_shelve_52 : decode cX7_shelve 52 = .ok (.iload_n 3, 1) := by decide +kernel
theorem dX7_shelve_53 : decode cX7_shelve 53 = .ok (.iload_n 1, 1) := by decide +kernel
theorem dX7_shelve_54 : decode cX7_shelve 54 = .ok (.iconst 1, 1) := by decide +kernel
theorem dX7_shelve_55 : decode cX7_shelve 55 = .ok (.if_icmp .ne 7, 3) := by decide +kernel
theorem dX7_shelve_58 : decode cX7_shelve 58 = .ok (.iconst 1, 1) := by decide +kernel
theorem dX7_shelve_59 : decode cX7_shelve 59 = .ok (.goto 4, 3) := by decide +kernel
theorem dX7_shelve_62 : decode cX7_shelve 62 = .ok (.iconst 0, 1) := by decide +kernel
theorem dX7_shelve_63 : decode cX7_shelve 63 = .ok (.if_icmp .eq 6, 3) := by decide +kernel
theorem dX7_shelve_66 : decode cX7_shelve 66 = .ok (.bipush (-2), 2) := by decide +kernel
theorem dX7_shelve_68 : decode cX7_shelve 68 = .ok (.ireturn, 1) := by decide +kernel
theorem dX7_shelve_69 : decode cX7_shelve 69 = .ok (.bipush 127, 2) := by decide +kernel
theorem dX7_shelve_71 : decode cX7_shelve 71 = .ok (.iconst 3, 1) := by decide +kernel
theorem dX7_shelve_72 : decode cX7_shelve 72 = .ok (.iconst 4, 1) := by decide +kernel
theorem dX7_shelve_73 : decode cX7_shelve 73 = .ok (.iload_n 1, 1) := by decide +kernel
theorem dX7_shelve_74 : decode cX7_shelve 74 = .ok (.imul, 1) := by decide +kernel
theorem dX7_shelve_75 : decode cX7_shelve 75 = .ok (.iload_n 2, 1) := by decide +kernel
theorem dX7_shelve_76 : decode cX7_shelve 76 = .ok (.iadd, 1) := by decide +kernel
theorem dX7_shelve_77 : decode cX7_shelve 77 = .ok (.imul, 1) := by decide +kernel
theorem dX7_shelve_78 : decode cX7_shelve 78 = .ok (.iadd, 1) := by decide +kernel
theorem dX7_shelve_79 : decode cX7_shelve 79 = .ok (.istore 5, 2) := by decide +kernel
theorem dX7_shelve_81 : decode cX7_shelve 81 = .ok (.aload_n 0, 1) := by decide +kernel
theorem dX7_shelve_82 : decode cX7_shelve 82 = .ok (.getfield 7, 3) := by decide +kernel
theorem dX7_shelve_85 : decode cX7_shelve 85 = .ok (.iload 5, 2) := by decide +kernel
theorem dX7_shelve_87 : decode cX7_shelve 87 = .ok (.iconst 1, 1) := by decide +kernel
theorem dX7_shelve_88 : decode cX7_shelve 88 = .ok (.iastore, 1) := by decide +kernel
theorem dX7_shelve_89 : decode cX7_shelve 89 = .ok (.aload_n 0, 1) := by decide +kernel
theorem dX7_shelve_90 : decode cX7_shelve 90 = .ok (.getfield 7, 3) := by decide +kernel
theorem dX7_shelve_93 : decode cX7_shelve 93 = .ok (.iload 5, 2) := by decide +kernel
theorem dX7_shelve_95 : decode cX7_shelve 95 = .ok (.iconst 1, 1) := by decide +kernel
theorem dX7_shelve_96 : decode cX7_shelve 96 = .ok (.iadd, 1) := by decide +kernel
theorem dX7_shelve_97 : decode cX7_shelve 97 = .ok (.iload_n 3, 1) := by decide +kernel
theorem dX7_shelve_98 : decode cX7_shelve 98 = .ok (.ifCond .eq 14, 3) := by decide +kernel
theorem dX7_shelve_101 : decode cX7_shelve 101 = .ok (.aload_n 0, 1) := by decide +kernel
theorem dX7_shelve_102 : decode cX7_shelve 102 = .ok (.getfield 43, 3) := by decide +kernel
theorem dX7_shelve_105 : decode cX7_shelve 105 = .ok (.iload 4, 2) := by decide +kernel
theorem dX7_shelve_107 : decode cX7_shelve 107 = .ok (.laload, 1) := by decide +kernel
theorem dX7_shelve_108 : decode cX7_shelve 108 = .ok (.l2i, 1) := by decide +kernel
theorem dX7_shelve_109 : decode cX7_shelve 109 = .ok (.goto 12, 3) := by decide +kernel
theorem dX7_shelve_112 : decode cX7_shelve 112 = .ok (.aload_n 0, 1) := by decide +kernel
theorem dX7_shelve_113 : decode cX7_shelve 113 = .ok (.getfield 7, 3) := by decide +kernel
theorem dX7_shelve_116 : decode cX7_shelve 116 = .ok (.iconst 4, 1) := by decide +kernel
theorem dX7_shelve_117 : decode cX7_shelve 117 = .ok (.iload 4, 2) := by decide +kernel
theorem dX7_shelve_119 : decode cX7_shelve 119 = .ok (.iadd, 1) := by decide +kernel
theorem dX7_shelve_120 : decode cX7_shelve 120 = .ok (.iaload, 1) := by decide +kernel
theorem dX7_shelve_121 : decode cX7_shelve 121 = .ok (.iastore, 1) := by decide +kernel
theorem dX7_shelve_122 : decode cX7_shelve 122 = .ok (.aload_n 0, 1) := by decide +kernel
theorem dX7_shelve_123 : decode cX7_shelve 123 = .ok (.getfield 7, 3) := by decide +kernel
theorem dX7_shelve_126 : decode cX7_shelve 126 = .ok (.iload 5, 2) := by decide +kernel
theorem dX7_shelve_128 : decode cX7_shelve 128 = .ok (.iconst 2, 1) := by decide +kernel
theorem dX7_shelve_129 : decode cX7_shelve 129 = .ok (.iadd, 1) := by decide +kernel
theorem dX7_shelve_130 : decode cX7_shelve 130 = .ok (.iload_n 3, 1) := by decide +kernel
theorem dX7_shelve_131 : decode cX7_shelve 131 = .ok (.ifCond .eq 14, 3) := by decide +kernel
theorem dX7_shelve_134 : decode cX7_shelve 134 = .ok (.aload_n 0, 1) := by decide +kernel
theorem dX7_shelve_135 : decode cX7_shelve 135 = .ok (.getfield 46, 3) := by decide +kernel
theorem dX7_shelve_138 : decode cX7_shelve 138 = .ok (.iload 4, 2) := by decide +kernel
theorem dX7_shelve_140 : decode cX7_shelve 140 = .ok (.laload, 1) := by decide +kernel
theorem dX7_shelve_141 : decode cX7_shelve 141 = .ok (.l2i, 1) := by decide +kernel
theorem dX7_shelve_142 : decode cX7_shelve 142 = .ok (.goto 13, 3) := by decide +kernel
theorem dX7_shelve_145 : decode cX7_shelve 145 = .ok (.aload_n 0, 1) := by decide +kernel
theorem dX7_shelve_146 : decode cX7_shelve 146 = .ok (.getfield 7, 3) := by decide +kernel
theorem dX7_shelve_149 : decode cX7_shelve 149 = .ok (.bipush 64, 2) := by decide +kernel
theorem dX7_shelve_151 : decode cX7_shelve 151 = .ok (.iload 4, 2) := by decide +kernel
theorem dX7_shelve_153 : decode cX7_shelve 153 = .ok (.iadd, 1) := by decide +kernel
theorem dX7_shelve_154 : decode cX7_shelve 154 = .ok (.iaload, 1) := by decide +kernel
theorem dX7_shelve_155 : decode cX7_shelve 155 = .ok (.iastore, 1) := by decide +kernel
theorem dX7_shelve_156 : decode cX7_shelve 156 = .ok (.iconst 0, 1) := by decide +kernel
theorem dX7_shelve_157 : decode cX7_shelve 157 = .ok (.ireturn, 1) := by decide +kernel
set_option maxRecDepth 20000 in
theorem ggX7_shelved_X7_isShelf : GoodIn wsX7_shelved wsX7_isShelf := goodIn_r _ [6, 7, 8, 9, 5, 10] (by decide +kernel) (by decide +kernel)
set_option maxRecDepth 20000 in
theorem gX7_shelved_X7_isShelf : GoodIn wsX7_shelved (va_wsS RX7 326 yX7_isShelf wsX7_isShelf) := goodIn_app (goodIn_of _ (by decide +kernel)) ggX7_shelved_X7_isShelf
theorem dX7_shelved_0 : decode cX7_shelved 0 = .ok (.aload_n 0, 1) := by decide +kernel
theorem dX7_shelved_1 : decode cX7_shelved 1 = .ok (.iconst 0, 1) := by decide +kernel
theorem dX7_shelved_2 : decode cX7_shelved 2 = .ok (.putfield 58, 3) := by decide +kernel
theorem dX7_shelved_5 : decode cX7_shelved 5 = .ok (.iload_n 1, 1) := by decide +kernel
theorem dX7_shelved_6 : decode cX7_shelved 6 = .ok (.iload_n 2, 1) := by decide +kernel
theorem dX7_shelved_7 : decode cX7_shelved 7 = .ok (.invokestatic 326, 3) := by decide +kernel
theorem dX7_shelved_10 : decode cX7_shelved 10 = .ok (.ifCond .eq 21, 3) := by decide +kernel
theorem dX7_shelved_13 : decode cX7_shelved 13 = .ok (.aload_n 0, 1) := by decide +kernel
theorem dX7_shelved_14 : decode cX7_shelved 14 = .ok (.getfield 7, 3) := by decide +kernel
theorem dX7_shelved_17 : decode cX7_shelved 17 = .ok (.bipush 127, 2) := by decide +kernel
theorem dX7_shelved_19 : decode cX7_shelved 19 = .ok (.iconst 3, 1) := by decide +kernel
theorem dX7_shelved_20 : decode cX7_shelved 20 = .ok (.iconst 4, 1) := by decide +kernel
theorem dX7_shelved_21 : decode cX7_shelved 21 = .ok (.iload_n 1, 1) := by decide +kernel
theorem dX7_shelved_22 : decode cX7_shelved 22 = .ok (.imul, 1) := by decide +kernel
theorem dX7_shelved_23 : decode cX7_shelved 23 = .ok (.iload_n 2, 1) := by decide +kernel
theorem dX7_shelved_24 : decode cX7_shelved 24 = .ok (.iadd, 1) := by decide +kernel
theorem dX7_shelved_25 : decode cX7_shelved 25 = .ok (.imul, 1) := by decide +kernel
theorem dX7_shelved_26 : decode cX7_shelved 26 = .ok (.iadd, 1) := by decide +kernel
theorem dX7_shelved_27 : decode cX7_shelved 27 = .ok (.iaload, 1) := by decide +kernel
theorem dX7_shelved_28 : decode cX7_shelved 28 = .ok (.ifCond .ne 5, 3) := by decide +kernel
theorem dX7_shelved_31 : decode cX7_shelved 31 = .ok (.iconst (-1), 1) := by decide +kernel
theorem dX7_shelved_32 : decode cX7_shelved 32 = .ok (.ireturn, 1) := by decide +kernel
theorem dX7_shelved_33 : decode cX7_shelved 33 = .ok (.aload_n 0, 1) := by decide +kernel
theorem dX7_shelved_34 : decode cX7_shelved 34 = .ok (.getfield 7, 3) := by decide +kernel
theorem dX7_shelved_37 : decode cX7_shelved 37 = .ok (.bipush 127, 2) := by decide +kernel
theorem dX7_shelved_39 : decode cX7_shelved 39 = .ok (.iconst 3, 1) := by decide +kernel
theorem dX7_shelved_40 : decode cX7_shelved 40 = .ok (.iconst 4, 1) := by decide +kernel
theorem dX7_shelved_41 : decode cX7_shelved 41 = .ok (.iload_n 1, 1) := by decide +kernel
theorem dX7_shelved_42 : decode cX7_shelved 42 = .ok (.imul, 1) := by decide +kernel
theorem dX7_shelved_43 : decode cX7_shelved 43 = .ok (.iload_n 2, 1) := by decide +kernel
theorem dX7_shelved_44 : decode cX7_shelved 44 = .ok (.iadd, 1) := by decide +kernel
theorem dX7_shelved_45 : decode cX7_shelved 45 = .ok (.imul, 1) := by decide +kernel
theorem dX7_shelved_46 : decode cX7_shelved 46 = .ok (.iadd, 1) := by decide +kernel
theorem dX7_shelved_47 : decode cX7_shelved 47 = .ok (.iload_n 3, 1) := by decide +kernel
theorem dX7_shelved_48 : decode cX7_shelved 48 = .ok (.ifCond .eq 7, 3) := by decide +kernel
theorem dX7_shelved_51 : decode cX7_shelved 51 = .ok (.iconst 2, 1) := by decide +kernel
theorem dX7_shelved_52 : decode cX7_shelved 52 = .ok (.goto 4, 3) := by decide +kernel
theorem dX7_shelved_55 : decode cX7_shelved 55 = .ok (.iconst 1, 1) := by decide +kernel
theorem dX7_shelved_56 : decode cX7_shelved 56 = .ok (.iadd, 1) := by decide +kernel
theorem dX7_shelved_57 : decode cX7_shelved 57 = .ok (.iaload, 1) := by decide +kernel
theorem dX7_shelved_58 : decode cX7_shelved 58 = .ok (.ireturn, 1) := by decide +kernel
theorem dX7_copiesText_0 : decode cX7_copiesText 0 = .ok (.iconst 0, 1) := by decide +kernel
theorem dX7_copiesText_1 : decode cX7_copiesText 1 = .ok (.istore_n 3, 1) := by decide +kernel
theorem dX7_copiesText_2 : decode cX7_copiesText 2 = .ok (.iload_n 3, 1) := by decide +kernel
theorem dX7_copiesText_3 : decode cX7_copiesText 3 = .ok (.sipush 151, 3) := by decide +kernel
theorem dX7_copiesText_6 : decode cX7_copiesText 6 = .ok (.if_icmp .ge 33, 3) := by decide +kernel
theorem dX7_copiesText_9 : decode cX7_copiesText 9 = .ok (.aload_n 0, 1) := by decide +kernel
theorem dX7_copiesText_10 : decode cX7_copiesText 10 = .ok (.getfield 7, 3) := by decide +kernel
theorem dX7_copiesText_13 : decode cX7_copiesText 13 = .ok (.sipush 151, 3) := by decide +kernel
theorem dX7_copiesText_16 : decode cX7_copiesText 16 = .ok (.iload_n 2, 1) := by decide +kernel
theorem dX7_copiesText_17 : decode cX7_copiesText 17 = .ok (.imul, 1) := by decide +kernel
theorem dX7_copiesText_18 : decode cX7_copiesText 18 = .ok (.iload_n 3, 1) := by decide +kernel
theorem dX7_copiesText_19 : decode cX7_copiesText 19 = .ok (.iadd, 1) := by decide +kernel
theorem dX7_copiesText_20 : decode cX7_copiesText 20 = .ok (.aload_n 0, 1) := by decide +kernel
theorem dX7_copiesText_21 : decode cX7_copiesText 21 = .ok (.getfield 7, 3) := by decide +kernel
theorem dX7_copiesText_24 : decode cX7_copiesText 24 = .ok (.sipush 151, 3) := by decide +kernel
theorem dX7_copiesText_27 : decode cX7_copiesText 27 = .ok (.iload_n 1, 1) := by decide +kernel
theorem dX7_copiesText_28 : decode cX7_copiesText 28 = .ok (.imul, 1) := by decide +kernel
theorem dX7_copiesText_29 : decode cX7_copiesText 29 = .ok (.iload_n 3, 1) := by decide +kernel
theorem dX7_copiesText_30 : decode cX7_copiesText 30 = .ok (.iadd, 1) := by decide +kernel
theorem dX7_copiesText_31 : decode cX7_copiesText 31 = .ok (.iaload, 1) := by decide +kernel
theorem dX7_copiesText_32 : decode cX7_copiesText 32 = .ok (.iastore, 1) := by decide +kernel
theorem dX7_copiesText_33 : decode cX7_copiesText 33 = .ok (.iinc 3 1, 3) := by decide +kernel
theorem dX7_copiesText_36 : decode cX7_copiesText 36 = .ok (.goto (-34), 3) := by decide +kernel
theorem dX7_copiesText_39 : decode cX7_copiesText 39 = .ok (.iconst 0, 1) := by decide +kernel
theorem dX7_copiesText_40 : decode cX7_copiesText 40 = .ok (.istore_n 3, 1) := by decide +kernel
theorem dX7_copiesText_41 : decode cX7_copiesText 41 = .ok (.iload_n 3, 1) := by decide +kernel
theorem dX7_copiesText_42 : decode cX7_copiesText 42 = .ok (.sipush 600, 3) := by decide +kernel
theorem dX7_copiesText_45 : decode cX7_copiesText 45 = .ok (.if_icmp .ge 33, 3) := by decide +kernel
theorem dX7_copiesText_48 : decode cX7_copiesText 48 = .ok (.aload_n 0, 1) := by decide +kernel
theorem dX7_copiesText_49 : decode cX7_copiesText 49 = .ok (.getfield 13, 3) := by decide +kernel
theorem dX7_copiesText_52 : decode cX7_copiesText 52 = .ok (.sipush 600, 3) := by decide +kernel
theorem dX7_copiesText_55 : decode cX7_copiesText 55 = .ok (.iload_n 2, 1) := by decide +kernel
theorem dX7_copiesText_56 : decode cX7_copiesText 56 = .ok (.imul, 1) := by decide +kernel
theorem dX7_copiesText_57 : decode cX7_copiesText 57 = .ok (.iload_n 3, 1) := by decide +kernel
theorem dX7_copiesText_58 : decode cX7_copiesText 58 = .ok (.iadd, 1) := by decide +kernel
theorem dX7_copiesText_59 : decode cX7_copiesText 59 = .ok (.aload_n 0, 1) := by decide +kernel
theorem dX7_copiesText_60 : decode cX7_copiesText 60 = .ok (.getfield 13, 3) := by decide +kernel
theorem dX7_copiesText_63 : decode cX7_copiesText 63 = .ok (.sipush 600, 3) := by decide +kernel
theorem dX7_copiesText_66 : decode cX7_copiesText 66 = .ok (.iload_n 1, 1) := by decide +kernel
theorem dX7_copiesText_67 : decode cX7_copiesText 67 = .ok (.imul, 1) := by decide +kernel
theorem dX7_copiesText_68 : decode cX7_copiesText 68 = .ok (.iload_n 3, 1) := by decide +kernel
theorem dX7_copiesText_69 : decode cX7_copiesText 69 = .ok (.iadd, 1) := by decide +kernel
theorem dX7_copiesText_70 : decode cX7_copiesText 70 = .ok (.baload, 1) := by decide +kernel
theorem dX7_copiesText_71 : decode cX7_copiesText 71 = .ok (.bastore, 1) := by decide +kernel
theorem dX7_copiesText_72 : decode cX7_copiesText 72 = .ok (.iinc 3 1, 3) := by decide +kernel
theorem dX7_copiesText_75 : decode cX7_copiesText 75 = .ok (.goto (-34), 3) := by decide +kernel
theorem dX7_copiesText_78 : decode cX7_copiesText 78 = .ok (.return_, 1) := by decide +kernel
set_option maxRecDepth 20000 in
theorem ggX7_image_X7_in : GoodIn wsX7_image wsX7_in := goodIn_r _ [7] (by decide +kernel) (by decide +kernel)
set_option maxRecDepth 20000 in
theorem gX7_image_X7_in : GoodIn wsX7_image (va_wsS RX7 88 yX7_in wsX7_in) := goodIn_app (goodIn_of _ (by decide +kernel)) ggX7_image_X7_in
set_option maxRecDepth 20000 in
theorem ggX7_image_X7_copiesText : GoodIn wsX7_image wsX7_copiesText := goodIn_r _ [11, 12, 13, 14, 15, 16, 17, 18, 19, 20, 21, 22, 23, 24, 25, 26, 27, 28, 29, 30, 31, 32, 33, 34, 35, 36, 37, 38, 39, 40, 41, 42, 43, 44, 45, 46, 47, 48, 49, 50, 51, 52, 53, 54] (by decide +kernel) (by decide +kernel)
set_option maxRecDepth 20000 in
theorem gX7_image_X7_copiesText : GoodIn wsX7_image (wsV RX7 329 RX7 yX7_copiesText wsX7_copiesText) := goodIn_app (goodIn_of _ (by decide +kernel)) ggX7_image_X7_copiesText
theorem dX7_image_0 : decode cX7_image 0 = .ok (.aload_n 0, 1) := by decide +kernel
theorem dX7_image_1 : decode cX7_image 1 = .ok (.iconst 0, 1) := by decide +kernel
theorem dX7_image_2 : decode cX7_image 2 = .ok (.putfield 58, 3) := by decide +kernel
theorem dX7_image_5 : decode cX7_image 5 = .ok (.iload_n 1, 1) := by decide +kernel
theorem dX7_image_6 : decode cX7_image 6 = .ok (.i2l, 1) := by decide +kernel
theorem dX7_image_7 : decode cX7_image 7 = .ok (.lconst 0, 1) := by decide +kernel
theorem dX7_image_8 : decode cX7_image 8 = .ok (.ldc2_w 150, 3) := by decide +kernel
theorem dX7_image_11 : decode cX7_image 11 = .ok (.invokestatic 88, 3) := by decide +kernel
theorem dX7_image_14 : decode cX7_image 14 = .ok (.ifCond .ne 5, 3) := by decide +kernel
theorem dX7_image_17 : decode cX7_image 17 = .ok (.iconst 0, 1) := by decide +kernel
theorem dX7_image_18 : decode cX7_image 18 = .ok (.ireturn, 1) := by decide +kernel
theorem dX7_image_19 : decode cX7_image 19 = .ok (.aload_n 0, 1) := by decide +kernel
theorem dX7_image_20 : decode cX7_image 20 = .ok (.iconst 0, 1) := by decide +kernel
theorem dX7_image_21 : decode cX7_image 21 = .ok (.iload_n 1, 1) := by decide +kernel
theorem dX7_image_22 : decode cX7_image 22 = .ok (.iconst 1, 1) := by decide +kernel
theorem dX7_image_23 : decode cX7_image 23 = .ok (.iadd, 1) := by decide +kernel
theorem dX7_image_24 : decode cX7_image 24 = .ok (.invokevirtual 329, 3) := by decide +kernel
theorem dX7_image_27 : decode cX7_image 27 = .ok (.aload_n 0, 1) := by decide +kernel
theorem dX7_image_28 : decode cX7_image 28 = .ok (.getfield 17, 3) := by decide +kernel
theorem dX7_image_31 : decode cX7_image 31 = .ok (.iload_n 1, 1) := by decide +kernel
theorem dX7_image_32 : decode cX7_image 32 = .ok (.iconst 1, 1) := by decide +kernel
theorem dX7_image_33 : decode cX7_image 33 = .ok (.bastore, 1) := by decide +kernel
theorem dX7_image_34 : decode cX7_image 34 = .ok (.iconst 1, 1) := by decide +kernel
theorem dX7_image_35 : decode cX7_image 35 = .ok (.ireturn, 1) := by decide +kernel
set_option maxRecDepth 20000 in
theorem ggX7_again_X7_in : GoodIn wsX7_again wsX7_in := goodIn_r _ [8] (by decide +kernel) (by decide +kernel)
set_option maxRecDepth 20000 in
theorem gX7_again_X7_in : GoodIn wsX7_again (va_wsS RX7 88 yX7_in wsX7_in) := goodIn_app (goodIn_of _ (by decide +kernel)) ggX7_again_X7_in
set_option maxRecDepth 20000 in
theorem ggX7_again_X7_copiesText : GoodIn wsX7_again wsX7_copiesText := goodIn_r _ [12, 13, 14, 15, 16, 17, 18, 19, 20, 21, 22, 23, 24, 25, 26, 27, 28, 29, 30, 31, 32, 33, 34, 35, 36, 37, 38, 39, 40, 41, 42, 43, 44, 45, 46, 47, 48, 49, 50, 51, 52, 53, 54, 55] (by decide +kernel) (by decide +kernel)
set_option maxRecDepth 20000 in
theorem gX7_again_X7_copiesText : GoodIn wsX7_again (wsV RX7 329 RX7 yX7_copiesText wsX7_copiesText) := goodIn_app (goodIn_of _ (by decide +kernel)) ggX7_again_X7_copiesText
theorem dX7_again_0 : decode cX7_again 0 = .ok (.aload_n 0, 1) := by decide +kernel
theorem dX7_again_1 : decode cX7_again 1 = .ok (.iconst 0, 1) := by decide +kernel
theorem dX7_again_2 : decode cX7_again 2 = .ok (.putfield 58, 3) := by decide +kernel
theorem dX7_again_5 : decode cX7_again 5 = .ok (.iload_n 1, 1) := by decide +kernel
theorem dX7_again_6 : decode cX7_again 6 = .ok (.i2l, 1) := by decide +kernel
theorem dX7_again_7 : decode cX7_again 7 = .ok (.lconst 0, 1) := by decide +kernel
theorem dX7_again_8 : decode cX7_again 8 = .ok (.ldc2_w 150, 3) := by decide +kernel
theorem dX7_again_11 : decode cX7_again 11 = .ok (.invokestatic 88, 3) := by decide +kernel
theorem dX7_again_14 : decode cX7_again 14 = .ok (.ifCond .eq 12, 3) := by decide +kernel
theorem dX7_again_17 : decode cX7_again 17 = .ok (.aload_n 0, 1) := by decide +kernel
theorem dX7_again_18 : decode cX7_again 18 = .ok (.getfield 17, 3) := by decide +kernel
theorem dX7_again_21 : decode cX7_again 21 = .ok (.iload_n 1, 1) := by decide +kernel
theorem dX7_again_22 : decode cX7_again 22 = .ok (.baload, 1) := by decide +kernel
theorem dX7_again_23 : decode cX7_again 23 = .ok (.ifCond .ne 5, 3) := by decide +kernel
theorem dX7_again_26 : decode cX7_again 26 = .ok (.iconst 0, 1) := by decide +kernel
theorem dX7_again_27 : decode cX7_again 27 = .ok (.ireturn, 1) := by decide +kernel
theorem dX7_again_28 : decode cX7_again 28 = .ok (.aload_n 0, 1) := by decide +kernel
theorem dX7_again_29 : decode cX7_again 29 = .ok (.iload_n 1, 1) := by decide +kernel
theorem dX7_again_30 : decode cX7_again 30 = .ok (.iconst 1, 1) := by decide +kernel
theorem dX7_again_31 : decode cX7_again 31 = .ok (.iadd, 1) := by decide +kernel
theorem dX7_again_32 : decode cX7_again 32 = .ok (.iconst 0, 1) := by decide +kernel
theorem dX7_again_33 : decode cX7_again 33 = .ok (.invokevirtual 329, 3) := by decide +kernel
theorem dX7_again_36 : decode cX7_again 36 = .ok (.aload_n 0, 1) := by decide +kernel
theorem dX7_again_37 : decode cX7_again 37 = .ok (.iconst 0, 1) := by decide +kernel
theorem dX7_again_38 : decode cX7_again 38 = .ok (.putfield 157, 3) := by decide +kernel
theorem dX7_again_41 : decode cX7_again 41 = .ok (.iconst 1, 1) := by decide +kernel
theorem dX7_again_42 : decode cX7_again 42 = .ok (.ireturn, 1) := by decide +kernel
theorem dJxe99ae_isNaN_b9ae7_0 : decode cJxe99ae_isNaN_b9ae7 0 = .ok (.dload_n 0, 1) := by decide +kernel
theorem dJxe99ae_isNaN_b9ae7_1 : decode cJxe99ae_isNaN_b9ae7 1 = .ok (.dload_n 0, 1) := by decide +kernel
theorem dJxe99ae_isNaN_b9ae7_2 : decode cJxe99ae_isNaN_b9ae7 2 = .ok (.dcmp .l, 1) := by decide +kernel
theorem dJxe99ae_isNaN_b9ae7_3 : decode cJxe99ae_isNaN_b9ae7 3 = .ok (.ifCond .eq 7, 3) := by decide +kernel
theorem dJxe99ae_isNaN_b9ae7_6 : decode cJxe99ae_isNaN_b9ae7 6 = .ok (.iconst 1, 1) := by decide +kernel
theorem dJxe99ae_isNaN_b9ae7_7 : decode cJxe99ae_isNaN_b9ae7 7 = .ok (.goto 4, 3) := by decide +kernel
theorem dJxe99ae_isNaN_b9ae7_10 : decode cJxe99ae_isNaN_b9ae7 10 = .ok (.iconst 0, 1) := by decide +kernel
theorem dJxe99ae_isNaN_b9ae7_11 : decode cJxe99ae_isNaN_b9ae7 11 = .ok (.ireturn, 1) := by decide +kernel
set_option maxRecDepth 20000 in
theorem ggJxe99ae_doubleToLongBits_ccdee_Jxe99ae_isNaN_b9ae7 : GoodIn wsJxe99ae_doubleToLongBits_ccdee wsJxe99ae_isNaN_b9ae7 := goodIn_r _ [9] (by decide +kernel) (by decide +kernel)
set_option maxRecDepth 20000 in
theorem gJxe99ae_doubleToLongBits_ccdee_Jxe99ae_isNaN_b9ae7 : GoodIn wsJxe99ae_doubleToLongBits_ccdee (va_wsS RJxe99ae 122 yJxe99ae_isNaN_b9ae7 wsJxe99ae_isNaN_b9ae7) := goodIn_app (goodIn_of _ (by decide +kernel)) ggJxe99ae_doubleToLongBits_ccdee_Jxe99ae_isNaN_b9ae7
theorem dJxe99ae_doubleToLongBits_ccdee_0 : decode cJxe99ae_doubleToLongBits_ccdee 0 = .ok (.dload_n 0, 1) := by decide +kernel
theorem dJxe99ae_doubleToLongBits_ccdee_1 : decode cJxe99ae_doubleToLongBits_ccdee 1 = .ok (.invokestatic 122, 3) := by decide +kernel
theorem dJxe99ae_doubleToLongBits_ccdee_4 : decode cJxe99ae_doubleToLongBits_ccdee 4 = .ok (.ifCond .ne 8, 3) := by decide +kernel
theorem dJxe99ae_doubleToLongBits_ccdee_7 : decode cJxe99ae_doubleToLongBits_ccdee 7 = .ok (.dload_n 0, 1) := by decide +kernel
theorem dJxe99ae_doubleToLongBits_ccdee_8 : decode cJxe99ae_doubleToLongBits_ccdee 8 = .ok (.invokestatic 134, 3) := by decide +kernel
theorem dJxe99ae_doubleToLongBits_ccdee_11 : decode cJxe99ae_doubleToLongBits_ccdee 11 = .ok (.lreturn, 1) := by decide +kernel
theorem dJxe99ae_doubleToLongBits_ccdee_12 : decode cJxe99ae_doubleToLongBits_ccdee 12 = .ok (.ldc2_w 137, 3) := by decide +kernel
theorem dJxe99ae_doubleToLongBits_ccdee_15 : decode cJxe99ae_doubleToLongBits_ccdee 15 = .ok (.lreturn, 1) := by decide +kernel
theorem dJxf58ca_isNaN_12338_0 : decode cJxf58ca_isNaN_12338 0 = .ok (.fload_n 0, 1) := by decide +kernel
theorem dJxf58ca_isNaN_12338_1 : decode cJxf58ca_isNaN_12338 1 = .ok (.fload_n 0, 1) := by decide +kernel
theorem dJxf58ca_isNaN_12338_2 : decode cJxf58ca_isNaN_12338 2 = .ok (.fcmp .l, 1) := by decide +kernel
theorem dJxf58ca_isNaN_12338_3 : decode cJxf58ca_isNaN_12338 3 = .ok (.ifCond .eq 7, 3) := by decide +kernel
theorem dJxf58ca_isNaN_12338_6 : decode cJxf58ca_isNaN_12338 6 = .ok (.iconst 1, 1) := by decide +kernel
theorem dJxf58ca_isNaN_12338_7 : decode cJxf58ca_isNaN_12338 7 = .ok (.goto 4, 3) := by decide +kernel
theorem dJxf58ca_isNaN_12338_10 : decode cJxf58ca_isNaN_12338 10 = .ok (.iconst 0, 1) := by decide +kernel
theorem dJxf58ca_isNaN_12338_11 : decode cJxf58ca_isNaN_12338 11 = .ok (.ireturn, 1) := by decide +kernel
set_option maxRecDepth 20000 in
theorem ggJxf58ca_floatToIntBits_5c35a_Jxf58ca_isNaN_12338 : GoodIn wsJxf58ca_floatToIntBits_5c35a wsJxf58ca_isNaN_12338 := goodIn_r _ [9] (by decide +kernel) (by decide +kernel)
set_option maxRecDepth 20000 in
theorem gJxf58ca_floatToIntBits_5c35a_Jxf58ca_isNaN_12338 : GoodIn wsJxf58ca_floatToIntBits_5c35a (va_wsS RJxf58ca 59 yJxf58ca_isNaN_12338 wsJxf58ca_isNaN_12338) := goodIn_app (goodIn_of _ (by decide +kernel)) ggJxf58ca_floatToIntBits_5c35a_Jxf58ca_isNaN_12338
theorem dJxf58ca_floatToIntBits_5c35a_0 : decode cJxf58ca_floatToIntBits_5c35a 0 = .ok (.fload_n 0, 1) := by decide +kernel
theorem dJxf58ca_floatToIntBits_5c35a_1 : decode cJxf58ca_floatToIntBits_5c35a 1 = .ok (.invokestatic 59, 3) := by decide +kernel
theorem dJxf58ca_floatToIntBits_5c35a_4 : decode cJxf58ca_floatToIntBits_5c35a 4 = .ok (.ifCond .ne 8, 3) := by decide +kernel
theorem dJxf58ca_floatToIntBits_5c35a_7 : decode cJxf58ca_floatToIntBits_5c35a 7 = .ok (.fload_n 0, 1) := by decide +kernel
theorem dJxf58ca_floatToIntBits_5c35a_8 : decode cJxf58ca_floatToIntBits_5c35a 8 = .ok (.invokestatic 74, 3) := by decide +kernel
theorem dJxf58ca_floatToIntBits_5c35a_11 : decode cJxf58ca_floatToIntBits_5c35a 11 = .ok (.ireturn, 1) := by decide +kernel
theorem dJxf58ca_floatToIntBits_5c35a_12 : decode cJxf58ca_floatToIntBits_5c35a 12 = .ok (.ldc 77, 2) := by decide +kernel
theorem dJxf58ca_floatToIntBits_5c35a_14 : decode cJxf58ca_floatToIntBits_5c35a 14 = .ok (.ireturn, 1) := by decide +kernel
theorem dJ13_bitCount_95d88_0 : decode cJ13_bitCount_95d88 0 = .ok (.lload_n 0, 1) := by decide +kernel
theorem dJ13_bitCount_95d88_1 : decode cJ13_bitCount_95d88 1 = .ok (.lload_n 0, 1) := by decide +kernel
theorem dJ13_bitCount_95d88_2 : decode cJ13_bitCount_95d88 2 = .ok (.iconst 1, 1) := by decide +kernel
theorem dJ13_bitCount_95d88_3 : decode cJ13_bitCount_95d88 3 = .ok (.lushr, 1) := by decide +kernel
theorem dJ13_bitCount_95d88_4 : decode cJ13_bitCount_95d88 4 = .ok (.ldc2_w 314, 3) := by decide +kernel
theorem dJ13_bitCount_95d88_7 : decode cJ13_bitCount_95d88 7 = .ok (.land, 1) := by decide +kernel
theorem dJ13_bitCount_95d88_8 : decode cJ13_bitCount_95d88 8 = .ok (.lsub, 1) := by decide +kernel
theorem dJ13_bitCount_95d88_9 : decode cJ13_bitCount_95d88 9 = .ok (.lstore_n 0, 1) := by decide +kernel
theorem dJ13_bitCount_95d88_10 : decode cJ13_bitCount_95d88 10 = .ok (.lload_n 0, 1) := by decide +kernel
theorem dJ13_bitCount_95d88_11 : decode cJ13_bitCount_95d88 11 = .ok (.ldc2_w 316, 3) := by decide +kernel
theorem dJ13_bitCount_95d88_14 : decode cJ13_bitCount_95d88 14 = .ok (.land, 1) := by decide +kernel
theorem dJ13_bitCount_95d88_15 : decode cJ13_bitCount_95d88 15 = .ok (.lload_n 0, 1) := by decide +kernel
theorem dJ13_bitCount_95d88_16 : decode cJ13_bitCount_95d88 16 = .ok (.iconst 2, 1) := by decide +kernel
theorem dJ13_bitCount_95d88_17 : decode cJ13_bitCount_95d88 17 = .ok (.lushr, 1) := by decide +kernel
theorem dJ13_bitCount_95d88_18 : decode cJ13_bitCount_95d88 18 = .ok (.ldc2_w 316, 3) := by decide +kernel
theorem dJ13_bitCount_95d88_21 : decode cJ13_bitCount_95d88 21 = .ok (.land, 1) := by decide +kernel
theorem dJ13_bitCount_95d88_22 : decode cJ13_bitCount_95d88 22 = .ok (.ladd, 1) := by decide +kernel
theorem dJ13_bitCount_95d88_23 : decode cJ13_bitCount_95d88 23 = .ok (.lstore_n 0, 1) := by decide +kernel
theorem dJ13_bitCount_95d88_24 : decode cJ13_bitCount_95d88 24 = .ok (.lload_n 0, 1) := by decide +kernel
theorem dJ13_bitCount_95d88_25 : decode cJ13_bitCount_95d88 25 = .ok (.lload_n 0, 1) := by decide +kernel
theorem dJ13_bitCount_95d88_26 : decode cJ13_bitCount_95d88 26 = .ok (.iconst 4, 1) := by decide +kernel
theorem dJ13_bitCount_95d88_27 : decode cJ13_bitCount_95d88 27 = .ok (.lushr, 1) := by decide +kernel
theorem dJ13_bitCount_95d88_28 : decode cJ13_bitCount_95d88 28 = .ok (.ladd, 1) := by decide +kernel
theorem dJ13_bitCount_95d88_29 : decode cJ13_bitCount_95d88 29 = .ok (.ldc2_w 318, 3) := by decide +kernel
theorem dJ13_bitCount_95d88_32 : decode cJ13_bitCount_95d88 32 = .ok (.land, 1) := by decide +kernel
theorem dJ13_bitCount_95d88_33 : decode cJ13_bitCount_95d88 33 = .ok (.lstore_n 0, 1) := by decide +kernel
theorem dJ13_bitCount_95d88_34 : decode cJ13_bitCount_95d88 34 = .ok (.lload_n 0, 1) := by decide +kernel
theorem dJ13_bitCount_95d88_35 : decode cJ13_bitCount_95d88 35 = .ok (.lload_n 0, 1) := by decide +kernel
theorem dJ13_bitCount_95d88_36 : decode cJ13_bitCount_95d88 36 = .ok (.bipush 8, 2) := by decide +kernel
theorem dJ13_bitCount_95d88_38 : decode cJ13_bitCount_95d88 38 = .ok (.lushr, 1) := by decide +kernel
theorem dJ13_bitCount_95d88_39 : decode cJ13_bitCount_95d88 39 = .ok (.ladd, 1) := by decide +kernel
theorem dJ13_bitCount_95d88_40 : decode cJ13_bitCount_95d88 40 = .ok (.lstore_n 0, 1) := by decide +kernel
theorem dJ13_bitCount_95d88_41 : decode cJ13_bitCount_95d88 41 = .ok (.lload_n 0, 1) := by decide +kernel
theorem dJ13_bitCount_95d88_42 : decode cJ13_bitCount_95d88 42 = .ok (.lload_n 0, 1) := by decide +kernel
theorem dJ13_bitCount_95d88_43 : decode cJ13_bitCount_95d88 43 = .ok (.bipush 16, 2) := by decide +kernel
theorem dJ13_bitCount_95d88_45 : decode cJ13_bitCount_95d88 45 = .ok (.lushr, 1) := by decide +kernel
theorem dJ13_bitCount_95d88_46 : decode cJ13_bitCount_95d88 46 = .ok (.ladd, 1) := by decide +kernel
theorem dJ13_bitCount_95d88_47 : decode cJ13_bitCount_95d88 47 = .ok (.lstore_n 0, 1) := by decide +kernel
theorem dJ13_bitCount_95d88_48 : decode cJ13_bitCount_95d88 48 = .ok (.lload_n 0, 1) := by decide +kernel
theorem dJ13_bitCount_95d88_49 : decode cJ13_bitCount_95d88 49 = .ok (.lload_n 0, 1) := by decide +kernel
theorem dJ13_bitCount_95d88_50 : decode cJ13_bitCount_95d88 50 = .ok (.bipush 32, 2) := by decide +kernel
theorem dJ13_bitCount_95d88_52 : decode cJ13_bitCount_95d88 52 = .ok (.lushr, 1) := by decide +kernel
theorem dJ13_bitCount_95d88_53 : decode cJ13_bitCount_95d88 53 = .ok (.ladd, 1) := by decide +kernel
theorem dJ13_bitCount_95d88_54 : decode cJ13_bitCount_95d88 54 = .ok (.lstore_n 0, 1) := by decide +kernel
theorem dJ13_bitCount_95d88_55 : decode cJ13_bitCount_95d88 55 = .ok (.lload_n 0, 1) := by decide +kernel
theorem dJ13_bitCount_95d88_56 : decode cJ13_bitCount_95d88 56 = .ok (.l2i, 1) := by decide +kernel
theorem dJ13_bitCount_95d88_57 : decode cJ13_bitCount_95d88 57 = .ok (.bipush 127, 2) := by decide +kernel
theorem dJ13_bitCount_95d88_59 : decode cJ13_bitCount_95d88 59 = .ok (.iand, 1) := by decide +kernel
theorem dJ13_bitCount_95d88_60 : decode cJ13_bitCount_95d88 60 = .ok (.ireturn, 1) := by decide +kernel
theorem dJ9_floorDiv_f86c9_0 : decode cJ9_floorDiv_f86c9 0 = .ok (.lload_n 0, 1) := by decide +kernel
theorem dJ9_floorDiv_f86c9_1 : decode cJ9_floorDiv_f86c9 1 = .ok (.lload_n 2, 1) := by decide +kernel
theorem dJ9_floorDiv_f86c9_2 : decode cJ9_floorDiv_f86c9 2 = .ok (.ldiv, 1) := by decide +kernel
theorem dJ9_floorDiv_f86c9_3 : decode cJ9_floorDiv_f86c9 3 = .ok (.lstore 4, 2) := by decide +kernel
theorem dJ9_floorDiv_f86c9_5 : decode cJ9_floorDiv_f86c9 5 = .ok (.lload_n 0, 1) := by decide +kernel
theorem dJ9_floorDiv_f86c9_6 : decode cJ9_floorDiv_f86c9 6 = .ok (.lload_n 2, 1) := by decide +kernel
theorem dJ9_floorDiv_f86c9_7 : decode cJ9_floorDiv_f86c9 7 = .ok (.lxor, 1) := by decide +kernel
theorem dJ9_floorDiv_f86c9_8 : decode cJ9_floorDiv_f86c9 8 = .ok (.lconst 0, 1) := by decide +kernel
theorem dJ9_floorDiv_f86c9_9 : decode cJ9_floorDiv_f86c9 9 = .ok (.lcmp, 1) := by decide +kernel
theorem dJ9_floorDiv_f86c9_10 : decode cJ9_floorDiv_f86c9 10 = .ok (.ifCond .ge 17, 3) := by decide +kernel
theorem dJ9_floorDiv_f86c9_13 : decode cJ9_floorDiv_f86c9 13 = .ok (.lload 4, 2) := by decide +kernel
theorem dJ9_floorDiv_f86c9_15 : decode cJ9_floorDiv_f86c9 15 = .ok (.lload_n 2, 1) := by decide +kernel
theorem dJ9_floorDiv_f86c9_16 : decode cJ9_floorDiv_f86c9 16 = .ok (.lmul, 1) := by decide +kernel
theorem dJ9_floorDiv_f86c9_17 : decode cJ9_floorDiv_f86c9 17 = .ok (.lload_n 0, 1) := by decide +kernel
theorem dJ9_floorDiv_f86c9_18 : decode cJ9_floorDiv_f86c9 18 = .ok (.lcmp, 1) := by decide +kernel
theorem dJ9_floorDiv_f86c9_19 : decode cJ9_floorDiv_f86c9 19 = .ok (.ifCond .eq 8, 3) := by decide +kernel
theorem dJ9_floorDiv_f86c9_22 : decode cJ9_floorDiv_f86c9 22 = .ok (.lload 4, 2) := by decide +kernel
theorem dJ9_floorDiv_f86c9_24 : decode cJ9_floorDiv_f86c9 24 = .ok (.lconst 1, 1) := by decide +kernel
theorem dJ9_floorDiv_f86c9_25 : decode cJ9_floorDiv_f86c9 25 = .ok (.lsub, 1) := by decide +kernel
theorem dJ9_floorDiv_f86c9_26 : decode cJ9_floorDiv_f86c9 26 = .ok (.lreturn, 1) := by decide +kernel
theorem dJ9_floorDiv_f86c9_27 : decode cJ9_floorDiv_f86c9 27 = .ok (.lload 4, 2) := by decide +kernel
theorem dJ9_floorDiv_f86c9_29 : decode cJ9_floorDiv_f86c9 29 = .ok (.lreturn, 1) := by decide +kernel
theorem dJ9_max_7cf53_0 : decode cJ9_max_7cf53 0 = .ok (.iload_n 0, 1) := by decide +kernel
theorem dJ9_max_7cf53_1 : decode cJ9_max_7cf53 1 = .ok (.iload_n 1, 1) := by decide +kernel
theorem dJ9_max_7cf53_2 : decode cJ9_max_7cf53 2 = .ok (.if_icmp .lt 7, 3) := by decide +kernel
theorem dJ9_max_7cf53_5 : decode cJ9_max_7cf53 5 = .ok (.iload_n 0, 1) := by decide +kernel
theorem dJ9_max_7cf53_6 : decode cJ9_max_7cf53 6 = .ok (.goto 4, 3) := by decide +kernel
theorem dJ9_max_7cf53_9 : decode cJ9_max_7cf53 9 = .ok (.iload_n 1, 1) := by decide +kernel
theorem dJ9_max_7cf53_10 : decode cJ9_max_7cf53 10 = .ok (.ireturn, 1) := by decide +kernel
theorem dJ9_min_7cf53_0 : decode cJ9_min_7cf53 0 = .ok (.iload_n 0, 1) := by decide +kernel
theorem dJ9_min_7cf53_1 : decode cJ9_min_7cf53 1 = .ok (.iload_n 1, 1) := by decide +kernel
theorem dJ9_min_7cf53_2 : decode cJ9_min_7cf53 2 = .ok (.if_icmp .gt 7, 3) := by decide +kernel
theorem dJ9_min_7cf53_5 : decode cJ9_min_7cf53 5 = .ok (.iload_n 0, 1) := by decide +kernel
theorem dJ9_min_7cf53_6 : decode cJ9_min_7cf53 6 = .ok (.goto 4, 3) := by decide +kernel
theorem dJ9_min_7cf53_9 : decode cJ9_min_7cf53 9 = .ok (.iload_n 1, 1) := by decide +kernel
theorem dJ9_min_7cf53_10 : decode cJ9_min_7cf53 10 = .ok (.ireturn, 1) := by decide +kernel
theorem dJ9_min_f86c9_0 : decode cJ9_min_f86c9 0 = .ok (.lload_n 0, 1) := by decide +kernel
theorem dJ9_min_f86c9_1 : decode cJ9_min_f86c9 1 = .ok (.lload_n 2, 1) := by decide +kernel
theorem dJ9_min_f86c9_2 : decode cJ9_min_f86c9 2 = .ok (.lcmp, 1) := by decide +kernel
theorem dJ9_min_f86c9_3 : decode cJ9_min_f86c9 3 = .ok (.ifCond .gt 7, 3) := by decide +kernel
theorem dJ9_min_f86c9_6 : decode cJ9_min_f86c9 6 = .ok (.lload_n 0, 1) := by decide +kernel
theorem dJ9_min_f86c9_7 : decode cJ9_min_f86c9 7 = .ok (.goto 4, 3) := by decide +kernel
theorem dJ9_min_f86c9_10 : decode cJ9_min_f86c9 10 = .ok (.lload_n 2, 1) := by decide +kernel
theorem dJ9_min_f86c9_11 : decode cJ9_min_f86c9 11 = .ok (.lreturn, 1) := by decide +kernel
set_option maxRecDepth 20000 in
theorem ggJ0_length_8abf5_J0_coder_7d493 : GoodIn wsJ0_length_8abf5 wsJ0_coder_7d493 := goodIn_r _ [6, 7, 8] (by decide +kernel) (by decide +kernel)
set_option maxRecDepth 20000 in
theorem gJ0_length_8abf5_J0_coder_7d493 : GoodIn wsJ0_length_8abf5 (wsV RJ0 335 RJ0 yJ0_coder_7d493 wsJ0_coder_7d493) := goodIn_app (goodIn_of _ (by decide +kernel)) ggJ0_length_8abf5_J0_coder_7d493
theorem dJ0_length_8abf5_0 : decode cJ0_length_8abf5 0 = .ok (.aload_n 0, 1) := by decide +kernel
theorem dJ0_length_8abf5_1 : decode cJ0_length_8abf5 1 = .ok (.getfield 9, 3) := by decide +kernel
theorem dJ0_length_8abf5_4 : decode cJ0_length_8abf5 4 = .ok (.arraylength, 1) := by decide +kernel
theorem dJ0_length_8abf5_5 : decode cJ0_length_8abf5 5 = .ok (.aload_n 0, 1) := by decide +kernel
theorem dJ0_length_8abf5_6 : decode cJ0_length_8abf5 6 = .ok (.invokevirtual 335, 3) := by decide +kernel
theorem dJ0_length_8abf5_9 : decode cJ0_length_8abf5 9 = .ok (.ishr, 1) := by decide +kernel
theorem dJ0_length_8abf5_10 : decode cJ0_length_8abf5 10 = .ok (.ireturn, 1) := by decide +kernel
set_option maxRecDepth 20000 in
theorem ggJ0_charAt_5068e_J0_isLatin1_aae02 : GoodIn wsJ0_charAt_5068e wsJ0_isLatin1_aae02 := goodIn_r _ [6, 7, 8] (by decide +kernel) (by decide +kernel)
set_option maxRecDepth 20000 in
theorem gJ0_charAt_5068e_J0_isLatin1_aae02 : GoodIn wsJ0_charAt_5068e (wsV RJ0 492 RJ0 yJ0_isLatin1_aae02 wsJ0_isLatin1_aae02) := goodIn_app (goodIn_of _ (by decide +kernel)) ggJ0_charAt_5068e_J0_isLatin1_aae02
set_option maxRecDepth 20000 in
theorem ggJ0_charAt_5068e_J1_charAt_3b067 : GoodIn wsJ0_charAt_5068e wsJ1_charAt_3b067 := goodIn_r _ [12, 13, 14, 5, 15, 16, 17, 18, 19, 20] (by decide +kernel) (by decide +kernel)
set_option maxRecDepth 20000 in
theorem gJ0_charAt_5068e_J1_charAt_3b067 : GoodIn wsJ0_charAt_5068e (va_wsS RJ0 495 yJ1_charAt_3b067 wsJ1_charAt_3b067) := goodIn_app (goodIn_of _ (by decide +kernel)) ggJ0_charAt_5068e_J1_charAt_3b067
set_option maxRecDepth 20000 in
theorem ggJ0_charAt_5068e_J2_charAt_3b067 : GoodIn wsJ0_charAt_5068e wsJ2_charAt_3b067 := goodIn_r _ [24, 25, 26, 23, 27, 28, 29, 30, 31, 14, 5, 15, 16, 17, 18, 19, 20, 32, 33, 34, 35, 36, 37] (by decide +kernel) (by decide +kernel)
set_option maxRecDepth 20000 in
theorem gJ0_charAt_5068e_J2_charAt_3b067 : GoodIn wsJ0_charAt_5068e (va_wsS RJ0 498 yJ2_charAt_3b067 wsJ2_charAt_3b067) := goodIn_app (goodIn_of _ (by decide +kernel)) ggJ0_charAt_5068e_J2_charAt_3b067
theorem dJ0_charAt_5068e_0 : decode cJ0_charAt_5068e 0 = .ok (.aload_n 0, 1) := by decide +kernel
theorem dJ0_charAt_5068e_1 : decode cJ0_charAt_5068e 1 = .ok (.invokevirtual 492, 3) := by decide +kernel
theorem dJ0_charAt_5068e_4 : decode cJ0_charAt_5068e 4 = .ok (.ifCond .eq 12, 3) := by decide +kernel
theorem dJ0_charAt_5068e_7 : decode cJ0_charAt_5068e 7 = .ok (.aload_n 0, 1) := by decide +kernel
theorem dJ0_charAt_5068e_8 : decode cJ0_charAt_5068e 8 = .ok (.getfield 9, 3) := by decide +kernel
theorem dJ0_charAt_5068e_11 : decode cJ0_charAt_5068e 11 = .ok (.iload_n 1, 1) := by decide +kernel
theorem dJ0_charAt_5068e_12 : decode cJ0_charAt_5068e 12 = .ok (.invokestatic 495, 3) := by decide +kernel
theorem dJ0_charAt_5068e_15 : decode cJ0_charAt_5068e 15 = .ok (.ireturn, 1) := by decide +kernel
theorem dJ0_charAt_5068e_16 : decode cJ0_charAt_5068e 16 = .ok (.aload_n 0, 1) := by decide +kernel
theorem dJ0_charAt_5068e_17 : decode cJ0_charAt_5068e 17 = .ok (.getfield 9, 3) := by decide +kernel
theorem dJ0_charAt_5068e_20 : decode cJ0_charAt_5068e 20 = .ok (.iload_n 1, 1) := by decide +kernel
theorem dJ0_charAt_5068e_21 : decode cJ0_charAt_5068e 21 = .ok (.invokestatic 498, 3) := by decide +kernel
theorem dJ0_charAt_5068e_24 : decode cJ0_charAt_5068e 24 = .ok (.ireturn, 1) := by decide +kernel
theorem dJ0_coder_7d493_0 : decode cJ0_coder_7d493 0 = .ok (.getstatic 38, 3) := by decide +kernel
theorem dJ0_coder_7d493_3 : decode cJ0_coder_7d493 3 = .ok (.ifCond .eq 10, 3) := by decide +kernel
theorem dJ0_coder_7d493_6 : decode cJ0_coder_7d493 6 = .ok (.aload_n 0, 1) := by decide +kernel
theorem dJ0_coder_7d493_7 : decode cJ0_coder_7d493 7 = .ok (.getfield 15, 3) := by decide +kernel
theorem dJ0_coder_7d493_10 : decode cJ0_coder_7d493 10 = .ok (.goto 4, 3) := by decide +kernel
theorem dJ0_coder_7d493_13 : decode cJ0_coder_7d493 13 = .ok (.iconst 1, 1) := by decide +kernel
theorem dJ0_coder_7d493_14 : decode cJ0_coder_7d493 14 = .ok (.ireturn, 1) := by decide +kernel
theorem dJ0_isLatin1_aae02_0 : decode cJ0_isLatin1_aae02 0 = .ok (.getstatic 38, 3) := by decide +kernel
theorem dJ0_isLatin1_aae02_3 : decode cJ0_isLatin1_aae02 3 = .ok (.ifCond .eq 14, 3) := by decide +kernel
theorem dJ0_isLatin1_aae02_6 : decode cJ0_isLatin1_aae02 6 = .ok (.aload_n 0, 1) := by decide +kernel
theorem dJ0_isLatin1_aae02_7 : decode cJ0_isLatin1_aae02 7 = .ok (.getfield 15, 3) := by decide +kernel
theorem dJ0_isLatin1_aae02_10 : decode cJ0_isLatin1_aae02 10 = .ok (.ifCond .ne 7, 3) := by decide +kernel
theorem dJ0_isLatin1_aae02_13 : decode cJ0_isLatin1_aae02 13 = .ok (.iconst 1, 1) := by decide +kernel
theorem dJ0_isLatin1_aae02_14 : decode cJ0_isLatin1_aae02 14 = .ok (.goto 4, 3) := by decide +kernel
theorem dJ0_isLatin1_aae02_17 : decode cJ0_isLatin1_aae02 17 = .ok (.iconst 0, 1) := by decide +kernel
theorem dJ0_isLatin1_aae02_18 : decode cJ0_isLatin1_aae02 18 = .ok (.ireturn, 1) := by decide +kernel
set_option maxRecDepth 20000 in
theorem ggJ0_checkIndex_df160_J3_checkIndex_8e157 : GoodIn wsJ0_checkIndex_df160 wsJ3_checkIndex_8e157 := goodIn_r _ [5] (by decide +kernel) (by decide +kernel)
set_option maxRecDepth 20000 in
theorem gJ0_checkIndex_df160_J3_checkIndex_8e157 : GoodIn wsJ0_checkIndex_df160 (va_wsS RJ0 1059 yJ3_checkIndex_8e157 wsJ3_checkIndex_8e157) := goodIn_app (goodIn_of _ (by decide +kernel)) ggJ0_checkIndex_df160_J3_checkIndex_8e157
theorem dJ0_checkIndex_df160_0 : decode cJ0_checkIndex_df160 0 = .ok (.iload_n 0, 1) := by decide +kernel
theorem dJ0_checkIndex_df160_1 : decode cJ0_checkIndex_df160 1 = .ok (.iload_n 1, 1) := by decide +kernel
theorem dJ0_checkIndex_df160_2 : decode cJ0_checkIndex_df160 2 = .ok (.getstatic 1053, 3) := by decide +kernel
theorem dJ0_checkIndex_df160_5 : decode cJ0_checkIndex_df160 5 = .ok (.invokestatic 1059, 3) := by decide +kernel
theorem dJ0_checkIndex_df160_8 : decode cJ0_checkIndex_df160 8 = .ok (.pop, 1) := by decide +kernel
theorem dJ0_checkIndex_df160_9 : decode cJ0_checkIndex_df160 9 = .ok (.return_, 1) := by decide +kernel
set_option maxRecDepth 20000 in
theorem ggJ1_charAt_3b067_J0_checkIndex_df160 : GoodIn wsJ1_charAt_3b067 wsJ0_checkIndex_df160 := goodIn_r _ [4, 5, 6, 7, 8, 9] (by decide +kernel) (by decide +kernel)
set_option maxRecDepth 20000 in
theorem gJ1_charAt_3b067_J0_checkIndex_df160 : GoodIn wsJ1_charAt_3b067 (va_wsS RJ1 9 yJ0_checkIndex_df160 wsJ0_checkIndex_df160) := goodIn_app (goodIn_of _ (by decide +kernel)) ggJ1_charAt_3b067_J0_checkIndex_df160
theorem dJ1_charAt_3b067_0 : decode cJ1_charAt_3b067 0 = .ok (.iload_n 1, 1) := by decide +kernel
theorem dJ1_charAt_3b067_1 : decode cJ1_charAt_3b067 1 = .ok (.aload_n 0, 1) := by decide +kernel
theorem dJ1_charAt_3b067_2 : decode cJ1_charAt_3b067 2 = .ok (.arraylength, 1) := by decide +kernel
theorem dJ1_charAt_3b067_3 : decode cJ1_charAt_3b067 3 = .ok (.invokestatic 9, 3) := by decide +kernel
theorem dJ1_charAt_3b067_6 : decode cJ1_charAt_3b067 6 = .ok (.aload_n 0, 1) := by decide +kernel
theorem dJ1_charAt_3b067_7 : decode cJ1_charAt_3b067 7 = .ok (.iload_n 1, 1) := by decide +kernel
theorem dJ1_charAt_3b067_8 : decode cJ1_charAt_3b067 8 = .ok (.baload, 1) := by decide +kernel
theorem dJ1_charAt_3b067_9 : decode cJ1_charAt_3b067 9 = .ok (.sipush 255, 3) := by decide +kernel
theorem dJ1_charAt_3b067_12 : decode cJ1_charAt_3b067 12 = .ok (.iand, 1) := by decide +kernel
theorem dJ1_charAt_3b067_13 : decode cJ1_charAt_3b067 13 = .ok (.i2c, 1) := by decide +kernel
theorem dJ1_charAt_3b067_14 : decode cJ1_charAt_3b067 14 = .ok (.ireturn, 1) := by decide +kernel
set_option maxRecDepth 20000 in
theorem ggJ2_getChar_3b067_J2_length_9d52b : GoodIn wsJ2_getChar_3b067 wsJ2_length_9d52b := goodIn_r _ [7] (by decide +kernel) (by decide +kernel)
set_option maxRecDepth 20000 in
theorem gJ2_getChar_3b067_J2_length_9d52b : GoodIn wsJ2_getChar_3b067 (va_wsS RJ2 48 yJ2_length_9d52b wsJ2_length_9d52b) := goodIn_app (goodIn_of _ (by decide +kernel)) ggJ2_getChar_3b067_J2_length_9d52b
theorem dJ2_getChar_3b067_0 : decode cJ2_getChar_3b067 0 = .ok (.getstatic 44, 3) := by decide +kernel
theorem dJ2_getChar_3b067_3 : decode cJ2_getChar_3b067 3 = .ok (.ifCond .ne 25, 3) := by decide +kernel
theorem dJ2_getChar_3b067_6 : decode cJ2_getChar_3b067 6 = .ok (.iload_n 1, 1) := by decide +kernel
theorem dJ2_getChar_3b067_7 : decode cJ2_getChar_3b067 7 = .ok (.ifCond .lt 11, 3) := by decide +kernel
theorem dJ2_getChar_3b067_10 : decode cJ2_getChar_3b067 10 = .ok (.iload_n 1, 1) := by decide +kernel
theorem dJ2_getChar_3b067_11 : decode cJ2_getChar_3b067 11 = .ok (.aload_n 0, 1) := by decide +kernel
theorem dJ2_getChar_3b067_12 : decode cJ2_getChar_3b067 12 = .ok (.invokestatic 48, 3) := by decide +kernel
theorem dJ2_getChar_3b067_15 : decode cJ2_getChar_3b067 15 = .ok (.if_icmp .lt 13, 3) := by decide +kernel
theorem dJ2_getChar_3b067_18 : decode cJ2_getChar_3b067 18 = .ok (.new 52, 3) := by decide +kernel
theorem dJ2_getChar_3b067_21 : decode cJ2_getChar_3b067 21 = .ok (.dup, 1) := by decide +kernel
theorem dJ2_getChar_3b067_22 : decode cJ2_getChar_3b067 22 = .ok (.ldc 54, 2) := by decide +kernel
theorem dJ2_getChar_3b067_24 : decode cJ2_getChar_3b067 24 = .ok (.invokespecial 56, 3) := by decide +kernel
theorem dJ2_getChar_3b067_27 : decode cJ2_getChar_3b067 27 = .ok (.athrow, 1) := by decide +kernel
theorem dJ2_getChar_3b067_28 : decode cJ2_getChar_3b067 28 = .ok (.iload_n 1, 1) := by decide +kernel
theorem dJ2_getChar_3b067_29 : decode cJ2_getChar_3b067 29 = .ok (.iconst 1, 1) := by decide +kernel
theorem dJ2_getChar_3b067_30 : decode cJ2_getChar_3b067 30 = .ok (.ishl, 1) := by decide +kernel
theorem dJ2_getChar_3b067_31 : decode cJ2_getChar_3b067 31 = .ok (.istore_n 1, 1) := by decide +kernel
theorem dJ2_getChar_3b067_32 : decode cJ2_getChar_3b067 32 = .ok (.aload_n 0, 1) := by decide +kernel
theorem dJ2_getChar_3b067_33 : decode cJ2_getChar_3b067 33 = .ok (.iload_n 1, 1) := by decide +kernel
theorem dJ2_getChar_3b067_34 : decode cJ2_getChar_3b067 34 = .ok (.iinc 1 1, 3) := by decide +kernel
theorem dJ2_getChar_3b067_37 : decode cJ2_getChar_3b067 37 = .ok (.baload, 1) := by decide +kernel
theorem dJ2_getChar_3b067_38 : decode cJ2_getChar_3b067 38 = .ok (.sipush 255, 3) := by decide +kernel
theorem dJ2_getChar_3b067_41 : decode cJ2_getChar_3b067 41 = .ok (.iand, 1) := by decide +kernel
theorem dJ2_getChar_3b067_42 : decode cJ2_getChar_3b067 42 = .ok (.getstatic 59, 3) := by decide +kernel
theorem dJ2_getChar_3b067_45 : decode cJ2_getChar_3b067 45 = .ok (.ishl, 1) := by decide +kernel
theorem dJ2_getChar_3b067_46 : decode cJ2_getChar_3b067 46 = .ok (.aload_n 0, 1) := by decide +kernel
theorem dJ2_getChar_3b067_47 : decode cJ2_getChar_3b067 47 = .ok (.iload_n 1, 1) := by decide +kernel
theorem dJ2_getChar_3b067_48 : decode cJ2_getChar_3b067 48 = .ok (.baload, 1) := by decide +kernel
theorem dJ2_getChar_3b067_49 : decode cJ2_getChar_3b067 49 = .ok (.sipush 255, 3) := by decide +kernel
theorem dJ2_getChar_3b067_52 : decode cJ2_getChar_3b067 52 = .ok (.iand, 1) := by decide +kernel
theorem dJ2_getChar_3b067_53 : decode cJ2_getChar_3b067 53 = .ok (.getstatic 63, 3) := by decide +kernel
theorem dJ2_getChar_3b067_56 : decode cJ2_getChar_3b067 56 = .ok (.ishl, 1) := by decide +kernel
theorem dJ2_getChar_3b067_57 : decode cJ2_getChar_3b067 57 = .ok (.ior, 1) := by decide +kernel
theorem dJ2_getChar_3b067_58 : decode cJ2_getChar_3b067 58 = .ok (.i2c, 1) := by decide +kernel
theorem dJ2_getChar_3b067_59 : decode cJ2_getChar_3b067 59 = .ok (.ireturn, 1) := by decide +kernel
theorem dJ2_length_9d52b_0 : decode cJ2_length_9d52b 0 = .ok (.aload_n 0, 1) := by decide +kernel
theorem dJ2_length_9d52b_1 : decode cJ2_length_9d52b 1 = .ok (.arraylength, 1) := by decide +kernel
theorem dJ2_length_9d52b_2 : decode cJ2_length_9d52b 2 = .ok (.iconst 1, 1) := by decide +kernel
theorem dJ2_length_9d52b_3 : decode cJ2_length_9d52b 3 = .ok (.ishr, 1) := by decide +kernel
theorem dJ2_length_9d52b_4 : decode cJ2_length_9d52b 4 = .ok (.ireturn, 1) := by decide +kernel
set_option maxRecDepth 20000 in
theorem ggJ2_charAt_3b067_J2_checkIndex_2214a : GoodIn wsJ2_charAt_3b067 wsJ2_checkIndex_2214a := goodIn_r _ [4, 5, 6, 3, 7, 8, 9, 10, 11, 12, 13, 14, 15, 16] (by decide +kernel) (by decide +kernel)
set_option maxRecDepth 20000 in
theorem gJ2_charAt_3b067_J2_checkIndex_2214a : GoodIn wsJ2_charAt_3b067 (va_wsS RJ2 67 yJ2_checkIndex_2214a wsJ2_checkIndex_2214a) := goodIn_app (goodIn_of _ (by decide +kernel)) ggJ2_charAt_3b067_J2_checkIndex_2214a
set_option maxRecDepth 20000 in
theorem ggJ2_charAt_3b067_J2_getChar_3b067 : GoodIn wsJ2_charAt_3b067 wsJ2_getChar_3b067 := goodIn_r _ [19, 20, 21, 22, 5, 6, 3, 7] (by decide +kernel) (by decide +kernel)
set_option maxRecDepth 20000 in
theorem gJ2_charAt_3b067_J2_getChar_3b067 : GoodIn wsJ2_charAt_3b067 (va_wsS RJ2 71 yJ2_getChar_3b067 wsJ2_getChar_3b067) := goodIn_app (goodIn_of _ (by decide +kernel)) ggJ2_charAt_3b067_J2_getChar_3b067
theorem dJ2_charAt_3b067_0 : decode cJ2_charAt_3b067 0 = .ok (.iload_n 1, 1) := by decide +kernel
theorem dJ2_charAt_3b067_1 : decode cJ2_charAt_3b067 1 = .ok (.aload_n 0, 1) := by decide +kernel
theorem dJ2_charAt_3b067_2 : decode cJ2_charAt_3b067 2 = .ok (.invokestatic 67, 3) := by decide +kernel
theorem dJ2_charAt_3b067_5 : decode cJ2_charAt_3b067 5 = .ok (.aload_n 0, 1) := by decide +kernel
theorem dJ2_charAt_3b067_6 : decode cJ2_charAt_3b067 6 = .ok (.iload_n 1, 1) := by decide +kernel
theorem dJ2_charAt_3b067_7 : decode cJ2_charAt_3b067 7 = .ok (.invokestatic 71, 3) := by decide +kernel
theorem dJ2_charAt_3b067_10 : decode cJ2_charAt_3b067 10 = .ok (.ireturn, 1) := by decide +kernel
set_option maxRecDepth 20000 in
theorem ggJ2_checkIndex_2214a_J2_length_9d52b : GoodIn wsJ2_checkIndex_2214a wsJ2_length_9d52b := goodIn_r _ [4] (by decide +kernel) (by decide +kernel)
set_option maxRecDepth 20000 in
theorem gJ2_checkIndex_2214a_J2_length_9d52b : GoodIn wsJ2_checkIndex_2214a (va_wsS RJ2 48 yJ2_length_9d52b wsJ2_length_9d52b) := goodIn_app (goodIn_of _ (by decide +kernel)) ggJ2_checkIndex_2214a_J2_length_9d52b
set_option maxRecDepth 20000 in
theorem ggJ2_checkIndex_2214a_J0_checkIndex_df160 : GoodIn wsJ2_checkIndex_2214a wsJ0_checkIndex_df160 := goodIn_r _ [8, 9, 10, 11, 12, 13] (by decide +kernel) (by decide +kernel)
set_option maxRecDepth 20000 in
theorem gJ2_checkIndex_2214a_J0_checkIndex_df160 : GoodIn wsJ2_checkIndex_2214a (va_wsS RJ2 414 yJ0_checkIndex_df160 wsJ0_checkIndex_df160) := goodIn_app (goodIn_of _ (by decide +kernel)) ggJ2_checkIndex_2214a_J0_checkIndex_df160
theorem dJ2_checkIndex_2214a_0 : decode cJ2_checkIndex_2214a 0 = .ok (.iload_n 0, 1) := by decide +kernel
theorem dJ2_checkIndex_2214a_1 : decode cJ2_checkIndex_2214a 1 = .ok (.aload_n 1, 1) := by decide +kernel
theorem dJ2_checkIndex_2214a_2 : decode cJ2_checkIndex_2214a 2 = .ok (.invokestatic 48, 3) := by decide +kernel
theorem dJ2_checkIndex_2214a_5 : decode cJ2_checkIndex_2214a 5 = .ok (.invokestatic 414, 3) := by decide +kernel
theorem dJ2_checkIndex_2214a_8 : decode cJ2_checkIndex_2214a 8 = .ok (.return_, 1) := by decide +kernel
theorem dJ7_fill_53178_0 : decode cJ7_fill_53178 0 = .ok (.iconst 0, 1) := by decide +kernel
theorem dJ7_fill_53178_1 : decode cJ7_fill_53178 1 = .ok (.istore_n 2, 1) := by decide +kernel
theorem dJ7_fill_53178_2 : decode cJ7_fill_53178 2 = .ok (.aload_n 0, 1) := by decide +kernel
theorem dJ7_fill_53178_3 : decode cJ7_fill_53178 3 = .ok (.arraylength, 1) := by decide +kernel
theorem dJ7_fill_53178_4 : decode cJ7_fill_53178 4 = .ok (.istore_n 3, 1) := by decide +kernel
theorem dJ7_fill_53178_5 : decode cJ7_fill_53178 5 = .ok (.iload_n 2, 1) := by decide +kernel
theorem dJ7_fill_53178_6 : decode cJ7_fill_53178 6 = .ok (.iload_n 3, 1) := by decide +kernel
theorem dJ7_fill_53178_7 : decode cJ7_fill_53178 7 = .ok (.if_icmp .ge 13, 3) := by decide +kernel
theorem dJ7_fill_53178_10 : decode cJ7_fill_53178 10 = .ok (.aload_n 0, 1) := by decide +kernel
theorem dJ7_fill_53178_11 : decode cJ7_fill_53178 11 = .ok (.iload_n 2, 1) := by decide +kernel
theorem dJ7_fill_53178_12 : decode cJ7_fill_53178 12 = .ok (.iload_n 1, 1) := by decide +kernel
theorem dJ7_fill_53178_13 : decode cJ7_fill_53178 13 = .ok (.iastore, 1) := by decide +kernel
theorem dJ7_fill_53178_14 : decode cJ7_fill_53178 14 = .ok (.iinc 2 1, 3) := by decide +kernel
theorem dJ7_fill_53178_17 : decode cJ7_fill_53178 17 = .ok (.goto (-12), 3) := by decide +kernel
theorem dJ7_fill_53178_20 : decode cJ7_fill_53178 20 = .ok (.return_, 1) := by decide +kernel
theorem dJ7_copyOf_59c91_0 : decode cJ7_copyOf_59c91 0 = .ok (.iload_n 1, 1) := by decide +kernel
theorem dJ7_copyOf_59c91_1 : decode cJ7_copyOf_59c91 1 = .ok (.aload_n 0, 1) := by decide +kernel
theorem dJ7_copyOf_59c91_2 : decode cJ7_copyOf_59c91 2 = .ok (.arraylength, 1) := by decide +kernel
theorem dJ7_copyOf_59c91_3 : decode cJ7_copyOf_59c91 3 = .ok (.if_icmp .ne 11, 3) := by decide +kernel
theorem dJ7_copyOf_59c91_6 : decode cJ7_copyOf_59c91 6 = .ok (.aload_n 0, 1) := by decide +kernel
theorem dJ7_copyOf_59c91_7 : decode cJ7_copyOf_59c91 7 = .ok (.invokevirtual 316, 3) := by decide +kernel
theorem dJ7_copyOf_59c91_10 : decode cJ7_copyOf_59c91 10 = .ok (.checkcast 317, 3) := by decide +kernel
theorem dJ7_copyOf_59c91_13 : decode cJ7_copyOf_59c91 13 = .ok (.areturn, 1) := by decide +kernel
theorem dJ7_copyOf_59c91_14 : decode cJ7_copyOf_59c91 14 = .ok (.iload_n 1, 1) := by decide +kernel
theorem dJ7_copyOf_59c91_15 : decode cJ7_copyOf_59c91 15 = .ok (.newarray .int, 2) := by decide +kernel
theorem dJ7_copyOf_59c91_17 : decode cJ7_copyOf_59c91 17 = .ok (.astore_n 2, 1) := by decide +kernel
theorem dJ7_copyOf_59c91_18 : decode cJ7_copyOf_59c91 18 = .ok (.aload_n 0, 1) := by decide +kernel
theorem dJ7_copyOf_59c91_19 : decode cJ7_copyOf_59c91 19 = .ok (.iconst 0, 1) := by decide +kernel
theorem dJ7_copyOf_59c91_20 : decode cJ7_copyOf_59c91 20 = .ok (.aload_n 2, 1) := by decide +kernel
theorem dJ7_copyOf_59c91_21 : decode cJ7_copyOf_59c91 21 = .ok (.iconst 0, 1) := by decide +kernel
theorem dJ7_copyOf_59c91_22 : decode cJ7_copyOf_59c91 22 = .ok (.aload_n 0, 1) := by decide +kernel
theorem dJ7_copyOf_59c91_23 : decode cJ7_copyOf_59c91 23 = .ok (.arraylength, 1) := by decide +kernel
theorem dJ7_copyOf_59c91_24 : decode cJ7_copyOf_59c91 24 = .ok (.iload_n 1, 1) := by decide +kernel
theorem dJ7_copyOf_59c91_25 : decode cJ7_copyOf_59c91 25 = .ok (.invokestatic 304, 3) := by decide +kernel
theorem dJ7_copyOf_59c91_28 : decode cJ7_copyOf_59c91 28 = .ok (.invokestatic 150, 3) := by decide +kernel
theorem dJ7_copyOf_59c91_31 : decode cJ7_copyOf_59c91 31 = .ok (.aload_n 2, 1) := by decide +kernel
theorem dJ7_copyOf_59c91_32 : decode cJ7_copyOf_59c91 32 = .ok (.areturn, 1) := by decide +kernel
theorem dJ7_copyOf_c38d5_0 : decode cJ7_copyOf_c38d5 0 = .ok (.iload_n 1, 1) := by decide +kernel
theorem dJ7_copyOf_c38d5_1 : decode cJ7_copyOf_c38d5 1 = .ok (.aload_n 0, 1) := by decide +kernel
theorem dJ7_copyOf_c38d5_2 : decode cJ7_copyOf_c38d5 2 = .ok (.arraylength, 1) := by decide +kernel
theorem dJ7_copyOf_c38d5_3 : decode cJ7_copyOf_c38d5 3 = .ok (.if_icmp .ne 11, 3) := by decide +kernel
theorem dJ7_copyOf_c38d5_6 : decode cJ7_copyOf_c38d5 6 = .ok (.aload_n 0, 1) := by decide +kernel
theorem dJ7_copyOf_c38d5_7 : decode cJ7_copyOf_c38d5 7 = .ok (.invokevirtual 319, 3) := by decide +kernel
theorem dJ7_copyOf_c38d5_10 : decode cJ7_copyOf_c38d5 10 = .ok (.checkcast 320, 3) := by decide +kernel
theorem dJ7_copyOf_c38d5_13 : decode cJ7_copyOf_c38d5 13 = .ok (.areturn, 1) := by decide +kernel
theorem dJ7_copyOf_c38d5_14 : decode cJ7_copyOf_c38d5 14 = .ok (.iload_n 1, 1) := by decide +kernel
theorem dJ7_copyOf_c38d5_15 : decode cJ7_copyOf_c38d5 15 = .ok (.newarray .long, 2) := by decide +kernel
theorem dJ7_copyOf_c38d5_17 : decode cJ7_copyOf_c38d5 17 = .ok (.astore_n 2, 1) := by decide +kernel
theorem dJ7_copyOf_c38d5_18 : decode cJ7_copyOf_c38d5 18 = .ok (.aload_n 0, 1) := by decide +kernel
theorem dJ7_copyOf_c38d5_19 : decode cJ7_copyOf_c38d5 19 = .ok (.iconst 0, 1) := by decide +kernel
theorem dJ7_copyOf_c38d5_20 : decode cJ7_copyOf_c38d5 20 = .ok (.aload_n 2, 1) := by decide +kernel
theorem dJ7_copyOf_c38d5_21 : decode cJ7_copyOf_c38d5 21 = .ok (.iconst 0, 1) := by decide +kernel
theorem dJ7_copyOf_c38d5_22 : decode cJ7_copyOf_c38d5 22 = .ok (.aload_n 0, 1) := by decide +kernel
theorem dJ7_copyOf_c38d5_23 : decode cJ7_copyOf_c38d5 23 = .ok (.arraylength, 1) := by decide +kernel
theorem dJ7_copyOf_c38d5_24 : decode cJ7_copyOf_c38d5 24 = .ok (.iload_n 1, 1) := by decide +kernel
theorem dJ7_copyOf_c38d5_25 : decode cJ7_copyOf_c38d5 25 = .ok (.invokestatic 304, 3) := by decide +kernel
theorem dJ7_copyOf_c38d5_28 : decode cJ7_copyOf_c38d5 28 = .ok (.invokestatic 150, 3) := by decide +kernel
theorem dJ7_copyOf_c38d5_31 : decode cJ7_copyOf_c38d5 31 = .ok (.aload_n 2, 1) := by decide +kernel
theorem dJ7_copyOf_c38d5_32 : decode cJ7_copyOf_c38d5 32 = .ok (.areturn, 1) := by decide +kernel
theorem dJ3_checkIndex_8e157_0 : decode cJ3_checkIndex_8e157 0 = .ok (.iload_n 0, 1) := by decide +kernel
theorem dJ3_checkIndex_8e157_1 : decode cJ3_checkIndex_8e157 1 = .ok (.ifCond .lt 8, 3) := by decide +kernel
theorem dJ3_checkIndex_8e157_4 : decode cJ3_checkIndex_8e157 4 = .ok (.iload_n 0, 1) := by decide +kernel
theorem dJ3_checkIndex_8e157_5 : decode cJ3_checkIndex_8e157 5 = .ok (.iload_n 1, 1) := by decide +kernel
theorem dJ3_checkIndex_8e157_6 : decode cJ3_checkIndex_8e157 6 = .ok (.if_icmp .lt 10, 3) := by decide +kernel
theorem dJ3_checkIndex_8e157_9 : decode cJ3_checkIndex_8e157 9 = .ok (.aload_n 2, 1) := by decide +kernel
theorem dJ3_checkIndex_8e157_10 : decode cJ3_checkIndex_8e157 10 = .ok (.iload_n 0, 1) := by decide +kernel
theorem dJ3_checkIndex_8e157_11 : decode cJ3_checkIndex_8e157 11 = .ok (.iload_n 1, 1) := by decide +kernel
theorem dJ3_checkIndex_8e157_12 : decode cJ3_checkIndex_8e157 12 = .ok (.invokestatic 95, 3) := by decide +kernel
theorem dJ3_checkIndex_8e157_15 : decode cJ3_checkIndex_8e157 15 = .ok (.athrow, 1) := by decide +kernel
theorem dJ3_checkIndex_8e157_16 : decode cJ3_checkIndex_8e157 16 = .ok (.iload_n 0, 1) := by decide +kernel
theorem dJ3_checkIndex_8e157_17 : decode cJ3_checkIndex_8e157 17 = .ok (.ireturn, 1) := by decide +kernel
abbrev vwCl : List vw_C := [(RX0, TX0, 10), (RX1, TX1, 6), (RX2, TX2, 9), (RX3, TX3, 5), (RX4, TX4, 4), (RX5, TX5, 7), (RX6, TX6, 11), (RX7, TX7, 41)]
