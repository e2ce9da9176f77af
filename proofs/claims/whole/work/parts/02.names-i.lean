theorem dX7_reducedAt_0 : decode cX7_reducedAt 0 = .ok (.aload_n 0, 1) := by decide +kernel
theorem dX7_reducedAt_1 : decode cX7_reducedAt 1 = .ok (.getfield 37, 3) := by decide +kernel
theorem dX7_reducedAt_4 : decode cX7_reducedAt 4 = .ok (.aload_n 0, 1) := by decide +kernel
theorem dX7_reducedAt_5 : decode cX7_reducedAt 5 = .ok (.getfield 167, 3) := by decide +kernel
theorem dX7_reducedAt_8 : decode cX7_reducedAt 8 = .ok (.laload, 1) := by decide +kernel
theorem dX7_reducedAt_9 : decode cX7_reducedAt 9 = .ok (.lstore_n 2, 1) := by decide +kernel
theorem dX7_reducedAt_10 : decode cX7_reducedAt 10 = .ok (.aload_n 0, 1) := by decide +kernel
theorem dX7_reducedAt_11 : decode cX7_reducedAt 11 = .ok (.getfield 33, 3) := by decide +kernel
theorem dX7_reducedAt_14 : decode cX7_reducedAt 14 = .ok (.aload_n 0, 1) := by decide +kernel
theorem dX7_reducedAt_15 : decode cX7_reducedAt 15 = .ok (.getfield 167, 3) := by decide +kernel
theorem dX7_reducedAt_18 : decode cX7_reducedAt 18 = .ok (.laload, 1) := by decide +kernel
theorem dX7_reducedAt_19 : decode cX7_reducedAt 19 = .ok (.lstore 4, 2) := by decide +kernel
theorem dX7_reducedAt_21 : decode cX7_reducedAt 21 = .ok (.aload_n 0, 1) := by decide +kernel
theorem dX7_reducedAt_22 : decode cX7_reducedAt 22 = .ok (.getfield 176, 3) := by decide +kernel
theorem dX7_reducedAt_25 : decode cX7_reducedAt 25 = .ok (.aload_n 0, 1) := by decide +kernel
theorem dX7_reducedAt_26 : decode cX7_reducedAt 26 = .ok (.getfield 170, 3) := by decide +kernel
theorem dX7_reducedAt_29 : decode cX7_reducedAt 29 = .ok (.lsub, 1) := by decide +kernel
theorem dX7_reducedAt_30 : decode cX7_reducedAt 30 = .ok (.lstore 6, 2) := by decide +kernel
theorem dX7_reducedAt_32 : decode cX7_reducedAt 32 = .ok (.iload_n 1, 1) := by decide +kernel
theorem dX7_reducedAt_33 : decode cX7_reducedAt 33 = .ok (.aload_n 0, 1) := by decide +kernel
theorem dX7_reducedAt_34 : decode cX7_reducedAt 34 = .ok (.getfield 167, 3) := by decide +kernel
theorem dX7_reducedAt_37 : decode cX7_reducedAt 37 = .ok (.if_icmp .ge 32, 3) := by decide +kernel
theorem dX7_reducedAt_40 : decode cX7_reducedAt 40 = .ok (.aload_n 0, 1) := by decide +kernel
theorem dX7_reducedAt_41 : decode cX7_reducedAt 41 = .ok (.getfield 173, 3) := by decide +kernel
theorem dX7_reducedAt_44 : decode cX7_reducedAt 44 = .ok (.aload_n 0, 1) := by decide +kernel
theorem dX7_reducedAt_45 : decode cX7_reducedAt 45 = .ok (.getfield 37, 3) := by decide +kernel
theorem dX7_reducedAt_48 : decode cX7_reducedAt 48 = .ok (.iload_n 1, 1) := by decide +kernel
theorem dX7_reducedAt_49 : decode cX7_reducedAt 49 = .ok (.laload, 1) := by decide +kernel
theorem dX7_reducedAt_50 : decode cX7_reducedAt 50 = .ok (.lsub, 1) := by decide +kernel
theorem dX7_reducedAt_51 : decode cX7_reducedAt 51 = .ok (.lload 6, 2) := by decide +kernel
theorem dX7_reducedAt_53 : decode cX7_reducedAt 53 = .ok (.aload_n 0, 1) := by decide +kernel
theorem dX7_reducedAt_54 : decode cX7_reducedAt 54 = .ok (.getfield 33, 3) := by decide +kernel
theorem dX7_reducedAt_57 : decode cX7_reducedAt 57 = .ok (.iload_n 1, 1) := by decide +kernel
theorem dX7_reducedAt_58 : decode cX7_reducedAt 58 = .ok (.laload, 1) := by decide +kernel
theorem dX7_reducedAt_59 : decode cX7_reducedAt 59 = .ok (.ladd, 1) := by decide +kernel
theorem dX7_reducedAt_60 : decode cX7_reducedAt 60 = .ok (.lload_n 2, 1) := by decide +kernel
theorem dX7_reducedAt_61 : decode cX7_reducedAt 61 = .ok (.lmul, 1) := by decide +kernel
theorem dX7_reducedAt_62 : decode cX7_reducedAt 62 = .ok (.lload 4, 2) := by decide +kernel
theorem dX7_reducedAt_64 : decode cX7_reducedAt 64 = .ok (.invokestatic 221, 3) := by decide +kernel
theorem dX7_reducedAt_67 : decode cX7_reducedAt 67 = .ok (.ladd, 1) := by decide +kernel
theorem dX7_reducedAt_68 : decode cX7_reducedAt 68 = .ok (.lreturn, 1) := by decide +kernel
theorem dX7_reducedAt_69 : decode cX7_reducedAt 69 = .ok (.aload_n 0, 1) := by decide +kernel
theorem dX7_reducedAt_70 : decode cX7_reducedAt 70 = .ok (.getfield 173, 3) := by decide +kernel
theorem dX7_reducedAt_73 : decode cX7_reducedAt 73 = .ok (.aload_n 0, 1) := by decide +kernel
theorem dX7_reducedAt_74 : decode cX7_reducedAt 74 = .ok (.getfield 37, 3) := by decide +kernel
theorem dX7_reducedAt_77 : decode cX7_reducedAt 77 = .ok (.iload_n 1, 1) := by decide +kernel
theorem dX7_reducedAt_78 : decode cX7_reducedAt 78 = .ok (.laload, 1) := by decide +kernel
theorem dX7_reducedAt_79 : decode cX7_reducedAt 79 = .ok (.ladd, 1) := by decide +kernel
theorem dX7_reducedAt_80 : decode cX7_reducedAt 80 = .ok (.lload 6, 2) := by decide +kernel
theorem dX7_reducedAt_82 : decode cX7_reducedAt 82 = .ok (.aload_n 0, 1) := by decide +kernel
theorem dX7_reducedAt_83 : decode cX7_reducedAt 83 = .ok (.getfield 33, 3) := by decide +kernel
theorem dX7_reducedAt_86 : decode cX7_reducedAt 86 = .ok (.iload_n 1, 1) := by decide +kernel
theorem dX7_reducedAt_87 : decode cX7_reducedAt 87 = .ok (.laload, 1) := by decide +kernel
theorem dX7_reducedAt_88 : decode cX7_reducedAt 88 = .ok (.lsub, 1) := by decide +kernel
theorem dX7_reducedAt_89 : decode cX7_reducedAt 89 = .ok (.lload_n 2, 1) := by decide +kernel
theorem dX7_reducedAt_90 : decode cX7_reducedAt 90 = .ok (.lmul, 1) := by decide +kernel
theorem dX7_reducedAt_91 : decode cX7_reducedAt 91 = .ok (.lload 4, 2) := by decide +kernel
theorem dX7_reducedAt_93 : decode cX7_reducedAt 93 = .ok (.invokestatic 221, 3) := by decide +kernel
theorem dX7_reducedAt_96 : decode cX7_reducedAt 96 = .ok (.ladd, 1) := by decide +kernel
theorem dX7_reducedAt_97 : decode cX7_reducedAt 97 = .ok (.lreturn, 1) := by decide +kernel
set_option maxRecDepth 20000 in
theorem ggX7_isFixed_X7_isBreak : GoodIn wsX7_isFixed wsX7_isBreak := goodIn_r _ [6, 7, 8, 21, 22, 23, 24, 25, 26, 27, 28, 29, 30, 31, 32, 33, 34, 35, 36, 37, 38, 39, 40, 41, 42, 43, 44, 45, 46, 47, 48, 49, 50, 51, 52, 53, 54, 55, 56, 57, 58, 59, 60, 61] (by decide +kernel) (by decide +kernel)
set_option maxRecDepth 20000 in
theorem gX7_isFixed_X7_isBreak : GoodIn wsX7_isFixed (wsV RX7 267 RX7 yX7_isBreak wsX7_isBreak) := goodIn_app (goodIn_of _ (by decide +kernel)) ggX7_isFixed_X7_isBreak
set_option maxRecDepth 20000 in
theorem ggX7_isFixed_X7_reducedAt : GoodIn wsX7_isFixed wsX7_reducedAt := goodIn_r _ [12, 13, 7, 14, 15, 16, 17, 18, 19, 5, 20, 21, 22, 23, 24, 25, 26, 27, 28, 29, 30, 31, 32, 33, 34, 35, 36, 37, 38, 39, 40, 41, 42, 43, 44, 45, 46, 47, 48, 49, 50, 51, 52, 53, 54, 55, 56, 57, 58, 59, 60, 61] (by decide +kernel) (by decide +kernel)
set_option maxRecDepth 20000 in
theorem gX7_isFixed_X7_reducedAt : GoodIn wsX7_isFixed (wsV RX7 270 RX7 yX7_reducedAt wsX7_reducedAt) := goodIn_app (goodIn_of _ (by decide +kernel)) ggX7_isFixed_X7_reducedAt
theorem dX7_isFixed_0 : decode cX7_isFixed 0 = .ok (.aload_n 0, 1) := by decide +kernel
theorem dX7_isFixed_1 : decode cX7_isFixed 1 = .ok (.invokevirtual 267, 3) := by decide +kernel
theorem dX7_isFixed_4 : decode cX7_isFixed 4 = .ok (.ifCond .eq 20, 3) := by decide +kernel
theorem dX7_isFixed_7 : decode cX7_isFixed 7 = .ok (.aload_n 0, 1) := by decide +kernel
theorem dX7_isFixed_8 : decode cX7_isFixed 8 = .ok (.iload_n 1, 1) := by decide +kernel
theorem dX7_isFixed_9 : decode cX7_isFixed 9 = .ok (.invokevirtual 270, 3) := by decide +kernel
theorem dX7_isFixed_12 : decode cX7_isFixed 12 = .ok (.aload_n 0, 1) := by decide +kernel
theorem dX7_isFixed_13 : decode cX7_isFixed 13 = .ok (.getfield 204, 3) := by decide +kernel
theorem dX7_isFixed_16 : decode cX7_isFixed 16 = .ok (.lcmp, 1) := by decide +kernel
theorem dX7_isFixed_17 : decode cX7_isFixed 17 = .ok (.ifCond .gt 7, 3) := by decide +kernel
theorem dX7_isFixed_20 : decode cX7_isFixed 20 = .ok (.iconst 1, 1) := by decide +kernel
theorem dX7_isFixed_21 : decode cX7_isFixed 21 = .ok (.goto 4, 3) := by decide +kernel
theorem dX7_isFixed_24 : decode cX7_isFixed 24 = .ok (.iconst 0, 1) := by decide +kernel
theorem dX7_isFixed_25 : decode cX7_isFixed 25 = .ok (.ireturn, 1) := by decide +kernel
set_option maxRecDepth 20000 in
theorem ggX7_fixedMany_X7_isFixed : GoodIn wsX7_fixedMany wsX7_isFixed := goodIn_r _ [6, 7, 8, 9, 10, 5, 11, 12, 1, 13, 14, 15, 16, 17, 18, 19, 20, 21, 22, 23, 24, 25, 26, 27, 28, 29, 30, 31, 32, 33, 34, 35, 36, 37, 38, 39, 40, 41, 42, 43, 44, 45, 46, 47, 48, 49, 50, 51, 52, 53, 54, 55, 56, 57, 58, 59, 60, 61, 62, 63, 64, 65] (by decide +kernel) (by decide +kernel)
set_option maxRecDepth 20000 in
theorem gX7_fixedMany_X7_isFixed : GoodIn wsX7_fixedMany (wsV RX7 273 RX7 yX7_isFixed wsX7_isFixed) := goodIn_app (goodIn_of _ (by decide +kernel)) ggX7_fixedMany_X7_isFixed
theorem dX7_fixedMany_0 : decode cX7_fixedMany 0 = .ok (.iconst 0, 1) := by decide +kernel
theorem dX7_fixedMany_1 : decode cX7_fixedMany 1 = .ok (.istore_n 1, 1) := by decide +kernel
theorem dX7_fixedMany_2 : decode cX7_fixedMany 2 = .ok (.iconst 0, 1) := by decide +kernel
theorem dX7_fixedMany_3 : decode cX7_fixedMany 3 = .ok (.istore_n 2, 1) := by decide +kernel
theorem dX7_fixedMany_4 : decode cX7_fixedMany 4 = .ok (.iload_n 2, 1) := by decide +kernel
theorem dX7_fixedMany_5 : decode cX7_fixedMany 5 = .ok (.aload_n 0, 1) := by decide +kernel
theorem dX7_fixedMany_6 : decode cX7_fixedMany 6 = .ok (.getfield 160, 3) := by decide +kernel
theorem dX7_fixedMany_9 : decode cX7_fixedMany 9 = .ok (.if_icmp .ge 25, 3) := by decide +kernel
theorem dX7_fixedMany_12 : decode cX7_fixedMany 12 = .ok (.iload_n 1, 1) := by decide +kernel
theorem dX7_fixedMany_13 : decode cX7_fixedMany 13 = .ok (.aload_n 0, 1) := by decide +kernel
theorem dX7_fixedMany_14 : decode cX7_fixedMany 14 = .ok (.iload_n 2, 1) := by decide +kernel
theorem dX7_fixedMany_15 : decode cX7_fixedMany 15 = .ok (.invokevirtual 273, 3) := by decide +kernel
theorem dX7_fixedMany_18 : decode cX7_fixedMany 18 = .ok (.ifCond .eq 7, 3) := by decide +kernel
theorem dX7_fixedMany_21 : decode cX7_fixedMany 21 = .ok (.iconst 1, 1) := by decide +kernel
theorem dX7_fixedMany_22 : decode cX7_fixedMany 22 = .ok (.goto 4, 3) := by decide +kernel
theorem dX7_fixedMany_25 : decode cX7_fixedMany 25 = .ok (.iconst 0, 1) := by decide +kernel
theorem dX7_fixedMany_26 : decode cX7_fixedMany 26 = .ok (.iadd, 1) := by decide +kernel
theorem dX7_fixedMany_27 : decode cX7_fixedMany 27 = .ok (.istore_n 1, 1) := by decide +kernel
theorem dX7_fixedMany_28 : decode cX7_fixedMany 28 = .ok (.iinc 2 1, 3) := by decide +kernel
theorem dX7_fixedMany_31 : decode cX7_fixedMany 31 = .ok (.goto (-27), 3) := by decide +kernel
theorem dX7_fixedMany_34 : decode cX7_fixedMany 34 = .ok (.iload_n 1, 1) := by decide +kernel
theorem dX7_fixedMany_35 : decode cX7_fixedMany 35 = .ok (.ireturn, 1) := by decide +kernel
theorem dX7_fitMany_0 : decode cX7_fitMany 0 = .ok (.iconst 0, 1) := by decide +kernel
theorem dX7_fitMany_1 : decode cX7_fitMany 1 = .ok (.istore_n 1, 1) := by decide +kernel
theorem dX7_fitMany_2 : decode cX7_fitMany 2 = .ok (.iconst 0, 1) := by decide +kernel
theorem dX7_fitMany_3 : decode cX7_fitMany 3 = .ok (.istore_n 2, 1) := by decide +kernel
theorem dX7_fitMany_4 : decode cX7_fitMany 4 = .ok (.iload_n 2, 1) := by decide +kernel
theorem dX7_fitMany_5 : decode cX7_fitMany 5 = .ok (.aload_n 0, 1) := by decide +kernel
theorem dX7_fitMany_6 : decode cX7_fitMany 6 = .ok (.getfield 195, 3) := by decide +kernel
theorem dX7_fitMany_9 : decode cX7_fitMany 9 = .ok (.if_icmp .ge 31, 3) := by decide +kernel
theorem dX7_fitMany_12 : decode cX7_fitMany 12 = .ok (.iload_n 1, 1) := by decide +kernel
theorem dX7_fitMany_13 : decode cX7_fitMany 13 = .ok (.aload_n 0, 1) := by decide +kernel
theorem dX7_fitMany_14 : decode cX7_fitMany 14 = .ok (.getfield 43, 3) := by decide +kernel
theorem dX7_fitMany_17 : decode cX7_fitMany 17 = .ok (.iload_n 2, 1) := by decide +kernel
theorem dX7_fitMany_18 : decode cX7_fitMany 18 = .ok (.laload, 1) := by decide +kernel
theorem dX7_fitMany_19 : decode cX7_fitMany 19 = .ok (.aload_n 0, 1) := by decide +kernel
theorem dX7_fitMany_20 : decode cX7_fitMany 20 = .ok (.getfield 176, 3) := by decide +kernel
theorem dX7_fitMany_23 : decode cX7_fitMany 23 = .ok (.lcmp, 1) := by decide +kernel
theorem dX7_fitMany_24 : decode cX7_fitMany 24 = .ok (.ifCond .gt 7, 3) := by decide +kernel
theorem dX7_fitMany_27 : decode cX7_fitMany 27 = .ok (.iconst 1, 1) := by decide +kernel
theorem dX7_fitMany_28 : decode cX7_fitMany 28 = .ok (.goto 4, 3) := by decide +kernel
theorem dX7_fitMany_31 : decode cX7_fitMany 31 = .ok (.iconst 0, 1) := by decide +kernel
theorem dX7_fitMany_32 : decode cX7_fitMany 32 = .ok (.iadd, 1) := by decide +kernel
theorem dX7_fitMany_33 : decode cX7_fitMany 33 = .ok (.istore_n 1, 1) := by decide +kernel
theorem dX7_fitMany_34 : decode cX7_fitMany 34 = .ok (.iinc 2 1, 3) := by decide +kernel
theorem dX7_fitMany_37 : decode cX7_fitMany 37 = .ok (.goto (-33), 3) := by decide +kernel
theorem dX7_fitMany_40 : decode cX7_fitMany 40 = .ok (.iload_n 1, 1) := by decide +kernel
theorem dX7_fitMany_41 : decode cX7_fitMany 41 = .ok (.ireturn, 1) := by decide +kernel
set_option maxRecDepth 20000 in
theorem ggX7_linearBound_X7_isBreak : GoodIn wsX7_linearBound wsX7_isBreak := goodIn_r _ [11, 5, 12, 13, 14, 15, 16, 17, 18, 19, 20, 21, 22, 23, 24, 25, 26, 27, 28, 29, 30, 31, 32, 33, 34, 35, 36, 37, 38, 39, 40, 41, 42, 43, 44, 45, 46, 47, 48, 49, 50, 51, 52, 53] (by decide +kernel) (by decide +kernel)
set_option maxRecDepth 20000 in
theorem gX7_linearBound_X7_isBreak : GoodIn wsX7_linearBound (wsV RX7 267 RX7 yX7_isBreak wsX7_isBreak) := goodIn_app (goodIn_of _ (by decide +kernel)) ggX7_linearBound_X7_isBreak
theorem dX7_linearBound_0 : decode cX7_linearBound 0 = .ok (.aload_n 0, 1) := by decide +kernel
theorem dX7_linearBound_1 : decode cX7_linearBound 1 = .ok (.getfield 173, 3) := by decide +kernel
theorem dX7_linearBound_4 : decode cX7_linearBound 4 = .ok (.aload_n 0, 1) := by decide +kernel
theorem dX7_linearBound_5 : decode cX7_linearBound 5 = .ok (.invokevirtual 267, 3) := by decide +kernel
theorem dX7_linearBound_8 : decode cX7_linearBound 8 = .ok (.ifCond .eq 35, 3) := by decide +kernel
theorem dX7_linearBound_11 : decode cX7_linearBound 11 = .ok (.aload_n 0, 1) := by decide +kernel
theorem dX7_linearBound_12 : decode cX7_linearBound 12 = .ok (.getfield 176, 3) := by decide +kernel
theorem dX7_linearBound_15 : decode cX7_linearBound 15 = .ok (.aload_n 0, 1) := by decide +kernel
theorem dX7_linearBound_16 : decode cX7_linearBound 16 = .ok (.getfield 170, 3) := by decide +kernel
theorem dX7_linearBound_19 : decode cX7_linearBound 19 = .ok (.lsub, 1) := by decide +kernel
theorem dX7_linearBound_20 : decode cX7_linearBound 20 = .ok (.aload_n 0, 1) := by decide +kernel
theorem dX7_linearBound_21 : decode cX7_linearBound 21 = .ok (.getfield 37, 3) := by decide +kernel
theorem dX7_linearBound_24 : decode cX7_linearBound 24 = .ok (.aload_n 0, 1) := by decide +kernel
theorem dX7_linearBound_25 : decode cX7_linearBound 25 = .ok (.getfield 167, 3) := by decide +kernel
theorem dX7_linearBound_28 : decode cX7_linearBound 28 = .ok (.laload, 1) := by decide +kernel
theorem dX7_linearBound_29 : decode cX7_linearBound 29 = .ok (.lmul, 1) := by decide +kernel
theorem dX7_linearBound_30 : decode cX7_linearBound 30 = .ok (.aload_n 0, 1) := by decide +kernel
theorem dX7_linearBound_31 : decode cX7_linearBound 31 = .ok (.getfield 33, 3) := by decide +kernel
theorem dX7_linearBound_34 : decode cX7_linearBound 34 = .ok (.aload_n 0, 1) := by decide +kernel
theorem dX7_linearBound_35 : decode cX7_linearBound 35 = .ok (.getfield 167, 3) := by decide +kernel
theorem dX7_linearBound_38 : decode cX7_linearBound 38 = .ok (.laload, 1) := by decide +kernel
theorem dX7_linearBound_39 : decode cX7_linearBound 39 = .ok (.ldiv, 1) := by decide +kernel
theorem dX7_linearBound_40 : decode cX7_linearBound 40 = .ok (.goto 4, 3) := by decide +kernel
theorem dX7_linearBound_43 : decode cX7_linearBound 43 = .ok (.lconst 0, 1) := by decide +kernel
theorem dX7_linearBound_44 : decode cX7_linearBound 44 = .ok (.ladd, 1) := by decide +kernel
theorem dX7_linearBound_45 : decode cX7_linearBound 45 = .ok (.lreturn, 1) := by decide +kernel
set_option maxRecDepth 20000 in
theorem ggX7_count_X7_lays : GoodIn wsX7_count wsX7_lays := goodIn_r _ [18, 2, 8, 19, 20, 21, 17, 22, 23, 3, 6, 7, 9, 24, 25, 4, 26, 5, 27, 12, 11, 28, 29, 30, 31, 10, 32, 33, 34, 35, 36, 37, 38, 39, 40, 41, 42, 43, 44, 45, 46, 47, 48, 49, 50, 51, 52, 53, 54, 55, 56, 57, 58, 59, 60, 61, 62, 63, 64, 65, 66, 67, 68, 69, 70, 71, 72, 73, 74, 75, 76, 77, 78, 79, 112, 113, 114, 115, 116, 117, 118, 119, 120, 121, 122, 123, 124, 125, 126, 127, 128, 129, 130, 131, 132, 133, 134, 135, 136, 137, 138, 139, 140, 141, 142, 143, 144, 145, 146, 147, 148, 149, 150, 151, 152] (by decide +kernel) (by decide +kernel)
set_option maxRecDepth 20000 in
theorem gX7_count_X7_lays : GoodIn wsX7_count (wsV RX7 261 RX7 yX7_lays wsX7_lays) := goodIn_app (goodIn_of _ (by decide +kernel)) ggX7_count_X7_lays
set_option maxRecDepth 20000 in
theorem ggX7_count_X7_linearBound : GoodIn wsX7_count wsX7_linearBound := goodIn_r _ [83, 5, 23, 4, 35, 3, 34, 84, 85, 86, 17, 87, 10, 112, 113, 114, 115, 116, 117, 118, 119, 120, 121, 122, 123, 124, 125, 126, 127, 128, 129, 130, 131, 132, 133, 134, 135, 136, 137, 138, 139, 140, 141, 142, 143, 144, 145, 146, 147, 148, 149, 150, 151, 152] (by decide +kernel) (by decide +kernel)
set_option maxRecDepth 20000 in
theorem gX7_count_X7_linearBound : GoodIn wsX7_count (wsV RX7 276 RX7 yX7_linearBound wsX7_linearBound) := goodIn_app (goodIn_of _ (by decide +kernel)) ggX7_count_X7_linearBound
set_option maxRecDepth 20000 in
theorem ggX7_count_X7_isProved : GoodIn wsX7_count wsX7_isProved := goodIn_r _ [91, 9, 6, 7, 10, 112, 113, 114, 115, 116, 117, 118, 119, 120, 121, 122, 123, 124, 125, 126, 127, 128, 129, 130, 131, 132, 133, 134, 135, 136, 137, 138, 139, 140, 141, 142, 143, 144, 145, 146, 147, 148, 149, 150, 151, 152] (by decide +kernel) (by decide +kernel)
set_option maxRecDepth 20000 in
theorem gX7_count_X7_isProved : GoodIn wsX7_count (wsV RX7 245 RX7 yX7_isProved wsX7_isProved) := goodIn_app (goodIn_of _ (by decide +kernel)) ggX7_count_X7_isProved
set_option maxRecDepth 20000 in
theorem ggX7_count_X7_fixedMany : GoodIn wsX7_count wsX7_fixedMany := goodIn_r _ [95, 10, 96, 97, 98, 17, 99, 11, 84, 85, 86, 87, 3, 100, 101, 102, 103, 35, 34, 23, 4, 5, 77, 78, 79, 112, 113, 114, 115, 116, 117, 118, 119, 120, 121, 122, 123, 124, 125, 126, 127, 128, 129, 130, 131, 132, 133, 134, 135, 136, 137, 138, 139, 140, 141, 142, 143, 144, 145, 146, 147, 148, 149, 150, 151, 152] (by decide +kernel) (by decide +kernel)
set_option maxRecDepth 20000 in
theorem gX7_count_X7_fixedMany : GoodIn wsX7_count (wsV RX7 280 RX7 yX7_fixedMany wsX7_fixedMany) := goodIn_app (goodIn_of _ (by decide +kernel)) ggX7_count_X7_fixedMany
set_option maxRecDepth 20000 in
theorem ggX7_count_X7_fitMany : GoodIn wsX7_count wsX7_fitMany := goodIn_r _ [107, 9, 25, 23, 112, 113, 114, 115, 116, 117, 118, 119, 120, 121, 122, 123, 124, 125, 126, 127, 128, 129, 130, 131, 132, 133, 134, 135, 136, 137, 138, 139, 140, 141, 142, 143, 144, 145, 146, 147, 148, 149, 150, 151, 152] (by decide +kernel) (by decide +kernel)
set_option maxRecDepth 20000 in
theorem gX7_count_X7_fitMany : GoodIn wsX7_count (wsV RX7 283 RX7 yX7_fitMany wsX7_fitMany) := goodIn_app (goodIn_of _ (by decide +kernel)) ggX7_count_X7_fitMany
set_option maxRecDepth 20000 in
theorem ggX7_count_X7_sumOf : GoodIn wsX7_count wsX7_sumOf := goodIn_r _ [111, 2, 112, 113, 114, 115, 116, 117, 118, 119, 120, 121, 122, 123, 124, 125, 126, 127, 128, 129, 130, 131, 132, 133, 134, 135, 136, 137, 138, 139, 140, 141, 142, 143, 144, 145, 146, 147, 148, 149, 150, 151, 152] (by decide +kernel) (by decide +kernel)
set_option maxRecDepth 20000 in
theorem gX7_count_X7_sumOf : GoodIn wsX7_count (wsV RX7 254 RX7 yX7_sumOf wsX7_sumOf) := goodIn_app (goodIn_of _ (by decide +kernel)) ggX7_count_X7_sumOf
theorem dX7_count_0 : decode cX7_count 0 = .ok (.aload_n 0, 1) := by decide +kernel
theorem dX7_count_1 : decode cX7_count 1 = .ok (.iconst 0, 1) := by decide +kernel
theorem dX7_count_2 : decode cX7_count 2 = .ok (.putfield 58, 3) := by decide +kernel
theorem dX7_count_5 : decode cX7_count 5 = .ok (.aload_n 0, 1) := by decide +kernel
theorem dX7_count_6 : decode cX7_count 6 = .ok (.invokevirtual 261, 3) := by decide +kernel
theorem dX7_count_9 : decode cX7_count 9 = .ok (.iload_n 1, 1) := by decide +kernel
theorem dX7_count_10 : decode cX7_count 10 = .ok (.tableswitch 214 0 19 #[94, 94, 94, 101, 106, 112, 118, 124, 129, 134, 139, 144, 164, 170, 176, 181, 186, 194, 199, 206], 94) := by decide +kernel
theorem dX7_count_104 : decode cX7_count 104 = .ok (.aload_n 0, 1) := by decide +kernel
theorem dX7_count_105 : decode cX7_count 105 = .ok (.getfield 7, 3) := by decide +kernel
theorem dX7_count_108 : decode cX7_count 108 = .ok (.iload_n 1, 1) := by decide +kernel
theorem dX7_count_109 : decode cX7_count 109 = .ok (.iaload, 1) := by decide +kernel
theorem dX7_count_110 : decode cX7_count 110 = .ok (.ireturn, 1) := by decide +kernel
theorem dX7_count_111 : decode cX7_count 111 = .ok (.aload_n 0, 1) := by decide +kernel
theorem dX7_count_112 : decode cX7_count 112 = .ok (.getfield 167, 3) := by decide +kernel
theorem dX7_count_115 : decode cX7_count 115 = .ok (.ireturn, 1) := by decide +kernel
theorem dX7_count_116 : decode cX7_count 116 = .ok (.aload_n 0, 1) := by decide +kernel
theorem dX7_count_117 : decode cX7_count 117 = .ok (.getfield 170, 3) := by decide +kernel
theorem dX7_count_120 : decode cX7_count 120 = .ok (.l2i, 1) := by decide +kernel
theorem dX7_count_121 : decode cX7_count 121 = .ok (.ireturn, 1) := by decide +kernel
theorem dX7_count_122 : decode cX7_count 122 = .ok (.aload_n 0, 1) := by decide +kernel
theorem dX7_count_123 : decode cX7_count 123 = .ok (.getfield 173, 3) := by decide +kernel
theorem dX7_count_126 : decode cX7_count 126 = .ok (.l2i, 1) := by decide +kernel
theorem dX7_count_127 : decode cX7_count 127 = .ok (.ireturn, 1) := by decide +kernel
theorem dX7_count_128 : decode cX7_count 128 = .ok (.aload_n 0, 1) := by decide +kernel
theorem dX7_count_129 : decode cX7_count 129 = .ok (.invokevirtual 276, 3) := by decide +kernel
theorem dX7_count_132 : decode cX7_count 132 = .ok (.l2i, 1) := by decide +kernel
theorem dX7_count_133 : decode cX7_count 133 = .ok (.ireturn, 1) := by decide +kernel
theorem dX7_count_134 : decode cX7_count 134 = .ok (.aload_n 0, 1) := by decide +kernel
theorem dX7_count_135 : decode cX7_count 135 = .ok (.getfield 186, 3) := by decide +kernel
theorem dX7_count_138 : decode cX7_count 138 = .ok (.ireturn, 1) := by decide +kernel
theorem dX7_count_139 : decode cX7_count 139 = .ok (.aload_n 0, 1) := by decide +kernel
theorem dX7_count_140 : decode cX7_count 140 = .ok (.getfield 189, 3) := by decide +kernel
theorem dX7_count_143 : decode cX7_count 143 = .ok (.ireturn, 1) := by decide +kernel
theorem dX7_count_144 : decode cX7_count 144 = .ok (.aload_n 0, 1) := by decide +kernel
theorem dX7_count_145 : decode cX7_count 145 = .ok (.getfield 192, 3) := by decide +kernel
theorem dX7_count_148 : decode cX7_count 148 = .ok (.ireturn, 1) := by decide +kernel
theorem dX7_count_149 : decode cX7_count 149 = .ok (.aload_n 0, 1) := by decide +kernel
theorem dX7_count_150 : decode cX7_count 150 = .ok (.getfield 195, 3) := by decide +kernel
theorem dX7_count_153 : decode cX7_count 153 = .ok (.ireturn, 1) := by decide +kernel
theorem dX7_count_154 : decode cX7_count 154 = .ok (.aload_n 0, 1) := by decide +kernel
theorem dX7_count_155 : decode cX7_count 155 = .ok (.getfield 160, 3) := by decide +kernel
theorem dX7_count_158 : decode cX7_count 158 = .ok (.ifCond .le 14, 3) := by decide +kernel
theorem dX7_count_161 : decode cX7_count 161 = .ok (.aload_n 0, 1) := by decide +kernel
theorem dX7_count_162 : decode cX7_count 162 = .ok (.invokevirtual 245, 3) := by decide +kernel
theorem dX7_count_165 : decode cX7_count 165 = .ok (.ifCond .eq 7, 3) := by decide +kernel
theorem dX7_count_168 : decode cX7_count 168 = .ok (.iconst 1, 1) := by decide +kernel
theorem dX7_count_169 : decode cX7_count 169 = .ok (.goto 4, 3) := by decide +kernel
theorem dX7_count_172 : decode cX7_count 172 = .ok (.iconst 0, 1) := by decide +kernel
theorem dX7_count_173 : decode cX7_count 173 = .ok (.ireturn, 1) := by decide +kernel
theorem dX7_count_174 : decode cX7_count 174 = .ok (.aload_n 0, 1) := by decide +kernel
theorem dX7_count_175 : decode cX7_count 175 = .ok (.getfield 204, 3) := by decide +kernel
theorem dX7_count_178 : decode cX7_count 178 = .ok (.l2i, 1) := by decide +kernel
theorem dX7_count_179 : decode cX7_count 179 = .ok (.ireturn, 1) := by decide +kernel
theorem dX7_count_180 : decode cX7_count 180 = .ok (.aload_n 0, 1) := by decide +kernel
theorem dX7_count_181 : decode cX7_count 181 = .ok (.getfield 201, 3) := by decide +kernel
theorem dX7_count_184 : decode cX7_count 184 = .ok (.l2i, 1) := by decide +kernel
theorem dX7_count_185 : decode cX7_count 185 = .ok (.ireturn, 1) := by decide +kernel
theorem dX7_count_186 : decode cX7_count 186 = .ok (.aload_n 0, 1) := by decide +kernel
theorem dX7_count_187 : decode cX7_count 187 = .ok (.invokevirtual 280, 3) := by decide +kernel
theorem dX7_count_190 : decode cX7_count 190 = .ok (.ireturn, 1) := by decide +kernel
theorem dX7_count_191 : decode cX7_count 191 = .ok (.aload_n 0, 1) := by decide +kernel
theorem dX7_count_192 : decode cX7_count 192 = .ok (.getfield 157, 3) := by decide +kernel
theorem dX7_count_195 : decode cX7_count 195 = .ok (.ireturn, 1) := by decide +kernel
theorem dX7_count_196 : decode cX7_count 196 = .ok (.aload_n 0, 1) := by decide +kernel
theorem dX7_count_197 : decode cX7_count 197 = .ok (.getfield 7, 3) := by decide +kernel
theorem dX7_count_200 : decode cX7_count 200 = .ok (.bipush 124, 2) := by decide +kernel
theorem dX7_count_202 : decode cX7_count 202 = .ok (.iaload, 1) := by decide +kernel
theorem dX7_count_203 : decode cX7_count 203 = .ok (.ireturn, 1) := by decide +kernel
theorem dX7_count_204 : decode cX7_count 204 = .ok (.aload_n 0, 1) := by decide +kernel
theorem dX7_count_205 : decode cX7_count 205 = .ok (.invokevirtual 283, 3) := by decide +kernel
theorem dX7_count_208 : decode cX7_count 208 = .ok (.ireturn, 1) := by decide +kernel
theorem dX7_count_209 : decode cX7_count 209 = .ok (.aload_n 0, 1) := by decide +kernel
theorem dX7_count_210 : decode cX7_count 210 = .ok (.iconst 4, 1) := by decide +kernel
theorem dX7_count_211 : decode cX7_count 211 = .ok (.invokevirtual 254, 3) := by decide +kernel
theorem dX7_count_214 : decode cX7_count 214 = .ok (.l2i, 1) := by decide +kernel
theorem dX7_count_215 : decode cX7_count 215 = .ok (.ireturn, 1) := by decide +kernel
theorem dX7_count_216 : decode cX7_count 216 = .ok (.aload_n 0, 1) := by decide +kernel
theorem dX7_count_217 : decode cX7_count 217 = .ok (.bipush 64, 2) := by decide +kernel
theorem dX7_count_219 : decode cX7_count 219 = .ok (.invokevirtual 254, 3) := by decide +kernel
theorem dX7_count_222 : decode cX7_count 222 = .ok (.l2i, 1) := by decide +kernel
theorem dX7_count_223 : decode cX7_count 223 = .ok (.ireturn, 1) := by decide +kernel
theorem dX7_count_224 : decode cX7_count 224 = .ok (.iconst (-1), 1) := by decide +kernel
theorem dX7_count_225 : decode cX7_count 225 = .ok (.ireturn, 1) := by decide +kernel
theorem dX7_isOn_0 : decode cX7_isOn 0 = .ok (.lload_n 0, 1) := by decide +kernel
theorem dX7_isOn_1 : decode cX7_isOn 1 = .ok (.iload_n 2, 1) := by decide +kernel
theorem dX7_isOn_2 : decode cX7_isOn 2 = .ok (.lshr, 1) := by decide +kernel
theorem dX7_isOn_3 : decode cX7_isOn 3 = .ok (.lconst 1, 1) := by decide +kernel
theorem dX7_isOn_4 : decode cX7_isOn 4 = .ok (.land, 1) := by decide +kernel
theorem dX7_isOn_5 : decode cX7_isOn 5 = .ok (.lconst 1, 1) := by decide +kernel
theorem dX7_isOn_6 : decode cX7_isOn 6 = .ok (.lcmp, 1) := by decide +kernel
theorem dX7_isOn_7 : decode cX7_isOn 7 = .ok (.ifCond .ne 7, 3) := by decide +kernel
theorem dX7_isOn_10 : decode cX7_isOn 10 = .ok (.iconst 1, 1) := by decide +kernel
theorem dX7_isOn_11 : decode cX7_isOn 11 = .ok (.goto 4, 3) := by decide +kernel
theorem dX7_isOn_14 : decode cX7_isOn 14 = .ok (.iconst 0, 1) := by decide +kernel
theorem dX7_isOn_15 : decode cX7_isOn 15 = .ok (.ireturn, 1) := by decide +kernel
set_option maxRecDepth 20000 in
theorem ggX7_item_X7_isItem : GoodIn wsX7_item wsX7_isItem := goodIn_r _ [10, 3, 11, 12, 9, 13, 102, 103, 104, 105, 106, 107, 108, 109, 110, 111, 112, 113, 114, 115, 116, 117, 118, 119, 120, 121, 122, 123, 124, 125, 126, 127, 128, 129, 130, 131, 132, 133, 134, 135, 136, 137, 138, 139, 140, 141, 142] (by decide +kernel) (by decide +kernel)
set_option maxRecDepth 20000 in
theorem gX7_item_X7_isItem : GoodIn wsX7_item (wsV RX7 257 RX7 yX7_isItem wsX7_isItem) := goodIn_app (goodIn_of _ (by decide +kernel)) ggX7_item_X7_isItem
set_option maxRecDepth 20000 in
theorem ggX7_item_X7_in : GoodIn wsX7_item wsX7_in := goodIn_r _ [13] (by decide +kernel) (by decide +kernel)
set_option maxRecDepth 20000 in
theorem gX7_item_X7_in : GoodIn wsX7_item (va_wsS RX7 88 yX7_in wsX7_in) := goodIn_app (goodIn_of _ (by decide +kernel)) ggX7_item_X7_in
set_option maxRecDepth 20000 in
theorem ggX7_item_X7_lays : GoodIn wsX7_item wsX7_lays := goodIn_r _ [17, 3, 18, 19, 20, 21, 9, 22, 23, 24, 25, 26, 27, 28, 29, 30, 31, 32, 5, 33, 34, 35, 36, 37, 38, 39, 40, 4, 41, 42, 43, 44, 45, 46, 47, 48, 49, 50, 51, 52, 53, 54, 55, 56, 57, 58, 59, 60, 61, 62, 63, 64, 65, 66, 67, 68, 69, 70, 71, 72, 73, 74, 75, 76, 77, 78, 79, 80, 81, 82, 83, 84, 85, 86, 102, 103, 104, 105, 106, 107, 108, 109, 110, 111, 112, 113, 114, 115, 116, 117, 118, 119, 120, 121, 122, 123, 124, 125, 126, 127, 128, 129, 130, 131, 132, 133, 134, 135, 136, 137, 138, 139, 140, 141, 142] (by decide +kernel) (by decide +kernel)
set_option maxRecDepth 20000 in
theorem gX7_item_X7_lays : GoodIn wsX7_item (wsV RX7 261 RX7 yX7_lays wsX7_lays) := goodIn_app (goodIn_of _ (by decide +kernel)) ggX7_item_X7_lays
set_option maxRecDepth 20000 in
theorem ggX7_item_X7_isOn : GoodIn wsX7_item wsX7_isOn := goodIn_r _ [89] (by decide +kernel) (by decide +kernel)
set_option maxRecDepth 20000 in
theorem gX7_item_X7_isOn : GoodIn wsX7_item (va_wsS RX7 288 yX7_isOn wsX7_isOn) := goodIn_app (goodIn_of _ (by decide +kernel)) ggX7_item_X7_isOn
set_option maxRecDepth 20000 in
theorem ggX7_item_X7_isFixed : GoodIn wsX7_item wsX7_isFixed := goodIn_r _ [93, 34, 94, 95, 96, 9, 97, 24, 39, 98, 99, 100, 101, 42, 41, 23, 30, 32, 84, 85, 86, 102, 103, 104, 105, 106, 107, 108, 109, 110, 111, 112, 113, 114, 115, 116, 117, 118, 119, 120, 121, 122, 123, 124, 125, 126, 127, 128, 129, 130, 131, 132, 133, 134, 135, 136, 137, 138, 139, 140, 141, 142] (by decide +kernel) (by decide +kernel)
set_option maxRecDepth 20000 in
theorem gX7_item_X7_isFixed : GoodIn wsX7_item (wsV RX7 273 RX7 yX7_isFixed wsX7_isFixed) := goodIn_app (goodIn_of _ (by decide +kernel)) ggX7_item_X7_isFixed
theorem dX7_item_0 : decode cX7_item 0 = .ok (.aload_n 0, 1) := by decide +kernel
theorem dX7_item_1 : decode cX7_item 1 = .ok (.aload_n 0, 1) := by decide +kernel
theorem dX7_item_2 : decode cX7_item 2 = .ok (.iload_n 1, 1) := by decide +kernel
theorem dX7_item_3 : decode cX7_item 3 = .ok (.invokevirtual 257, 3) := by decide +kernel
theorem dX7_item_6 : decode cX7_item 6 = .ok (.ifCond .eq 19, 3) := by decide +kernel
theorem dX7_item_9 : decode cX7_item 9 = .ok (.iload_n 2, 1) := by decide +kernel
theorem dX7_item_10 : decode cX7_item 10 = .ok (.i2l, 1) := by decide +kernel
theorem dX7_item_11 : decode cX7_item 11 = .ok (.lconst 0, 1) := by decide +kernel
theorem dX7_item_12 : decode cX7_item 12 = .ok (.ldc2_w 286, 3) := by decide +kernel
theorem dX7_item_15 : decode cX7_item 15 = .ok (.invokestatic 88, 3) := by decide +kernel
theorem dX7_item_18 : decode cX7_item 18 = .ok (.ifCond .eq 7, 3) := by decide +kernel
theorem dX7_item_21 : decode cX7_item 21 = .ok (.iconst 0, 1) := by decide +kernel
theorem dX7_item_22 : decode cX7_item 22 = .ok (.goto 4, 3) := by decide +kernel
theorem dX7_item_25 : decode cX7_item 25 = .ok (.iconst 1, 1) := by decide +kernel
theorem dX7_item_26 : decode cX7_item 26 = .ok (.putfield 58, 3) := by decide +kernel
theorem dX7_item_29 : decode cX7_item 29 = .ok (.aload_n 0, 1) := by decide +kernel
theorem dX7_item_30 : decode cX7_item 30 = .ok (.getfield 58, 3) := by decide +kernel
theorem dX7_item_33 : decode cX7_item 33 = .ok (.ifCond .le 5, 3) := by decide +kernel
theorem dX7_item_36 : decode cX7_item 36 = .ok (.iconst 0, 1) := by decide +kernel
theorem dX7_item_37 : decode cX7_item 37 = .ok (.ireturn, 1) := by decide +kernel
theorem dX7_item_38 : decode cX7_item 38 = .ok (.aload_n 0, 1) := by decide +kernel
theorem dX7_item_39 : decode cX7_item 39 = .ok (.invokevirtual 261, 3) := by decide +kernel
theorem dX7_item_42 : decode cX7_item 42 = .ok (.iload_n 2, 1) := by decide +kernel
theorem dX7_item_43 : decode cX7_item 43 = .ok (.tableswitch 77 0 3 #[29, 38, 48, 55], 29) := by decide +kernel
theorem dX7_item_72 : decode cX7_item 72 = .ok (.aload_n 0, 1) := by decide +kernel
theorem dX7_item_73 : decode cX7_item 73 = .ok (.getfield 7, 3) := by decide +kernel
theorem dX7_item_76 : decode cX7_item 76 = .ok (.iconst 4, 1) := by decide +kernel
theorem dX7_item_77 : decode cX7_item 77 = .ok (.iload_n 1, 1) := by decide +kernel
theorem dX7_item_78 : decode cX7_item 78 = .ok (.iadd, 1) := by decide +kernel
theorem dX7_item_79 : decode cX7_item 79 = .ok (.iaload, 1) := by decide +kernel
theorem dX7_item_80 : decode cX7_item 80 = .ok (.ireturn, 1) := by decide +kernel
theorem dX7_item_81 : decode cX7_item 81 = .ok (.aload_n 0, 1) := by decide +kernel
theorem dX7_item_82 : decode cX7_item 82 = .ok (.getfield 7, 3) := by decide +kernel
theorem dX7_item_85 : decode cX7_item 85 = .ok (.bipush 64, 2) := by decide +kernel
theorem dX7_item_87 : decode cX7_item 87 = .ok (.iload_n 1, 1) := by decide +kernel
theorem dX7_item_88 : decode cX7_item 88 = .ok (.iadd, 1) := by decide +kernel
theorem dX7_item_89 : decode cX7_item 89 = .ok (.iaload, 1) := by decide +kernel
theorem dX7_item_90 : decode cX7_item 90 = .ok (.ireturn, 1) := by decide +kernel
theorem dX7_item_91 : decode cX7_item 91 = .ok (.aload_n 0, 1) := by decide +kernel
theorem dX7_item_92 : decode cX7_item 92 = .ok (.getfield 30, 3) := by decide +kernel
theorem dX7_item_95 : decode cX7_item 95 = .ok (.iload_n 1, 1) := by decide +kernel
theorem dX7_item_96 : decode cX7_item 96 = .ok (.iaload, 1) := by decide +kernel
theorem dX7_item_97 : decode cX7_item 97 = .ok (.ireturn, 1) := by decide +kernel
theorem dX7_item_98 : decode cX7_item 98 = .ok (.aload_n 0, 1) := by decide +kernel
theorem dX7_item_99 : decode cX7_item 99 = .ok (.getfield 198, 3) := by decide +kernel
theorem dX7_item_102 : decode cX7_item 102 = .ok (.aload_n 0, 1) := by decide +kernel
theorem dX7_item_103 : decode cX7_item 103 = .ok (.getfield 30, 3) := by decide +kernel
theorem dX7_item_106 : decode cX7_item 106 = .ok (.iload_n 1, 1) := by decide +kernel
theorem dX7_item_107 : decode cX7_item 107 = .ok (.iaload, 1) := by decide +kernel
theorem dX7_item_108 : decode cX7_item 108 = .ok (.invokestatic 288, 3) := by decide +kernel
theorem dX7_item_111 : decode cX7_item 111 = .ok (.ifCond .eq 7, 3) := by decide +kernel
theorem dX7_item_114 : decode cX7_item 114 = .ok (.iconst 1, 1) := by decide +kernel
theorem dX7_item_115 : decode cX7_item 115 = .ok (.goto 4, 3) := by decide +kernel
theorem dX7_item_118 : decode cX7_item 118 = .ok (.iconst 0, 1) := by decide +kernel
theorem dX7_item_119 : decode cX7_item 119 = .ok (.ireturn, 1) := by decide +kernel
theorem dX7_item_120 : decode cX7_item 120 = .ok (.aload_n 0, 1) := by decide +kernel
theorem dX7_item_121 : decode cX7_item 121 = .ok (.aload_n 0, 1) := by decide +kernel
theorem dX7_item_122 : decode cX7_item 122 = .ok (.getfield 30, 3) := by decide +kernel
theorem dX7_item_125 : decode cX7_item 125 = .ok (.iload_n 1, 1) := by decide +kernel
theorem dX7_item_126 : decode cX7_item 126 = .ok (.iaload, 1) := by decide +kernel
theorem dX7_item_127 : decode cX7_item 127 = .ok (.invokevirtual 273, 3) := by decide +kernel
theorem dX7_item_130 : decode cX7_item 130 = .ok (.ifCond .eq 7, 3) := by decide +kernel
theorem dX7_item_133 : decode cX7_item 133 = .ok (.iconst 1, 1) := by decide +kernel
theorem dX7_item_134 : decode cX7_item 134 = .ok (.goto 4, 3) := by decide +kernel
theorem dX7_item_137 : decode cX7_item 137 = .ok (.iconst 0, 1) := by decide +kernel
theorem dX7_item_138 : decode cX7_item 138 = .ok (.ireturn, 1) := by decide +kernel
set_option maxRecDepth 20000 in
theorem ggX7_reduced_X7_lays : GoodIn wsX7_reduced wsX7_lays := goodIn_r _ [7, 8, 9, 10, 11, 12, 6, 13, 14, 15, 16, 17, 18, 19, 20, 21, 22, 23, 24, 25, 26, 27, 28, 29, 30, 31, 32, 2, 33, 34, 35, 36, 37, 38, 39, 40, 41, 42, 43, 44, 45, 46, 47, 48, 49, 50, 51, 52, 53, 54, 55, 56, 57, 58, 59, 60, 61, 62, 63, 64, 65, 66, 67, 68, 69, 70, 71, 72, 73, 74, 75, 76, 77, 78, 94, 95, 96, 97, 98, 99, 100, 101, 102, 103, 104, 105, 106, 107, 108, 109, 110, 111, 112, 113, 114, 115, 116, 117, 118, 119, 120, 121, 122, 123, 124, 125, 126, 127, 128, 129, 130, 131, 132, 133, 134] (by decide +kernel) (by decide +kernel)
set_option maxRecDepth 20000 in
theorem gX7_reduced_X7_lays : GoodIn wsX7_reduced (wsV RX7 261 RX7 yX7_lays wsX7_lays) := goodIn_app (goodIn_of _ (by decide +kernel)) ggX7_reduced_X7_lays
set_option maxRecDepth 20000 in
theorem ggX7_reduced_X7_isItem : GoodIn wsX7_reduced wsX7_isItem := goodIn_r _ [82, 8, 83, 84, 6, 85, 94, 95, 96, 97, 98, 99, 100, 101, 102, 103, 104, 105, 106, 107, 108, 109, 110, 111, 112, 113, 114, 115, 116, 117, 118, 119, 120, 121, 122, 123, 124, 125, 126, 127, 128, 129, 130, 131, 132, 133, 134] (by decide +kernel) (by decide +kernel)
set_option maxRecDepth 20000 in
theorem gX7_reduced_X7_isItem : GoodIn wsX7_reduced (wsV RX7 257 RX7 yX7_isItem wsX7_isItem) := goodIn_app (goodIn_of _ (by decide +kernel)) ggX7_reduced_X7_isItem
set_option maxRecDepth 20000 in
theorem ggX7_reduced_X7_isBreak : GoodIn wsX7_reduced wsX7_isBreak := goodIn_r _ [89, 15, 31, 94, 95, 96, 97, 98, 99, 100, 101, 102, 103, 104, 105, 106, 107, 108, 109, 110, 111, 112, 113, 114, 115, 116, 117, 118, 119, 120, 121, 122, 123, 124, 125, 126, 127, 128, 129, 130, 131, 132, 133, 134] (by decide +kernel) (by decide +kernel)
set_option maxRecDepth 20000 in
theorem gX7_reduced_X7_isBreak : GoodIn wsX7_reduced (wsV RX7 267 RX7 yX7_isBreak wsX7_isBreak) := goodIn_app (goodIn_of _ (by decide +kernel)) ggX7_reduced_X7_isBreak
set_option maxRecDepth 20000 in
theorem ggX7_reduced_X7_reducedAt : GoodIn wsX7_reduced wsX7_reducedAt := goodIn_r _ [93, 34, 15, 33, 14, 21, 23, 76, 77, 6, 78, 94, 95, 96, 97, 98, 99, 100, 101, 102, 103, 104, 105, 106, 107, 108, 109, 110, 111, 112, 113, 114, 115, 116, 117, 118, 119, 120, 121, 122, 123, 124, 125, 126, 127, 128, 129, 130, 131, 132, 133, 134] (by decide +kernel) (by decide +kernel)
set_option maxRecDepth 20000 in
theorem gX7_reduced_X7_reducedAt : GoodIn wsX7_reduced (wsV RX7 270 RX7 yX7_reducedAt wsX7_reducedAt) := goodIn_app (goodIn_of _ (by decide +kernel)) ggX7_reduced_X7_reducedAt
theorem dX7_reduced_0 : decode cX7_reduced 0 = .ok (.aload_n 0, 1) := by decide +kernel
theorem dX7_reduced_1 : decode cX7_reduced 1 = .ok (.iconst 0, 1) := by decide +kernel
theorem dX7_reduced_2 : decode cX7_reduced 2 = .ok (.putfield 58, 3) := by decide +kernel
theorem dX7_reduced_5 : decode cX7_reduced 5 = .ok (.aload_n 0, 1) := by decide +kernel
theorem dX7_reduced_6 : decode cX7_reduced 6 = .ok (.invokevirtual 261, 3) := by decide +kernel
theorem dX7_reduced_9 : decode cX7_reduced 9 = .ok (.aload_n 0, 1) := by decide +kernel
theorem dX7_reduced_10 : decode cX7_reduced 10 = .ok (.iload_n 1, 1) := by decide +kernel
theorem dX7_reduced_11 : decode cX7_reduced 11 = .ok (.invokevirtual 257, 3) := by decide +kernel
theorem dX7_reduced_14 : decode cX7_reduced 14 = .ok (.ifCond .eq 23, 3) := by decide +kernel
theorem dX7_reduced_17 : decode cX7_reduced 17 = .ok (.aload_n 0, 1) := by decide +kernel
theorem dX7_reduced_18 : decode cX7_reduced 18 = .ok (.invokevirtual 267, 3) := by decide +kernel
theorem dX7_reduced_21 : decode cX7_reduced 21 = .ok (.ifCond .eq 16, 3) := by decide +kernel
theorem dX7_reduced_24 : decode cX7_reduced 24 = .ok (.aload_n 0, 1) := by decide +kernel
theorem dX7_reduced_25 : decode cX7_reduced 25 = .ok (.aload_n 0, 1) := by decide +kernel
theorem dX7_reduced_26 : decode cX7_reduced 26 = .ok (.getfield 30, 3) := by decide +kernel
theorem dX7_reduced_29 : decode cX7_reduced 29 = .ok (.iload_n 1, 1) := by decide +kernel
theorem dX7_reduced_30 : decode cX7_reduced 30 = .ok (.iaload, 1) := by decide +kernel
theorem dX7_reduced_31 : decode cX7_reduced 31 = .ok (.invokevirtual 270, 3) := by decide +kernel
theorem dX7_reduced_34 : decode cX7_reduced 34 = .ok (.goto 4, 3) := by decide +kernel
theorem dX7_reduced_37 : decode cX7_reduced 37 = .ok (.lconst 0, 1) := by decide +kernel
theorem dX7_reduced_38 : decode cX7_reduced 38 = .ok (.lreturn, 1) := by decide +kernel
set_option maxRecDepth 20000 in
theorem ggX7_order_X7_lays : GoodIn wsX7_order wsX7_lays := goodIn_r _ [8, 9, 10, 11, 12, 13, 7, 14, 15, 16, 17, 18, 19, 20, 21, 22, 23, 24, 25, 26, 27, 28, 29, 30, 31, 2, 3, 32, 33, 34, 35, 36, 37, 38, 39, 40, 41, 42, 43, 44, 45, 46, 47, 48, 49, 50, 51, 52, 53, 54, 55, 56, 57, 58, 59, 60, 61, 62, 63, 64, 65, 66, 67, 68, 69, 70, 71, 72, 73, 74, 75, 76, 77, 78, 82, 83, 84, 85, 86, 87, 88, 89, 90, 91, 92, 93, 94, 95, 96, 97, 98, 99, 100, 101, 102, 103, 104, 105, 106, 107, 108, 109, 110, 111, 112, 113, 114, 115, 116, 117, 118, 119, 120, 121, 122] (by decide +kernel) (by decide +kernel)
set_option maxRecDepth 20000 in
theorem gX7_order_X7_lays : GoodIn wsX7_order (wsV RX7 261 RX7 yX7_lays wsX7_lays) := goodIn_app (goodIn_of _ (by decide +kernel)) ggX7_order_X7_lays
set_option maxRecDepth 20000 in
theorem ggX7_order_X7_in : GoodIn wsX7_order wsX7_in := goodIn_r _ [81] (by decide +kernel) (by decide +kernel)
set_option maxRecDepth 20000 in
theorem gX7_order_X7_in : GoodIn wsX7_order (va_wsS RX7 88 yX7_in wsX7_in) := goodIn_app (goodIn_of _ (by decide +kernel)) ggX7_order_X7_in
theorem dX7_order_0 : decode cX7_order 0 = .ok (.aload_n 0, 1) := by decide +kernel
theorem dX7_order_1 : decode cX7_order 1 = .ok (.iconst 0, 1) := by decide +kernel
theorem dX7_order_2 : decode cX7_order 2 = .ok (.putfield 58, 3) := by decide +kernel
theorem dX7_order_5 : decode cX7_order 5 = .ok (.aload_n 0, 1) := by decide +kernel
theorem dX7_order_6 : decode cX7_order 6 = .ok (.invokevirtual 261, 3) := by decide +kernel
theorem dX7_order_9 : decode cX7_order 9 = .ok (.iload_n 1, 1) := by decide +kernel
theorem dX7_order_10 : decode cX7_order 10 = .ok (.i2l, 1) := by decide +kernel
theorem dX7_order_11 : decode cX7_order 11 = .ok (.lconst 0, 1) := by decide +kernel
theorem dX7_order_12 : decode cX7_order 12 = .ok (.aload_n 0, 1) := by decide +kernel
theorem dX7_order_13 : decode cX7_order 13 = .ok (.getfield 160, 3) := by decide +kernel
theorem dX7_order_16 : decode cX7_order 16 = .ok (.iconst 1, 1) := by decide +kernel
theorem dX7_order_17 : decode cX7_order 17 = .ok (.isub, 1) := by decide +kernel
theorem dX7_order_18 : decode cX7_order 18 = .ok (.i2l, 1) := by decide +kernel
theorem dX7_order_19 : decode cX7_order 19 = .ok (.invokestatic 88, 3) := by decide +kernel
theorem dX7_order_22 : decode cX7_order 22 = .ok (.ifCond .eq 12, 3) := by decide +kernel
theorem dX7_order_25 : decode cX7_order 25 = .ok (.aload_n 0, 1) := by decide +kernel
theorem dX7_order_26 : decode cX7_order 26 = .ok (.getfield 27, 3) := by decide +kernel
theorem dX7_order_29 : decode cX7_order 29 = .ok (.iload_n 1, 1) := by decide +kernel
theorem dX7_order_30 : decode cX7_order 30 = .ok (.iaload, 1) := by decide +kernel
theorem dX7_order_31 : decode cX7_order 31 = .ok (.goto 4, 3) := by decide +kernel
theorem dX7_order_34 : decode cX7_order 34 = .ok (.iconst (-1), 1) := by decide +kernel
theorem dX7_order_35 : decode cX7_order 35 = .ok (.ireturn, 1) := by decide +kernel
set_option maxRecDepth 20000 in
theorem ggX7_ones_X7_isOn : GoodIn wsX7_ones wsX7_isOn := goodIn_r _ [4] (by decide +kernel) (by decide +kernel)
set_option maxRecDepth 20000 in
theorem gX7_ones_X7_isOn : GoodIn wsX7_ones (va_wsS RX7 288 yX7_isOn wsX7_isOn) := goodIn_app (goodIn_of _ (by decide +kernel)) ggX7_ones_X7_isOn
theorem dX7_ones_0 : decode cX7_ones 0 = .ok (.iconst 0, 1) := by decide +kernel
theorem dX7_ones_1 : decode cX7_ones 1 = .ok (.istore_n 2, 1) := by decide +kernel
theorem dX7_ones_2 : decode cX7_ones 2 = .ok (.iconst 0, 1) := by decide +kernel
theorem dX7_ones_3 : decode cX7_ones 3 = .ok (.istore_n 3, 1) := by decide +kernel
theorem dX7_ones_4 : decode cX7_ones 4 = .ok (.iload_n 3, 1) := by decide +kernel
theorem dX7_ones_5 : decode cX7_ones 5 = .ok (.bipush 60, 2) := by decide +kernel
theorem dX7_ones_7 : decode cX7_ones 7 = .ok (.if_icmp .ge 25, 3) := by decide +kernel
theorem dX7_ones_10 : decode cX7_ones 10 = .ok (.iload_n 2, 1) := by decide +kernel
theorem dX7_ones_11 : decode cX7_ones 11 = .ok (.lload_n 0, 1) := by decide +kernel
theorem dX7_ones_12 : decode cX7_ones 12 = .ok (.iload_n 3, 1) := by decide +kernel
theorem dX7_ones_13 : decode cX7_ones 13 = .ok (.invokestatic 288, 3) := by decide +kernel
theorem dX7_ones_16 : decode cX7_ones 16 = .ok (.ifCond .eq 7, 3) := by decide +kernel
theorem dX7_ones_19 : decode cX7_ones 19 = .ok (.iconst 1, 1) := by decide +kernel
theorem dX7_ones_20 : decode cX7_ones 20 = .ok (.goto 4, 3) := by decide +kernel
theorem dX7_ones_23 : decode cX7_ones 23 = .ok (.iconst 0, 1) := by decide +kernel
theorem dX7_ones_24 : decode cX7_ones 24 = .ok (.iadd, 1) := by decide +kernel
theorem dX7_ones_25 : decode cX7_ones 25 = .ok (.istore_n 2, 1) := by decide +kernel
theorem dX7_ones_26 : decode cX7_ones 26 = .ok (.iinc 3 1, 3) := by decide +kernel
theorem dX7_ones_29 : decode cX7_ones 29 = .ok (.goto (-25), 3) := by decide +kernel
theorem dX7_ones_32 : decode cX7_ones 32 = .ok (.iload_n 2, 1) := by decide +kernel
theorem dX7_ones_33 : decode cX7_ones 33 = .ok (.ireturn, 1) := by decide +kernel
set_option maxRecDepth 20000 in
theorem ggX7_set_X7_lays : GoodIn wsX7_set wsX7_lays := goodIn_r _ [11, 12, 13, 14, 15, 16, 10, 17, 18, 19, 20, 21, 1, 6, 4, 22, 5, 23, 24, 25, 26, 27, 28, 29, 30, 31, 32, 33, 34, 35, 36, 37, 38, 39, 40, 41, 42, 43, 44, 45, 46, 47, 48, 49, 50, 51, 52, 53, 54, 55, 56, 57, 58, 59, 60, 61, 62, 63, 64, 65, 66, 67, 68, 69, 70, 71, 72, 73, 74, 75, 76, 77, 78, 79, 89, 90, 91, 92, 93, 94, 95, 96, 97, 98, 99, 100, 101, 102, 103, 104, 105, 106, 107, 108, 109, 110, 111, 112, 113, 114, 115, 116, 117, 118, 119, 120, 121, 122, 123, 124, 125, 126, 127, 128, 129] (by decide +kernel) (by decide +kernel)
set_option maxRecDepth 20000 in
theorem gX7_set_X7_lays : GoodIn wsX7_set (wsV RX7 261 RX7 yX7_lays wsX7_lays) := goodIn_app (goodIn_of _ (by decide +kernel)) ggX7_set_X7_lays
set_option maxRecDepth 20000 in
theorem ggX7_set_X7_in : GoodIn wsX7_set wsX7_in := goodIn_r _ [82] (by decide +kernel) (by decide +kernel)
set_option maxRecDepth 20000 in
theorem gX7_set_X7_in : GoodIn wsX7_set (va_wsS RX7 88 yX7_in wsX7_in) := goodIn_app (goodIn_of _ (by decide +kernel)) ggX7_set_X7_in
set_option maxRecDepth 20000 in
theorem ggX7_set_X7_boundOf : GoodIn wsX7_set wsX7_boundOf := goodIn_r _ [75, 4, 18, 5, 21, 31, 35, 34, 20, 76, 77, 78, 10, 79, 89, 90, 91, 92, 93, 94, 95, 96, 97, 98, 99, 100, 101, 102, 103, 104, 105, 106, 107, 108, 109, 110, 111, 112, 113, 114, 115, 116, 117, 118, 119, 120, 121, 122, 123, 124, 125, 126, 127, 128, 129] (by decide +kernel) (by decide +kernel)
set_option maxRecDepth 20000 in
theorem gX7_set_X7_boundOf : GoodIn wsX7_set (wsV RX7 234 RX7 yX7_boundOf wsX7_boundOf) := goodIn_app (goodIn_of _ (by decide +kernel)) ggX7_set_X7_boundOf
set_option maxRecDepth 20000 in
theorem ggX7_set_X7_ones : GoodIn wsX7_set wsX7_ones := goodIn_r _ [85, 86, 87, 10, 88] (by decide +kernel) (by decide +kernel)
set_option maxRecDepth 20000 in
theorem gX7_set_X7_ones : GoodIn wsX7_set (va_wsS RX7 292 yX7_ones wsX7_ones) := goodIn_app (goodIn_of _ (by decide +kernel)) ggX7_set_X7_ones
theorem dX7_set_0 : decode cX7_set 0 = .ok (.aload_n 0, 1) := by decide +kernel
theorem dX7_set_1 : decode cX7_set 1 = .ok (.invokevirtual 261, 3) := by decide +kernel
theorem dX7_set_4 : decode cX7_set 4 = .ok (.aload_n 0, 1) := by decide +kernel
theorem dX7_set_5 : decode cX7_set 5 = .ok (.iload_n 1, 1) := by decide +kernel
theorem dX7_set_6 : decode cX7_set 6 = .ok (.i2l, 1) := by decide +kernel
theorem dX7_set_7 : decode cX7_set 7 = .ok (.lconst 0, 1) := by decide +kernel
theorem dX7_set_8 : decode cX7_set 8 = .ok (.aload_n 0, 1) := by decide +kernel
theorem dX7_set_9 : decode cX7_set 9 = .ok (.getfield 195, 3) := by decide +kernel
theorem dX7_set_12 : decode cX7_set 12 = .ok (.iconst 1, 1) := by decide +kernel
theorem dX7_set_13 : decode cX7_set 13 = .ok (.isub, 1) := by decide +kernel
theorem dX7_set_14 : decode cX7_set 14 = .ok (.i2l, 1) := by decide +kernel
theorem dX7_set_15 : decode cX7_set 15 = .ok (.invokestatic 88, 3) := by decide +kernel
theorem dX7_set_18 : decode cX7_set 18 = .ok (.ifCond .eq 19, 3) := by decide +kernel
theorem dX7_set_21 : decode cX7_set 21 = .ok (.iload_n 2, 1) := by decide +kernel
theorem dX7_set_22 : decode cX7_set 22 = .ok (.i2l, 1) := by decide +kernel
theorem dX7_set_23 : decode cX7_set 23 = .ok (.lconst 0, 1) := by decide +kernel
theorem dX7_set_24 : decode cX7_set 24 = .ok (.ldc2_w 286, 3) := by decide +kernel
theorem dX7_set_27 : decode cX7_set 27 = .ok (.invokestatic 88, 3) := by decide +kernel
theorem dX7_set_30 : decode cX7_set 30 = .ok (.ifCond .eq 7, 3) := by decide +kernel
theorem dX7_set_33 : decode cX7_set 33 = .ok (.iconst 0, 1) := by decide +kernel
theorem dX7_set_34 : decode cX7_set 34 = .ok (.goto 4, 3) := by decide +kernel
theorem dX7_set_37 : decode cX7_set 37 = .ok (.iconst 1, 1) := by decide +kernel
theorem dX7_set_38 : decode cX7_set 38 = .ok (.putfield 58, 3) := by decide +kernel
theorem dX7_set_41 : decode cX7_set 41 = .ok (.aload_n 0, 1) := by decide +kernel
theorem dX7_set_42 : decode cX7_set 42 = .ok (.getfield 58, 3) := by decide +kernel
theorem dX7_set_45 : decode cX7_set 45 = .ok (.ifCond .le 5, 3) := by decide +kernel
theorem dX7_set_48 : decode cX7_set 48 = .ok (.lconst 0, 1) := by decide +kernel
theorem dX7_set_49 : decode cX7_set 49 = .ok (.lreturn, 1) := by decide +kernel
theorem dX7_set_50 : decode cX7_set 50 = .ok (.iload_n 2, 1) := by decide +kernel
theorem dX7_set_51 : decode cX7_set 51 = .ok (.tableswitch 56 0 3 #[29, 36, 43, 49], 29) := by decide +kernel
theorem dX7_set_80 : decode cX7_set 80 = .ok (.aload_n 0, 1) := by decide +kernel
theorem dX7_set_81 : decode cX7_set 81 = .ok (.getfield 43, 3) := by decide +kernel
theorem dX7_set_84 : decode cX7_set 84 = .ok (.iload_n 1, 1) := by decide +kernel
theorem dX7_set_85 : decode cX7_set 85 = .ok (.laload, 1) := by decide +kernel
theorem dX7_set_86 : decode cX7_set 86 = .ok (.lreturn, 1) := by decide +kernel
theorem dX7_set_87 : decode cX7_set 87 = .ok (.aload_n 0, 1) := by decide +kernel
theorem dX7_set_88 : decode cX7_set 88 = .ok (.getfield 46, 3) := by decide +kernel
theorem dX7_set_91 : decode cX7_set 91 = .ok (.iload_n 1, 1) := by decide +kernel
theorem dX7_set_92 : decode cX7_set 92 = .ok (.laload, 1) := by decide +kernel
theorem dX7_set_93 : decode cX7_set 93 = .ok (.lreturn, 1) := by decide +kernel
theorem dX7_set_94 : decode cX7_set 94 = .ok (.aload_n 0, 1) := by decide +kernel
theorem dX7_set_95 : decode cX7_set 95 = .ok (.iload_n 1, 1) := by decide +kernel
theorem dX7_set_96 : decode cX7_set 96 = .ok (.invokevirtual 234, 3) := by decide +kernel
theorem dX7_set_99 : decode cX7_set 99 = .ok (.lreturn, 1) := by decide +kernel
theorem dX7_set_100 : decode cX7_set 100 = .ok (.aload_n 0, 1) := by decide +kernel
theorem dX7_set_101 : decode cX7_set 101 = .ok (.getfield 40, 3) := by decide +kernel
theorem dX7_set_104 : decode cX7_set 104 = .ok (.iload_n 1, 1) := by decide +kernel
theorem dX7_set_105 : decode cX7_set 105 = .ok (.laload, 1) := by decide +kernel
theorem dX7_set_106 : decode cX7_set 106 = .ok (.lreturn, 1) := by decide +kernel
theorem dX7_set_107 : decode cX7_set 107 = .ok (.aload_n 0, 1) := by decide +kernel
theorem dX7_set_108 : decode cX7_set 108 = .ok (.getfield 40, 3) := by decide +kernel
theorem dX7_set_111 : decode cX7_set 111 = .ok (.iload_n 1, 1) := by decide +kernel
theorem dX7_set_112 : decode cX7_set 112 = .ok (.laload, 1) := by decide +kernel
theorem dX7_set_113 : decode cX7_set 113 = .ok (.invokestatic 292, 3) := by decide +kernel
theorem dX7_set_116 : decode cX7_set 116 = .ok (.i2l, 1) := by decide +kernel
theorem dX7_set_117 : decode cX7_set 117 = .ok (.lreturn, 1) := by decide +kernel
set_option maxRecDepth 20000 in
theorem ggX7_best_X7_lays : GoodIn wsX7_best wsX7_lays := goodIn_r _ [7, 8, 9, 10, 11, 12, 6, 13, 14, 15, 16, 17, 18, 19, 20, 21, 22, 23, 2, 24, 25, 26, 27, 28, 29, 30, 31, 32, 33, 34, 35, 36, 37, 38, 39, 40, 41, 42, 43, 44, 45, 46, 47, 48, 49, 50, 51, 52, 53, 54, 55, 56, 57, 58, 59, 60, 61, 62, 63, 64, 65, 66, 67, 68, 69, 70, 71, 72, 73, 74, 75, 76, 77, 78, 79, 80, 81, 82, 83, 84, 85, 86, 87, 88, 89, 90, 91, 92, 93, 94, 95, 96, 97, 98, 99, 100, 101, 102, 103, 104, 105, 106, 107, 108, 109, 110, 111, 112, 113, 114, 115, 116, 117, 118, 119] (by decide +kernel) (by decide +kernel)
set_option maxRecDepth 20000 in
theorem gX7_best_X7_lays : GoodIn wsX7_best (wsV RX7 261 RX7 yX7_lays wsX7_lays) := goodIn_app (goodIn_of _ (by decide +kernel)) ggX7_best_X7_lays
theorem dX7_best_0 : decode cX7_best 0 = .ok (.aload_n 0, 1) := by decide +kernel
theorem dX7_best_1 : decode cX7_best 1 = .ok (.iconst 0, 1) := by decide +kernel
theorem dX7_best_2 : decode cX7_best 2 = .ok (.putfield 58, 3) := by decide +kernel
theorem dX7_best_5 : decode cX7_best 5 = .ok (.aload_n 0, 1) := by decide +kernel
theorem dX7_best_6 : decode cX7_best 6 = .ok (.invokevirtual 261, 3) := by decide +kernel
theorem dX7_best_9 : decode cX7_best 9 = .ok (.aload_n 0, 1) := by decide +kernel
theorem dX7_best_10 : decode cX7_best 10 = .ok (.getfield 198, 3) := by decide +kernel
theorem dX7_best_13 : decode cX7_best 13 = .ok (.lreturn, 1) := by decide +kernel
set_option maxRecDepth 20000 in
theorem ggX7_share_X7_isItem : GoodIn wsX7_share wsX7_isItem := goodIn_r _ [7, 2, 8, 9, 6, 10, 23, 24, 25, 26, 27, 28, 29, 30, 31, 32, 33, 34, 35, 36, 37, 38, 39, 40, 41, 42, 43, 44, 45, 46, 47, 48, 49, 50, 51, 52, 53, 54, 55, 56, 57, 58, 59, 60, 61, 62, 63] (by decide +kernel) (by decide +kernel)
set_option maxRecDepth 20000 in
theorem gX7_share_X7_isItem : GoodIn wsX7_share (wsV RX7 257 RX7 yX7_isItem wsX7_isItem) := goodIn_app (goodIn_of _ (by decide +kernel)) ggX7_share_X7_isItem
set_option maxRecDepth 20000 in
theorem ggX7_share_Jxf58ca_floatToIntBits_5c35a : GoodIn wsX7_share wsJxf58ca_floatToIntBits_5c35a := goodIn_r _ [14, 15, 16, 17, 18, 19, 20, 21, 13, 22] (by decide +kernel) (by decide +kernel)
set_option maxRecDepth 20000 in
theorem gX7_share_Jxf58ca_floatToIntBits_5c35a : GoodIn wsX7_share (va_wsS RX7 296 yJxf58ca_floatToIntBits_5c35a wsJxf58ca_floatToIntBits_5c35a) := goodIn_app (goodIn_of _ (by decide +kernel)) ggX7_share_Jxf58ca_floatToIntBits_5c35a
theorem dX7_share_0 : decode cX7_share 0 = .ok (.aload_n 0, 1) := by decide +kernel
theorem dX7_share_1 : decode cX7_share 1 = .ok (.iconst 0, 1) := by decide +kernel
theorem dX7_share_2 : decode cX7_share 2 = .ok (.putfield 58, 3) := by decide +kernel
theorem dX7_share_5 : decode cX7_share 5 = .ok (.aload_n 0, 1) := by decide +kernel
theorem dX7_share_6 : decode cX7_share 6 = .ok (.iload_n 1, 1) := by decide +kernel
theorem dX7_share_7 : decode cX7_share 7 = .ok (.invokevirtual 257, 3) := by decide +kernel
theorem dX7_share_10 : decode cX7_share 10 = .ok (.ifCond .ne 5, 3) := by decide +kernel
theorem dX7_share_13 : decode cX7_share 13 = .ok (.iconst 0, 1) := by decide +kernel
theorem dX7_share_14 : decode cX7_share 14 = .ok (.ireturn, 1) := by decide +kernel
theorem dX7_share_15 : decode cX7_share 15 = .ok (.aload_n 0, 1) := by decide +kernel
theorem dX7_share_16 : decode cX7_share 16 = .ok (.getfield 7, 3) := by decide +kernel
theorem dX7_share_19 : decode cX7_share 19 = .ok (.bipush 64, 2) := by decide +kernel
theorem dX7_share_21 : decode cX7_share 21 = .ok (.iload_n 1, 1) := by decide +kernel
theorem dX7_share_22 : decode cX7_share 22 = .ok (.iadd, 1) := by decide +kernel
theorem dX7_share_23 : decode cX7_share 23 = .ok (.iaload, 1) := by decide +kernel
theorem dX7_share_24 : decode cX7_share 24 = .ok (.i2f, 1) := by decide +kernel
theorem dX7_share_25 : decode cX7_share 25 = .ok (.fstore_n 2, 1) := by decide +kernel
theorem dX7_share_26 : decode cX7_share 26 = .ok (.aload_n 0, 1) := by decide +kernel
theorem dX7_share_27 : decode cX7_share 27 = .ok (.getfield 7, 3) := by decide +kernel
theorem dX7_share_30 : decode cX7_share 30 = .ok (.iconst 4, 1) := by decide +kernel
theorem dX7_share_31 : decode cX7_share 31 = .ok (.iload_n 1, 1) := by decide +kernel
theorem dX7_share_32 : decode cX7_share 32 = .ok (.iadd, 1) := by decide +kernel
theorem dX7_share_33 : decode cX7_share 33 = .ok (.iaload, 1) := by decide +kernel
theorem dX7_share_34 : decode cX7_share 34 = .ok (.i2f, 1) := by decide +kernel
theorem dX7_share_35 : decode cX7_share 35 = .ok (.fstore_n 3, 1) := by decide +kernel
theorem dX7_share_36 : decode cX7_share 36 = .ok (.fload_n 2, 1) := by decide +kernel
theorem dX7_share_37 : decode cX7_share 37 = .ok (.fload_n 3, 1) := by decide +kernel
theorem dX7_share_38 : decode cX7_share 38 = .ok (.fdiv, 1) := by decide +kernel
theorem dX7_share_39 : decode cX7_share 39 = .ok (.invokestatic 296, 3) := by decide +kernel
theorem dX7_share_42 : decode cX7_share 42 = .ok (.ireturn, 1) := by decide +kernel
set_option maxRecDepth 20000 in
theorem ggX7_linearNow_X7_isBreak : GoodIn wsX7_linearNow wsX7_isBreak := goodIn_r _ [11, 5, 12, 13, 14, 15, 16, 17, 18, 19, 20, 21, 22, 23, 24, 25, 26, 27, 28, 29, 30, 31, 32, 33, 34, 35, 36, 37, 38, 39, 40, 41, 42, 43, 44, 45, 46, 47, 48, 49, 50, 51, 52, 53] (by decide +kernel) (by decide +kernel)
set_option maxRecDepth 20000 in
theorem gX7_linearNow_X7_isBreak : GoodIn wsX7_linearNow (wsV RX7 267 RX7 yX7_isBreak wsX7_isBreak) := goodIn_app (goodIn_of _ (by decide +kernel)) ggX7_linearNow_X7_isBreak
theorem dX7_linearNow_0 : decode cX7_linearNow 0 = .ok (.aload_n 0, 1) := by decide +kernel
theorem dX7_linearNow_1 : decode cX7_linearNow 1 = .ok (.getfield 173, 3) := by decide +kernel
theorem dX7_linearNow_4 : decode cX7_linearNow 4 = .ok (.l2d, 1) := by decide +kernel
theorem dX7_linearNow_5 : decode cX7_linearNow 5 = .ok (.dstore_n 1, 1) := by decide +kernel
theorem dX7_linearNow_6 : decode cX7_linearNow 6 = .ok (.aload_n 0, 1) := by decide +kernel
theorem dX7_linearNow_7 : decode cX7_linearNow 7 = .ok (.invokevirtual 267, 3) := by decide +kernel
theorem dX7_linearNow_10 : decode cX7_linearNow 10 = .ok (.ifCond .eq 48, 3) := by decide +kernel
theorem dX7_linearNow_13 : decode cX7_linearNow 13 = .ok (.aload_n 0, 1) := by decide +kernel
theorem dX7_linearNow_14 : decode cX7_linearNow 14 = .ok (.getfield 176, 3) := by decide +kernel
theorem dX7_linearNow_17 : decode cX7_linearNow 17 = .ok (.aload_n 0, 1) := by decide +kernel
theorem dX7_linearNow_18 : decode cX7_linearNow 18 = .ok (.getfield 170, 3) := by decide +kernel
theorem dX7_linearNow_21 : decode cX7_linearNow 21 = .ok (.lsub, 1) := by decide +kernel
theorem dX7_linearNow_22 : decode cX7_linearNow 22 = .ok (.l2d, 1) := by decide +kernel
theorem dX7_linearNow_23 : decode cX7_linearNow 23 = .ok (.dstore_n 3, 1) := by decide +kernel
theorem dX7_linearNow_24 : decode cX7_linearNow 24 = .ok (.aload_n 0, 1) := by decide +kernel
theorem dX7_linearNow_25 : decode cX7_linearNow 25 = .ok (.getfield 37, 3) := by decide +kernel
theorem dX7_linearNow_28 : decode cX7_linearNow 28 = .ok (.aload_n 0, 1) := by decide +kernel
theorem dX7_linearNow_29 : decode cX7_linearNow 29 = .ok (.getfield 167, 3) := by decide +kernel
theorem dX7_linearNow_32 : decode cX7_linearNow 32 = .ok (.laload, 1) := by decide +kernel
theorem dX7_linearNow_33 : decode cX7_linearNow 33 = .ok (.l2d, 1) := by decide +kernel
theorem dX7_linearNow_34 : decode cX7_linearNow 34 = .ok (.dstore 5, 2) := by decide +kernel
theorem dX7_linearNow_36 : decode cX7_linearNow 36 = .ok (.aload_n 0, 1) := by decide +kernel
theorem dX7_linearNow_37 : decode cX7_linearNow 37 = .ok (.getfield 33, 3) := by decide +kernel
theorem dX7_linearNow_40 : decode cX7_linearNow 40 = .ok (.aload_n 0, 1) := by decide +kernel
theorem dX7_linearNow_41 : decode cX7_linearNow 41 = .ok (.getfield 167, 3) := by decide +kernel
theorem dX7_linearNow_44 : decode cX7_linearNow 44 = .ok (.laload, 1) := by decide +kernel
theorem dX7_linearNow_45 : decode cX7_linearNow 45 = .ok (.l2d, 1) := by decide +kernel
theorem dX7_linearNow_46 : decode cX7_linearNow 46 = .ok (.dstore 7, 2) := by decide +kernel
theorem dX7_linearNow_48 : decode cX7_linearNow 48 = .ok (.dload_n 1, 1) := by decide +kernel
theorem dX7_linearNow_49 : decode cX7_linearNow 49 = .ok (.dload_n 3, 1) := by decide +kernel
theorem dX7_linearNow_50 : decode cX7_linearNow 50 = .ok (.dload 5, 2) := by decide +kernel
theorem dX7_linearNow_52 : decode cX7_linearNow 52 = .ok (.dmul, 1) := by decide +kernel
theorem dX7_linearNow_53 : decode cX7_linearNow 53 = .ok (.dload 7, 2) := by decide +kernel
theorem dX7_linearNow_55 : decode cX7_linearNow 55 = .ok (.ddiv, 1) := by decide +kernel
theorem dX7_linearNow_56 : decode cX7_linearNow 56 = .ok (.dadd, 1) := by decide +kernel
theorem dX7_linearNow_57 : decode cX7_linearNow 57 = .ok (.dstore_n 1, 1) := by decide +kernel
theorem dX7_linearNow_58 : decode cX7_linearNow 58 = .ok (.dload_n 1, 1) := by decide +kernel
theorem dX7_linearNow_59 : decode cX7_linearNow 59 = .ok (.dreturn, 1) := by decide +kernel
set_option maxRecDepth 20000 in
theorem ggX7_linear_X7_lays : GoodIn wsX7_linear wsX7_lays := goodIn_r _ [6, 7, 8, 9, 10, 11, 5, 12, 13, 14, 15, 16, 17, 18, 19, 20, 21, 22, 23, 24, 25, 26, 27, 28, 29, 30, 31, 32, 33, 34, 35, 36, 37, 38, 39, 40, 41, 42, 43, 44, 45, 46, 47, 48, 49, 50, 51, 52, 53, 54, 55, 56, 57, 58, 59, 60, 61, 62, 63, 64, 65, 66, 67, 68, 69, 70, 71, 72, 73, 74, 75, 76, 77, 78, 99, 100, 101, 102, 103, 104, 105, 106, 107, 108, 109, 110, 111, 112, 113, 114, 115, 116, 117, 118, 119, 120, 121, 122, 123, 124, 125, 126, 127, 128, 129, 130, 131, 132, 133, 134, 135, 136, 137, 138, 139] (by decide +kernel) (by decide +kernel)
set_option maxRecDepth 20000 in
theorem gX7_linear_X7_lays : GoodIn wsX7_linear (wsV RX7 261 RX7 yX7_lays wsX7_lays) := goodIn_app (goodIn_of _ (by decide +kernel)) ggX7_linear_X7_lays
set_option maxRecDepth 20000 in
theorem ggX7_linear_X7_linearNow : GoodIn wsX7_linear wsX7_linearNow := goodIn_r _ [82, 22, 13, 20, 34, 14, 33, 83, 84, 85, 5, 86, 30, 99, 100, 101, 102, 103, 104, 105, 106, 107, 108, 109, 110, 111, 112, 113, 114, 115, 116, 117, 118, 119, 120, 121, 122, 123, 124, 125, 126, 127, 128, 129, 130, 131, 132, 133, 134, 135, 136, 137, 138, 139] (by decide +kernel) (by decide +kernel)
set_option maxRecDepth 20000 in
theorem gX7_linear_X7_linearNow : GoodIn wsX7_linear (wsV RX7 302 RX7 yX7_linearNow wsX7_linearNow) := goodIn_app (goodIn_of _ (by decide +kernel)) ggX7_linear_X7_linearNow
set_option maxRecDepth 20000 in
theorem ggX7_linear_Jxe99ae_doubleToLongBits_ccdee : GoodIn wsX7_linear wsJxe99ae_doubleToLongBits_ccdee := goodIn_r _ [90, 91, 92, 93, 94, 95, 96, 97, 89, 98] (by decide +kernel) (by decide +kernel)
set_option maxRecDepth 20000 in
theorem gX7_linear_Jxe99ae_doubleToLongBits_ccdee : GoodIn wsX7_linear (va_wsS RX7 306 yJxe99ae_doubleToLongBits_ccdee wsJxe99ae_doubleToLongBits_ccdee) := goodIn_app (goodIn_of _ (by decide +kernel)) ggX7_linear_Jxe99ae_doubleToLongBits_ccdee
theorem dX7_linear_0 : decode cX7_linear 0 = .ok (.aload_n 0, 1) := by decide +kernel
theorem dX7_linear_1 : decode cX7_linear 1 = .ok (.iconst 0, 1) := by decide +kernel
theorem dX7_linear_2 : decode cX7_linear 2 = .ok (.putfield 58, 3) := by decide +kernel
theorem dX7_linear_5 : decode cX7_linear 5 = .ok (.aload_n 0, 1) := by decide +kernel
theorem dX7_linear_6 : decode cX7_linear 6 = .ok (.invokevirtual 261, 3) := by decide +kernel
theorem dX7_linear_9 : decode cX7_linear 9 = .ok (.aload_n 0, 1) := by decide +kernel
theorem dX7_linear_10 : decode cX7_linear 10 = .ok (.invokevirtual 302, 3) := by decide +kernel
theorem dX7_linear_13 : decode cX7_linear 13 = .ok (.invokestatic 306, 3) := by decide +kernel
theorem dX7_linear_16 : decode cX7_linear 16 = .ok (.lreturn, 1) := by decide +kernel
set_option maxRecDepth 20000 in
theorem ggX7_part_X7_lays : GoodIn wsX7_part wsX7_lays := goodIn_r _ [6, 7, 8, 9, 10, 11, 5, 12, 13, 14, 15, 16, 17, 18, 19, 20, 21, 22, 23, 24, 25, 26, 27, 28, 29, 30, 31, 32, 33, 34, 35, 36, 37, 38, 39, 40, 41, 42, 43, 44, 45, 46, 47, 48, 49, 50, 51, 52, 53, 54, 55, 56, 57, 58, 59, 60, 61, 62, 63, 64, 65, 66, 67, 68, 69, 70, 71, 72, 73, 74, 75, 76, 77, 78, 87, 88, 89, 90, 91, 92, 93, 94, 95, 96, 97, 98, 99, 100, 101, 102, 103, 104, 105, 106, 107, 108, 109, 110, 111, 112, 113, 114, 115, 116, 117, 118, 119, 120, 121, 122, 123, 124, 125, 126, 127] (by decide +kernel) (by decide +kernel)
set_option maxRecDepth 20000 in
theorem gX7_part_X7_lays : GoodIn wsX7_part (wsV RX7 261 RX7 yX7_lays wsX7_lays) := goodIn_app (goodIn_of _ (by decide +kernel)) ggX7_part_X7_lays
set_option maxRecDepth 20000 in
theorem ggX7_part_X7_linearNow : GoodIn wsX7_part wsX7_linearNow := goodIn_r _ [82, 22, 13, 20, 34, 14, 33, 83, 84, 85, 5, 86, 30, 87, 88, 89, 90, 91, 92, 93, 94, 95, 96, 97, 98, 99, 100, 101, 102, 103, 104, 105, 106, 107, 108, 109, 110, 111, 112, 113, 114, 115, 116, 117, 118, 119, 120, 121, 122, 123, 124, 125, 126, 127] (by decide +kernel) (by decide +kernel)
set_option maxRecDepth 20000 in
theorem gX7_part_X7_linearNow : GoodIn wsX7_part (wsV RX7 302 RX7 yX7_linearNow wsX7_linearNow) := goodIn_app (goodIn_of _ (by decide +kernel)) ggX7_part_X7_linearNow
theorem dX7_part_0 : decode cX7_part 0 = .ok (.aload_n 0, 1) := by decide +kernel
theorem dX7_part_1 : decode cX7_part 1 = .ok (.iconst 0, 1) := by decide +kernel
theorem dX7_part_2 : decode cX7_part 2 = .ok (.putfield 58, 3) := by decide +kernel
theorem dX7_part_5 : decode cX7_part 5 = .ok (.iload_n 2, 1) := by decide +kernel
theorem dX7_part_6 : decode cX7_part 6 = .ok (.ifCond .ne 5, 3) := by decide +kernel
theorem dX7_part_9 : decode cX7_part 9 = .ok (.iconst 0, 1) := by decide +kernel
theorem dX7_part_10 : decode cX7_part 10 = .ok (.ireturn, 1) := by decide +kernel
theorem dX7_part_11 : decode cX7_part 11 = .ok (.aload_n 0, 1) := by decide +kernel
theorem dX7_part_12 : decode cX7_part 12 = .ok (.invokevirtual 261, 3) := by decide +kernel
theorem dX7_part_15 : decode cX7_part 15 = .ok (.iload_n 1, 1) := by decide +kernel
theorem dX7_part_16 : decode cX7_part 16 = .ok (.i2d, 1) := by decide +kernel
theorem dX7_part_17 : decode cX7_part 17 = .ok (.dstore_n 3, 1) := by decide +kernel
theorem dX7_part_18 : decode cX7_part 18 = .ok (.iload_n 2, 1) := by decide +kernel
theorem dX7_part_19 : decode cX7_part 19 = .ok (.i2d, 1) := by decide +kernel
theorem dX7_part_20 : decode cX7_part 20 = .ok (.dstore 5, 2) := by decide +kernel
theorem dX7_part_22 : decode cX7_part 22 = .ok (.aload_n 0, 1) := by decide +kernel
theorem dX7_part_23 : decode cX7_part 23 = .ok (.invokevirtual 302, 3) := by decide +kernel
theorem dX7_part_26 : decode cX7_part 26 = .ok (.dload_n 3, 1) := by decide +kernel
theorem dX7_part_27 : decode cX7_part 27 = .ok (.dmul, 1) := by decide +kernel
theorem dX7_part_28 : decode cX7_part 28 = .ok (.dload 5, 2) := by decide +kernel
theorem dX7_part_30 : decode cX7_part 30 = .ok (.ddiv, 1) := by decide +kernel
theorem dX7_part_31 : decode cX7_part 31 = .ok (.d2i, 1) := by decide +kernel
theorem dX7_part_32 : decode cX7_part 32 = .ok (.ireturn, 1) := by decide +kernel
set_option maxRecDepth 20000 in
theorem ggX7_greedy_X7_in : GoodIn wsX7_greedy wsX7_in := goodIn_r _ [11] (by decide +kernel) (by decide +kernel)
set_option maxRecDepth 20000 in
theorem gX7_greedy_X7_in : GoodIn wsX7_greedy (va_wsS RX7 88 yX7_in wsX7_in) := goodIn_app (goodIn_of _ (by decide +kernel)) ggX7_greedy_X7_in
set_option maxRecDepth 20000 in
theorem ggX7_greedy_X7_lays : GoodIn wsX7_greedy wsX7_lays := goodIn_r _ [15, 16, 17, 18, 19, 20, 10, 21, 6, 22, 23, 24, 25, 26, 27, 28, 29, 30, 31, 32, 33, 34, 35, 36, 37, 4, 38, 39, 5, 7, 40, 41, 42, 43, 44, 45, 46, 47, 48, 49, 50, 51, 52, 53, 54, 55, 56, 57, 58, 59, 60, 61, 62, 63, 64, 65, 66, 67, 68, 69, 70, 71, 72, 73, 74, 75, 76, 77, 78, 79, 3, 80, 81, 82, 83, 84, 85, 86, 87, 88, 89, 90, 91, 92, 93, 94, 95, 96, 97, 98, 99, 100, 101, 102, 103, 104, 105, 106, 107, 108, 109, 110, 111, 112, 113, 114, 115, 116, 117, 118, 119, 120, 121, 122, 123] (by decide +kernel) (by decide +kernel)
set_option maxRecDepth 20000 in
theorem gX7_greedy_X7_lays : GoodIn wsX7_greedy (wsV RX7 261 RX7 yX7_lays wsX7_lays) := goodIn_app (goodIn_of _ (by decide +kernel)) ggX7_greedy_X7_lays
theorem dX7_greedy_0 : decode cX7_greedy 0 = .ok (.aload_n 0, 1) := by decide +kernel
theorem dX7_greedy_1 : decode cX7_greedy 1 = .ok (.iconst 0, 1) := by decide +kernel
theorem dX7_greedy_2 : decode cX7_greedy 2 = .ok (.putfield 58, 3) := by decide +kernel
theorem dX7_greedy_5 : decode cX7_greedy 5 = .ok (.iload_n 1, 1) := by decide +kernel
theorem dX7_greedy_6 : decode cX7_greedy 6 = .ok (.i2l, 1) := by decide +kernel
theorem dX7_greedy_7 : decode cX7_greedy 7 = .ok (.lconst 0, 1) := by decide +kernel
theorem dX7_greedy_8 : decode cX7_greedy 8 = .ok (.ldc2_w 150, 3) := by decide +kernel
theorem dX7_greedy_11 : decode cX7_greedy 11 = .ok (.invokestatic 88, 3) := by decide +kernel
theorem dX7_greedy_14 : decode cX7_greedy 14 = .ok (.ifCond .ne 7, 3) := by decide +kernel
theorem dX7_greedy_17 : decode cX7_greedy 17 = .ok (.ldc2_w 219, 3) := by decide +kernel
theorem dX7_greedy_20 : decode cX7_greedy 20 = .ok (.lreturn, 1) := by decide +kernel
theorem dX7_greedy_21 : decode cX7_greedy 21 = .ok (.aload_n 0, 1) := by decide +kernel
theorem dX7_greedy_22 : decode cX7_greedy 22 = .ok (.invokevirtual 261, 3) := by decide +kernel
theorem dX7_greedy_25 : decode cX7_greedy 25 = .ok (.lconst 0, 1) := by decide +kernel
theorem dX7_greedy_26 : decode cX7_greedy 26 = .ok (.lstore_n 2, 1) := by decide +kernel
theorem dX7_greedy_27 : decode cX7_greedy 27 = .ok (.lconst 0, 1) := by decide +kernel
theorem dX7_greedy_28 : decode cX7_greedy 28 = .ok (.lstore 4, 2) := by decide +kernel
theorem dX7_greedy_30 : decode cX7_greedy 30 = .ok (.lconst 0, 1) := by decide +kernel
theorem dX7_greedy_31 : decode cX7_greedy 31 = .ok (.lstore 6, 2) := by decide +kernel
theorem dX7_greedy_33 : decode cX7_greedy 33 = .ok (.iconst 0, 1) := by decide +kernel
theorem dX7_greedy_34 : decode cX7_greedy 34 = .ok (.istore 8, 2) := by decide +kernel
theorem dX7_greedy_36 : decode cX7_greedy 36 = .ok (.iload 8, 2) := by decide +kernel
theorem dX7_greedy_38 : decode cX7_greedy 38 = .ok (.aload_n 0, 1) := by decide +kernel
theorem dX7_greedy_39 : decode cX7_greedy 39 = .ok (.getfield 160, 3) := by decide +kernel
theorem dX7_greedy_42 : decode cX7_greedy 42 = .ok (.if_icmp .ge 57, 3) := by decide +kernel
theorem dX7_greedy_45 : decode cX7_greedy 45 = .ok (.lload_n 2, 1) := by decide +kernel
theorem dX7_greedy_46 : decode cX7_greedy 46 = .ok (.aload_n 0, 1) := by decide +kernel
theorem dX7_greedy_47 : decode cX7_greedy 47 = .ok (.getfield 33, 3) := by decide +kernel
theorem dX7_greedy_50 : decode cX7_greedy 50 = .ok (.iload 8, 2) := by decide +kernel
theorem dX7_greedy_52 : decode cX7_greedy 52 = .ok (.laload, 1) := by decide +kernel
theorem dX7_greedy_53 : decode cX7_greedy 53 = .ok (.ladd, 1) := by decide +kernel
theorem dX7_greedy_54 : decode cX7_greedy 54 = .ok (.aload_n 0, 1) := by decide +kernel
theorem dX7_greedy_55 : decode cX7_greedy 55 = .ok (.getfield 176, 3) := by decide +kernel
theorem dX7_greedy_58 : decode cX7_greedy 58 = .ok (.lcmp, 1) := by decide +kernel
theorem dX7_greedy_59 : decode cX7_greedy 59 = .ok (.ifCond .gt 34, 3) := by decide +kernel
theorem dX7_greedy_62 : decode cX7_greedy 62 = .ok (.lload_n 2, 1) := by decide +kernel
theorem dX7_greedy_63 : decode cX7_greedy 63 = .ok (.aload_n 0, 1) := by decide +kernel
theorem dX7_greedy_64 : decode cX7_greedy 64 = .ok (.getfield 33, 3) := by decide +kernel
theorem dX7_greedy_67 : decode cX7_greedy 67 = .ok (.iload 8, 2) := by decide +kernel
theorem dX7_greedy_69 : decode cX7_greedy 69 = .ok (.laload, 1) := by decide +kernel
theorem dX7_greedy_70 : decode cX7_greedy 70 = .ok (.ladd, 1) := by decide +kernel
theorem dX7_greedy_71 : decode cX7_greedy 71 = .ok (.lstore_n 2, 1) := by decide +kernel
theorem dX7_greedy_72 : decode cX7_greedy 72 = .ok (.lload 4, 2) := by decide +kernel
theorem dX7_greedy_74 : decode cX7_greedy 74 = .ok (.aload_n 0, 1) := by decide +kernel
theorem dX7_greedy_75 : decode cX7_greedy 75 = .ok (.getfield 37, 3) := by decide +kernel
theorem dX7_greedy_78 : decode cX7_greedy 78 = .ok (.iload 8, 2) := by decide +kernel
theorem dX7_greedy_80 : decode cX7_greedy 80 = .ok (.laload, 1) := by decide +kernel
theorem dX7_greedy_81 : decode cX7_greedy 81 = .ok (.ladd, 1) := by decide +kernel
theorem dX7_greedy_82 : decode cX7_greedy 82 = .ok (.lstore 4, 2) := by decide +kernel
theorem dX7_greedy_84 : decode cX7_greedy 84 = .ok (.lload 6, 2) := by decide +kernel
theorem dX7_greedy_86 : decode cX7_greedy 86 = .ok (.lconst 1, 1) := by decide +kernel
theorem dX7_greedy_87 : decode cX7_greedy 87 = .ok (.iload 8, 2) := by decide +kernel
theorem dX7_greedy_89 : decode cX7_greedy 89 = .ok (.lshl, 1) := by decide +kernel
theorem dX7_greedy_90 : decode cX7_greedy 90 = .ok (.lor, 1) := by decide +kernel
theorem dX7_greedy_91 : decode cX7_greedy 91 = .ok (.lstore 6, 2) := by decide +kernel
theorem dX7_greedy_93 : decode cX7_greedy 93 = .ok (.iinc 8 1, 3) := by decide +kernel
theorem dX7_greedy_96 : decode cX7_greedy 96 = .ok (.goto (-60), 3) := by decide +kernel
theorem dX7_greedy_99 : decode cX7_greedy 99 = .ok (.iload_n 1, 1) := by decide +kernel
theorem dX7_greedy_100 : decode cX7_greedy 100 = .ok (.ifCond .ne 8, 3) := by decide +kernel
theorem dX7_greedy_103 : decode cX7_greedy 103 = .ok (.lload 4, 2) := by decide +kernel
theorem dX7_greedy_105 : decode cX7_greedy 105 = .ok (.goto 14, 3) := by decide +kernel
theorem dX7_greedy_108 : decode cX7_greedy 108 = .ok (.iload_n 1, 1) := by decide +kernel
theorem dX7_greedy_109 : decode cX7_greedy 109 = .ok (.iconst 1, 1) := by decide +kernel
theorem dX7_greedy_110 : decode cX7_greedy 110 = .ok (.if_icmp .ne 7, 3) := by decide +kernel
theorem dX7_greedy_113 : decode cX7_greedy 113 = .ok (.lload_n 2, 1) := by decide +kernel
theorem dX7_greedy_114 : decode cX7_greedy 114 = .ok (.goto 5, 3) := by decide +kernel
theorem dX7_greedy_117 : decode cX7_greedy 117 = .ok (.lload 6, 2) := by decide +kernel
theorem dX7_greedy_119 : decode cX7_greedy 119 = .ok (.lreturn, 1) := by decide +kernel
set_option maxRecDepth 20000 in
theorem ggX7_swap_X7_in : GoodIn wsX7_swap wsX7_in := goodIn_r _ [13] (by decide +kernel) (by decide +kernel)
set_option maxRecDepth 20000 in
theorem gX7_swap_X7_in : GoodIn wsX7_swap (va_wsS RX7 88 yX7_in wsX7_in) := goodIn_app (goodIn_of _ (by decide +kernel)) ggX7_swap_X7_in
set_option maxRecDepth 20000 in
theorem ggX7_swap_X7_lays : GoodIn wsX7_swap wsX7_lays := goodIn_r _ [17, 18, 19, 20, 21, 22, 12, 23, 7, 24, 25, 26, 27, 28, 29, 30, 31, 32, 4, 5, 33, 34, 35, 36, 37, 3, 9, 38, 6, 8, 39, 40, 41, 42, 43, 44, 45, 46, 47, 48, 49, 50, 51, 52, 53, 54, 55, 56, 57, 58, 59, 60, 61, 62, 63, 64, 65, 66, 67, 68, 69, 70, 71, 72, 73, 74, 75, 76, 77, 78, 79, 80, 81, 82, 86, 87, 88, 89, 90, 91, 92, 93, 94, 95, 96, 97, 98, 99, 100, 101, 102, 103, 104, 105, 106, 107, 108, 109, 110, 111, 112, 113, 114, 115, 116, 117, 118, 119, 120, 121, 122, 123, 124, 125, 126] (by decide +kernel) (by decide +kernel)
set_option maxRecDepth 20000 in
theorem gX7_swap_X7_lays : GoodIn wsX7_swap (wsV RX7 261 RX7 yX7_lays wsX7_lays) := goodIn_app (goodIn_of _ (by decide +kernel)) ggX7_swap_X7_lays
set_option maxRecDepth 20000 in
theorem ggX7_swap_X7_isOn : GoodIn wsX7_swap wsX7_isOn := goodIn_r _ [85] (by decide +kernel) (by decide +kernel)
set_option maxRecDepth 20000 in
theorem gX7_swap_X7_isOn : GoodIn wsX7_swap (va_wsS RX7 288 yX7_isOn wsX7_isOn) := goodIn_app (goodIn_of _ (by decide +kernel)) ggX7_swap_X7_isOn
theorem dX7_swap_0 : decode cX7_swap 0 = .ok (.aload_n 0, 1) := by decide +kernel
theorem dX7_swap_1 : decode cX7_swap 1 = .ok (.iconst 0, 1) := by decide +kernel
theorem dX7_swap_2 : decode cX7_swap 2 = .ok (.putfield 58, 3) := by decide +kernel
theorem dX7_swap_5 : decode cX7_swap 5 = .ok (.iload_n 1, 1) := by decide +kernel
theorem dX7_swap_6 : decode cX7_swap 6 = .ok (.i2l, 1) := by decide +kernel
theorem dX7_swap_7 : decode cX7_swap 7 = .ok (.lconst 0, 1) := by decide +kernel
theorem dX7_swap_8 : decode cX7_swap 8 = .ok (.ldc2_w 150, 3) := by decide +kernel
theorem dX7_swap_11 : decode cX7_swap 11 = .ok (.invokestatic 88, 3) := by decide +kernel
theorem dX7_swap_14 : decode cX7_swap 14 = .ok (.ifCond .ne 5, 3) := by decide +kernel
theorem dX7_swap_17 : decode cX7_swap 17 = .ok (.iconst (-1), 1) := by decide +kernel
theorem dX7_swap_18 : decode cX7_swap 18 = .ok (.ireturn, 1) := by decide +kernel
theorem dX7_swap_19 : decode cX7_swap 19 = .ok (.aload_n 0, 1) := by decide +kernel
theorem dX7_swap_20 : decode cX7_swap 20 = .ok (.invokevirtual 261, 3) := by decide +kernel
theorem dX7_swap_23 : decode cX7_swap 23 = .ok (.lconst 0, 1) := by decide +kernel
theorem dX7_swap_24 : decode cX7_swap 24 = .ok (.lstore_n 2, 1) := by decide +kernel
theorem dX7_swap_25 : decode cX7_swap 25 = .ok (.iconst (-1), 1) := by decide +kernel
theorem dX7_swap_26 : decode cX7_swap 26 = .ok (.istore 4, 2) := by decide +kernel
theorem dX7_swap_28 : decode cX7_swap 28 = .ok (.iconst (-1), 1) := by decide +kernel
theorem dX7_swap_29 : decode cX7_swap 29 = .ok (.istore 5, 2) := by decide +kernel
theorem dX7_swap_31 : decode cX7_swap 31 = .ok (.iconst 0, 1) := by decide +kernel
theorem dX7_swap_32 : decode cX7_swap 32 = .ok (.istore 6, 2) := by decide +kernel
theorem dX7_swap_34 : decode cX7_swap 34 = .ok (.iload 6, 2) := by decide +kernel
theorem dX7_swap_36 : decode cX7_swap 36 = .ok (.aload_n 0, 1) := by decide +kernel
theorem dX7_swap_37 : decode cX7_swap 37 = .ok (.getfield 160, 3) := by decide +kernel
theorem dX7_swap_40 : decode cX7_swap 40 = .ok (.if_icmp .ge 145, 3) := by decide +kernel
theorem dX7_swap_43 : decode cX7_swap 43 = .ok (.iconst 0, 1) := by decide +kernel
theorem dX7_swap_44 : decode cX7_swap 44 = .ok (.istore 7, 2) := by decide +kernel
theorem dX7_swap_46 : decode cX7_swap 46 = .ok (.iload 7, 2) := by decide +kernel
theorem dX7_swap_48 : decode cX7_swap 48 = .ok (.aload_n 0, 1) := by decide +kernel
theorem dX7_swap_49 : decode cX7_swap 49 = .ok (.getfield 160, 3) := by decide +kernel
theorem dX7_swap_52 : decode cX7_swap 52 = .ok (.if_icmp .ge 127, 3) := by decide +kernel
theorem dX7_swap_55 : decode cX7_swap 55 = .ok (.aload_n 0, 1) := by decide +kernel
theorem dX7_swap_56 : decode cX7_swap 56 = .ok (.getfield 198, 3) := by decide +kernel
theorem dX7_swap_59 : decode cX7_swap 59 = .ok (.iload 6, 2) := by decide +kernel
theorem dX7_swap_61 : decode cX7_swap 61 = .ok (.invokestatic 288, 3) := by decide +kernel
theorem dX7_swap_64 : decode cX7_swap 64 = .ok (.ifCond .eq 47, 3) := by decide +kernel
theorem dX7_swap_67 : decode cX7_swap 67 = .ok (.aload_n 0, 1) := by decide +kernel
theorem dX7_swap_68 : decode cX7_swap 68 = .ok (.getfield 198, 3) := by decide +kernel
theorem dX7_swap_71 : decode cX7_swap 71 = .ok (.iload 7, 2) := by decide +kernel
theorem dX7_swap_73 : decode cX7_swap 73 = .ok (.invokestatic 288, 3) := by decide +kernel
theorem dX7_swap_76 : decode cX7_swap 76 = .ok (.ifCond .ne 35, 3) := by decide +kernel
theorem dX7_swap_79 : decode cX7_swap 79 = .ok (.aload_n 0, 1) := by decide +kernel
theorem dX7_swap_80 : decode cX7_swap 80 = .ok (.getfield 201, 3) := by decide +kernel
theorem dX7_swap_83 : decode cX7_swap 83 = .ok (.aload_n 0, 1) := by decide +kernel
theorem dX7_swap_84 : decode cX7_swap 84 = .ok (.getfield 33, 3) := by decide +kernel
theorem dX7_swap_87 : decode cX7_swap 87 = .ok (.iload 6, 2) := by decide +kernel
theorem dX7_swap_89 : decode cX7_swap 89 = .ok (.laload, 1) := by decide +kernel
theorem dX7_swap_90 : decode cX7_swap 90 = .ok (.lsub, 1) := by decide +kernel
theorem dX7_swap_91 : decode cX7_swap 91 = .ok (.aload_n 0, 1) := by decide +kernel
theorem dX7_swap_92 : decode cX7_swap 92 = .ok (.getfield 33, 3) := by decide +kernel
theorem dX7_swap_95 : decode cX7_swap 95 = .ok (.iload 7, 2) := by decide +kernel
theorem dX7_swap_97 : decode cX7_swap 97 = .ok (.laload, 1) := by decide +kernel
theorem dX7_swap_98 : decode cX7_swap 98 = .ok (.ladd, 1) := by decide +kernel
theorem dX7_swap_99 : decode cX7_swap 99 = .ok (.aload_n 0, 1) := by decide +kernel
theorem dX7_swap_100 : decode cX7_swap 100 = .ok (.getfield 176, 3) := by decide +kernel
theorem dX7_swap_103 : decode cX7_swap 103 = .ok (.lcmp, 1) := by decide +kernel
theorem dX7_swap_104 : decode cX7_swap 104 = .ok (.ifCond .gt 7, 3) := by decide +kernel
theorem dX7_swap_107 : decode cX7_swap 107 = .ok (.iconst 1, 1) := by decide +kernel
theorem dX7_swap_108 : decode cX7_swap 108 = .ok (.goto 4, 3) := by decide +kernel
theorem dX7_swap_111 : decode cX7_swap 111 = .ok (.iconst 0, 1) := by decide +kernel
theorem dX7_swap_112 : decode cX7_swap 112 = .ok (.istore 8, 2) := by decide +kernel
theorem dX7_swap_114 : decode cX7_swap 114 = .ok (.iload 8, 2) := by decide +kernel
theorem dX7_swap_116 : decode cX7_swap 116 = .ok (.ifCond .eq 57, 3) := by decide +kernel
theorem dX7_swap_119 : decode cX7_swap 119 = .ok (.aload_n 0, 1) := by decide +kernel
theorem dX7_swap_120 : decode cX7_swap 120 = .ok (.getfield 37, 3) := by decide +kernel
theorem dX7_swap_123 : decode cX7_swap 123 = .ok (.iload 7, 2) := by decide +kernel
theorem dX7_swap_125 : decode cX7_swap 125 = .ok (.laload, 1) := by decide +kernel
theorem dX7_swap_126 : decode cX7_swap 126 = .ok (.aload_n 0, 1) := by decide +kernel
theorem dX7_swap_127 : decode cX7_swap 127 = .ok (.getfield 37, 3) := by decide +kernel
theorem dX7_swap_130 : decode cX7_swap 130 = .ok (.iload 6, 2) := by decide +kernel
theorem dX7_swap_132 : decode cX7_swap 132 = .ok (.laload, 1) := by decide +kernel
theorem dX7_swap_133 : decode cX7_swap 133 = .ok (.lsub, 1) := by decide +kernel
theorem dX7_swap_134 : decode cX7_swap 134 = .ok (.lload_n 2, 1) := by decide +kernel
theorem dX7_swap_135 : decode cX7_swap 135 = .ok (.lcmp, 1) := by decide +kernel
theorem dX7_swap_136 : decode cX7_swap 136 = .ok (.ifCond .le 37, 3) := by decide +kernel
theorem dX7_swap_139 : decode cX7_swap 139 = .ok (.aload_n 0, 1) := by decide +kernel
theorem dX7_swap_140 : decode cX7_swap 140 = .ok (.getfield 37, 3) := by decide +kernel
theorem dX7_swap_143 : decode cX7_swap 143 = .ok (.iload 7, 2) := by decide +kernel
theorem dX7_swap_145 : decode cX7_swap 145 = .ok (.laload, 1) := by decide +kernel
theorem dX7_swap_146 : decode cX7_swap 146 = .ok (.aload_n 0, 1) := by decide +kernel
theorem dX7_swap_147 : decode cX7_swap 147 = .ok (.getfield 37, 3) := by decide +kernel
theorem dX7_swap_150 : decode cX7_swap 150 = .ok (.iload 6, 2) := by decide +kernel
theorem dX7_swap_152 : decode cX7_swap 152 = .ok (.laload, 1) := by decide +kernel
theorem dX7_swap_153 : decode cX7_swap 153 = .ok (.lsub, 1) := by decide +kernel
theorem dX7_swap_154 : decode cX7_swap 154 = .ok (.lstore_n 2, 1) := by decide +kernel
theorem dX7_swap_155 : decode cX7_swap 155 = .ok (.aload_n 0, 1) := by decide +kernel
theorem dX7_swap_156 : decode cX7_swap 156 = .ok (.getfield 27, 3) := by decide +kernel
theorem dX7_swap_159 : decode cX7_swap 159 = .ok (.iload 6, 2) := by decide +kernel
theorem dX7_swap_161 : decode cX7_swap 161 = .ok (.iaload, 1) := by decide +kernel
theorem dX7_swap_162 : decode cX7_swap 162 = .ok (.istore 4, 2) := by decide +kernel
theorem dX7_swap_164 : decode cX7_swap 164 = .ok (.aload_n 0, 1) := by decide +kernel
theorem dX7_swap_165 : decode cX7_swap 165 = .ok (.getfield 27, 3) := by decide +kernel
theorem dX7_swap_168 : decode cX7_swap 168 = .ok (.iload 7, 2) := by decide +kernel
theorem dX7_swap_170 : decode cX7_swap 170 = .ok (.iaload, 1) := by decide +kernel
theorem dX7_swap_171 : decode cX7_swap 171 = .ok (.istore 5, 2) := by decide +kernel
theorem dX7_swap_173 : decode cX7_swap 173 = .ok (.iinc 7 1, 3) := by decide +kernel
theorem dX7_swap_176 : decode cX7_swap 176 = .ok (.goto (-130), 3) := by decide +kernel
theorem dX7_swap_179 : decode cX7_swap 179 = .ok (.iinc 6 1, 3) := by decide +kernel
theorem dX7_swap_182 : decode cX7_swap 182 = .ok (.goto (-148), 3) := by decide +kernel
theorem dX7_swap_185 : decode cX7_swap 185 = .ok (.iload_n 1, 1) := by decide +kernel
theorem dX7_swap_186 : decode cX7_swap 186 = .ok (.ifCond .ne 8, 3) := by decide +kernel
theorem dX7_swap_189 : decode cX7_swap 189 = .ok (.lload_n 2, 1) := by decide +kernel
theorem dX7_swap_190 : decode cX7_swap 190 = .ok (.l2i, 1) := by decide +kernel
theorem dX7_swap_191 : decode cX7_swap 191 = .ok (.goto 15, 3) := by decide +kernel
theorem dX7_swap_194 : decode cX7_swap 194 = .ok (.iload_n 1, 1) := by decide +kernel
theorem dX7_swap_195 : decode cX7_swap 195 = .ok (.iconst 1, 1) := by decide +kernel
theorem dX7_swap_196 : decode cX7_swap 196 = .ok (.if_icmp .ne 8, 3) := by decide +kernel
theorem dX7_swap_199 : decode cX7_swap 199 = .ok (.iload 4, 2) := by decide +kernel
theorem dX7_swap_201 : decode cX7_swap 201 = .ok (.goto 5, 3) := by decide +kernel
theorem dX7_swap_204 : decode cX7_swap 204 = .ok (.iload 5, 2) := by decide +kernel
theorem dX7_swap_206 : decode cX7_swap 206 = .ok (.ireturn, 1) := by decide +kernel
set_option maxRecDepth 20000 in
theorem ggX7_laysFront_X7_begins : GoodIn wsX7_laysFront wsX7_begins := goodIn_r _ [14, 15, 16, 17, 18, 19, 4, 1, 2, 20, 3, 21, 22, 23, 24, 25, 26, 27, 13, 28, 5, 9, 29, 30, 6, 7, 31, 32, 33, 34, 35, 36, 37, 38, 58, 59, 60, 61, 62, 63, 64, 65, 66, 67, 68, 69, 70, 71, 72, 73, 74, 75, 76, 77, 78, 79, 80, 81, 82, 83, 84, 85, 86, 87, 88, 89, 90, 91, 92, 93, 94, 95, 96, 97, 98] (by decide +kernel) (by decide +kernel)
set_option maxRecDepth 20000 in
theorem gX7_laysFront_X7_begins : GoodIn wsX7_laysFront (wsV RX7 238 RX7 yX7_begins wsX7_begins) := goodIn_app (goodIn_of _ (by decide +kernel)) ggX7_laysFront_X7_begins
set_option maxRecDepth 20000 in
theorem ggX7_laysFront_X7_doubles : GoodIn wsX7_laysFront wsX7_doubles := goodIn_r _ [42, 8, 4, 2, 1, 3, 43, 44, 45, 13, 46, 47, 48, 49, 50, 51, 52, 53, 58, 59, 60, 61, 62, 63, 64, 65, 66, 67, 68, 69, 70, 71, 72, 73, 74, 75, 76, 77, 78, 79, 80, 81, 82, 83, 84, 85, 86, 87, 88, 89, 90, 91, 92, 93, 94, 95, 96, 97, 98] (by decide +kernel) (by decide +kernel)
set_option maxRecDepth 20000 in
theorem gX7_laysFront_X7_doubles : GoodIn wsX7_laysFront (wsV RX7 228 RX7 yX7_doubles wsX7_doubles) := goodIn_app (goodIn_of _ (by decide +kernel)) ggX7_laysFront_X7_doubles
set_option maxRecDepth 20000 in
theorem ggX7_laysFront_X7_takesNexts : GoodIn wsX7_laysFront wsX7_takesNexts := goodIn_r _ [57, 8, 4, 1, 49, 2, 48, 3, 47, 58, 59, 60, 61, 62, 63, 64, 65, 66, 67, 68, 69, 70, 71, 72, 73, 74, 75, 76, 77, 78, 79, 80, 81, 82, 83, 84, 85, 86, 87, 88, 89, 90, 91, 92, 93, 94, 95, 96, 97, 98] (by decide +kernel) (by decide +kernel)
set_option maxRecDepth 20000 in
theorem gX7_laysFront_X7_takesNexts : GoodIn wsX7_laysFront (wsV RX7 231 RX7 yX7_takesNexts wsX7_takesNexts) := goodIn_app (goodIn_of _ (by decide +kernel)) ggX7_laysFront_X7_takesNexts
theorem dX7_laysFront_0 : decode cX7_laysFront 0 = .ok (.aload_n 0, 1) := by decide +kernel
theorem dX7_laysFront_1 : decode cX7_laysFront 1 = .ok (.iconst (-1), 1) := by decide +kernel
theorem dX7_laysFront_2 : decode cX7_laysFront 2 = .ok (.lconst 0, 1) := by decide +kernel
theorem dX7_laysFront_3 : decode cX7_laysFront 3 = .ok (.invokevirtual 238, 3) := by decide +kernel
theorem dX7_laysFront_6 : decode cX7_laysFront 6 = .ok (.aload_n 0, 1) := by decide +kernel
theorem dX7_laysFront_7 : decode cX7_laysFront 7 = .ok (.getfield 40, 3) := by decide +kernel
theorem dX7_laysFront_10 : decode cX7_laysFront 10 = .ok (.iconst 0, 1) := by decide +kernel
theorem dX7_laysFront_11 : decode cX7_laysFront 11 = .ok (.lconst 0, 1) := by decide +kernel
theorem dX7_laysFront_12 : decode cX7_laysFront 12 = .ok (.lastore, 1) := by decide +kernel
theorem dX7_laysFront_13 : decode cX7_laysFront 13 = .ok (.aload_n 0, 1) := by decide +kernel
theorem dX7_laysFront_14 : decode cX7_laysFront 14 = .ok (.getfield 43, 3) := by decide +kernel
theorem dX7_laysFront_17 : decode cX7_laysFront 17 = .ok (.iconst 0, 1) := by decide +kernel
theorem dX7_laysFront_18 : decode cX7_laysFront 18 = .ok (.lconst 0, 1) := by decide +kernel
theorem dX7_laysFront_19 : decode cX7_laysFront 19 = .ok (.lastore, 1) := by decide +kernel
theorem dX7_laysFront_20 : decode cX7_laysFront 20 = .ok (.aload_n 0, 1) := by decide +kernel
theorem dX7_laysFront_21 : decode cX7_laysFront 21 = .ok (.getfield 46, 3) := by decide +kernel
theorem dX7_laysFront_24 : decode cX7_laysFront 24 = .ok (.iconst 0, 1) := by decide +kernel
theorem dX7_laysFront_25 : decode cX7_laysFront 25 = .ok (.lconst 0, 1) := by decide +kernel
theorem dX7_laysFront_26 : decode cX7_laysFront 26 = .ok (.lastore, 1) := by decide +kernel
theorem dX7_laysFront_27 : decode cX7_laysFront 27 = .ok (.aload_n 0, 1) := by decide +kernel
theorem dX7_laysFront_28 : decode cX7_laysFront 28 = .ok (.iconst 1, 1) := by decide +kernel
theorem dX7_laysFront_29 : decode cX7_laysFront 29 = .ok (.putfield 195, 3) := by decide +kernel
theorem dX7_laysFront_32 : decode cX7_laysFront 32 = .ok (.iconst 0, 1) := by decide +kernel
theorem dX7_laysFront_33 : decode cX7_laysFront 33 = .ok (.istore_n 1, 1) := by decide +kernel
theorem dX7_laysFront_34 : decode cX7_laysFront 34 = .ok (.iload_n 1, 1) := by decide +kernel
theorem dX7_laysFront_35 : decode cX7_laysFront 35 = .ok (.aload_n 0, 1) := by decide +kernel
theorem dX7_laysFront_36 : decode cX7_laysFront 36 = .ok (.getfield 160, 3) := by decide +kernel
theorem dX7_laysFront_39 : decode cX7_laysFront 39 = .ok (.if_icmp .ge 47, 3) := by decide +kernel
theorem dX7_laysFront_42 : decode cX7_laysFront 42 = .ok (.aload_n 0, 1) := by decide +kernel
theorem dX7_laysFront_43 : decode cX7_laysFront 43 = .ok (.lconst 1, 1) := by decide +kernel
theorem dX7_laysFront_44 : decode cX7_laysFront 44 = .ok (.iload_n 1, 1) := by decide +kernel
theorem dX7_laysFront_45 : decode cX7_laysFront 45 = .ok (.lshl, 1) := by decide +kernel
theorem dX7_laysFront_46 : decode cX7_laysFront 46 = .ok (.aload_n 0, 1) := by decide +kernel
theorem dX7_laysFront_47 : decode cX7_laysFront 47 = .ok (.getfield 33, 3) := by decide +kernel
theorem dX7_laysFront_50 : decode cX7_laysFront 50 = .ok (.iload_n 1, 1) := by decide +kernel
theorem dX7_laysFront_51 : decode cX7_laysFront 51 = .ok (.laload, 1) := by decide +kernel
theorem dX7_laysFront_52 : decode cX7_laysFront 52 = .ok (.aload_n 0, 1) := by decide +kernel
theorem dX7_laysFront_53 : decode cX7_laysFront 53 = .ok (.getfield 37, 3) := by decide +kernel
theorem dX7_laysFront_56 : decode cX7_laysFront 56 = .ok (.iload_n 1, 1) := by decide +kernel
theorem dX7_laysFront_57 : decode cX7_laysFront 57 = .ok (.laload, 1) := by decide +kernel
theorem dX7_laysFront_58 : decode cX7_laysFront 58 = .ok (.invokevirtual 228, 3) := by decide +kernel
theorem dX7_laysFront_61 : decode cX7_laysFront 61 = .ok (.aload_n 0, 1) := by decide +kernel
theorem dX7_laysFront_62 : decode cX7_laysFront 62 = .ok (.getfield 209, 3) := by decide +kernel
theorem dX7_laysFront_65 : decode cX7_laysFront 65 = .ok (.aload_n 0, 1) := by decide +kernel
theorem dX7_laysFront_66 : decode cX7_laysFront 66 = .ok (.getfield 7, 3) := by decide +kernel
theorem dX7_laysFront_69 : decode cX7_laysFront 69 = .ok (.iconst 2, 1) := by decide +kernel
theorem dX7_laysFront_70 : decode cX7_laysFront 70 = .ok (.iaload, 1) := by decide +kernel
theorem dX7_laysFront_71 : decode cX7_laysFront 71 = .ok (.if_icmp .le 5, 3) := by decide +kernel
theorem dX7_laysFront_74 : decode cX7_laysFront 74 = .ok (.iconst 0, 1) := by decide +kernel
theorem dX7_laysFront_75 : decode cX7_laysFront 75 = .ok (.ireturn, 1) := by decide +kernel
theorem dX7_laysFront_76 : decode cX7_laysFront 76 = .ok (.aload_n 0, 1) := by decide +kernel
theorem dX7_laysFront_77 : decode cX7_laysFront 77 = .ok (.invokevirtual 231, 3) := by decide +kernel
theorem dX7_laysFront_80 : decode cX7_laysFront 80 = .ok (.iinc 1 1, 3) := by decide +kernel
theorem dX7_laysFront_83 : decode cX7_laysFront 83 = .ok (.goto (-49), 3) := by decide +kernel
theorem dX7_laysFront_86 : decode cX7_laysFront 86 = .ok (.iconst 1, 1) := by decide +kernel
theorem dX7_laysFront_87 : decode cX7_laysFront 87 = .ok (.ireturn, 1) := by decide +kernel
theorem dX7_isCorner_0 : decode cX7_isCorner 0 = .ok (.iconst 0, 1) := by decide +kernel
theorem dX7_isCorner_1 : decode cX7_isCorner 1 = .ok (.istore_n 2, 1) := by decide +kernel
theorem dX7_isCorner_2 : decode cX7_isCorner 2 = .ok (.iload_n 2, 1) := by decide +kernel
theorem dX7_isCorner_3 : decode cX7_isCorner 3 = .ok (.iload_n 1, 1) := by decide +kernel
theorem dX7_isCorner_4 : decode cX7_isCorner 4 = .ok (.if_icmp .ge 95, 3) := by decide +kernel
theorem dX7_isCorner_7 : decode cX7_isCorner 7 = .ok (.iload_n 1, 1) := by decide +kernel
theorem dX7_isCorner_8 : decode cX7_isCorner 8 = .ok (.iconst 1, 1) := by decide +kernel
theorem dX7_isCorner_9 : decode cX7_isCorner 9 = .ok (.iadd, 1) := by decide +kernel
theorem dX7_isCorner_10 : decode cX7_isCorner 10 = .ok (.istore_n 3, 1) := by decide +kernel
theorem dX7_isCorner_11 : decode cX7_isCorner 11 = .ok (.iload_n 3, 1) := by decide +kernel
theorem dX7_isCorner_12 : decode cX7_isCorner 12 = .ok (.aload_n 0, 1) := by decide +kernel
theorem dX7_isCorner_13 : decode cX7_isCorner 13 = .ok (.getfield 195, 3) := by decide +kernel
theorem dX7_isCorner_16 : decode cX7_isCorner 16 = .ok (.if_icmp .ge 77, 3) := by decide +kernel
theorem dX7_isCorner_19 : decode cX7_isCorner 19 = .ok (.aload_n 0, 1) := by decide +kernel
theorem dX7_isCorner_20 : decode cX7_isCorner 20 = .ok (.getfield 46, 3) := by decide +kernel
theorem dX7_isCorner_23 : decode cX7_isCorner 23 = .ok (.iload_n 1, 1) := by decide +kernel
theorem dX7_isCorner_24 : decode cX7_isCorner 24 = .ok (.laload, 1) := by decide +kernel
theorem dX7_isCorner_25 : decode cX7_isCorner 25 = .ok (.aload_n 0, 1) := by decide +kernel
theorem dX7_isCorner_26 : decode cX7_isCorner 26 = .ok (.getfield 46, 3) := by decide +kernel
theorem dX7_isCorner_29 : decode cX7_isCorner 29 = .ok (.iload_n 2, 1) := by decide +kernel
theorem dX7_isCorner_30 : decode cX7_isCorner 30 = .ok (.laload, 1) := by decide +kernel
theorem dX7_isCorner_31 : decode cX7_isCorner 31 = .ok (.lsub, 1) := by decide +kernel
theorem dX7_isCorner_32 : decode cX7_isCorner 32 = .ok (.aload_n 0, 1) := by decide +kernel
theorem dX7_isCorner_33 : decode cX7_isCorner 33 = .ok (.getfield 43, 3) := by decide +kernel
theorem dX7_isCorner_36 : decode cX7_isCorner 36 = .ok (.iload_n 3, 1) := by decide +kernel
theorem dX7_isCorner_37 : decode cX7_isCorner 37 = .ok (.laload, 1) := by decide +kernel
theorem dX7_isCorner_38 : decode cX7_isCorner 38 = .ok (.aload_n 0, 1) := by decide +kernel
theorem dX7_isCorner_39 : decode cX7_isCorner 39 = .ok (.getfield 43, 3) := by decide +kernel
theorem dX7_isCorner_42 : decode cX7_isCorner 42 = .ok (.iload_n 2, 1) := by decide +kernel
theorem dX7_isCorner_43 : decode cX7_isCorner 43 = .ok (.laload, 1) := by decide +kernel
theorem dX7_isCorner_44 : decode cX7_isCorner 44 = .ok (.lsub, 1) := by decide +kernel
theorem dX7_isCorner_45 : decode cX7_isCorner 45 = .ok (.lmul, 1) := by decide +kernel
theorem dX7_isCorner_46 : decode cX7_isCorner 46 = .ok (.lstore 4, 2) := by decide +kernel
theorem dX7_isCorner_48 : decode cX7_isCorner 48 = .ok (.aload_n 0, 1) := by decide +kernel
theorem dX7_isCorner_49 : decode cX7_isCorner 49 = .ok (.getfield 46, 3) := by decide +kernel
theorem dX7_isCorner_52 : decode cX7_isCorner 52 = .ok (.iload_n 3, 1) := by decide +kernel
theorem dX7_isCorner_53 : decode cX7_isCorner 53 = .ok (.laload, 1) := by decide +kernel
theorem dX7_isCorner_54 : decode cX7_isCorner 54 = .ok (.aload_n 0, 1) := by decide +kernel
theorem dX7_isCorner_55 : decode cX7_isCorner 55 = .ok (.getfield 46, 3) := by decide +kernel
theorem dX7_isCorner_58 : decode cX7_isCorner 58 = .ok (.iload_n 2, 1) := by decide +kernel
theorem dX7_isCorner_59 : decode cX7_isCorner 59 = .ok (.laload, 1) := by decide +kernel
theorem dX7_isCorner_60 : decode cX7_isCorner 60 = .ok (.lsub, 1) := by decide +kernel
theorem dX7_isCorner_61 : decode cX7_isCorner 61 = .ok (.aload_n 0, 1) := by decide +kernel
theorem dX7_isCorner_62 : decode cX7_isCorner 62 = .ok (.getfield 43, 3) := by decide +kernel
theorem dX7_isCorner_65 : decode cX7_isCorner 65 = .ok (.iload_n 1, 1) := by decide +kernel
theorem dX7_isCorner_66 : decode cX7_isCorner 66 = .ok (.laload, 1) := by decide +kernel
theorem dX7_isCorner_67 : decode cX7_isCorner 67 = .ok (.aload_n 0, 1) := by decide +kernel
theorem dX7_isCorner_68 : decode cX7_isCorner 68 = .ok (.getfield 43, 3) := by decide +kernel
theorem dX7_isCorner_71 : decode cX7_isCorner 71 = .ok (.iload_n 2, 1) := by decide +kernel
theorem dX7_isCorner_72 : decode cX7_isCorner 72 = .ok (.laload, 1) := by decide +kernel
theorem dX7_isCorner_73 : decode cX7_isCorner 73 = .ok (.lsub, 1) := by decide +kernel
theorem dX7_isCorner_74 : decode cX7_isCorner 74 = .ok (.lmul, 1) := by decide +kernel
theorem dX7_isCorner_75 : decode cX7_isCorner 75 = .ok (.lstore 6, 2) := by decide +kernel
theorem dX7_isCorner_77 : decode cX7_isCorner 77 = .ok (.lload 4, 2) := by decide +kernel
theorem dX7_isCorner_79 : decode cX7_isCorner 79 = .ok (.lload 6, 2) := by decide +kernel
theorem dX7_isCorner_81 : decode cX7_isCorner 81 = .ok (.lcmp, 1) := by decide +kernel
theorem dX7_isCorner_82 : decode cX7_isCorner 82 = .ok (.ifCond .gt 5, 3) := by decide +kernel
theorem dX7_isCorner_85 : decode cX7_isCorner 85 = .ok (.iconst 0, 1) := by decide +kernel
theorem dX7_isCorner_86 : decode cX7_isCorner 86 = .ok (.ireturn, 1) := by decide +kernel
theorem dX7_isCorner_87 : decode cX7_isCorner 87 = .ok (.iinc 3 1, 3) := by decide +kernel
theorem dX7_isCorner_90 : decode cX7_isCorner 90 = .ok (.goto (-79), 3) := by decide +kernel
theorem dX7_isCorner_93 : decode cX7_isCorner 93 = .ok (.iinc 2 1, 3) := by decide +kernel
theorem dX7_isCorner_96 : decode cX7_isCorner 96 = .ok (.goto (-94), 3) := by decide +kernel
theorem dX7_isCorner_99 : decode cX7_isCorner 99 = .ok (.iconst 1, 1) := by decide +kernel
theorem dX7_isCorner_100 : decode cX7_isCorner 100 = .ok (.ireturn, 1) := by decide +kernel
set_option maxRecDepth 20000 in
theorem ggX7_front_X7_laysFront : GoodIn wsX7_front wsX7_laysFront := goodIn_r _ [13, 8, 6, 7, 3, 14, 15, 16, 17, 18, 19, 20, 21, 12, 22, 23, 24, 25, 26, 27, 28, 29, 30, 31, 32, 33, 34, 35, 36, 37, 38, 39, 40, 41, 42, 43, 44, 45, 46, 47, 48, 49, 50, 51, 52, 53, 54, 55, 56, 57, 58, 59, 60, 61, 62, 63, 64, 65, 73, 74, 75, 76, 77, 78, 79, 80, 81, 82, 83, 84, 85, 86, 87, 88, 89, 90, 91, 92, 93, 94, 95, 96, 97, 98, 99, 100, 101, 102, 103, 104, 105, 106, 107, 108, 109, 110, 111, 112, 113] (by decide +kernel) (by decide +kernel)
set_option maxRecDepth 20000 in
theorem gX7_front_X7_laysFront : GoodIn wsX7_front (wsV RX7 312 RX7 yX7_laysFront wsX7_laysFront) := goodIn_app (goodIn_of _ (by decide +kernel)) ggX7_front_X7_laysFront
set_option maxRecDepth 20000 in
theorem ggX7_front_X7_in : GoodIn wsX7_front wsX7_in := goodIn_r _ [68] (by decide +kernel) (by decide +kernel)
set_option maxRecDepth 20000 in
theorem gX7_front_X7_in : GoodIn wsX7_front (va_wsS RX7 88 yX7_in wsX7_in) := goodIn_app (goodIn_of _ (by decide +kernel)) ggX7_front_X7_in
set_option maxRecDepth 20000 in
theorem ggX7_front_X7_isCorner : GoodIn wsX7_front wsX7_isCorner := goodIn_r _ [72, 3, 7, 6, 73, 74, 75, 76, 77, 78, 79, 80, 81, 82, 83, 84, 85, 86, 87, 88, 89, 90, 91, 92, 93, 94, 95, 96, 97, 98, 99, 100, 101, 102, 103, 104, 105, 106, 107, 108, 109, 110, 111, 112, 113] (by decide +kernel) (by decide +kernel)
set_option maxRecDepth 20000 in
theorem gX7_front_X7_isCorner : GoodIn wsX7_front (wsV RX7 319 RX7 yX7_isCorner wsX7_isCorner) := goodIn_app (goodIn_of _ (by decide +kernel)) ggX7_front_X7_isCorner
theorem dX7_front_0 : decode cX7_front 0 = .ok (.aload_n 0, 1) := by decide +kernel
theorem dX7_front_1 : decode cX7_front 1 = .ok (.iconst 0, 1) := by decide +kernel
theorem dX7_front_2 : decode cX7_front 2 = .ok (.putfield 58, 3) := by decide +kernel
theorem dX7_front_5 : decode cX7_front 5 = .ok (.aload_n 0, 1) := by decide +kernel
theorem dX7_front_6 : decode cX7_front 6 = .ok (.invokevirtual 312, 3) := by decide +kernel
theorem dX7_front_9 : decode cX7_front 9 = .ok (.ifCond .ne 7, 3) := by decide +kernel
theorem dX7_front_12 : decode cX7_front 12 = .ok (.ldc2_w 315, 3) := by decide +kernel
theorem dX7_front_15 : decode cX7_front 15 = .ok (.lreturn, 1) := by decide +kernel
theorem dX7_front_16 : decode cX7_front 16 = .ok (.iload_n 1, 1) := by decide +kernel
theorem dX7_front_17 : decode cX7_front 17 = .ok (.iconst (-1), 1) := by decide +kernel
theorem dX7_front_18 : decode cX7_front 18 = .ok (.if_icmp .ne 19, 3) := by decide +kernel
theorem dX7_front_21 : decode cX7_front 21 = .ok (.iload_n 2, 1) := by decide +kernel
theorem dX7_front_22 : decode cX7_front 22 = .ok (.ifCond .ne 11, 3) := by decide +kernel
theorem dX7_front_25 : decode cX7_front 25 = .ok (.aload_n 0, 1) := by decide +kernel
theorem dX7_front_26 : decode cX7_front 26 = .ok (.getfield 195, 3) := by decide +kernel
theorem dX7_front_29 : decode cX7_front 29 = .ok (.i2l, 1) := by decide +kernel
theorem dX7_front_30 : decode cX7_front 30 = .ok (.goto 6, 3) := by decide +kernel
theorem dX7_front_33 : decode cX7_front 33 = .ok (.ldc2_w 219, 3) := by decide +kernel
theorem dX7_front_36 : decode cX7_front 36 = .ok (.lreturn, 1) := by decide +kernel
theorem dX7_front_37 : decode cX7_front 37 = .ok (.iload_n 1, 1) := by decide +kernel
theorem dX7_front_38 : decode cX7_front 38 = .ok (.i2l, 1) := by decide +kernel
theorem dX7_front_39 : decode cX7_front 39 = .ok (.lconst 0, 1) := by decide +kernel
theorem dX7_front_40 : decode cX7_front 40 = .ok (.aload_n 0, 1) := by decide +kernel
theorem dX7_front_41 : decode cX7_front 41 = .ok (.getfield 195, 3) := by decide +kernel
theorem dX7_front_44 : decode cX7_front 44 = .ok (.iconst 1, 1) := by decide +kernel
theorem dX7_front_45 : decode cX7_front 45 = .ok (.isub, 1) := by decide +kernel
theorem dX7_front_46 : decode cX7_front 46 = .ok (.i2l, 1) := by decide +kernel
theorem dX7_front_47 : decode cX7_front 47 = .ok (.invokestatic 88, 3) := by decide +kernel
theorem dX7_front_50 : decode cX7_front 50 = .ok (.ifCond .eq 15, 3) := by decide +kernel
theorem dX7_front_53 : decode cX7_front 53 = .ok (.iload_n 2, 1) := by decide +kernel
theorem dX7_front_54 : decode cX7_front 54 = .ok (.i2l, 1) := by decide +kernel
theorem dX7_front_55 : decode cX7_front 55 = .ok (.lconst 0, 1) := by decide +kernel
theorem dX7_front_56 : decode cX7_front 56 = .ok (.ldc2_w 317, 3) := by decide +kernel
theorem dX7_front_59 : decode cX7_front 59 = .ok (.invokestatic 88, 3) := by decide +kernel
theorem dX7_front_62 : decode cX7_front 62 = .ok (.ifCond .ne 7, 3) := by decide +kernel
theorem dX7_front_65 : decode cX7_front 65 = .ok (.ldc2_w 219, 3) := by decide +kernel
theorem dX7_front_68 : decode cX7_front 68 = .ok (.lreturn, 1) := by decide +kernel
theorem dX7_front_69 : decode cX7_front 69 = .ok (.iload_n 2, 1) := by decide +kernel
theorem dX7_front_70 : decode cX7_front 70 = .ok (.ifCond .ne 12, 3) := by decide +kernel
theorem dX7_front_73 : decode cX7_front 73 = .ok (.aload_n 0, 1) := by decide +kernel
theorem dX7_front_74 : decode cX7_front 74 = .ok (.getfield 43, 3) := by decide +kernel
theorem dX7_front_77 : decode cX7_front 77 = .ok (.iload_n 1, 1) := by decide +kernel
theorem dX7_front_78 : decode cX7_front 78 = .ok (.laload, 1) := by decide +kernel
theorem dX7_front_79 : decode cX7_front 79 = .ok (.goto 44, 3) := by decide +kernel
theorem dX7_front_82 : decode cX7_front 82 = .ok (.iload_n 2, 1) := by decide +kernel
theorem dX7_front_83 : decode cX7_front 83 = .ok (.iconst 1, 1) := by decide +kernel
theorem dX7_front_84 : decode cX7_front 84 = .ok (.if_icmp .ne 12, 3) := by decide +kernel
theorem dX7_front_87 : decode cX7_front 87 = .ok (.aload_n 0, 1) := by decide +kernel
theorem dX7_front_88 : decode cX7_front 88 = .ok (.getfield 46, 3) := by decide +kernel
theorem dX7_front_91 : decode cX7_front 91 = .ok (.iload_n 1, 1) := by decide +kernel
theorem dX7_front_92 : decode cX7_front 92 = .ok (.laload, 1) := by decide +kernel
theorem dX7_front_93 : decode cX7_front 93 = .ok (.goto 30, 3) := by decide +kernel
theorem dX7_front_96 : decode cX7_front 96 = .ok (.iload_n 2, 1) := by decide +kernel
theorem dX7_front_97 : decode cX7_front 97 = .ok (.iconst 2, 1) := by decide +kernel
theorem dX7_front_98 : decode cX7_front 98 = .ok (.if_icmp .ne 12, 3) := by decide +kernel
theorem dX7_front_101 : decode cX7_front 101 = .ok (.aload_n 0, 1) := by decide +kernel
theorem dX7_front_102 : decode cX7_front 102 = .ok (.getfield 40, 3) := by decide +kernel
theorem dX7_front_105 : decode cX7_front 105 = .ok (.iload_n 1, 1) := by decide +kernel
theorem dX7_front_106 : decode cX7_front 106 = .ok (.laload, 1) := by decide +kernel
theorem dX7_front_107 : decode cX7_front 107 = .ok (.goto 16, 3) := by decide +kernel
theorem dX7_front_110 : decode cX7_front 110 = .ok (.aload_n 0, 1) := by decide +kernel
theorem dX7_front_111 : decode cX7_front 111 = .ok (.iload_n 1, 1) := by decide +kernel
theorem dX7_front_112 : decode cX7_front 112 = .ok (.invokevirtual 319, 3) := by decide +kernel
theorem dX7_front_115 : decode cX7_front 115 = .ok (.ifCond .eq 7, 3) := by decide +kernel
theorem dX7_front_118 : decode cX7_front 118 = .ok (.lconst 1, 1) := by decide +kernel
theorem dX7_front_119 : decode cX7_front 119 = .ok (.goto 4, 3) := by decide +kernel
theorem dX7_front_122 : decode cX7_front 122 = .ok (.lconst 0, 1) := by decide +kernel
theorem dX7_front_123 : decode cX7_front 123 = .ok (.lreturn, 1) := by decide +kernel
set_option maxRecDepth 20000 in
theorem ggX7_optimum_X7_begins : GoodIn wsX7_optimum wsX7_begins := goodIn_r _ [7, 8, 9, 10, 11, 12, 13, 14, 15, 16, 17, 18, 19, 20, 1, 21, 22, 23, 6, 24, 25, 26, 27, 28, 29, 30, 31, 32, 33, 34, 35, 36, 37, 38, 82, 83, 84, 85, 86, 87, 88, 89, 90, 91, 92, 93, 94, 95, 96, 97, 98, 99, 100, 101, 102, 103, 104, 105, 106, 107, 108, 109, 110, 111, 112, 113, 114, 115, 116, 117, 118, 119, 120, 121, 122] (by decide +kernel) (by decide +kernel)
set_option maxRecDepth 20000 in
theorem gX7_optimum_X7_begins : GoodIn wsX7_optimum (wsV RX7 238 RX7 yX7_begins wsX7_begins) := goodIn_app (goodIn_of _ (by decide +kernel)) ggX7_optimum_X7_begins
set_option maxRecDepth 20000 in
theorem ggX7_optimum_X7_solves : GoodIn wsX7_optimum wsX7_solves := goodIn_r _ [42, 43, 44, 45, 6, 46, 13, 10, 11, 25, 47, 48, 49, 50, 29, 30, 51, 26, 12, 15, 8, 17, 1, 14, 19, 20, 52, 53, 54, 55, 56, 57, 58, 59, 60, 61, 62, 63, 64, 65, 66, 67, 68, 69, 70, 71, 72, 73, 74, 75, 76, 77, 78, 2, 79, 80, 81, 82, 83, 84, 85, 86, 87, 88, 89, 90, 91, 92, 93, 94, 95, 96, 97, 98, 99, 100, 101, 102, 103, 104, 105, 106, 107, 108, 109, 110, 111, 112, 113, 114, 115, 116, 117, 118, 119, 120, 121, 122] (by decide +kernel) (by decide +kernel)
set_option maxRecDepth 20000 in
theorem gX7_optimum_X7_solves : GoodIn wsX7_optimum (wsV RX7 264 RX7 yX7_solves wsX7_solves) := goodIn_app (goodIn_of _ (by decide +kernel)) ggX7_optimum_X7_solves
theorem dX7_optimum_0 : decode cX7_optimum 0 = .ok (.aload_n 0, 1) := by decide +kernel
theorem dX7_optimum_1 : decode cX7_optimum 1 = .ok (.iload_n 1, 1) := by decide +kernel
theorem dX7_optimum_2 : decode cX7_optimum 2 = .ok (.lload_n 2, 1) := by decide +kernel
