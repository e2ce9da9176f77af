theorem dX2_findBreak_40 : decode cX2_findBreak 40 = .ok (.i2l, 1) := by decide +kernel
theorem dX2_findBreak_41 : decode cX2_findBreak 41 = .ok (.ladd, 1) := by decide +kernel
theorem dX2_findBreak_42 : decode cX2_findBreak 42 = .ok (.aload_n 0, 1) := by decide +kernel
theorem dX2_findBreak_43 : decode cX2_findBreak 43 = .ok (.getfield 34, 3) := by decide +kernel
theorem dX2_findBreak_46 : decode cX2_findBreak 46 = .ok (.i2l, 1) := by decide +kernel
theorem dX2_findBreak_47 : decode cX2_findBreak 47 = .ok (.lcmp, 1) := by decide +kernel
theorem dX2_findBreak_48 : decode cX2_findBreak 48 = .ok (.ifCond .gt 52, 3) := by decide +kernel
theorem dX2_findBreak_51 : decode cX2_findBreak 51 = .ok (.aload_n 0, 1) := by decide +kernel
theorem dX2_findBreak_52 : decode cX2_findBreak 52 = .ok (.dup, 1) := by decide +kernel
theorem dX2_findBreak_53 : decode cX2_findBreak 53 = .ok (.getfield 47, 3) := by decide +kernel
theorem dX2_findBreak_56 : decode cX2_findBreak 56 = .ok (.aload_n 0, 1) := by decide +kernel
theorem dX2_findBreak_57 : decode cX2_findBreak 57 = .ok (.getfield 18, 3) := by decide +kernel
theorem dX2_findBreak_60 : decode cX2_findBreak 60 = .ok (.aload_n 0, 1) := by decide +kernel
theorem dX2_findBreak_61 : decode cX2_findBreak 61 = .ok (.getfield 44, 3) := by decide +kernel
theorem dX2_findBreak_64 : decode cX2_findBreak 64 = .ok (.iaload, 1) := by decide +kernel
theorem dX2_findBreak_65 : decode cX2_findBreak 65 = .ok (.iadd, 1) := by decide +kernel
theorem dX2_findBreak_66 : decode cX2_findBreak 66 = .ok (.putfield 47, 3) := by decide +kernel
theorem dX2_findBreak_69 : decode cX2_findBreak 69 = .ok (.aload_n 0, 1) := by decide +kernel
theorem dX2_findBreak_70 : decode cX2_findBreak 70 = .ok (.dup, 1) := by decide +kernel
theorem dX2_findBreak_71 : decode cX2_findBreak 71 = .ok (.getfield 50, 3) := by decide +kernel
theorem dX2_findBreak_74 : decode cX2_findBreak 74 = .ok (.aload_n 0, 1) := by decide +kernel
theorem dX2_findBreak_75 : decode cX2_findBreak 75 = .ok (.getfield 21, 3) := by decide +kernel
theorem dX2_findBreak_78 : decode cX2_findBreak 78 = .ok (.aload_n 0, 1) := by decide +kernel
theorem dX2_findBreak_79 : decode cX2_findBreak 79 = .ok (.getfield 44, 3) := by decide +kernel
theorem dX2_findBreak_82 : decode cX2_findBreak 82 = .ok (.iaload, 1) := by decide +kernel
theorem dX2_findBreak_83 : decode cX2_findBreak 83 = .ok (.iadd, 1) := by decide +kernel
theorem dX2_findBreak_84 : decode cX2_findBreak 84 = .ok (.putfield 50, 3) := by decide +kernel
theorem dX2_findBreak_87 : decode cX2_findBreak 87 = .ok (.aload_n 0, 1) := by decide +kernel
theorem dX2_findBreak_88 : decode cX2_findBreak 88 = .ok (.dup, 1) := by decide +kernel
theorem dX2_findBreak_89 : decode cX2_findBreak 89 = .ok (.getfield 44, 3) := by decide +kernel
theorem dX2_findBreak_92 : decode cX2_findBreak 92 = .ok (.iconst 1, 1) := by decide +kernel
theorem dX2_findBreak_93 : decode cX2_findBreak 93 = .ok (.iadd, 1) := by decide +kernel
theorem dX2_findBreak_94 : decode cX2_findBreak 94 = .ok (.putfield 44, 3) := by decide +kernel
theorem dX2_findBreak_97 : decode cX2_findBreak 97 = .ok (.goto (-82), 3) := by decide +kernel
theorem dX2_findBreak_100 : decode cX2_findBreak 100 = .ok (.return_, 1) := by decide +kernel
theorem dX2_breakIsItem_0 : decode cX2_breakIsItem 0 = .ok (.aload_n 0, 1) := by decide +kernel
theorem dX2_breakIsItem_1 : decode cX2_breakIsItem 1 = .ok (.getfield 44, 3) := by decide +kernel
theorem dX2_breakIsItem_4 : decode cX2_breakIsItem 4 = .ok (.aload_n 0, 1) := by decide +kernel
theorem dX2_breakIsItem_5 : decode cX2_breakIsItem 5 = .ok (.getfield 30, 3) := by decide +kernel
theorem dX2_breakIsItem_8 : decode cX2_breakIsItem 8 = .ok (.if_icmp .ge 7, 3) := by decide +kernel
theorem dX2_breakIsItem_11 : decode cX2_breakIsItem 11 = .ok (.iconst 1, 1) := by decide +kernel
theorem dX2_breakIsItem_12 : decode cX2_breakIsItem 12 = .ok (.goto 4, 3) := by decide +kernel
theorem dX2_breakIsItem_15 : decode cX2_breakIsItem 15 = .ok (.iconst 0, 1) := by decide +kernel
theorem dX2_breakIsItem_16 : decode cX2_breakIsItem 16 = .ok (.ireturn, 1) := by decide +kernel
theorem dX2_roomLeft_0 : decode cX2_roomLeft 0 = .ok (.aload_n 0, 1) := by decide +kernel
theorem dX2_roomLeft_1 : decode cX2_roomLeft 1 = .ok (.getfield 34, 3) := by decide +kernel
theorem dX2_roomLeft_4 : decode cX2_roomLeft 4 = .ok (.i2l, 1) := by decide +kernel
theorem dX2_roomLeft_5 : decode cX2_roomLeft 5 = .ok (.aload_n 0, 1) := by decide +kernel
theorem dX2_roomLeft_6 : decode cX2_roomLeft 6 = .ok (.getfield 47, 3) := by decide +kernel
theorem dX2_roomLeft_9 : decode cX2_roomLeft 9 = .ok (.i2l, 1) := by decide +kernel
theorem dX2_roomLeft_10 : decode cX2_roomLeft 10 = .ok (.lsub, 1) := by decide +kernel
theorem dX2_roomLeft_11 : decode cX2_roomLeft 11 = .ok (.lreturn, 1) := by decide +kernel
set_option maxRecDepth 20000 in
theorem ggX2_worthDown_J9_floorDiv_f86c9 : GoodIn wsX2_worthDown wsJ9_floorDiv_f86c9 := goodIn_r _ [7] (by decide +kernel) (by decide +kernel)
set_option maxRecDepth 20000 in
theorem gX2_worthDown_J9_floorDiv_f86c9 : GoodIn wsX2_worthDown (va_wsS RX2 53 yJ9_floorDiv_f86c9 wsJ9_floorDiv_f86c9) := goodIn_app (goodIn_of _ (by decide +kernel)) ggX2_worthDown_J9_floorDiv_f86c9
theorem dX2_worthDown_0 : decode cX2_worthDown 0 = .ok (.iload_n 1, 1) := by decide +kernel
theorem dX2_worthDown_1 : decode cX2_worthDown 1 = .ok (.ifCond .lt 21, 3) := by decide +kernel
theorem dX2_worthDown_4 : decode cX2_worthDown 4 = .ok (.iload_n 1, 1) := by decide +kernel
theorem dX2_worthDown_5 : decode cX2_worthDown 5 = .ok (.aload_n 0, 1) := by decide +kernel
theorem dX2_worthDown_6 : decode cX2_worthDown 6 = .ok (.getfield 30, 3) := by decide +kernel
theorem dX2_worthDown_9 : decode cX2_worthDown 9 = .ok (.if_icmp .ge 13, 3) := by decide +kernel
theorem dX2_worthDown_12 : decode cX2_worthDown 12 = .ok (.aload_n 0, 1) := by decide +kernel
theorem dX2_worthDown_13 : decode cX2_worthDown 13 = .ok (.getfield 18, 3) := by decide +kernel
theorem dX2_worthDown_16 : decode cX2_worthDown 16 = .ok (.iload_n 1, 1) := by decide +kernel
theorem dX2_worthDown_17 : decode cX2_worthDown 17 = .ok (.iaload, 1) := by decide +kernel
theorem dX2_worthDown_18 : decode cX2_worthDown 18 = .ok (.iconst 1, 1) := by decide +kernel
theorem dX2_worthDown_19 : decode cX2_worthDown 19 = .ok (.if_icmp .ge 5, 3) := by decide +kernel
theorem dX2_worthDown_22 : decode cX2_worthDown 22 = .ok (.lconst 0, 1) := by decide +kernel
theorem dX2_worthDown_23 : decode cX2_worthDown 23 = .ok (.lreturn, 1) := by decide +kernel
theorem dX2_worthDown_24 : decode cX2_worthDown 24 = .ok (.lload_n 2, 1) := by decide +kernel
theorem dX2_worthDown_25 : decode cX2_worthDown 25 = .ok (.aload_n 0, 1) := by decide +kernel
theorem dX2_worthDown_26 : decode cX2_worthDown 26 = .ok (.getfield 21, 3) := by decide +kernel
theorem dX2_worthDown_29 : decode cX2_worthDown 29 = .ok (.iload_n 1, 1) := by decide +kernel
theorem dX2_worthDown_30 : decode cX2_worthDown 30 = .ok (.iaload, 1) := by decide +kernel
theorem dX2_worthDown_31 : decode cX2_worthDown 31 = .ok (.i2l, 1) := by decide +kernel
theorem dX2_worthDown_32 : decode cX2_worthDown 32 = .ok (.lmul, 1) := by decide +kernel
theorem dX2_worthDown_33 : decode cX2_worthDown 33 = .ok (.aload_n 0, 1) := by decide +kernel
theorem dX2_worthDown_34 : decode cX2_worthDown 34 = .ok (.getfield 18, 3) := by decide +kernel
theorem dX2_worthDown_37 : decode cX2_worthDown 37 = .ok (.iload_n 1, 1) := by decide +kernel
theorem dX2_worthDown_38 : decode cX2_worthDown 38 = .ok (.iaload, 1) := by decide +kernel
theorem dX2_worthDown_39 : decode cX2_worthDown 39 = .ok (.i2l, 1) := by decide +kernel
theorem dX2_worthDown_40 : decode cX2_worthDown 40 = .ok (.invokestatic 53, 3) := by decide +kernel
theorem dX2_worthDown_43 : decode cX2_worthDown 43 = .ok (.lreturn, 1) := by decide +kernel
set_option maxRecDepth 20000 in
theorem ggX2_reducedAt_X2_roomLeft : GoodIn wsX2_reducedAt wsX2_roomLeft := goodIn_r _ [10, 11, 12, 21, 22, 23, 24, 25, 26, 27, 28, 29] (by decide +kernel) (by decide +kernel)
set_option maxRecDepth 20000 in
theorem gX2_reducedAt_X2_roomLeft : GoodIn wsX2_reducedAt (wsV RX2 59 RX2 yX2_roomLeft wsX2_roomLeft) := goodIn_app (goodIn_of _ (by decide +kernel)) ggX2_reducedAt_X2_roomLeft
set_option maxRecDepth 20000 in
theorem ggX2_reducedAt_X2_worthDown : GoodIn wsX2_reducedAt wsX2_worthDown := goodIn_r _ [16, 1, 5, 4, 17, 18, 19, 20, 21, 22, 23, 24, 25, 26, 27, 28, 29] (by decide +kernel) (by decide +kernel)
set_option maxRecDepth 20000 in
theorem gX2_reducedAt_X2_worthDown : GoodIn wsX2_reducedAt (wsV RX2 63 RX2 yX2_worthDown wsX2_worthDown) := goodIn_app (goodIn_of _ (by decide +kernel)) ggX2_reducedAt_X2_worthDown
theorem dX2_reducedAt_0 : decode cX2_reducedAt 0 = .ok (.iload_n 1, 1) := by decide +kernel
theorem dX2_reducedAt_1 : decode cX2_reducedAt 1 = .ok (.ifCond .lt 11, 3) := by decide +kernel
theorem dX2_reducedAt_4 : decode cX2_reducedAt 4 = .ok (.iload_n 1, 1) := by decide +kernel
theorem dX2_reducedAt_5 : decode cX2_reducedAt 5 = .ok (.aload_n 0, 1) := by decide +kernel
theorem dX2_reducedAt_6 : decode cX2_reducedAt 6 = .ok (.getfield 30, 3) := by decide +kernel
theorem dX2_reducedAt_9 : decode cX2_reducedAt 9 = .ok (.if_icmp .lt 5, 3) := by decide +kernel
theorem dX2_reducedAt_12 : decode cX2_reducedAt 12 = .ok (.lconst 0, 1) := by decide +kernel
theorem dX2_reducedAt_13 : decode cX2_reducedAt 13 = .ok (.lreturn, 1) := by decide +kernel
theorem dX2_reducedAt_14 : decode cX2_reducedAt 14 = .ok (.iload_n 1, 1) := by decide +kernel
theorem dX2_reducedAt_15 : decode cX2_reducedAt 15 = .ok (.aload_n 0, 1) := by decide +kernel
theorem dX2_reducedAt_16 : decode cX2_reducedAt 16 = .ok (.getfield 44, 3) := by decide +kernel
theorem dX2_reducedAt_19 : decode cX2_reducedAt 19 = .ok (.if_icmp .ge 38, 3) := by decide +kernel
theorem dX2_reducedAt_22 : decode cX2_reducedAt 22 = .ok (.aload_n 0, 1) := by decide +kernel
theorem dX2_reducedAt_23 : decode cX2_reducedAt 23 = .ok (.getfield 50, 3) := by decide +kernel
theorem dX2_reducedAt_26 : decode cX2_reducedAt 26 = .ok (.i2l, 1) := by decide +kernel
theorem dX2_reducedAt_27 : decode cX2_reducedAt 27 = .ok (.aload_n 0, 1) := by decide +kernel
theorem dX2_reducedAt_28 : decode cX2_reducedAt 28 = .ok (.getfield 21, 3) := by decide +kernel
theorem dX2_reducedAt_31 : decode cX2_reducedAt 31 = .ok (.iload_n 1, 1) := by decide +kernel
theorem dX2_reducedAt_32 : decode cX2_reducedAt 32 = .ok (.iaload, 1) := by decide +kernel
theorem dX2_reducedAt_33 : decode cX2_reducedAt 33 = .ok (.i2l, 1) := by decide +kernel
theorem dX2_reducedAt_34 : decode cX2_reducedAt 34 = .ok (.lsub, 1) := by decide +kernel
theorem dX2_reducedAt_35 : decode cX2_reducedAt 35 = .ok (.aload_n 0, 1) := by decide +kernel
theorem dX2_reducedAt_36 : decode cX2_reducedAt 36 = .ok (.aload_n 0, 1) := by decide +kernel
theorem dX2_reducedAt_37 : decode cX2_reducedAt 37 = .ok (.getfield 44, 3) := by decide +kernel
theorem dX2_reducedAt_40 : decode cX2_reducedAt 40 = .ok (.aload_n 0, 1) := by decide +kernel
theorem dX2_reducedAt_41 : decode cX2_reducedAt 41 = .ok (.invokevirtual 59, 3) := by decide +kernel
theorem dX2_reducedAt_44 : decode cX2_reducedAt 44 = .ok (.aload_n 0, 1) := by decide +kernel
theorem dX2_reducedAt_45 : decode cX2_reducedAt 45 = .ok (.getfield 18, 3) := by decide +kernel
theorem dX2_reducedAt_48 : decode cX2_reducedAt 48 = .ok (.iload_n 1, 1) := by decide +kernel
theorem dX2_reducedAt_49 : decode cX2_reducedAt 49 = .ok (.iaload, 1) := by decide +kernel
theorem dX2_reducedAt_50 : decode cX2_reducedAt 50 = .ok (.i2l, 1) := by decide +kernel
theorem dX2_reducedAt_51 : decode cX2_reducedAt 51 = .ok (.ladd, 1) := by decide +kernel
theorem dX2_reducedAt_52 : decode cX2_reducedAt 52 = .ok (.invokevirtual 63, 3) := by decide +kernel
theorem dX2_reducedAt_55 : decode cX2_reducedAt 55 = .ok (.ladd, 1) := by decide +kernel
theorem dX2_reducedAt_56 : decode cX2_reducedAt 56 = .ok (.lreturn, 1) := by decide +kernel
theorem dX2_reducedAt_57 : decode cX2_reducedAt 57 = .ok (.aload_n 0, 1) := by decide +kernel
theorem dX2_reducedAt_58 : decode cX2_reducedAt 58 = .ok (.getfield 50, 3) := by decide +kernel
theorem dX2_reducedAt_61 : decode cX2_reducedAt 61 = .ok (.i2l, 1) := by decide +kernel
theorem dX2_reducedAt_62 : decode cX2_reducedAt 62 = .ok (.aload_n 0, 1) := by decide +kernel
theorem dX2_reducedAt_63 : decode cX2_reducedAt 63 = .ok (.getfield 21, 3) := by decide +kernel
theorem dX2_reducedAt_66 : decode cX2_reducedAt 66 = .ok (.iload_n 1, 1) := by decide +kernel
theorem dX2_reducedAt_67 : decode cX2_reducedAt 67 = .ok (.iaload, 1) := by decide +kernel
theorem dX2_reducedAt_68 : decode cX2_reducedAt 68 = .ok (.i2l, 1) := by decide +kernel
theorem dX2_reducedAt_69 : decode cX2_reducedAt 69 = .ok (.ladd, 1) := by decide +kernel
theorem dX2_reducedAt_70 : decode cX2_reducedAt 70 = .ok (.aload_n 0, 1) := by decide +kernel
theorem dX2_reducedAt_71 : decode cX2_reducedAt 71 = .ok (.aload_n 0, 1) := by decide +kernel
theorem dX2_reducedAt_72 : decode cX2_reducedAt 72 = .ok (.getfield 44, 3) := by decide +kernel
theorem dX2_reducedAt_75 : decode cX2_reducedAt 75 = .ok (.aload_n 0, 1) := by decide +kernel
theorem dX2_reducedAt_76 : decode cX2_reducedAt 76 = .ok (.invokevirtual 59, 3) := by decide +kernel
theorem dX2_reducedAt_79 : decode cX2_reducedAt 79 = .ok (.aload_n 0, 1) := by decide +kernel
theorem dX2_reducedAt_80 : decode cX2_reducedAt 80 = .ok (.getfield 18, 3) := by decide +kernel
theorem dX2_reducedAt_83 : decode cX2_reducedAt 83 = .ok (.iload_n 1, 1) := by decide +kernel
theorem dX2_reducedAt_84 : decode cX2_reducedAt 84 = .ok (.iaload, 1) := by decide +kernel
theorem dX2_reducedAt_85 : decode cX2_reducedAt 85 = .ok (.i2l, 1) := by decide +kernel
theorem dX2_reducedAt_86 : decode cX2_reducedAt 86 = .ok (.lsub, 1) := by decide +kernel
theorem dX2_reducedAt_87 : decode cX2_reducedAt 87 = .ok (.invokevirtual 63, 3) := by decide +kernel
theorem dX2_reducedAt_90 : decode cX2_reducedAt 90 = .ok (.ladd, 1) := by decide +kernel
theorem dX2_reducedAt_91 : decode cX2_reducedAt 91 = .ok (.lreturn, 1) := by decide +kernel
set_option maxRecDepth 20000 in
theorem ggX3_init_X1_init : GoodIn wsX3_init wsX1_init := goodIn_r _ [10, 11, 2, 3, 12, 13, 14, 15, 16, 17, 18, 19, 20, 21, 22] (by decide +kernel) (by decide +kernel)
set_option maxRecDepth 20000 in
theorem gX3_init_X1_init : GoodIn wsX3_init (wsX1_init) := ggX3_init_X1_init
theorem dX3_init_0 : decode cX3_init 0 = .ok (.aload_n 0, 1) := by decide +kernel
theorem dX3_init_1 : decode cX3_init 1 = .ok (.invokespecial 3, 3) := by decide +kernel
theorem dX3_init_4 : decode cX3_init 4 = .ok (.aload_n 0, 1) := by decide +kernel
theorem dX3_init_5 : decode cX3_init 5 = .ok (.new 9, 3) := by decide +kernel
theorem dX3_init_8 : decode cX3_init 8 = .ok (.dup, 1) := by decide +kernel
theorem dX3_init_9 : decode cX3_init 9 = .ok (.invokespecial 11, 3) := by decide +kernel
theorem dX3_init_12 : decode cX3_init 12 = .ok (.putfield 12, 3) := by decide +kernel
theorem dX3_init_15 : decode cX3_init 15 = .ok (.return_, 1) := by decide +kernel
set_option maxRecDepth 20000 in
theorem ggX3_readAll_X1_makeAsAtFirst : GoodIn wsX3_readAll wsX1_makeAsAtFirst := goodIn_r _ [10, 11, 12, 13, 14, 154, 155, 156, 157, 158, 159] (by decide +kernel) (by decide +kernel)
set_option maxRecDepth 20000 in
theorem gX3_readAll_X1_makeAsAtFirst : GoodIn wsX3_readAll (wsV RX3 18 RX1 yX1_makeAsAtFirst wsX1_makeAsAtFirst) := goodIn_app (goodIn_of _ (by decide +kernel)) ggX3_readAll_X1_makeAsAtFirst
set_option maxRecDepth 20000 in
theorem ggX3_readAll_X3_behindBlanks : GoodIn wsX3_readAll wsX3_behindBlanks := goodIn_r _ [18] (by decide +kernel) (by decide +kernel)
set_option maxRecDepth 20000 in
theorem gX3_readAll_X3_behindBlanks : GoodIn wsX3_readAll (va_wsS RX3 34 yX3_behindBlanks wsX3_behindBlanks) := goodIn_app (goodIn_of _ (by decide +kernel)) ggX3_readAll_X3_behindBlanks
set_option maxRecDepth 20000 in
theorem ggX3_readAll_X3_endOfToken : GoodIn wsX3_readAll wsX3_endOfToken := goodIn_r _ [21, 22, 23, 17, 24, 25, 26, 27] (by decide +kernel) (by decide +kernel)
set_option maxRecDepth 20000 in
theorem gX3_readAll_X3_endOfToken : GoodIn wsX3_readAll (va_wsS RX3 38 yX3_endOfToken wsX3_endOfToken) := goodIn_app (goodIn_of _ (by decide +kernel)) ggX3_readAll_X3_endOfToken
set_option maxRecDepth 20000 in
theorem ggX3_readAll_X3_takesToken : GoodIn wsX3_readAll wsX3_takesToken := goodIn_r _ [31, 4, 22, 23, 17, 24, 32, 33, 34, 35, 1, 36, 37, 38, 39, 40, 41, 42, 43, 44, 45, 46, 47, 48, 49, 50, 51, 52, 53, 54, 55, 56, 57, 58, 59, 60, 61, 62, 63, 64, 65, 66, 67, 68, 69, 70, 71, 72, 73, 74, 75, 76, 77, 78, 79, 80, 81, 82, 83, 84, 85, 86, 87, 88, 89, 90, 91, 92, 2, 3, 25, 26, 27, 93, 94, 95, 96, 97, 98, 99, 100, 5, 101, 102, 103, 104, 105, 106, 107, 108, 109, 110, 111, 112, 113, 114, 115, 116, 117, 118, 119, 120, 121, 9, 122, 123, 124, 125, 126, 127, 11, 128, 129, 130, 131, 132, 133, 134, 135, 136, 137, 138, 139, 140, 141, 142, 143, 144, 145, 146, 147, 148, 149, 150, 151, 152, 153, 154, 155, 156, 157, 158, 159] (by decide +kernel) (by decide +kernel)
set_option maxRecDepth 20000 in
theorem gX3_readAll_X3_takesToken : GoodIn wsX3_readAll (wsV RX3 41 RX3 yX3_takesToken wsX3_takesToken) := goodIn_app (goodIn_of _ (by decide +kernel)) ggX3_readAll_X3_takesToken
theorem dX3_readAll_0 : decode cX3_readAll 0 = .ok (.aload_n 0, 1) := by decide +kernel
theorem dX3_readAll_1 : decode cX3_readAll 1 = .ok (.getfield 12, 3) := by decide +kernel
theorem dX3_readAll_4 : decode cX3_readAll 4 = .ok (.invokevirtual 18, 3) := by decide +kernel
theorem dX3_readAll_7 : decode cX3_readAll 7 = .ok (.aload_n 0, 1) := by decide +kernel
theorem dX3_readAll_8 : decode cX3_readAll 8 = .ok (.iconst 0, 1) := by decide +kernel
theorem dX3_readAll_9 : decode cX3_readAll 9 = .ok (.putfield 21, 3) := by decide +kernel
theorem dX3_readAll_12 : decode cX3_readAll 12 = .ok (.aload_n 0, 1) := by decide +kernel
theorem dX3_readAll_13 : decode cX3_readAll 13 = .ok (.iconst (-1), 1) := by decide +kernel
theorem dX3_readAll_14 : decode cX3_readAll 14 = .ok (.putfield 25, 3) := by decide +kernel
theorem dX3_readAll_17 : decode cX3_readAll 17 = .ok (.aload_n 0, 1) := by decide +kernel
theorem dX3_readAll_18 : decode cX3_readAll 18 = .ok (.iconst 0, 1) := by decide +kernel
theorem dX3_readAll_19 : decode cX3_readAll 19 = .ok (.putfield 28, 3) := by decide +kernel
theorem dX3_readAll_22 : decode cX3_readAll 22 = .ok (.aload_n 0, 1) := by decide +kernel
theorem dX3_readAll_23 : decode cX3_readAll 23 = .ok (.iconst 0, 1) := by decide +kernel
theorem dX3_readAll_24 : decode cX3_readAll 24 = .ok (.putfield 31, 3) := by decide +kernel
theorem dX3_readAll_27 : decode cX3_readAll 27 = .ok (.aload_n 1, 1) := by decide +kernel
theorem dX3_readAll_28 : decode cX3_readAll 28 = .ok (.iconst 0, 1) := by decide +kernel
theorem dX3_readAll_29 : decode cX3_readAll 29 = .ok (.iload_n 2, 1) := by decide +kernel
theorem dX3_readAll_30 : decode cX3_readAll 30 = .ok (.invokestatic 34, 3) := by decide +kernel
theorem dX3_readAll_33 : decode cX3_readAll 33 = .ok (.istore_n 3, 1) := by decide +kernel
theorem dX3_readAll_34 : decode cX3_readAll 34 = .ok (.iconst 0, 1) := by decide +kernel
theorem dX3_readAll_35 : decode cX3_readAll 35 = .ok (.istore 4, 2) := by decide +kernel
theorem dX3_readAll_37 : decode cX3_readAll 37 = .ok (.iload 4, 2) := by decide +kernel
theorem dX3_readAll_39 : decode cX3_readAll 39 = .ok (.iload_n 2, 1) := by decide +kernel
theorem dX3_readAll_40 : decode cX3_readAll 40 = .ok (.if_icmp .ge 58, 3) := by decide +kernel
theorem dX3_readAll_43 : decode cX3_readAll 43 = .ok (.iload_n 3, 1) := by decide +kernel
theorem dX3_readAll_44 : decode cX3_readAll 44 = .ok (.iload_n 2, 1) := by decide +kernel
theorem dX3_readAll_45 : decode cX3_readAll 45 = .ok (.if_icmp .ge 53, 3) := by decide +kernel
theorem dX3_readAll_48 : decode cX3_readAll 48 = .ok (.aload_n 1, 1) := by decide +kernel
theorem dX3_readAll_49 : decode cX3_readAll 49 = .ok (.iload_n 3, 1) := by decide +kernel
theorem dX3_readAll_50 : decode cX3_readAll 50 = .ok (.iload_n 2, 1) := by decide +kernel
theorem dX3_readAll_51 : decode cX3_readAll 51 = .ok (.invokestatic 38, 3) := by decide +kernel
theorem dX3_readAll_54 : decode cX3_readAll 54 = .ok (.istore 5, 2) := by decide +kernel
theorem dX3_readAll_56 : decode cX3_readAll 56 = .ok (.iload 5, 2) := by decide +kernel
theorem dX3_readAll_58 : decode cX3_readAll 58 = .ok (.iload_n 3, 1) := by decide +kernel
theorem dX3_readAll_59 : decode cX3_readAll 59 = .ok (.if_icmp .le 14, 3) := by decide +kernel
theorem dX3_readAll_62 : decode cX3_readAll 62 = .ok (.aload_n 0, 1) := by decide +kernel
theorem dX3_readAll_63 : decode cX3_readAll 63 = .ok (.aload_n 1, 1) := by decide +kernel
theorem dX3_readAll_64 : decode cX3_readAll 64 = .ok (.iload_n 3, 1) := by decide +kernel
theorem dX3_readAll_65 : decode cX3_readAll 65 = .ok (.iload 5, 2) := by decide +kernel
theorem dX3_readAll_67 : decode cX3_readAll 67 = .ok (.invokevirtual 41, 3) := by decide +kernel
theorem dX3_readAll_70 : decode cX3_readAll 70 = .ok (.ifCond .ne 14, 3) := by decide +kernel
theorem dX3_readAll_73 : decode cX3_readAll 73 = .ok (.aload_n 0, 1) := by decide +kernel
theorem dX3_readAll_74 : decode cX3_readAll 74 = .ok (.iconst 1, 1) := by decide +kernel
theorem dX3_readAll_75 : decode cX3_readAll 75 = .ok (.putfield 21, 3) := by decide +kernel
theorem dX3_readAll_78 : decode cX3_readAll 78 = .ok (.aload_n 0, 1) := by decide +kernel
theorem dX3_readAll_79 : decode cX3_readAll 79 = .ok (.iload_n 3, 1) := by decide +kernel
theorem dX3_readAll_80 : decode cX3_readAll 80 = .ok (.putfield 25, 3) := by decide +kernel
theorem dX3_readAll_83 : decode cX3_readAll 83 = .ok (.return_, 1) := by decide +kernel
theorem dX3_readAll_84 : decode cX3_readAll 84 = .ok (.aload_n 1, 1) := by decide +kernel
theorem dX3_readAll_85 : decode cX3_readAll 85 = .ok (.iload 5, 2) := by decide +kernel
theorem dX3_readAll_87 : decode cX3_readAll 87 = .ok (.iload_n 2, 1) := by decide +kernel
theorem dX3_readAll_88 : decode cX3_readAll 88 = .ok (.invokestatic 34, 3) := by decide +kernel
theorem dX3_readAll_91 : decode cX3_readAll 91 = .ok (.istore_n 3, 1) := by decide +kernel
theorem dX3_readAll_92 : decode cX3_readAll 92 = .ok (.iinc 4 1, 3) := by decide +kernel
theorem dX3_readAll_95 : decode cX3_readAll 95 = .ok (.goto (-58), 3) := by decide +kernel
theorem dX3_readAll_98 : decode cX3_readAll 98 = .ok (.aload_n 0, 1) := by decide +kernel
theorem dX3_readAll_99 : decode cX3_readAll 99 = .ok (.getfield 28, 3) := by decide +kernel
theorem dX3_readAll_102 : decode cX3_readAll 102 = .ok (.ifCond .eq 13, 3) := by decide +kernel
theorem dX3_readAll_105 : decode cX3_readAll 105 = .ok (.aload_n 0, 1) := by decide +kernel
theorem dX3_readAll_106 : decode cX3_readAll 106 = .ok (.iconst 1, 1) := by decide +kernel
theorem dX3_readAll_107 : decode cX3_readAll 107 = .ok (.putfield 21, 3) := by decide +kernel
theorem dX3_readAll_110 : decode cX3_readAll 110 = .ok (.aload_n 0, 1) := by decide +kernel
theorem dX3_readAll_111 : decode cX3_readAll 111 = .ok (.iload_n 2, 1) := by decide +kernel
theorem dX3_readAll_112 : decode cX3_readAll 112 = .ok (.putfield 25, 3) := by decide +kernel
theorem dX3_readAll_115 : decode cX3_readAll 115 = .ok (.return_, 1) := by decide +kernel
theorem dX3_behindBlanks_0 : decode cX3_behindBlanks 0 = .ok (.iload_n 1, 1) := by decide +kernel
theorem dX3_behindBlanks_1 : decode cX3_behindBlanks 1 = .ok (.istore_n 3, 1) := by decide +kernel
theorem dX3_behindBlanks_2 : decode cX3_behindBlanks 2 = .ok (.iload_n 3, 1) := by decide +kernel
theorem dX3_behindBlanks_3 : decode cX3_behindBlanks 3 = .ok (.iload_n 2, 1) := by decide +kernel
theorem dX3_behindBlanks_4 : decode cX3_behindBlanks 4 = .ok (.if_icmp .ge 25, 3) := by decide +kernel
theorem dX3_behindBlanks_7 : decode cX3_behindBlanks 7 = .ok (.aload_n 0, 1) := by decide +kernel
theorem dX3_behindBlanks_8 : decode cX3_behindBlanks 8 = .ok (.iload_n 3, 1) := by decide +kernel
theorem dX3_behindBlanks_9 : decode cX3_behindBlanks 9 = .ok (.baload, 1) := by decide +kernel
theorem dX3_behindBlanks_10 : decode cX3_behindBlanks 10 = .ok (.bipush 32, 2) := by decide +kernel
theorem dX3_behindBlanks_12 : decode cX3_behindBlanks 12 = .ok (.if_icmp .eq 11, 3) := by decide +kernel
theorem dX3_behindBlanks_15 : decode cX3_behindBlanks 15 = .ok (.aload_n 0, 1) := by decide +kernel
theorem dX3_behindBlanks_16 : decode cX3_behindBlanks 16 = .ok (.iload_n 3, 1) := by decide +kernel
theorem dX3_behindBlanks_17 : decode cX3_behindBlanks 17 = .ok (.baload, 1) := by decide +kernel
theorem dX3_behindBlanks_18 : decode cX3_behindBlanks 18 = .ok (.bipush 10, 2) := by decide +kernel
theorem dX3_behindBlanks_20 : decode cX3_behindBlanks 20 = .ok (.if_icmp .ne 9, 3) := by decide +kernel
theorem dX3_behindBlanks_23 : decode cX3_behindBlanks 23 = .ok (.iinc 3 1, 3) := by decide +kernel
theorem dX3_behindBlanks_26 : decode cX3_behindBlanks 26 = .ok (.goto (-24), 3) := by decide +kernel
theorem dX3_behindBlanks_29 : decode cX3_behindBlanks 29 = .ok (.iload_n 3, 1) := by decide +kernel
theorem dX3_behindBlanks_30 : decode cX3_behindBlanks 30 = .ok (.ireturn, 1) := by decide +kernel
theorem dX3_isLetter_0 : decode cX3_isLetter 0 = .ok (.iload_n 0, 1) := by decide +kernel
theorem dX3_isLetter_1 : decode cX3_isLetter 1 = .ok (.bipush 97, 2) := by decide +kernel
theorem dX3_isLetter_3 : decode cX3_isLetter 3 = .ok (.if_icmp .lt 13, 3) := by decide +kernel
theorem dX3_isLetter_6 : decode cX3_isLetter 6 = .ok (.iload_n 0, 1) := by decide +kernel
theorem dX3_isLetter_7 : decode cX3_isLetter 7 = .ok (.bipush 122, 2) := by decide +kernel
theorem dX3_isLetter_9 : decode cX3_isLetter 9 = .ok (.if_icmp .gt 7, 3) := by decide +kernel
theorem dX3_isLetter_12 : decode cX3_isLetter 12 = .ok (.iconst 1, 1) := by decide +kernel
theorem dX3_isLetter_13 : decode cX3_isLetter 13 = .ok (.goto 4, 3) := by decide +kernel
theorem dX3_isLetter_16 : decode cX3_isLetter 16 = .ok (.iconst 0, 1) := by decide +kernel
theorem dX3_isLetter_17 : decode cX3_isLetter 17 = .ok (.ireturn, 1) := by decide +kernel
theorem dX3_isDigit_0 : decode cX3_isDigit 0 = .ok (.iload_n 0, 1) := by decide +kernel
theorem dX3_isDigit_1 : decode cX3_isDigit 1 = .ok (.bipush 48, 2) := by decide +kernel
theorem dX3_isDigit_3 : decode cX3_isDigit 3 = .ok (.if_icmp .lt 13, 3) := by decide +kernel
theorem dX3_isDigit_6 : decode cX3_isDigit 6 = .ok (.iload_n 0, 1) := by decide +kernel
theorem dX3_isDigit_7 : decode cX3_isDigit 7 = .ok (.bipush 57, 2) := by decide +kernel
theorem dX3_isDigit_9 : decode cX3_isDigit 9 = .ok (.if_icmp .gt 7, 3) := by decide +kernel
theorem dX3_isDigit_12 : decode cX3_isDigit 12 = .ok (.iconst 1, 1) := by decide +kernel
theorem dX3_isDigit_13 : decode cX3_isDigit 13 = .ok (.goto 4, 3) := by decide +kernel
theorem dX3_isDigit_16 : decode cX3_isDigit 16 = .ok (.iconst 0, 1) := by decide +kernel
theorem dX3_isDigit_17 : decode cX3_isDigit 17 = .ok (.ireturn, 1) := by decide +kernel
set_option maxRecDepth 20000 in
theorem ggX3_endOfToken_X3_isLetter : GoodIn wsX3_endOfToken wsX3_isLetter := goodIn_r _ [4] (by decide +kernel) (by decide +kernel)
set_option maxRecDepth 20000 in
theorem gX3_endOfToken_X3_isLetter : GoodIn wsX3_endOfToken (va_wsS RX3 45 yX3_isLetter wsX3_isLetter) := goodIn_app (goodIn_of _ (by decide +kernel)) ggX3_endOfToken_X3_isLetter
set_option maxRecDepth 20000 in
theorem ggX3_endOfToken_X3_isDigit : GoodIn wsX3_endOfToken wsX3_isDigit := goodIn_r _ [7] (by decide +kernel) (by decide +kernel)
set_option maxRecDepth 20000 in
theorem gX3_endOfToken_X3_isDigit : GoodIn wsX3_endOfToken (va_wsS RX3 49 yX3_isDigit wsX3_isDigit) := goodIn_app (goodIn_of _ (by decide +kernel)) ggX3_endOfToken_X3_isDigit
theorem dX3_endOfToken_0 : decode cX3_endOfToken 0 = .ok (.iload_n 1, 1) := by decide +kernel
theorem dX3_endOfToken_1 : decode cX3_endOfToken 1 = .ok (.istore_n 3, 1) := by decide +kernel
theorem dX3_endOfToken_2 : decode cX3_endOfToken 2 = .ok (.aload_n 0, 1) := by decide +kernel
theorem dX3_endOfToken_3 : decode cX3_endOfToken 3 = .ok (.iload_n 1, 1) := by decide +kernel
theorem dX3_endOfToken_4 : decode cX3_endOfToken 4 = .ok (.baload, 1) := by decide +kernel
theorem dX3_endOfToken_5 : decode cX3_endOfToken 5 = .ok (.invokestatic 45, 3) := by decide +kernel
theorem dX3_endOfToken_8 : decode cX3_endOfToken 8 = .ok (.ifCond .eq 25, 3) := by decide +kernel
theorem dX3_endOfToken_11 : decode cX3_endOfToken 11 = .ok (.iload_n 3, 1) := by decide +kernel
theorem dX3_endOfToken_12 : decode cX3_endOfToken 12 = .ok (.iload_n 2, 1) := by decide +kernel
theorem dX3_endOfToken_13 : decode cX3_endOfToken 13 = .ok (.if_icmp .ge 18, 3) := by decide +kernel
theorem dX3_endOfToken_16 : decode cX3_endOfToken 16 = .ok (.aload_n 0, 1) := by decide +kernel
theorem dX3_endOfToken_17 : decode cX3_endOfToken 17 = .ok (.iload_n 3, 1) := by decide +kernel
theorem dX3_endOfToken_18 : decode cX3_endOfToken 18 = .ok (.baload, 1) := by decide +kernel
theorem dX3_endOfToken_19 : decode cX3_endOfToken 19 = .ok (.invokestatic 45, 3) := by decide +kernel
theorem dX3_endOfToken_22 : decode cX3_endOfToken 22 = .ok (.ifCond .eq 9, 3) := by decide +kernel
theorem dX3_endOfToken_25 : decode cX3_endOfToken 25 = .ok (.iinc 3 1, 3) := by decide +kernel
theorem dX3_endOfToken_28 : decode cX3_endOfToken 28 = .ok (.goto (-17), 3) := by decide +kernel
theorem dX3_endOfToken_31 : decode cX3_endOfToken 31 = .ok (.iload_n 3, 1) := by decide +kernel
theorem dX3_endOfToken_32 : decode cX3_endOfToken 32 = .ok (.ireturn, 1) := by decide +kernel
theorem dX3_endOfToken_33 : decode cX3_endOfToken 33 = .ok (.aload_n 0, 1) := by decide +kernel
theorem dX3_endOfToken_34 : decode cX3_endOfToken 34 = .ok (.iload_n 1, 1) := by decide +kernel
theorem dX3_endOfToken_35 : decode cX3_endOfToken 35 = .ok (.baload, 1) := by decide +kernel
theorem dX3_endOfToken_36 : decode cX3_endOfToken 36 = .ok (.invokestatic 49, 3) := by decide +kernel
theorem dX3_endOfToken_39 : decode cX3_endOfToken 39 = .ok (.ifCond .eq 37, 3) := by decide +kernel
theorem dX3_endOfToken_42 : decode cX3_endOfToken 42 = .ok (.iload_n 3, 1) := by decide +kernel
theorem dX3_endOfToken_43 : decode cX3_endOfToken 43 = .ok (.iload_n 2, 1) := by decide +kernel
theorem dX3_endOfToken_44 : decode cX3_endOfToken 44 = .ok (.if_icmp .ge 18, 3) := by decide +kernel
theorem dX3_endOfToken_47 : decode cX3_endOfToken 47 = .ok (.aload_n 0, 1) := by decide +kernel
theorem dX3_endOfToken_48 : decode cX3_endOfToken 48 = .ok (.iload_n 3, 1) := by decide +kernel
theorem dX3_endOfToken_49 : decode cX3_endOfToken 49 = .ok (.baload, 1) := by decide +kernel
theorem dX3_endOfToken_50 : decode cX3_endOfToken 50 = .ok (.invokestatic 49, 3) := by decide +kernel
theorem dX3_endOfToken_53 : decode cX3_endOfToken 53 = .ok (.ifCond .eq 9, 3) := by decide +kernel
theorem dX3_endOfToken_56 : decode cX3_endOfToken 56 = .ok (.iinc 3 1, 3) := by decide +kernel
theorem dX3_endOfToken_59 : decode cX3_endOfToken 59 = .ok (.goto (-17), 3) := by decide +kernel
theorem dX3_endOfToken_62 : decode cX3_endOfToken 62 = .ok (.iload_n 3, 1) := by decide +kernel
theorem dX3_endOfToken_63 : decode cX3_endOfToken 63 = .ok (.iload_n 1, 1) := by decide +kernel
theorem dX3_endOfToken_64 : decode cX3_endOfToken 64 = .ok (.isub, 1) := by decide +kernel
theorem dX3_endOfToken_65 : decode cX3_endOfToken 65 = .ok (.bipush 10, 2) := by decide +kernel
theorem dX3_endOfToken_67 : decode cX3_endOfToken 67 = .ok (.if_icmp .le 7, 3) := by decide +kernel
theorem dX3_endOfToken_70 : decode cX3_endOfToken 70 = .ok (.iload_n 1, 1) := by decide +kernel
theorem dX3_endOfToken_71 : decode cX3_endOfToken 71 = .ok (.goto 4, 3) := by decide +kernel
theorem dX3_endOfToken_74 : decode cX3_endOfToken 74 = .ok (.iload_n 3, 1) := by decide +kernel
theorem dX3_endOfToken_75 : decode cX3_endOfToken 75 = .ok (.ireturn, 1) := by decide +kernel
theorem dX3_endOfToken_76 : decode cX3_endOfToken 76 = .ok (.aload_n 0, 1) := by decide +kernel
theorem dX3_endOfToken_77 : decode cX3_endOfToken 77 = .ok (.iload_n 1, 1) := by decide +kernel
theorem dX3_endOfToken_78 : decode cX3_endOfToken 78 = .ok (.baload, 1) := by decide +kernel
theorem dX3_endOfToken_79 : decode cX3_endOfToken 79 = .ok (.bipush 59, 2) := by decide +kernel
theorem dX3_endOfToken_81 : decode cX3_endOfToken 81 = .ok (.if_icmp .ne 9, 3) := by decide +kernel
theorem dX3_endOfToken_84 : decode cX3_endOfToken 84 = .ok (.iload_n 1, 1) := by decide +kernel
theorem dX3_endOfToken_85 : decode cX3_endOfToken 85 = .ok (.iconst 1, 1) := by decide +kernel
theorem dX3_endOfToken_86 : decode cX3_endOfToken 86 = .ok (.iadd, 1) := by decide +kernel
theorem dX3_endOfToken_87 : decode cX3_endOfToken 87 = .ok (.goto 4, 3) := by decide +kernel
theorem dX3_endOfToken_90 : decode cX3_endOfToken 90 = .ok (.iload_n 1, 1) := by decide +kernel
theorem dX3_endOfToken_91 : decode cX3_endOfToken 91 = .ok (.ireturn, 1) := by decide +kernel
set_option maxRecDepth 20000 in
theorem ggX3_takesToken_X3_isLetter : GoodIn wsX3_takesToken wsX3_isLetter := goodIn_r _ [5] (by decide +kernel) (by decide +kernel)
set_option maxRecDepth 20000 in
theorem gX3_takesToken_X3_isLetter : GoodIn wsX3_takesToken (va_wsS RX3 45 yX3_isLetter wsX3_isLetter) := goodIn_app (goodIn_of _ (by decide +kernel)) ggX3_takesToken_X3_isLetter
set_option maxRecDepth 20000 in
theorem ggX3_takesToken_X3_takesWord : GoodIn wsX3_takesToken wsX3_takesWord := goodIn_r _ [9, 1, 10, 11, 12, 13, 4, 14, 15, 16, 17, 18, 19, 20, 21, 22, 23, 24, 25, 26, 27, 28, 29, 30, 31, 32, 33, 34, 35, 36, 37, 38, 39, 40, 41, 42, 43, 44, 45, 46, 47, 48, 49, 50, 51, 52, 53, 54, 55, 56, 57, 58, 59, 60, 61, 62, 63, 64, 65, 66, 67, 68, 69, 132, 133, 134, 135, 136, 137, 138, 139, 140, 141, 142] (by decide +kernel) (by decide +kernel)
set_option maxRecDepth 20000 in
theorem gX3_takesToken_X3_takesWord : GoodIn wsX3_takesToken (wsV RX3 52 RX3 yX3_takesWord wsX3_takesWord) := goodIn_app (goodIn_of _ (by decide +kernel)) ggX3_takesToken_X3_takesWord
set_option maxRecDepth 20000 in
theorem ggX3_takesToken_X3_isDigit : GoodIn wsX3_takesToken wsX3_isDigit := goodIn_r _ [72] (by decide +kernel) (by decide +kernel)
set_option maxRecDepth 20000 in
theorem gX3_takesToken_X3_isDigit : GoodIn wsX3_takesToken (va_wsS RX3 49 yX3_isDigit wsX3_isDigit) := goodIn_app (goodIn_of _ (by decide +kernel)) ggX3_takesToken_X3_isDigit
set_option maxRecDepth 20000 in
theorem ggX3_takesToken_X3_valueOf : GoodIn wsX3_takesToken wsX3_valueOf := goodIn_r _ [75, 76] (by decide +kernel) (by decide +kernel)
set_option maxRecDepth 20000 in
theorem gX3_takesToken_X3_valueOf : GoodIn wsX3_takesToken (va_wsS RX3 55 yX3_valueOf wsX3_valueOf) := goodIn_app (goodIn_of _ (by decide +kernel)) ggX3_takesToken_X3_valueOf
set_option maxRecDepth 20000 in
theorem ggX3_takesToken_X3_takesNumber : GoodIn wsX3_takesToken wsX3_takesNumber := goodIn_r _ [80, 1, 10, 81, 82, 83, 84, 4, 85, 86, 87, 88, 89, 90, 64, 65, 66, 67, 68, 69, 91, 92, 93, 94, 95, 96, 97, 98, 99, 100, 101, 102, 103, 104, 105, 106, 107, 108, 109, 110, 111, 112, 113, 114, 115, 116, 117, 118, 119, 120, 121, 122, 123, 124, 125, 126, 127, 128, 129, 130, 131, 132, 133, 134, 135, 136, 137, 138, 139, 140, 141, 142] (by decide +kernel) (by decide +kernel)
set_option maxRecDepth 20000 in
theorem gX3_takesToken_X3_takesNumber : GoodIn wsX3_takesToken (wsV RX3 59 RX3 yX3_takesNumber wsX3_takesNumber) := goodIn_app (goodIn_of _ (by decide +kernel)) ggX3_takesToken_X3_takesNumber
theorem dX3_takesToken_0 : decode cX3_takesToken 0 = .ok (.aload_n 1, 1) := by decide +kernel
theorem dX3_takesToken_1 : decode cX3_takesToken 1 = .ok (.iload_n 2, 1) := by decide +kernel
theorem dX3_takesToken_2 : decode cX3_takesToken 2 = .ok (.baload, 1) := by decide +kernel
theorem dX3_takesToken_3 : decode cX3_takesToken 3 = .ok (.invokestatic 45, 3) := by decide +kernel
theorem dX3_takesToken_6 : decode cX3_takesToken 6 = .ok (.ifCond .eq 26, 3) := by decide +kernel
theorem dX3_takesToken_9 : decode cX3_takesToken 9 = .ok (.aload_n 0, 1) := by decide +kernel
theorem dX3_takesToken_10 : decode cX3_takesToken 10 = .ok (.getfield 28, 3) := by decide +kernel
theorem dX3_takesToken_13 : decode cX3_takesToken 13 = .ok (.ifCond .ne 17, 3) := by decide +kernel
theorem dX3_takesToken_16 : decode cX3_takesToken 16 = .ok (.aload_n 0, 1) := by decide +kernel
theorem dX3_takesToken_17 : decode cX3_takesToken 17 = .ok (.aload_n 1, 1) := by decide +kernel
theorem dX3_takesToken_18 : decode cX3_takesToken 18 = .ok (.iload_n 2, 1) := by decide +kernel
theorem dX3_takesToken_19 : decode cX3_takesToken 19 = .ok (.iload_n 3, 1) := by decide +kernel
theorem dX3_takesToken_20 : decode cX3_takesToken 20 = .ok (.invokevirtual 52, 3) := by decide +kernel
theorem dX3_takesToken_23 : decode cX3_takesToken 23 = .ok (.ifCond .eq 7, 3) := by decide +kernel
theorem dX3_takesToken_26 : decode cX3_takesToken 26 = .ok (.iconst 1, 1) := by decide +kernel
theorem dX3_takesToken_27 : decode cX3_takesToken 27 = .ok (.goto 4, 3) := by decide +kernel
theorem dX3_takesToken_30 : decode cX3_takesToken 30 = .ok (.iconst 0, 1) := by decide +kernel
theorem dX3_takesToken_31 : decode cX3_takesToken 31 = .ok (.ireturn, 1) := by decide +kernel
theorem dX3_takesToken_32 : decode cX3_takesToken 32 = .ok (.aload_n 1, 1) := by decide +kernel
theorem dX3_takesToken_33 : decode cX3_takesToken 33 = .ok (.iload_n 2, 1) := by decide +kernel
theorem dX3_takesToken_34 : decode cX3_takesToken 34 = .ok (.baload, 1) := by decide +kernel
theorem dX3_takesToken_35 : decode cX3_takesToken 35 = .ok (.invokestatic 49, 3) := by decide +kernel
theorem dX3_takesToken_38 : decode cX3_takesToken 38 = .ok (.ifCond .eq 15, 3) := by decide +kernel
theorem dX3_takesToken_41 : decode cX3_takesToken 41 = .ok (.aload_n 0, 1) := by decide +kernel
theorem dX3_takesToken_42 : decode cX3_takesToken 42 = .ok (.aload_n 1, 1) := by decide +kernel
theorem dX3_takesToken_43 : decode cX3_takesToken 43 = .ok (.iload_n 2, 1) := by decide +kernel
theorem dX3_takesToken_44 : decode cX3_takesToken 44 = .ok (.iload_n 3, 1) := by decide +kernel
theorem dX3_takesToken_45 : decode cX3_takesToken 45 = .ok (.invokestatic 55, 3) := by decide +kernel
theorem dX3_takesToken_48 : decode cX3_takesToken 48 = .ok (.iload_n 2, 1) := by decide +kernel
theorem dX3_takesToken_49 : decode cX3_takesToken 49 = .ok (.invokevirtual 59, 3) := by decide +kernel
theorem dX3_takesToken_52 : decode cX3_takesToken 52 = .ok (.ireturn, 1) := by decide +kernel
theorem dX3_takesToken_53 : decode cX3_takesToken 53 = .ok (.aload_n 0, 1) := by decide +kernel
theorem dX3_takesToken_54 : decode cX3_takesToken 54 = .ok (.getfield 28, 3) := by decide +kernel
theorem dX3_takesToken_57 : decode cX3_takesToken 57 = .ok (.iconst 5, 1) := by decide +kernel
theorem dX3_takesToken_58 : decode cX3_takesToken 58 = .ok (.if_icmp .eq 5, 3) := by decide +kernel
theorem dX3_takesToken_61 : decode cX3_takesToken 61 = .ok (.iconst 0, 1) := by decide +kernel
theorem dX3_takesToken_62 : decode cX3_takesToken 62 = .ok (.ireturn, 1) := by decide +kernel
theorem dX3_takesToken_63 : decode cX3_takesToken 63 = .ok (.aload_n 0, 1) := by decide +kernel
theorem dX3_takesToken_64 : decode cX3_takesToken 64 = .ok (.iconst 0, 1) := by decide +kernel
theorem dX3_takesToken_65 : decode cX3_takesToken 65 = .ok (.putfield 28, 3) := by decide +kernel
theorem dX3_takesToken_68 : decode cX3_takesToken 68 = .ok (.iconst 1, 1) := by decide +kernel
theorem dX3_takesToken_69 : decode cX3_takesToken 69 = .ok (.ireturn, 1) := by decide +kernel
set_option maxRecDepth 20000 in
theorem ggX3_takesWord_X3_spells : GoodIn wsX3_takesWord wsX3_spells := goodIn_r _ [7, 8, 9, 10, 11, 12, 13, 14, 15, 16, 17, 18, 19, 20, 21, 22, 23, 24, 25, 26, 27, 28, 29, 30, 31, 32, 33, 34, 35, 36, 37, 38, 39, 40, 41, 42, 43, 44, 45, 46, 47, 48, 49, 50, 51, 52, 53, 54, 55, 56] (by decide +kernel) (by decide +kernel)
set_option maxRecDepth 20000 in
theorem gX3_takesWord_X3_spells : GoodIn wsX3_takesWord (va_wsS RX3 65 yX3_spells wsX3_spells) := goodIn_app (goodIn_of _ (by decide +kernel)) ggX3_takesWord_X3_spells
set_option maxRecDepth 20000 in
theorem ggX3_takesWord_X3_note : GoodIn wsX3_takesWord wsX3_note := goodIn_r _ [60, 61, 62, 63, 64, 65, 66, 67] (by decide +kernel) (by decide +kernel)
set_option maxRecDepth 20000 in
theorem gX3_takesWord_X3_note : GoodIn wsX3_takesWord (wsV RX3 76 RX3 yX3_note wsX3_note) := goodIn_app (goodIn_of _ (by decide +kernel)) ggX3_takesWord_X3_note
theorem dX3_takesWord_0 : decode cX3_takesWord 0 = .ok (.aload_n 1, 1) := by decide +kernel
theorem dX3_takesWord_1 : decode cX3_takesWord 1 = .ok (.iload_n 2, 1) := by decide +kernel
theorem dX3_takesWord_2 : decode cX3_takesWord 2 = .ok (.iload_n 3, 1) := by decide +kernel
theorem dX3_takesWord_3 : decode cX3_takesWord 3 = .ok (.ldc 63, 2) := by decide +kernel
theorem dX3_takesWord_5 : decode cX3_takesWord 5 = .ok (.invokestatic 65, 3) := by decide +kernel
theorem dX3_takesWord_8 : decode cX3_takesWord 8 = .ok (.ifCond .eq 10, 3) := by decide +kernel
theorem dX3_takesWord_11 : decode cX3_takesWord 11 = .ok (.aload_n 0, 1) := by decide +kernel
theorem dX3_takesWord_12 : decode cX3_takesWord 12 = .ok (.iconst 1, 1) := by decide +kernel
theorem dX3_takesWord_13 : decode cX3_takesWord 13 = .ok (.putfield 28, 3) := by decide +kernel
theorem dX3_takesWord_16 : decode cX3_takesWord 16 = .ok (.iconst 1, 1) := by decide +kernel
theorem dX3_takesWord_17 : decode cX3_takesWord 17 = .ok (.ireturn, 1) := by decide +kernel
theorem dX3_takesWord_18 : decode cX3_takesWord 18 = .ok (.aload_n 1, 1) := by decide +kernel
theorem dX3_takesWord_19 : decode cX3_takesWord 19 = .ok (.iload_n 2, 1) := by decide +kernel
theorem dX3_takesWord_20 : decode cX3_takesWord 20 = .ok (.iload_n 3, 1) := by decide +kernel
theorem dX3_takesWord_21 : decode cX3_takesWord 21 = .ok (.ldc 69, 2) := by decide +kernel
theorem dX3_takesWord_23 : decode cX3_takesWord 23 = .ok (.invokestatic 65, 3) := by decide +kernel
theorem dX3_takesWord_26 : decode cX3_takesWord 26 = .ok (.ifCond .eq 10, 3) := by decide +kernel
theorem dX3_takesWord_29 : decode cX3_takesWord 29 = .ok (.aload_n 0, 1) := by decide +kernel
theorem dX3_takesWord_30 : decode cX3_takesWord 30 = .ok (.iconst 2, 1) := by decide +kernel
theorem dX3_takesWord_31 : decode cX3_takesWord 31 = .ok (.putfield 28, 3) := by decide +kernel
theorem dX3_takesWord_34 : decode cX3_takesWord 34 = .ok (.iconst 1, 1) := by decide +kernel
theorem dX3_takesWord_35 : decode cX3_takesWord 35 = .ok (.ireturn, 1) := by decide +kernel
theorem dX3_takesWord_36 : decode cX3_takesWord 36 = .ok (.aload_n 1, 1) := by decide +kernel
theorem dX3_takesWord_37 : decode cX3_takesWord 37 = .ok (.iload_n 2, 1) := by decide +kernel
theorem dX3_takesWord_38 : decode cX3_takesWord 38 = .ok (.iload_n 3, 1) := by decide +kernel
theorem dX3_takesWord_39 : decode cX3_takesWord 39 = .ok (.ldc 71, 2) := by decide +kernel
theorem dX3_takesWord_41 : decode cX3_takesWord 41 = .ok (.invokestatic 65, 3) := by decide +kernel
theorem dX3_takesWord_44 : decode cX3_takesWord 44 = .ok (.ifCond .ne 5, 3) := by decide +kernel
theorem dX3_takesWord_47 : decode cX3_takesWord 47 = .ok (.iconst 0, 1) := by decide +kernel
theorem dX3_takesWord_48 : decode cX3_takesWord 48 = .ok (.ireturn, 1) := by decide +kernel
theorem dX3_takesWord_49 : decode cX3_takesWord 49 = .ok (.aload_n 0, 1) := by decide +kernel
theorem dX3_takesWord_50 : decode cX3_takesWord 50 = .ok (.iconst 3, 1) := by decide +kernel
theorem dX3_takesWord_51 : decode cX3_takesWord 51 = .ok (.putfield 28, 3) := by decide +kernel
theorem dX3_takesWord_54 : decode cX3_takesWord 54 = .ok (.aload_n 0, 1) := by decide +kernel
theorem dX3_takesWord_55 : decode cX3_takesWord 55 = .ok (.getfield 12, 3) := by decide +kernel
theorem dX3_takesWord_58 : decode cX3_takesWord 58 = .ok (.getfield 73, 3) := by decide +kernel
theorem dX3_takesWord_61 : decode cX3_takesWord 61 = .ok (.bipush 60, 2) := by decide +kernel
theorem dX3_takesWord_63 : decode cX3_takesWord 63 = .ok (.if_icmp .lt 9, 3) := by decide +kernel
theorem dX3_takesWord_66 : decode cX3_takesWord 66 = .ok (.aload_n 0, 1) := by decide +kernel
theorem dX3_takesWord_67 : decode cX3_takesWord 67 = .ok (.iconst 3, 1) := by decide +kernel
theorem dX3_takesWord_68 : decode cX3_takesWord 68 = .ok (.iload_n 2, 1) := by decide +kernel
theorem dX3_takesWord_69 : decode cX3_takesWord 69 = .ok (.invokevirtual 76, 3) := by decide +kernel
theorem dX3_takesWord_72 : decode cX3_takesWord 72 = .ok (.iconst 1, 1) := by decide +kernel
theorem dX3_takesWord_73 : decode cX3_takesWord 73 = .ok (.ireturn, 1) := by decide +kernel
set_option maxRecDepth 20000 in
theorem ggX3_spells_J0_length_8abf5 : GoodIn wsX3_spells wsJ0_length_8abf5 := goodIn_r _ [5, 6, 7, 8, 9, 4, 10, 11, 12] (by decide +kernel) (by decide +kernel)
set_option maxRecDepth 20000 in
theorem gX3_spells_J0_length_8abf5 : GoodIn wsX3_spells (wsV RX3 80 RJ0 yJ0_length_8abf5 wsJ0_length_8abf5) := goodIn_app (goodIn_of _ (by decide +kernel)) ggX3_spells_J0_length_8abf5
set_option maxRecDepth 20000 in
theorem ggX3_spells_J0_charAt_5068e : GoodIn wsX3_spells wsJ0_charAt_5068e := goodIn_r _ [16, 6, 17, 18, 19, 4, 20, 11, 12, 21, 22, 23, 24, 25, 26, 27, 28, 29, 30, 31, 32, 33, 34, 35, 36, 37, 38, 39, 40, 41, 42, 43, 44, 45, 46, 47, 48, 49] (by decide +kernel) (by decide +kernel)
set_option maxRecDepth 20000 in
theorem gX3_spells_J0_charAt_5068e : GoodIn wsX3_spells (wsV RX3 86 RJ0 yJ0_charAt_5068e wsJ0_charAt_5068e) := goodIn_app (goodIn_of _ (by decide +kernel)) ggX3_spells_J0_charAt_5068e
theorem dX3_spells_0 : decode cX3_spells 0 = .ok (.iload_n 2, 1) := by decide +kernel
theorem dX3_spells_1 : decode cX3_spells 1 = .ok (.iload_n 1, 1) := by decide +kernel
theorem dX3_spells_2 : decode cX3_spells 2 = .ok (.isub, 1) := by decide +kernel
theorem dX3_spells_3 : decode cX3_spells 3 = .ok (.aload_n 3, 1) := by decide +kernel
theorem dX3_spells_4 : decode cX3_spells 4 = .ok (.invokevirtual 80, 3) := by decide +kernel
theorem dX3_spells_7 : decode cX3_spells 7 = .ok (.if_icmp .eq 5, 3) := by decide +kernel
theorem dX3_spells_10 : decode cX3_spells 10 = .ok (.iconst 0, 1) := by decide +kernel
theorem dX3_spells_11 : decode cX3_spells 11 = .ok (.ireturn, 1) := by decide +kernel
theorem dX3_spells_12 : decode cX3_spells 12 = .ok (.iconst 0, 1) := by decide +kernel
theorem dX3_spells_13 : decode cX3_spells 13 = .ok (.istore 4, 2) := by decide +kernel
theorem dX3_spells_15 : decode cX3_spells 15 = .ok (.iload 4, 2) := by decide +kernel
theorem dX3_spells_17 : decode cX3_spells 17 = .ok (.aload_n 3, 1) := by decide +kernel
theorem dX3_spells_18 : decode cX3_spells 18 = .ok (.invokevirtual 80, 3) := by decide +kernel
theorem dX3_spells_21 : decode cX3_spells 21 = .ok (.if_icmp .ge 26, 3) := by decide +kernel
theorem dX3_spells_24 : decode cX3_spells 24 = .ok (.aload_n 0, 1) := by decide +kernel
theorem dX3_spells_25 : decode cX3_spells 25 = .ok (.iload_n 1, 1) := by decide +kernel
theorem dX3_spells_26 : decode cX3_spells 26 = .ok (.iload 4, 2) := by decide +kernel
theorem dX3_spells_28 : decode cX3_spells 28 = .ok (.iadd, 1) := by decide +kernel
theorem dX3_spells_29 : decode cX3_spells 29 = .ok (.baload, 1) := by decide +kernel
theorem dX3_spells_30 : decode cX3_spells 30 = .ok (.aload_n 3, 1) := by decide +kernel
theorem dX3_spells_31 : decode cX3_spells 31 = .ok (.iload 4, 2) := by decide +kernel
theorem dX3_spells_33 : decode cX3_spells 33 = .ok (.invokevirtual 86, 3) := by decide +kernel
theorem dX3_spells_36 : decode cX3_spells 36 = .ok (.if_icmp .eq 5, 3) := by decide +kernel
theorem dX3_spells_39 : decode cX3_spells 39 = .ok (.iconst 0, 1) := by decide +kernel
theorem dX3_spells_40 : decode cX3_spells 40 = .ok (.ireturn, 1) := by decide +kernel
theorem dX3_spells_41 : decode cX3_spells 41 = .ok (.iinc 4 1, 3) := by decide +kernel
theorem dX3_spells_44 : decode cX3_spells 44 = .ok (.goto (-29), 3) := by decide +kernel
theorem dX3_spells_47 : decode cX3_spells 47 = .ok (.iconst 1, 1) := by decide +kernel
theorem dX3_spells_48 : decode cX3_spells 48 = .ok (.ireturn, 1) := by decide +kernel
theorem dX3_valueOf_0 : decode cX3_valueOf 0 = .ok (.lconst 0, 1) := by decide +kernel
theorem dX3_valueOf_1 : decode cX3_valueOf 1 = .ok (.lstore_n 3, 1) := by decide +kernel
theorem dX3_valueOf_2 : decode cX3_valueOf 2 = .ok (.iload_n 1, 1) := by decide +kernel
theorem dX3_valueOf_3 : decode cX3_valueOf 3 = .ok (.istore 5, 2) := by decide +kernel
theorem dX3_valueOf_5 : decode cX3_valueOf 5 = .ok (.iload 5, 2) := by decide +kernel
theorem dX3_valueOf_7 : decode cX3_valueOf 7 = .ok (.iload_n 2, 1) := by decide +kernel
theorem dX3_valueOf_8 : decode cX3_valueOf 8 = .ok (.if_icmp .ge 24, 3) := by decide +kernel
theorem dX3_valueOf_11 : decode cX3_valueOf 11 = .ok (.ldc2_w 90, 3) := by decide +kernel
theorem dX3_valueOf_14 : decode cX3_valueOf 14 = .ok (.lload_n 3, 1) := by decide +kernel
theorem dX3_valueOf_15 : decode cX3_valueOf 15 = .ok (.lmul, 1) := by decide +kernel
theorem dX3_valueOf_16 : decode cX3_valueOf 16 = .ok (.aload_n 0, 1) := by decide +kernel
theorem dX3_valueOf_17 : decode cX3_valueOf 17 = .ok (.iload 5, 2) := by decide +kernel
theorem dX3_valueOf_19 : decode cX3_valueOf 19 = .ok (.baload, 1) := by decide +kernel
theorem dX3_valueOf_20 : decode cX3_valueOf 20 = .ok (.bipush 48, 2) := by decide +kernel
theorem dX3_valueOf_22 : decode cX3_valueOf 22 = .ok (.isub, 1) := by decide +kernel
theorem dX3_valueOf_23 : decode cX3_valueOf 23 = .ok (.i2l, 1) := by decide +kernel
theorem dX3_valueOf_24 : decode cX3_valueOf 24 = .ok (.ladd, 1) := by decide +kernel
theorem dX3_valueOf_25 : decode cX3_valueOf 25 = .ok (.lstore_n 3, 1) := by decide +kernel
theorem dX3_valueOf_26 : decode cX3_valueOf 26 = .ok (.iinc 5 1, 3) := by decide +kernel
theorem dX3_valueOf_29 : decode cX3_valueOf 29 = .ok (.goto (-24), 3) := by decide +kernel
theorem dX3_valueOf_32 : decode cX3_valueOf 32 = .ok (.lload_n 3, 1) := by decide +kernel
theorem dX3_valueOf_33 : decode cX3_valueOf 33 = .ok (.lreturn, 1) := by decide +kernel
set_option maxRecDepth 20000 in
theorem ggX3_takesNumber_X3_takeRoom : GoodIn wsX3_takesNumber wsX3_takeRoom := goodIn_r _ [8, 2, 9, 10, 11, 12, 13, 14, 15, 16, 7, 17, 18, 19, 61, 62, 63, 64, 65, 66, 67, 68, 69, 70, 71] (by decide +kernel) (by decide +kernel)
set_option maxRecDepth 20000 in
theorem gX3_takesNumber_X3_takeRoom : GoodIn wsX3_takesNumber (wsV RX3 92 RX3 yX3_takeRoom wsX3_takeRoom) := goodIn_app (goodIn_of _ (by decide +kernel)) ggX3_takesNumber_X3_takeRoom
set_option maxRecDepth 20000 in
theorem ggX3_takesNumber_X3_takeMost : GoodIn wsX3_takesNumber wsX3_takeMost := goodIn_r _ [23, 2, 24, 25, 11, 26, 27, 28, 14, 15, 16, 7, 17, 18, 19, 61, 62, 63, 64, 65, 66, 67, 68, 69, 70, 71] (by decide +kernel) (by decide +kernel)
set_option maxRecDepth 20000 in
theorem gX3_takesNumber_X3_takeMost : GoodIn wsX3_takesNumber (wsV RX3 96 RX3 yX3_takeMost wsX3_takeMost) := goodIn_app (goodIn_of _ (by decide +kernel)) ggX3_takesNumber_X3_takeMost
set_option maxRecDepth 20000 in
theorem ggX3_takesNumber_X1_allWeights : GoodIn wsX3_takesNumber wsX1_allWeights := goodIn_r _ [33, 34, 35, 36, 37, 32, 38, 39, 66, 67, 68, 69, 70, 71] (by decide +kernel) (by decide +kernel)
set_option maxRecDepth 20000 in
theorem gX3_takesNumber_X1_allWeights : GoodIn wsX3_takesNumber (wsV RX3 99 RX1 yX1_allWeights wsX1_allWeights) := goodIn_app (goodIn_of _ (by decide +kernel)) ggX3_takesNumber_X1_allWeights
set_option maxRecDepth 20000 in
theorem ggX3_takesNumber_X3_noteItemsNumber : GoodIn wsX3_takesNumber wsX3_noteItemsNumber := goodIn_r _ [43, 44, 45, 11, 46, 47, 14, 15, 16, 7, 17, 18, 19, 61, 62, 63, 64, 65] (by decide +kernel) (by decide +kernel)
set_option maxRecDepth 20000 in
theorem gX3_takesNumber_X3_noteItemsNumber : GoodIn wsX3_takesNumber (wsV RX3 103 RX3 yX3_noteItemsNumber wsX3_noteItemsNumber) := goodIn_app (goodIn_of _ (by decide +kernel)) ggX3_takesNumber_X3_noteItemsNumber
set_option maxRecDepth 20000 in
theorem ggX3_takesNumber_X1_allProfits : GoodIn wsX3_takesNumber wsX1_allProfits := goodIn_r _ [51, 52, 35, 36, 37, 32, 38, 39, 66, 67, 68, 69, 70, 71] (by decide +kernel) (by decide +kernel)
set_option maxRecDepth 20000 in
theorem gX3_takesNumber_X1_allProfits : GoodIn wsX3_takesNumber (wsV RX3 107 RX1 yX1_allProfits wsX1_allProfits) := goodIn_app (goodIn_of _ (by decide +kernel)) ggX3_takesNumber_X1_allProfits
set_option maxRecDepth 20000 in
theorem ggX3_takesNumber_X3_takeItem : GoodIn wsX3_takesNumber wsX3_takeItem := goodIn_r _ [56, 18, 2, 3, 57, 58, 59, 32, 60, 39, 34, 52, 61, 62, 63, 64, 65, 66, 67, 68, 69, 70, 71] (by decide +kernel) (by decide +kernel)
set_option maxRecDepth 20000 in
theorem gX3_takesNumber_X3_takeItem : GoodIn wsX3_takesNumber (wsV RX3 110 RX3 yX3_takeItem wsX3_takeItem) := goodIn_app (goodIn_of _ (by decide +kernel)) ggX3_takesNumber_X3_takeItem
theorem dX3_takesNumber_0 : decode cX3_takesNumber 0 = .ok (.aload_n 0, 1) := by decide +kernel
theorem dX3_takesNumber_1 : decode cX3_takesNumber 1 = .ok (.getfield 28, 3) := by decide +kernel
theorem dX3_takesNumber_4 : decode cX3_takesNumber 4 = .ok (.tableswitch 110 1 4 #[32, 45, 58, 84], 32) := by decide +kernel
theorem dX3_takesNumber_36 : decode cX3_takesNumber 36 = .ok (.aload_n 0, 1) := by decide +kernel
theorem dX3_takesNumber_37 : decode cX3_takesNumber 37 = .ok (.lload_n 1, 1) := by decide +kernel
theorem dX3_takesNumber_38 : decode cX3_takesNumber 38 = .ok (.iload_n 3, 1) := by decide +kernel
theorem dX3_takesNumber_39 : decode cX3_takesNumber 39 = .ok (.invokevirtual 92, 3) := by decide +kernel
theorem dX3_takesNumber_42 : decode cX3_takesNumber 42 = .ok (.aload_n 0, 1) := by decide +kernel
theorem dX3_takesNumber_43 : decode cX3_takesNumber 43 = .ok (.iconst 5, 1) := by decide +kernel
theorem dX3_takesNumber_44 : decode cX3_takesNumber 44 = .ok (.putfield 28, 3) := by decide +kernel
theorem dX3_takesNumber_47 : decode cX3_takesNumber 47 = .ok (.iconst 1, 1) := by decide +kernel
theorem dX3_takesNumber_48 : decode cX3_takesNumber 48 = .ok (.ireturn, 1) := by decide +kernel
theorem dX3_takesNumber_49 : decode cX3_takesNumber 49 = .ok (.aload_n 0, 1) := by decide +kernel
theorem dX3_takesNumber_50 : decode cX3_takesNumber 50 = .ok (.lload_n 1, 1) := by decide +kernel
theorem dX3_takesNumber_51 : decode cX3_takesNumber 51 = .ok (.iload_n 3, 1) := by decide +kernel
theorem dX3_takesNumber_52 : decode cX3_takesNumber 52 = .ok (.invokevirtual 96, 3) := by decide +kernel
theorem dX3_takesNumber_55 : decode cX3_takesNumber 55 = .ok (.aload_n 0, 1) := by decide +kernel
theorem dX3_takesNumber_56 : decode cX3_takesNumber 56 = .ok (.iconst 5, 1) := by decide +kernel
theorem dX3_takesNumber_57 : decode cX3_takesNumber 57 = .ok (.putfield 28, 3) := by decide +kernel
theorem dX3_takesNumber_60 : decode cX3_takesNumber 60 = .ok (.iconst 1, 1) := by decide +kernel
theorem dX3_takesNumber_61 : decode cX3_takesNumber 61 = .ok (.ireturn, 1) := by decide +kernel
theorem dX3_takesNumber_62 : decode cX3_takesNumber 62 = .ok (.aload_n 0, 1) := by decide +kernel
theorem dX3_takesNumber_63 : decode cX3_takesNumber 63 = .ok (.lload_n 1, 1) := by decide +kernel
theorem dX3_takesNumber_64 : decode cX3_takesNumber 64 = .ok (.aload_n 0, 1) := by decide +kernel
theorem dX3_takesNumber_65 : decode cX3_takesNumber 65 = .ok (.getfield 12, 3) := by decide +kernel
theorem dX3_takesNumber_68 : decode cX3_takesNumber 68 = .ok (.invokevirtual 99, 3) := by decide +kernel
theorem dX3_takesNumber_71 : decode cX3_takesNumber 71 = .ok (.iload_n 3, 1) := by decide +kernel
theorem dX3_takesNumber_72 : decode cX3_takesNumber 72 = .ok (.invokevirtual 103, 3) := by decide +kernel
theorem dX3_takesNumber_75 : decode cX3_takesNumber 75 = .ok (.aload_n 0, 1) := by decide +kernel
theorem dX3_takesNumber_76 : decode cX3_takesNumber 76 = .ok (.lload_n 1, 1) := by decide +kernel
theorem dX3_takesNumber_77 : decode cX3_takesNumber 77 = .ok (.l2i, 1) := by decide +kernel
theorem dX3_takesNumber_78 : decode cX3_takesNumber 78 = .ok (.putfield 31, 3) := by decide +kernel
theorem dX3_takesNumber_81 : decode cX3_takesNumber 81 = .ok (.aload_n 0, 1) := by decide +kernel
theorem dX3_takesNumber_82 : decode cX3_takesNumber 82 = .ok (.iconst 4, 1) := by decide +kernel
theorem dX3_takesNumber_83 : decode cX3_takesNumber 83 = .ok (.putfield 28, 3) := by decide +kernel
theorem dX3_takesNumber_86 : decode cX3_takesNumber 86 = .ok (.iconst 1, 1) := by decide +kernel
theorem dX3_takesNumber_87 : decode cX3_takesNumber 87 = .ok (.ireturn, 1) := by decide +kernel
theorem dX3_takesNumber_88 : decode cX3_takesNumber 88 = .ok (.aload_n 0, 1) := by decide +kernel
theorem dX3_takesNumber_89 : decode cX3_takesNumber 89 = .ok (.lload_n 1, 1) := by decide +kernel
theorem dX3_takesNumber_90 : decode cX3_takesNumber 90 = .ok (.aload_n 0, 1) := by decide +kernel
theorem dX3_takesNumber_91 : decode cX3_takesNumber 91 = .ok (.getfield 12, 3) := by decide +kernel
theorem dX3_takesNumber_94 : decode cX3_takesNumber 94 = .ok (.invokevirtual 107, 3) := by decide +kernel
theorem dX3_takesNumber_97 : decode cX3_takesNumber 97 = .ok (.iload_n 3, 1) := by decide +kernel
theorem dX3_takesNumber_98 : decode cX3_takesNumber 98 = .ok (.invokevirtual 103, 3) := by decide +kernel
theorem dX3_takesNumber_101 : decode cX3_takesNumber 101 = .ok (.aload_n 0, 1) := by decide +kernel
theorem dX3_takesNumber_102 : decode cX3_takesNumber 102 = .ok (.lload_n 1, 1) := by decide +kernel
theorem dX3_takesNumber_103 : decode cX3_takesNumber 103 = .ok (.l2i, 1) := by decide +kernel
theorem dX3_takesNumber_104 : decode cX3_takesNumber 104 = .ok (.invokevirtual 110, 3) := by decide +kernel
theorem dX3_takesNumber_107 : decode cX3_takesNumber 107 = .ok (.aload_n 0, 1) := by decide +kernel
theorem dX3_takesNumber_108 : decode cX3_takesNumber 108 = .ok (.iconst 5, 1) := by decide +kernel
theorem dX3_takesNumber_109 : decode cX3_takesNumber 109 = .ok (.putfield 28, 3) := by decide +kernel
theorem dX3_takesNumber_112 : decode cX3_takesNumber 112 = .ok (.iconst 1, 1) := by decide +kernel
theorem dX3_takesNumber_113 : decode cX3_takesNumber 113 = .ok (.ireturn, 1) := by decide +kernel
theorem dX3_takesNumber_114 : decode cX3_takesNumber 114 = .ok (.iconst 0, 1) := by decide +kernel
theorem dX3_takesNumber_115 : decode cX3_takesNumber 115 = .ok (.ireturn, 1) := by decide +kernel
set_option maxRecDepth 20000 in
theorem ggX3_takeRoom_X6_canBeRoom : GoodIn wsX3_takeRoom wsX6_canBeRoom := goodIn_r _ [5, 6] (by decide +kernel) (by decide +kernel)
set_option maxRecDepth 20000 in
theorem gX3_takeRoom_X6_canBeRoom_n114 : GoodIn wsX3_takeRoom (wsX6_canBeRoom) := ggX3_takeRoom_X6_canBeRoom
set_option maxRecDepth 20000 in
theorem ggX3_takeRoom_X3_note : GoodIn wsX3_takeRoom wsX3_note := goodIn_r _ [11, 12, 13, 14, 15, 16, 17, 18] (by decide +kernel) (by decide +kernel)
set_option maxRecDepth 20000 in
theorem gX3_takeRoom_X3_note : GoodIn wsX3_takeRoom (wsV RX3 76 RX3 yX3_note wsX3_note) := goodIn_app (goodIn_of _ (by decide +kernel)) ggX3_takeRoom_X3_note
theorem dX3_takeRoom_0 : decode cX3_takeRoom 0 = .ok (.lload_n 1, 1) := by decide +kernel
theorem dX3_takeRoom_1 : decode cX3_takeRoom 1 = .ok (.invokestatic 114, 3) := by decide +kernel
theorem dX3_takeRoom_4 : decode cX3_takeRoom 4 = .ok (.ifCond .eq 15, 3) := by decide +kernel
theorem dX3_takeRoom_7 : decode cX3_takeRoom 7 = .ok (.aload_n 0, 1) := by decide +kernel
theorem dX3_takeRoom_8 : decode cX3_takeRoom 8 = .ok (.getfield 12, 3) := by decide +kernel
theorem dX3_takeRoom_11 : decode cX3_takeRoom 11 = .ok (.lload_n 1, 1) := by decide +kernel
theorem dX3_takeRoom_12 : decode cX3_takeRoom 12 = .ok (.l2i, 1) := by decide +kernel
theorem dX3_takeRoom_13 : decode cX3_takeRoom 13 = .ok (.putfield 118, 3) := by decide +kernel
theorem dX3_takeRoom_16 : decode cX3_takeRoom 16 = .ok (.goto 9, 3) := by decide +kernel
theorem dX3_takeRoom_19 : decode cX3_takeRoom 19 = .ok (.aload_n 0, 1) := by decide +kernel
theorem dX3_takeRoom_20 : decode cX3_takeRoom 20 = .ok (.iconst 2, 1) := by decide +kernel
theorem dX3_takeRoom_21 : decode cX3_takeRoom 21 = .ok (.iload_n 3, 1) := by decide +kernel
theorem dX3_takeRoom_22 : decode cX3_takeRoom 22 = .ok (.invokevirtual 76, 3) := by decide +kernel
theorem dX3_takeRoom_25 : decode cX3_takeRoom 25 = .ok (.return_, 1) := by decide +kernel
set_option maxRecDepth 20000 in
theorem ggX3_takeMost_X6_canBeMost : GoodIn wsX3_takeMost wsX6_canBeMost := goodIn_r _ [5, 6, 7] (by decide +kernel) (by decide +kernel)
set_option maxRecDepth 20000 in
theorem gX3_takeMost_X6_canBeMost_n120 : GoodIn wsX3_takeMost (wsX6_canBeMost) := ggX3_takeMost_X6_canBeMost
set_option maxRecDepth 20000 in
theorem ggX3_takeMost_X3_note : GoodIn wsX3_takeMost wsX3_note := goodIn_r _ [12, 13, 14, 15, 16, 17, 18, 19] (by decide +kernel) (by decide +kernel)
set_option maxRecDepth 20000 in
theorem gX3_takeMost_X3_note : GoodIn wsX3_takeMost (wsV RX3 76 RX3 yX3_note wsX3_note) := goodIn_app (goodIn_of _ (by decide +kernel)) ggX3_takeMost_X3_note
theorem dX3_takeMost_0 : decode cX3_takeMost 0 = .ok (.lload_n 1, 1) := by decide +kernel
theorem dX3_takeMost_1 : decode cX3_takeMost 1 = .ok (.invokestatic 120, 3) := by decide +kernel
theorem dX3_takeMost_4 : decode cX3_takeMost 4 = .ok (.ifCond .eq 15, 3) := by decide +kernel
theorem dX3_takeMost_7 : decode cX3_takeMost 7 = .ok (.aload_n 0, 1) := by decide +kernel
theorem dX3_takeMost_8 : decode cX3_takeMost 8 = .ok (.getfield 12, 3) := by decide +kernel
theorem dX3_takeMost_11 : decode cX3_takeMost 11 = .ok (.lload_n 1, 1) := by decide +kernel
theorem dX3_takeMost_12 : decode cX3_takeMost 12 = .ok (.l2i, 1) := by decide +kernel
theorem dX3_takeMost_13 : decode cX3_takeMost 13 = .ok (.putfield 123, 3) := by decide +kernel
theorem dX3_takeMost_16 : decode cX3_takeMost 16 = .ok (.goto 9, 3) := by decide +kernel
theorem dX3_takeMost_19 : decode cX3_takeMost 19 = .ok (.aload_n 0, 1) := by decide +kernel
theorem dX3_takeMost_20 : decode cX3_takeMost 20 = .ok (.iconst 2, 1) := by decide +kernel
theorem dX3_takeMost_21 : decode cX3_takeMost 21 = .ok (.iload_n 3, 1) := by decide +kernel
theorem dX3_takeMost_22 : decode cX3_takeMost 22 = .ok (.invokevirtual 76, 3) := by decide +kernel
theorem dX3_takeMost_25 : decode cX3_takeMost 25 = .ok (.return_, 1) := by decide +kernel
set_option maxRecDepth 20000 in
theorem ggX3_noteItemsNumber_X6_canBeItemsNumber : GoodIn wsX3_noteItemsNumber wsX6_canBeItemsNumber := goodIn_r _ [4, 5] (by decide +kernel) (by decide +kernel)
set_option maxRecDepth 20000 in
theorem gX3_noteItemsNumber_X6_canBeItemsNumber_n125 : GoodIn wsX3_noteItemsNumber (wsX6_canBeItemsNumber) := ggX3_noteItemsNumber_X6_canBeItemsNumber
set_option maxRecDepth 20000 in
theorem ggX3_noteItemsNumber_X3_note : GoodIn wsX3_noteItemsNumber wsX3_note := goodIn_r _ [10, 11, 12, 13, 14, 15, 16, 17] (by decide +kernel) (by decide +kernel)
set_option maxRecDepth 20000 in
theorem gX3_noteItemsNumber_X3_note : GoodIn wsX3_noteItemsNumber (wsV RX3 76 RX3 yX3_note wsX3_note) := goodIn_app (goodIn_of _ (by decide +kernel)) ggX3_noteItemsNumber_X3_note
theorem dX3_noteItemsNumber_0 : decode cX3_noteItemsNumber 0 = .ok (.lload_n 1, 1) := by decide +kernel
theorem dX3_noteItemsNumber_1 : decode cX3_noteItemsNumber 1 = .ok (.invokestatic 125, 3) := by decide +kernel
theorem dX3_noteItemsNumber_4 : decode cX3_noteItemsNumber 4 = .ok (.ifCond .ne 13, 3) := by decide +kernel
theorem dX3_noteItemsNumber_7 : decode cX3_noteItemsNumber 7 = .ok (.aload_n 0, 1) := by decide +kernel
theorem dX3_noteItemsNumber_8 : decode cX3_noteItemsNumber 8 = .ok (.iconst 2, 1) := by decide +kernel
theorem dX3_noteItemsNumber_9 : decode cX3_noteItemsNumber 9 = .ok (.iload 5, 2) := by decide +kernel
theorem dX3_noteItemsNumber_11 : decode cX3_noteItemsNumber 11 = .ok (.invokevirtual 76, 3) := by decide +kernel
theorem dX3_noteItemsNumber_14 : decode cX3_noteItemsNumber 14 = .ok (.goto 20, 3) := by decide +kernel
theorem dX3_noteItemsNumber_17 : decode cX3_noteItemsNumber 17 = .ok (.lload_n 3, 1) := by decide +kernel
theorem dX3_noteItemsNumber_18 : decode cX3_noteItemsNumber 18 = .ok (.lload_n 1, 1) := by decide +kernel
theorem dX3_noteItemsNumber_19 : decode cX3_noteItemsNumber 19 = .ok (.ladd, 1) := by decide +kernel
theorem dX3_noteItemsNumber_20 : decode cX3_noteItemsNumber 20 = .ok (.ldc2_w 128, 3) := by decide +kernel
theorem dX3_noteItemsNumber_23 : decode cX3_noteItemsNumber 23 = .ok (.lcmp, 1) := by decide +kernel
theorem dX3_noteItemsNumber_24 : decode cX3_noteItemsNumber 24 = .ok (.ifCond .le 10, 3) := by decide +kernel
theorem dX3_noteItemsNumber_27 : decode cX3_noteItemsNumber 27 = .ok (.aload_n 0, 1) := by decide +kernel
theorem dX3_noteItemsNumber_28 : decode cX3_noteItemsNumber 28 = .ok (.iconst 4, 1) := by decide +kernel
theorem dX3_noteItemsNumber_29 : decode cX3_noteItemsNumber 29 = .ok (.iload 5, 2) := by decide +kernel
theorem dX3_noteItemsNumber_31 : decode cX3_noteItemsNumber 31 = .ok (.invokevirtual 76, 3) := by decide +kernel
theorem dX3_noteItemsNumber_34 : decode cX3_noteItemsNumber 34 = .ok (.return_, 1) := by decide +kernel
set_option maxRecDepth 20000 in
theorem ggX3_takeItem_X1_put : GoodIn wsX3_takeItem wsX1_put := goodIn_r _ [8, 9, 10, 11, 17, 18, 19, 20, 21, 22] (by decide +kernel) (by decide +kernel)
set_option maxRecDepth 20000 in
theorem gX3_takeItem_X1_put : GoodIn wsX3_takeItem (wsV RX3 130 RX1 yX1_put wsX1_put) := goodIn_app (goodIn_of _ (by decide +kernel)) ggX3_takeItem_X1_put
theorem dX3_takeItem_0 : decode cX3_takeItem 0 = .ok (.aload_n 0, 1) := by decide +kernel
theorem dX3_takeItem_1 : decode cX3_takeItem 1 = .ok (.getfield 21, 3) := by decide +kernel
theorem dX3_takeItem_4 : decode cX3_takeItem 4 = .ok (.ifCond .ne 15, 3) := by decide +kernel
theorem dX3_takeItem_7 : decode cX3_takeItem 7 = .ok (.aload_n 0, 1) := by decide +kernel
theorem dX3_takeItem_8 : decode cX3_takeItem 8 = .ok (.getfield 12, 3) := by decide +kernel
theorem dX3_takeItem_11 : decode cX3_takeItem 11 = .ok (.aload_n 0, 1) := by decide +kernel
theorem dX3_takeItem_12 : decode cX3_takeItem 12 = .ok (.getfield 31, 3) := by decide +kernel
theorem dX3_takeItem_15 : decode cX3_takeItem 15 = .ok (.iload_n 1, 1) := by decide +kernel
theorem dX3_takeItem_16 : decode cX3_takeItem 16 = .ok (.invokevirtual 130, 3) := by decide +kernel
theorem dX3_takeItem_19 : decode cX3_takeItem 19 = .ok (.return_, 1) := by decide +kernel
theorem dX3_note_0 : decode cX3_note 0 = .ok (.aload_n 0, 1) := by decide +kernel
theorem dX3_note_1 : decode cX3_note 1 = .ok (.getfield 21, 3) := by decide +kernel
theorem dX3_note_4 : decode cX3_note 4 = .ok (.ifCond .ne 13, 3) := by decide +kernel
theorem dX3_note_7 : decode cX3_note 7 = .ok (.aload_n 0, 1) := by decide +kernel
theorem dX3_note_8 : decode cX3_note 8 = .ok (.iload_n 1, 1) := by decide +kernel
theorem dX3_note_9 : decode cX3_note 9 = .ok (.putfield 21, 3) := by decide +kernel
theorem dX3_note_12 : decode cX3_note 12 = .ok (.aload_n 0, 1) := by decide +kernel
theorem dX3_note_13 : decode cX3_note 13 = .ok (.iload_n 2, 1) := by decide +kernel
theorem dX3_note_14 : decode cX3_note 14 = .ok (.putfield 25, 3) := by decide +kernel
theorem dX3_note_17 : decode cX3_note 17 = .ok (.return_, 1) := by decide +kernel
theorem dX4_init_0 : decode cX4_init 0 = .ok (.aload_n 0, 1) := by decide +kernel
theorem dX4_init_1 : decode cX4_init 1 = .ok (.invokespecial 1, 3) := by decide +kernel
theorem dX4_init_4 : decode cX4_init 4 = .ok (.aload_n 0, 1) := by decide +kernel
theorem dX4_init_5 : decode cX4_init 5 = .ok (.bipush 16, 2) := by decide +kernel
theorem dX4_init_7 : decode cX4_init 7 = .ok (.newarray .int, 2) := by decide +kernel
theorem dX4_init_9 : decode cX4_init 9 = .ok (.putfield 9, 3) := by decide +kernel
theorem dX4_init_12 : decode cX4_init 12 = .ok (.aload_n 0, 1) := by decide +kernel
theorem dX4_init_13 : decode cX4_init 13 = .ok (.bipush 16, 2) := by decide +kernel
theorem dX4_init_15 : decode cX4_init 15 = .ok (.newarray .int, 2) := by decide +kernel
theorem dX4_init_17 : decode cX4_init 17 = .ok (.putfield 13, 3) := by decide +kernel
theorem dX4_init_20 : decode cX4_init 20 = .ok (.aload_n 0, 1) := by decide +kernel
theorem dX4_init_21 : decode cX4_init 21 = .ok (.bipush 16, 2) := by decide +kernel
theorem dX4_init_23 : decode cX4_init 23 = .ok (.newarray .long, 2) := by decide +kernel
theorem dX4_init_25 : decode cX4_init 25 = .ok (.putfield 16, 3) := by decide +kernel
theorem dX4_init_28 : decode cX4_init 28 = .ok (.return_, 1) := by decide +kernel
theorem dX4_has_0 : decode cX4_has 0 = .ok (.iload_n 1, 1) := by decide +kernel
theorem dX4_has_1 : decode cX4_has 1 = .ok (.ifCond .lt 15, 3) := by decide +kernel
theorem dX4_has_4 : decode cX4_has 4 = .ok (.iload_n 1, 1) := by decide +kernel
theorem dX4_has_5 : decode cX4_has 5 = .ok (.aload_n 0, 1) := by decide +kernel
theorem dX4_has_6 : decode cX4_has 6 = .ok (.getfield 20, 3) := by decide +kernel
theorem dX4_has_9 : decode cX4_has 9 = .ok (.if_icmp .ge 7, 3) := by decide +kernel
theorem dX4_has_12 : decode cX4_has 12 = .ok (.iconst 1, 1) := by decide +kernel
theorem dX4_has_13 : decode cX4_has 13 = .ok (.goto 4, 3) := by decide +kernel
theorem dX4_has_16 : decode cX4_has 16 = .ok (.iconst 0, 1) := by decide +kernel
theorem dX4_has_17 : decode cX4_has 17 = .ok (.ireturn, 1) := by decide +kernel
set_option maxRecDepth 20000 in
theorem ggX4_put_J7_copyOf_59c91 : GoodIn wsX4_put wsJ7_copyOf_59c91 := goodIn_r _ [8, 9, 10, 11, 12, 13, 14, 15, 16, 17, 18, 19, 20, 21, 22, 23] (by decide +kernel) (by decide +kernel)
set_option maxRecDepth 20000 in
theorem gX4_put_J7_copyOf_59c91 : GoodIn wsX4_put (va_wsS RX4 24 yJ7_copyOf_59c91 wsJ7_copyOf_59c91) := goodIn_app (goodIn_of _ (by decide +kernel)) ggX4_put_J7_copyOf_59c91
set_option maxRecDepth 20000 in
theorem ggX4_put_J7_copyOf_c38d5 : GoodIn wsX4_put wsJ7_copyOf_c38d5 := goodIn_r _ [26, 27, 28, 11, 12, 29, 30, 31, 16, 17, 18, 19, 20, 21, 22, 23] (by decide +kernel) (by decide +kernel)
set_option maxRecDepth 20000 in
theorem gX4_put_J7_copyOf_c38d5 : GoodIn wsX4_put (va_wsS RX4 30 yJ7_copyOf_c38d5 wsJ7_copyOf_c38d5) := goodIn_app (goodIn_of _ (by decide +kernel)) ggX4_put_J7_copyOf_c38d5
theorem dX4_put_0 : decode cX4_put 0 = .ok (.aload_n 0, 1) := by decide +kernel
theorem dX4_put_1 : decode cX4_put 1 = .ok (.getfield 20, 3) := by decide +kernel
theorem dX4_put_4 : decode cX4_put 4 = .ok (.aload_n 0, 1) := by decide +kernel
theorem dX4_put_5 : decode cX4_put 5 = .ok (.getfield 9, 3) := by decide +kernel
theorem dX4_put_8 : decode cX4_put 8 = .ok (.arraylength, 1) := by decide +kernel
theorem dX4_put_9 : decode cX4_put 9 = .ok (.if_icmp .lt 51, 3) := by decide +kernel
theorem dX4_put_12 : decode cX4_put 12 = .ok (.iconst 2, 1) := by decide +kernel
theorem dX4_put_13 : decode cX4_put 13 = .ok (.aload_n 0, 1) := by decide +kernel
theorem dX4_put_14 : decode cX4_put 14 = .ok (.getfield 9, 3) := by decide +kernel
theorem dX4_put_17 : decode cX4_put 17 = .ok (.arraylength, 1) := by decide +kernel
theorem dX4_put_18 : decode cX4_put 18 = .ok (.imul, 1) := by decide +kernel
theorem dX4_put_19 : decode cX4_put 19 = .ok (.istore 5, 2) := by decide +kernel
theorem dX4_put_21 : decode cX4_put 21 = .ok (.aload_n 0, 1) := by decide +kernel
theorem dX4_put_22 : decode cX4_put 22 = .ok (.aload_n 0, 1) := by decide +kernel
theorem dX4_put_23 : decode cX4_put 23 = .ok (.getfield 9, 3) := by decide +kernel
theorem dX4_put_26 : decode cX4_put 26 = .ok (.iload 5, 2) := by decide +kernel
theorem dX4_put_28 : decode cX4_put 28 = .ok (.invokestatic 24, 3) := by decide +kernel
theorem dX4_put_31 : decode cX4_put 31 = .ok (.putfield 9, 3) := by decide +kernel
theorem dX4_put_34 : decode cX4_put 34 = .ok (.aload_n 0, 1) := by decide +kernel
theorem dX4_put_35 : decode cX4_put 35 = .ok (.aload_n 0, 1) := by decide +kernel
theorem dX4_put_36 : decode cX4_put 36 = .ok (.getfield 13, 3) := by decide +kernel
theorem dX4_put_39 : decode cX4_put 39 = .ok (.iload 5, 2) := by decide +kernel
theorem dX4_put_41 : decode cX4_put 41 = .ok (.invokestatic 24, 3) := by decide +kernel
theorem dX4_put_44 : decode cX4_put 44 = .ok (.putfield 13, 3) := by decide +kernel
theorem dX4_put_47 : decode cX4_put 47 = .ok (.aload_n 0, 1) := by decide +kernel
theorem dX4_put_48 : decode cX4_put 48 = .ok (.aload_n 0, 1) := by decide +kernel
theorem dX4_put_49 : decode cX4_put 49 = .ok (.getfield 16, 3) := by decide +kernel
theorem dX4_put_52 : decode cX4_put 52 = .ok (.iload 5, 2) := by decide +kernel
theorem dX4_put_54 : decode cX4_put 54 = .ok (.invokestatic 30, 3) := by decide +kernel
theorem dX4_put_57 : decode cX4_put 57 = .ok (.putfield 16, 3) := by decide +kernel
theorem dX4_put_60 : decode cX4_put 60 = .ok (.aload_n 0, 1) := by decide +kernel
theorem dX4_put_61 : decode cX4_put 61 = .ok (.getfield 9, 3) := by decide +kernel
theorem dX4_put_64 : decode cX4_put 64 = .ok (.aload_n 0, 1) := by decide +kernel
theorem dX4_put_65 : decode cX4_put 65 = .ok (.getfield 20, 3) := by decide +kernel
theorem dX4_put_68 : decode cX4_put 68 = .ok (.iload_n 1, 1) := by decide +kernel
theorem dX4_put_69 : decode cX4_put 69 = .ok (.iastore, 1) := by decide +kernel
theorem dX4_put_70 : decode cX4_put 70 = .ok (.aload_n 0, 1) := by decide +kernel
theorem dX4_put_71 : decode cX4_put 71 = .ok (.getfield 13, 3) := by decide +kernel
theorem dX4_put_74 : decode cX4_put 74 = .ok (.aload_n 0, 1) := by decide +kernel
theorem dX4_put_75 : decode cX4_put 75 = .ok (.getfield 20, 3) := by decide +kernel
theorem dX4_put_78 : decode cX4_put 78 = .ok (.iload_n 2, 1) := by decide +kernel
theorem dX4_put_79 : decode cX4_put 79 = .ok (.iastore, 1) := by decide +kernel
theorem dX4_put_80 : decode cX4_put 80 = .ok (.aload_n 0, 1) := by decide +kernel
theorem dX4_put_81 : decode cX4_put 81 = .ok (.getfield 16, 3) := by decide +kernel
theorem dX4_put_84 : decode cX4_put 84 = .ok (.aload_n 0, 1) := by decide +kernel
theorem dX4_put_85 : decode cX4_put 85 = .ok (.getfield 20, 3) := by decide +kernel
theorem dX4_put_88 : decode cX4_put 88 = .ok (.lload_n 3, 1) := by decide +kernel
theorem dX4_put_89 : decode cX4_put 89 = .ok (.lastore, 1) := by decide +kernel
theorem dX4_put_90 : decode cX4_put 90 = .ok (.aload_n 0, 1) := by decide +kernel
theorem dX4_put_91 : decode cX4_put 91 = .ok (.dup, 1) := by decide +kernel
theorem dX4_put_92 : decode cX4_put 92 = .ok (.getfield 20, 3) := by decide +kernel
theorem dX4_put_95 : decode cX4_put 95 = .ok (.iconst 1, 1) := by decide +kernel
theorem dX4_put_96 : decode cX4_put 96 = .ok (.iadd, 1) := by decide +kernel
theorem dX4_put_97 : decode cX4_put 97 = .ok (.putfield 20, 3) := by decide +kernel
theorem dX4_put_100 : decode cX4_put 100 = .ok (.return_, 1) := by decide +kernel
theorem dX4_move_0 : decode cX4_move 0 = .ok (.aload_n 0, 1) := by decide +kernel
theorem dX4_move_1 : decode cX4_move 1 = .ok (.getfield 9, 3) := by decide +kernel
theorem dX4_move_4 : decode cX4_move 4 = .ok (.iload_n 2, 1) := by decide +kernel
theorem dX4_move_5 : decode cX4_move 5 = .ok (.aload_n 0, 1) := by decide +kernel
theorem dX4_move_6 : decode cX4_move 6 = .ok (.getfield 9, 3) := by decide +kernel
theorem dX4_move_9 : decode cX4_move 9 = .ok (.iload_n 1, 1) := by decide +kernel
theorem dX4_move_10 : decode cX4_move 10 = .ok (.iaload, 1) := by decide +kernel
theorem dX4_move_11 : decode cX4_move 11 = .ok (.iastore, 1) := by decide +kernel
theorem dX4_move_12 : decode cX4_move 12 = .ok (.aload_n 0, 1) := by decide +kernel
theorem dX4_move_13 : decode cX4_move 13 = .ok (.getfield 13, 3) := by decide +kernel
theorem dX4_move_16 : decode cX4_move 16 = .ok (.iload_n 2, 1) := by decide +kernel
theorem dX4_move_17 : decode cX4_move 17 = .ok (.aload_n 0, 1) := by decide +kernel
theorem dX4_move_18 : decode cX4_move 18 = .ok (.getfield 13, 3) := by decide +kernel
theorem dX4_move_21 : decode cX4_move 21 = .ok (.iload_n 1, 1) := by decide +kernel
theorem dX4_move_22 : decode cX4_move 22 = .ok (.iaload, 1) := by decide +kernel
theorem dX4_move_23 : decode cX4_move 23 = .ok (.iastore, 1) := by decide +kernel
theorem dX4_move_24 : decode cX4_move 24 = .ok (.aload_n 0, 1) := by decide +kernel
theorem dX4_move_25 : decode cX4_move 25 = .ok (.getfield 16, 3) := by decide +kernel
theorem dX4_move_28 : decode cX4_move 28 = .ok (.iload_n 2, 1) := by decide +kernel
theorem dX4_move_29 : decode cX4_move 29 = .ok (.aload_n 0, 1) := by decide +kernel
theorem dX4_move_30 : decode cX4_move 30 = .ok (.getfield 16, 3) := by decide +kernel
theorem dX4_move_33 : decode cX4_move 33 = .ok (.iload_n 1, 1) := by decide +kernel
theorem dX4_move_34 : decode cX4_move 34 = .ok (.laload, 1) := by decide +kernel
theorem dX4_move_35 : decode cX4_move 35 = .ok (.lastore, 1) := by decide +kernel
theorem dX4_move_36 : decode cX4_move 36 = .ok (.return_, 1) := by decide +kernel
set_option maxRecDepth 20000 in
theorem ggX4_mergeOf_X4_isAhead : GoodIn wsX4_mergeOf wsX4_isAhead := goodIn_r _ [9, 3, 2, 4, 41, 42, 43, 44] (by decide +kernel) (by decide +kernel)
set_option maxRecDepth 20000 in
theorem gX4_mergeOf_X4_isAhead : GoodIn wsX4_mergeOf (wsV RX4 33 RX4 yX4_isAhead wsX4_isAhead) := goodIn_app (goodIn_of _ (by decide +kernel)) ggX4_mergeOf_X4_isAhead
set_option maxRecDepth 20000 in
theorem ggX4_mergeOf_X4_put : GoodIn wsX4_mergeOf wsX4_put := goodIn_r _ [13, 1, 3, 2, 4, 14, 15, 16, 17, 18, 19, 20, 21, 22, 23, 24, 25, 26, 27, 28, 29, 30, 31, 32, 33, 34, 35, 36, 37, 38, 39, 40, 41, 42, 43, 44] (by decide +kernel) (by decide +kernel)
set_option maxRecDepth 20000 in
theorem gX4_mergeOf_X4_put : GoodIn wsX4_mergeOf (wsV RX4 37 RX4 yX4_put wsX4_put) := goodIn_app (goodIn_of _ (by decide +kernel)) ggX4_mergeOf_X4_put
theorem dX4_mergeOf_0 : decode cX4_mergeOf 0 = .ok (.aload_n 0, 1) := by decide +kernel
theorem dX4_mergeOf_1 : decode cX4_mergeOf 1 = .ok (.iconst 0, 1) := by decide +kernel
theorem dX4_mergeOf_2 : decode cX4_mergeOf 2 = .ok (.putfield 20, 3) := by decide +kernel
theorem dX4_mergeOf_5 : decode cX4_mergeOf 5 = .ok (.iconst 0, 1) := by decide +kernel
theorem dX4_mergeOf_6 : decode cX4_mergeOf 6 = .ok (.istore 7, 2) := by decide +kernel
theorem dX4_mergeOf_8 : decode cX4_mergeOf 8 = .ok (.iconst 0, 1) := by decide +kernel
theorem dX4_mergeOf_9 : decode cX4_mergeOf 9 = .ok (.istore 8, 2) := by decide +kernel
theorem dX4_mergeOf_11 : decode cX4_mergeOf 11 = .ok (.iload 8, 2) := by decide +kernel
theorem dX4_mergeOf_13 : decode cX4_mergeOf 13 = .ok (.iconst 2, 1) := by decide +kernel
theorem dX4_mergeOf_14 : decode cX4_mergeOf 14 = .ok (.aload_n 1, 1) := by decide +kernel
theorem dX4_mergeOf_15 : decode cX4_mergeOf 15 = .ok (.getfield 20, 3) := by decide +kernel
theorem dX4_mergeOf_18 : decode cX4_mergeOf 18 = .ok (.imul, 1) := by decide +kernel
theorem dX4_mergeOf_19 : decode cX4_mergeOf 19 = .ok (.if_icmp .ge 185, 3) := by decide +kernel
theorem dX4_mergeOf_22 : decode cX4_mergeOf 22 = .ok (.iload 8, 2) := by decide +kernel
theorem dX4_mergeOf_24 : decode cX4_mergeOf 24 = .ok (.iload 7, 2) := by decide +kernel
theorem dX4_mergeOf_26 : decode cX4_mergeOf 26 = .ok (.isub, 1) := by decide +kernel
theorem dX4_mergeOf_27 : decode cX4_mergeOf 27 = .ok (.istore 9, 2) := by decide +kernel
theorem dX4_mergeOf_29 : decode cX4_mergeOf 29 = .ok (.iload 9, 2) := by decide +kernel
theorem dX4_mergeOf_31 : decode cX4_mergeOf 31 = .ok (.aload_n 1, 1) := by decide +kernel
theorem dX4_mergeOf_32 : decode cX4_mergeOf 32 = .ok (.getfield 20, 3) := by decide +kernel
theorem dX4_mergeOf_35 : decode cX4_mergeOf 35 = .ok (.if_icmp .ge 27, 3) := by decide +kernel
theorem dX4_mergeOf_38 : decode cX4_mergeOf 38 = .ok (.iload 7, 2) := by decide +kernel
theorem dX4_mergeOf_40 : decode cX4_mergeOf 40 = .ok (.aload_n 1, 1) := by decide +kernel
theorem dX4_mergeOf_41 : decode cX4_mergeOf 41 = .ok (.getfield 20, 3) := by decide +kernel
theorem dX4_mergeOf_44 : decode cX4_mergeOf 44 = .ok (.if_icmp .ge 22, 3) := by decide +kernel
theorem dX4_mergeOf_47 : decode cX4_mergeOf 47 = .ok (.aload_n 1, 1) := by decide +kernel
theorem dX4_mergeOf_48 : decode cX4_mergeOf 48 = .ok (.iload 7, 2) := by decide +kernel
theorem dX4_mergeOf_50 : decode cX4_mergeOf 50 = .ok (.iload 9, 2) := by decide +kernel
theorem dX4_mergeOf_52 : decode cX4_mergeOf 52 = .ok (.iload_n 2, 1) := by decide +kernel
theorem dX4_mergeOf_53 : decode cX4_mergeOf 53 = .ok (.iload_n 3, 1) := by decide +kernel
theorem dX4_mergeOf_54 : decode cX4_mergeOf 54 = .ok (.lload 4, 2) := by decide +kernel
theorem dX4_mergeOf_56 : decode cX4_mergeOf 56 = .ok (.invokevirtual 33, 3) := by decide +kernel
theorem dX4_mergeOf_59 : decode cX4_mergeOf 59 = .ok (.ifCond .eq 7, 3) := by decide +kernel
theorem dX4_mergeOf_62 : decode cX4_mergeOf 62 = .ok (.iconst 1, 1) := by decide +kernel
theorem dX4_mergeOf_63 : decode cX4_mergeOf 63 = .ok (.goto 4, 3) := by decide +kernel
theorem dX4_mergeOf_66 : decode cX4_mergeOf 66 = .ok (.iconst 0, 1) := by decide +kernel
theorem dX4_mergeOf_67 : decode cX4_mergeOf 67 = .ok (.istore 10, 2) := by decide +kernel
theorem dX4_mergeOf_69 : decode cX4_mergeOf 69 = .ok (.iload 10, 2) := by decide +kernel
theorem dX4_mergeOf_71 : decode cX4_mergeOf 71 = .ok (.ifCond .eq 8, 3) := by decide +kernel
theorem dX4_mergeOf_74 : decode cX4_mergeOf 74 = .ok (.iload 7, 2) := by decide +kernel
theorem dX4_mergeOf_76 : decode cX4_mergeOf 76 = .ok (.goto 5, 3) := by decide +kernel
theorem dX4_mergeOf_79 : decode cX4_mergeOf 79 = .ok (.iload 9, 2) := by decide +kernel
theorem dX4_mergeOf_81 : decode cX4_mergeOf 81 = .ok (.istore 11, 2) := by decide +kernel
theorem dX4_mergeOf_83 : decode cX4_mergeOf 83 = .ok (.aload_n 1, 1) := by decide +kernel
theorem dX4_mergeOf_84 : decode cX4_mergeOf 84 = .ok (.getfield 13, 3) := by decide +kernel
theorem dX4_mergeOf_87 : decode cX4_mergeOf 87 = .ok (.iload 11, 2) := by decide +kernel
theorem dX4_mergeOf_89 : decode cX4_mergeOf 89 = .ok (.iaload, 1) := by decide +kernel
theorem dX4_mergeOf_90 : decode cX4_mergeOf 90 = .ok (.iload 10, 2) := by decide +kernel
theorem dX4_mergeOf_92 : decode cX4_mergeOf 92 = .ok (.ifCond .eq 7, 3) := by decide +kernel
theorem dX4_mergeOf_95 : decode cX4_mergeOf 95 = .ok (.iconst 0, 1) := by decide +kernel
theorem dX4_mergeOf_96 : decode cX4_mergeOf 96 = .ok (.goto 4, 3) := by decide +kernel
theorem dX4_mergeOf_99 : decode cX4_mergeOf 99 = .ok (.iload_n 3, 1) := by decide +kernel
theorem dX4_mergeOf_100 : decode cX4_mergeOf 100 = .ok (.iadd, 1) := by decide +kernel
theorem dX4_mergeOf_101 : decode cX4_mergeOf 101 = .ok (.istore 12, 2) := by decide +kernel
theorem dX4_mergeOf_103 : decode cX4_mergeOf 103 = .ok (.iload 7, 2) := by decide +kernel
theorem dX4_mergeOf_105 : decode cX4_mergeOf 105 = .ok (.iload 10, 2) := by decide +kernel
theorem dX4_mergeOf_107 : decode cX4_mergeOf 107 = .ok (.ifCond .eq 7, 3) := by decide +kernel
theorem dX4_mergeOf_110 : decode cX4_mergeOf 110 = .ok (.iconst 1, 1) := by decide +kernel
theorem dX4_mergeOf_111 : decode cX4_mergeOf 111 = .ok (.goto 4, 3) := by decide +kernel
theorem dX4_mergeOf_114 : decode cX4_mergeOf 114 = .ok (.iconst 0, 1) := by decide +kernel
theorem dX4_mergeOf_115 : decode cX4_mergeOf 115 = .ok (.iadd, 1) := by decide +kernel
theorem dX4_mergeOf_116 : decode cX4_mergeOf 116 = .ok (.istore 7, 2) := by decide +kernel
theorem dX4_mergeOf_118 : decode cX4_mergeOf 118 = .ok (.aload_n 0, 1) := by decide +kernel
theorem dX4_mergeOf_119 : decode cX4_mergeOf 119 = .ok (.getfield 20, 3) := by decide +kernel
theorem dX4_mergeOf_122 : decode cX4_mergeOf 122 = .ok (.ifCond .le 22, 3) := by decide +kernel
theorem dX4_mergeOf_125 : decode cX4_mergeOf 125 = .ok (.iload 12, 2) := by decide +kernel
theorem dX4_mergeOf_127 : decode cX4_mergeOf 127 = .ok (.aload_n 0, 1) := by decide +kernel
theorem dX4_mergeOf_128 : decode cX4_mergeOf 128 = .ok (.getfield 13, 3) := by decide +kernel
theorem dX4_mergeOf_131 : decode cX4_mergeOf 131 = .ok (.aload_n 0, 1) := by decide +kernel
theorem dX4_mergeOf_132 : decode cX4_mergeOf 132 = .ok (.getfield 20, 3) := by decide +kernel
theorem dX4_mergeOf_135 : decode cX4_mergeOf 135 = .ok (.iconst 1, 1) := by decide +kernel
theorem dX4_mergeOf_136 : decode cX4_mergeOf 136 = .ok (.isub, 1) := by decide +kernel
theorem dX4_mergeOf_137 : decode cX4_mergeOf 137 = .ok (.iaload, 1) := by decide +kernel
theorem dX4_mergeOf_138 : decode cX4_mergeOf 138 = .ok (.if_icmp .gt 6, 3) := by decide +kernel
theorem dX4_mergeOf_141 : decode cX4_mergeOf 141 = .ok (.goto 57, 3) := by decide +kernel
theorem dX4_mergeOf_144 : decode cX4_mergeOf 144 = .ok (.aload_n 0, 1) := by decide +kernel
theorem dX4_mergeOf_145 : decode cX4_mergeOf 145 = .ok (.getfield 20, 3) := by decide +kernel
theorem dX4_mergeOf_148 : decode cX4_mergeOf 148 = .ok (.iload 6, 2) := by decide +kernel
theorem dX4_mergeOf_150 : decode cX4_mergeOf 150 = .ok (.if_icmp .lt 5, 3) := by decide +kernel
theorem dX4_mergeOf_153 : decode cX4_mergeOf 153 = .ok (.iconst 0, 1) := by decide +kernel
theorem dX4_mergeOf_154 : decode cX4_mergeOf 154 = .ok (.ireturn, 1) := by decide +kernel
theorem dX4_mergeOf_155 : decode cX4_mergeOf 155 = .ok (.aload_n 0, 1) := by decide +kernel
theorem dX4_mergeOf_156 : decode cX4_mergeOf 156 = .ok (.aload_n 1, 1) := by decide +kernel
theorem dX4_mergeOf_157 : decode cX4_mergeOf 157 = .ok (.getfield 9, 3) := by decide +kernel
theorem dX4_mergeOf_160 : decode cX4_mergeOf 160 = .ok (.iload 11, 2) := by decide +kernel
theorem dX4_mergeOf_162 : decode cX4_mergeOf 162 = .ok (.iaload, 1) := by decide +kernel
theorem dX4_mergeOf_163 : decode cX4_mergeOf 163 = .ok (.iload 10, 2) := by decide +kernel
theorem dX4_mergeOf_165 : decode cX4_mergeOf 165 = .ok (.ifCond .eq 7, 3) := by decide +kernel
theorem dX4_mergeOf_168 : decode cX4_mergeOf 168 = .ok (.iconst 0, 1) := by decide +kernel
theorem dX4_mergeOf_169 : decode cX4_mergeOf 169 = .ok (.goto 4, 3) := by decide +kernel
theorem dX4_mergeOf_172 : decode cX4_mergeOf 172 = .ok (.iload_n 2, 1) := by decide +kernel
theorem dX4_mergeOf_173 : decode cX4_mergeOf 173 = .ok (.iadd, 1) := by decide +kernel
theorem dX4_mergeOf_174 : decode cX4_mergeOf 174 = .ok (.iload 12, 2) := by decide +kernel
theorem dX4_mergeOf_176 : decode cX4_mergeOf 176 = .ok (.aload_n 1, 1) := by decide +kernel
theorem dX4_mergeOf_177 : decode cX4_mergeOf 177 = .ok (.getfield 16, 3) := by decide +kernel
theorem dX4_mergeOf_180 : decode cX4_mergeOf 180 = .ok (.iload 11, 2) := by decide +kernel
theorem dX4_mergeOf_182 : decode cX4_mergeOf 182 = .ok (.laload, 1) := by decide +kernel
theorem dX4_mergeOf_183 : decode cX4_mergeOf 183 = .ok (.iload 10, 2) := by decide +kernel
theorem dX4_mergeOf_185 : decode cX4_mergeOf 185 = .ok (.ifCond .eq 7, 3) := by decide +kernel
theorem dX4_mergeOf_188 : decode cX4_mergeOf 188 = .ok (.lconst 0, 1) := by decide +kernel
theorem dX4_mergeOf_189 : decode cX4_mergeOf 189 = .ok (.goto 5, 3) := by decide +kernel
theorem dX4_mergeOf_192 : decode cX4_mergeOf 192 = .ok (.lload 4, 2) := by decide +kernel
theorem dX4_mergeOf_194 : decode cX4_mergeOf 194 = .ok (.ladd, 1) := by decide +kernel
theorem dX4_mergeOf_195 : decode cX4_mergeOf 195 = .ok (.invokevirtual 37, 3) := by decide +kernel
theorem dX4_mergeOf_198 : decode cX4_mergeOf 198 = .ok (.iinc 8 1, 3) := by decide +kernel
theorem dX4_mergeOf_201 : decode cX4_mergeOf 201 = .ok (.goto (-190), 3) := by decide +kernel
theorem dX4_mergeOf_204 : decode cX4_mergeOf 204 = .ok (.iconst 1, 1) := by decide +kernel
theorem dX4_mergeOf_205 : decode cX4_mergeOf 205 = .ok (.ireturn, 1) := by decide +kernel
theorem dX4_isAhead_0 : decode cX4_isAhead 0 = .ok (.aload_n 0, 1) := by decide +kernel
theorem dX4_isAhead_1 : decode cX4_isAhead 1 = .ok (.getfield 9, 3) := by decide +kernel
theorem dX4_isAhead_4 : decode cX4_isAhead 4 = .ok (.iload_n 1, 1) := by decide +kernel
theorem dX4_isAhead_5 : decode cX4_isAhead 5 = .ok (.iaload, 1) := by decide +kernel
theorem dX4_isAhead_6 : decode cX4_isAhead 6 = .ok (.aload_n 0, 1) := by decide +kernel
theorem dX4_isAhead_7 : decode cX4_isAhead 7 = .ok (.getfield 9, 3) := by decide +kernel
theorem dX4_isAhead_10 : decode cX4_isAhead 10 = .ok (.iload_n 2, 1) := by decide +kernel
theorem dX4_isAhead_11 : decode cX4_isAhead 11 = .ok (.iaload, 1) := by decide +kernel
theorem dX4_isAhead_12 : decode cX4_isAhead 12 = .ok (.iload_n 3, 1) := by decide +kernel
theorem dX4_isAhead_13 : decode cX4_isAhead 13 = .ok (.iadd, 1) := by decide +kernel
theorem dX4_isAhead_14 : decode cX4_isAhead 14 = .ok (.if_icmp .eq 26, 3) := by decide +kernel
theorem dX4_isAhead_17 : decode cX4_isAhead 17 = .ok (.aload_n 0, 1) := by decide +kernel
theorem dX4_isAhead_18 : decode cX4_isAhead 18 = .ok (.getfield 9, 3) := by decide +kernel
theorem dX4_isAhead_21 : decode cX4_isAhead 21 = .ok (.iload_n 1, 1) := by decide +kernel
theorem dX4_isAhead_22 : decode cX4_isAhead 22 = .ok (.iaload, 1) := by decide +kernel
theorem dX4_isAhead_23 : decode cX4_isAhead 23 = .ok (.aload_n 0, 1) := by decide +kernel
theorem dX4_isAhead_24 : decode cX4_isAhead 24 = .ok (.getfield 9, 3) := by decide +kernel
theorem dX4_isAhead_27 : decode cX4_isAhead 27 = .ok (.iload_n 2, 1) := by decide +kernel
theorem dX4_isAhead_28 : decode cX4_isAhead 28 = .ok (.iaload, 1) := by decide +kernel
theorem dX4_isAhead_29 : decode cX4_isAhead 29 = .ok (.iload_n 3, 1) := by decide +kernel
theorem dX4_isAhead_30 : decode cX4_isAhead 30 = .ok (.iadd, 1) := by decide +kernel
theorem dX4_isAhead_31 : decode cX4_isAhead 31 = .ok (.if_icmp .ge 7, 3) := by decide +kernel
theorem dX4_isAhead_34 : decode cX4_isAhead 34 = .ok (.iconst 1, 1) := by decide +kernel
theorem dX4_isAhead_35 : decode cX4_isAhead 35 = .ok (.goto 4, 3) := by decide +kernel
theorem dX4_isAhead_38 : decode cX4_isAhead 38 = .ok (.iconst 0, 1) := by decide +kernel
theorem dX4_isAhead_39 : decode cX4_isAhead 39 = .ok (.ireturn, 1) := by decide +kernel
theorem dX4_isAhead_40 : decode cX4_isAhead 40 = .ok (.aload_n 0, 1) := by decide +kernel
theorem dX4_isAhead_41 : decode cX4_isAhead 41 = .ok (.getfield 13, 3) := by decide +kernel
theorem dX4_isAhead_44 : decode cX4_isAhead 44 = .ok (.iload_n 1, 1) := by decide +kernel
theorem dX4_isAhead_45 : decode cX4_isAhead 45 = .ok (.iaload, 1) := by decide +kernel
theorem dX4_isAhead_46 : decode cX4_isAhead 46 = .ok (.aload_n 0, 1) := by decide +kernel
theorem dX4_isAhead_47 : decode cX4_isAhead 47 = .ok (.getfield 13, 3) := by decide +kernel
theorem dX4_isAhead_50 : decode cX4_isAhead 50 = .ok (.iload_n 2, 1) := by decide +kernel
theorem dX4_isAhead_51 : decode cX4_isAhead 51 = .ok (.iaload, 1) := by decide +kernel
theorem dX4_isAhead_52 : decode cX4_isAhead 52 = .ok (.iload 4, 2) := by decide +kernel
theorem dX4_isAhead_54 : decode cX4_isAhead 54 = .ok (.iadd, 1) := by decide +kernel
theorem dX4_isAhead_55 : decode cX4_isAhead 55 = .ok (.if_icmp .eq 27, 3) := by decide +kernel
theorem dX4_isAhead_58 : decode cX4_isAhead 58 = .ok (.aload_n 0, 1) := by decide +kernel
theorem dX4_isAhead_59 : decode cX4_isAhead 59 = .ok (.getfield 13, 3) := by decide +kernel
theorem dX4_isAhead_62 : decode cX4_isAhead 62 = .ok (.iload_n 1, 1) := by decide +kernel
theorem dX4_isAhead_63 : decode cX4_isAhead 63 = .ok (.iaload, 1) := by decide +kernel
theorem dX4_isAhead_64 : decode cX4_isAhead 64 = .ok (.aload_n 0, 1) := by decide +kernel
theorem dX4_isAhead_65 : decode cX4_isAhead 65 = .ok (.getfield 13, 3) := by decide +kernel
theorem dX4_isAhead_68 : decode cX4_isAhead 68 = .ok (.iload_n 2, 1) := by decide +kernel
theorem dX4_isAhead_69 : decode cX4_isAhead 69 = .ok (.iaload, 1) := by decide +kernel
theorem dX4_isAhead_70 : decode cX4_isAhead 70 = .ok (.iload 4, 2) := by decide +kernel
theorem dX4_isAhead_72 : decode cX4_isAhead 72 = .ok (.iadd, 1) := by decide +kernel
theorem dX4_isAhead_73 : decode cX4_isAhead 73 = .ok (.if_icmp .le 7, 3) := by decide +kernel
theorem dX4_isAhead_76 : decode cX4_isAhead 76 = .ok (.iconst 1, 1) := by decide +kernel
theorem dX4_isAhead_77 : decode cX4_isAhead 77 = .ok (.goto 4, 3) := by decide +kernel
theorem dX4_isAhead_80 : decode cX4_isAhead 80 = .ok (.iconst 0, 1) := by decide +kernel
theorem dX4_isAhead_81 : decode cX4_isAhead 81 = .ok (.ireturn, 1) := by decide +kernel
theorem dX4_isAhead_82 : decode cX4_isAhead 82 = .ok (.aload_n 0, 1) := by decide +kernel
theorem dX4_isAhead_83 : decode cX4_isAhead 83 = .ok (.getfield 16, 3) := by decide +kernel
theorem dX4_isAhead_86 : decode cX4_isAhead 86 = .ok (.iload_n 1, 1) := by decide +kernel
theorem dX4_isAhead_87 : decode cX4_isAhead 87 = .ok (.laload, 1) := by decide +kernel
theorem dX4_isAhead_88 : decode cX4_isAhead 88 = .ok (.aload_n 0, 1) := by decide +kernel
theorem dX4_isAhead_89 : decode cX4_isAhead 89 = .ok (.getfield 16, 3) := by decide +kernel
theorem dX4_isAhead_92 : decode cX4_isAhead 92 = .ok (.iload_n 2, 1) := by decide +kernel
theorem dX4_isAhead_93 : decode cX4_isAhead 93 = .ok (.laload, 1) := by decide +kernel
theorem dX4_isAhead_94 : decode cX4_isAhead 94 = .ok (.lload 5, 2) := by decide +kernel
theorem dX4_isAhead_96 : decode cX4_isAhead 96 = .ok (.ladd, 1) := by decide +kernel
theorem dX4_isAhead_97 : decode cX4_isAhead 97 = .ok (.lcmp, 1) := by decide +kernel
theorem dX4_isAhead_98 : decode cX4_isAhead 98 = .ok (.ifCond .ge 7, 3) := by decide +kernel
theorem dX4_isAhead_101 : decode cX4_isAhead 101 = .ok (.iconst 1, 1) := by decide +kernel
theorem dX4_isAhead_102 : decode cX4_isAhead 102 = .ok (.goto 4, 3) := by decide +kernel
theorem dX4_isAhead_105 : decode cX4_isAhead 105 = .ok (.iconst 0, 1) := by decide +kernel
theorem dX4_isAhead_106 : decode cX4_isAhead 106 = .ok (.ireturn, 1) := by decide +kernel
set_option maxRecDepth 20000 in
theorem ggX4_isCorner_X4_isSteeper : GoodIn wsX4_isCorner wsX4_isSteeper := goodIn_r _ [6, 7, 8, 9, 10, 11, 12] (by decide +kernel) (by decide +kernel)
set_option maxRecDepth 20000 in
theorem gX4_isCorner_X4_isSteeper : GoodIn wsX4_isCorner (wsV RX4 41 RX4 yX4_isSteeper wsX4_isSteeper) := goodIn_app (goodIn_of _ (by decide +kernel)) ggX4_isCorner_X4_isSteeper
theorem dX4_isCorner_0 : decode cX4_isCorner 0 = .ok (.iload_n 1, 1) := by decide +kernel
theorem dX4_isCorner_1 : decode cX4_isCorner 1 = .ok (.ifCond .le 13, 3) := by decide +kernel
theorem dX4_isCorner_4 : decode cX4_isCorner 4 = .ok (.iload_n 1, 1) := by decide +kernel
theorem dX4_isCorner_5 : decode cX4_isCorner 5 = .ok (.aload_n 0, 1) := by decide +kernel
theorem dX4_isCorner_6 : decode cX4_isCorner 6 = .ok (.getfield 20, 3) := by decide +kernel
theorem dX4_isCorner_9 : decode cX4_isCorner 9 = .ok (.iconst 1, 1) := by decide +kernel
theorem dX4_isCorner_10 : decode cX4_isCorner 10 = .ok (.isub, 1) := by decide +kernel
theorem dX4_isCorner_11 : decode cX4_isCorner 11 = .ok (.if_icmp .lt 5, 3) := by decide +kernel
theorem dX4_isCorner_14 : decode cX4_isCorner 14 = .ok (.iconst 1, 1) := by decide +kernel
theorem dX4_isCorner_15 : decode cX4_isCorner 15 = .ok (.ireturn, 1) := by decide +kernel
theorem dX4_isCorner_16 : decode cX4_isCorner 16 = .ok (.iconst 0, 1) := by decide +kernel
theorem dX4_isCorner_17 : decode cX4_isCorner 17 = .ok (.istore_n 2, 1) := by decide +kernel
theorem dX4_isCorner_18 : decode cX4_isCorner 18 = .ok (.iconst 1, 1) := by decide +kernel
theorem dX4_isCorner_19 : decode cX4_isCorner 19 = .ok (.istore_n 3, 1) := by decide +kernel
theorem dX4_isCorner_20 : decode cX4_isCorner 20 = .ok (.iload_n 3, 1) := by decide +kernel
theorem dX4_isCorner_21 : decode cX4_isCorner 21 = .ok (.iload_n 1, 1) := by decide +kernel
theorem dX4_isCorner_22 : decode cX4_isCorner 22 = .ok (.if_icmp .ge 22, 3) := by decide +kernel
theorem dX4_isCorner_25 : decode cX4_isCorner 25 = .ok (.aload_n 0, 1) := by decide +kernel
theorem dX4_isCorner_26 : decode cX4_isCorner 26 = .ok (.iload_n 2, 1) := by decide +kernel
theorem dX4_isCorner_27 : decode cX4_isCorner 27 = .ok (.iload_n 1, 1) := by decide +kernel
theorem dX4_isCorner_28 : decode cX4_isCorner 28 = .ok (.iload_n 3, 1) := by decide +kernel
theorem dX4_isCorner_29 : decode cX4_isCorner 29 = .ok (.iload_n 1, 1) := by decide +kernel
theorem dX4_isCorner_30 : decode cX4_isCorner 30 = .ok (.invokevirtual 41, 3) := by decide +kernel
theorem dX4_isCorner_33 : decode cX4_isCorner 33 = .ok (.ifCond .eq 5, 3) := by decide +kernel
theorem dX4_isCorner_36 : decode cX4_isCorner 36 = .ok (.iload_n 3, 1) := by decide +kernel
theorem dX4_isCorner_37 : decode cX4_isCorner 37 = .ok (.istore_n 2, 1) := by decide +kernel
theorem dX4_isCorner_38 : decode cX4_isCorner 38 = .ok (.iinc 3 1, 3) := by decide +kernel
theorem dX4_isCorner_41 : decode cX4_isCorner 41 = .ok (.goto (-21), 3) := by decide +kernel
theorem dX4_isCorner_44 : decode cX4_isCorner 44 = .ok (.iload_n 1, 1) := by decide +kernel
theorem dX4_isCorner_45 : decode cX4_isCorner 45 = .ok (.iconst 1, 1) := by decide +kernel
theorem dX4_isCorner_46 : decode cX4_isCorner 46 = .ok (.iadd, 1) := by decide +kernel
theorem dX4_isCorner_47 : decode cX4_isCorner 47 = .ok (.istore_n 3, 1) := by decide +kernel
theorem dX4_isCorner_48 : decode cX4_isCorner 48 = .ok (.iload_n 1, 1) := by decide +kernel
theorem dX4_isCorner_49 : decode cX4_isCorner 49 = .ok (.iconst 2, 1) := by decide +kernel
theorem dX4_isCorner_50 : decode cX4_isCorner 50 = .ok (.iadd, 1) := by decide +kernel
theorem dX4_isCorner_51 : decode cX4_isCorner 51 = .ok (.istore 4, 2) := by decide +kernel
theorem dX4_isCorner_53 : decode cX4_isCorner 53 = .ok (.iload 4, 2) := by decide +kernel
theorem dX4_isCorner_55 : decode cX4_isCorner 55 = .ok (.aload_n 0, 1) := by decide +kernel
theorem dX4_isCorner_56 : decode cX4_isCorner 56 = .ok (.getfield 20, 3) := by decide +kernel
theorem dX4_isCorner_59 : decode cX4_isCorner 59 = .ok (.if_icmp .ge 24, 3) := by decide +kernel
theorem dX4_isCorner_62 : decode cX4_isCorner 62 = .ok (.aload_n 0, 1) := by decide +kernel
theorem dX4_isCorner_63 : decode cX4_isCorner 63 = .ok (.iload_n 1, 1) := by decide +kernel
theorem dX4_isCorner_64 : decode cX4_isCorner 64 = .ok (.iload 4, 2) := by decide +kernel
theorem dX4_isCorner_66 : decode cX4_isCorner 66 = .ok (.iload_n 1, 1) := by decide +kernel
theorem dX4_isCorner_67 : decode cX4_isCorner 67 = .ok (.iload_n 3, 1) := by decide +kernel
theorem dX4_isCorner_68 : decode cX4_isCorner 68 = .ok (.invokevirtual 41, 3) := by decide +kernel
theorem dX4_isCorner_71 : decode cX4_isCorner 71 = .ok (.ifCond .eq 6, 3) := by decide +kernel
theorem dX4_isCorner_74 : decode cX4_isCorner 74 = .ok (.iload 4, 2) := by decide +kernel
theorem dX4_isCorner_76 : decode cX4_isCorner 76 = .ok (.istore_n 3, 1) := by decide +kernel
theorem dX4_isCorner_77 : decode cX4_isCorner 77 = .ok (.iinc 4 1, 3) := by decide +kernel
theorem dX4_isCorner_80 : decode cX4_isCorner 80 = .ok (.goto (-27), 3) := by decide +kernel
theorem dX4_isCorner_83 : decode cX4_isCorner 83 = .ok (.aload_n 0, 1) := by decide +kernel
theorem dX4_isCorner_84 : decode cX4_isCorner 84 = .ok (.iload_n 2, 1) := by decide +kernel
theorem dX4_isCorner_85 : decode cX4_isCorner 85 = .ok (.iload_n 1, 1) := by decide +kernel
theorem dX4_isCorner_86 : decode cX4_isCorner 86 = .ok (.iload_n 1, 1) := by decide +kernel
theorem dX4_isCorner_87 : decode cX4_isCorner 87 = .ok (.iload_n 3, 1) := by decide +kernel
theorem dX4_isCorner_88 : decode cX4_isCorner 88 = .ok (.invokevirtual 41, 3) := by decide +kernel
theorem dX4_isCorner_91 : decode cX4_isCorner 91 = .ok (.ireturn, 1) := by decide +kernel
theorem dX4_isSteeper_0 : decode cX4_isSteeper 0 = .ok (.aload_n 0, 1) := by decide +kernel
theorem dX4_isSteeper_1 : decode cX4_isSteeper 1 = .ok (.getfield 13, 3) := by decide +kernel
theorem dX4_isSteeper_4 : decode cX4_isSteeper 4 = .ok (.iload_n 2, 1) := by decide +kernel
theorem dX4_isSteeper_5 : decode cX4_isSteeper 5 = .ok (.iaload, 1) := by decide +kernel
theorem dX4_isSteeper_6 : decode cX4_isSteeper 6 = .ok (.i2l, 1) := by decide +kernel
theorem dX4_isSteeper_7 : decode cX4_isSteeper 7 = .ok (.aload_n 0, 1) := by decide +kernel
theorem dX4_isSteeper_8 : decode cX4_isSteeper 8 = .ok (.getfield 13, 3) := by decide +kernel
theorem dX4_isSteeper_11 : decode cX4_isSteeper 11 = .ok (.iload_n 1, 1) := by decide +kernel
theorem dX4_isSteeper_12 : decode cX4_isSteeper 12 = .ok (.iaload, 1) := by decide +kernel
theorem dX4_isSteeper_13 : decode cX4_isSteeper 13 = .ok (.i2l, 1) := by decide +kernel
theorem dX4_isSteeper_14 : decode cX4_isSteeper 14 = .ok (.lsub, 1) := by decide +kernel
theorem dX4_isSteeper_15 : decode cX4_isSteeper 15 = .ok (.lstore 5, 2) := by decide +kernel
theorem dX4_isSteeper_17 : decode cX4_isSteeper 17 = .ok (.aload_n 0, 1) := by decide +kernel
theorem dX4_isSteeper_18 : decode cX4_isSteeper 18 = .ok (.getfield 9, 3) := by decide +kernel
theorem dX4_isSteeper_21 : decode cX4_isSteeper 21 = .ok (.iload_n 2, 1) := by decide +kernel
theorem dX4_isSteeper_22 : decode cX4_isSteeper 22 = .ok (.iaload, 1) := by decide +kernel
theorem dX4_isSteeper_23 : decode cX4_isSteeper 23 = .ok (.i2l, 1) := by decide +kernel
theorem dX4_isSteeper_24 : decode cX4_isSteeper 24 = .ok (.aload_n 0, 1) := by decide +kernel
theorem dX4_isSteeper_25 : decode cX4_isSteeper 25 = .ok (.getfield 9, 3) := by decide +kernel
theorem dX4_isSteeper_28 : decode cX4_isSteeper 28 = .ok (.iload_n 1, 1) := by decide +kernel
theorem dX4_isSteeper_29 : decode cX4_isSteeper 29 = .ok (.iaload, 1) := by decide +kernel
theorem dX4_isSteeper_30 : decode cX4_isSteeper 30 = .ok (.i2l, 1) := by decide +kernel
theorem dX4_isSteeper_31 : decode cX4_isSteeper 31 = .ok (.lsub, 1) := by decide +kernel
theorem dX4_isSteeper_32 : decode cX4_isSteeper 32 = .ok (.lstore 7, 2) := by decide +kernel
theorem dX4_isSteeper_34 : decode cX4_isSteeper 34 = .ok (.aload_n 0, 1) := by decide +kernel
theorem dX4_isSteeper_35 : decode cX4_isSteeper 35 = .ok (.getfield 13, 3) := by decide +kernel
theorem dX4_isSteeper_38 : decode cX4_isSteeper 38 = .ok (.iload 4, 2) := by decide +kernel
theorem dX4_isSteeper_40 : decode cX4_isSteeper 40 = .ok (.iaload, 1) := by decide +kernel
theorem dX4_isSteeper_41 : decode cX4_isSteeper 41 = .ok (.i2l, 1) := by decide +kernel
theorem dX4_isSteeper_42 : decode cX4_isSteeper 42 = .ok (.aload_n 0, 1) := by decide +kernel
theorem dX4_isSteeper_43 : decode cX4_isSteeper 43 = .ok (.getfield 13, 3) := by decide +kernel
theorem dX4_isSteeper_46 : decode cX4_isSteeper 46 = .ok (.iload_n 3, 1) := by decide +kernel
theorem dX4_isSteeper_47 : decode cX4_isSteeper 47 = .ok (.iaload, 1) := by decide +kernel
theorem dX4_isSteeper_48 : decode cX4_isSteeper 48 = .ok (.i2l, 1) := by decide +kernel
theorem dX4_isSteeper_49 : decode cX4_isSteeper 49 = .ok (.lsub, 1) := by decide +kernel
theorem dX4_isSteeper_50 : decode cX4_isSteeper 50 = .ok (.lstore 9, 2) := by decide +kernel
theorem dX4_isSteeper_52 : decode cX4_isSteeper 52 = .ok (.aload_n 0, 1) := by decide +kernel
theorem dX4_isSteeper_53 : decode cX4_isSteeper 53 = .ok (.getfield 9, 3) := by decide +kernel
theorem dX4_isSteeper_56 : decode cX4_isSteeper 56 = .ok (.iload 4, 2) := by decide +kernel
theorem dX4_isSteeper_58 : decode cX4_isSteeper 58 = .ok (.iaload, 1) := by decide +kernel
theorem dX4_isSteeper_59 : decode cX4_isSteeper 59 = .ok (.i2l, 1) := by decide +kernel
theorem dX4_isSteeper_60 : decode cX4_isSteeper 60 = .ok (.aload_n 0, 1) := by decide +kernel
theorem dX4_isSteeper_61 : decode cX4_isSteeper 61 = .ok (.getfield 9, 3) := by decide +kernel
theorem dX4_isSteeper_64 : decode cX4_isSteeper 64 = .ok (.iload_n 3, 1) := by decide +kernel
theorem dX4_isSteeper_65 : decode cX4_isSteeper 65 = .ok (.iaload, 1) := by decide +kernel
theorem dX4_isSteeper_66 : decode cX4_isSteeper 66 = .ok (.i2l, 1) := by decide +kernel
theorem dX4_isSteeper_67 : decode cX4_isSteeper 67 = .ok (.lsub, 1) := by decide +kernel
theorem dX4_isSteeper_68 : decode cX4_isSteeper 68 = .ok (.lstore 11, 2) := by decide +kernel
theorem dX4_isSteeper_70 : decode cX4_isSteeper 70 = .ok (.lload 5, 2) := by decide +kernel
