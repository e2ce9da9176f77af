theorem dX7_begins_67 : decode cX7_begins 67 = .ok (.getfield 46, 3) := by decide +kernel
theorem dX7_begins_70 : decode cX7_begins 70 = .ok (.iconst 0, 1) := by decide +kernel
theorem dX7_begins_71 : decode cX7_begins 71 = .ok (.aload_n 0, 1) := by decide +kernel
theorem dX7_begins_72 : decode cX7_begins 72 = .ok (.getfield 173, 3) := by decide +kernel
theorem dX7_begins_75 : decode cX7_begins 75 = .ok (.lastore, 1) := by decide +kernel
theorem dX7_begins_76 : decode cX7_begins 76 = .ok (.aload_n 0, 1) := by decide +kernel
theorem dX7_begins_77 : decode cX7_begins 77 = .ok (.aload_n 0, 1) := by decide +kernel
theorem dX7_begins_78 : decode cX7_begins 78 = .ok (.getfield 40, 3) := by decide +kernel
theorem dX7_begins_81 : decode cX7_begins 81 = .ok (.iconst 0, 1) := by decide +kernel
theorem dX7_begins_82 : decode cX7_begins 82 = .ok (.laload, 1) := by decide +kernel
theorem dX7_begins_83 : decode cX7_begins 83 = .ok (.putfield 198, 3) := by decide +kernel
theorem dX7_begins_86 : decode cX7_begins 86 = .ok (.aload_n 0, 1) := by decide +kernel
theorem dX7_begins_87 : decode cX7_begins 87 = .ok (.aload_n 0, 1) := by decide +kernel
theorem dX7_begins_88 : decode cX7_begins 88 = .ok (.getfield 170, 3) := by decide +kernel
theorem dX7_begins_91 : decode cX7_begins 91 = .ok (.putfield 201, 3) := by decide +kernel
theorem dX7_begins_94 : decode cX7_begins 94 = .ok (.aload_n 0, 1) := by decide +kernel
theorem dX7_begins_95 : decode cX7_begins 95 = .ok (.aload_n 0, 1) := by decide +kernel
theorem dX7_begins_96 : decode cX7_begins 96 = .ok (.getfield 173, 3) := by decide +kernel
theorem dX7_begins_99 : decode cX7_begins 99 = .ok (.putfield 204, 3) := by decide +kernel
theorem dX7_begins_102 : decode cX7_begins 102 = .ok (.return_, 1) := by decide +kernel
theorem dX7_isProved_0 : decode cX7_isProved 0 = .ok (.aload_n 0, 1) := by decide +kernel
theorem dX7_isProved_1 : decode cX7_isProved 1 = .ok (.getfield 195, 3) := by decide +kernel
theorem dX7_isProved_4 : decode cX7_isProved 4 = .ok (.ifCond .eq 23, 3) := by decide +kernel
theorem dX7_isProved_7 : decode cX7_isProved 7 = .ok (.aload_n 0, 1) := by decide +kernel
theorem dX7_isProved_8 : decode cX7_isProved 8 = .ok (.getfield 186, 3) := by decide +kernel
theorem dX7_isProved_11 : decode cX7_isProved 11 = .ok (.ifCond .ne 20, 3) := by decide +kernel
theorem dX7_isProved_14 : decode cX7_isProved 14 = .ok (.aload_n 0, 1) := by decide +kernel
theorem dX7_isProved_15 : decode cX7_isProved 15 = .ok (.getfield 189, 3) := by decide +kernel
theorem dX7_isProved_18 : decode cX7_isProved 18 = .ok (.aload_n 0, 1) := by decide +kernel
theorem dX7_isProved_19 : decode cX7_isProved 19 = .ok (.getfield 160, 3) := by decide +kernel
theorem dX7_isProved_22 : decode cX7_isProved 22 = .ok (.iconst 1, 1) := by decide +kernel
theorem dX7_isProved_23 : decode cX7_isProved 23 = .ok (.isub, 1) := by decide +kernel
theorem dX7_isProved_24 : decode cX7_isProved 24 = .ok (.if_icmp .ne 7, 3) := by decide +kernel
theorem dX7_isProved_27 : decode cX7_isProved 27 = .ok (.iconst 1, 1) := by decide +kernel
theorem dX7_isProved_28 : decode cX7_isProved 28 = .ok (.goto 4, 3) := by decide +kernel
theorem dX7_isProved_31 : decode cX7_isProved 31 = .ok (.iconst 0, 1) := by decide +kernel
theorem dX7_isProved_32 : decode cX7_isProved 32 = .ok (.ireturn, 1) := by decide +kernel
theorem dX7_isLess_0 : decode cX7_isLess 0 = .ok (.lload_n 0, 1) := by decide +kernel
theorem dX7_isLess_1 : decode cX7_isLess 1 = .ok (.ldc2_w 207, 3) := by decide +kernel
theorem dX7_isLess_4 : decode cX7_isLess 4 = .ok (.ladd, 1) := by decide +kernel
theorem dX7_isLess_5 : decode cX7_isLess 5 = .ok (.lload_n 2, 1) := by decide +kernel
theorem dX7_isLess_6 : decode cX7_isLess 6 = .ok (.ldc2_w 207, 3) := by decide +kernel
theorem dX7_isLess_9 : decode cX7_isLess 9 = .ok (.ladd, 1) := by decide +kernel
theorem dX7_isLess_10 : decode cX7_isLess 10 = .ok (.lcmp, 1) := by decide +kernel
theorem dX7_isLess_11 : decode cX7_isLess 11 = .ok (.ifCond .ge 7, 3) := by decide +kernel
theorem dX7_isLess_14 : decode cX7_isLess 14 = .ok (.iconst 1, 1) := by decide +kernel
theorem dX7_isLess_15 : decode cX7_isLess 15 = .ok (.goto 4, 3) := by decide +kernel
theorem dX7_isLess_18 : decode cX7_isLess 18 = .ok (.iconst 0, 1) := by decide +kernel
theorem dX7_isLess_19 : decode cX7_isLess 19 = .ok (.ireturn, 1) := by decide +kernel
set_option maxRecDepth 20000 in
theorem ggX7_comes_X7_isLess : GoodIn wsX7_comes wsX7_isLess := goodIn_r _ [8, 9] (by decide +kernel) (by decide +kernel)
set_option maxRecDepth 20000 in
theorem gX7_comes_X7_isLess : GoodIn wsX7_comes (va_wsS RX7 212 yX7_isLess wsX7_isLess) := goodIn_app (goodIn_of _ (by decide +kernel)) ggX7_comes_X7_isLess
theorem dX7_comes_0 : decode cX7_comes 0 = .ok (.aload_n 0, 1) := by decide +kernel
theorem dX7_comes_1 : decode cX7_comes 1 = .ok (.getfield 209, 3) := by decide +kernel
theorem dX7_comes_4 : decode cX7_comes 4 = .ok (.iconst 1, 1) := by decide +kernel
theorem dX7_comes_5 : decode cX7_comes 5 = .ok (.isub, 1) := by decide +kernel
theorem dX7_comes_6 : decode cX7_comes 6 = .ok (.istore 7, 2) := by decide +kernel
theorem dX7_comes_8 : decode cX7_comes 8 = .ok (.iload 7, 2) := by decide +kernel
theorem dX7_comes_10 : decode cX7_comes 10 = .ok (.ifCond .lt 76, 3) := by decide +kernel
theorem dX7_comes_13 : decode cX7_comes 13 = .ok (.aload_n 0, 1) := by decide +kernel
theorem dX7_comes_14 : decode cX7_comes 14 = .ok (.getfield 55, 3) := by decide +kernel
theorem dX7_comes_17 : decode cX7_comes 17 = .ok (.iload 7, 2) := by decide +kernel
theorem dX7_comes_19 : decode cX7_comes 19 = .ok (.laload, 1) := by decide +kernel
theorem dX7_comes_20 : decode cX7_comes 20 = .ok (.lload 5, 2) := by decide +kernel
theorem dX7_comes_22 : decode cX7_comes 22 = .ok (.lcmp, 1) := by decide +kernel
theorem dX7_comes_23 : decode cX7_comes 23 = .ok (.ifCond .lt 63, 3) := by decide +kernel
theorem dX7_comes_26 : decode cX7_comes 26 = .ok (.aload_n 0, 1) := by decide +kernel
theorem dX7_comes_27 : decode cX7_comes 27 = .ok (.getfield 55, 3) := by decide +kernel
theorem dX7_comes_30 : decode cX7_comes 30 = .ok (.iload 7, 2) := by decide +kernel
theorem dX7_comes_32 : decode cX7_comes 32 = .ok (.laload, 1) := by decide +kernel
theorem dX7_comes_33 : decode cX7_comes 33 = .ok (.lload 5, 2) := by decide +kernel
theorem dX7_comes_35 : decode cX7_comes 35 = .ok (.lcmp, 1) := by decide +kernel
theorem dX7_comes_36 : decode cX7_comes 36 = .ok (.ifCond .ne 19, 3) := by decide +kernel
theorem dX7_comes_39 : decode cX7_comes 39 = .ok (.aload_n 0, 1) := by decide +kernel
theorem dX7_comes_40 : decode cX7_comes 40 = .ok (.getfield 52, 3) := by decide +kernel
theorem dX7_comes_43 : decode cX7_comes 43 = .ok (.iload 7, 2) := by decide +kernel
theorem dX7_comes_45 : decode cX7_comes 45 = .ok (.laload, 1) := by decide +kernel
theorem dX7_comes_46 : decode cX7_comes 46 = .ok (.lload_n 3, 1) := by decide +kernel
theorem dX7_comes_47 : decode cX7_comes 47 = .ok (.lcmp, 1) := by decide +kernel
theorem dX7_comes_48 : decode cX7_comes 48 = .ok (.ifCond .ne 7, 3) := by decide +kernel
theorem dX7_comes_51 : decode cX7_comes 51 = .ok (.iconst 1, 1) := by decide +kernel
theorem dX7_comes_52 : decode cX7_comes 52 = .ok (.goto 4, 3) := by decide +kernel
theorem dX7_comes_55 : decode cX7_comes 55 = .ok (.iconst 0, 1) := by decide +kernel
theorem dX7_comes_56 : decode cX7_comes 56 = .ok (.istore 8, 2) := by decide +kernel
theorem dX7_comes_58 : decode cX7_comes 58 = .ok (.iload 8, 2) := by decide +kernel
theorem dX7_comes_60 : decode cX7_comes 60 = .ok (.ifCond .eq 25, 3) := by decide +kernel
theorem dX7_comes_63 : decode cX7_comes 63 = .ok (.lload_n 1, 1) := by decide +kernel
theorem dX7_comes_64 : decode cX7_comes 64 = .ok (.aload_n 0, 1) := by decide +kernel
theorem dX7_comes_65 : decode cX7_comes 65 = .ok (.getfield 49, 3) := by decide +kernel
theorem dX7_comes_68 : decode cX7_comes 68 = .ok (.iload 7, 2) := by decide +kernel
theorem dX7_comes_70 : decode cX7_comes 70 = .ok (.laload, 1) := by decide +kernel
theorem dX7_comes_71 : decode cX7_comes 71 = .ok (.invokestatic 212, 3) := by decide +kernel
theorem dX7_comes_74 : decode cX7_comes 74 = .ok (.ifCond .eq 11, 3) := by decide +kernel
theorem dX7_comes_77 : decode cX7_comes 77 = .ok (.aload_n 0, 1) := by decide +kernel
theorem dX7_comes_78 : decode cX7_comes 78 = .ok (.getfield 49, 3) := by decide +kernel
theorem dX7_comes_81 : decode cX7_comes 81 = .ok (.iload 7, 2) := by decide +kernel
theorem dX7_comes_83 : decode cX7_comes 83 = .ok (.lload_n 1, 1) := by decide +kernel
theorem dX7_comes_84 : decode cX7_comes 84 = .ok (.lastore, 1) := by decide +kernel
theorem dX7_comes_85 : decode cX7_comes 85 = .ok (.return_, 1) := by decide +kernel
theorem dX7_comes_86 : decode cX7_comes 86 = .ok (.iload 7, 2) := by decide +kernel
theorem dX7_comes_88 : decode cX7_comes 88 = .ok (.ifCond .lt 25, 3) := by decide +kernel
theorem dX7_comes_91 : decode cX7_comes 91 = .ok (.aload_n 0, 1) := by decide +kernel
theorem dX7_comes_92 : decode cX7_comes 92 = .ok (.getfield 52, 3) := by decide +kernel
theorem dX7_comes_95 : decode cX7_comes 95 = .ok (.iload 7, 2) := by decide +kernel
theorem dX7_comes_97 : decode cX7_comes 97 = .ok (.laload, 1) := by decide +kernel
theorem dX7_comes_98 : decode cX7_comes 98 = .ok (.lload_n 3, 1) := by decide +kernel
theorem dX7_comes_99 : decode cX7_comes 99 = .ok (.lcmp, 1) := by decide +kernel
theorem dX7_comes_100 : decode cX7_comes 100 = .ok (.ifCond .ne 13, 3) := by decide +kernel
theorem dX7_comes_103 : decode cX7_comes 103 = .ok (.aload_n 0, 1) := by decide +kernel
theorem dX7_comes_104 : decode cX7_comes 104 = .ok (.dup, 1) := by decide +kernel
theorem dX7_comes_105 : decode cX7_comes 105 = .ok (.getfield 209, 3) := by decide +kernel
theorem dX7_comes_108 : decode cX7_comes 108 = .ok (.iconst 1, 1) := by decide +kernel
theorem dX7_comes_109 : decode cX7_comes 109 = .ok (.isub, 1) := by decide +kernel
theorem dX7_comes_110 : decode cX7_comes 110 = .ok (.putfield 209, 3) := by decide +kernel
theorem dX7_comes_113 : decode cX7_comes 113 = .ok (.aload_n 0, 1) := by decide +kernel
theorem dX7_comes_114 : decode cX7_comes 114 = .ok (.getfield 49, 3) := by decide +kernel
theorem dX7_comes_117 : decode cX7_comes 117 = .ok (.aload_n 0, 1) := by decide +kernel
theorem dX7_comes_118 : decode cX7_comes 118 = .ok (.getfield 209, 3) := by decide +kernel
theorem dX7_comes_121 : decode cX7_comes 121 = .ok (.lload_n 1, 1) := by decide +kernel
theorem dX7_comes_122 : decode cX7_comes 122 = .ok (.lastore, 1) := by decide +kernel
theorem dX7_comes_123 : decode cX7_comes 123 = .ok (.aload_n 0, 1) := by decide +kernel
theorem dX7_comes_124 : decode cX7_comes 124 = .ok (.getfield 52, 3) := by decide +kernel
theorem dX7_comes_127 : decode cX7_comes 127 = .ok (.aload_n 0, 1) := by decide +kernel
theorem dX7_comes_128 : decode cX7_comes 128 = .ok (.getfield 209, 3) := by decide +kernel
theorem dX7_comes_131 : decode cX7_comes 131 = .ok (.lload_n 3, 1) := by decide +kernel
theorem dX7_comes_132 : decode cX7_comes 132 = .ok (.lastore, 1) := by decide +kernel
theorem dX7_comes_133 : decode cX7_comes 133 = .ok (.aload_n 0, 1) := by decide +kernel
theorem dX7_comes_134 : decode cX7_comes 134 = .ok (.getfield 55, 3) := by decide +kernel
theorem dX7_comes_137 : decode cX7_comes 137 = .ok (.aload_n 0, 1) := by decide +kernel
theorem dX7_comes_138 : decode cX7_comes 138 = .ok (.getfield 209, 3) := by decide +kernel
theorem dX7_comes_141 : decode cX7_comes 141 = .ok (.lload 5, 2) := by decide +kernel
theorem dX7_comes_143 : decode cX7_comes 143 = .ok (.lastore, 1) := by decide +kernel
theorem dX7_comes_144 : decode cX7_comes 144 = .ok (.aload_n 0, 1) := by decide +kernel
theorem dX7_comes_145 : decode cX7_comes 145 = .ok (.dup, 1) := by decide +kernel
theorem dX7_comes_146 : decode cX7_comes 146 = .ok (.getfield 209, 3) := by decide +kernel
theorem dX7_comes_149 : decode cX7_comes 149 = .ok (.iconst 1, 1) := by decide +kernel
theorem dX7_comes_150 : decode cX7_comes 150 = .ok (.iadd, 1) := by decide +kernel
theorem dX7_comes_151 : decode cX7_comes 151 = .ok (.putfield 209, 3) := by decide +kernel
theorem dX7_comes_154 : decode cX7_comes 154 = .ok (.return_, 1) := by decide +kernel
set_option maxRecDepth 20000 in
theorem ggX7_doubles_X7_comes : GoodIn wsX7_doubles wsX7_comes := goodIn_r _ [10, 1, 11, 12, 13, 14, 15, 9, 16, 17, 18, 19, 20, 21, 22, 23, 24, 25, 26, 27, 28, 29, 30, 31, 32, 33, 34, 35, 36, 37, 38, 39, 40, 41, 42, 43, 44, 45, 46, 47, 48, 49, 50, 51, 52, 53, 54, 55, 56, 57, 58] (by decide +kernel) (by decide +kernel)
set_option maxRecDepth 20000 in
theorem gX7_doubles_X7_comes : GoodIn wsX7_doubles (wsV RX7 215 RX7 yX7_comes wsX7_comes) := goodIn_app (goodIn_of _ (by decide +kernel)) ggX7_doubles_X7_comes
theorem dX7_doubles_0 : decode cX7_doubles 0 = .ok (.aload_n 0, 1) := by decide +kernel
theorem dX7_doubles_1 : decode cX7_doubles 1 = .ok (.iconst 0, 1) := by decide +kernel
theorem dX7_doubles_2 : decode cX7_doubles 2 = .ok (.putfield 209, 3) := by decide +kernel
theorem dX7_doubles_5 : decode cX7_doubles 5 = .ok (.iconst 0, 1) := by decide +kernel
theorem dX7_doubles_6 : decode cX7_doubles 6 = .ok (.istore 7, 2) := by decide +kernel
theorem dX7_doubles_8 : decode cX7_doubles 8 = .ok (.iconst 0, 1) := by decide +kernel
theorem dX7_doubles_9 : decode cX7_doubles 9 = .ok (.istore 8, 2) := by decide +kernel
theorem dX7_doubles_11 : decode cX7_doubles 11 = .ok (.iload 7, 2) := by decide +kernel
theorem dX7_doubles_13 : decode cX7_doubles 13 = .ok (.aload_n 0, 1) := by decide +kernel
theorem dX7_doubles_14 : decode cX7_doubles 14 = .ok (.getfield 195, 3) := by decide +kernel
theorem dX7_doubles_17 : decode cX7_doubles 17 = .ok (.if_icmp .lt 12, 3) := by decide +kernel
theorem dX7_doubles_20 : decode cX7_doubles 20 = .ok (.iload 8, 2) := by decide +kernel
theorem dX7_doubles_22 : decode cX7_doubles 22 = .ok (.aload_n 0, 1) := by decide +kernel
theorem dX7_doubles_23 : decode cX7_doubles 23 = .ok (.getfield 195, 3) := by decide +kernel
theorem dX7_doubles_26 : decode cX7_doubles 26 = .ok (.if_icmp .ge 122, 3) := by decide +kernel
theorem dX7_doubles_29 : decode cX7_doubles 29 = .ok (.iload 8, 2) := by decide +kernel
theorem dX7_doubles_31 : decode cX7_doubles 31 = .ok (.aload_n 0, 1) := by decide +kernel
theorem dX7_doubles_32 : decode cX7_doubles 32 = .ok (.getfield 195, 3) := by decide +kernel
theorem dX7_doubles_35 : decode cX7_doubles 35 = .ok (.if_icmp .eq 32, 3) := by decide +kernel
theorem dX7_doubles_38 : decode cX7_doubles 38 = .ok (.iload 7, 2) := by decide +kernel
theorem dX7_doubles_40 : decode cX7_doubles 40 = .ok (.aload_n 0, 1) := by decide +kernel
theorem dX7_doubles_41 : decode cX7_doubles 41 = .ok (.getfield 195, 3) := by decide +kernel
theorem dX7_doubles_44 : decode cX7_doubles 44 = .ok (.if_icmp .ge 27, 3) := by decide +kernel
theorem dX7_doubles_47 : decode cX7_doubles 47 = .ok (.aload_n 0, 1) := by decide +kernel
theorem dX7_doubles_48 : decode cX7_doubles 48 = .ok (.getfield 43, 3) := by decide +kernel
theorem dX7_doubles_51 : decode cX7_doubles 51 = .ok (.iload 7, 2) := by decide +kernel
theorem dX7_doubles_53 : decode cX7_doubles 53 = .ok (.laload, 1) := by decide +kernel
theorem dX7_doubles_54 : decode cX7_doubles 54 = .ok (.aload_n 0, 1) := by decide +kernel
theorem dX7_doubles_55 : decode cX7_doubles 55 = .ok (.getfield 43, 3) := by decide +kernel
theorem dX7_doubles_58 : decode cX7_doubles 58 = .ok (.iload 8, 2) := by decide +kernel
theorem dX7_doubles_60 : decode cX7_doubles 60 = .ok (.laload, 1) := by decide +kernel
theorem dX7_doubles_61 : decode cX7_doubles 61 = .ok (.lload_n 3, 1) := by decide +kernel
theorem dX7_doubles_62 : decode cX7_doubles 62 = .ok (.ladd, 1) := by decide +kernel
theorem dX7_doubles_63 : decode cX7_doubles 63 = .ok (.lcmp, 1) := by decide +kernel
theorem dX7_doubles_64 : decode cX7_doubles 64 = .ok (.ifCond .gt 7, 3) := by decide +kernel
theorem dX7_doubles_67 : decode cX7_doubles 67 = .ok (.iconst 1, 1) := by decide +kernel
theorem dX7_doubles_68 : decode cX7_doubles 68 = .ok (.goto 4, 3) := by decide +kernel
theorem dX7_doubles_71 : decode cX7_doubles 71 = .ok (.iconst 0, 1) := by decide +kernel
theorem dX7_doubles_72 : decode cX7_doubles 72 = .ok (.istore 9, 2) := by decide +kernel
theorem dX7_doubles_74 : decode cX7_doubles 74 = .ok (.iload 9, 2) := by decide +kernel
theorem dX7_doubles_76 : decode cX7_doubles 76 = .ok (.ifCond .eq 34, 3) := by decide +kernel
theorem dX7_doubles_79 : decode cX7_doubles 79 = .ok (.aload_n 0, 1) := by decide +kernel
theorem dX7_doubles_80 : decode cX7_doubles 80 = .ok (.aload_n 0, 1) := by decide +kernel
theorem dX7_doubles_81 : decode cX7_doubles 81 = .ok (.getfield 40, 3) := by decide +kernel
theorem dX7_doubles_84 : decode cX7_doubles 84 = .ok (.iload 7, 2) := by decide +kernel
theorem dX7_doubles_86 : decode cX7_doubles 86 = .ok (.laload, 1) := by decide +kernel
theorem dX7_doubles_87 : decode cX7_doubles 87 = .ok (.aload_n 0, 1) := by decide +kernel
theorem dX7_doubles_88 : decode cX7_doubles 88 = .ok (.getfield 43, 3) := by decide +kernel
theorem dX7_doubles_91 : decode cX7_doubles 91 = .ok (.iload 7, 2) := by decide +kernel
theorem dX7_doubles_93 : decode cX7_doubles 93 = .ok (.laload, 1) := by decide +kernel
theorem dX7_doubles_94 : decode cX7_doubles 94 = .ok (.aload_n 0, 1) := by decide +kernel
theorem dX7_doubles_95 : decode cX7_doubles 95 = .ok (.getfield 46, 3) := by decide +kernel
theorem dX7_doubles_98 : decode cX7_doubles 98 = .ok (.iload 7, 2) := by decide +kernel
theorem dX7_doubles_100 : decode cX7_doubles 100 = .ok (.laload, 1) := by decide +kernel
theorem dX7_doubles_101 : decode cX7_doubles 101 = .ok (.invokevirtual 215, 3) := by decide +kernel
theorem dX7_doubles_104 : decode cX7_doubles 104 = .ok (.iinc 7 1, 3) := by decide +kernel
theorem dX7_doubles_107 : decode cX7_doubles 107 = .ok (.goto 38, 3) := by decide +kernel
theorem dX7_doubles_110 : decode cX7_doubles 110 = .ok (.aload_n 0, 1) := by decide +kernel
theorem dX7_doubles_111 : decode cX7_doubles 111 = .ok (.aload_n 0, 1) := by decide +kernel
theorem dX7_doubles_112 : decode cX7_doubles 112 = .ok (.getfield 40, 3) := by decide +kernel
theorem dX7_doubles_115 : decode cX7_doubles 115 = .ok (.iload 8, 2) := by decide +kernel
theorem dX7_doubles_117 : decode cX7_doubles 117 = .ok (.laload, 1) := by decide +kernel
theorem dX7_doubles_118 : decode cX7_doubles 118 = .ok (.lload_n 1, 1) := by decide +kernel
theorem dX7_doubles_119 : decode cX7_doubles 119 = .ok (.lxor, 1) := by decide +kernel
theorem dX7_doubles_120 : decode cX7_doubles 120 = .ok (.aload_n 0, 1) := by decide +kernel
theorem dX7_doubles_121 : decode cX7_doubles 121 = .ok (.getfield 43, 3) := by decide +kernel
theorem dX7_doubles_124 : decode cX7_doubles 124 = .ok (.iload 8, 2) := by decide +kernel
theorem dX7_doubles_126 : decode cX7_doubles 126 = .ok (.laload, 1) := by decide +kernel
theorem dX7_doubles_127 : decode cX7_doubles 127 = .ok (.lload_n 3, 1) := by decide +kernel
theorem dX7_doubles_128 : decode cX7_doubles 128 = .ok (.ladd, 1) := by decide +kernel
theorem dX7_doubles_129 : decode cX7_doubles 129 = .ok (.aload_n 0, 1) := by decide +kernel
theorem dX7_doubles_130 : decode cX7_doubles 130 = .ok (.getfield 46, 3) := by decide +kernel
theorem dX7_doubles_133 : decode cX7_doubles 133 = .ok (.iload 8, 2) := by decide +kernel
theorem dX7_doubles_135 : decode cX7_doubles 135 = .ok (.laload, 1) := by decide +kernel
theorem dX7_doubles_136 : decode cX7_doubles 136 = .ok (.lload 5, 2) := by decide +kernel
theorem dX7_doubles_138 : decode cX7_doubles 138 = .ok (.ladd, 1) := by decide +kernel
theorem dX7_doubles_139 : decode cX7_doubles 139 = .ok (.invokevirtual 215, 3) := by decide +kernel
theorem dX7_doubles_142 : decode cX7_doubles 142 = .ok (.iinc 8 1, 3) := by decide +kernel
theorem dX7_doubles_145 : decode cX7_doubles 145 = .ok (.goto (-134), 3) := by decide +kernel
theorem dX7_doubles_148 : decode cX7_doubles 148 = .ok (.return_, 1) := by decide +kernel
theorem dX7_takesNexts_0 : decode cX7_takesNexts 0 = .ok (.aload_n 0, 1) := by decide +kernel
theorem dX7_takesNexts_1 : decode cX7_takesNexts 1 = .ok (.aload_n 0, 1) := by decide +kernel
theorem dX7_takesNexts_2 : decode cX7_takesNexts 2 = .ok (.getfield 209, 3) := by decide +kernel
theorem dX7_takesNexts_5 : decode cX7_takesNexts 5 = .ok (.putfield 195, 3) := by decide +kernel
theorem dX7_takesNexts_8 : decode cX7_takesNexts 8 = .ok (.iconst 0, 1) := by decide +kernel
theorem dX7_takesNexts_9 : decode cX7_takesNexts 9 = .ok (.istore_n 1, 1) := by decide +kernel
theorem dX7_takesNexts_10 : decode cX7_takesNexts 10 = .ok (.iload_n 1, 1) := by decide +kernel
theorem dX7_takesNexts_11 : decode cX7_takesNexts 11 = .ok (.aload_n 0, 1) := by decide +kernel
theorem dX7_takesNexts_12 : decode cX7_takesNexts 12 = .ok (.getfield 209, 3) := by decide +kernel
theorem dX7_takesNexts_15 : decode cX7_takesNexts 15 = .ok (.if_icmp .ge 45, 3) := by decide +kernel
theorem dX7_takesNexts_18 : decode cX7_takesNexts 18 = .ok (.aload_n 0, 1) := by decide +kernel
theorem dX7_takesNexts_19 : decode cX7_takesNexts 19 = .ok (.getfield 40, 3) := by decide +kernel
theorem dX7_takesNexts_22 : decode cX7_takesNexts 22 = .ok (.iload_n 1, 1) := by decide +kernel
theorem dX7_takesNexts_23 : decode cX7_takesNexts 23 = .ok (.aload_n 0, 1) := by decide +kernel
theorem dX7_takesNexts_24 : decode cX7_takesNexts 24 = .ok (.getfield 49, 3) := by decide +kernel
theorem dX7_takesNexts_27 : decode cX7_takesNexts 27 = .ok (.iload_n 1, 1) := by decide +kernel
theorem dX7_takesNexts_28 : decode cX7_takesNexts 28 = .ok (.laload, 1) := by decide +kernel
theorem dX7_takesNexts_29 : decode cX7_takesNexts 29 = .ok (.lastore, 1) := by decide +kernel
theorem dX7_takesNexts_30 : decode cX7_takesNexts 30 = .ok (.aload_n 0, 1) := by decide +kernel
theorem dX7_takesNexts_31 : decode cX7_takesNexts 31 = .ok (.getfield 43, 3) := by decide +kernel
theorem dX7_takesNexts_34 : decode cX7_takesNexts 34 = .ok (.iload_n 1, 1) := by decide +kernel
theorem dX7_takesNexts_35 : decode cX7_takesNexts 35 = .ok (.aload_n 0, 1) := by decide +kernel
theorem dX7_takesNexts_36 : decode cX7_takesNexts 36 = .ok (.getfield 52, 3) := by decide +kernel
theorem dX7_takesNexts_39 : decode cX7_takesNexts 39 = .ok (.iload_n 1, 1) := by decide +kernel
theorem dX7_takesNexts_40 : decode cX7_takesNexts 40 = .ok (.laload, 1) := by decide +kernel
theorem dX7_takesNexts_41 : decode cX7_takesNexts 41 = .ok (.lastore, 1) := by decide +kernel
theorem dX7_takesNexts_42 : decode cX7_takesNexts 42 = .ok (.aload_n 0, 1) := by decide +kernel
theorem dX7_takesNexts_43 : decode cX7_takesNexts 43 = .ok (.getfield 46, 3) := by decide +kernel
theorem dX7_takesNexts_46 : decode cX7_takesNexts 46 = .ok (.iload_n 1, 1) := by decide +kernel
theorem dX7_takesNexts_47 : decode cX7_takesNexts 47 = .ok (.aload_n 0, 1) := by decide +kernel
theorem dX7_takesNexts_48 : decode cX7_takesNexts 48 = .ok (.getfield 55, 3) := by decide +kernel
theorem dX7_takesNexts_51 : decode cX7_takesNexts 51 = .ok (.iload_n 1, 1) := by decide +kernel
theorem dX7_takesNexts_52 : decode cX7_takesNexts 52 = .ok (.laload, 1) := by decide +kernel
theorem dX7_takesNexts_53 : decode cX7_takesNexts 53 = .ok (.lastore, 1) := by decide +kernel
theorem dX7_takesNexts_54 : decode cX7_takesNexts 54 = .ok (.iinc 1 1, 3) := by decide +kernel
theorem dX7_takesNexts_57 : decode cX7_takesNexts 57 = .ok (.goto (-47), 3) := by decide +kernel
theorem dX7_takesNexts_60 : decode cX7_takesNexts 60 = .ok (.return_, 1) := by decide +kernel
set_option maxRecDepth 20000 in
theorem ggX7_boundOf_X7_downwards : GoodIn wsX7_boundOf wsX7_downwards := goodIn_r _ [13] (by decide +kernel) (by decide +kernel)
set_option maxRecDepth 20000 in
theorem gX7_boundOf_X7_downwards : GoodIn wsX7_boundOf (va_wsS RX7 221 yX7_downwards wsX7_downwards) := goodIn_app (goodIn_of _ (by decide +kernel)) ggX7_boundOf_X7_downwards
theorem dX7_boundOf_0 : decode cX7_boundOf 0 = .ok (.aload_n 0, 1) := by decide +kernel
theorem dX7_boundOf_1 : decode cX7_boundOf 1 = .ok (.getfield 43, 3) := by decide +kernel
theorem dX7_boundOf_4 : decode cX7_boundOf 4 = .ok (.iload_n 1, 1) := by decide +kernel
theorem dX7_boundOf_5 : decode cX7_boundOf 5 = .ok (.laload, 1) := by decide +kernel
theorem dX7_boundOf_6 : decode cX7_boundOf 6 = .ok (.aload_n 0, 1) := by decide +kernel
theorem dX7_boundOf_7 : decode cX7_boundOf 7 = .ok (.getfield 176, 3) := by decide +kernel
theorem dX7_boundOf_10 : decode cX7_boundOf 10 = .ok (.lcmp, 1) := by decide +kernel
theorem dX7_boundOf_11 : decode cX7_boundOf 11 = .ok (.ifCond .gt 63, 3) := by decide +kernel
theorem dX7_boundOf_14 : decode cX7_boundOf 14 = .ok (.aload_n 0, 1) := by decide +kernel
theorem dX7_boundOf_15 : decode cX7_boundOf 15 = .ok (.getfield 46, 3) := by decide +kernel
theorem dX7_boundOf_18 : decode cX7_boundOf 18 = .ok (.iload_n 1, 1) := by decide +kernel
theorem dX7_boundOf_19 : decode cX7_boundOf 19 = .ok (.laload, 1) := by decide +kernel
theorem dX7_boundOf_20 : decode cX7_boundOf 20 = .ok (.aload_n 0, 1) := by decide +kernel
theorem dX7_boundOf_21 : decode cX7_boundOf 21 = .ok (.getfield 189, 3) := by decide +kernel
theorem dX7_boundOf_24 : decode cX7_boundOf 24 = .ok (.iconst 1, 1) := by decide +kernel
theorem dX7_boundOf_25 : decode cX7_boundOf 25 = .ok (.iadd, 1) := by decide +kernel
theorem dX7_boundOf_26 : decode cX7_boundOf 26 = .ok (.aload_n 0, 1) := by decide +kernel
theorem dX7_boundOf_27 : decode cX7_boundOf 27 = .ok (.getfield 160, 3) := by decide +kernel
theorem dX7_boundOf_30 : decode cX7_boundOf 30 = .ok (.if_icmp .ge 41, 3) := by decide +kernel
theorem dX7_boundOf_33 : decode cX7_boundOf 33 = .ok (.aload_n 0, 1) := by decide +kernel
theorem dX7_boundOf_34 : decode cX7_boundOf 34 = .ok (.getfield 176, 3) := by decide +kernel
theorem dX7_boundOf_37 : decode cX7_boundOf 37 = .ok (.aload_n 0, 1) := by decide +kernel
theorem dX7_boundOf_38 : decode cX7_boundOf 38 = .ok (.getfield 43, 3) := by decide +kernel
theorem dX7_boundOf_41 : decode cX7_boundOf 41 = .ok (.iload_n 1, 1) := by decide +kernel
theorem dX7_boundOf_42 : decode cX7_boundOf 42 = .ok (.laload, 1) := by decide +kernel
theorem dX7_boundOf_43 : decode cX7_boundOf 43 = .ok (.lsub, 1) := by decide +kernel
theorem dX7_boundOf_44 : decode cX7_boundOf 44 = .ok (.aload_n 0, 1) := by decide +kernel
theorem dX7_boundOf_45 : decode cX7_boundOf 45 = .ok (.getfield 37, 3) := by decide +kernel
theorem dX7_boundOf_48 : decode cX7_boundOf 48 = .ok (.aload_n 0, 1) := by decide +kernel
theorem dX7_boundOf_49 : decode cX7_boundOf 49 = .ok (.getfield 189, 3) := by decide +kernel
theorem dX7_boundOf_52 : decode cX7_boundOf 52 = .ok (.iconst 1, 1) := by decide +kernel
theorem dX7_boundOf_53 : decode cX7_boundOf 53 = .ok (.iadd, 1) := by decide +kernel
theorem dX7_boundOf_54 : decode cX7_boundOf 54 = .ok (.laload, 1) := by decide +kernel
theorem dX7_boundOf_55 : decode cX7_boundOf 55 = .ok (.lmul, 1) := by decide +kernel
theorem dX7_boundOf_56 : decode cX7_boundOf 56 = .ok (.aload_n 0, 1) := by decide +kernel
theorem dX7_boundOf_57 : decode cX7_boundOf 57 = .ok (.getfield 33, 3) := by decide +kernel
theorem dX7_boundOf_60 : decode cX7_boundOf 60 = .ok (.aload_n 0, 1) := by decide +kernel
theorem dX7_boundOf_61 : decode cX7_boundOf 61 = .ok (.getfield 189, 3) := by decide +kernel
theorem dX7_boundOf_64 : decode cX7_boundOf 64 = .ok (.iconst 1, 1) := by decide +kernel
theorem dX7_boundOf_65 : decode cX7_boundOf 65 = .ok (.iadd, 1) := by decide +kernel
theorem dX7_boundOf_66 : decode cX7_boundOf 66 = .ok (.laload, 1) := by decide +kernel
theorem dX7_boundOf_67 : decode cX7_boundOf 67 = .ok (.ldiv, 1) := by decide +kernel
theorem dX7_boundOf_68 : decode cX7_boundOf 68 = .ok (.goto 4, 3) := by decide +kernel
theorem dX7_boundOf_71 : decode cX7_boundOf 71 = .ok (.lconst 0, 1) := by decide +kernel
theorem dX7_boundOf_72 : decode cX7_boundOf 72 = .ok (.ladd, 1) := by decide +kernel
theorem dX7_boundOf_73 : decode cX7_boundOf 73 = .ok (.lreturn, 1) := by decide +kernel
theorem dX7_boundOf_74 : decode cX7_boundOf 74 = .ok (.aload_n 0, 1) := by decide +kernel
theorem dX7_boundOf_75 : decode cX7_boundOf 75 = .ok (.getfield 186, 3) := by decide +kernel
theorem dX7_boundOf_78 : decode cX7_boundOf 78 = .ok (.ifCond .ne 9, 3) := by decide +kernel
theorem dX7_boundOf_81 : decode cX7_boundOf 81 = .ok (.ldc2_w 219, 3) := by decide +kernel
theorem dX7_boundOf_84 : decode cX7_boundOf 84 = .ok (.goto 47, 3) := by decide +kernel
theorem dX7_boundOf_87 : decode cX7_boundOf 87 = .ok (.aload_n 0, 1) := by decide +kernel
theorem dX7_boundOf_88 : decode cX7_boundOf 88 = .ok (.getfield 46, 3) := by decide +kernel
theorem dX7_boundOf_91 : decode cX7_boundOf 91 = .ok (.iload_n 1, 1) := by decide +kernel
theorem dX7_boundOf_92 : decode cX7_boundOf 92 = .ok (.laload, 1) := by decide +kernel
theorem dX7_boundOf_93 : decode cX7_boundOf 93 = .ok (.aload_n 0, 1) := by decide +kernel
theorem dX7_boundOf_94 : decode cX7_boundOf 94 = .ok (.getfield 176, 3) := by decide +kernel
theorem dX7_boundOf_97 : decode cX7_boundOf 97 = .ok (.aload_n 0, 1) := by decide +kernel
theorem dX7_boundOf_98 : decode cX7_boundOf 98 = .ok (.getfield 43, 3) := by decide +kernel
theorem dX7_boundOf_101 : decode cX7_boundOf 101 = .ok (.iload_n 1, 1) := by decide +kernel
theorem dX7_boundOf_102 : decode cX7_boundOf 102 = .ok (.laload, 1) := by decide +kernel
theorem dX7_boundOf_103 : decode cX7_boundOf 103 = .ok (.lsub, 1) := by decide +kernel
theorem dX7_boundOf_104 : decode cX7_boundOf 104 = .ok (.aload_n 0, 1) := by decide +kernel
theorem dX7_boundOf_105 : decode cX7_boundOf 105 = .ok (.getfield 37, 3) := by decide +kernel
theorem dX7_boundOf_108 : decode cX7_boundOf 108 = .ok (.aload_n 0, 1) := by decide +kernel
theorem dX7_boundOf_109 : decode cX7_boundOf 109 = .ok (.getfield 186, 3) := by decide +kernel
theorem dX7_boundOf_112 : decode cX7_boundOf 112 = .ok (.iconst 1, 1) := by decide +kernel
theorem dX7_boundOf_113 : decode cX7_boundOf 113 = .ok (.isub, 1) := by decide +kernel
theorem dX7_boundOf_114 : decode cX7_boundOf 114 = .ok (.laload, 1) := by decide +kernel
theorem dX7_boundOf_115 : decode cX7_boundOf 115 = .ok (.lmul, 1) := by decide +kernel
theorem dX7_boundOf_116 : decode cX7_boundOf 116 = .ok (.aload_n 0, 1) := by decide +kernel
theorem dX7_boundOf_117 : decode cX7_boundOf 117 = .ok (.getfield 33, 3) := by decide +kernel
theorem dX7_boundOf_120 : decode cX7_boundOf 120 = .ok (.aload_n 0, 1) := by decide +kernel
theorem dX7_boundOf_121 : decode cX7_boundOf 121 = .ok (.getfield 186, 3) := by decide +kernel
theorem dX7_boundOf_124 : decode cX7_boundOf 124 = .ok (.iconst 1, 1) := by decide +kernel
theorem dX7_boundOf_125 : decode cX7_boundOf 125 = .ok (.isub, 1) := by decide +kernel
theorem dX7_boundOf_126 : decode cX7_boundOf 126 = .ok (.laload, 1) := by decide +kernel
theorem dX7_boundOf_127 : decode cX7_boundOf 127 = .ok (.invokestatic 221, 3) := by decide +kernel
theorem dX7_boundOf_130 : decode cX7_boundOf 130 = .ok (.ladd, 1) := by decide +kernel
theorem dX7_boundOf_131 : decode cX7_boundOf 131 = .ok (.lreturn, 1) := by decide +kernel
theorem dX7_isRight_0 : decode cX7_isRight 0 = .ok (.aload_n 0, 1) := by decide +kernel
theorem dX7_isRight_1 : decode cX7_isRight 1 = .ok (.getfield 192, 3) := by decide +kernel
theorem dX7_isRight_4 : decode cX7_isRight 4 = .ok (.iconst 2, 1) := by decide +kernel
theorem dX7_isRight_5 : decode cX7_isRight 5 = .ok (.irem, 1) := by decide +kernel
theorem dX7_isRight_6 : decode cX7_isRight 6 = .ok (.ifCond .ne 16, 3) := by decide +kernel
theorem dX7_isRight_9 : decode cX7_isRight 9 = .ok (.aload_n 0, 1) := by decide +kernel
theorem dX7_isRight_10 : decode cX7_isRight 10 = .ok (.getfield 189, 3) := by decide +kernel
theorem dX7_isRight_13 : decode cX7_isRight 13 = .ok (.aload_n 0, 1) := by decide +kernel
theorem dX7_isRight_14 : decode cX7_isRight 14 = .ok (.getfield 160, 3) := by decide +kernel
theorem dX7_isRight_17 : decode cX7_isRight 17 = .ok (.iconst 1, 1) := by decide +kernel
theorem dX7_isRight_18 : decode cX7_isRight 18 = .ok (.isub, 1) := by decide +kernel
theorem dX7_isRight_19 : decode cX7_isRight 19 = .ok (.if_icmp .lt 10, 3) := by decide +kernel
theorem dX7_isRight_22 : decode cX7_isRight 22 = .ok (.aload_n 0, 1) := by decide +kernel
theorem dX7_isRight_23 : decode cX7_isRight 23 = .ok (.getfield 186, 3) := by decide +kernel
theorem dX7_isRight_26 : decode cX7_isRight 26 = .ok (.ifCond .ne 7, 3) := by decide +kernel
theorem dX7_isRight_29 : decode cX7_isRight 29 = .ok (.iconst 1, 1) := by decide +kernel
theorem dX7_isRight_30 : decode cX7_isRight 30 = .ok (.goto 4, 3) := by decide +kernel
theorem dX7_isRight_33 : decode cX7_isRight 33 = .ok (.iconst 0, 1) := by decide +kernel
theorem dX7_isRight_34 : decode cX7_isRight 34 = .ok (.ireturn, 1) := by decide +kernel
set_option maxRecDepth 20000 in
theorem ggX7_goes_X7_isRight : GoodIn wsX7_goes wsX7_isRight := goodIn_r _ [20, 7, 1, 21, 2, 49, 50, 51, 52, 53, 54, 55, 56, 57, 58, 59, 60, 61, 62, 63, 64, 65, 66, 67, 68, 69, 70, 71, 72, 73, 74, 75, 76, 77, 78, 79, 80, 81, 82, 83, 84, 85, 86, 87, 88, 89] (by decide +kernel) (by decide +kernel)
set_option maxRecDepth 20000 in
theorem gX7_goes_X7_isRight : GoodIn wsX7_goes (wsV RX7 225 RX7 yX7_isRight wsX7_isRight) := goodIn_app (goodIn_of _ (by decide +kernel)) ggX7_goes_X7_isRight
set_option maxRecDepth 20000 in
theorem ggX7_goes_X7_doubles : GoodIn wsX7_goes wsX7_doubles := goodIn_r _ [25, 5, 8, 9, 13, 11, 26, 27, 28, 19, 29, 30, 31, 32, 33, 34, 35, 36, 49, 50, 51, 52, 53, 54, 55, 56, 57, 58, 59, 60, 61, 62, 63, 64, 65, 66, 67, 68, 69, 70, 71, 72, 73, 74, 75, 76, 77, 78, 79, 80, 81, 82, 83, 84, 85, 86, 87, 88, 89] (by decide +kernel) (by decide +kernel)
set_option maxRecDepth 20000 in
theorem gX7_goes_X7_doubles : GoodIn wsX7_goes (wsV RX7 228 RX7 yX7_doubles wsX7_doubles) := goodIn_app (goodIn_of _ (by decide +kernel)) ggX7_goes_X7_doubles
set_option maxRecDepth 20000 in
theorem ggX7_goes_X7_takesNexts : GoodIn wsX7_goes wsX7_takesNexts := goodIn_r _ [40, 5, 8, 13, 32, 9, 31, 11, 30, 49, 50, 51, 52, 53, 54, 55, 56, 57, 58, 59, 60, 61, 62, 63, 64, 65, 66, 67, 68, 69, 70, 71, 72, 73, 74, 75, 76, 77, 78, 79, 80, 81, 82, 83, 84, 85, 86, 87, 88, 89] (by decide +kernel) (by decide +kernel)
set_option maxRecDepth 20000 in
theorem gX7_goes_X7_takesNexts : GoodIn wsX7_goes (wsV RX7 231 RX7 yX7_takesNexts wsX7_takesNexts) := goodIn_app (goodIn_of _ (by decide +kernel)) ggX7_goes_X7_takesNexts
set_option maxRecDepth 20000 in
theorem ggX7_goes_X7_boundOf : GoodIn wsX7_goes wsX7_boundOf := goodIn_r _ [44, 9, 10, 11, 1, 21, 4, 3, 2, 45, 46, 47, 19, 48, 49, 50, 51, 52, 53, 54, 55, 56, 57, 58, 59, 60, 61, 62, 63, 64, 65, 66, 67, 68, 69, 70, 71, 72, 73, 74, 75, 76, 77, 78, 79, 80, 81, 82, 83, 84, 85, 86, 87, 88, 89] (by decide +kernel) (by decide +kernel)
set_option maxRecDepth 20000 in
theorem gX7_goes_X7_boundOf : GoodIn wsX7_goes (wsV RX7 234 RX7 yX7_boundOf wsX7_boundOf) := goodIn_app (goodIn_of _ (by decide +kernel)) ggX7_goes_X7_boundOf
theorem dX7_goes_0 : decode cX7_goes 0 = .ok (.aload_n 0, 1) := by decide +kernel
theorem dX7_goes_1 : decode cX7_goes 1 = .ok (.invokevirtual 225, 3) := by decide +kernel
theorem dX7_goes_4 : decode cX7_goes 4 = .ok (.istore_n 1, 1) := by decide +kernel
theorem dX7_goes_5 : decode cX7_goes 5 = .ok (.iload_n 1, 1) := by decide +kernel
theorem dX7_goes_6 : decode cX7_goes 6 = .ok (.ifCond .eq 12, 3) := by decide +kernel
theorem dX7_goes_9 : decode cX7_goes 9 = .ok (.aload_n 0, 1) := by decide +kernel
theorem dX7_goes_10 : decode cX7_goes 10 = .ok (.getfield 189, 3) := by decide +kernel
theorem dX7_goes_13 : decode cX7_goes 13 = .ok (.iconst 1, 1) := by decide +kernel
theorem dX7_goes_14 : decode cX7_goes 14 = .ok (.iadd, 1) := by decide +kernel
theorem dX7_goes_15 : decode cX7_goes 15 = .ok (.goto 9, 3) := by decide +kernel
theorem dX7_goes_18 : decode cX7_goes 18 = .ok (.aload_n 0, 1) := by decide +kernel
theorem dX7_goes_19 : decode cX7_goes 19 = .ok (.getfield 186, 3) := by decide +kernel
theorem dX7_goes_22 : decode cX7_goes 22 = .ok (.iconst 1, 1) := by decide +kernel
theorem dX7_goes_23 : decode cX7_goes 23 = .ok (.isub, 1) := by decide +kernel
theorem dX7_goes_24 : decode cX7_goes 24 = .ok (.istore_n 2, 1) := by decide +kernel
theorem dX7_goes_25 : decode cX7_goes 25 = .ok (.aload_n 0, 1) := by decide +kernel
theorem dX7_goes_26 : decode cX7_goes 26 = .ok (.lconst 1, 1) := by decide +kernel
theorem dX7_goes_27 : decode cX7_goes 27 = .ok (.iload_n 2, 1) := by decide +kernel
theorem dX7_goes_28 : decode cX7_goes 28 = .ok (.lshl, 1) := by decide +kernel
theorem dX7_goes_29 : decode cX7_goes 29 = .ok (.iload_n 1, 1) := by decide +kernel
theorem dX7_goes_30 : decode cX7_goes 30 = .ok (.ifCond .eq 12, 3) := by decide +kernel
theorem dX7_goes_33 : decode cX7_goes 33 = .ok (.aload_n 0, 1) := by decide +kernel
theorem dX7_goes_34 : decode cX7_goes 34 = .ok (.getfield 33, 3) := by decide +kernel
theorem dX7_goes_37 : decode cX7_goes 37 = .ok (.iload_n 2, 1) := by decide +kernel
theorem dX7_goes_38 : decode cX7_goes 38 = .ok (.laload, 1) := by decide +kernel
theorem dX7_goes_39 : decode cX7_goes 39 = .ok (.goto 10, 3) := by decide +kernel
theorem dX7_goes_42 : decode cX7_goes 42 = .ok (.aload_n 0, 1) := by decide +kernel
theorem dX7_goes_43 : decode cX7_goes 43 = .ok (.getfield 33, 3) := by decide +kernel
theorem dX7_goes_46 : decode cX7_goes 46 = .ok (.iload_n 2, 1) := by decide +kernel
theorem dX7_goes_47 : decode cX7_goes 47 = .ok (.laload, 1) := by decide +kernel
theorem dX7_goes_48 : decode cX7_goes 48 = .ok (.lneg, 1) := by decide +kernel
theorem dX7_goes_49 : decode cX7_goes 49 = .ok (.iload_n 1, 1) := by decide +kernel
theorem dX7_goes_50 : decode cX7_goes 50 = .ok (.ifCond .eq 12, 3) := by decide +kernel
theorem dX7_goes_53 : decode cX7_goes 53 = .ok (.aload_n 0, 1) := by decide +kernel
theorem dX7_goes_54 : decode cX7_goes 54 = .ok (.getfield 37, 3) := by decide +kernel
theorem dX7_goes_57 : decode cX7_goes 57 = .ok (.iload_n 2, 1) := by decide +kernel
theorem dX7_goes_58 : decode cX7_goes 58 = .ok (.laload, 1) := by decide +kernel
theorem dX7_goes_59 : decode cX7_goes 59 = .ok (.goto 10, 3) := by decide +kernel
theorem dX7_goes_62 : decode cX7_goes 62 = .ok (.aload_n 0, 1) := by decide +kernel
theorem dX7_goes_63 : decode cX7_goes 63 = .ok (.getfield 37, 3) := by decide +kernel
theorem dX7_goes_66 : decode cX7_goes 66 = .ok (.iload_n 2, 1) := by decide +kernel
theorem dX7_goes_67 : decode cX7_goes 67 = .ok (.laload, 1) := by decide +kernel
theorem dX7_goes_68 : decode cX7_goes 68 = .ok (.lneg, 1) := by decide +kernel
theorem dX7_goes_69 : decode cX7_goes 69 = .ok (.invokevirtual 228, 3) := by decide +kernel
theorem dX7_goes_72 : decode cX7_goes 72 = .ok (.aload_n 0, 1) := by decide +kernel
theorem dX7_goes_73 : decode cX7_goes 73 = .ok (.getfield 209, 3) := by decide +kernel
theorem dX7_goes_76 : decode cX7_goes 76 = .ok (.aload_n 0, 1) := by decide +kernel
theorem dX7_goes_77 : decode cX7_goes 77 = .ok (.getfield 7, 3) := by decide +kernel
theorem dX7_goes_80 : decode cX7_goes 80 = .ok (.iconst 2, 1) := by decide +kernel
theorem dX7_goes_81 : decode cX7_goes 81 = .ok (.iaload, 1) := by decide +kernel
theorem dX7_goes_82 : decode cX7_goes 82 = .ok (.if_icmp .le 5, 3) := by decide +kernel
theorem dX7_goes_85 : decode cX7_goes 85 = .ok (.iconst 0, 1) := by decide +kernel
theorem dX7_goes_86 : decode cX7_goes 86 = .ok (.ireturn, 1) := by decide +kernel
theorem dX7_goes_87 : decode cX7_goes 87 = .ok (.aload_n 0, 1) := by decide +kernel
theorem dX7_goes_88 : decode cX7_goes 88 = .ok (.invokevirtual 231, 3) := by decide +kernel
theorem dX7_goes_91 : decode cX7_goes 91 = .ok (.aload_n 0, 1) := by decide +kernel
theorem dX7_goes_92 : decode cX7_goes 92 = .ok (.dup, 1) := by decide +kernel
theorem dX7_goes_93 : decode cX7_goes 93 = .ok (.getfield 189, 3) := by decide +kernel
theorem dX7_goes_96 : decode cX7_goes 96 = .ok (.iload_n 1, 1) := by decide +kernel
theorem dX7_goes_97 : decode cX7_goes 97 = .ok (.ifCond .eq 7, 3) := by decide +kernel
theorem dX7_goes_100 : decode cX7_goes 100 = .ok (.iconst 1, 1) := by decide +kernel
theorem dX7_goes_101 : decode cX7_goes 101 = .ok (.goto 4, 3) := by decide +kernel
theorem dX7_goes_104 : decode cX7_goes 104 = .ok (.iconst 0, 1) := by decide +kernel
theorem dX7_goes_105 : decode cX7_goes 105 = .ok (.iadd, 1) := by decide +kernel
theorem dX7_goes_106 : decode cX7_goes 106 = .ok (.putfield 189, 3) := by decide +kernel
theorem dX7_goes_109 : decode cX7_goes 109 = .ok (.aload_n 0, 1) := by decide +kernel
theorem dX7_goes_110 : decode cX7_goes 110 = .ok (.dup, 1) := by decide +kernel
theorem dX7_goes_111 : decode cX7_goes 111 = .ok (.getfield 186, 3) := by decide +kernel
theorem dX7_goes_114 : decode cX7_goes 114 = .ok (.iload_n 1, 1) := by decide +kernel
theorem dX7_goes_115 : decode cX7_goes 115 = .ok (.ifCond .eq 7, 3) := by decide +kernel
theorem dX7_goes_118 : decode cX7_goes 118 = .ok (.iconst 0, 1) := by decide +kernel
theorem dX7_goes_119 : decode cX7_goes 119 = .ok (.goto 4, 3) := by decide +kernel
theorem dX7_goes_122 : decode cX7_goes 122 = .ok (.iconst 1, 1) := by decide +kernel
theorem dX7_goes_123 : decode cX7_goes 123 = .ok (.isub, 1) := by decide +kernel
theorem dX7_goes_124 : decode cX7_goes 124 = .ok (.putfield 186, 3) := by decide +kernel
theorem dX7_goes_127 : decode cX7_goes 127 = .ok (.aload_n 0, 1) := by decide +kernel
theorem dX7_goes_128 : decode cX7_goes 128 = .ok (.dup, 1) := by decide +kernel
theorem dX7_goes_129 : decode cX7_goes 129 = .ok (.getfield 192, 3) := by decide +kernel
theorem dX7_goes_132 : decode cX7_goes 132 = .ok (.iconst 1, 1) := by decide +kernel
theorem dX7_goes_133 : decode cX7_goes 133 = .ok (.iadd, 1) := by decide +kernel
theorem dX7_goes_134 : decode cX7_goes 134 = .ok (.putfield 192, 3) := by decide +kernel
theorem dX7_goes_137 : decode cX7_goes 137 = .ok (.iconst 0, 1) := by decide +kernel
theorem dX7_goes_138 : decode cX7_goes 138 = .ok (.istore_n 3, 1) := by decide +kernel
theorem dX7_goes_139 : decode cX7_goes 139 = .ok (.iload_n 3, 1) := by decide +kernel
theorem dX7_goes_140 : decode cX7_goes 140 = .ok (.aload_n 0, 1) := by decide +kernel
theorem dX7_goes_141 : decode cX7_goes 141 = .ok (.getfield 195, 3) := by decide +kernel
theorem dX7_goes_144 : decode cX7_goes 144 = .ok (.if_icmp .ge 67, 3) := by decide +kernel
theorem dX7_goes_147 : decode cX7_goes 147 = .ok (.aload_n 0, 1) := by decide +kernel
theorem dX7_goes_148 : decode cX7_goes 148 = .ok (.getfield 43, 3) := by decide +kernel
theorem dX7_goes_151 : decode cX7_goes 151 = .ok (.iload_n 3, 1) := by decide +kernel
theorem dX7_goes_152 : decode cX7_goes 152 = .ok (.laload, 1) := by decide +kernel
theorem dX7_goes_153 : decode cX7_goes 153 = .ok (.aload_n 0, 1) := by decide +kernel
theorem dX7_goes_154 : decode cX7_goes 154 = .ok (.getfield 176, 3) := by decide +kernel
theorem dX7_goes_157 : decode cX7_goes 157 = .ok (.lcmp, 1) := by decide +kernel
theorem dX7_goes_158 : decode cX7_goes 158 = .ok (.ifCond .gt 47, 3) := by decide +kernel
theorem dX7_goes_161 : decode cX7_goes 161 = .ok (.aload_n 0, 1) := by decide +kernel
theorem dX7_goes_162 : decode cX7_goes 162 = .ok (.getfield 46, 3) := by decide +kernel
theorem dX7_goes_165 : decode cX7_goes 165 = .ok (.iload_n 3, 1) := by decide +kernel
theorem dX7_goes_166 : decode cX7_goes 166 = .ok (.laload, 1) := by decide +kernel
theorem dX7_goes_167 : decode cX7_goes 167 = .ok (.aload_n 0, 1) := by decide +kernel
theorem dX7_goes_168 : decode cX7_goes 168 = .ok (.getfield 204, 3) := by decide +kernel
theorem dX7_goes_171 : decode cX7_goes 171 = .ok (.lcmp, 1) := by decide +kernel
theorem dX7_goes_172 : decode cX7_goes 172 = .ok (.ifCond .le 33, 3) := by decide +kernel
theorem dX7_goes_175 : decode cX7_goes 175 = .ok (.aload_n 0, 1) := by decide +kernel
theorem dX7_goes_176 : decode cX7_goes 176 = .ok (.aload_n 0, 1) := by decide +kernel
theorem dX7_goes_177 : decode cX7_goes 177 = .ok (.getfield 40, 3) := by decide +kernel
theorem dX7_goes_180 : decode cX7_goes 180 = .ok (.iload_n 3, 1) := by decide +kernel
theorem dX7_goes_181 : decode cX7_goes 181 = .ok (.laload, 1) := by decide +kernel
theorem dX7_goes_182 : decode cX7_goes 182 = .ok (.putfield 198, 3) := by decide +kernel
theorem dX7_goes_185 : decode cX7_goes 185 = .ok (.aload_n 0, 1) := by decide +kernel
theorem dX7_goes_186 : decode cX7_goes 186 = .ok (.aload_n 0, 1) := by decide +kernel
theorem dX7_goes_187 : decode cX7_goes 187 = .ok (.getfield 43, 3) := by decide +kernel
theorem dX7_goes_190 : decode cX7_goes 190 = .ok (.iload_n 3, 1) := by decide +kernel
theorem dX7_goes_191 : decode cX7_goes 191 = .ok (.laload, 1) := by decide +kernel
theorem dX7_goes_192 : decode cX7_goes 192 = .ok (.putfield 201, 3) := by decide +kernel
theorem dX7_goes_195 : decode cX7_goes 195 = .ok (.aload_n 0, 1) := by decide +kernel
theorem dX7_goes_196 : decode cX7_goes 196 = .ok (.aload_n 0, 1) := by decide +kernel
theorem dX7_goes_197 : decode cX7_goes 197 = .ok (.getfield 46, 3) := by decide +kernel
theorem dX7_goes_200 : decode cX7_goes 200 = .ok (.iload_n 3, 1) := by decide +kernel
theorem dX7_goes_201 : decode cX7_goes 201 = .ok (.laload, 1) := by decide +kernel
theorem dX7_goes_202 : decode cX7_goes 202 = .ok (.putfield 204, 3) := by decide +kernel
theorem dX7_goes_205 : decode cX7_goes 205 = .ok (.iinc 3 1, 3) := by decide +kernel
theorem dX7_goes_208 : decode cX7_goes 208 = .ok (.goto (-69), 3) := by decide +kernel
theorem dX7_goes_211 : decode cX7_goes 211 = .ok (.iconst 0, 1) := by decide +kernel
theorem dX7_goes_212 : decode cX7_goes 212 = .ok (.istore_n 3, 1) := by decide +kernel
theorem dX7_goes_213 : decode cX7_goes 213 = .ok (.iconst 0, 1) := by decide +kernel
theorem dX7_goes_214 : decode cX7_goes 214 = .ok (.istore 4, 2) := by decide +kernel
theorem dX7_goes_216 : decode cX7_goes 216 = .ok (.iload 4, 2) := by decide +kernel
theorem dX7_goes_218 : decode cX7_goes 218 = .ok (.aload_n 0, 1) := by decide +kernel
theorem dX7_goes_219 : decode cX7_goes 219 = .ok (.getfield 195, 3) := by decide +kernel
theorem dX7_goes_222 : decode cX7_goes 222 = .ok (.if_icmp .ge 104, 3) := by decide +kernel
theorem dX7_goes_225 : decode cX7_goes 225 = .ok (.aload_n 0, 1) := by decide +kernel
theorem dX7_goes_226 : decode cX7_goes 226 = .ok (.getfield 43, 3) := by decide +kernel
theorem dX7_goes_229 : decode cX7_goes 229 = .ok (.iload 4, 2) := by decide +kernel
theorem dX7_goes_231 : decode cX7_goes 231 = .ok (.laload, 1) := by decide +kernel
theorem dX7_goes_232 : decode cX7_goes 232 = .ok (.aload_n 0, 1) := by decide +kernel
theorem dX7_goes_233 : decode cX7_goes 233 = .ok (.getfield 176, 3) := by decide +kernel
theorem dX7_goes_236 : decode cX7_goes 236 = .ok (.lcmp, 1) := by decide +kernel
theorem dX7_goes_237 : decode cX7_goes 237 = .ok (.ifCond .le 10, 3) := by decide +kernel
theorem dX7_goes_240 : decode cX7_goes 240 = .ok (.aload_n 0, 1) := by decide +kernel
theorem dX7_goes_241 : decode cX7_goes 241 = .ok (.getfield 186, 3) := by decide +kernel
theorem dX7_goes_244 : decode cX7_goes 244 = .ok (.ifCond .le 21, 3) := by decide +kernel
theorem dX7_goes_247 : decode cX7_goes 247 = .ok (.aload_n 0, 1) := by decide +kernel
theorem dX7_goes_248 : decode cX7_goes 248 = .ok (.iload 4, 2) := by decide +kernel
theorem dX7_goes_250 : decode cX7_goes 250 = .ok (.invokevirtual 234, 3) := by decide +kernel
theorem dX7_goes_253 : decode cX7_goes 253 = .ok (.aload_n 0, 1) := by decide +kernel
theorem dX7_goes_254 : decode cX7_goes 254 = .ok (.getfield 204, 3) := by decide +kernel
theorem dX7_goes_257 : decode cX7_goes 257 = .ok (.lcmp, 1) := by decide +kernel
theorem dX7_goes_258 : decode cX7_goes 258 = .ok (.ifCond .le 7, 3) := by decide +kernel
theorem dX7_goes_261 : decode cX7_goes 261 = .ok (.iconst 1, 1) := by decide +kernel
theorem dX7_goes_262 : decode cX7_goes 262 = .ok (.goto 4, 3) := by decide +kernel
theorem dX7_goes_265 : decode cX7_goes 265 = .ok (.iconst 0, 1) := by decide +kernel
theorem dX7_goes_266 : decode cX7_goes 266 = .ok (.istore 5, 2) := by decide +kernel
theorem dX7_goes_268 : decode cX7_goes 268 = .ok (.aload_n 0, 1) := by decide +kernel
theorem dX7_goes_269 : decode cX7_goes 269 = .ok (.getfield 40, 3) := by decide +kernel
theorem dX7_goes_272 : decode cX7_goes 272 = .ok (.iload_n 3, 1) := by decide +kernel
theorem dX7_goes_273 : decode cX7_goes 273 = .ok (.aload_n 0, 1) := by decide +kernel
theorem dX7_goes_274 : decode cX7_goes 274 = .ok (.getfield 40, 3) := by decide +kernel
theorem dX7_goes_277 : decode cX7_goes 277 = .ok (.iload 4, 2) := by decide +kernel
theorem dX7_goes_279 : decode cX7_goes 279 = .ok (.laload, 1) := by decide +kernel
theorem dX7_goes_280 : decode cX7_goes 280 = .ok (.lastore, 1) := by decide +kernel
theorem dX7_goes_281 : decode cX7_goes 281 = .ok (.aload_n 0, 1) := by decide +kernel
theorem dX7_goes_282 : decode cX7_goes 282 = .ok (.getfield 43, 3) := by decide +kernel
theorem dX7_goes_285 : decode cX7_goes 285 = .ok (.iload_n 3, 1) := by decide +kernel
theorem dX7_goes_286 : decode cX7_goes 286 = .ok (.aload_n 0, 1) := by decide +kernel
theorem dX7_goes_287 : decode cX7_goes 287 = .ok (.getfield 43, 3) := by decide +kernel
theorem dX7_goes_290 : decode cX7_goes 290 = .ok (.iload 4, 2) := by decide +kernel
theorem dX7_goes_292 : decode cX7_goes 292 = .ok (.laload, 1) := by decide +kernel
theorem dX7_goes_293 : decode cX7_goes 293 = .ok (.lastore, 1) := by decide +kernel
theorem dX7_goes_294 : decode cX7_goes 294 = .ok (.aload_n 0, 1) := by decide +kernel
theorem dX7_goes_295 : decode cX7_goes 295 = .ok (.getfield 46, 3) := by decide +kernel
theorem dX7_goes_298 : decode cX7_goes 298 = .ok (.iload_n 3, 1) := by decide +kernel
theorem dX7_goes_299 : decode cX7_goes 299 = .ok (.aload_n 0, 1) := by decide +kernel
theorem dX7_goes_300 : decode cX7_goes 300 = .ok (.getfield 46, 3) := by decide +kernel
theorem dX7_goes_303 : decode cX7_goes 303 = .ok (.iload 4, 2) := by decide +kernel
theorem dX7_goes_305 : decode cX7_goes 305 = .ok (.laload, 1) := by decide +kernel
theorem dX7_goes_306 : decode cX7_goes 306 = .ok (.lastore, 1) := by decide +kernel
theorem dX7_goes_307 : decode cX7_goes 307 = .ok (.iload_n 3, 1) := by decide +kernel
theorem dX7_goes_308 : decode cX7_goes 308 = .ok (.iload 5, 2) := by decide +kernel
theorem dX7_goes_310 : decode cX7_goes 310 = .ok (.ifCond .eq 7, 3) := by decide +kernel
theorem dX7_goes_313 : decode cX7_goes 313 = .ok (.iconst 1, 1) := by decide +kernel
theorem dX7_goes_314 : decode cX7_goes 314 = .ok (.goto 4, 3) := by decide +kernel
theorem dX7_goes_317 : decode cX7_goes 317 = .ok (.iconst 0, 1) := by decide +kernel
theorem dX7_goes_318 : decode cX7_goes 318 = .ok (.iadd, 1) := by decide +kernel
theorem dX7_goes_319 : decode cX7_goes 319 = .ok (.istore_n 3, 1) := by decide +kernel
theorem dX7_goes_320 : decode cX7_goes 320 = .ok (.iinc 4 1, 3) := by decide +kernel
theorem dX7_goes_323 : decode cX7_goes 323 = .ok (.goto (-107), 3) := by decide +kernel
theorem dX7_goes_326 : decode cX7_goes 326 = .ok (.aload_n 0, 1) := by decide +kernel
theorem dX7_goes_327 : decode cX7_goes 327 = .ok (.iload_n 3, 1) := by decide +kernel
theorem dX7_goes_328 : decode cX7_goes 328 = .ok (.putfield 195, 3) := by decide +kernel
theorem dX7_goes_331 : decode cX7_goes 331 = .ok (.iconst 1, 1) := by decide +kernel
theorem dX7_goes_332 : decode cX7_goes 332 = .ok (.ireturn, 1) := by decide +kernel
set_option maxRecDepth 20000 in
theorem ggX7_lays_X7_begins : GoodIn wsX7_lays wsX7_begins := goodIn_r _ [7, 8, 9, 10, 11, 2, 12, 13, 14, 15, 16, 17, 18, 19, 20, 21, 22, 23, 6, 24, 25, 1, 26, 27, 28, 29, 30, 31, 32, 33, 34, 35, 36, 37, 74, 75, 76, 77, 78, 79, 80, 81, 82, 83, 84, 85, 86, 87, 88, 89, 90, 91, 92, 93, 94, 95, 96, 97, 98, 99, 100, 101, 102, 103, 104, 105, 106, 107, 108, 109, 110, 111, 112, 113, 114] (by decide +kernel) (by decide +kernel)
set_option maxRecDepth 20000 in
theorem gX7_lays_X7_begins : GoodIn wsX7_lays (wsV RX7 238 RX7 yX7_begins wsX7_begins) := goodIn_app (goodIn_of _ (by decide +kernel)) ggX7_lays_X7_begins
set_option maxRecDepth 20000 in
theorem ggX7_lays_X7_goes : GoodIn wsX7_lays wsX7_goes := goodIn_r _ [41, 11, 10, 28, 29, 42, 1, 2, 12, 14, 8, 16, 20, 13, 18, 19, 43, 44, 45, 6, 46, 25, 47, 48, 49, 50, 51, 52, 53, 54, 55, 56, 57, 58, 59, 60, 61, 62, 63, 64, 65, 66, 67, 68, 69, 70, 71, 72, 73, 74, 75, 76, 77, 78, 79, 80, 81, 82, 83, 84, 85, 86, 87, 88, 89, 90, 91, 92, 93, 94, 95, 96, 97, 98, 99, 100, 101, 102, 103, 104, 105, 106, 107, 108, 109, 110, 111, 112, 113, 114] (by decide +kernel) (by decide +kernel)
set_option maxRecDepth 20000 in
theorem gX7_lays_X7_goes : GoodIn wsX7_lays (wsV RX7 242 RX7 yX7_goes wsX7_goes) := goodIn_app (goodIn_of _ (by decide +kernel)) ggX7_lays_X7_goes
theorem dX7_lays_0 : decode cX7_lays 0 = .ok (.aload_n 0, 1) := by decide +kernel
theorem dX7_lays_1 : decode cX7_lays 1 = .ok (.iconst (-1), 1) := by decide +kernel
theorem dX7_lays_2 : decode cX7_lays 2 = .ok (.aload_n 0, 1) := by decide +kernel
theorem dX7_lays_3 : decode cX7_lays 3 = .ok (.getfield 7, 3) := by decide +kernel
theorem dX7_lays_6 : decode cX7_lays 6 = .ok (.iconst 1, 1) := by decide +kernel
theorem dX7_lays_7 : decode cX7_lays 7 = .ok (.iaload, 1) := by decide +kernel
theorem dX7_lays_8 : decode cX7_lays 8 = .ok (.i2l, 1) := by decide +kernel
theorem dX7_lays_9 : decode cX7_lays 9 = .ok (.invokevirtual 238, 3) := by decide +kernel
theorem dX7_lays_12 : decode cX7_lays 12 = .ok (.iconst 1, 1) := by decide +kernel
theorem dX7_lays_13 : decode cX7_lays 13 = .ok (.istore_n 1, 1) := by decide +kernel
theorem dX7_lays_14 : decode cX7_lays 14 = .ok (.iload_n 1, 1) := by decide +kernel
theorem dX7_lays_15 : decode cX7_lays 15 = .ok (.ifCond .eq 24, 3) := by decide +kernel
theorem dX7_lays_18 : decode cX7_lays 18 = .ok (.aload_n 0, 1) := by decide +kernel
theorem dX7_lays_19 : decode cX7_lays 19 = .ok (.getfield 192, 3) := by decide +kernel
theorem dX7_lays_22 : decode cX7_lays 22 = .ok (.aload_n 0, 1) := by decide +kernel
theorem dX7_lays_23 : decode cX7_lays 23 = .ok (.getfield 7, 3) := by decide +kernel
theorem dX7_lays_26 : decode cX7_lays 26 = .ok (.iconst 3, 1) := by decide +kernel
theorem dX7_lays_27 : decode cX7_lays 27 = .ok (.iaload, 1) := by decide +kernel
theorem dX7_lays_28 : decode cX7_lays 28 = .ok (.if_icmp .ge 11, 3) := by decide +kernel
theorem dX7_lays_31 : decode cX7_lays 31 = .ok (.aload_n 0, 1) := by decide +kernel
theorem dX7_lays_32 : decode cX7_lays 32 = .ok (.invokevirtual 242, 3) := by decide +kernel
theorem dX7_lays_35 : decode cX7_lays 35 = .ok (.istore_n 1, 1) := by decide +kernel
theorem dX7_lays_36 : decode cX7_lays 36 = .ok (.goto (-22), 3) := by decide +kernel
theorem dX7_lays_39 : decode cX7_lays 39 = .ok (.return_, 1) := by decide +kernel
set_option maxRecDepth 20000 in
theorem ggX7_solves_X7_isProved : GoodIn wsX7_solves wsX7_isProved := goodIn_r _ [5, 6, 7, 8, 9, 57, 58, 59, 60, 61, 62, 63, 64, 65, 66, 67, 68, 69, 70, 71, 72, 73, 74, 75, 76, 77, 78, 79, 80, 81, 82, 83, 84, 85, 86, 87, 88, 89, 90, 91, 92, 93, 94, 95, 96, 97] (by decide +kernel) (by decide +kernel)
set_option maxRecDepth 20000 in
theorem gX7_solves_X7_isProved : GoodIn wsX7_solves (wsV RX7 245 RX7 yX7_isProved wsX7_isProved) := goodIn_app (goodIn_of _ (by decide +kernel)) ggX7_solves_X7_isProved
set_option maxRecDepth 20000 in
theorem ggX7_solves_X7_goes : GoodIn wsX7_solves wsX7_goes := goodIn_r _ [13, 8, 7, 14, 15, 16, 17, 18, 6, 19, 20, 21, 22, 23, 24, 25, 26, 27, 28, 4, 29, 9, 30, 31, 32, 33, 34, 35, 36, 37, 38, 39, 40, 41, 42, 43, 44, 45, 46, 47, 48, 49, 50, 51, 52, 53, 54, 55, 56, 57, 58, 59, 60, 61, 62, 63, 64, 65, 66, 67, 68, 69, 70, 71, 72, 73, 74, 75, 76, 77, 78, 79, 80, 81, 82, 83, 84, 85, 86, 87, 88, 89, 90, 91, 92, 93, 94, 95, 96, 97] (by decide +kernel) (by decide +kernel)
set_option maxRecDepth 20000 in
theorem gX7_solves_X7_goes : GoodIn wsX7_solves (wsV RX7 242 RX7 yX7_goes wsX7_goes) := goodIn_app (goodIn_of _ (by decide +kernel)) ggX7_solves_X7_goes
theorem dX7_solves_0 : decode cX7_solves 0 = .ok (.aload_n 0, 1) := by decide +kernel
theorem dX7_solves_1 : decode cX7_solves 1 = .ok (.invokevirtual 245, 3) := by decide +kernel
theorem dX7_solves_4 : decode cX7_solves 4 = .ok (.ifCond .ne 12, 3) := by decide +kernel
theorem dX7_solves_7 : decode cX7_solves 7 = .ok (.aload_n 0, 1) := by decide +kernel
theorem dX7_solves_8 : decode cX7_solves 8 = .ok (.invokevirtual 242, 3) := by decide +kernel
theorem dX7_solves_11 : decode cX7_solves 11 = .ok (.ifCond .ne (-11), 3) := by decide +kernel
theorem dX7_solves_14 : decode cX7_solves 14 = .ok (.iconst 0, 1) := by decide +kernel
theorem dX7_solves_15 : decode cX7_solves 15 = .ok (.ireturn, 1) := by decide +kernel
theorem dX7_solves_16 : decode cX7_solves 16 = .ok (.iconst 1, 1) := by decide +kernel
theorem dX7_solves_17 : decode cX7_solves 17 = .ok (.ireturn, 1) := by decide +kernel
theorem dX7_keeps_0 : decode cX7_keeps 0 = .ok (.aload_n 0, 1) := by decide +kernel
theorem dX7_keeps_1 : decode cX7_keeps 1 = .ok (.getfield 157, 3) := by decide +kernel
theorem dX7_keeps_4 : decode cX7_keeps 4 = .ok (.bipush 8, 2) := by decide +kernel
theorem dX7_keeps_6 : decode cX7_keeps 6 = .ok (.if_icmp .ne 43, 3) := by decide +kernel
theorem dX7_keeps_9 : decode cX7_keeps 9 = .ok (.iconst 0, 1) := by decide +kernel
theorem dX7_keeps_10 : decode cX7_keeps 10 = .ok (.istore_n 1, 1) := by decide +kernel
theorem dX7_keeps_11 : decode cX7_keeps 11 = .ok (.iload_n 1, 1) := by decide +kernel
theorem dX7_keeps_12 : decode cX7_keeps 12 = .ok (.sipush 868, 3) := by decide +kernel
theorem dX7_keeps_15 : decode cX7_keeps 15 = .ok (.if_icmp .ge 24, 3) := by decide +kernel
theorem dX7_keeps_18 : decode cX7_keeps 18 = .ok (.aload_n 0, 1) := by decide +kernel
theorem dX7_keeps_19 : decode cX7_keeps 19 = .ok (.getfield 21, 3) := by decide +kernel
theorem dX7_keeps_22 : decode cX7_keeps 22 = .ok (.iload_n 1, 1) := by decide +kernel
theorem dX7_keeps_23 : decode cX7_keeps 23 = .ok (.aload_n 0, 1) := by decide +kernel
theorem dX7_keeps_24 : decode cX7_keeps 24 = .ok (.getfield 21, 3) := by decide +kernel
theorem dX7_keeps_27 : decode cX7_keeps 27 = .ok (.iload_n 1, 1) := by decide +kernel
theorem dX7_keeps_28 : decode cX7_keeps 28 = .ok (.bipush 124, 2) := by decide +kernel
theorem dX7_keeps_30 : decode cX7_keeps 30 = .ok (.iadd, 1) := by decide +kernel
theorem dX7_keeps_31 : decode cX7_keeps 31 = .ok (.iaload, 1) := by decide +kernel
theorem dX7_keeps_32 : decode cX7_keeps 32 = .ok (.iastore, 1) := by decide +kernel
theorem dX7_keeps_33 : decode cX7_keeps 33 = .ok (.iinc 1 1, 3) := by decide +kernel
theorem dX7_keeps_36 : decode cX7_keeps 36 = .ok (.goto (-25), 3) := by decide +kernel
theorem dX7_keeps_39 : decode cX7_keeps 39 = .ok (.aload_n 0, 1) := by decide +kernel
theorem dX7_keeps_40 : decode cX7_keeps 40 = .ok (.dup, 1) := by decide +kernel
theorem dX7_keeps_41 : decode cX7_keeps 41 = .ok (.getfield 157, 3) := by decide +kernel
theorem dX7_keeps_44 : decode cX7_keeps 44 = .ok (.iconst 1, 1) := by decide +kernel
theorem dX7_keeps_45 : decode cX7_keeps 45 = .ok (.isub, 1) := by decide +kernel
theorem dX7_keeps_46 : decode cX7_keeps 46 = .ok (.putfield 157, 3) := by decide +kernel
theorem dX7_keeps_49 : decode cX7_keeps 49 = .ok (.iconst 0, 1) := by decide +kernel
theorem dX7_keeps_50 : decode cX7_keeps 50 = .ok (.istore_n 1, 1) := by decide +kernel
theorem dX7_keeps_51 : decode cX7_keeps 51 = .ok (.iload_n 1, 1) := by decide +kernel
theorem dX7_keeps_52 : decode cX7_keeps 52 = .ok (.bipush 124, 2) := by decide +kernel
theorem dX7_keeps_54 : decode cX7_keeps 54 = .ok (.if_icmp .ge 29, 3) := by decide +kernel
theorem dX7_keeps_57 : decode cX7_keeps 57 = .ok (.aload_n 0, 1) := by decide +kernel
theorem dX7_keeps_58 : decode cX7_keeps 58 = .ok (.getfield 21, 3) := by decide +kernel
theorem dX7_keeps_61 : decode cX7_keeps 61 = .ok (.bipush 124, 2) := by decide +kernel
theorem dX7_keeps_63 : decode cX7_keeps 63 = .ok (.aload_n 0, 1) := by decide +kernel
theorem dX7_keeps_64 : decode cX7_keeps 64 = .ok (.getfield 157, 3) := by decide +kernel
theorem dX7_keeps_67 : decode cX7_keeps 67 = .ok (.imul, 1) := by decide +kernel
theorem dX7_keeps_68 : decode cX7_keeps 68 = .ok (.iload_n 1, 1) := by decide +kernel
theorem dX7_keeps_69 : decode cX7_keeps 69 = .ok (.iadd, 1) := by decide +kernel
theorem dX7_keeps_70 : decode cX7_keeps 70 = .ok (.aload_n 0, 1) := by decide +kernel
theorem dX7_keeps_71 : decode cX7_keeps 71 = .ok (.getfield 7, 3) := by decide +kernel
theorem dX7_keeps_74 : decode cX7_keeps 74 = .ok (.iload_n 1, 1) := by decide +kernel
theorem dX7_keeps_75 : decode cX7_keeps 75 = .ok (.iaload, 1) := by decide +kernel
theorem dX7_keeps_76 : decode cX7_keeps 76 = .ok (.iastore, 1) := by decide +kernel
theorem dX7_keeps_77 : decode cX7_keeps 77 = .ok (.iinc 1 1, 3) := by decide +kernel
theorem dX7_keeps_80 : decode cX7_keeps 80 = .ok (.goto (-29), 3) := by decide +kernel
theorem dX7_keeps_83 : decode cX7_keeps 83 = .ok (.aload_n 0, 1) := by decide +kernel
theorem dX7_keeps_84 : decode cX7_keeps 84 = .ok (.dup, 1) := by decide +kernel
theorem dX7_keeps_85 : decode cX7_keeps 85 = .ok (.getfield 157, 3) := by decide +kernel
theorem dX7_keeps_88 : decode cX7_keeps 88 = .ok (.iconst 1, 1) := by decide +kernel
theorem dX7_keeps_89 : decode cX7_keeps 89 = .ok (.iadd, 1) := by decide +kernel
theorem dX7_keeps_90 : decode cX7_keeps 90 = .ok (.putfield 157, 3) := by decide +kernel
theorem dX7_keeps_93 : decode cX7_keeps 93 = .ok (.return_, 1) := by decide +kernel
set_option maxRecDepth 20000 in
theorem ggX7_becomes_X7_keeps : GoodIn wsX7_becomes wsX7_keeps := goodIn_r _ [6, 7, 8, 1, 9, 10, 11, 12, 13, 14, 15, 16, 17, 18, 19, 20, 21, 22, 23, 24, 25, 26, 27, 28, 29, 30, 31, 32, 33, 34, 35, 36, 37, 38, 39, 40, 41, 42, 43, 44, 45, 46, 47, 48, 49] (by decide +kernel) (by decide +kernel)
set_option maxRecDepth 20000 in
theorem gX7_becomes_X7_keeps : GoodIn wsX7_becomes (wsV RX7 248 RX7 yX7_keeps wsX7_keeps) := goodIn_app (goodIn_of _ (by decide +kernel)) ggX7_becomes_X7_keeps
theorem dX7_becomes_0 : decode cX7_becomes 0 = .ok (.aload_n 0, 1) := by decide +kernel
theorem dX7_becomes_1 : decode cX7_becomes 1 = .ok (.getfield 7, 3) := by decide +kernel
theorem dX7_becomes_4 : decode cX7_becomes 4 = .ok (.iload_n 1, 1) := by decide +kernel
theorem dX7_becomes_5 : decode cX7_becomes 5 = .ok (.iaload, 1) := by decide +kernel
theorem dX7_becomes_6 : decode cX7_becomes 6 = .ok (.iload_n 2, 1) := by decide +kernel
theorem dX7_becomes_7 : decode cX7_becomes 7 = .ok (.if_icmp .ne 5, 3) := by decide +kernel
theorem dX7_becomes_10 : decode cX7_becomes 10 = .ok (.iconst 0, 1) := by decide +kernel
theorem dX7_becomes_11 : decode cX7_becomes 11 = .ok (.ireturn, 1) := by decide +kernel
theorem dX7_becomes_12 : decode cX7_becomes 12 = .ok (.aload_n 0, 1) := by decide +kernel
theorem dX7_becomes_13 : decode cX7_becomes 13 = .ok (.invokevirtual 248, 3) := by decide +kernel
theorem dX7_becomes_16 : decode cX7_becomes 16 = .ok (.aload_n 0, 1) := by decide +kernel
theorem dX7_becomes_17 : decode cX7_becomes 17 = .ok (.getfield 7, 3) := by decide +kernel
theorem dX7_becomes_20 : decode cX7_becomes 20 = .ok (.iload_n 1, 1) := by decide +kernel
theorem dX7_becomes_21 : decode cX7_becomes 21 = .ok (.iload_n 2, 1) := by decide +kernel
theorem dX7_becomes_22 : decode cX7_becomes 22 = .ok (.iastore, 1) := by decide +kernel
theorem dX7_becomes_23 : decode cX7_becomes 23 = .ok (.aload_n 0, 1) := by decide +kernel
theorem dX7_becomes_24 : decode cX7_becomes 24 = .ok (.getfield 7, 3) := by decide +kernel
theorem dX7_becomes_27 : decode cX7_becomes 27 = .ok (.iconst 3, 1) := by decide +kernel
theorem dX7_becomes_28 : decode cX7_becomes 28 = .ok (.iconst 0, 1) := by decide +kernel
theorem dX7_becomes_29 : decode cX7_becomes 29 = .ok (.iastore, 1) := by decide +kernel
theorem dX7_becomes_30 : decode cX7_becomes 30 = .ok (.iconst 1, 1) := by decide +kernel
theorem dX7_becomes_31 : decode cX7_becomes 31 = .ok (.ireturn, 1) := by decide +kernel
set_option maxRecDepth 20000 in
theorem ggX7_room_X7_in : GoodIn wsX7_room wsX7_in := goodIn_r _ [6] (by decide +kernel) (by decide +kernel)
set_option maxRecDepth 20000 in
theorem gX7_room_X7_in : GoodIn wsX7_room (va_wsS RX7 88 yX7_in wsX7_in) := goodIn_app (goodIn_of _ (by decide +kernel)) ggX7_room_X7_in
set_option maxRecDepth 20000 in
theorem ggX7_room_X7_becomes : GoodIn wsX7_room wsX7_becomes := goodIn_r _ [10, 11, 12, 13, 14, 5, 15, 16, 17, 18, 19, 20, 21, 22, 23, 24, 25, 26, 27, 28, 29, 30, 31, 32, 33, 34, 35, 36, 37, 38, 39, 40, 41, 42, 43, 44, 45, 46, 47, 48, 49, 50, 51, 52, 53, 54, 55, 56, 57, 58] (by decide +kernel) (by decide +kernel)
set_option maxRecDepth 20000 in
theorem gX7_room_X7_becomes : GoodIn wsX7_room (wsV RX7 251 RX7 yX7_becomes wsX7_becomes) := goodIn_app (goodIn_of _ (by decide +kernel)) ggX7_room_X7_becomes
theorem dX7_room_0 : decode cX7_room 0 = .ok (.aload_n 0, 1) := by decide +kernel
theorem dX7_room_1 : decode cX7_room 1 = .ok (.iconst 0, 1) := by decide +kernel
theorem dX7_room_2 : decode cX7_room 2 = .ok (.putfield 58, 3) := by decide +kernel
theorem dX7_room_5 : decode cX7_room 5 = .ok (.iload_n 1, 1) := by decide +kernel
theorem dX7_room_6 : decode cX7_room 6 = .ok (.i2l, 1) := by decide +kernel
theorem dX7_room_7 : decode cX7_room 7 = .ok (.lconst 0, 1) := by decide +kernel
theorem dX7_room_8 : decode cX7_room 8 = .ok (.ldc2_w 148, 3) := by decide +kernel
theorem dX7_room_11 : decode cX7_room 11 = .ok (.invokestatic 88, 3) := by decide +kernel
theorem dX7_room_14 : decode cX7_room 14 = .ok (.ifCond .eq 16, 3) := by decide +kernel
theorem dX7_room_17 : decode cX7_room 17 = .ok (.aload_n 0, 1) := by decide +kernel
theorem dX7_room_18 : decode cX7_room 18 = .ok (.iconst 1, 1) := by decide +kernel
theorem dX7_room_19 : decode cX7_room 19 = .ok (.iload_n 1, 1) := by decide +kernel
theorem dX7_room_20 : decode cX7_room 20 = .ok (.invokevirtual 251, 3) := by decide +kernel
theorem dX7_room_23 : decode cX7_room 23 = .ok (.ifCond .eq 7, 3) := by decide +kernel
theorem dX7_room_26 : decode cX7_room 26 = .ok (.iconst 1, 1) := by decide +kernel
theorem dX7_room_27 : decode cX7_room 27 = .ok (.goto 4, 3) := by decide +kernel
theorem dX7_room_30 : decode cX7_room 30 = .ok (.iconst 0, 1) := by decide +kernel
theorem dX7_room_31 : decode cX7_room 31 = .ok (.ireturn, 1) := by decide +kernel
set_option maxRecDepth 20000 in
theorem ggX7_most_X7_in : GoodIn wsX7_most wsX7_in := goodIn_r _ [7] (by decide +kernel) (by decide +kernel)
set_option maxRecDepth 20000 in
theorem gX7_most_X7_in : GoodIn wsX7_most (va_wsS RX7 88 yX7_in wsX7_in) := goodIn_app (goodIn_of _ (by decide +kernel)) ggX7_most_X7_in
set_option maxRecDepth 20000 in
theorem ggX7_most_X7_becomes : GoodIn wsX7_most wsX7_becomes := goodIn_r _ [11, 12, 13, 14, 15, 6, 16, 17, 18, 19, 20, 21, 22, 23, 24, 25, 26, 27, 28, 29, 30, 31, 32, 33, 34, 35, 36, 37, 38, 39, 40, 41, 42, 43, 44, 45, 46, 47, 48, 49, 50, 51, 52, 53, 54, 55, 56, 57, 58, 59] (by decide +kernel) (by decide +kernel)
set_option maxRecDepth 20000 in
theorem gX7_most_X7_becomes : GoodIn wsX7_most (wsV RX7 251 RX7 yX7_becomes wsX7_becomes) := goodIn_app (goodIn_of _ (by decide +kernel)) ggX7_most_X7_becomes
theorem dX7_most_0 : decode cX7_most 0 = .ok (.aload_n 0, 1) := by decide +kernel
theorem dX7_most_1 : decode cX7_most 1 = .ok (.iconst 0, 1) := by decide +kernel
theorem dX7_most_2 : decode cX7_most 2 = .ok (.putfield 58, 3) := by decide +kernel
theorem dX7_most_5 : decode cX7_most 5 = .ok (.iload_n 1, 1) := by decide +kernel
theorem dX7_most_6 : decode cX7_most 6 = .ok (.i2l, 1) := by decide +kernel
theorem dX7_most_7 : decode cX7_most 7 = .ok (.ldc2_w 150, 3) := by decide +kernel
theorem dX7_most_10 : decode cX7_most 10 = .ok (.ldc2_w 152, 3) := by decide +kernel
theorem dX7_most_13 : decode cX7_most 13 = .ok (.invokestatic 88, 3) := by decide +kernel
theorem dX7_most_16 : decode cX7_most 16 = .ok (.ifCond .eq 16, 3) := by decide +kernel
theorem dX7_most_19 : decode cX7_most 19 = .ok (.aload_n 0, 1) := by decide +kernel
theorem dX7_most_20 : decode cX7_most 20 = .ok (.iconst 2, 1) := by decide +kernel
theorem dX7_most_21 : decode cX7_most 21 = .ok (.iload_n 1, 1) := by decide +kernel
theorem dX7_most_22 : decode cX7_most 22 = .ok (.invokevirtual 251, 3) := by decide +kernel
theorem dX7_most_25 : decode cX7_most 25 = .ok (.ifCond .eq 7, 3) := by decide +kernel
theorem dX7_most_28 : decode cX7_most 28 = .ok (.iconst 1, 1) := by decide +kernel
theorem dX7_most_29 : decode cX7_most 29 = .ok (.goto 4, 3) := by decide +kernel
theorem dX7_most_32 : decode cX7_most 32 = .ok (.iconst 0, 1) := by decide +kernel
theorem dX7_most_33 : decode cX7_most 33 = .ok (.ireturn, 1) := by decide +kernel
theorem dX7_sumOf_0 : decode cX7_sumOf 0 = .ok (.lconst 0, 1) := by decide +kernel
theorem dX7_sumOf_1 : decode cX7_sumOf 1 = .ok (.lstore_n 2, 1) := by decide +kernel
theorem dX7_sumOf_2 : decode cX7_sumOf 2 = .ok (.iconst 0, 1) := by decide +kernel
theorem dX7_sumOf_3 : decode cX7_sumOf 3 = .ok (.istore 4, 2) := by decide +kernel
theorem dX7_sumOf_5 : decode cX7_sumOf 5 = .ok (.iload 4, 2) := by decide +kernel
theorem dX7_sumOf_7 : decode cX7_sumOf 7 = .ok (.aload_n 0, 1) := by decide +kernel
theorem dX7_sumOf_8 : decode cX7_sumOf 8 = .ok (.getfield 7, 3) := by decide +kernel
theorem dX7_sumOf_11 : decode cX7_sumOf 11 = .ok (.iconst 0, 1) := by decide +kernel
theorem dX7_sumOf_12 : decode cX7_sumOf 12 = .ok (.iaload, 1) := by decide +kernel
theorem dX7_sumOf_13 : decode cX7_sumOf 13 = .ok (.if_icmp .ge 22, 3) := by decide +kernel
theorem dX7_sumOf_16 : decode cX7_sumOf 16 = .ok (.lload_n 2, 1) := by decide +kernel
theorem dX7_sumOf_17 : decode cX7_sumOf 17 = .ok (.aload_n 0, 1) := by decide +kernel
theorem dX7_sumOf_18 : decode cX7_sumOf 18 = .ok (.getfield 7, 3) := by decide +kernel
theorem dX7_sumOf_21 : decode cX7_sumOf 21 = .ok (.iload_n 1, 1) := by decide +kernel
theorem dX7_sumOf_22 : decode cX7_sumOf 22 = .ok (.iload 4, 2) := by decide +kernel
theorem dX7_sumOf_24 : decode cX7_sumOf 24 = .ok (.iadd, 1) := by decide +kernel
theorem dX7_sumOf_25 : decode cX7_sumOf 25 = .ok (.iaload, 1) := by decide +kernel
theorem dX7_sumOf_26 : decode cX7_sumOf 26 = .ok (.i2l, 1) := by decide +kernel
theorem dX7_sumOf_27 : decode cX7_sumOf 27 = .ok (.ladd, 1) := by decide +kernel
theorem dX7_sumOf_28 : decode cX7_sumOf 28 = .ok (.lstore_n 2, 1) := by decide +kernel
theorem dX7_sumOf_29 : decode cX7_sumOf 29 = .ok (.iinc 4 1, 3) := by decide +kernel
theorem dX7_sumOf_32 : decode cX7_sumOf 32 = .ok (.goto (-27), 3) := by decide +kernel
theorem dX7_sumOf_35 : decode cX7_sumOf 35 = .ok (.lload_n 2, 1) := by decide +kernel
theorem dX7_sumOf_36 : decode cX7_sumOf 36 = .ok (.lreturn, 1) := by decide +kernel
set_option maxRecDepth 20000 in
theorem ggX7_add_X7_in : GoodIn wsX7_add wsX7_in := goodIn_r _ [8] (by decide +kernel) (by decide +kernel)
set_option maxRecDepth 20000 in
theorem gX7_add_X7_in : GoodIn wsX7_add (va_wsS RX7 88 yX7_in wsX7_in) := goodIn_app (goodIn_of _ (by decide +kernel)) ggX7_add_X7_in
set_option maxRecDepth 20000 in
theorem ggX7_add_X7_sumOf : GoodIn wsX7_add wsX7_sumOf := goodIn_r _ [12, 3, 19, 20, 21, 22, 23, 24, 25, 26, 27, 28, 29, 30, 31, 32, 33, 34, 35, 36, 37, 38, 39, 40, 41, 42, 43, 44, 45, 46, 47, 48, 49, 50, 51, 52, 53, 54, 55, 56, 57, 58, 59] (by decide +kernel) (by decide +kernel)
set_option maxRecDepth 20000 in
theorem gX7_add_X7_sumOf : GoodIn wsX7_add (wsV RX7 254 RX7 yX7_sumOf wsX7_sumOf) := goodIn_app (goodIn_of _ (by decide +kernel)) ggX7_add_X7_sumOf
set_option maxRecDepth 20000 in
theorem ggX7_add_X7_keeps : GoodIn wsX7_add wsX7_keeps := goodIn_r _ [16, 17, 18, 3, 19, 20, 21, 22, 23, 24, 25, 26, 27, 28, 29, 30, 31, 32, 33, 34, 35, 36, 37, 38, 39, 40, 41, 42, 43, 44, 45, 46, 47, 48, 49, 50, 51, 52, 53, 54, 55, 56, 57, 58, 59] (by decide +kernel) (by decide +kernel)
set_option maxRecDepth 20000 in
theorem gX7_add_X7_keeps : GoodIn wsX7_add (wsV RX7 248 RX7 yX7_keeps wsX7_keeps) := goodIn_app (goodIn_of _ (by decide +kernel)) ggX7_add_X7_keeps
theorem dX7_add_0 : decode cX7_add 0 = .ok (.aload_n 0, 1) := by decide +kernel
theorem dX7_add_1 : decode cX7_add 1 = .ok (.iconst 0, 1) := by decide +kernel
theorem dX7_add_2 : decode cX7_add 2 = .ok (.putfield 58, 3) := by decide +kernel
theorem dX7_add_5 : decode cX7_add 5 = .ok (.iload_n 1, 1) := by decide +kernel
theorem dX7_add_6 : decode cX7_add 6 = .ok (.i2l, 1) := by decide +kernel
theorem dX7_add_7 : decode cX7_add 7 = .ok (.lconst 1, 1) := by decide +kernel
theorem dX7_add_8 : decode cX7_add 8 = .ok (.ldc2_w 118, 3) := by decide +kernel
theorem dX7_add_11 : decode cX7_add 11 = .ok (.invokestatic 88, 3) := by decide +kernel
theorem dX7_add_14 : decode cX7_add 14 = .ok (.ifCond .eq 57, 3) := by decide +kernel
theorem dX7_add_17 : decode cX7_add 17 = .ok (.iload_n 2, 1) := by decide +kernel
theorem dX7_add_18 : decode cX7_add 18 = .ok (.i2l, 1) := by decide +kernel
theorem dX7_add_19 : decode cX7_add 19 = .ok (.lconst 1, 1) := by decide +kernel
theorem dX7_add_20 : decode cX7_add 20 = .ok (.ldc2_w 118, 3) := by decide +kernel
theorem dX7_add_23 : decode cX7_add 23 = .ok (.invokestatic 88, 3) := by decide +kernel
theorem dX7_add_26 : decode cX7_add 26 = .ok (.ifCond .eq 45, 3) := by decide +kernel
theorem dX7_add_29 : decode cX7_add 29 = .ok (.aload_n 0, 1) := by decide +kernel
theorem dX7_add_30 : decode cX7_add 30 = .ok (.getfield 7, 3) := by decide +kernel
theorem dX7_add_33 : decode cX7_add 33 = .ok (.iconst 0, 1) := by decide +kernel
theorem dX7_add_34 : decode cX7_add 34 = .ok (.iaload, 1) := by decide +kernel
theorem dX7_add_35 : decode cX7_add 35 = .ok (.bipush 60, 2) := by decide +kernel
theorem dX7_add_37 : decode cX7_add 37 = .ok (.if_icmp .eq 34, 3) := by decide +kernel
theorem dX7_add_40 : decode cX7_add 40 = .ok (.aload_n 0, 1) := by decide +kernel
theorem dX7_add_41 : decode cX7_add 41 = .ok (.iconst 4, 1) := by decide +kernel
theorem dX7_add_42 : decode cX7_add 42 = .ok (.invokevirtual 254, 3) := by decide +kernel
theorem dX7_add_45 : decode cX7_add 45 = .ok (.iload_n 1, 1) := by decide +kernel
theorem dX7_add_46 : decode cX7_add 46 = .ok (.i2l, 1) := by decide +kernel
theorem dX7_add_47 : decode cX7_add 47 = .ok (.ladd, 1) := by decide +kernel
theorem dX7_add_48 : decode cX7_add 48 = .ok (.ldc2_w 124, 3) := by decide +kernel
theorem dX7_add_51 : decode cX7_add 51 = .ok (.lcmp, 1) := by decide +kernel
theorem dX7_add_52 : decode cX7_add 52 = .ok (.ifCond .gt 19, 3) := by decide +kernel
theorem dX7_add_55 : decode cX7_add 55 = .ok (.aload_n 0, 1) := by decide +kernel
theorem dX7_add_56 : decode cX7_add 56 = .ok (.bipush 64, 2) := by decide +kernel
theorem dX7_add_58 : decode cX7_add 58 = .ok (.invokevirtual 254, 3) := by decide +kernel
theorem dX7_add_61 : decode cX7_add 61 = .ok (.iload_n 2, 1) := by decide +kernel
theorem dX7_add_62 : decode cX7_add 62 = .ok (.i2l, 1) := by decide +kernel
theorem dX7_add_63 : decode cX7_add 63 = .ok (.ladd, 1) := by decide +kernel
theorem dX7_add_64 : decode cX7_add 64 = .ok (.ldc2_w 124, 3) := by decide +kernel
theorem dX7_add_67 : decode cX7_add 67 = .ok (.lcmp, 1) := by decide +kernel
theorem dX7_add_68 : decode cX7_add 68 = .ok (.ifCond .le 5, 3) := by decide +kernel
theorem dX7_add_71 : decode cX7_add 71 = .ok (.iconst (-1), 1) := by decide +kernel
theorem dX7_add_72 : decode cX7_add 72 = .ok (.ireturn, 1) := by decide +kernel
theorem dX7_add_73 : decode cX7_add 73 = .ok (.aload_n 0, 1) := by decide +kernel
theorem dX7_add_74 : decode cX7_add 74 = .ok (.invokevirtual 248, 3) := by decide +kernel
theorem dX7_add_77 : decode cX7_add 77 = .ok (.aload_n 0, 1) := by decide +kernel
theorem dX7_add_78 : decode cX7_add 78 = .ok (.getfield 7, 3) := by decide +kernel
theorem dX7_add_81 : decode cX7_add 81 = .ok (.iconst 4, 1) := by decide +kernel
theorem dX7_add_82 : decode cX7_add 82 = .ok (.aload_n 0, 1) := by decide +kernel
theorem dX7_add_83 : decode cX7_add 83 = .ok (.getfield 7, 3) := by decide +kernel
theorem dX7_add_86 : decode cX7_add 86 = .ok (.iconst 0, 1) := by decide +kernel
theorem dX7_add_87 : decode cX7_add 87 = .ok (.iaload, 1) := by decide +kernel
theorem dX7_add_88 : decode cX7_add 88 = .ok (.iadd, 1) := by decide +kernel
theorem dX7_add_89 : decode cX7_add 89 = .ok (.iload_n 1, 1) := by decide +kernel
theorem dX7_add_90 : decode cX7_add 90 = .ok (.iastore, 1) := by decide +kernel
theorem dX7_add_91 : decode cX7_add 91 = .ok (.aload_n 0, 1) := by decide +kernel
theorem dX7_add_92 : decode cX7_add 92 = .ok (.getfield 7, 3) := by decide +kernel
theorem dX7_add_95 : decode cX7_add 95 = .ok (.bipush 64, 2) := by decide +kernel
theorem dX7_add_97 : decode cX7_add 97 = .ok (.aload_n 0, 1) := by decide +kernel
theorem dX7_add_98 : decode cX7_add 98 = .ok (.getfield 7, 3) := by decide +kernel
theorem dX7_add_101 : decode cX7_add 101 = .ok (.iconst 0, 1) := by decide +kernel
theorem dX7_add_102 : decode cX7_add 102 = .ok (.iaload, 1) := by decide +kernel
theorem dX7_add_103 : decode cX7_add 103 = .ok (.iadd, 1) := by decide +kernel
theorem dX7_add_104 : decode cX7_add 104 = .ok (.iload_n 2, 1) := by decide +kernel
theorem dX7_add_105 : decode cX7_add 105 = .ok (.iastore, 1) := by decide +kernel
theorem dX7_add_106 : decode cX7_add 106 = .ok (.aload_n 0, 1) := by decide +kernel
theorem dX7_add_107 : decode cX7_add 107 = .ok (.getfield 7, 3) := by decide +kernel
theorem dX7_add_110 : decode cX7_add 110 = .ok (.iconst 0, 1) := by decide +kernel
theorem dX7_add_111 : decode cX7_add 111 = .ok (.dup2, 1) := by decide +kernel
theorem dX7_add_112 : decode cX7_add 112 = .ok (.iaload, 1) := by decide +kernel
theorem dX7_add_113 : decode cX7_add 113 = .ok (.iconst 1, 1) := by decide +kernel
theorem dX7_add_114 : decode cX7_add 114 = .ok (.iadd, 1) := by decide +kernel
theorem dX7_add_115 : decode cX7_add 115 = .ok (.iastore, 1) := by decide +kernel
theorem dX7_add_116 : decode cX7_add 116 = .ok (.aload_n 0, 1) := by decide +kernel
theorem dX7_add_117 : decode cX7_add 117 = .ok (.getfield 7, 3) := by decide +kernel
theorem dX7_add_120 : decode cX7_add 120 = .ok (.iconst 3, 1) := by decide +kernel
theorem dX7_add_121 : decode cX7_add 121 = .ok (.iconst 0, 1) := by decide +kernel
theorem dX7_add_122 : decode cX7_add 122 = .ok (.iastore, 1) := by decide +kernel
theorem dX7_add_123 : decode cX7_add 123 = .ok (.aload_n 0, 1) := by decide +kernel
theorem dX7_add_124 : decode cX7_add 124 = .ok (.getfield 7, 3) := by decide +kernel
theorem dX7_add_127 : decode cX7_add 127 = .ok (.iconst 0, 1) := by decide +kernel
theorem dX7_add_128 : decode cX7_add 128 = .ok (.iaload, 1) := by decide +kernel
theorem dX7_add_129 : decode cX7_add 129 = .ok (.iconst 1, 1) := by decide +kernel
theorem dX7_add_130 : decode cX7_add 130 = .ok (.isub, 1) := by decide +kernel
theorem dX7_add_131 : decode cX7_add 131 = .ok (.ireturn, 1) := by decide +kernel
set_option maxRecDepth 20000 in
theorem ggX7_isItem_X7_in : GoodIn wsX7_isItem wsX7_in := goodIn_r _ [5] (by decide +kernel) (by decide +kernel)
set_option maxRecDepth 20000 in
theorem gX7_isItem_X7_in : GoodIn wsX7_isItem (va_wsS RX7 88 yX7_in wsX7_in) := goodIn_app (goodIn_of _ (by decide +kernel)) ggX7_isItem_X7_in
theorem dX7_isItem_0 : decode cX7_isItem 0 = .ok (.iload_n 1, 1) := by decide +kernel
theorem dX7_isItem_1 : decode cX7_isItem 1 = .ok (.i2l, 1) := by decide +kernel
theorem dX7_isItem_2 : decode cX7_isItem 2 = .ok (.lconst 0, 1) := by decide +kernel
theorem dX7_isItem_3 : decode cX7_isItem 3 = .ok (.aload_n 0, 1) := by decide +kernel
theorem dX7_isItem_4 : decode cX7_isItem 4 = .ok (.getfield 7, 3) := by decide +kernel
theorem dX7_isItem_7 : decode cX7_isItem 7 = .ok (.iconst 0, 1) := by decide +kernel
theorem dX7_isItem_8 : decode cX7_isItem 8 = .ok (.iaload, 1) := by decide +kernel
theorem dX7_isItem_9 : decode cX7_isItem 9 = .ok (.iconst 1, 1) := by decide +kernel
theorem dX7_isItem_10 : decode cX7_isItem 10 = .ok (.isub, 1) := by decide +kernel
theorem dX7_isItem_11 : decode cX7_isItem 11 = .ok (.i2l, 1) := by decide +kernel
theorem dX7_isItem_12 : decode cX7_isItem 12 = .ok (.invokestatic 88, 3) := by decide +kernel
theorem dX7_isItem_15 : decode cX7_isItem 15 = .ok (.ireturn, 1) := by decide +kernel
set_option maxRecDepth 20000 in
theorem ggX7_drop_X7_isItem : GoodIn wsX7_drop wsX7_isItem := goodIn_r _ [7, 2, 8, 9, 6, 10, 17, 18, 19, 20, 21, 22, 23, 24, 25, 26, 27, 28, 29, 30, 31, 32, 33, 34, 35, 36, 37, 38, 39, 40, 41, 42, 43, 44, 45, 46, 47, 48, 49, 50, 51, 52, 53, 54, 55, 56, 57] (by decide +kernel) (by decide +kernel)
set_option maxRecDepth 20000 in
theorem gX7_drop_X7_isItem : GoodIn wsX7_drop (wsV RX7 257 RX7 yX7_isItem wsX7_isItem) := goodIn_app (goodIn_of _ (by decide +kernel)) ggX7_drop_X7_isItem
set_option maxRecDepth 20000 in
theorem ggX7_drop_X7_keeps : GoodIn wsX7_drop wsX7_keeps := goodIn_r _ [14, 15, 16, 2, 17, 18, 19, 20, 21, 22, 23, 24, 25, 26, 27, 28, 29, 30, 31, 32, 33, 34, 35, 36, 37, 38, 39, 40, 41, 42, 43, 44, 45, 46, 47, 48, 49, 50, 51, 52, 53, 54, 55, 56, 57] (by decide +kernel) (by decide +kernel)
set_option maxRecDepth 20000 in
theorem gX7_drop_X7_keeps : GoodIn wsX7_drop (wsV RX7 248 RX7 yX7_keeps wsX7_keeps) := goodIn_app (goodIn_of _ (by decide +kernel)) ggX7_drop_X7_keeps
theorem dX7_drop_0 : decode cX7_drop 0 = .ok (.aload_n 0, 1) := by decide +kernel
theorem dX7_drop_1 : decode cX7_drop 1 = .ok (.iconst 0, 1) := by decide +kernel
theorem dX7_drop_2 : decode cX7_drop 2 = .ok (.putfield 58, 3) := by decide +kernel
theorem dX7_drop_5 : decode cX7_drop 5 = .ok (.aload_n 0, 1) := by decide +kernel
theorem dX7_drop_6 : decode cX7_drop 6 = .ok (.iload_n 1, 1) := by decide +kernel
theorem dX7_drop_7 : decode cX7_drop 7 = .ok (.invokevirtual 257, 3) := by decide +kernel
theorem dX7_drop_10 : decode cX7_drop 10 = .ok (.ifCond .ne 5, 3) := by decide +kernel
theorem dX7_drop_13 : decode cX7_drop 13 = .ok (.iconst (-1), 1) := by decide +kernel
theorem dX7_drop_14 : decode cX7_drop 14 = .ok (.ireturn, 1) := by decide +kernel
theorem dX7_drop_15 : decode cX7_drop 15 = .ok (.aload_n 0, 1) := by decide +kernel
theorem dX7_drop_16 : decode cX7_drop 16 = .ok (.invokevirtual 248, 3) := by decide +kernel
theorem dX7_drop_19 : decode cX7_drop 19 = .ok (.iload_n 1, 1) := by decide +kernel
theorem dX7_drop_20 : decode cX7_drop 20 = .ok (.istore_n 2, 1) := by decide +kernel
theorem dX7_drop_21 : decode cX7_drop 21 = .ok (.iload_n 2, 1) := by decide +kernel
theorem dX7_drop_22 : decode cX7_drop 22 = .ok (.aload_n 0, 1) := by decide +kernel
theorem dX7_drop_23 : decode cX7_drop 23 = .ok (.getfield 7, 3) := by decide +kernel
theorem dX7_drop_26 : decode cX7_drop 26 = .ok (.iconst 0, 1) := by decide +kernel
theorem dX7_drop_27 : decode cX7_drop 27 = .ok (.iaload, 1) := by decide +kernel
theorem dX7_drop_28 : decode cX7_drop 28 = .ok (.iconst 1, 1) := by decide +kernel
theorem dX7_drop_29 : decode cX7_drop 29 = .ok (.isub, 1) := by decide +kernel
theorem dX7_drop_30 : decode cX7_drop 30 = .ok (.if_icmp .ge 47, 3) := by decide +kernel
theorem dX7_drop_33 : decode cX7_drop 33 = .ok (.aload_n 0, 1) := by decide +kernel
theorem dX7_drop_34 : decode cX7_drop 34 = .ok (.getfield 7, 3) := by decide +kernel
theorem dX7_drop_37 : decode cX7_drop 37 = .ok (.iconst 4, 1) := by decide +kernel
theorem dX7_drop_38 : decode cX7_drop 38 = .ok (.iload_n 2, 1) := by decide +kernel
theorem dX7_drop_39 : decode cX7_drop 39 = .ok (.iadd, 1) := by decide +kernel
theorem dX7_drop_40 : decode cX7_drop 40 = .ok (.aload_n 0, 1) := by decide +kernel
theorem dX7_drop_41 : decode cX7_drop 41 = .ok (.getfield 7, 3) := by decide +kernel
theorem dX7_drop_44 : decode cX7_drop 44 = .ok (.iconst 4, 1) := by decide +kernel
theorem dX7_drop_45 : decode cX7_drop 45 = .ok (.iload_n 2, 1) := by decide +kernel
theorem dX7_drop_46 : decode cX7_drop 46 = .ok (.iadd, 1) := by decide +kernel
theorem dX7_drop_47 : decode cX7_drop 47 = .ok (.iconst 1, 1) := by decide +kernel
theorem dX7_drop_48 : decode cX7_drop 48 = .ok (.iadd, 1) := by decide +kernel
theorem dX7_drop_49 : decode cX7_drop 49 = .ok (.iaload, 1) := by decide +kernel
theorem dX7_drop_50 : decode cX7_drop 50 = .ok (.iastore, 1) := by decide +kernel
theorem dX7_drop_51 : decode cX7_drop 51 = .ok (.aload_n 0, 1) := by decide +kernel
theorem dX7_drop_52 : decode cX7_drop 52 = .ok (.getfield 7, 3) := by decide +kernel
theorem dX7_drop_55 : decode cX7_drop 55 = .ok (.bipush 64, 2) := by decide +kernel
theorem dX7_drop_57 : decode cX7_drop 57 = .ok (.iload_n 2, 1) := by decide +kernel
theorem dX7_drop_58 : decode cX7_drop 58 = .ok (.iadd, 1) := by decide +kernel
theorem dX7_drop_59 : decode cX7_drop 59 = .ok (.aload_n 0, 1) := by decide +kernel
theorem dX7_drop_60 : decode cX7_drop 60 = .ok (.getfield 7, 3) := by decide +kernel
theorem dX7_drop_63 : decode cX7_drop 63 = .ok (.bipush 64, 2) := by decide +kernel
theorem dX7_drop_65 : decode cX7_drop 65 = .ok (.iload_n 2, 1) := by decide +kernel
theorem dX7_drop_66 : decode cX7_drop 66 = .ok (.iadd, 1) := by decide +kernel
theorem dX7_drop_67 : decode cX7_drop 67 = .ok (.iconst 1, 1) := by decide +kernel
theorem dX7_drop_68 : decode cX7_drop 68 = .ok (.iadd, 1) := by decide +kernel
theorem dX7_drop_69 : decode cX7_drop 69 = .ok (.iaload, 1) := by decide +kernel
theorem dX7_drop_70 : decode cX7_drop 70 = .ok (.iastore, 1) := by decide +kernel
theorem dX7_drop_71 : decode cX7_drop 71 = .ok (.iinc 2 1, 3) := by decide +kernel
theorem dX7_drop_74 : decode cX7_drop 74 = .ok (.goto (-53), 3) := by decide +kernel
theorem dX7_drop_77 : decode cX7_drop 77 = .ok (.aload_n 0, 1) := by decide +kernel
theorem dX7_drop_78 : decode cX7_drop 78 = .ok (.getfield 7, 3) := by decide +kernel
theorem dX7_drop_81 : decode cX7_drop 81 = .ok (.iconst 0, 1) := by decide +kernel
theorem dX7_drop_82 : decode cX7_drop 82 = .ok (.dup2, 1) := by decide +kernel
theorem dX7_drop_83 : decode cX7_drop 83 = .ok (.iaload, 1) := by decide +kernel
theorem dX7_drop_84 : decode cX7_drop 84 = .ok (.iconst 1, 1) := by decide +kernel
theorem dX7_drop_85 : decode cX7_drop 85 = .ok (.isub, 1) := by decide +kernel
theorem dX7_drop_86 : decode cX7_drop 86 = .ok (.iastore, 1) := by decide +kernel
theorem dX7_drop_87 : decode cX7_drop 87 = .ok (.aload_n 0, 1) := by decide +kernel
theorem dX7_drop_88 : decode cX7_drop 88 = .ok (.getfield 7, 3) := by decide +kernel
theorem dX7_drop_91 : decode cX7_drop 91 = .ok (.iconst 3, 1) := by decide +kernel
theorem dX7_drop_92 : decode cX7_drop 92 = .ok (.iconst 0, 1) := by decide +kernel
theorem dX7_drop_93 : decode cX7_drop 93 = .ok (.iastore, 1) := by decide +kernel
theorem dX7_drop_94 : decode cX7_drop 94 = .ok (.aload_n 0, 1) := by decide +kernel
theorem dX7_drop_95 : decode cX7_drop 95 = .ok (.getfield 7, 3) := by decide +kernel
theorem dX7_drop_98 : decode cX7_drop 98 = .ok (.iconst 0, 1) := by decide +kernel
theorem dX7_drop_99 : decode cX7_drop 99 = .ok (.iaload, 1) := by decide +kernel
theorem dX7_drop_100 : decode cX7_drop 100 = .ok (.ireturn, 1) := by decide +kernel
set_option maxRecDepth 20000 in
theorem ggX7_step_X7_lays : GoodIn wsX7_step wsX7_lays := goodIn_r _ [9, 2, 3, 10, 11, 12, 8, 13, 14, 15, 16, 17, 4, 18, 19, 20, 21, 22, 23, 24, 25, 26, 27, 28, 29, 30, 31, 32, 33, 34, 35, 36, 37, 38, 39, 40, 41, 42, 43, 44, 45, 46, 47, 48, 49, 50, 51, 52, 53, 54, 55, 56, 57, 58, 59, 60, 61, 62, 63, 64, 65, 66, 67, 68, 69, 70, 71, 72, 73, 74, 75, 76, 77, 78, 89, 90, 91, 92, 93, 94, 95, 96, 97, 98, 99, 100, 101, 102, 103, 104, 105, 106, 107, 108, 109, 110, 111, 112, 113, 114, 115, 116, 117, 118, 119, 120, 121, 122, 123, 124, 125, 126, 127, 128, 129] (by decide +kernel) (by decide +kernel)
set_option maxRecDepth 20000 in
theorem gX7_step_X7_lays : GoodIn wsX7_step (wsV RX7 261 RX7 yX7_lays wsX7_lays) := goodIn_app (goodIn_of _ (by decide +kernel)) ggX7_step_X7_lays
set_option maxRecDepth 20000 in
theorem ggX7_step_X7_isProved : GoodIn wsX7_step wsX7_isProved := goodIn_r _ [82, 4, 16, 17, 30, 89, 90, 91, 92, 93, 94, 95, 96, 97, 98, 99, 100, 101, 102, 103, 104, 105, 106, 107, 108, 109, 110, 111, 112, 113, 114, 115, 116, 117, 118, 119, 120, 121, 122, 123, 124, 125, 126, 127, 128, 129] (by decide +kernel) (by decide +kernel)
set_option maxRecDepth 20000 in
theorem gX7_step_X7_isProved : GoodIn wsX7_step (wsV RX7 245 RX7 yX7_isProved wsX7_isProved) := goodIn_app (goodIn_of _ (by decide +kernel)) ggX7_step_X7_isProved
set_option maxRecDepth 20000 in
theorem ggX7_step_X7_goes : GoodIn wsX7_step wsX7_goes := goodIn_r _ [46, 17, 16, 33, 34, 47, 2, 3, 4, 19, 14, 21, 25, 18, 23, 24, 48, 49, 50, 8, 51, 30, 52, 53, 54, 55, 56, 57, 58, 59, 60, 61, 62, 63, 64, 65, 66, 67, 68, 69, 70, 71, 72, 73, 74, 75, 76, 77, 78, 89, 90, 91, 92, 93, 94, 95, 96, 97, 98, 99, 100, 101, 102, 103, 104, 105, 106, 107, 108, 109, 110, 111, 112, 113, 114, 115, 116, 117, 118, 119, 120, 121, 122, 123, 124, 125, 126, 127, 128, 129] (by decide +kernel) (by decide +kernel)
set_option maxRecDepth 20000 in
theorem gX7_step_X7_goes : GoodIn wsX7_step (wsV RX7 242 RX7 yX7_goes wsX7_goes) := goodIn_app (goodIn_of _ (by decide +kernel)) ggX7_step_X7_goes
set_option maxRecDepth 20000 in
theorem ggX7_step_X7_keeps : GoodIn wsX7_step wsX7_keeps := goodIn_r _ [86, 87, 88, 2, 89, 90, 91, 92, 93, 94, 95, 96, 97, 98, 99, 100, 101, 102, 103, 104, 105, 106, 107, 108, 109, 110, 111, 112, 113, 114, 115, 116, 117, 118, 119, 120, 121, 122, 123, 124, 125, 126, 127, 128, 129] (by decide +kernel) (by decide +kernel)
set_option maxRecDepth 20000 in
theorem gX7_step_X7_keeps : GoodIn wsX7_step (wsV RX7 248 RX7 yX7_keeps wsX7_keeps) := goodIn_app (goodIn_of _ (by decide +kernel)) ggX7_step_X7_keeps
theorem dX7_step_0 : decode cX7_step 0 = .ok (.aload_n 0, 1) := by decide +kernel
theorem dX7_step_1 : decode cX7_step 1 = .ok (.iconst 0, 1) := by decide +kernel
theorem dX7_step_2 : decode cX7_step 2 = .ok (.putfield 58, 3) := by decide +kernel
theorem dX7_step_5 : decode cX7_step 5 = .ok (.aload_n 0, 1) := by decide +kernel
theorem dX7_step_6 : decode cX7_step 6 = .ok (.invokevirtual 261, 3) := by decide +kernel
theorem dX7_step_9 : decode cX7_step 9 = .ok (.aload_n 0, 1) := by decide +kernel
theorem dX7_step_10 : decode cX7_step 10 = .ok (.invokevirtual 245, 3) := by decide +kernel
theorem dX7_step_13 : decode cX7_step 13 = .ok (.ifCond .eq 5, 3) := by decide +kernel
theorem dX7_step_16 : decode cX7_step 16 = .ok (.iconst (-1), 1) := by decide +kernel
theorem dX7_step_17 : decode cX7_step 17 = .ok (.ireturn, 1) := by decide +kernel
theorem dX7_step_18 : decode cX7_step 18 = .ok (.aload_n 0, 1) := by decide +kernel
theorem dX7_step_19 : decode cX7_step 19 = .ok (.invokevirtual 242, 3) := by decide +kernel
theorem dX7_step_22 : decode cX7_step 22 = .ok (.ifCond .ne 6, 3) := by decide +kernel
theorem dX7_step_25 : decode cX7_step 25 = .ok (.bipush (-2), 2) := by decide +kernel
theorem dX7_step_27 : decode cX7_step 27 = .ok (.ireturn, 1) := by decide +kernel
theorem dX7_step_28 : decode cX7_step 28 = .ok (.aload_n 0, 1) := by decide +kernel
theorem dX7_step_29 : decode cX7_step 29 = .ok (.invokevirtual 248, 3) := by decide +kernel
theorem dX7_step_32 : decode cX7_step 32 = .ok (.aload_n 0, 1) := by decide +kernel
theorem dX7_step_33 : decode cX7_step 33 = .ok (.getfield 7, 3) := by decide +kernel
theorem dX7_step_36 : decode cX7_step 36 = .ok (.iconst 3, 1) := by decide +kernel
theorem dX7_step_37 : decode cX7_step 37 = .ok (.aload_n 0, 1) := by decide +kernel
theorem dX7_step_38 : decode cX7_step 38 = .ok (.getfield 192, 3) := by decide +kernel
theorem dX7_step_41 : decode cX7_step 41 = .ok (.iastore, 1) := by decide +kernel
theorem dX7_step_42 : decode cX7_step 42 = .ok (.aload_n 0, 1) := by decide +kernel
theorem dX7_step_43 : decode cX7_step 43 = .ok (.getfield 195, 3) := by decide +kernel
theorem dX7_step_46 : decode cX7_step 46 = .ok (.ireturn, 1) := by decide +kernel
set_option maxRecDepth 20000 in
theorem ggX7_solve_X7_lays : GoodIn wsX7_solve wsX7_lays := goodIn_r _ [8, 3, 2, 9, 10, 11, 7, 12, 13, 14, 15, 16, 17, 18, 19, 20, 21, 22, 23, 24, 25, 26, 27, 28, 29, 30, 31, 32, 33, 34, 35, 36, 37, 38, 39, 40, 41, 42, 43, 44, 45, 46, 47, 48, 49, 50, 51, 52, 53, 54, 55, 56, 57, 58, 59, 60, 61, 62, 63, 64, 65, 66, 67, 68, 69, 70, 71, 72, 73, 74, 75, 76, 77, 78, 93, 94, 95, 96, 97, 98, 99, 100, 101, 102, 103, 104, 105, 106, 107, 108, 109, 110, 111, 112, 113, 114, 115, 116, 117, 118, 119, 120, 121, 122, 123, 124, 125, 126, 127, 128, 129, 130, 131, 132, 133] (by decide +kernel) (by decide +kernel)
set_option maxRecDepth 20000 in
theorem gX7_solve_X7_lays : GoodIn wsX7_solve (wsV RX7 261 RX7 yX7_lays wsX7_lays) := goodIn_app (goodIn_of _ (by decide +kernel)) ggX7_solve_X7_lays
set_option maxRecDepth 20000 in
theorem ggX7_solve_X7_solves : GoodIn wsX7_solve wsX7_solves := goodIn_r _ [82, 83, 84, 85, 7, 86, 17, 15, 16, 30, 43, 44, 45, 46, 33, 34, 47, 3, 2, 19, 13, 21, 25, 18, 23, 24, 48, 49, 50, 51, 52, 53, 54, 55, 56, 57, 58, 59, 60, 61, 62, 63, 64, 65, 66, 67, 68, 69, 70, 71, 72, 73, 74, 75, 76, 77, 78, 93, 94, 95, 96, 97, 98, 99, 100, 101, 102, 103, 104, 105, 106, 107, 108, 109, 110, 111, 112, 113, 114, 115, 116, 117, 118, 119, 120, 121, 122, 123, 124, 125, 126, 127, 128, 129, 130, 131, 132, 133] (by decide +kernel) (by decide +kernel)
set_option maxRecDepth 20000 in
theorem gX7_solve_X7_solves : GoodIn wsX7_solve (wsV RX7 264 RX7 yX7_solves wsX7_solves) := goodIn_app (goodIn_of _ (by decide +kernel)) ggX7_solve_X7_solves
set_option maxRecDepth 20000 in
theorem ggX7_solve_X7_keeps : GoodIn wsX7_solve wsX7_keeps := goodIn_r _ [90, 91, 92, 3, 93, 94, 95, 96, 97, 98, 99, 100, 101, 102, 103, 104, 105, 106, 107, 108, 109, 110, 111, 112, 113, 114, 115, 116, 117, 118, 119, 120, 121, 122, 123, 124, 125, 126, 127, 128, 129, 130, 131, 132, 133] (by decide +kernel) (by decide +kernel)
set_option maxRecDepth 20000 in
theorem gX7_solve_X7_keeps : GoodIn wsX7_solve (wsV RX7 248 RX7 yX7_keeps wsX7_keeps) := goodIn_app (goodIn_of _ (by decide +kernel)) ggX7_solve_X7_keeps
theorem dX7_solve_0 : decode cX7_solve 0 = .ok (.aload_n 0, 1) := by decide +kernel
theorem dX7_solve_1 : decode cX7_solve 1 = .ok (.iconst 0, 1) := by decide +kernel
theorem dX7_solve_2 : decode cX7_solve 2 = .ok (.putfield 58, 3) := by decide +kernel
theorem dX7_solve_5 : decode cX7_solve 5 = .ok (.aload_n 0, 1) := by decide +kernel
theorem dX7_solve_6 : decode cX7_solve 6 = .ok (.invokevirtual 261, 3) := by decide +kernel
theorem dX7_solve_9 : decode cX7_solve 9 = .ok (.aload_n 0, 1) := by decide +kernel
theorem dX7_solve_10 : decode cX7_solve 10 = .ok (.getfield 192, 3) := by decide +kernel
theorem dX7_solve_13 : decode cX7_solve 13 = .ok (.istore_n 1, 1) := by decide +kernel
theorem dX7_solve_14 : decode cX7_solve 14 = .ok (.aload_n 0, 1) := by decide +kernel
theorem dX7_solve_15 : decode cX7_solve 15 = .ok (.invokevirtual 264, 3) := by decide +kernel
theorem dX7_solve_18 : decode cX7_solve 18 = .ok (.istore_n 2, 1) := by decide +kernel
theorem dX7_solve_19 : decode cX7_solve 19 = .ok (.aload_n 0, 1) := by decide +kernel
theorem dX7_solve_20 : decode cX7_solve 20 = .ok (.getfield 192, 3) := by decide +kernel
theorem dX7_solve_23 : decode cX7_solve 23 = .ok (.iload_n 1, 1) := by decide +kernel
theorem dX7_solve_24 : decode cX7_solve 24 = .ok (.if_icmp .ne 5, 3) := by decide +kernel
theorem dX7_solve_27 : decode cX7_solve 27 = .ok (.iconst (-1), 1) := by decide +kernel
theorem dX7_solve_28 : decode cX7_solve 28 = .ok (.ireturn, 1) := by decide +kernel
theorem dX7_solve_29 : decode cX7_solve 29 = .ok (.aload_n 0, 1) := by decide +kernel
theorem dX7_solve_30 : decode cX7_solve 30 = .ok (.invokevirtual 248, 3) := by decide +kernel
theorem dX7_solve_33 : decode cX7_solve 33 = .ok (.aload_n 0, 1) := by decide +kernel
theorem dX7_solve_34 : decode cX7_solve 34 = .ok (.getfield 7, 3) := by decide +kernel
theorem dX7_solve_37 : decode cX7_solve 37 = .ok (.iconst 3, 1) := by decide +kernel
theorem dX7_solve_38 : decode cX7_solve 38 = .ok (.aload_n 0, 1) := by decide +kernel
theorem dX7_solve_39 : decode cX7_solve 39 = .ok (.getfield 192, 3) := by decide +kernel
theorem dX7_solve_42 : decode cX7_solve 42 = .ok (.iastore, 1) := by decide +kernel
theorem dX7_solve_43 : decode cX7_solve 43 = .ok (.aload_n 0, 1) := by decide +kernel
theorem dX7_solve_44 : decode cX7_solve 44 = .ok (.getfield 192, 3) := by decide +kernel
theorem dX7_solve_47 : decode cX7_solve 47 = .ok (.iload_n 1, 1) := by decide +kernel
theorem dX7_solve_48 : decode cX7_solve 48 = .ok (.isub, 1) := by decide +kernel
theorem dX7_solve_49 : decode cX7_solve 49 = .ok (.ireturn, 1) := by decide +kernel
theorem dX7_undo_0 : decode cX7_undo 0 = .ok (.aload_n 0, 1) := by decide +kernel
theorem dX7_undo_1 : decode cX7_undo 1 = .ok (.iconst 0, 1) := by decide +kernel
theorem dX7_undo_2 : decode cX7_undo 2 = .ok (.putfield 58, 3) := by decide +kernel
theorem dX7_undo_5 : decode cX7_undo 5 = .ok (.aload_n 0, 1) := by decide +kernel
theorem dX7_undo_6 : decode cX7_undo 6 = .ok (.getfield 157, 3) := by decide +kernel
theorem dX7_undo_9 : decode cX7_undo 9 = .ok (.ifCond .ne 5, 3) := by decide +kernel
theorem dX7_undo_12 : decode cX7_undo 12 = .ok (.iconst (-1), 1) := by decide +kernel
theorem dX7_undo_13 : decode cX7_undo 13 = .ok (.ireturn, 1) := by decide +kernel
theorem dX7_undo_14 : decode cX7_undo 14 = .ok (.aload_n 0, 1) := by decide +kernel
theorem dX7_undo_15 : decode cX7_undo 15 = .ok (.dup, 1) := by decide +kernel
theorem dX7_undo_16 : decode cX7_undo 16 = .ok (.getfield 157, 3) := by decide +kernel
theorem dX7_undo_19 : decode cX7_undo 19 = .ok (.iconst 1, 1) := by decide +kernel
theorem dX7_undo_20 : decode cX7_undo 20 = .ok (.isub, 1) := by decide +kernel
theorem dX7_undo_21 : decode cX7_undo 21 = .ok (.putfield 157, 3) := by decide +kernel
theorem dX7_undo_24 : decode cX7_undo 24 = .ok (.iconst 0, 1) := by decide +kernel
theorem dX7_undo_25 : decode cX7_undo 25 = .ok (.istore_n 1, 1) := by decide +kernel
theorem dX7_undo_26 : decode cX7_undo 26 = .ok (.iload_n 1, 1) := by decide +kernel
theorem dX7_undo_27 : decode cX7_undo 27 = .ok (.bipush 124, 2) := by decide +kernel
theorem dX7_undo_29 : decode cX7_undo 29 = .ok (.if_icmp .ge 29, 3) := by decide +kernel
theorem dX7_undo_32 : decode cX7_undo 32 = .ok (.aload_n 0, 1) := by decide +kernel
theorem dX7_undo_33 : decode cX7_undo 33 = .ok (.getfield 7, 3) := by decide +kernel
theorem dX7_undo_36 : decode cX7_undo 36 = .ok (.iload_n 1, 1) := by decide +kernel
theorem dX7_undo_37 : decode cX7_undo 37 = .ok (.aload_n 0, 1) := by decide +kernel
theorem dX7_undo_38 : decode cX7_undo 38 = .ok (.getfield 21, 3) := by decide +kernel
theorem dX7_undo_41 : decode cX7_undo 41 = .ok (.bipush 124, 2) := by decide +kernel
theorem dX7_undo_43 : decode cX7_undo 43 = .ok (.aload_n 0, 1) := by decide +kernel
theorem dX7_undo_44 : decode cX7_undo 44 = .ok (.getfield 157, 3) := by decide +kernel
theorem dX7_undo_47 : decode cX7_undo 47 = .ok (.imul, 1) := by decide +kernel
theorem dX7_undo_48 : decode cX7_undo 48 = .ok (.iload_n 1, 1) := by decide +kernel
theorem dX7_undo_49 : decode cX7_undo 49 = .ok (.iadd, 1) := by decide +kernel
theorem dX7_undo_50 : decode cX7_undo 50 = .ok (.iaload, 1) := by decide +kernel
theorem dX7_undo_51 : decode cX7_undo 51 = .ok (.iastore, 1) := by decide +kernel
theorem dX7_undo_52 : decode cX7_undo 52 = .ok (.iinc 1 1, 3) := by decide +kernel
theorem dX7_undo_55 : decode cX7_undo 55 = .ok (.goto (-29), 3) := by decide +kernel
theorem dX7_undo_58 : decode cX7_undo 58 = .ok (.aload_n 0, 1) := by decide +kernel
theorem dX7_undo_59 : decode cX7_undo 59 = .ok (.getfield 157, 3) := by decide +kernel
theorem dX7_undo_62 : decode cX7_undo 62 = .ok (.ireturn, 1) := by decide +kernel
theorem dX7_isBreak_0 : decode cX7_isBreak 0 = .ok (.aload_n 0, 1) := by decide +kernel
theorem dX7_isBreak_1 : decode cX7_isBreak 1 = .ok (.getfield 167, 3) := by decide +kernel
theorem dX7_isBreak_4 : decode cX7_isBreak 4 = .ok (.aload_n 0, 1) := by decide +kernel
theorem dX7_isBreak_5 : decode cX7_isBreak 5 = .ok (.getfield 160, 3) := by decide +kernel
theorem dX7_isBreak_8 : decode cX7_isBreak 8 = .ok (.if_icmp .ge 7, 3) := by decide +kernel
theorem dX7_isBreak_11 : decode cX7_isBreak 11 = .ok (.iconst 1, 1) := by decide +kernel
theorem dX7_isBreak_12 : decode cX7_isBreak 12 = .ok (.goto 4, 3) := by decide +kernel
theorem dX7_isBreak_15 : decode cX7_isBreak 15 = .ok (.iconst 0, 1) := by decide +kernel
theorem dX7_isBreak_16 : decode cX7_isBreak 16 = .ok (.ireturn, 1) := by decide +kernel
set_option maxRecDepth 20000 in
theorem ggX7_reducedAt_X7_downwards : GoodIn wsX7_reducedAt wsX7_downwards := goodIn_r _ [10] (by decide +kernel) (by decide +kernel)
set_option maxRecDepth 20000 in
theorem gX7_reducedAt_X7_downwards : GoodIn wsX7_reducedAt (va_wsS RX7 221 yX7_downwards wsX7_downwards) := goodIn_app (goodIn_of _ (by decide +kernel)) ggX7_reducedAt_X7_downwards
