theorem dX6_bitsOfDouble_23 : decode cX6_bitsOfDouble 23 = .ok (.if_icmp .ge 29, 3) := by decide +kernel
theorem dX6_bitsOfDouble_26 : decode cX6_bitsOfDouble 26 = .ok (.dload_n 2, 1) := by decide +kernel
theorem dX6_bitsOfDouble_27 : decode cX6_bitsOfDouble 27 = .ok (.ldc2_w 344, 3) := by decide +kernel
theorem dX6_bitsOfDouble_30 : decode cX6_bitsOfDouble 30 = .ok (.dcmp .l, 1) := by decide +kernel
theorem dX6_bitsOfDouble_31 : decode cX6_bitsOfDouble 31 = .ok (.ifCond .lt 21, 3) := by decide +kernel
theorem dX6_bitsOfDouble_34 : decode cX6_bitsOfDouble 34 = .ok (.dload_n 2, 1) := by decide +kernel
theorem dX6_bitsOfDouble_35 : decode cX6_bitsOfDouble 35 = .ok (.ldc2_w 344, 3) := by decide +kernel
theorem dX6_bitsOfDouble_38 : decode cX6_bitsOfDouble 38 = .ok (.ddiv, 1) := by decide +kernel
theorem dX6_bitsOfDouble_39 : decode cX6_bitsOfDouble 39 = .ok (.dstore_n 2, 1) := by decide +kernel
theorem dX6_bitsOfDouble_40 : decode cX6_bitsOfDouble 40 = .ok (.lload 4, 2) := by decide +kernel
theorem dX6_bitsOfDouble_42 : decode cX6_bitsOfDouble 42 = .ok (.lconst 1, 1) := by decide +kernel
theorem dX6_bitsOfDouble_43 : decode cX6_bitsOfDouble 43 = .ok (.ladd, 1) := by decide +kernel
theorem dX6_bitsOfDouble_44 : decode cX6_bitsOfDouble 44 = .ok (.lstore 4, 2) := by decide +kernel
theorem dX6_bitsOfDouble_46 : decode cX6_bitsOfDouble 46 = .ok (.iinc 6 1, 3) := by decide +kernel
theorem dX6_bitsOfDouble_49 : decode cX6_bitsOfDouble 49 = .ok (.goto (-31), 3) := by decide +kernel
theorem dX6_bitsOfDouble_52 : decode cX6_bitsOfDouble 52 = .ok (.iconst 0, 1) := by decide +kernel
theorem dX6_bitsOfDouble_53 : decode cX6_bitsOfDouble 53 = .ok (.istore 6, 2) := by decide +kernel
theorem dX6_bitsOfDouble_55 : decode cX6_bitsOfDouble 55 = .ok (.iload 6, 2) := by decide +kernel
theorem dX6_bitsOfDouble_57 : decode cX6_bitsOfDouble 57 = .ok (.sipush 1022, 3) := by decide +kernel
theorem dX6_bitsOfDouble_60 : decode cX6_bitsOfDouble 60 = .ok (.if_icmp .ge 27, 3) := by decide +kernel
theorem dX6_bitsOfDouble_63 : decode cX6_bitsOfDouble 63 = .ok (.dload_n 2, 1) := by decide +kernel
theorem dX6_bitsOfDouble_64 : decode cX6_bitsOfDouble 64 = .ok (.dconst 1, 1) := by decide +kernel
theorem dX6_bitsOfDouble_65 : decode cX6_bitsOfDouble 65 = .ok (.dcmp .g, 1) := by decide +kernel
theorem dX6_bitsOfDouble_66 : decode cX6_bitsOfDouble 66 = .ok (.ifCond .ge 21, 3) := by decide +kernel
theorem dX6_bitsOfDouble_69 : decode cX6_bitsOfDouble 69 = .ok (.dload_n 2, 1) := by decide +kernel
theorem dX6_bitsOfDouble_70 : decode cX6_bitsOfDouble 70 = .ok (.ldc2_w 344, 3) := by decide +kernel
theorem dX6_bitsOfDouble_73 : decode cX6_bitsOfDouble 73 = .ok (.dmul, 1) := by decide +kernel
theorem dX6_bitsOfDouble_74 : decode cX6_bitsOfDouble 74 = .ok (.dstore_n 2, 1) := by decide +kernel
theorem dX6_bitsOfDouble_75 : decode cX6_bitsOfDouble 75 = .ok (.lload 4, 2) := by decide +kernel
theorem dX6_bitsOfDouble_77 : decode cX6_bitsOfDouble 77 = .ok (.lconst 1, 1) := by decide +kernel
theorem dX6_bitsOfDouble_78 : decode cX6_bitsOfDouble 78 = .ok (.lsub, 1) := by decide +kernel
theorem dX6_bitsOfDouble_79 : decode cX6_bitsOfDouble 79 = .ok (.lstore 4, 2) := by decide +kernel
theorem dX6_bitsOfDouble_81 : decode cX6_bitsOfDouble 81 = .ok (.iinc 6 1, 3) := by decide +kernel
theorem dX6_bitsOfDouble_84 : decode cX6_bitsOfDouble 84 = .ok (.goto (-29), 3) := by decide +kernel
theorem dX6_bitsOfDouble_87 : decode cX6_bitsOfDouble 87 = .ok (.lload 4, 2) := by decide +kernel
theorem dX6_bitsOfDouble_89 : decode cX6_bitsOfDouble 89 = .ok (.bipush 52, 2) := by decide +kernel
theorem dX6_bitsOfDouble_91 : decode cX6_bitsOfDouble 91 = .ok (.lshl, 1) := by decide +kernel
theorem dX6_bitsOfDouble_92 : decode cX6_bitsOfDouble 92 = .ok (.dload_n 2, 1) := by decide +kernel
theorem dX6_bitsOfDouble_93 : decode cX6_bitsOfDouble 93 = .ok (.dconst 1, 1) := by decide +kernel
theorem dX6_bitsOfDouble_94 : decode cX6_bitsOfDouble 94 = .ok (.dsub, 1) := by decide +kernel
theorem dX6_bitsOfDouble_95 : decode cX6_bitsOfDouble 95 = .ok (.ldc2_w 346, 3) := by decide +kernel
theorem dX6_bitsOfDouble_98 : decode cX6_bitsOfDouble 98 = .ok (.dmul, 1) := by decide +kernel
theorem dX6_bitsOfDouble_99 : decode cX6_bitsOfDouble 99 = .ok (.d2l, 1) := by decide +kernel
theorem dX6_bitsOfDouble_100 : decode cX6_bitsOfDouble 100 = .ok (.lor, 1) := by decide +kernel
theorem dX6_bitsOfDouble_101 : decode cX6_bitsOfDouble 101 = .ok (.lreturn, 1) := by decide +kernel
theorem dX7_init_0 : decode cX7_init 0 = .ok (.aload_n 0, 1) := by decide +kernel
theorem dX7_init_1 : decode cX7_init 1 = .ok (.invokespecial 1, 3) := by decide +kernel
theorem dX7_init_4 : decode cX7_init 4 = .ok (.aload_n 0, 1) := by decide +kernel
theorem dX7_init_5 : decode cX7_init 5 = .ok (.sipush 604, 3) := by decide +kernel
theorem dX7_init_8 : decode cX7_init 8 = .ok (.newarray .int, 2) := by decide +kernel
theorem dX7_init_10 : decode cX7_init 10 = .ok (.putfield 7, 3) := by decide +kernel
theorem dX7_init_13 : decode cX7_init 13 = .ok (.aload_n 0, 1) := by decide +kernel
theorem dX7_init_14 : decode cX7_init 14 = .ok (.sipush 2400, 3) := by decide +kernel
theorem dX7_init_17 : decode cX7_init 17 = .ok (.newarray .byte, 2) := by decide +kernel
theorem dX7_init_19 : decode cX7_init 19 = .ok (.putfield 13, 3) := by decide +kernel
theorem dX7_init_22 : decode cX7_init 22 = .ok (.aload_n 0, 1) := by decide +kernel
theorem dX7_init_23 : decode cX7_init 23 = .ok (.iconst 3, 1) := by decide +kernel
theorem dX7_init_24 : decode cX7_init 24 = .ok (.newarray .boolean, 2) := by decide +kernel
theorem dX7_init_26 : decode cX7_init 26 = .ok (.putfield 17, 3) := by decide +kernel
theorem dX7_init_29 : decode cX7_init 29 = .ok (.aload_n 0, 1) := by decide +kernel
theorem dX7_init_30 : decode cX7_init 30 = .ok (.sipush 992, 3) := by decide +kernel
theorem dX7_init_33 : decode cX7_init 33 = .ok (.newarray .int, 2) := by decide +kernel
theorem dX7_init_35 : decode cX7_init 35 = .ok (.putfield 21, 3) := by decide +kernel
theorem dX7_init_38 : decode cX7_init 38 = .ok (.aload_n 0, 1) := by decide +kernel
theorem dX7_init_39 : decode cX7_init 39 = .ok (.bipush 124, 2) := by decide +kernel
theorem dX7_init_41 : decode cX7_init 41 = .ok (.newarray .int, 2) := by decide +kernel
theorem dX7_init_43 : decode cX7_init 43 = .ok (.putfield 24, 3) := by decide +kernel
theorem dX7_init_46 : decode cX7_init 46 = .ok (.aload_n 0, 1) := by decide +kernel
theorem dX7_init_47 : decode cX7_init 47 = .ok (.bipush 60, 2) := by decide +kernel
theorem dX7_init_49 : decode cX7_init 49 = .ok (.newarray .int, 2) := by decide +kernel
theorem dX7_init_51 : decode cX7_init 51 = .ok (.putfield 27, 3) := by decide +kernel
theorem dX7_init_54 : decode cX7_init 54 = .ok (.aload_n 0, 1) := by decide +kernel
theorem dX7_init_55 : decode cX7_init 55 = .ok (.bipush 60, 2) := by decide +kernel
theorem dX7_init_57 : decode cX7_init 57 = .ok (.newarray .int, 2) := by decide +kernel
theorem dX7_init_59 : decode cX7_init 59 = .ok (.putfield 30, 3) := by decide +kernel
theorem dX7_init_62 : decode cX7_init 62 = .ok (.aload_n 0, 1) := by decide +kernel
theorem dX7_init_63 : decode cX7_init 63 = .ok (.bipush 60, 2) := by decide +kernel
theorem dX7_init_65 : decode cX7_init 65 = .ok (.newarray .long, 2) := by decide +kernel
theorem dX7_init_67 : decode cX7_init 67 = .ok (.putfield 33, 3) := by decide +kernel
theorem dX7_init_70 : decode cX7_init 70 = .ok (.aload_n 0, 1) := by decide +kernel
theorem dX7_init_71 : decode cX7_init 71 = .ok (.bipush 60, 2) := by decide +kernel
theorem dX7_init_73 : decode cX7_init 73 = .ok (.newarray .long, 2) := by decide +kernel
theorem dX7_init_75 : decode cX7_init 75 = .ok (.putfield 37, 3) := by decide +kernel
theorem dX7_init_78 : decode cX7_init 78 = .ok (.aload_n 0, 1) := by decide +kernel
theorem dX7_init_79 : decode cX7_init 79 = .ok (.sipush 2002, 3) := by decide +kernel
theorem dX7_init_82 : decode cX7_init 82 = .ok (.newarray .long, 2) := by decide +kernel
theorem dX7_init_84 : decode cX7_init 84 = .ok (.putfield 40, 3) := by decide +kernel
theorem dX7_init_87 : decode cX7_init 87 = .ok (.aload_n 0, 1) := by decide +kernel
theorem dX7_init_88 : decode cX7_init 88 = .ok (.sipush 2002, 3) := by decide +kernel
theorem dX7_init_91 : decode cX7_init 91 = .ok (.newarray .long, 2) := by decide +kernel
theorem dX7_init_93 : decode cX7_init 93 = .ok (.putfield 43, 3) := by decide +kernel
theorem dX7_init_96 : decode cX7_init 96 = .ok (.aload_n 0, 1) := by decide +kernel
theorem dX7_init_97 : decode cX7_init 97 = .ok (.sipush 2002, 3) := by decide +kernel
theorem dX7_init_100 : decode cX7_init 100 = .ok (.newarray .long, 2) := by decide +kernel
theorem dX7_init_102 : decode cX7_init 102 = .ok (.putfield 46, 3) := by decide +kernel
theorem dX7_init_105 : decode cX7_init 105 = .ok (.aload_n 0, 1) := by decide +kernel
theorem dX7_init_106 : decode cX7_init 106 = .ok (.sipush 2002, 3) := by decide +kernel
theorem dX7_init_109 : decode cX7_init 109 = .ok (.newarray .long, 2) := by decide +kernel
theorem dX7_init_111 : decode cX7_init 111 = .ok (.putfield 49, 3) := by decide +kernel
theorem dX7_init_114 : decode cX7_init 114 = .ok (.aload_n 0, 1) := by decide +kernel
theorem dX7_init_115 : decode cX7_init 115 = .ok (.sipush 2002, 3) := by decide +kernel
theorem dX7_init_118 : decode cX7_init 118 = .ok (.newarray .long, 2) := by decide +kernel
theorem dX7_init_120 : decode cX7_init 120 = .ok (.putfield 52, 3) := by decide +kernel
theorem dX7_init_123 : decode cX7_init 123 = .ok (.aload_n 0, 1) := by decide +kernel
theorem dX7_init_124 : decode cX7_init 124 = .ok (.sipush 2002, 3) := by decide +kernel
theorem dX7_init_127 : decode cX7_init 127 = .ok (.newarray .long, 2) := by decide +kernel
theorem dX7_init_129 : decode cX7_init 129 = .ok (.putfield 55, 3) := by decide +kernel
theorem dX7_init_132 : decode cX7_init 132 = .ok (.aload_n 0, 1) := by decide +kernel
theorem dX7_init_133 : decode cX7_init 133 = .ok (.getfield 7, 3) := by decide +kernel
theorem dX7_init_136 : decode cX7_init 136 = .ok (.iconst 1, 1) := by decide +kernel
theorem dX7_init_137 : decode cX7_init 137 = .ok (.bipush 100, 2) := by decide +kernel
theorem dX7_init_139 : decode cX7_init 139 = .ok (.iastore, 1) := by decide +kernel
theorem dX7_init_140 : decode cX7_init 140 = .ok (.aload_n 0, 1) := by decide +kernel
theorem dX7_init_141 : decode cX7_init 141 = .ok (.getfield 7, 3) := by decide +kernel
theorem dX7_init_144 : decode cX7_init 144 = .ok (.iconst 2, 1) := by decide +kernel
theorem dX7_init_145 : decode cX7_init 145 = .ok (.sipush 400, 3) := by decide +kernel
theorem dX7_init_148 : decode cX7_init 148 = .ok (.iastore, 1) := by decide +kernel
theorem dX7_init_149 : decode cX7_init 149 = .ok (.aload_n 0, 1) := by decide +kernel
theorem dX7_init_150 : decode cX7_init 150 = .ok (.getfield 7, 3) := by decide +kernel
theorem dX7_init_153 : decode cX7_init 153 = .ok (.bipush 126, 2) := by decide +kernel
theorem dX7_init_155 : decode cX7_init 155 = .ok (.iconst (-1), 1) := by decide +kernel
theorem dX7_init_156 : decode cX7_init 156 = .ok (.iastore, 1) := by decide +kernel
theorem dX7_init_157 : decode cX7_init 157 = .ok (.return_, 1) := by decide +kernel
theorem dX7_thrown_0 : decode cX7_thrown 0 = .ok (.aload_n 0, 1) := by decide +kernel
theorem dX7_thrown_1 : decode cX7_thrown 1 = .ok (.getfield 58, 3) := by decide +kernel
theorem dX7_thrown_4 : decode cX7_thrown 4 = .ok (.ireturn, 1) := by decide +kernel
theorem dX7_in_0 : decode cX7_in 0 = .ok (.lload_n 0, 1) := by decide +kernel
theorem dX7_in_1 : decode cX7_in 1 = .ok (.lload_n 2, 1) := by decide +kernel
theorem dX7_in_2 : decode cX7_in 2 = .ok (.lcmp, 1) := by decide +kernel
theorem dX7_in_3 : decode cX7_in 3 = .ok (.ifCond .lt 14, 3) := by decide +kernel
theorem dX7_in_6 : decode cX7_in 6 = .ok (.lload_n 0, 1) := by decide +kernel
theorem dX7_in_7 : decode cX7_in 7 = .ok (.lload 4, 2) := by decide +kernel
theorem dX7_in_9 : decode cX7_in 9 = .ok (.lcmp, 1) := by decide +kernel
theorem dX7_in_10 : decode cX7_in 10 = .ok (.ifCond .gt 7, 3) := by decide +kernel
theorem dX7_in_13 : decode cX7_in 13 = .ok (.iconst 1, 1) := by decide +kernel
theorem dX7_in_14 : decode cX7_in 14 = .ok (.goto 4, 3) := by decide +kernel
theorem dX7_in_17 : decode cX7_in 17 = .ok (.iconst 0, 1) := by decide +kernel
theorem dX7_in_18 : decode cX7_in 18 = .ok (.ireturn, 1) := by decide +kernel
theorem dX7_downwards_0 : decode cX7_downwards 0 = .ok (.lload_n 0, 1) := by decide +kernel
theorem dX7_downwards_1 : decode cX7_downwards 1 = .ok (.lload_n 2, 1) := by decide +kernel
theorem dX7_downwards_2 : decode cX7_downwards 2 = .ok (.ldiv, 1) := by decide +kernel
theorem dX7_downwards_3 : decode cX7_downwards 3 = .ok (.lstore 4, 2) := by decide +kernel
theorem dX7_downwards_5 : decode cX7_downwards 5 = .ok (.lload_n 0, 1) := by decide +kernel
theorem dX7_downwards_6 : decode cX7_downwards 6 = .ok (.lload_n 2, 1) := by decide +kernel
theorem dX7_downwards_7 : decode cX7_downwards 7 = .ok (.lrem, 1) := by decide +kernel
theorem dX7_downwards_8 : decode cX7_downwards 8 = .ok (.lconst 0, 1) := by decide +kernel
theorem dX7_downwards_9 : decode cX7_downwards 9 = .ok (.lcmp, 1) := by decide +kernel
theorem dX7_downwards_10 : decode cX7_downwards 10 = .ok (.ifCond .ge 10, 3) := by decide +kernel
theorem dX7_downwards_13 : decode cX7_downwards 13 = .ok (.lload 4, 2) := by decide +kernel
theorem dX7_downwards_15 : decode cX7_downwards 15 = .ok (.lconst 1, 1) := by decide +kernel
theorem dX7_downwards_16 : decode cX7_downwards 16 = .ok (.lsub, 1) := by decide +kernel
theorem dX7_downwards_17 : decode cX7_downwards 17 = .ok (.goto 5, 3) := by decide +kernel
theorem dX7_downwards_20 : decode cX7_downwards 20 = .ok (.lload 4, 2) := by decide +kernel
theorem dX7_downwards_22 : decode cX7_downwards 22 = .ok (.lreturn, 1) := by decide +kernel
theorem dX7_type_0 : decode cX7_type 0 = .ok (.aload_n 0, 1) := by decide +kernel
theorem dX7_type_1 : decode cX7_type 1 = .ok (.iconst 0, 1) := by decide +kernel
theorem dX7_type_2 : decode cX7_type 2 = .ok (.putfield 58, 3) := by decide +kernel
theorem dX7_type_5 : decode cX7_type 5 = .ok (.iconst 0, 1) := by decide +kernel
theorem dX7_type_6 : decode cX7_type 6 = .ok (.istore_n 3, 1) := by decide +kernel
theorem dX7_type_7 : decode cX7_type 7 = .ok (.iload_n 3, 1) := by decide +kernel
theorem dX7_type_8 : decode cX7_type 8 = .ok (.bipush 8, 2) := by decide +kernel
theorem dX7_type_10 : decode cX7_type 10 = .ok (.if_icmp .ge 27, 3) := by decide +kernel
theorem dX7_type_13 : decode cX7_type 13 = .ok (.lload_n 1, 1) := by decide +kernel
theorem dX7_type_14 : decode cX7_type 14 = .ok (.bipush 56, 2) := by decide +kernel
theorem dX7_type_16 : decode cX7_type 16 = .ok (.bipush 8, 2) := by decide +kernel
theorem dX7_type_18 : decode cX7_type 18 = .ok (.iload_n 3, 1) := by decide +kernel
theorem dX7_type_19 : decode cX7_type 19 = .ok (.imul, 1) := by decide +kernel
theorem dX7_type_20 : decode cX7_type 20 = .ok (.isub, 1) := by decide +kernel
theorem dX7_type_21 : decode cX7_type 21 = .ok (.lshr, 1) := by decide +kernel
theorem dX7_type_22 : decode cX7_type 22 = .ok (.ldc2_w 62, 3) := by decide +kernel
theorem dX7_type_25 : decode cX7_type 25 = .ok (.land, 1) := by decide +kernel
theorem dX7_type_26 : decode cX7_type 26 = .ok (.lconst 0, 1) := by decide +kernel
theorem dX7_type_27 : decode cX7_type 27 = .ok (.lcmp, 1) := by decide +kernel
theorem dX7_type_28 : decode cX7_type 28 = .ok (.ifCond .eq 9, 3) := by decide +kernel
theorem dX7_type_31 : decode cX7_type 31 = .ok (.iinc 3 1, 3) := by decide +kernel
theorem dX7_type_34 : decode cX7_type 34 = .ok (.goto (-27), 3) := by decide +kernel
theorem dX7_type_37 : decode cX7_type 37 = .ok (.aload_n 0, 1) := by decide +kernel
theorem dX7_type_38 : decode cX7_type 38 = .ok (.getfield 7, 3) := by decide +kernel
theorem dX7_type_41 : decode cX7_type 41 = .ok (.bipush 124, 2) := by decide +kernel
theorem dX7_type_43 : decode cX7_type 43 = .ok (.iaload, 1) := by decide +kernel
theorem dX7_type_44 : decode cX7_type 44 = .ok (.iload_n 3, 1) := by decide +kernel
theorem dX7_type_45 : decode cX7_type 45 = .ok (.iadd, 1) := by decide +kernel
theorem dX7_type_46 : decode cX7_type 46 = .ok (.sipush 600, 3) := by decide +kernel
theorem dX7_type_49 : decode cX7_type 49 = .ok (.if_icmp .le 5, 3) := by decide +kernel
theorem dX7_type_52 : decode cX7_type 52 = .ok (.iconst (-1), 1) := by decide +kernel
theorem dX7_type_53 : decode cX7_type 53 = .ok (.ireturn, 1) := by decide +kernel
theorem dX7_type_54 : decode cX7_type 54 = .ok (.iconst 0, 1) := by decide +kernel
theorem dX7_type_55 : decode cX7_type 55 = .ok (.istore 4, 2) := by decide +kernel
theorem dX7_type_57 : decode cX7_type 57 = .ok (.iload 4, 2) := by decide +kernel
theorem dX7_type_59 : decode cX7_type 59 = .ok (.iload_n 3, 1) := by decide +kernel
theorem dX7_type_60 : decode cX7_type 60 = .ok (.if_icmp .ge 44, 3) := by decide +kernel
theorem dX7_type_63 : decode cX7_type 63 = .ok (.aload_n 0, 1) := by decide +kernel
theorem dX7_type_64 : decode cX7_type 64 = .ok (.getfield 13, 3) := by decide +kernel
theorem dX7_type_67 : decode cX7_type 67 = .ok (.aload_n 0, 1) := by decide +kernel
theorem dX7_type_68 : decode cX7_type 68 = .ok (.getfield 7, 3) := by decide +kernel
theorem dX7_type_71 : decode cX7_type 71 = .ok (.bipush 124, 2) := by decide +kernel
theorem dX7_type_73 : decode cX7_type 73 = .ok (.iaload, 1) := by decide +kernel
theorem dX7_type_74 : decode cX7_type 74 = .ok (.lload_n 1, 1) := by decide +kernel
theorem dX7_type_75 : decode cX7_type 75 = .ok (.bipush 56, 2) := by decide +kernel
theorem dX7_type_77 : decode cX7_type 77 = .ok (.bipush 8, 2) := by decide +kernel
theorem dX7_type_79 : decode cX7_type 79 = .ok (.iload 4, 2) := by decide +kernel
theorem dX7_type_81 : decode cX7_type 81 = .ok (.imul, 1) := by decide +kernel
theorem dX7_type_82 : decode cX7_type 82 = .ok (.isub, 1) := by decide +kernel
theorem dX7_type_83 : decode cX7_type 83 = .ok (.lshr, 1) := by decide +kernel
theorem dX7_type_84 : decode cX7_type 84 = .ok (.l2i, 1) := by decide +kernel
theorem dX7_type_85 : decode cX7_type 85 = .ok (.i2b, 1) := by decide +kernel
theorem dX7_type_86 : decode cX7_type 86 = .ok (.bastore, 1) := by decide +kernel
theorem dX7_type_87 : decode cX7_type 87 = .ok (.aload_n 0, 1) := by decide +kernel
theorem dX7_type_88 : decode cX7_type 88 = .ok (.getfield 7, 3) := by decide +kernel
theorem dX7_type_91 : decode cX7_type 91 = .ok (.bipush 124, 2) := by decide +kernel
theorem dX7_type_93 : decode cX7_type 93 = .ok (.dup2, 1) := by decide +kernel
theorem dX7_type_94 : decode cX7_type 94 = .ok (.iaload, 1) := by decide +kernel
theorem dX7_type_95 : decode cX7_type 95 = .ok (.iconst 1, 1) := by decide +kernel
theorem dX7_type_96 : decode cX7_type 96 = .ok (.iadd, 1) := by decide +kernel
theorem dX7_type_97 : decode cX7_type 97 = .ok (.iastore, 1) := by decide +kernel
theorem dX7_type_98 : decode cX7_type 98 = .ok (.iinc 4 1, 3) := by decide +kernel
theorem dX7_type_101 : decode cX7_type 101 = .ok (.goto (-44), 3) := by decide +kernel
theorem dX7_type_104 : decode cX7_type 104 = .ok (.aload_n 0, 1) := by decide +kernel
theorem dX7_type_105 : decode cX7_type 105 = .ok (.getfield 7, 3) := by decide +kernel
theorem dX7_type_108 : decode cX7_type 108 = .ok (.bipush 124, 2) := by decide +kernel
theorem dX7_type_110 : decode cX7_type 110 = .ok (.iaload, 1) := by decide +kernel
theorem dX7_type_111 : decode cX7_type 111 = .ok (.ireturn, 1) := by decide +kernel
theorem dX7_see_0 : decode cX7_see 0 = .ok (.aload_n 0, 1) := by decide +kernel
theorem dX7_see_1 : decode cX7_see 1 = .ok (.getfield 64, 3) := by decide +kernel
theorem dX7_see_4 : decode cX7_see 4 = .ok (.aload_n 0, 1) := by decide +kernel
theorem dX7_see_5 : decode cX7_see 5 = .ok (.getfield 67, 3) := by decide +kernel
theorem dX7_see_8 : decode cX7_see 8 = .ok (.if_icmp .ge 19, 3) := by decide +kernel
theorem dX7_see_11 : decode cX7_see 11 = .ok (.aload_n 0, 1) := by decide +kernel
theorem dX7_see_12 : decode cX7_see 12 = .ok (.getfield 13, 3) := by decide +kernel
theorem dX7_see_15 : decode cX7_see 15 = .ok (.aload_n 0, 1) := by decide +kernel
theorem dX7_see_16 : decode cX7_see 16 = .ok (.getfield 64, 3) := by decide +kernel
theorem dX7_see_19 : decode cX7_see 19 = .ok (.baload, 1) := by decide +kernel
theorem dX7_see_20 : decode cX7_see 20 = .ok (.sipush 255, 3) := by decide +kernel
theorem dX7_see_23 : decode cX7_see 23 = .ok (.iand, 1) := by decide +kernel
theorem dX7_see_24 : decode cX7_see 24 = .ok (.goto 4, 3) := by decide +kernel
theorem dX7_see_27 : decode cX7_see 27 = .ok (.iconst (-1), 1) := by decide +kernel
theorem dX7_see_28 : decode cX7_see 28 = .ok (.ireturn, 1) := by decide +kernel
set_option maxRecDepth 20000 in
theorem ggX7_token_X7_see : GoodIn wsX7_token wsX7_see := goodIn_r _ [15, 1, 16, 17, 21, 22, 23, 24, 25, 26, 27, 28, 29, 30, 31, 32, 33, 34, 35, 36, 37, 38, 39, 40, 41, 42, 43, 44, 45, 46, 47, 48, 49, 50, 51, 52, 53, 54, 55, 56, 57, 58, 59, 60, 61] (by decide +kernel) (by decide +kernel)
set_option maxRecDepth 20000 in
theorem gX7_token_X7_see : GoodIn wsX7_token (wsV RX7 70 RX7 yX7_see wsX7_see) := goodIn_app (goodIn_of _ (by decide +kernel)) ggX7_token_X7_see
set_option maxRecDepth 20000 in
theorem ggX7_token_X7_in : GoodIn wsX7_token wsX7_in := goodIn_r _ [20] (by decide +kernel) (by decide +kernel)
set_option maxRecDepth 20000 in
theorem gX7_token_X7_in : GoodIn wsX7_token (va_wsS RX7 88 yX7_in wsX7_in) := goodIn_app (goodIn_of _ (by decide +kernel)) ggX7_token_X7_in
theorem dX7_token_0 : decode cX7_token 0 = .ok (.aload_n 0, 1) := by decide +kernel
theorem dX7_token_1 : decode cX7_token 1 = .ok (.invokevirtual 70, 3) := by decide +kernel
theorem dX7_token_4 : decode cX7_token 4 = .ok (.bipush 10, 2) := by decide +kernel
theorem dX7_token_6 : decode cX7_token 6 = .ok (.if_icmp .eq 12, 3) := by decide +kernel
theorem dX7_token_9 : decode cX7_token 9 = .ok (.aload_n 0, 1) := by decide +kernel
theorem dX7_token_10 : decode cX7_token 10 = .ok (.invokevirtual 70, 3) := by decide +kernel
theorem dX7_token_13 : decode cX7_token 13 = .ok (.bipush 32, 2) := by decide +kernel
theorem dX7_token_15 : decode cX7_token 15 = .ok (.if_icmp .ne 16, 3) := by decide +kernel
theorem dX7_token_18 : decode cX7_token 18 = .ok (.aload_n 0, 1) := by decide +kernel
theorem dX7_token_19 : decode cX7_token 19 = .ok (.dup, 1) := by decide +kernel
theorem dX7_token_20 : decode cX7_token 20 = .ok (.getfield 64, 3) := by decide +kernel
theorem dX7_token_23 : decode cX7_token 23 = .ok (.iconst 1, 1) := by decide +kernel
theorem dX7_token_24 : decode cX7_token 24 = .ok (.iadd, 1) := by decide +kernel
theorem dX7_token_25 : decode cX7_token 25 = .ok (.putfield 64, 3) := by decide +kernel
theorem dX7_token_28 : decode cX7_token 28 = .ok (.goto (-28), 3) := by decide +kernel
theorem dX7_token_31 : decode cX7_token 31 = .ok (.aload_n 0, 1) := by decide +kernel
theorem dX7_token_32 : decode cX7_token 32 = .ok (.aload_n 0, 1) := by decide +kernel
theorem dX7_token_33 : decode cX7_token 33 = .ok (.getfield 64, 3) := by decide +kernel
theorem dX7_token_36 : decode cX7_token 36 = .ok (.putfield 74, 3) := by decide +kernel
theorem dX7_token_39 : decode cX7_token 39 = .ok (.aload_n 0, 1) := by decide +kernel
theorem dX7_token_40 : decode cX7_token 40 = .ok (.invokevirtual 70, 3) := by decide +kernel
theorem dX7_token_43 : decode cX7_token 43 = .ok (.istore_n 1, 1) := by decide +kernel
theorem dX7_token_44 : decode cX7_token 44 = .ok (.aload_n 0, 1) := by decide +kernel
theorem dX7_token_45 : decode cX7_token 45 = .ok (.lconst 0, 1) := by decide +kernel
theorem dX7_token_46 : decode cX7_token 46 = .ok (.putfield 77, 3) := by decide +kernel
theorem dX7_token_49 : decode cX7_token 49 = .ok (.iconst 0, 1) := by decide +kernel
theorem dX7_token_50 : decode cX7_token 50 = .ok (.istore_n 2, 1) := by decide +kernel
theorem dX7_token_51 : decode cX7_token 51 = .ok (.iload_n 1, 1) := by decide +kernel
theorem dX7_token_52 : decode cX7_token 52 = .ok (.ifCond .ge 11, 3) := by decide +kernel
theorem dX7_token_55 : decode cX7_token 55 = .ok (.aload_n 0, 1) := by decide +kernel
theorem dX7_token_56 : decode cX7_token 56 = .ok (.iconst 0, 1) := by decide +kernel
theorem dX7_token_57 : decode cX7_token 57 = .ok (.putfield 81, 3) := by decide +kernel
theorem dX7_token_60 : decode cX7_token 60 = .ok (.goto 223, 3) := by decide +kernel
theorem dX7_token_63 : decode cX7_token 63 = .ok (.iload_n 1, 1) := by decide +kernel
theorem dX7_token_64 : decode cX7_token 64 = .ok (.i2l, 1) := by decide +kernel
theorem dX7_token_65 : decode cX7_token 65 = .ok (.ldc2_w 84, 3) := by decide +kernel
theorem dX7_token_68 : decode cX7_token 68 = .ok (.ldc2_w 86, 3) := by decide +kernel
theorem dX7_token_71 : decode cX7_token 71 = .ok (.invokestatic 88, 3) := by decide +kernel
theorem dX7_token_74 : decode cX7_token 74 = .ok (.ifCond .eq 79, 3) := by decide +kernel
theorem dX7_token_77 : decode cX7_token 77 = .ok (.aload_n 0, 1) := by decide +kernel
theorem dX7_token_78 : decode cX7_token 78 = .ok (.invokevirtual 70, 3) := by decide +kernel
theorem dX7_token_81 : decode cX7_token 81 = .ok (.i2l, 1) := by decide +kernel
theorem dX7_token_82 : decode cX7_token 82 = .ok (.ldc2_w 84, 3) := by decide +kernel
theorem dX7_token_85 : decode cX7_token 85 = .ok (.ldc2_w 86, 3) := by decide +kernel
theorem dX7_token_88 : decode cX7_token 88 = .ok (.invokestatic 88, 3) := by decide +kernel
theorem dX7_token_91 : decode cX7_token 91 = .ok (.ifCond .eq 36, 3) := by decide +kernel
theorem dX7_token_94 : decode cX7_token 94 = .ok (.aload_n 0, 1) := by decide +kernel
theorem dX7_token_95 : decode cX7_token 95 = .ok (.aload_n 0, 1) := by decide +kernel
theorem dX7_token_96 : decode cX7_token 96 = .ok (.getfield 77, 3) := by decide +kernel
theorem dX7_token_99 : decode cX7_token 99 = .ok (.bipush 8, 2) := by decide +kernel
theorem dX7_token_101 : decode cX7_token 101 = .ok (.lshl, 1) := by decide +kernel
theorem dX7_token_102 : decode cX7_token 102 = .ok (.aload_n 0, 1) := by decide +kernel
theorem dX7_token_103 : decode cX7_token 103 = .ok (.invokevirtual 70, 3) := by decide +kernel
theorem dX7_token_106 : decode cX7_token 106 = .ok (.i2l, 1) := by decide +kernel
theorem dX7_token_107 : decode cX7_token 107 = .ok (.lor, 1) := by decide +kernel
theorem dX7_token_108 : decode cX7_token 108 = .ok (.putfield 77, 3) := by decide +kernel
theorem dX7_token_111 : decode cX7_token 111 = .ok (.aload_n 0, 1) := by decide +kernel
theorem dX7_token_112 : decode cX7_token 112 = .ok (.dup, 1) := by decide +kernel
theorem dX7_token_113 : decode cX7_token 113 = .ok (.getfield 64, 3) := by decide +kernel
theorem dX7_token_116 : decode cX7_token 116 = .ok (.iconst 1, 1) := by decide +kernel
theorem dX7_token_117 : decode cX7_token 117 = .ok (.iadd, 1) := by decide +kernel
theorem dX7_token_118 : decode cX7_token 118 = .ok (.putfield 64, 3) := by decide +kernel
theorem dX7_token_121 : decode cX7_token 121 = .ok (.iinc 2 1, 3) := by decide +kernel
theorem dX7_token_124 : decode cX7_token 124 = .ok (.goto (-47), 3) := by decide +kernel
theorem dX7_token_127 : decode cX7_token 127 = .ok (.aload_n 0, 1) := by decide +kernel
theorem dX7_token_128 : decode cX7_token 128 = .ok (.iload_n 2, 1) := by decide +kernel
theorem dX7_token_129 : decode cX7_token 129 = .ok (.bipush 8, 2) := by decide +kernel
theorem dX7_token_131 : decode cX7_token 131 = .ok (.if_icmp .le 7, 3) := by decide +kernel
theorem dX7_token_134 : decode cX7_token 134 = .ok (.lconst 0, 1) := by decide +kernel
theorem dX7_token_135 : decode cX7_token 135 = .ok (.goto 7, 3) := by decide +kernel
theorem dX7_token_138 : decode cX7_token 138 = .ok (.aload_n 0, 1) := by decide +kernel
theorem dX7_token_139 : decode cX7_token 139 = .ok (.getfield 77, 3) := by decide +kernel
theorem dX7_token_142 : decode cX7_token 142 = .ok (.putfield 77, 3) := by decide +kernel
theorem dX7_token_145 : decode cX7_token 145 = .ok (.aload_n 0, 1) := by decide +kernel
theorem dX7_token_146 : decode cX7_token 146 = .ok (.iconst 2, 1) := by decide +kernel
theorem dX7_token_147 : decode cX7_token 147 = .ok (.putfield 81, 3) := by decide +kernel
theorem dX7_token_150 : decode cX7_token 150 = .ok (.goto 133, 3) := by decide +kernel
theorem dX7_token_153 : decode cX7_token 153 = .ok (.iload_n 1, 1) := by decide +kernel
theorem dX7_token_154 : decode cX7_token 154 = .ok (.i2l, 1) := by decide +kernel
theorem dX7_token_155 : decode cX7_token 155 = .ok (.ldc2_w 92, 3) := by decide +kernel
theorem dX7_token_158 : decode cX7_token 158 = .ok (.ldc2_w 94, 3) := by decide +kernel
theorem dX7_token_161 : decode cX7_token 161 = .ok (.invokestatic 88, 3) := by decide +kernel
theorem dX7_token_164 : decode cX7_token 164 = .ok (.ifCond .eq 94, 3) := by decide +kernel
theorem dX7_token_167 : decode cX7_token 167 = .ok (.aload_n 0, 1) := by decide +kernel
theorem dX7_token_168 : decode cX7_token 168 = .ok (.lconst 0, 1) := by decide +kernel
theorem dX7_token_169 : decode cX7_token 169 = .ok (.putfield 96, 3) := by decide +kernel
theorem dX7_token_172 : decode cX7_token 172 = .ok (.aload_n 0, 1) := by decide +kernel
theorem dX7_token_173 : decode cX7_token 173 = .ok (.invokevirtual 70, 3) := by decide +kernel
theorem dX7_token_176 : decode cX7_token 176 = .ok (.i2l, 1) := by decide +kernel
theorem dX7_token_177 : decode cX7_token 177 = .ok (.ldc2_w 92, 3) := by decide +kernel
theorem dX7_token_180 : decode cX7_token 180 = .ok (.ldc2_w 94, 3) := by decide +kernel
theorem dX7_token_183 : decode cX7_token 183 = .ok (.invokestatic 88, 3) := by decide +kernel
theorem dX7_token_186 : decode cX7_token 186 = .ok (.ifCond .eq 54, 3) := by decide +kernel
theorem dX7_token_189 : decode cX7_token 189 = .ok (.aload_n 0, 1) := by decide +kernel
theorem dX7_token_190 : decode cX7_token 190 = .ok (.iload_n 2, 1) := by decide +kernel
theorem dX7_token_191 : decode cX7_token 191 = .ok (.bipush 10, 2) := by decide +kernel
theorem dX7_token_193 : decode cX7_token 193 = .ok (.if_icmp .ge 24, 3) := by decide +kernel
theorem dX7_token_196 : decode cX7_token 196 = .ok (.ldc2_w 99, 3) := by decide +kernel
theorem dX7_token_199 : decode cX7_token 199 = .ok (.aload_n 0, 1) := by decide +kernel
theorem dX7_token_200 : decode cX7_token 200 = .ok (.getfield 96, 3) := by decide +kernel
theorem dX7_token_203 : decode cX7_token 203 = .ok (.lmul, 1) := by decide +kernel
theorem dX7_token_204 : decode cX7_token 204 = .ok (.aload_n 0, 1) := by decide +kernel
theorem dX7_token_205 : decode cX7_token 205 = .ok (.invokevirtual 70, 3) := by decide +kernel
theorem dX7_token_208 : decode cX7_token 208 = .ok (.i2l, 1) := by decide +kernel
theorem dX7_token_209 : decode cX7_token 209 = .ok (.ladd, 1) := by decide +kernel
theorem dX7_token_210 : decode cX7_token 210 = .ok (.ldc2_w 92, 3) := by decide +kernel
theorem dX7_token_213 : decode cX7_token 213 = .ok (.lsub, 1) := by decide +kernel
theorem dX7_token_214 : decode cX7_token 214 = .ok (.goto 7, 3) := by decide +kernel
theorem dX7_token_217 : decode cX7_token 217 = .ok (.aload_n 0, 1) := by decide +kernel
theorem dX7_token_218 : decode cX7_token 218 = .ok (.getfield 96, 3) := by decide +kernel
theorem dX7_token_221 : decode cX7_token 221 = .ok (.putfield 96, 3) := by decide +kernel
theorem dX7_token_224 : decode cX7_token 224 = .ok (.aload_n 0, 1) := by decide +kernel
theorem dX7_token_225 : decode cX7_token 225 = .ok (.dup, 1) := by decide +kernel
theorem dX7_token_226 : decode cX7_token 226 = .ok (.getfield 64, 3) := by decide +kernel
theorem dX7_token_229 : decode cX7_token 229 = .ok (.iconst 1, 1) := by decide +kernel
theorem dX7_token_230 : decode cX7_token 230 = .ok (.iadd, 1) := by decide +kernel
theorem dX7_token_231 : decode cX7_token 231 = .ok (.putfield 64, 3) := by decide +kernel
theorem dX7_token_234 : decode cX7_token 234 = .ok (.iinc 2 1, 3) := by decide +kernel
theorem dX7_token_237 : decode cX7_token 237 = .ok (.goto (-65), 3) := by decide +kernel
theorem dX7_token_240 : decode cX7_token 240 = .ok (.aload_n 0, 1) := by decide +kernel
theorem dX7_token_241 : decode cX7_token 241 = .ok (.iload_n 2, 1) := by decide +kernel
theorem dX7_token_242 : decode cX7_token 242 = .ok (.bipush 10, 2) := by decide +kernel
theorem dX7_token_244 : decode cX7_token 244 = .ok (.if_icmp .le 7, 3) := by decide +kernel
theorem dX7_token_247 : decode cX7_token 247 = .ok (.iconst 1, 1) := by decide +kernel
theorem dX7_token_248 : decode cX7_token 248 = .ok (.goto 4, 3) := by decide +kernel
theorem dX7_token_251 : decode cX7_token 251 = .ok (.iconst 3, 1) := by decide +kernel
theorem dX7_token_252 : decode cX7_token 252 = .ok (.putfield 81, 3) := by decide +kernel
theorem dX7_token_255 : decode cX7_token 255 = .ok (.goto 28, 3) := by decide +kernel
theorem dX7_token_258 : decode cX7_token 258 = .ok (.aload_n 0, 1) := by decide +kernel
theorem dX7_token_259 : decode cX7_token 259 = .ok (.dup, 1) := by decide +kernel
theorem dX7_token_260 : decode cX7_token 260 = .ok (.getfield 64, 3) := by decide +kernel
theorem dX7_token_263 : decode cX7_token 263 = .ok (.iconst 1, 1) := by decide +kernel
theorem dX7_token_264 : decode cX7_token 264 = .ok (.iadd, 1) := by decide +kernel
theorem dX7_token_265 : decode cX7_token 265 = .ok (.putfield 64, 3) := by decide +kernel
theorem dX7_token_268 : decode cX7_token 268 = .ok (.aload_n 0, 1) := by decide +kernel
theorem dX7_token_269 : decode cX7_token 269 = .ok (.iload_n 1, 1) := by decide +kernel
theorem dX7_token_270 : decode cX7_token 270 = .ok (.bipush 59, 2) := by decide +kernel
theorem dX7_token_272 : decode cX7_token 272 = .ok (.if_icmp .ne 7, 3) := by decide +kernel
theorem dX7_token_275 : decode cX7_token 275 = .ok (.iconst 4, 1) := by decide +kernel
theorem dX7_token_276 : decode cX7_token 276 = .ok (.goto 4, 3) := by decide +kernel
theorem dX7_token_279 : decode cX7_token 279 = .ok (.iconst 1, 1) := by decide +kernel
theorem dX7_token_280 : decode cX7_token 280 = .ok (.putfield 81, 3) := by decide +kernel
theorem dX7_token_283 : decode cX7_token 283 = .ok (.return_, 1) := by decide +kernel
theorem dX7_fails_0 : decode cX7_fails 0 = .ok (.aload_n 0, 1) := by decide +kernel
theorem dX7_fails_1 : decode cX7_fails 1 = .ok (.aload_n 0, 1) := by decide +kernel
theorem dX7_fails_2 : decode cX7_fails 2 = .ok (.getfield 74, 3) := by decide +kernel
theorem dX7_fails_5 : decode cX7_fails 5 = .ok (.putfield 101, 3) := by decide +kernel
theorem dX7_fails_8 : decode cX7_fails 8 = .ok (.iconst 0, 1) := by decide +kernel
theorem dX7_fails_9 : decode cX7_fails 9 = .ok (.ireturn, 1) := by decide +kernel
theorem dX7_isBad_0 : decode cX7_isBad 0 = .ok (.aload_n 0, 1) := by decide +kernel
theorem dX7_isBad_1 : decode cX7_isBad 1 = .ok (.getfield 104, 3) := by decide +kernel
theorem dX7_isBad_4 : decode cX7_isBad 4 = .ok (.ifCond .eq 27, 3) := by decide +kernel
theorem dX7_isBad_7 : decode cX7_isBad 7 = .ok (.iload_n 2, 1) := by decide +kernel
theorem dX7_isBad_8 : decode cX7_isBad 8 = .ok (.aload_n 0, 1) := by decide +kernel
theorem dX7_isBad_9 : decode cX7_isBad 9 = .ok (.getfield 107, 3) := by decide +kernel
theorem dX7_isBad_12 : decode cX7_isBad 12 = .ok (.if_icmp .lt 19, 3) := by decide +kernel
theorem dX7_isBad_15 : decode cX7_isBad 15 = .ok (.iload_n 2, 1) := by decide +kernel
theorem dX7_isBad_16 : decode cX7_isBad 16 = .ok (.aload_n 0, 1) := by decide +kernel
theorem dX7_isBad_17 : decode cX7_isBad 17 = .ok (.getfield 107, 3) := by decide +kernel
theorem dX7_isBad_20 : decode cX7_isBad 20 = .ok (.if_icmp .ne 21, 3) := by decide +kernel
theorem dX7_isBad_23 : decode cX7_isBad 23 = .ok (.iload_n 1, 1) := by decide +kernel
theorem dX7_isBad_24 : decode cX7_isBad 24 = .ok (.aload_n 0, 1) := by decide +kernel
theorem dX7_isBad_25 : decode cX7_isBad 25 = .ok (.getfield 104, 3) := by decide +kernel
theorem dX7_isBad_28 : decode cX7_isBad 28 = .ok (.if_icmp .ge 13, 3) := by decide +kernel
theorem dX7_isBad_31 : decode cX7_isBad 31 = .ok (.aload_n 0, 1) := by decide +kernel
theorem dX7_isBad_32 : decode cX7_isBad 32 = .ok (.iload_n 1, 1) := by decide +kernel
theorem dX7_isBad_33 : decode cX7_isBad 33 = .ok (.putfield 104, 3) := by decide +kernel
theorem dX7_isBad_36 : decode cX7_isBad 36 = .ok (.aload_n 0, 1) := by decide +kernel
theorem dX7_isBad_37 : decode cX7_isBad 37 = .ok (.iload_n 2, 1) := by decide +kernel
theorem dX7_isBad_38 : decode cX7_isBad 38 = .ok (.putfield 107, 3) := by decide +kernel
theorem dX7_isBad_41 : decode cX7_isBad 41 = .ok (.return_, 1) := by decide +kernel
set_option maxRecDepth 20000 in
theorem ggX7_takes_X7_fails : GoodIn wsX7_takes wsX7_fails := goodIn_r _ [8, 3, 9, 19, 20, 21, 22, 23, 24, 25, 26, 27, 28, 29, 30, 31, 32, 33, 34, 35, 36, 37, 38, 39, 40, 41, 42, 43, 44, 45, 46, 47, 48, 49, 50, 51, 52, 53, 54, 55, 56, 57, 58, 59] (by decide +kernel) (by decide +kernel)
set_option maxRecDepth 20000 in
theorem gX7_takes_X7_fails : GoodIn wsX7_takes (wsV RX7 110 RX7 yX7_fails wsX7_fails) := goodIn_app (goodIn_of _ (by decide +kernel)) ggX7_takes_X7_fails
set_option maxRecDepth 20000 in
theorem ggX7_takes_X7_in : GoodIn wsX7_takes wsX7_in := goodIn_r _ [12] (by decide +kernel) (by decide +kernel)
set_option maxRecDepth 20000 in
theorem gX7_takes_X7_in : GoodIn wsX7_takes (va_wsS RX7 88 yX7_in wsX7_in) := goodIn_app (goodIn_of _ (by decide +kernel)) ggX7_takes_X7_in
set_option maxRecDepth 20000 in
theorem ggX7_takes_X7_isBad : GoodIn wsX7_takes wsX7_isBad := goodIn_r _ [16, 17, 18, 19, 20, 21, 22, 23, 24, 25, 26, 27, 28, 29, 30, 31, 32, 33, 34, 35, 36, 37, 38, 39, 40, 41, 42, 43, 44, 45, 46, 47, 48, 49, 50, 51, 52, 53, 54, 55, 56, 57, 58, 59] (by decide +kernel) (by decide +kernel)
set_option maxRecDepth 20000 in
theorem gX7_takes_X7_isBad : GoodIn wsX7_takes (wsV RX7 114 RX7 yX7_isBad wsX7_isBad) := goodIn_app (goodIn_of _ (by decide +kernel)) ggX7_takes_X7_isBad
theorem dX7_takes_0 : decode cX7_takes 0 = .ok (.aload_n 0, 1) := by decide +kernel
theorem dX7_takes_1 : decode cX7_takes 1 = .ok (.getfield 81, 3) := by decide +kernel
theorem dX7_takes_4 : decode cX7_takes 4 = .ok (.iconst 3, 1) := by decide +kernel
theorem dX7_takes_5 : decode cX7_takes 5 = .ok (.if_icmp .eq 8, 3) := by decide +kernel
theorem dX7_takes_8 : decode cX7_takes 8 = .ok (.aload_n 0, 1) := by decide +kernel
theorem dX7_takes_9 : decode cX7_takes 9 = .ok (.invokevirtual 110, 3) := by decide +kernel
theorem dX7_takes_12 : decode cX7_takes 12 = .ok (.ireturn, 1) := by decide +kernel
theorem dX7_takes_13 : decode cX7_takes 13 = .ok (.aload_n 0, 1) := by decide +kernel
theorem dX7_takes_14 : decode cX7_takes 14 = .ok (.getfield 96, 3) := by decide +kernel
theorem dX7_takes_17 : decode cX7_takes 17 = .ok (.lload_n 1, 1) := by decide +kernel
theorem dX7_takes_18 : decode cX7_takes 18 = .ok (.lload_n 3, 1) := by decide +kernel
theorem dX7_takes_19 : decode cX7_takes 19 = .ok (.invokestatic 88, 3) := by decide +kernel
theorem dX7_takes_22 : decode cX7_takes 22 = .ok (.ifCond .ne 12, 3) := by decide +kernel
theorem dX7_takes_25 : decode cX7_takes 25 = .ok (.aload_n 0, 1) := by decide +kernel
theorem dX7_takes_26 : decode cX7_takes 26 = .ok (.iconst 2, 1) := by decide +kernel
theorem dX7_takes_27 : decode cX7_takes 27 = .ok (.aload_n 0, 1) := by decide +kernel
theorem dX7_takes_28 : decode cX7_takes 28 = .ok (.getfield 74, 3) := by decide +kernel
theorem dX7_takes_31 : decode cX7_takes 31 = .ok (.invokevirtual 114, 3) := by decide +kernel
theorem dX7_takes_34 : decode cX7_takes 34 = .ok (.iconst 1, 1) := by decide +kernel
theorem dX7_takes_35 : decode cX7_takes 35 = .ok (.ireturn, 1) := by decide +kernel
set_option maxRecDepth 20000 in
theorem ggX7_takesPart_X7_takes : GoodIn wsX7_takesPart wsX7_takes := goodIn_r _ [9, 10, 2, 4, 11, 12, 13, 8, 14, 15, 16, 17, 18, 19, 20, 21, 22, 23, 24, 25, 26, 27, 28, 29, 30, 31, 32, 33, 34, 35, 36, 37, 38, 39, 40, 41, 42, 43, 44, 45, 46, 47, 48, 49, 50, 51, 52, 53, 54, 55, 56, 57, 58, 59, 60, 61, 62, 63, 64, 65] (by decide +kernel) (by decide +kernel)
set_option maxRecDepth 20000 in
theorem gX7_takesPart_X7_takes : GoodIn wsX7_takesPart (wsV RX7 120 RX7 yX7_takes wsX7_takes) := goodIn_app (goodIn_of _ (by decide +kernel)) ggX7_takesPart_X7_takes
set_option maxRecDepth 20000 in
theorem ggX7_takesPart_X7_in : GoodIn wsX7_takesPart wsX7_in := goodIn_r _ [18] (by decide +kernel) (by decide +kernel)
set_option maxRecDepth 20000 in
theorem gX7_takesPart_X7_in : GoodIn wsX7_takesPart (va_wsS RX7 88 yX7_in wsX7_in) := goodIn_app (goodIn_of _ (by decide +kernel)) ggX7_takesPart_X7_in
set_option maxRecDepth 20000 in
theorem ggX7_takesPart_X7_isBad : GoodIn wsX7_takesPart wsX7_isBad := goodIn_r _ [22, 23, 24, 25, 26, 27, 28, 29, 30, 31, 32, 33, 34, 35, 36, 37, 38, 39, 40, 41, 42, 43, 44, 45, 46, 47, 48, 49, 50, 51, 52, 53, 54, 55, 56, 57, 58, 59, 60, 61, 62, 63, 64, 65] (by decide +kernel) (by decide +kernel)
set_option maxRecDepth 20000 in
theorem gX7_takesPart_X7_isBad : GoodIn wsX7_takesPart (wsV RX7 114 RX7 yX7_isBad wsX7_isBad) := goodIn_app (goodIn_of _ (by decide +kernel)) ggX7_takesPart_X7_isBad
theorem dX7_takesPart_0 : decode cX7_takesPart 0 = .ok (.aload_n 0, 1) := by decide +kernel
theorem dX7_takesPart_1 : decode cX7_takesPart 1 = .ok (.lconst 1, 1) := by decide +kernel
theorem dX7_takesPart_2 : decode cX7_takesPart 2 = .ok (.ldc2_w 118, 3) := by decide +kernel
theorem dX7_takesPart_5 : decode cX7_takesPart 5 = .ok (.invokevirtual 120, 3) := by decide +kernel
theorem dX7_takesPart_8 : decode cX7_takesPart 8 = .ok (.ifCond .ne 5, 3) := by decide +kernel
theorem dX7_takesPart_11 : decode cX7_takesPart 11 = .ok (.iconst 0, 1) := by decide +kernel
theorem dX7_takesPart_12 : decode cX7_takesPart 12 = .ok (.ireturn, 1) := by decide +kernel
theorem dX7_takesPart_13 : decode cX7_takesPart 13 = .ok (.aload_n 0, 1) := by decide +kernel
theorem dX7_takesPart_14 : decode cX7_takesPart 14 = .ok (.getfield 96, 3) := by decide +kernel
theorem dX7_takesPart_17 : decode cX7_takesPart 17 = .ok (.lconst 1, 1) := by decide +kernel
theorem dX7_takesPart_18 : decode cX7_takesPart 18 = .ok (.ldc2_w 118, 3) := by decide +kernel
theorem dX7_takesPart_21 : decode cX7_takesPart 21 = .ok (.invokestatic 88, 3) := by decide +kernel
theorem dX7_takesPart_24 : decode cX7_takesPart 24 = .ok (.ifCond .eq 25, 3) := by decide +kernel
theorem dX7_takesPart_27 : decode cX7_takesPart 27 = .ok (.lload_n 1, 1) := by decide +kernel
theorem dX7_takesPart_28 : decode cX7_takesPart 28 = .ok (.aload_n 0, 1) := by decide +kernel
theorem dX7_takesPart_29 : decode cX7_takesPart 29 = .ok (.getfield 96, 3) := by decide +kernel
theorem dX7_takesPart_32 : decode cX7_takesPart 32 = .ok (.ladd, 1) := by decide +kernel
theorem dX7_takesPart_33 : decode cX7_takesPart 33 = .ok (.ldc2_w 124, 3) := by decide +kernel
theorem dX7_takesPart_36 : decode cX7_takesPart 36 = .ok (.lcmp, 1) := by decide +kernel
theorem dX7_takesPart_37 : decode cX7_takesPart 37 = .ok (.ifCond .le 12, 3) := by decide +kernel
theorem dX7_takesPart_40 : decode cX7_takesPart 40 = .ok (.aload_n 0, 1) := by decide +kernel
theorem dX7_takesPart_41 : decode cX7_takesPart 41 = .ok (.iconst 4, 1) := by decide +kernel
theorem dX7_takesPart_42 : decode cX7_takesPart 42 = .ok (.aload_n 0, 1) := by decide +kernel
theorem dX7_takesPart_43 : decode cX7_takesPart 43 = .ok (.getfield 74, 3) := by decide +kernel
theorem dX7_takesPart_46 : decode cX7_takesPart 46 = .ok (.invokevirtual 114, 3) := by decide +kernel
theorem dX7_takesPart_49 : decode cX7_takesPart 49 = .ok (.iconst 1, 1) := by decide +kernel
theorem dX7_takesPart_50 : decode cX7_takesPart 50 = .ok (.ireturn, 1) := by decide +kernel
set_option maxRecDepth 20000 in
theorem ggX7_itemLine_X7_isBad : GoodIn wsX7_itemLine wsX7_isBad := goodIn_r _ [11, 12, 13, 49, 50, 51, 52, 53, 54, 55, 56, 57, 58, 59, 60, 61, 62, 63, 64, 65, 66, 67, 68, 69, 70, 71, 72, 73, 74, 75, 76, 77, 78, 79, 80, 81, 82, 83, 84, 85, 86, 87, 88, 89] (by decide +kernel) (by decide +kernel)
set_option maxRecDepth 20000 in
theorem gX7_itemLine_X7_isBad : GoodIn wsX7_itemLine (wsV RX7 114 RX7 yX7_isBad wsX7_isBad) := goodIn_app (goodIn_of _ (by decide +kernel)) ggX7_itemLine_X7_isBad
set_option maxRecDepth 20000 in
theorem ggX7_itemLine_X7_token : GoodIn wsX7_itemLine wsX7_token := goodIn_r _ [17, 18, 2, 19, 20, 21, 22, 23, 24, 4, 25, 26, 27, 28, 10, 29, 30, 31, 32, 33, 34, 49, 50, 51, 52, 53, 54, 55, 56, 57, 58, 59, 60, 61, 62, 63, 64, 65, 66, 67, 68, 69, 70, 71, 72, 73, 74, 75, 76, 77, 78, 79, 80, 81, 82, 83, 84, 85, 86, 87, 88, 89] (by decide +kernel) (by decide +kernel)
set_option maxRecDepth 20000 in
theorem gX7_itemLine_X7_token : GoodIn wsX7_itemLine (wsV RX7 126 RX7 yX7_token wsX7_token) := goodIn_app (goodIn_of _ (by decide +kernel)) ggX7_itemLine_X7_token
set_option maxRecDepth 20000 in
theorem ggX7_itemLine_X7_takesPart : GoodIn wsX7_itemLine wsX7_takesPart := goodIn_r _ [38, 5, 4, 39, 2, 40, 41, 42, 10, 43, 20, 44, 45, 46, 47, 48, 32, 33, 34, 7, 8, 9, 11, 12, 13, 49, 50, 51, 52, 53, 54, 55, 56, 57, 58, 59, 60, 61, 62, 63, 64, 65, 66, 67, 68, 69, 70, 71, 72, 73, 74, 75, 76, 77, 78, 79, 80, 81, 82, 83, 84, 85, 86, 87, 88, 89] (by decide +kernel) (by decide +kernel)
set_option maxRecDepth 20000 in
theorem gX7_itemLine_X7_takesPart : GoodIn wsX7_itemLine (wsV RX7 132 RX7 yX7_takesPart wsX7_takesPart) := goodIn_app (goodIn_of _ (by decide +kernel)) ggX7_itemLine_X7_takesPart
set_option maxRecDepth 20000 in
theorem ggX7_itemLine_X7_in : GoodIn wsX7_itemLine wsX7_in := goodIn_r _ [34] (by decide +kernel) (by decide +kernel)
set_option maxRecDepth 20000 in
theorem gX7_itemLine_X7_in : GoodIn wsX7_itemLine (va_wsS RX7 88 yX7_in wsX7_in) := goodIn_app (goodIn_of _ (by decide +kernel)) ggX7_itemLine_X7_in
theorem dX7_itemLine_0 : decode cX7_itemLine 0 = .ok (.aload_n 0, 1) := by decide +kernel
theorem dX7_itemLine_1 : decode cX7_itemLine 1 = .ok (.getfield 24, 3) := by decide +kernel
theorem dX7_itemLine_4 : decode cX7_itemLine 4 = .ok (.iconst 0, 1) := by decide +kernel
theorem dX7_itemLine_5 : decode cX7_itemLine 5 = .ok (.iaload, 1) := by decide +kernel
theorem dX7_itemLine_6 : decode cX7_itemLine 6 = .ok (.bipush 60, 2) := by decide +kernel
theorem dX7_itemLine_8 : decode cX7_itemLine 8 = .ok (.if_icmp .ge 7, 3) := by decide +kernel
theorem dX7_itemLine_11 : decode cX7_itemLine 11 = .ok (.iconst 1, 1) := by decide +kernel
theorem dX7_itemLine_12 : decode cX7_itemLine 12 = .ok (.goto 4, 3) := by decide +kernel
theorem dX7_itemLine_15 : decode cX7_itemLine 15 = .ok (.iconst 0, 1) := by decide +kernel
theorem dX7_itemLine_16 : decode cX7_itemLine 16 = .ok (.istore_n 1, 1) := by decide +kernel
theorem dX7_itemLine_17 : decode cX7_itemLine 17 = .ok (.iload_n 1, 1) := by decide +kernel
theorem dX7_itemLine_18 : decode cX7_itemLine 18 = .ok (.ifCond .ne 12, 3) := by decide +kernel
theorem dX7_itemLine_21 : decode cX7_itemLine 21 = .ok (.aload_n 0, 1) := by decide +kernel
theorem dX7_itemLine_22 : decode cX7_itemLine 22 = .ok (.iconst 3, 1) := by decide +kernel
theorem dX7_itemLine_23 : decode cX7_itemLine 23 = .ok (.aload_n 0, 1) := by decide +kernel
theorem dX7_itemLine_24 : decode cX7_itemLine 24 = .ok (.getfield 74, 3) := by decide +kernel
theorem dX7_itemLine_27 : decode cX7_itemLine 27 = .ok (.invokevirtual 114, 3) := by decide +kernel
theorem dX7_itemLine_30 : decode cX7_itemLine 30 = .ok (.aload_n 0, 1) := by decide +kernel
theorem dX7_itemLine_31 : decode cX7_itemLine 31 = .ok (.invokevirtual 126, 3) := by decide +kernel
theorem dX7_itemLine_34 : decode cX7_itemLine 34 = .ok (.aload_n 0, 1) := by decide +kernel
theorem dX7_itemLine_35 : decode cX7_itemLine 35 = .ok (.aload_n 0, 1) := by decide +kernel
theorem dX7_itemLine_36 : decode cX7_itemLine 36 = .ok (.getfield 129, 3) := by decide +kernel
theorem dX7_itemLine_39 : decode cX7_itemLine 39 = .ok (.invokevirtual 132, 3) := by decide +kernel
theorem dX7_itemLine_42 : decode cX7_itemLine 42 = .ok (.ifCond .ne 5, 3) := by decide +kernel
theorem dX7_itemLine_45 : decode cX7_itemLine 45 = .ok (.iconst 0, 1) := by decide +kernel
theorem dX7_itemLine_46 : decode cX7_itemLine 46 = .ok (.ireturn, 1) := by decide +kernel
theorem dX7_itemLine_47 : decode cX7_itemLine 47 = .ok (.aload_n 0, 1) := by decide +kernel
theorem dX7_itemLine_48 : decode cX7_itemLine 48 = .ok (.getfield 96, 3) := by decide +kernel
theorem dX7_itemLine_51 : decode cX7_itemLine 51 = .ok (.lconst 1, 1) := by decide +kernel
theorem dX7_itemLine_52 : decode cX7_itemLine 52 = .ok (.ldc2_w 118, 3) := by decide +kernel
theorem dX7_itemLine_55 : decode cX7_itemLine 55 = .ok (.invokestatic 88, 3) := by decide +kernel
theorem dX7_itemLine_58 : decode cX7_itemLine 58 = .ok (.ifCond .eq 10, 3) := by decide +kernel
theorem dX7_itemLine_61 : decode cX7_itemLine 61 = .ok (.aload_n 0, 1) := by decide +kernel
theorem dX7_itemLine_62 : decode cX7_itemLine 62 = .ok (.getfield 96, 3) := by decide +kernel
theorem dX7_itemLine_65 : decode cX7_itemLine 65 = .ok (.goto 4, 3) := by decide +kernel
theorem dX7_itemLine_68 : decode cX7_itemLine 68 = .ok (.lconst 0, 1) := by decide +kernel
theorem dX7_itemLine_69 : decode cX7_itemLine 69 = .ok (.lstore_n 2, 1) := by decide +kernel
theorem dX7_itemLine_70 : decode cX7_itemLine 70 = .ok (.aload_n 0, 1) := by decide +kernel
theorem dX7_itemLine_71 : decode cX7_itemLine 71 = .ok (.invokevirtual 126, 3) := by decide +kernel
theorem dX7_itemLine_74 : decode cX7_itemLine 74 = .ok (.aload_n 0, 1) := by decide +kernel
theorem dX7_itemLine_75 : decode cX7_itemLine 75 = .ok (.aload_n 0, 1) := by decide +kernel
theorem dX7_itemLine_76 : decode cX7_itemLine 76 = .ok (.getfield 136, 3) := by decide +kernel
theorem dX7_itemLine_79 : decode cX7_itemLine 79 = .ok (.invokevirtual 132, 3) := by decide +kernel
theorem dX7_itemLine_82 : decode cX7_itemLine 82 = .ok (.ifCond .ne 5, 3) := by decide +kernel
theorem dX7_itemLine_85 : decode cX7_itemLine 85 = .ok (.iconst 0, 1) := by decide +kernel
theorem dX7_itemLine_86 : decode cX7_itemLine 86 = .ok (.ireturn, 1) := by decide +kernel
theorem dX7_itemLine_87 : decode cX7_itemLine 87 = .ok (.aload_n 0, 1) := by decide +kernel
theorem dX7_itemLine_88 : decode cX7_itemLine 88 = .ok (.getfield 96, 3) := by decide +kernel
theorem dX7_itemLine_91 : decode cX7_itemLine 91 = .ok (.lconst 1, 1) := by decide +kernel
theorem dX7_itemLine_92 : decode cX7_itemLine 92 = .ok (.ldc2_w 118, 3) := by decide +kernel
theorem dX7_itemLine_95 : decode cX7_itemLine 95 = .ok (.invokestatic 88, 3) := by decide +kernel
theorem dX7_itemLine_98 : decode cX7_itemLine 98 = .ok (.ifCond .eq 10, 3) := by decide +kernel
theorem dX7_itemLine_101 : decode cX7_itemLine 101 = .ok (.aload_n 0, 1) := by decide +kernel
theorem dX7_itemLine_102 : decode cX7_itemLine 102 = .ok (.getfield 96, 3) := by decide +kernel
theorem dX7_itemLine_105 : decode cX7_itemLine 105 = .ok (.goto 4, 3) := by decide +kernel
theorem dX7_itemLine_108 : decode cX7_itemLine 108 = .ok (.lconst 0, 1) := by decide +kernel
theorem dX7_itemLine_109 : decode cX7_itemLine 109 = .ok (.lstore 4, 2) := by decide +kernel
theorem dX7_itemLine_111 : decode cX7_itemLine 111 = .ok (.aload_n 0, 1) := by decide +kernel
theorem dX7_itemLine_112 : decode cX7_itemLine 112 = .ok (.invokevirtual 126, 3) := by decide +kernel
theorem dX7_itemLine_115 : decode cX7_itemLine 115 = .ok (.iload_n 1, 1) := by decide +kernel
theorem dX7_itemLine_116 : decode cX7_itemLine 116 = .ok (.ifCond .eq 66, 3) := by decide +kernel
theorem dX7_itemLine_119 : decode cX7_itemLine 119 = .ok (.aload_n 0, 1) := by decide +kernel
theorem dX7_itemLine_120 : decode cX7_itemLine 120 = .ok (.dup, 1) := by decide +kernel
theorem dX7_itemLine_121 : decode cX7_itemLine 121 = .ok (.getfield 129, 3) := by decide +kernel
theorem dX7_itemLine_124 : decode cX7_itemLine 124 = .ok (.lload_n 2, 1) := by decide +kernel
theorem dX7_itemLine_125 : decode cX7_itemLine 125 = .ok (.ladd, 1) := by decide +kernel
theorem dX7_itemLine_126 : decode cX7_itemLine 126 = .ok (.putfield 129, 3) := by decide +kernel
theorem dX7_itemLine_129 : decode cX7_itemLine 129 = .ok (.aload_n 0, 1) := by decide +kernel
theorem dX7_itemLine_130 : decode cX7_itemLine 130 = .ok (.dup, 1) := by decide +kernel
theorem dX7_itemLine_131 : decode cX7_itemLine 131 = .ok (.getfield 136, 3) := by decide +kernel
theorem dX7_itemLine_134 : decode cX7_itemLine 134 = .ok (.lload 4, 2) := by decide +kernel
theorem dX7_itemLine_136 : decode cX7_itemLine 136 = .ok (.ladd, 1) := by decide +kernel
theorem dX7_itemLine_137 : decode cX7_itemLine 137 = .ok (.putfield 136, 3) := by decide +kernel
theorem dX7_itemLine_140 : decode cX7_itemLine 140 = .ok (.aload_n 0, 1) := by decide +kernel
theorem dX7_itemLine_141 : decode cX7_itemLine 141 = .ok (.getfield 24, 3) := by decide +kernel
theorem dX7_itemLine_144 : decode cX7_itemLine 144 = .ok (.iconst 4, 1) := by decide +kernel
theorem dX7_itemLine_145 : decode cX7_itemLine 145 = .ok (.aload_n 0, 1) := by decide +kernel
theorem dX7_itemLine_146 : decode cX7_itemLine 146 = .ok (.getfield 24, 3) := by decide +kernel
theorem dX7_itemLine_149 : decode cX7_itemLine 149 = .ok (.iconst 0, 1) := by decide +kernel
theorem dX7_itemLine_150 : decode cX7_itemLine 150 = .ok (.iaload, 1) := by decide +kernel
theorem dX7_itemLine_151 : decode cX7_itemLine 151 = .ok (.iadd, 1) := by decide +kernel
theorem dX7_itemLine_152 : decode cX7_itemLine 152 = .ok (.lload_n 2, 1) := by decide +kernel
theorem dX7_itemLine_153 : decode cX7_itemLine 153 = .ok (.l2i, 1) := by decide +kernel
theorem dX7_itemLine_154 : decode cX7_itemLine 154 = .ok (.iastore, 1) := by decide +kernel
theorem dX7_itemLine_155 : decode cX7_itemLine 155 = .ok (.aload_n 0, 1) := by decide +kernel
theorem dX7_itemLine_156 : decode cX7_itemLine 156 = .ok (.getfield 24, 3) := by decide +kernel
theorem dX7_itemLine_159 : decode cX7_itemLine 159 = .ok (.bipush 64, 2) := by decide +kernel
theorem dX7_itemLine_161 : decode cX7_itemLine 161 = .ok (.aload_n 0, 1) := by decide +kernel
theorem dX7_itemLine_162 : decode cX7_itemLine 162 = .ok (.getfield 24, 3) := by decide +kernel
theorem dX7_itemLine_165 : decode cX7_itemLine 165 = .ok (.iconst 0, 1) := by decide +kernel
theorem dX7_itemLine_166 : decode cX7_itemLine 166 = .ok (.iaload, 1) := by decide +kernel
theorem dX7_itemLine_167 : decode cX7_itemLine 167 = .ok (.iadd, 1) := by decide +kernel
theorem dX7_itemLine_168 : decode cX7_itemLine 168 = .ok (.lload 4, 2) := by decide +kernel
theorem dX7_itemLine_170 : decode cX7_itemLine 170 = .ok (.l2i, 1) := by decide +kernel
theorem dX7_itemLine_171 : decode cX7_itemLine 171 = .ok (.iastore, 1) := by decide +kernel
theorem dX7_itemLine_172 : decode cX7_itemLine 172 = .ok (.aload_n 0, 1) := by decide +kernel
theorem dX7_itemLine_173 : decode cX7_itemLine 173 = .ok (.getfield 24, 3) := by decide +kernel
theorem dX7_itemLine_176 : decode cX7_itemLine 176 = .ok (.iconst 0, 1) := by decide +kernel
theorem dX7_itemLine_177 : decode cX7_itemLine 177 = .ok (.dup2, 1) := by decide +kernel
theorem dX7_itemLine_178 : decode cX7_itemLine 178 = .ok (.iaload, 1) := by decide +kernel
theorem dX7_itemLine_179 : decode cX7_itemLine 179 = .ok (.iconst 1, 1) := by decide +kernel
theorem dX7_itemLine_180 : decode cX7_itemLine 180 = .ok (.iadd, 1) := by decide +kernel
theorem dX7_itemLine_181 : decode cX7_itemLine 181 = .ok (.iastore, 1) := by decide +kernel
theorem dX7_itemLine_182 : decode cX7_itemLine 182 = .ok (.iconst 1, 1) := by decide +kernel
theorem dX7_itemLine_183 : decode cX7_itemLine 183 = .ok (.ireturn, 1) := by decide +kernel
set_option maxRecDepth 20000 in
theorem ggX7_line_X7_itemLine : GoodIn wsX7_line wsX7_itemLine := goodIn_r _ [15, 9, 16, 17, 10, 18, 19, 20, 21, 22, 14, 23, 24, 25, 26, 27, 28, 29, 30, 2, 1, 31, 32, 33, 34, 35, 36, 37, 38, 39, 40, 41, 42, 43, 44, 45, 46, 47, 48, 49, 50, 51, 52, 53, 54, 55, 56, 57, 58, 59, 60, 61, 62, 63, 64, 65, 66, 67, 68, 69, 70, 71, 72, 73, 74, 75, 76, 77, 78, 79, 80, 81, 82, 83, 84, 85, 86, 87, 88, 89, 90, 91, 92, 93, 94, 95, 96, 97, 98, 99] (by decide +kernel) (by decide +kernel)
set_option maxRecDepth 20000 in
theorem gX7_line_X7_itemLine : GoodIn wsX7_line (wsV RX7 141 RX7 yX7_itemLine wsX7_itemLine) := goodIn_app (goodIn_of _ (by decide +kernel)) ggX7_line_X7_itemLine
set_option maxRecDepth 20000 in
theorem ggX7_line_X7_fails : GoodIn wsX7_line wsX7_fails := goodIn_r _ [57, 16, 58, 59, 60, 61, 62, 63, 64, 65, 66, 67, 68, 69, 70, 71, 72, 73, 74, 75, 76, 77, 78, 79, 80, 81, 82, 83, 84, 85, 86, 87, 88, 89, 90, 91, 92, 93, 94, 95, 96, 97, 98, 99] (by decide +kernel) (by decide +kernel)
set_option maxRecDepth 20000 in
theorem gX7_line_X7_fails : GoodIn wsX7_line (wsV RX7 110 RX7 yX7_fails wsX7_fails) := goodIn_app (goodIn_of _ (by decide +kernel)) ggX7_line_X7_fails
set_option maxRecDepth 20000 in
theorem ggX7_line_X7_token : GoodIn wsX7_line wsX7_token := goodIn_r _ [29, 30, 16, 2, 1, 31, 32, 33, 34, 10, 35, 36, 37, 38, 14, 39, 40, 41, 42, 43, 44, 59, 60, 61, 62, 63, 64, 65, 66, 67, 68, 69, 70, 71, 72, 73, 74, 75, 76, 77, 78, 79, 80, 81, 82, 83, 84, 85, 86, 87, 88, 89, 90, 91, 92, 93, 94, 95, 96, 97, 98, 99] (by decide +kernel) (by decide +kernel)
set_option maxRecDepth 20000 in
theorem gX7_line_X7_token : GoodIn wsX7_line (wsV RX7 126 RX7 yX7_token wsX7_token) := goodIn_app (goodIn_of _ (by decide +kernel)) ggX7_line_X7_token
set_option maxRecDepth 20000 in
theorem ggX7_line_X7_takes : GoodIn wsX7_line wsX7_takes := goodIn_r _ [53, 1, 10, 16, 54, 55, 56, 14, 57, 58, 42, 43, 44, 20, 21, 22, 23, 24, 25, 59, 60, 61, 62, 63, 64, 65, 66, 67, 68, 69, 70, 71, 72, 73, 74, 75, 76, 77, 78, 79, 80, 81, 82, 83, 84, 85, 86, 87, 88, 89, 90, 91, 92, 93, 94, 95, 96, 97, 98, 99] (by decide +kernel) (by decide +kernel)
set_option maxRecDepth 20000 in
theorem gX7_line_X7_takes : GoodIn wsX7_line (wsV RX7 120 RX7 yX7_takes wsX7_takes) := goodIn_app (goodIn_of _ (by decide +kernel)) ggX7_line_X7_takes
theorem dX7_line_0 : decode cX7_line 0 = .ok (.aload_n 0, 1) := by decide +kernel
theorem dX7_line_1 : decode cX7_line 1 = .ok (.getfield 81, 3) := by decide +kernel
theorem dX7_line_4 : decode cX7_line 4 = .ok (.iconst 2, 1) := by decide +kernel
theorem dX7_line_5 : decode cX7_line 5 = .ok (.if_icmp .ne 10, 3) := by decide +kernel
theorem dX7_line_8 : decode cX7_line 8 = .ok (.aload_n 0, 1) := by decide +kernel
theorem dX7_line_9 : decode cX7_line 9 = .ok (.getfield 77, 3) := by decide +kernel
theorem dX7_line_12 : decode cX7_line 12 = .ok (.goto 4, 3) := by decide +kernel
theorem dX7_line_15 : decode cX7_line 15 = .ok (.lconst 0, 1) := by decide +kernel
theorem dX7_line_16 : decode cX7_line 16 = .ok (.lstore_n 1, 1) := by decide +kernel
theorem dX7_line_17 : decode cX7_line 17 = .ok (.lload_n 1, 1) := by decide +kernel
theorem dX7_line_18 : decode cX7_line 18 = .ok (.ldc2_w 139, 3) := by decide +kernel
theorem dX7_line_21 : decode cX7_line 21 = .ok (.lcmp, 1) := by decide +kernel
theorem dX7_line_22 : decode cX7_line 22 = .ok (.ifCond .ne 8, 3) := by decide +kernel
theorem dX7_line_25 : decode cX7_line 25 = .ok (.aload_n 0, 1) := by decide +kernel
theorem dX7_line_26 : decode cX7_line 26 = .ok (.invokevirtual 141, 3) := by decide +kernel
theorem dX7_line_29 : decode cX7_line 29 = .ok (.ireturn, 1) := by decide +kernel
theorem dX7_line_30 : decode cX7_line 30 = .ok (.lload_n 1, 1) := by decide +kernel
theorem dX7_line_31 : decode cX7_line 31 = .ok (.ldc2_w 144, 3) := by decide +kernel
theorem dX7_line_34 : decode cX7_line 34 = .ok (.lcmp, 1) := by decide +kernel
theorem dX7_line_35 : decode cX7_line 35 = .ok (.ifCond .eq 16, 3) := by decide +kernel
theorem dX7_line_38 : decode cX7_line 38 = .ok (.lload_n 1, 1) := by decide +kernel
theorem dX7_line_39 : decode cX7_line 39 = .ok (.ldc2_w 146, 3) := by decide +kernel
theorem dX7_line_42 : decode cX7_line 42 = .ok (.lcmp, 1) := by decide +kernel
theorem dX7_line_43 : decode cX7_line 43 = .ok (.ifCond .eq 8, 3) := by decide +kernel
theorem dX7_line_46 : decode cX7_line 46 = .ok (.aload_n 0, 1) := by decide +kernel
theorem dX7_line_47 : decode cX7_line 47 = .ok (.invokevirtual 110, 3) := by decide +kernel
theorem dX7_line_50 : decode cX7_line 50 = .ok (.ireturn, 1) := by decide +kernel
theorem dX7_line_51 : decode cX7_line 51 = .ok (.aload_n 0, 1) := by decide +kernel
theorem dX7_line_52 : decode cX7_line 52 = .ok (.invokevirtual 126, 3) := by decide +kernel
theorem dX7_line_55 : decode cX7_line 55 = .ok (.lload_n 1, 1) := by decide +kernel
theorem dX7_line_56 : decode cX7_line 56 = .ok (.ldc2_w 144, 3) := by decide +kernel
theorem dX7_line_59 : decode cX7_line 59 = .ok (.lcmp, 1) := by decide +kernel
theorem dX7_line_60 : decode cX7_line 60 = .ok (.ifCond .ne 17, 3) := by decide +kernel
theorem dX7_line_63 : decode cX7_line 63 = .ok (.aload_n 0, 1) := by decide +kernel
theorem dX7_line_64 : decode cX7_line 64 = .ok (.lconst 0, 1) := by decide +kernel
theorem dX7_line_65 : decode cX7_line 65 = .ok (.ldc2_w 148, 3) := by decide +kernel
theorem dX7_line_68 : decode cX7_line 68 = .ok (.invokevirtual 120, 3) := by decide +kernel
theorem dX7_line_71 : decode cX7_line 71 = .ok (.ifCond .eq 19, 3) := by decide +kernel
theorem dX7_line_74 : decode cX7_line 74 = .ok (.goto 18, 3) := by decide +kernel
theorem dX7_line_77 : decode cX7_line 77 = .ok (.aload_n 0, 1) := by decide +kernel
theorem dX7_line_78 : decode cX7_line 78 = .ok (.ldc2_w 150, 3) := by decide +kernel
theorem dX7_line_81 : decode cX7_line 81 = .ok (.ldc2_w 152, 3) := by decide +kernel
theorem dX7_line_84 : decode cX7_line 84 = .ok (.invokevirtual 120, 3) := by decide +kernel
theorem dX7_line_87 : decode cX7_line 87 = .ok (.ifCond .ne 5, 3) := by decide +kernel
theorem dX7_line_90 : decode cX7_line 90 = .ok (.iconst 0, 1) := by decide +kernel
theorem dX7_line_91 : decode cX7_line 91 = .ok (.ireturn, 1) := by decide +kernel
theorem dX7_line_92 : decode cX7_line 92 = .ok (.aload_n 0, 1) := by decide +kernel
theorem dX7_line_93 : decode cX7_line 93 = .ok (.getfield 24, 3) := by decide +kernel
theorem dX7_line_96 : decode cX7_line 96 = .ok (.lload_n 1, 1) := by decide +kernel
theorem dX7_line_97 : decode cX7_line 97 = .ok (.ldc2_w 144, 3) := by decide +kernel
theorem dX7_line_100 : decode cX7_line 100 = .ok (.lcmp, 1) := by decide +kernel
theorem dX7_line_101 : decode cX7_line 101 = .ok (.ifCond .ne 7, 3) := by decide +kernel
theorem dX7_line_104 : decode cX7_line 104 = .ok (.iconst 1, 1) := by decide +kernel
theorem dX7_line_105 : decode cX7_line 105 = .ok (.goto 4, 3) := by decide +kernel
theorem dX7_line_108 : decode cX7_line 108 = .ok (.iconst 2, 1) := by decide +kernel
theorem dX7_line_109 : decode cX7_line 109 = .ok (.aload_n 0, 1) := by decide +kernel
theorem dX7_line_110 : decode cX7_line 110 = .ok (.getfield 96, 3) := by decide +kernel
theorem dX7_line_113 : decode cX7_line 113 = .ok (.l2i, 1) := by decide +kernel
theorem dX7_line_114 : decode cX7_line 114 = .ok (.iastore, 1) := by decide +kernel
theorem dX7_line_115 : decode cX7_line 115 = .ok (.aload_n 0, 1) := by decide +kernel
theorem dX7_line_116 : decode cX7_line 116 = .ok (.invokevirtual 126, 3) := by decide +kernel
theorem dX7_line_119 : decode cX7_line 119 = .ok (.iconst 1, 1) := by decide +kernel
theorem dX7_line_120 : decode cX7_line 120 = .ok (.ireturn, 1) := by decide +kernel
set_option maxRecDepth 20000 in
theorem ggX7_read_X7_token : GoodIn wsX7_read wsX7_token := goodIn_r _ [17, 9, 18, 19, 10, 20, 21, 22, 23, 24, 25, 26, 27, 28, 16, 29, 3, 30, 31, 32, 33, 66, 67, 68, 69, 70, 71, 72, 73, 74, 75, 76, 77, 78, 79, 80, 81, 82, 83, 84, 85, 86, 87, 88, 89, 90, 91, 92, 93, 94, 95, 96, 97, 98, 99, 100, 101, 102, 103, 104, 105, 106] (by decide +kernel) (by decide +kernel)
set_option maxRecDepth 20000 in
theorem gX7_read_X7_token : GoodIn wsX7_read (wsV RX7 126 RX7 yX7_token wsX7_token) := goodIn_app (goodIn_of _ (by decide +kernel)) ggX7_read_X7_token
set_option maxRecDepth 20000 in
theorem ggX7_read_X7_line : GoodIn wsX7_read wsX7_line := goodIn_r _ [37, 10, 19, 38, 39, 40, 41, 42, 43, 4, 24, 44, 45, 46, 16, 47, 18, 5, 48, 6, 49, 50, 51, 52, 7, 8, 13, 14, 15, 17, 9, 20, 21, 22, 23, 25, 26, 27, 28, 29, 3, 30, 31, 32, 33, 53, 54, 55, 56, 57, 58, 59, 60, 61, 62, 63, 64, 65, 11, 66, 67, 68, 69, 70, 71, 72, 73, 74, 75, 76, 77, 78, 79, 80, 81, 82, 83, 84, 85, 86, 87, 88, 89, 90, 91, 92, 93, 94, 95, 96, 97, 98, 99, 100, 101, 102, 103, 104, 105, 106] (by decide +kernel) (by decide +kernel)
set_option maxRecDepth 20000 in
theorem gX7_read_X7_line : GoodIn wsX7_read (wsV RX7 154 RX7 yX7_line wsX7_line) := goodIn_app (goodIn_of _ (by decide +kernel)) ggX7_read_X7_line
set_option maxRecDepth 20000 in
theorem ggX7_read_X7_fails : GoodIn wsX7_read wsX7_fails := goodIn_r _ [65, 18, 11, 66, 67, 68, 69, 70, 71, 72, 73, 74, 75, 76, 77, 78, 79, 80, 81, 82, 83, 84, 85, 86, 87, 88, 89, 90, 91, 92, 93, 94, 95, 96, 97, 98, 99, 100, 101, 102, 103, 104, 105, 106] (by decide +kernel) (by decide +kernel)
set_option maxRecDepth 20000 in
theorem gX7_read_X7_fails : GoodIn wsX7_read (wsV RX7 110 RX7 yX7_fails wsX7_fails) := goodIn_app (goodIn_of _ (by decide +kernel)) ggX7_read_X7_fails
theorem dX7_read_0 : decode cX7_read 0 = .ok (.aload_n 0, 1) := by decide +kernel
theorem dX7_read_1 : decode cX7_read 1 = .ok (.iconst 0, 1) := by decide +kernel
theorem dX7_read_2 : decode cX7_read 2 = .ok (.putfield 58, 3) := by decide +kernel
theorem dX7_read_5 : decode cX7_read 5 = .ok (.aload_n 0, 1) := by decide +kernel
theorem dX7_read_6 : decode cX7_read 6 = .ok (.aload_n 0, 1) := by decide +kernel
theorem dX7_read_7 : decode cX7_read 7 = .ok (.getfield 7, 3) := by decide +kernel
theorem dX7_read_10 : decode cX7_read 10 = .ok (.bipush 124, 2) := by decide +kernel
theorem dX7_read_12 : decode cX7_read 12 = .ok (.iaload, 1) := by decide +kernel
theorem dX7_read_13 : decode cX7_read 13 = .ok (.putfield 67, 3) := by decide +kernel
theorem dX7_read_16 : decode cX7_read 16 = .ok (.aload_n 0, 1) := by decide +kernel
theorem dX7_read_17 : decode cX7_read 17 = .ok (.getfield 7, 3) := by decide +kernel
theorem dX7_read_20 : decode cX7_read 20 = .ok (.bipush 124, 2) := by decide +kernel
theorem dX7_read_22 : decode cX7_read 22 = .ok (.iconst 0, 1) := by decide +kernel
theorem dX7_read_23 : decode cX7_read 23 = .ok (.iastore, 1) := by decide +kernel
theorem dX7_read_24 : decode cX7_read 24 = .ok (.iconst 0, 1) := by decide +kernel
theorem dX7_read_25 : decode cX7_read 25 = .ok (.istore_n 1, 1) := by decide +kernel
theorem dX7_read_26 : decode cX7_read 26 = .ok (.iload_n 1, 1) := by decide +kernel
theorem dX7_read_27 : decode cX7_read 27 = .ok (.bipush 124, 2) := by decide +kernel
theorem dX7_read_29 : decode cX7_read 29 = .ok (.if_icmp .ge 16, 3) := by decide +kernel
theorem dX7_read_32 : decode cX7_read 32 = .ok (.aload_n 0, 1) := by decide +kernel
theorem dX7_read_33 : decode cX7_read 33 = .ok (.getfield 24, 3) := by decide +kernel
theorem dX7_read_36 : decode cX7_read 36 = .ok (.iload_n 1, 1) := by decide +kernel
theorem dX7_read_37 : decode cX7_read 37 = .ok (.iconst 0, 1) := by decide +kernel
theorem dX7_read_38 : decode cX7_read 38 = .ok (.iastore, 1) := by decide +kernel
theorem dX7_read_39 : decode cX7_read 39 = .ok (.iinc 1 1, 3) := by decide +kernel
theorem dX7_read_42 : decode cX7_read 42 = .ok (.goto (-16), 3) := by decide +kernel
theorem dX7_read_45 : decode cX7_read 45 = .ok (.aload_n 0, 1) := by decide +kernel
theorem dX7_read_46 : decode cX7_read 46 = .ok (.getfield 24, 3) := by decide +kernel
theorem dX7_read_49 : decode cX7_read 49 = .ok (.iconst 1, 1) := by decide +kernel
theorem dX7_read_50 : decode cX7_read 50 = .ok (.bipush 100, 2) := by decide +kernel
theorem dX7_read_52 : decode cX7_read 52 = .ok (.iastore, 1) := by decide +kernel
theorem dX7_read_53 : decode cX7_read 53 = .ok (.aload_n 0, 1) := by decide +kernel
theorem dX7_read_54 : decode cX7_read 54 = .ok (.getfield 24, 3) := by decide +kernel
theorem dX7_read_57 : decode cX7_read 57 = .ok (.iconst 2, 1) := by decide +kernel
theorem dX7_read_58 : decode cX7_read 58 = .ok (.sipush 400, 3) := by decide +kernel
theorem dX7_read_61 : decode cX7_read 61 = .ok (.iastore, 1) := by decide +kernel
theorem dX7_read_62 : decode cX7_read 62 = .ok (.aload_n 0, 1) := by decide +kernel
theorem dX7_read_63 : decode cX7_read 63 = .ok (.lconst 0, 1) := by decide +kernel
theorem dX7_read_64 : decode cX7_read 64 = .ok (.putfield 129, 3) := by decide +kernel
theorem dX7_read_67 : decode cX7_read 67 = .ok (.aload_n 0, 1) := by decide +kernel
theorem dX7_read_68 : decode cX7_read 68 = .ok (.lconst 0, 1) := by decide +kernel
theorem dX7_read_69 : decode cX7_read 69 = .ok (.putfield 136, 3) := by decide +kernel
theorem dX7_read_72 : decode cX7_read 72 = .ok (.aload_n 0, 1) := by decide +kernel
theorem dX7_read_73 : decode cX7_read 73 = .ok (.iconst 0, 1) := by decide +kernel
theorem dX7_read_74 : decode cX7_read 74 = .ok (.putfield 104, 3) := by decide +kernel
theorem dX7_read_77 : decode cX7_read 77 = .ok (.aload_n 0, 1) := by decide +kernel
theorem dX7_read_78 : decode cX7_read 78 = .ok (.iconst (-1), 1) := by decide +kernel
theorem dX7_read_79 : decode cX7_read 79 = .ok (.putfield 107, 3) := by decide +kernel
theorem dX7_read_82 : decode cX7_read 82 = .ok (.aload_n 0, 1) := by decide +kernel
theorem dX7_read_83 : decode cX7_read 83 = .ok (.iconst 0, 1) := by decide +kernel
theorem dX7_read_84 : decode cX7_read 84 = .ok (.putfield 64, 3) := by decide +kernel
theorem dX7_read_87 : decode cX7_read 87 = .ok (.aload_n 0, 1) := by decide +kernel
theorem dX7_read_88 : decode cX7_read 88 = .ok (.invokevirtual 126, 3) := by decide +kernel
theorem dX7_read_91 : decode cX7_read 91 = .ok (.iconst 1, 1) := by decide +kernel
theorem dX7_read_92 : decode cX7_read 92 = .ok (.istore_n 1, 1) := by decide +kernel
theorem dX7_read_93 : decode cX7_read 93 = .ok (.iload_n 1, 1) := by decide +kernel
theorem dX7_read_94 : decode cX7_read 94 = .ok (.ifCond .eq 43, 3) := by decide +kernel
theorem dX7_read_97 : decode cX7_read 97 = .ok (.aload_n 0, 1) := by decide +kernel
theorem dX7_read_98 : decode cX7_read 98 = .ok (.getfield 81, 3) := by decide +kernel
theorem dX7_read_101 : decode cX7_read 101 = .ok (.ifCond .eq 36, 3) := by decide +kernel
theorem dX7_read_104 : decode cX7_read 104 = .ok (.aload_n 0, 1) := by decide +kernel
theorem dX7_read_105 : decode cX7_read 105 = .ok (.invokevirtual 154, 3) := by decide +kernel
theorem dX7_read_108 : decode cX7_read 108 = .ok (.istore_n 1, 1) := by decide +kernel
theorem dX7_read_109 : decode cX7_read 109 = .ok (.iload_n 1, 1) := by decide +kernel
theorem dX7_read_110 : decode cX7_read 110 = .ok (.ifCond .eq 16, 3) := by decide +kernel
theorem dX7_read_113 : decode cX7_read 113 = .ok (.aload_n 0, 1) := by decide +kernel
theorem dX7_read_114 : decode cX7_read 114 = .ok (.getfield 81, 3) := by decide +kernel
theorem dX7_read_117 : decode cX7_read 117 = .ok (.iconst 4, 1) := by decide +kernel
theorem dX7_read_118 : decode cX7_read 118 = .ok (.if_icmp .eq 8, 3) := by decide +kernel
theorem dX7_read_121 : decode cX7_read 121 = .ok (.aload_n 0, 1) := by decide +kernel
theorem dX7_read_122 : decode cX7_read 122 = .ok (.invokevirtual 110, 3) := by decide +kernel
theorem dX7_read_125 : decode cX7_read 125 = .ok (.istore_n 1, 1) := by decide +kernel
theorem dX7_read_126 : decode cX7_read 126 = .ok (.iload_n 1, 1) := by decide +kernel
theorem dX7_read_127 : decode cX7_read 127 = .ok (.ifCond .eq (-34), 3) := by decide +kernel
theorem dX7_read_130 : decode cX7_read 130 = .ok (.aload_n 0, 1) := by decide +kernel
theorem dX7_read_131 : decode cX7_read 131 = .ok (.invokevirtual 126, 3) := by decide +kernel
theorem dX7_read_134 : decode cX7_read 134 = .ok (.goto (-41), 3) := by decide +kernel
theorem dX7_read_137 : decode cX7_read 137 = .ok (.aload_n 0, 1) := by decide +kernel
theorem dX7_read_138 : decode cX7_read 138 = .ok (.getfield 7, 3) := by decide +kernel
theorem dX7_read_141 : decode cX7_read 141 = .ok (.bipush 125, 2) := by decide +kernel
theorem dX7_read_143 : decode cX7_read 143 = .ok (.iload_n 1, 1) := by decide +kernel
theorem dX7_read_144 : decode cX7_read 144 = .ok (.ifCond .eq 10, 3) := by decide +kernel
theorem dX7_read_147 : decode cX7_read 147 = .ok (.aload_n 0, 1) := by decide +kernel
theorem dX7_read_148 : decode cX7_read 148 = .ok (.getfield 104, 3) := by decide +kernel
theorem dX7_read_151 : decode cX7_read 151 = .ok (.goto 4, 3) := by decide +kernel
theorem dX7_read_154 : decode cX7_read 154 = .ok (.iconst 1, 1) := by decide +kernel
theorem dX7_read_155 : decode cX7_read 155 = .ok (.iastore, 1) := by decide +kernel
theorem dX7_read_156 : decode cX7_read 156 = .ok (.aload_n 0, 1) := by decide +kernel
theorem dX7_read_157 : decode cX7_read 157 = .ok (.getfield 7, 3) := by decide +kernel
theorem dX7_read_160 : decode cX7_read 160 = .ok (.bipush 126, 2) := by decide +kernel
theorem dX7_read_162 : decode cX7_read 162 = .ok (.iload_n 1, 1) := by decide +kernel
theorem dX7_read_163 : decode cX7_read 163 = .ok (.ifCond .eq 10, 3) := by decide +kernel
theorem dX7_read_166 : decode cX7_read 166 = .ok (.aload_n 0, 1) := by decide +kernel
theorem dX7_read_167 : decode cX7_read 167 = .ok (.getfield 107, 3) := by decide +kernel
theorem dX7_read_170 : decode cX7_read 170 = .ok (.goto 7, 3) := by decide +kernel
theorem dX7_read_173 : decode cX7_read 173 = .ok (.aload_n 0, 1) := by decide +kernel
theorem dX7_read_174 : decode cX7_read 174 = .ok (.getfield 101, 3) := by decide +kernel
theorem dX7_read_177 : decode cX7_read 177 = .ok (.iastore, 1) := by decide +kernel
theorem dX7_read_178 : decode cX7_read 178 = .ok (.aload_n 0, 1) := by decide +kernel
theorem dX7_read_179 : decode cX7_read 179 = .ok (.getfield 7, 3) := by decide +kernel
theorem dX7_read_182 : decode cX7_read 182 = .ok (.bipush 125, 2) := by decide +kernel
theorem dX7_read_184 : decode cX7_read 184 = .ok (.iaload, 1) := by decide +kernel
theorem dX7_read_185 : decode cX7_read 185 = .ok (.ifCond .eq 5, 3) := by decide +kernel
theorem dX7_read_188 : decode cX7_read 188 = .ok (.iconst (-1), 1) := by decide +kernel
theorem dX7_read_189 : decode cX7_read 189 = .ok (.ireturn, 1) := by decide +kernel
theorem dX7_read_190 : decode cX7_read 190 = .ok (.iconst 0, 1) := by decide +kernel
theorem dX7_read_191 : decode cX7_read 191 = .ok (.istore_n 2, 1) := by decide +kernel
theorem dX7_read_192 : decode cX7_read 192 = .ok (.iload_n 2, 1) := by decide +kernel
theorem dX7_read_193 : decode cX7_read 193 = .ok (.bipush 124, 2) := by decide +kernel
theorem dX7_read_195 : decode cX7_read 195 = .ok (.if_icmp .ge 21, 3) := by decide +kernel
theorem dX7_read_198 : decode cX7_read 198 = .ok (.aload_n 0, 1) := by decide +kernel
theorem dX7_read_199 : decode cX7_read 199 = .ok (.getfield 7, 3) := by decide +kernel
theorem dX7_read_202 : decode cX7_read 202 = .ok (.iload_n 2, 1) := by decide +kernel
theorem dX7_read_203 : decode cX7_read 203 = .ok (.aload_n 0, 1) := by decide +kernel
theorem dX7_read_204 : decode cX7_read 204 = .ok (.getfield 24, 3) := by decide +kernel
theorem dX7_read_207 : decode cX7_read 207 = .ok (.iload_n 2, 1) := by decide +kernel
theorem dX7_read_208 : decode cX7_read 208 = .ok (.iaload, 1) := by decide +kernel
theorem dX7_read_209 : decode cX7_read 209 = .ok (.iastore, 1) := by decide +kernel
theorem dX7_read_210 : decode cX7_read 210 = .ok (.iinc 2 1, 3) := by decide +kernel
theorem dX7_read_213 : decode cX7_read 213 = .ok (.goto (-21), 3) := by decide +kernel
theorem dX7_read_216 : decode cX7_read 216 = .ok (.aload_n 0, 1) := by decide +kernel
theorem dX7_read_217 : decode cX7_read 217 = .ok (.iconst 0, 1) := by decide +kernel
theorem dX7_read_218 : decode cX7_read 218 = .ok (.putfield 157, 3) := by decide +kernel
theorem dX7_read_221 : decode cX7_read 221 = .ok (.aload_n 0, 1) := by decide +kernel
theorem dX7_read_222 : decode cX7_read 222 = .ok (.getfield 7, 3) := by decide +kernel
theorem dX7_read_225 : decode cX7_read 225 = .ok (.iconst 0, 1) := by decide +kernel
theorem dX7_read_226 : decode cX7_read 226 = .ok (.iaload, 1) := by decide +kernel
theorem dX7_read_227 : decode cX7_read 227 = .ok (.ireturn, 1) := by decide +kernel
theorem dX7_fault_0 : decode cX7_fault 0 = .ok (.aload_n 0, 1) := by decide +kernel
theorem dX7_fault_1 : decode cX7_fault 1 = .ok (.iconst 0, 1) := by decide +kernel
theorem dX7_fault_2 : decode cX7_fault 2 = .ok (.putfield 58, 3) := by decide +kernel
theorem dX7_fault_5 : decode cX7_fault 5 = .ok (.iload_n 1, 1) := by decide +kernel
theorem dX7_fault_6 : decode cX7_fault 6 = .ok (.ifCond .eq 13, 3) := by decide +kernel
theorem dX7_fault_9 : decode cX7_fault 9 = .ok (.aload_n 0, 1) := by decide +kernel
theorem dX7_fault_10 : decode cX7_fault 10 = .ok (.getfield 7, 3) := by decide +kernel
theorem dX7_fault_13 : decode cX7_fault 13 = .ok (.bipush 126, 2) := by decide +kernel
theorem dX7_fault_15 : decode cX7_fault 15 = .ok (.iaload, 1) := by decide +kernel
theorem dX7_fault_16 : decode cX7_fault 16 = .ok (.goto 10, 3) := by decide +kernel
theorem dX7_fault_19 : decode cX7_fault 19 = .ok (.aload_n 0, 1) := by decide +kernel
theorem dX7_fault_20 : decode cX7_fault 20 = .ok (.getfield 7, 3) := by decide +kernel
theorem dX7_fault_23 : decode cX7_fault 23 = .ok (.bipush 125, 2) := by decide +kernel
theorem dX7_fault_25 : decode cX7_fault 25 = .ok (.iaload, 1) := by decide +kernel
theorem dX7_fault_26 : decode cX7_fault 26 = .ok (.ireturn, 1) := by decide +kernel
theorem dX7_isAhead_0 : decode cX7_isAhead 0 = .ok (.aload_n 0, 1) := by decide +kernel
theorem dX7_isAhead_1 : decode cX7_isAhead 1 = .ok (.getfield 7, 3) := by decide +kernel
theorem dX7_isAhead_4 : decode cX7_isAhead 4 = .ok (.bipush 64, 2) := by decide +kernel
theorem dX7_isAhead_6 : decode cX7_isAhead 6 = .ok (.iload_n 1, 1) := by decide +kernel
theorem dX7_isAhead_7 : decode cX7_isAhead 7 = .ok (.iadd, 1) := by decide +kernel
theorem dX7_isAhead_8 : decode cX7_isAhead 8 = .ok (.iaload, 1) := by decide +kernel
theorem dX7_isAhead_9 : decode cX7_isAhead 9 = .ok (.i2l, 1) := by decide +kernel
theorem dX7_isAhead_10 : decode cX7_isAhead 10 = .ok (.aload_n 0, 1) := by decide +kernel
theorem dX7_isAhead_11 : decode cX7_isAhead 11 = .ok (.getfield 7, 3) := by decide +kernel
theorem dX7_isAhead_14 : decode cX7_isAhead 14 = .ok (.iconst 4, 1) := by decide +kernel
theorem dX7_isAhead_15 : decode cX7_isAhead 15 = .ok (.iload_n 2, 1) := by decide +kernel
theorem dX7_isAhead_16 : decode cX7_isAhead 16 = .ok (.iadd, 1) := by decide +kernel
theorem dX7_isAhead_17 : decode cX7_isAhead 17 = .ok (.iaload, 1) := by decide +kernel
theorem dX7_isAhead_18 : decode cX7_isAhead 18 = .ok (.i2l, 1) := by decide +kernel
theorem dX7_isAhead_19 : decode cX7_isAhead 19 = .ok (.lmul, 1) := by decide +kernel
theorem dX7_isAhead_20 : decode cX7_isAhead 20 = .ok (.lstore_n 3, 1) := by decide +kernel
theorem dX7_isAhead_21 : decode cX7_isAhead 21 = .ok (.aload_n 0, 1) := by decide +kernel
theorem dX7_isAhead_22 : decode cX7_isAhead 22 = .ok (.getfield 7, 3) := by decide +kernel
theorem dX7_isAhead_25 : decode cX7_isAhead 25 = .ok (.bipush 64, 2) := by decide +kernel
theorem dX7_isAhead_27 : decode cX7_isAhead 27 = .ok (.iload_n 2, 1) := by decide +kernel
theorem dX7_isAhead_28 : decode cX7_isAhead 28 = .ok (.iadd, 1) := by decide +kernel
theorem dX7_isAhead_29 : decode cX7_isAhead 29 = .ok (.iaload, 1) := by decide +kernel
theorem dX7_isAhead_30 : decode cX7_isAhead 30 = .ok (.i2l, 1) := by decide +kernel
theorem dX7_isAhead_31 : decode cX7_isAhead 31 = .ok (.aload_n 0, 1) := by decide +kernel
theorem dX7_isAhead_32 : decode cX7_isAhead 32 = .ok (.getfield 7, 3) := by decide +kernel
theorem dX7_isAhead_35 : decode cX7_isAhead 35 = .ok (.iconst 4, 1) := by decide +kernel
theorem dX7_isAhead_36 : decode cX7_isAhead 36 = .ok (.iload_n 1, 1) := by decide +kernel
theorem dX7_isAhead_37 : decode cX7_isAhead 37 = .ok (.iadd, 1) := by decide +kernel
theorem dX7_isAhead_38 : decode cX7_isAhead 38 = .ok (.iaload, 1) := by decide +kernel
theorem dX7_isAhead_39 : decode cX7_isAhead 39 = .ok (.i2l, 1) := by decide +kernel
theorem dX7_isAhead_40 : decode cX7_isAhead 40 = .ok (.lmul, 1) := by decide +kernel
theorem dX7_isAhead_41 : decode cX7_isAhead 41 = .ok (.lstore 5, 2) := by decide +kernel
theorem dX7_isAhead_43 : decode cX7_isAhead 43 = .ok (.lload_n 3, 1) := by decide +kernel
theorem dX7_isAhead_44 : decode cX7_isAhead 44 = .ok (.lload 5, 2) := by decide +kernel
theorem dX7_isAhead_46 : decode cX7_isAhead 46 = .ok (.lcmp, 1) := by decide +kernel
theorem dX7_isAhead_47 : decode cX7_isAhead 47 = .ok (.ifCond .eq 18, 3) := by decide +kernel
theorem dX7_isAhead_50 : decode cX7_isAhead 50 = .ok (.lload_n 3, 1) := by decide +kernel
theorem dX7_isAhead_51 : decode cX7_isAhead 51 = .ok (.lload 5, 2) := by decide +kernel
theorem dX7_isAhead_53 : decode cX7_isAhead 53 = .ok (.lcmp, 1) := by decide +kernel
theorem dX7_isAhead_54 : decode cX7_isAhead 54 = .ok (.ifCond .le 7, 3) := by decide +kernel
theorem dX7_isAhead_57 : decode cX7_isAhead 57 = .ok (.iconst 1, 1) := by decide +kernel
theorem dX7_isAhead_58 : decode cX7_isAhead 58 = .ok (.goto 17, 3) := by decide +kernel
theorem dX7_isAhead_61 : decode cX7_isAhead 61 = .ok (.iconst 0, 1) := by decide +kernel
theorem dX7_isAhead_62 : decode cX7_isAhead 62 = .ok (.goto 13, 3) := by decide +kernel
theorem dX7_isAhead_65 : decode cX7_isAhead 65 = .ok (.iload_n 1, 1) := by decide +kernel
theorem dX7_isAhead_66 : decode cX7_isAhead 66 = .ok (.iload_n 2, 1) := by decide +kernel
theorem dX7_isAhead_67 : decode cX7_isAhead 67 = .ok (.if_icmp .ge 7, 3) := by decide +kernel
theorem dX7_isAhead_70 : decode cX7_isAhead 70 = .ok (.iconst 1, 1) := by decide +kernel
theorem dX7_isAhead_71 : decode cX7_isAhead 71 = .ok (.goto 4, 3) := by decide +kernel
theorem dX7_isAhead_74 : decode cX7_isAhead 74 = .ok (.iconst 0, 1) := by decide +kernel
theorem dX7_isAhead_75 : decode cX7_isAhead 75 = .ok (.ireturn, 1) := by decide +kernel
set_option maxRecDepth 20000 in
theorem ggX7_orders_X7_isAhead : GoodIn wsX7_orders wsX7_isAhead := goodIn_r _ [11, 2, 12, 13, 14, 15, 16, 17, 18, 19, 20, 21, 22, 23, 24, 25, 26, 27, 28, 29, 30, 31, 32, 33, 34, 35, 36, 37, 38, 39, 40, 41, 42, 43, 44, 45, 46, 47, 48, 49, 50, 51, 52] (by decide +kernel) (by decide +kernel)
set_option maxRecDepth 20000 in
theorem gX7_orders_X7_isAhead : GoodIn wsX7_orders (wsV RX7 163 RX7 yX7_isAhead wsX7_isAhead) := goodIn_app (goodIn_of _ (by decide +kernel)) ggX7_orders_X7_isAhead
theorem dX7_orders_0 : decode cX7_orders 0 = .ok (.aload_n 0, 1) := by decide +kernel
theorem dX7_orders_1 : decode cX7_orders 1 = .ok (.iconst 0, 1) := by decide +kernel
theorem dX7_orders_2 : decode cX7_orders 2 = .ok (.putfield 160, 3) := by decide +kernel
theorem dX7_orders_5 : decode cX7_orders 5 = .ok (.iconst 0, 1) := by decide +kernel
theorem dX7_orders_6 : decode cX7_orders 6 = .ok (.istore_n 2, 1) := by decide +kernel
theorem dX7_orders_7 : decode cX7_orders 7 = .ok (.iload_n 2, 1) := by decide +kernel
theorem dX7_orders_8 : decode cX7_orders 8 = .ok (.aload_n 0, 1) := by decide +kernel
theorem dX7_orders_9 : decode cX7_orders 9 = .ok (.getfield 7, 3) := by decide +kernel
theorem dX7_orders_12 : decode cX7_orders 12 = .ok (.iconst 0, 1) := by decide +kernel
theorem dX7_orders_13 : decode cX7_orders 13 = .ok (.iaload, 1) := by decide +kernel
theorem dX7_orders_14 : decode cX7_orders 14 = .ok (.if_icmp .ge 79, 3) := by decide +kernel
theorem dX7_orders_17 : decode cX7_orders 17 = .ok (.iload_n 2, 1) := by decide +kernel
theorem dX7_orders_18 : decode cX7_orders 18 = .ok (.iload_n 1, 1) := by decide +kernel
theorem dX7_orders_19 : decode cX7_orders 19 = .ok (.if_icmp .ne 6, 3) := by decide +kernel
theorem dX7_orders_22 : decode cX7_orders 22 = .ok (.goto 65, 3) := by decide +kernel
theorem dX7_orders_25 : decode cX7_orders 25 = .ok (.aload_n 0, 1) := by decide +kernel
theorem dX7_orders_26 : decode cX7_orders 26 = .ok (.getfield 160, 3) := by decide +kernel
theorem dX7_orders_29 : decode cX7_orders 29 = .ok (.istore_n 3, 1) := by decide +kernel
theorem dX7_orders_30 : decode cX7_orders 30 = .ok (.iload_n 3, 1) := by decide +kernel
theorem dX7_orders_31 : decode cX7_orders 31 = .ok (.ifCond .le 39, 3) := by decide +kernel
theorem dX7_orders_34 : decode cX7_orders 34 = .ok (.aload_n 0, 1) := by decide +kernel
theorem dX7_orders_35 : decode cX7_orders 35 = .ok (.iload_n 2, 1) := by decide +kernel
theorem dX7_orders_36 : decode cX7_orders 36 = .ok (.aload_n 0, 1) := by decide +kernel
theorem dX7_orders_37 : decode cX7_orders 37 = .ok (.getfield 27, 3) := by decide +kernel
theorem dX7_orders_40 : decode cX7_orders 40 = .ok (.iload_n 3, 1) := by decide +kernel
theorem dX7_orders_41 : decode cX7_orders 41 = .ok (.iconst 1, 1) := by decide +kernel
theorem dX7_orders_42 : decode cX7_orders 42 = .ok (.isub, 1) := by decide +kernel
theorem dX7_orders_43 : decode cX7_orders 43 = .ok (.iaload, 1) := by decide +kernel
theorem dX7_orders_44 : decode cX7_orders 44 = .ok (.invokevirtual 163, 3) := by decide +kernel
theorem dX7_orders_47 : decode cX7_orders 47 = .ok (.ifCond .eq 23, 3) := by decide +kernel
theorem dX7_orders_50 : decode cX7_orders 50 = .ok (.aload_n 0, 1) := by decide +kernel
theorem dX7_orders_51 : decode cX7_orders 51 = .ok (.getfield 27, 3) := by decide +kernel
theorem dX7_orders_54 : decode cX7_orders 54 = .ok (.iload_n 3, 1) := by decide +kernel
theorem dX7_orders_55 : decode cX7_orders 55 = .ok (.aload_n 0, 1) := by decide +kernel
theorem dX7_orders_56 : decode cX7_orders 56 = .ok (.getfield 27, 3) := by decide +kernel
theorem dX7_orders_59 : decode cX7_orders 59 = .ok (.iload_n 3, 1) := by decide +kernel
theorem dX7_orders_60 : decode cX7_orders 60 = .ok (.iconst 1, 1) := by decide +kernel
theorem dX7_orders_61 : decode cX7_orders 61 = .ok (.isub, 1) := by decide +kernel
theorem dX7_orders_62 : decode cX7_orders 62 = .ok (.iaload, 1) := by decide +kernel
theorem dX7_orders_63 : decode cX7_orders 63 = .ok (.iastore, 1) := by decide +kernel
theorem dX7_orders_64 : decode cX7_orders 64 = .ok (.iinc 3 (-1), 3) := by decide +kernel
theorem dX7_orders_67 : decode cX7_orders 67 = .ok (.goto (-37), 3) := by decide +kernel
theorem dX7_orders_70 : decode cX7_orders 70 = .ok (.aload_n 0, 1) := by decide +kernel
theorem dX7_orders_71 : decode cX7_orders 71 = .ok (.getfield 27, 3) := by decide +kernel
theorem dX7_orders_74 : decode cX7_orders 74 = .ok (.iload_n 3, 1) := by decide +kernel
theorem dX7_orders_75 : decode cX7_orders 75 = .ok (.iload_n 2, 1) := by decide +kernel
theorem dX7_orders_76 : decode cX7_orders 76 = .ok (.iastore, 1) := by decide +kernel
theorem dX7_orders_77 : decode cX7_orders 77 = .ok (.aload_n 0, 1) := by decide +kernel
theorem dX7_orders_78 : decode cX7_orders 78 = .ok (.dup, 1) := by decide +kernel
theorem dX7_orders_79 : decode cX7_orders 79 = .ok (.getfield 160, 3) := by decide +kernel
theorem dX7_orders_82 : decode cX7_orders 82 = .ok (.iconst 1, 1) := by decide +kernel
theorem dX7_orders_83 : decode cX7_orders 83 = .ok (.iadd, 1) := by decide +kernel
theorem dX7_orders_84 : decode cX7_orders 84 = .ok (.putfield 160, 3) := by decide +kernel
theorem dX7_orders_87 : decode cX7_orders 87 = .ok (.iinc 2 1, 3) := by decide +kernel
theorem dX7_orders_90 : decode cX7_orders 90 = .ok (.goto (-83), 3) := by decide +kernel
theorem dX7_orders_93 : decode cX7_orders 93 = .ok (.iconst 0, 1) := by decide +kernel
theorem dX7_orders_94 : decode cX7_orders 94 = .ok (.istore_n 2, 1) := by decide +kernel
theorem dX7_orders_95 : decode cX7_orders 95 = .ok (.iload_n 2, 1) := by decide +kernel
theorem dX7_orders_96 : decode cX7_orders 96 = .ok (.aload_n 0, 1) := by decide +kernel
theorem dX7_orders_97 : decode cX7_orders 97 = .ok (.getfield 160, 3) := by decide +kernel
theorem dX7_orders_100 : decode cX7_orders 100 = .ok (.if_icmp .ge 62, 3) := by decide +kernel
theorem dX7_orders_103 : decode cX7_orders 103 = .ok (.aload_n 0, 1) := by decide +kernel
theorem dX7_orders_104 : decode cX7_orders 104 = .ok (.getfield 30, 3) := by decide +kernel
theorem dX7_orders_107 : decode cX7_orders 107 = .ok (.aload_n 0, 1) := by decide +kernel
theorem dX7_orders_108 : decode cX7_orders 108 = .ok (.getfield 27, 3) := by decide +kernel
theorem dX7_orders_111 : decode cX7_orders 111 = .ok (.iload_n 2, 1) := by decide +kernel
theorem dX7_orders_112 : decode cX7_orders 112 = .ok (.iaload, 1) := by decide +kernel
theorem dX7_orders_113 : decode cX7_orders 113 = .ok (.iload_n 2, 1) := by decide +kernel
theorem dX7_orders_114 : decode cX7_orders 114 = .ok (.iastore, 1) := by decide +kernel
theorem dX7_orders_115 : decode cX7_orders 115 = .ok (.aload_n 0, 1) := by decide +kernel
theorem dX7_orders_116 : decode cX7_orders 116 = .ok (.getfield 33, 3) := by decide +kernel
theorem dX7_orders_119 : decode cX7_orders 119 = .ok (.iload_n 2, 1) := by decide +kernel
theorem dX7_orders_120 : decode cX7_orders 120 = .ok (.aload_n 0, 1) := by decide +kernel
theorem dX7_orders_121 : decode cX7_orders 121 = .ok (.getfield 7, 3) := by decide +kernel
theorem dX7_orders_124 : decode cX7_orders 124 = .ok (.iconst 4, 1) := by decide +kernel
theorem dX7_orders_125 : decode cX7_orders 125 = .ok (.aload_n 0, 1) := by decide +kernel
theorem dX7_orders_126 : decode cX7_orders 126 = .ok (.getfield 27, 3) := by decide +kernel
theorem dX7_orders_129 : decode cX7_orders 129 = .ok (.iload_n 2, 1) := by decide +kernel
theorem dX7_orders_130 : decode cX7_orders 130 = .ok (.iaload, 1) := by decide +kernel
theorem dX7_orders_131 : decode cX7_orders 131 = .ok (.iadd, 1) := by decide +kernel
theorem dX7_orders_132 : decode cX7_orders 132 = .ok (.iaload, 1) := by decide +kernel
theorem dX7_orders_133 : decode cX7_orders 133 = .ok (.i2l, 1) := by decide +kernel
theorem dX7_orders_134 : decode cX7_orders 134 = .ok (.lastore, 1) := by decide +kernel
theorem dX7_orders_135 : decode cX7_orders 135 = .ok (.aload_n 0, 1) := by decide +kernel
theorem dX7_orders_136 : decode cX7_orders 136 = .ok (.getfield 37, 3) := by decide +kernel
theorem dX7_orders_139 : decode cX7_orders 139 = .ok (.iload_n 2, 1) := by decide +kernel
theorem dX7_orders_140 : decode cX7_orders 140 = .ok (.aload_n 0, 1) := by decide +kernel
theorem dX7_orders_141 : decode cX7_orders 141 = .ok (.getfield 7, 3) := by decide +kernel
theorem dX7_orders_144 : decode cX7_orders 144 = .ok (.bipush 64, 2) := by decide +kernel
theorem dX7_orders_146 : decode cX7_orders 146 = .ok (.aload_n 0, 1) := by decide +kernel
theorem dX7_orders_147 : decode cX7_orders 147 = .ok (.getfield 27, 3) := by decide +kernel
theorem dX7_orders_150 : decode cX7_orders 150 = .ok (.iload_n 2, 1) := by decide +kernel
theorem dX7_orders_151 : decode cX7_orders 151 = .ok (.iaload, 1) := by decide +kernel
theorem dX7_orders_152 : decode cX7_orders 152 = .ok (.iadd, 1) := by decide +kernel
theorem dX7_orders_153 : decode cX7_orders 153 = .ok (.iaload, 1) := by decide +kernel
theorem dX7_orders_154 : decode cX7_orders 154 = .ok (.i2l, 1) := by decide +kernel
theorem dX7_orders_155 : decode cX7_orders 155 = .ok (.lastore, 1) := by decide +kernel
theorem dX7_orders_156 : decode cX7_orders 156 = .ok (.iinc 2 1, 3) := by decide +kernel
theorem dX7_orders_159 : decode cX7_orders 159 = .ok (.goto (-64), 3) := by decide +kernel
theorem dX7_orders_162 : decode cX7_orders 162 = .ok (.return_, 1) := by decide +kernel
theorem dX7_breaks_0 : decode cX7_breaks 0 = .ok (.aload_n 0, 1) := by decide +kernel
theorem dX7_breaks_1 : decode cX7_breaks 1 = .ok (.iconst 0, 1) := by decide +kernel
theorem dX7_breaks_2 : decode cX7_breaks 2 = .ok (.putfield 167, 3) := by decide +kernel
theorem dX7_breaks_5 : decode cX7_breaks 5 = .ok (.aload_n 0, 1) := by decide +kernel
theorem dX7_breaks_6 : decode cX7_breaks 6 = .ok (.lconst 0, 1) := by decide +kernel
theorem dX7_breaks_7 : decode cX7_breaks 7 = .ok (.putfield 170, 3) := by decide +kernel
theorem dX7_breaks_10 : decode cX7_breaks 10 = .ok (.aload_n 0, 1) := by decide +kernel
theorem dX7_breaks_11 : decode cX7_breaks 11 = .ok (.lconst 0, 1) := by decide +kernel
theorem dX7_breaks_12 : decode cX7_breaks 12 = .ok (.putfield 173, 3) := by decide +kernel
theorem dX7_breaks_15 : decode cX7_breaks 15 = .ok (.aload_n 0, 1) := by decide +kernel
theorem dX7_breaks_16 : decode cX7_breaks 16 = .ok (.getfield 167, 3) := by decide +kernel
theorem dX7_breaks_19 : decode cX7_breaks 19 = .ok (.aload_n 0, 1) := by decide +kernel
theorem dX7_breaks_20 : decode cX7_breaks 20 = .ok (.getfield 160, 3) := by decide +kernel
theorem dX7_breaks_23 : decode cX7_breaks 23 = .ok (.if_icmp .ge 74, 3) := by decide +kernel
theorem dX7_breaks_26 : decode cX7_breaks 26 = .ok (.aload_n 0, 1) := by decide +kernel
theorem dX7_breaks_27 : decode cX7_breaks 27 = .ok (.getfield 170, 3) := by decide +kernel
theorem dX7_breaks_30 : decode cX7_breaks 30 = .ok (.aload_n 0, 1) := by decide +kernel
theorem dX7_breaks_31 : decode cX7_breaks 31 = .ok (.getfield 33, 3) := by decide +kernel
theorem dX7_breaks_34 : decode cX7_breaks 34 = .ok (.aload_n 0, 1) := by decide +kernel
theorem dX7_breaks_35 : decode cX7_breaks 35 = .ok (.getfield 167, 3) := by decide +kernel
theorem dX7_breaks_38 : decode cX7_breaks 38 = .ok (.laload, 1) := by decide +kernel
theorem dX7_breaks_39 : decode cX7_breaks 39 = .ok (.ladd, 1) := by decide +kernel
theorem dX7_breaks_40 : decode cX7_breaks 40 = .ok (.aload_n 0, 1) := by decide +kernel
theorem dX7_breaks_41 : decode cX7_breaks 41 = .ok (.getfield 176, 3) := by decide +kernel
theorem dX7_breaks_44 : decode cX7_breaks 44 = .ok (.lcmp, 1) := by decide +kernel
theorem dX7_breaks_45 : decode cX7_breaks 45 = .ok (.ifCond .gt 52, 3) := by decide +kernel
theorem dX7_breaks_48 : decode cX7_breaks 48 = .ok (.aload_n 0, 1) := by decide +kernel
theorem dX7_breaks_49 : decode cX7_breaks 49 = .ok (.dup, 1) := by decide +kernel
theorem dX7_breaks_50 : decode cX7_breaks 50 = .ok (.getfield 170, 3) := by decide +kernel
theorem dX7_breaks_53 : decode cX7_breaks 53 = .ok (.aload_n 0, 1) := by decide +kernel
theorem dX7_breaks_54 : decode cX7_breaks 54 = .ok (.getfield 33, 3) := by decide +kernel
theorem dX7_breaks_57 : decode cX7_breaks 57 = .ok (.aload_n 0, 1) := by decide +kernel
theorem dX7_breaks_58 : decode cX7_breaks 58 = .ok (.getfield 167, 3) := by decide +kernel
theorem dX7_breaks_61 : decode cX7_breaks 61 = .ok (.laload, 1) := by decide +kernel
theorem dX7_breaks_62 : decode cX7_breaks 62 = .ok (.ladd, 1) := by decide +kernel
theorem dX7_breaks_63 : decode cX7_breaks 63 = .ok (.putfield 170, 3) := by decide +kernel
theorem dX7_breaks_66 : decode cX7_breaks 66 = .ok (.aload_n 0, 1) := by decide +kernel
theorem dX7_breaks_67 : decode cX7_breaks 67 = .ok (.dup, 1) := by decide +kernel
theorem dX7_breaks_68 : decode cX7_breaks 68 = .ok (.getfield 173, 3) := by decide +kernel
theorem dX7_breaks_71 : decode cX7_breaks 71 = .ok (.aload_n 0, 1) := by decide +kernel
theorem dX7_breaks_72 : decode cX7_breaks 72 = .ok (.getfield 37, 3) := by decide +kernel
theorem dX7_breaks_75 : decode cX7_breaks 75 = .ok (.aload_n 0, 1) := by decide +kernel
theorem dX7_breaks_76 : decode cX7_breaks 76 = .ok (.getfield 167, 3) := by decide +kernel
theorem dX7_breaks_79 : decode cX7_breaks 79 = .ok (.laload, 1) := by decide +kernel
theorem dX7_breaks_80 : decode cX7_breaks 80 = .ok (.ladd, 1) := by decide +kernel
theorem dX7_breaks_81 : decode cX7_breaks 81 = .ok (.putfield 173, 3) := by decide +kernel
theorem dX7_breaks_84 : decode cX7_breaks 84 = .ok (.aload_n 0, 1) := by decide +kernel
theorem dX7_breaks_85 : decode cX7_breaks 85 = .ok (.dup, 1) := by decide +kernel
theorem dX7_breaks_86 : decode cX7_breaks 86 = .ok (.getfield 167, 3) := by decide +kernel
theorem dX7_breaks_89 : decode cX7_breaks 89 = .ok (.iconst 1, 1) := by decide +kernel
theorem dX7_breaks_90 : decode cX7_breaks 90 = .ok (.iadd, 1) := by decide +kernel
theorem dX7_breaks_91 : decode cX7_breaks 91 = .ok (.putfield 167, 3) := by decide +kernel
theorem dX7_breaks_94 : decode cX7_breaks 94 = .ok (.goto (-79), 3) := by decide +kernel
theorem dX7_breaks_97 : decode cX7_breaks 97 = .ok (.return_, 1) := by decide +kernel
set_option maxRecDepth 20000 in
theorem ggX7_begins_X7_orders : GoodIn wsX7_begins wsX7_orders := goodIn_r _ [19, 20, 21, 22, 23, 24, 25, 26, 27, 28, 18, 29, 34, 35, 36, 37, 38, 39, 40, 41, 42, 43, 44, 45, 46, 47, 48, 49, 50, 51, 52, 53, 54, 55, 56, 57, 58, 59, 60, 61, 62, 63, 64, 65, 66, 67, 68, 69, 70, 71, 72, 73, 74] (by decide +kernel) (by decide +kernel)
set_option maxRecDepth 20000 in
theorem gX7_begins_X7_orders : GoodIn wsX7_begins (wsV RX7 179 RX7 yX7_orders wsX7_orders) := goodIn_app (goodIn_of _ (by decide +kernel)) ggX7_begins_X7_orders
set_option maxRecDepth 20000 in
theorem ggX7_begins_X7_breaks : GoodIn wsX7_begins wsX7_breaks := goodIn_r _ [33, 2, 9, 11, 20, 24, 1, 25, 34, 35, 36, 37, 38, 39, 40, 41, 42, 43, 44, 45, 46, 47, 48, 49, 50, 51, 52, 53, 54, 55, 56, 57, 58, 59, 60, 61, 62, 63, 64, 65, 66, 67, 68, 69, 70, 71, 72, 73, 74] (by decide +kernel) (by decide +kernel)
set_option maxRecDepth 20000 in
theorem gX7_begins_X7_breaks : GoodIn wsX7_begins (wsV RX7 183 RX7 yX7_breaks wsX7_breaks) := goodIn_app (goodIn_of _ (by decide +kernel)) ggX7_begins_X7_breaks
theorem dX7_begins_0 : decode cX7_begins 0 = .ok (.aload_n 0, 1) := by decide +kernel
theorem dX7_begins_1 : decode cX7_begins 1 = .ok (.lload_n 2, 1) := by decide +kernel
theorem dX7_begins_2 : decode cX7_begins 2 = .ok (.putfield 176, 3) := by decide +kernel
theorem dX7_begins_5 : decode cX7_begins 5 = .ok (.aload_n 0, 1) := by decide +kernel
theorem dX7_begins_6 : decode cX7_begins 6 = .ok (.iload_n 1, 1) := by decide +kernel
theorem dX7_begins_7 : decode cX7_begins 7 = .ok (.invokevirtual 179, 3) := by decide +kernel
theorem dX7_begins_10 : decode cX7_begins 10 = .ok (.aload_n 0, 1) := by decide +kernel
theorem dX7_begins_11 : decode cX7_begins 11 = .ok (.invokevirtual 183, 3) := by decide +kernel
theorem dX7_begins_14 : decode cX7_begins 14 = .ok (.aload_n 0, 1) := by decide +kernel
theorem dX7_begins_15 : decode cX7_begins 15 = .ok (.aload_n 0, 1) := by decide +kernel
theorem dX7_begins_16 : decode cX7_begins 16 = .ok (.getfield 167, 3) := by decide +kernel
theorem dX7_begins_19 : decode cX7_begins 19 = .ok (.putfield 186, 3) := by decide +kernel
theorem dX7_begins_22 : decode cX7_begins 22 = .ok (.aload_n 0, 1) := by decide +kernel
theorem dX7_begins_23 : decode cX7_begins 23 = .ok (.aload_n 0, 1) := by decide +kernel
theorem dX7_begins_24 : decode cX7_begins 24 = .ok (.getfield 167, 3) := by decide +kernel
theorem dX7_begins_27 : decode cX7_begins 27 = .ok (.iconst 1, 1) := by decide +kernel
theorem dX7_begins_28 : decode cX7_begins 28 = .ok (.isub, 1) := by decide +kernel
theorem dX7_begins_29 : decode cX7_begins 29 = .ok (.putfield 189, 3) := by decide +kernel
theorem dX7_begins_32 : decode cX7_begins 32 = .ok (.aload_n 0, 1) := by decide +kernel
theorem dX7_begins_33 : decode cX7_begins 33 = .ok (.iconst 0, 1) := by decide +kernel
theorem dX7_begins_34 : decode cX7_begins 34 = .ok (.putfield 192, 3) := by decide +kernel
theorem dX7_begins_37 : decode cX7_begins 37 = .ok (.aload_n 0, 1) := by decide +kernel
theorem dX7_begins_38 : decode cX7_begins 38 = .ok (.iconst 1, 1) := by decide +kernel
theorem dX7_begins_39 : decode cX7_begins 39 = .ok (.putfield 195, 3) := by decide +kernel
theorem dX7_begins_42 : decode cX7_begins 42 = .ok (.aload_n 0, 1) := by decide +kernel
theorem dX7_begins_43 : decode cX7_begins 43 = .ok (.getfield 40, 3) := by decide +kernel
theorem dX7_begins_46 : decode cX7_begins 46 = .ok (.iconst 0, 1) := by decide +kernel
theorem dX7_begins_47 : decode cX7_begins 47 = .ok (.lconst 1, 1) := by decide +kernel
theorem dX7_begins_48 : decode cX7_begins 48 = .ok (.aload_n 0, 1) := by decide +kernel
theorem dX7_begins_49 : decode cX7_begins 49 = .ok (.getfield 167, 3) := by decide +kernel
theorem dX7_begins_52 : decode cX7_begins 52 = .ok (.lshl, 1) := by decide +kernel
theorem dX7_begins_53 : decode cX7_begins 53 = .ok (.lconst 1, 1) := by decide +kernel
theorem dX7_begins_54 : decode cX7_begins 54 = .ok (.lsub, 1) := by decide +kernel
theorem dX7_begins_55 : decode cX7_begins 55 = .ok (.lastore, 1) := by decide +kernel
theorem dX7_begins_56 : decode cX7_begins 56 = .ok (.aload_n 0, 1) := by decide +kernel
theorem dX7_begins_57 : decode cX7_begins 57 = .ok (.getfield 43, 3) := by decide +kernel
theorem dX7_begins_60 : decode cX7_begins 60 = .ok (.iconst 0, 1) := by decide +kernel
theorem dX7_begins_61 : decode cX7_begins 61 = .ok (.aload_n 0, 1) := by decide +kernel
theorem dX7_begins_62 : decode cX7_begins 62 = .ok (.getfield 170, 3) := by decide +kernel
theorem dX7_begins_65 : decode cX7_begins 65 = .ok (.lastore, 1) := by decide +kernel
theorem dX7_begins_66 : decode cX7_begins 66 = .ok (.aload_n 0, 1) := by decide +kernel
