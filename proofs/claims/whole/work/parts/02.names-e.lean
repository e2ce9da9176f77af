theorem dX4_isSteeper_72 : decode cX4_isSteeper 72 = .ok (.lload 11, 2) := by decide +kernel
theorem dX4_isSteeper_74 : decode cX4_isSteeper 74 = .ok (.lmul, 1) := by decide +kernel
theorem dX4_isSteeper_75 : decode cX4_isSteeper 75 = .ok (.lload 9, 2) := by decide +kernel
theorem dX4_isSteeper_77 : decode cX4_isSteeper 77 = .ok (.lload 7, 2) := by decide +kernel
theorem dX4_isSteeper_79 : decode cX4_isSteeper 79 = .ok (.lmul, 1) := by decide +kernel
theorem dX4_isSteeper_80 : decode cX4_isSteeper 80 = .ok (.lcmp, 1) := by decide +kernel
theorem dX4_isSteeper_81 : decode cX4_isSteeper 81 = .ok (.ifCond .le 7, 3) := by decide +kernel
theorem dX4_isSteeper_84 : decode cX4_isSteeper 84 = .ok (.iconst 1, 1) := by decide +kernel
theorem dX4_isSteeper_85 : decode cX4_isSteeper 85 = .ok (.goto 4, 3) := by decide +kernel
theorem dX4_isSteeper_88 : decode cX4_isSteeper 88 = .ok (.iconst 0, 1) := by decide +kernel
theorem dX4_isSteeper_89 : decode cX4_isSteeper 89 = .ok (.ireturn, 1) := by decide +kernel
set_option maxRecDepth 20000 in
theorem ggX5_init_X1_init : GoodIn wsX5_init wsX1_init := goodIn_r _ [16, 17, 2, 3, 10, 18, 19, 20, 21, 26, 27, 28, 29, 30, 31] (by decide +kernel) (by decide +kernel)
set_option maxRecDepth 20000 in
theorem gX5_init_X1_init : GoodIn wsX5_init (wsX1_init) := ggX5_init_X1_init
set_option maxRecDepth 20000 in
theorem ggX5_init_J7_fill_53178 : GoodIn wsX5_init wsJ7_fill_53178 := goodIn_r _ [25] (by decide +kernel) (by decide +kernel)
set_option maxRecDepth 20000 in
theorem gX5_init_J7_fill_53178 : GoodIn wsX5_init (va_wsS RX5 33 yJ7_fill_53178 wsJ7_fill_53178) := goodIn_app (goodIn_of _ (by decide +kernel)) ggX5_init_J7_fill_53178
theorem dX5_init_0 : decode cX5_init 0 = .ok (.aload_n 0, 1) := by decide +kernel
theorem dX5_init_1 : decode cX5_init 1 = .ok (.invokespecial 3, 3) := by decide +kernel
theorem dX5_init_4 : decode cX5_init 4 = .ok (.aload_n 0, 1) := by decide +kernel
theorem dX5_init_5 : decode cX5_init 5 = .ok (.new 9, 3) := by decide +kernel
theorem dX5_init_8 : decode cX5_init 8 = .ok (.dup, 1) := by decide +kernel
theorem dX5_init_9 : decode cX5_init 9 = .ok (.invokespecial 11, 3) := by decide +kernel
theorem dX5_init_12 : decode cX5_init 12 = .ok (.putfield 12, 3) := by decide +kernel
theorem dX5_init_15 : decode cX5_init 15 = .ok (.aload_n 0, 1) := by decide +kernel
theorem dX5_init_16 : decode cX5_init 16 = .ok (.sipush 600, 3) := by decide +kernel
theorem dX5_init_19 : decode cX5_init 19 = .ok (.newarray .byte, 2) := by decide +kernel
theorem dX5_init_21 : decode cX5_init 21 = .ok (.putfield 18, 3) := by decide +kernel
theorem dX5_init_24 : decode cX5_init 24 = .ok (.aload_n 0, 1) := by decide +kernel
theorem dX5_init_25 : decode cX5_init 25 = .ok (.bipush 8, 2) := by decide +kernel
theorem dX5_init_27 : decode cX5_init 27 = .ok (.newarray .int, 2) := by decide +kernel
theorem dX5_init_29 : decode cX5_init 29 = .ok (.putfield 22, 3) := by decide +kernel
theorem dX5_init_32 : decode cX5_init 32 = .ok (.aload_n 0, 1) := by decide +kernel
theorem dX5_init_33 : decode cX5_init 33 = .ok (.bipush 8, 2) := by decide +kernel
theorem dX5_init_35 : decode cX5_init 35 = .ok (.newarray .int, 2) := by decide +kernel
theorem dX5_init_37 : decode cX5_init 37 = .ok (.putfield 26, 3) := by decide +kernel
theorem dX5_init_40 : decode cX5_init 40 = .ok (.aload_n 0, 1) := by decide +kernel
theorem dX5_init_41 : decode cX5_init 41 = .ok (.iconst (-1), 1) := by decide +kernel
theorem dX5_init_42 : decode cX5_init 42 = .ok (.putfield 29, 3) := by decide +kernel
theorem dX5_init_45 : decode cX5_init 45 = .ok (.aload_n 0, 1) := by decide +kernel
theorem dX5_init_46 : decode cX5_init 46 = .ok (.getfield 22, 3) := by decide +kernel
theorem dX5_init_49 : decode cX5_init 49 = .ok (.iconst (-1), 1) := by decide +kernel
theorem dX5_init_50 : decode cX5_init 50 = .ok (.invokestatic 33, 3) := by decide +kernel
theorem dX5_init_53 : decode cX5_init 53 = .ok (.aload_n 0, 1) := by decide +kernel
theorem dX5_init_54 : decode cX5_init 54 = .ok (.getfield 26, 3) := by decide +kernel
theorem dX5_init_57 : decode cX5_init 57 = .ok (.iconst (-1), 1) := by decide +kernel
theorem dX5_init_58 : decode cX5_init 58 = .ok (.invokestatic 33, 3) := by decide +kernel
theorem dX5_init_61 : decode cX5_init 61 = .ok (.return_, 1) := by decide +kernel
set_option maxRecDepth 20000 in
theorem ggX5_copyFrom_X1_copyFrom : GoodIn wsX5_copyFrom wsX1_copyFrom := goodIn_r _ [16, 17, 18, 19, 5, 6, 7, 20, 21, 22, 23, 31, 32, 33, 34, 35, 36] (by decide +kernel) (by decide +kernel)
set_option maxRecDepth 20000 in
theorem gX5_copyFrom_X1_copyFrom : GoodIn wsX5_copyFrom (wsV RX5 39 RX1 yX1_copyFrom wsX1_copyFrom) := goodIn_app (goodIn_of _ (by decide +kernel)) ggX5_copyFrom_X1_copyFrom
theorem dX5_copyFrom_0 : decode cX5_copyFrom 0 = .ok (.aload_n 0, 1) := by decide +kernel
theorem dX5_copyFrom_1 : decode cX5_copyFrom 1 = .ok (.getfield 12, 3) := by decide +kernel
theorem dX5_copyFrom_4 : decode cX5_copyFrom 4 = .ok (.aload_n 1, 1) := by decide +kernel
theorem dX5_copyFrom_5 : decode cX5_copyFrom 5 = .ok (.getfield 12, 3) := by decide +kernel
theorem dX5_copyFrom_8 : decode cX5_copyFrom 8 = .ok (.invokevirtual 39, 3) := by decide +kernel
theorem dX5_copyFrom_11 : decode cX5_copyFrom 11 = .ok (.aload_n 1, 1) := by decide +kernel
theorem dX5_copyFrom_12 : decode cX5_copyFrom 12 = .ok (.getfield 18, 3) := by decide +kernel
theorem dX5_copyFrom_15 : decode cX5_copyFrom 15 = .ok (.iconst 0, 1) := by decide +kernel
theorem dX5_copyFrom_16 : decode cX5_copyFrom 16 = .ok (.aload_n 0, 1) := by decide +kernel
theorem dX5_copyFrom_17 : decode cX5_copyFrom 17 = .ok (.getfield 18, 3) := by decide +kernel
theorem dX5_copyFrom_20 : decode cX5_copyFrom 20 = .ok (.iconst 0, 1) := by decide +kernel
theorem dX5_copyFrom_21 : decode cX5_copyFrom 21 = .ok (.aload_n 1, 1) := by decide +kernel
theorem dX5_copyFrom_22 : decode cX5_copyFrom 22 = .ok (.getfield 43, 3) := by decide +kernel
theorem dX5_copyFrom_25 : decode cX5_copyFrom 25 = .ok (.invokestatic 46, 3) := by decide +kernel
theorem dX5_copyFrom_28 : decode cX5_copyFrom 28 = .ok (.aload_n 0, 1) := by decide +kernel
theorem dX5_copyFrom_29 : decode cX5_copyFrom 29 = .ok (.aload_n 1, 1) := by decide +kernel
theorem dX5_copyFrom_30 : decode cX5_copyFrom 30 = .ok (.getfield 43, 3) := by decide +kernel
theorem dX5_copyFrom_33 : decode cX5_copyFrom 33 = .ok (.putfield 43, 3) := by decide +kernel
theorem dX5_copyFrom_36 : decode cX5_copyFrom 36 = .ok (.aload_n 0, 1) := by decide +kernel
theorem dX5_copyFrom_37 : decode cX5_copyFrom 37 = .ok (.aload_n 1, 1) := by decide +kernel
theorem dX5_copyFrom_38 : decode cX5_copyFrom 38 = .ok (.getfield 52, 3) := by decide +kernel
theorem dX5_copyFrom_41 : decode cX5_copyFrom 41 = .ok (.putfield 52, 3) := by decide +kernel
theorem dX5_copyFrom_44 : decode cX5_copyFrom 44 = .ok (.aload_n 0, 1) := by decide +kernel
theorem dX5_copyFrom_45 : decode cX5_copyFrom 45 = .ok (.aload_n 1, 1) := by decide +kernel
theorem dX5_copyFrom_46 : decode cX5_copyFrom 46 = .ok (.getfield 29, 3) := by decide +kernel
theorem dX5_copyFrom_49 : decode cX5_copyFrom 49 = .ok (.putfield 29, 3) := by decide +kernel
theorem dX5_copyFrom_52 : decode cX5_copyFrom 52 = .ok (.aload_n 1, 1) := by decide +kernel
theorem dX5_copyFrom_53 : decode cX5_copyFrom 53 = .ok (.getfield 22, 3) := by decide +kernel
theorem dX5_copyFrom_56 : decode cX5_copyFrom 56 = .ok (.iconst 0, 1) := by decide +kernel
theorem dX5_copyFrom_57 : decode cX5_copyFrom 57 = .ok (.aload_n 0, 1) := by decide +kernel
theorem dX5_copyFrom_58 : decode cX5_copyFrom 58 = .ok (.getfield 22, 3) := by decide +kernel
theorem dX5_copyFrom_61 : decode cX5_copyFrom 61 = .ok (.iconst 0, 1) := by decide +kernel
theorem dX5_copyFrom_62 : decode cX5_copyFrom 62 = .ok (.aload_n 0, 1) := by decide +kernel
theorem dX5_copyFrom_63 : decode cX5_copyFrom 63 = .ok (.getfield 22, 3) := by decide +kernel
theorem dX5_copyFrom_66 : decode cX5_copyFrom 66 = .ok (.arraylength, 1) := by decide +kernel
theorem dX5_copyFrom_67 : decode cX5_copyFrom 67 = .ok (.invokestatic 46, 3) := by decide +kernel
theorem dX5_copyFrom_70 : decode cX5_copyFrom 70 = .ok (.aload_n 1, 1) := by decide +kernel
theorem dX5_copyFrom_71 : decode cX5_copyFrom 71 = .ok (.getfield 26, 3) := by decide +kernel
theorem dX5_copyFrom_74 : decode cX5_copyFrom 74 = .ok (.iconst 0, 1) := by decide +kernel
theorem dX5_copyFrom_75 : decode cX5_copyFrom 75 = .ok (.aload_n 0, 1) := by decide +kernel
theorem dX5_copyFrom_76 : decode cX5_copyFrom 76 = .ok (.getfield 26, 3) := by decide +kernel
theorem dX5_copyFrom_79 : decode cX5_copyFrom 79 = .ok (.iconst 0, 1) := by decide +kernel
theorem dX5_copyFrom_80 : decode cX5_copyFrom 80 = .ok (.aload_n 0, 1) := by decide +kernel
theorem dX5_copyFrom_81 : decode cX5_copyFrom 81 = .ok (.getfield 26, 3) := by decide +kernel
theorem dX5_copyFrom_84 : decode cX5_copyFrom 84 = .ok (.arraylength, 1) := by decide +kernel
theorem dX5_copyFrom_85 : decode cX5_copyFrom 85 = .ok (.invokestatic 46, 3) := by decide +kernel
theorem dX5_copyFrom_88 : decode cX5_copyFrom 88 = .ok (.return_, 1) := by decide +kernel
set_option maxRecDepth 20000 in
theorem ggX6_init_X5_init : GoodIn wsX6_init wsX5_init := goodIn_r _ [30, 31, 2, 3, 32, 11, 12, 33, 34, 35, 36, 37, 38, 39, 40, 41, 42, 43, 44, 45, 46, 47, 48, 49, 50, 51, 232, 233, 234, 235, 236, 237, 214, 215, 216, 217, 218, 219, 220] (by decide +kernel) (by decide +kernel)
set_option maxRecDepth 20000 in
theorem gX6_init_X5_init : GoodIn wsX6_init (wsX5_init) := ggX6_init_X5_init
set_option maxRecDepth 20000 in
theorem ggX6_init_X1_init : GoodIn wsX6_init wsX1_init := goodIn_r _ [42, 43, 2, 3, 36, 44, 45, 46, 47, 232, 233, 234, 235, 236, 237] (by decide +kernel) (by decide +kernel)
set_option maxRecDepth 20000 in
theorem gX6_init_X1_init : GoodIn wsX6_init (wsX1_init) := ggX6_init_X1_init
set_option maxRecDepth 20000 in
theorem ggX6_init_X0_init : GoodIn wsX6_init wsX0_init := goodIn_r _ [54, 55, 2, 3, 56, 57, 58, 59, 60, 24, 25, 61, 62, 63, 64, 65, 36, 66, 67, 68, 69, 70, 71, 72, 73, 74, 75, 76, 257, 258, 259, 260, 261, 262, 263, 264, 265, 238, 239, 240, 241, 242, 243, 244, 245, 246, 247, 253, 254, 255, 256] (by decide +kernel) (by decide +kernel)
set_option maxRecDepth 20000 in
theorem gX6_init_X0_init_n29 : GoodIn wsX6_init (wsX0_init) := ggX6_init_X0_init
set_option maxRecDepth 20000 in
theorem ggX6_init_X3_init : GoodIn wsX6_init wsX3_init := goodIn_r _ [78, 79, 2, 3, 80, 11, 12, 81, 82, 41, 42, 43, 36, 44, 45, 46, 47, 232, 233, 234, 235, 236, 237, 248, 249, 250, 251, 252] (by decide +kernel) (by decide +kernel)
set_option maxRecDepth 20000 in
theorem gX6_init_X3_init_n43 : GoodIn wsX6_init (wsX3_init) := ggX6_init_X3_init
set_option maxRecDepth 20000 in
theorem ggX6_init_X4_init : GoodIn wsX6_init wsX4_init := goodIn_r _ [71, 72, 2, 3, 36, 73, 74, 75, 76, 253, 254, 255, 256] (by decide +kernel) (by decide +kernel)
set_option maxRecDepth 20000 in
theorem gX6_init_X4_init_n50 : GoodIn wsX6_init (wsX4_init) := ggX6_init_X4_init
set_option maxRecDepth 20000 in
theorem ggX6_init_X6_makeCoreAnew : GoodIn wsX6_init wsX6_makeCoreAnew := goodIn_r _ [87, 16, 7, 88, 89, 90, 91, 92, 93, 15, 94, 59, 95, 96, 97, 98, 99, 100, 101, 102, 103, 104, 105, 61, 106, 107, 108, 109, 58, 110, 111, 112, 113, 114, 66, 67, 68, 115, 69, 116, 117, 118, 119, 12, 120, 45, 44, 121, 122, 123, 124, 125, 126, 127, 128, 129, 130, 25, 131, 132, 73, 74, 76, 133, 134, 50, 135, 136, 137, 138, 139, 140, 141, 36, 142, 143, 144, 145, 146, 147, 148, 149, 150, 151, 152, 153, 154, 155, 156, 75, 157, 158, 159, 160, 161, 162, 163, 164, 165, 62, 166, 167, 168, 169, 170, 171, 172, 173, 174, 175, 176, 177, 178, 179, 180, 181, 182, 183, 184, 185, 186, 187, 188, 189, 190, 191, 192, 193, 194, 195, 196, 197, 198, 199, 200, 201, 202, 203, 204, 205, 206, 207, 208, 209, 210, 211, 212, 213, 221, 222, 223, 224, 225, 226, 227, 228, 229, 230, 231, 214, 215, 216, 217, 218, 219, 220, 232, 233, 234, 235, 236, 237, 238, 239, 240, 241, 242, 243, 244, 245, 246, 247, 257, 258, 259, 260, 261, 262, 263, 264, 265, 253, 254, 255, 256] (by decide +kernel) (by decide +kernel)
set_option maxRecDepth 20000 in
theorem gX6_init_X6_makeCoreAnew : GoodIn wsX6_init (wsV RX6 58 RX6 yX6_makeCoreAnew wsX6_makeCoreAnew) := goodIn_app (goodIn_of _ (by decide +kernel)) ggX6_init_X6_makeCoreAnew
theorem dX6_init_0 : decode cX6_init 0 = .ok (.aload_n 0, 1) := by decide +kernel
theorem dX6_init_1 : decode cX6_init 1 = .ok (.invokespecial 1, 3) := by decide +kernel
theorem dX6_init_4 : decode cX6_init 4 = .ok (.aload_n 0, 1) := by decide +kernel
theorem dX6_init_5 : decode cX6_init 5 = .ok (.new 7, 3) := by decide +kernel
theorem dX6_init_8 : decode cX6_init 8 = .ok (.dup, 1) := by decide +kernel
theorem dX6_init_9 : decode cX6_init 9 = .ok (.invokespecial 9, 3) := by decide +kernel
theorem dX6_init_12 : decode cX6_init 12 = .ok (.putfield 10, 3) := by decide +kernel
theorem dX6_init_15 : decode cX6_init 15 = .ok (.aload_n 0, 1) := by decide +kernel
theorem dX6_init_16 : decode cX6_init 16 = .ok (.iconst 3, 1) := by decide +kernel
theorem dX6_init_17 : decode cX6_init 17 = .ok (.anewarray 7, 3) := by decide +kernel
theorem dX6_init_20 : decode cX6_init 20 = .ok (.putfield 16, 3) := by decide +kernel
theorem dX6_init_23 : decode cX6_init 23 = .ok (.aload_n 0, 1) := by decide +kernel
theorem dX6_init_24 : decode cX6_init 24 = .ok (.bipush 8, 2) := by decide +kernel
theorem dX6_init_26 : decode cX6_init 26 = .ok (.anewarray 20, 3) := by decide +kernel
theorem dX6_init_29 : decode cX6_init 29 = .ok (.putfield 22, 3) := by decide +kernel
theorem dX6_init_32 : decode cX6_init 32 = .ok (.iconst 0, 1) := by decide +kernel
theorem dX6_init_33 : decode cX6_init 33 = .ok (.istore_n 1, 1) := by decide +kernel
theorem dX6_init_34 : decode cX6_init 34 = .ok (.iload_n 1, 1) := by decide +kernel
theorem dX6_init_35 : decode cX6_init 35 = .ok (.bipush 8, 2) := by decide +kernel
theorem dX6_init_37 : decode cX6_init 37 = .ok (.if_icmp .ge 22, 3) := by decide +kernel
theorem dX6_init_40 : decode cX6_init 40 = .ok (.aload_n 0, 1) := by decide +kernel
theorem dX6_init_41 : decode cX6_init 41 = .ok (.getfield 22, 3) := by decide +kernel
theorem dX6_init_44 : decode cX6_init 44 = .ok (.iload_n 1, 1) := by decide +kernel
theorem dX6_init_45 : decode cX6_init 45 = .ok (.new 20, 3) := by decide +kernel
theorem dX6_init_48 : decode cX6_init 48 = .ok (.dup, 1) := by decide +kernel
theorem dX6_init_49 : decode cX6_init 49 = .ok (.invokespecial 26, 3) := by decide +kernel
theorem dX6_init_52 : decode cX6_init 52 = .ok (.aastore, 1) := by decide +kernel
theorem dX6_init_53 : decode cX6_init 53 = .ok (.iinc 1 1, 3) := by decide +kernel
theorem dX6_init_56 : decode cX6_init 56 = .ok (.goto (-22), 3) := by decide +kernel
theorem dX6_init_59 : decode cX6_init 59 = .ok (.aload_n 0, 1) := by decide +kernel
theorem dX6_init_60 : decode cX6_init 60 = .ok (.new 27, 3) := by decide +kernel
theorem dX6_init_63 : decode cX6_init 63 = .ok (.dup, 1) := by decide +kernel
theorem dX6_init_64 : decode cX6_init 64 = .ok (.invokespecial 29, 3) := by decide +kernel
theorem dX6_init_67 : decode cX6_init 67 = .ok (.putfield 30, 3) := by decide +kernel
theorem dX6_init_70 : decode cX6_init 70 = .ok (.aload_n 0, 1) := by decide +kernel
theorem dX6_init_71 : decode cX6_init 71 = .ok (.new 20, 3) := by decide +kernel
theorem dX6_init_74 : decode cX6_init 74 = .ok (.dup, 1) := by decide +kernel
theorem dX6_init_75 : decode cX6_init 75 = .ok (.invokespecial 26, 3) := by decide +kernel
theorem dX6_init_78 : decode cX6_init 78 = .ok (.putfield 34, 3) := by decide +kernel
theorem dX6_init_81 : decode cX6_init 81 = .ok (.aload_n 0, 1) := by decide +kernel
theorem dX6_init_82 : decode cX6_init 82 = .ok (.new 27, 3) := by decide +kernel
theorem dX6_init_85 : decode cX6_init 85 = .ok (.dup, 1) := by decide +kernel
theorem dX6_init_86 : decode cX6_init 86 = .ok (.invokespecial 29, 3) := by decide +kernel
theorem dX6_init_89 : decode cX6_init 89 = .ok (.putfield 38, 3) := by decide +kernel
theorem dX6_init_92 : decode cX6_init 92 = .ok (.aload_n 0, 1) := by decide +kernel
theorem dX6_init_93 : decode cX6_init 93 = .ok (.new 41, 3) := by decide +kernel
theorem dX6_init_96 : decode cX6_init 96 = .ok (.dup, 1) := by decide +kernel
theorem dX6_init_97 : decode cX6_init 97 = .ok (.invokespecial 43, 3) := by decide +kernel
theorem dX6_init_100 : decode cX6_init 100 = .ok (.putfield 44, 3) := by decide +kernel
theorem dX6_init_103 : decode cX6_init 103 = .ok (.aload_n 0, 1) := by decide +kernel
theorem dX6_init_104 : decode cX6_init 104 = .ok (.new 48, 3) := by decide +kernel
theorem dX6_init_107 : decode cX6_init 107 = .ok (.dup, 1) := by decide +kernel
theorem dX6_init_108 : decode cX6_init 108 = .ok (.invokespecial 50, 3) := by decide +kernel
theorem dX6_init_111 : decode cX6_init 111 = .ok (.putfield 51, 3) := by decide +kernel
theorem dX6_init_114 : decode cX6_init 114 = .ok (.aload_n 0, 1) := by decide +kernel
theorem dX6_init_115 : decode cX6_init 115 = .ok (.new 48, 3) := by decide +kernel
theorem dX6_init_118 : decode cX6_init 118 = .ok (.dup, 1) := by decide +kernel
theorem dX6_init_119 : decode cX6_init 119 = .ok (.invokespecial 50, 3) := by decide +kernel
theorem dX6_init_122 : decode cX6_init 122 = .ok (.putfield 55, 3) := by decide +kernel
theorem dX6_init_125 : decode cX6_init 125 = .ok (.aload_n 0, 1) := by decide +kernel
theorem dX6_init_126 : decode cX6_init 126 = .ok (.invokevirtual 58, 3) := by decide +kernel
theorem dX6_init_129 : decode cX6_init 129 = .ok (.return_, 1) := by decide +kernel
set_option maxRecDepth 20000 in
theorem ggX6_type_X6_byteAt : GoodIn wsX6_type wsX6_byteAt := goodIn_r _ [7] (by decide +kernel) (by decide +kernel)
set_option maxRecDepth 20000 in
theorem gX6_type_X6_byteAt : GoodIn wsX6_type (va_wsS RX6 61 yX6_byteAt wsX6_byteAt) := goodIn_app (goodIn_of _ (by decide +kernel)) ggX6_type_X6_byteAt
theorem dX6_type_0 : decode cX6_type 0 = .ok (.iconst 0, 1) := by decide +kernel
theorem dX6_type_1 : decode cX6_type 1 = .ok (.istore_n 3, 1) := by decide +kernel
theorem dX6_type_2 : decode cX6_type 2 = .ok (.iload_n 3, 1) := by decide +kernel
theorem dX6_type_3 : decode cX6_type 3 = .ok (.bipush 8, 2) := by decide +kernel
theorem dX6_type_5 : decode cX6_type 5 = .ok (.if_icmp .ge 17, 3) := by decide +kernel
theorem dX6_type_8 : decode cX6_type 8 = .ok (.lload_n 1, 1) := by decide +kernel
theorem dX6_type_9 : decode cX6_type 9 = .ok (.iload_n 3, 1) := by decide +kernel
theorem dX6_type_10 : decode cX6_type 10 = .ok (.invokestatic 61, 3) := by decide +kernel
theorem dX6_type_13 : decode cX6_type 13 = .ok (.ifCond .eq 9, 3) := by decide +kernel
theorem dX6_type_16 : decode cX6_type 16 = .ok (.iinc 3 1, 3) := by decide +kernel
theorem dX6_type_19 : decode cX6_type 19 = .ok (.goto (-17), 3) := by decide +kernel
theorem dX6_type_22 : decode cX6_type 22 = .ok (.aload_n 0, 1) := by decide +kernel
theorem dX6_type_23 : decode cX6_type 23 = .ok (.getfield 10, 3) := by decide +kernel
theorem dX6_type_26 : decode cX6_type 26 = .ok (.getfield 65, 3) := by decide +kernel
theorem dX6_type_29 : decode cX6_type 29 = .ok (.iload_n 3, 1) := by decide +kernel
theorem dX6_type_30 : decode cX6_type 30 = .ok (.iadd, 1) := by decide +kernel
theorem dX6_type_31 : decode cX6_type 31 = .ok (.sipush 600, 3) := by decide +kernel
theorem dX6_type_34 : decode cX6_type 34 = .ok (.if_icmp .le 5, 3) := by decide +kernel
theorem dX6_type_37 : decode cX6_type 37 = .ok (.iconst (-1), 1) := by decide +kernel
theorem dX6_type_38 : decode cX6_type 38 = .ok (.ireturn, 1) := by decide +kernel
theorem dX6_type_39 : decode cX6_type 39 = .ok (.iconst 0, 1) := by decide +kernel
theorem dX6_type_40 : decode cX6_type 40 = .ok (.istore 4, 2) := by decide +kernel
theorem dX6_type_42 : decode cX6_type 42 = .ok (.iload 4, 2) := by decide +kernel
theorem dX6_type_44 : decode cX6_type 44 = .ok (.iload_n 3, 1) := by decide +kernel
theorem dX6_type_45 : decode cX6_type 45 = .ok (.if_icmp .ge 33, 3) := by decide +kernel
theorem dX6_type_48 : decode cX6_type 48 = .ok (.aload_n 0, 1) := by decide +kernel
theorem dX6_type_49 : decode cX6_type 49 = .ok (.getfield 10, 3) := by decide +kernel
theorem dX6_type_52 : decode cX6_type 52 = .ok (.getfield 69, 3) := by decide +kernel
theorem dX6_type_55 : decode cX6_type 55 = .ok (.aload_n 0, 1) := by decide +kernel
theorem dX6_type_56 : decode cX6_type 56 = .ok (.getfield 10, 3) := by decide +kernel
theorem dX6_type_59 : decode cX6_type 59 = .ok (.getfield 65, 3) := by decide +kernel
theorem dX6_type_62 : decode cX6_type 62 = .ok (.iload 4, 2) := by decide +kernel
theorem dX6_type_64 : decode cX6_type 64 = .ok (.iadd, 1) := by decide +kernel
theorem dX6_type_65 : decode cX6_type 65 = .ok (.lload_n 1, 1) := by decide +kernel
theorem dX6_type_66 : decode cX6_type 66 = .ok (.iload 4, 2) := by decide +kernel
theorem dX6_type_68 : decode cX6_type 68 = .ok (.invokestatic 61, 3) := by decide +kernel
theorem dX6_type_71 : decode cX6_type 71 = .ok (.bastore, 1) := by decide +kernel
theorem dX6_type_72 : decode cX6_type 72 = .ok (.iinc 4 1, 3) := by decide +kernel
theorem dX6_type_75 : decode cX6_type 75 = .ok (.goto (-33), 3) := by decide +kernel
theorem dX6_type_78 : decode cX6_type 78 = .ok (.aload_n 0, 1) := by decide +kernel
theorem dX6_type_79 : decode cX6_type 79 = .ok (.getfield 10, 3) := by decide +kernel
theorem dX6_type_82 : decode cX6_type 82 = .ok (.dup, 1) := by decide +kernel
theorem dX6_type_83 : decode cX6_type 83 = .ok (.getfield 65, 3) := by decide +kernel
theorem dX6_type_86 : decode cX6_type 86 = .ok (.iload_n 3, 1) := by decide +kernel
theorem dX6_type_87 : decode cX6_type 87 = .ok (.iadd, 1) := by decide +kernel
theorem dX6_type_88 : decode cX6_type 88 = .ok (.putfield 65, 3) := by decide +kernel
theorem dX6_type_91 : decode cX6_type 91 = .ok (.aload_n 0, 1) := by decide +kernel
theorem dX6_type_92 : decode cX6_type 92 = .ok (.getfield 10, 3) := by decide +kernel
theorem dX6_type_95 : decode cX6_type 95 = .ok (.getfield 65, 3) := by decide +kernel
theorem dX6_type_98 : decode cX6_type 98 = .ok (.ireturn, 1) := by decide +kernel
set_option maxRecDepth 20000 in
theorem ggX6_read_X3_readAll : GoodIn wsX6_read wsX3_readAll := goodIn_r _ [17, 18, 19, 20, 21, 22, 23, 24, 25, 26, 27, 28, 29, 30, 31, 32, 33, 16, 34, 35, 36, 37, 38, 39, 40, 41, 42, 43, 44, 45, 46, 47, 48, 49, 50, 51, 52, 53, 54, 55, 56, 57, 58, 59, 60, 61, 62, 63, 64, 65, 66, 67, 68, 69, 70, 71, 72, 73, 74, 75, 76, 77, 78, 79, 80, 81, 82, 83, 84, 85, 86, 87, 88, 89, 90, 91, 92, 93, 94, 95, 96, 97, 98, 99, 100, 101, 102, 103, 104, 105, 106, 107, 108, 109, 110, 111, 112, 113, 114, 115, 116, 117, 118, 119, 120, 121, 122, 123, 124, 125, 126, 127, 128, 129, 130, 131, 132, 133, 134, 135, 136, 137, 138, 139, 140, 141, 142, 143, 144, 145, 146, 147, 148, 149, 150, 151, 152, 153, 154, 155, 156, 157, 158, 159, 160, 161, 162, 163, 164, 334, 335, 336, 337, 338, 339, 340, 341, 342, 343, 344] (by decide +kernel) (by decide +kernel)
set_option maxRecDepth 20000 in
theorem gX6_read_X3_readAll : GoodIn wsX6_read (wsV RX6 73 RX3 yX3_readAll wsX3_readAll) := goodIn_app (goodIn_of _ (by decide +kernel)) ggX6_read_X3_readAll
set_option maxRecDepth 20000 in
theorem ggX6_read_X1_copyFrom : GoodIn wsX6_read wsX1_copyFrom := goodIn_r _ [168, 139, 28, 169, 170, 171, 172, 156, 29, 30, 31, 339, 340, 341, 342, 343, 344] (by decide +kernel) (by decide +kernel)
set_option maxRecDepth 20000 in
theorem gX6_read_X1_copyFrom : GoodIn wsX6_read (wsV RX6 91 RX1 yX1_copyFrom wsX1_copyFrom) := goodIn_app (goodIn_of _ (by decide +kernel)) ggX6_read_X1_copyFrom
set_option maxRecDepth 20000 in
theorem ggX6_read_X6_makeCoreAnew : GoodIn wsX6_read wsX6_makeCoreAnew := goodIn_r _ [176, 177, 2, 9, 178, 179, 180, 181, 182, 183, 184, 185, 186, 187, 188, 189, 190, 191, 192, 193, 194, 195, 196, 197, 198, 199, 200, 201, 202, 203, 204, 205, 206, 207, 208, 209, 210, 211, 212, 213, 214, 215, 216, 26, 217, 156, 139, 218, 219, 220, 221, 222, 223, 224, 225, 226, 227, 228, 229, 230, 231, 232, 233, 234, 235, 236, 237, 238, 239, 240, 241, 242, 243, 244, 245, 246, 247, 248, 249, 170, 171, 172, 250, 251, 252, 253, 254, 255, 256, 257, 258, 259, 260, 261, 262, 263, 264, 265, 266, 267, 268, 269, 270, 271, 272, 273, 274, 275, 276, 277, 278, 279, 280, 281, 282, 283, 284, 285, 286, 287, 288, 289, 290, 291, 292, 293, 294, 295, 296, 297, 298, 299, 300, 301, 302, 303, 304, 305, 306, 307, 308, 309, 310, 311, 312, 313, 314, 315, 316, 317, 318, 319, 320, 321, 322, 323, 324, 325, 326, 327, 328, 329, 330, 331, 332, 333, 339, 340, 341, 342, 343, 344, 345, 346, 347, 348, 349, 350, 351, 352, 353, 354, 355, 356, 357, 358, 359, 360, 361, 362, 363, 364, 365, 366, 367] (by decide +kernel) (by decide +kernel)
set_option maxRecDepth 20000 in
theorem gX6_read_X6_makeCoreAnew : GoodIn wsX6_read (wsV RX6 58 RX6 yX6_makeCoreAnew wsX6_makeCoreAnew) := goodIn_app (goodIn_of _ (by decide +kernel)) ggX6_read_X6_makeCoreAnew
theorem dX6_read_0 : decode cX6_read 0 = .ok (.aload_n 0, 1) := by decide +kernel
theorem dX6_read_1 : decode cX6_read 1 = .ok (.getfield 44, 3) := by decide +kernel
theorem dX6_read_4 : decode cX6_read 4 = .ok (.aload_n 0, 1) := by decide +kernel
theorem dX6_read_5 : decode cX6_read 5 = .ok (.getfield 10, 3) := by decide +kernel
theorem dX6_read_8 : decode cX6_read 8 = .ok (.getfield 69, 3) := by decide +kernel
theorem dX6_read_11 : decode cX6_read 11 = .ok (.aload_n 0, 1) := by decide +kernel
theorem dX6_read_12 : decode cX6_read 12 = .ok (.getfield 10, 3) := by decide +kernel
theorem dX6_read_15 : decode cX6_read 15 = .ok (.getfield 65, 3) := by decide +kernel
theorem dX6_read_18 : decode cX6_read 18 = .ok (.invokevirtual 73, 3) := by decide +kernel
theorem dX6_read_21 : decode cX6_read 21 = .ok (.aload_n 0, 1) := by decide +kernel
theorem dX6_read_22 : decode cX6_read 22 = .ok (.getfield 10, 3) := by decide +kernel
theorem dX6_read_25 : decode cX6_read 25 = .ok (.iconst 0, 1) := by decide +kernel
theorem dX6_read_26 : decode cX6_read 26 = .ok (.putfield 65, 3) := by decide +kernel
theorem dX6_read_29 : decode cX6_read 29 = .ok (.aload_n 0, 1) := by decide +kernel
theorem dX6_read_30 : decode cX6_read 30 = .ok (.getfield 10, 3) := by decide +kernel
theorem dX6_read_33 : decode cX6_read 33 = .ok (.aload_n 0, 1) := by decide +kernel
theorem dX6_read_34 : decode cX6_read 34 = .ok (.getfield 44, 3) := by decide +kernel
theorem dX6_read_37 : decode cX6_read 37 = .ok (.getfield 77, 3) := by decide +kernel
theorem dX6_read_40 : decode cX6_read 40 = .ok (.putfield 80, 3) := by decide +kernel
theorem dX6_read_43 : decode cX6_read 43 = .ok (.aload_n 0, 1) := by decide +kernel
theorem dX6_read_44 : decode cX6_read 44 = .ok (.getfield 10, 3) := by decide +kernel
theorem dX6_read_47 : decode cX6_read 47 = .ok (.aload_n 0, 1) := by decide +kernel
theorem dX6_read_48 : decode cX6_read 48 = .ok (.getfield 44, 3) := by decide +kernel
theorem dX6_read_51 : decode cX6_read 51 = .ok (.getfield 81, 3) := by decide +kernel
theorem dX6_read_54 : decode cX6_read 54 = .ok (.putfield 84, 3) := by decide +kernel
theorem dX6_read_57 : decode cX6_read 57 = .ok (.aload_n 0, 1) := by decide +kernel
theorem dX6_read_58 : decode cX6_read 58 = .ok (.getfield 44, 3) := by decide +kernel
theorem dX6_read_61 : decode cX6_read 61 = .ok (.getfield 77, 3) := by decide +kernel
theorem dX6_read_64 : decode cX6_read 64 = .ok (.ifCond .eq 5, 3) := by decide +kernel
theorem dX6_read_67 : decode cX6_read 67 = .ok (.iconst (-1), 1) := by decide +kernel
theorem dX6_read_68 : decode cX6_read 68 = .ok (.ireturn, 1) := by decide +kernel
theorem dX6_read_69 : decode cX6_read 69 = .ok (.aload_n 0, 1) := by decide +kernel
theorem dX6_read_70 : decode cX6_read 70 = .ok (.getfield 10, 3) := by decide +kernel
theorem dX6_read_73 : decode cX6_read 73 = .ok (.getfield 85, 3) := by decide +kernel
theorem dX6_read_76 : decode cX6_read 76 = .ok (.aload_n 0, 1) := by decide +kernel
theorem dX6_read_77 : decode cX6_read 77 = .ok (.getfield 44, 3) := by decide +kernel
theorem dX6_read_80 : decode cX6_read 80 = .ok (.getfield 88, 3) := by decide +kernel
theorem dX6_read_83 : decode cX6_read 83 = .ok (.invokevirtual 91, 3) := by decide +kernel
theorem dX6_read_86 : decode cX6_read 86 = .ok (.aload_n 0, 1) := by decide +kernel
theorem dX6_read_87 : decode cX6_read 87 = .ok (.iconst 0, 1) := by decide +kernel
theorem dX6_read_88 : decode cX6_read 88 = .ok (.putfield 95, 3) := by decide +kernel
theorem dX6_read_91 : decode cX6_read 91 = .ok (.aload_n 0, 1) := by decide +kernel
theorem dX6_read_92 : decode cX6_read 92 = .ok (.invokevirtual 58, 3) := by decide +kernel
theorem dX6_read_95 : decode cX6_read 95 = .ok (.aload_n 0, 1) := by decide +kernel
theorem dX6_read_96 : decode cX6_read 96 = .ok (.getfield 10, 3) := by decide +kernel
theorem dX6_read_99 : decode cX6_read 99 = .ok (.getfield 85, 3) := by decide +kernel
theorem dX6_read_102 : decode cX6_read 102 = .ok (.getfield 98, 3) := by decide +kernel
theorem dX6_read_105 : decode cX6_read 105 = .ok (.ireturn, 1) := by decide +kernel
theorem dX6_fault_0 : decode cX6_fault 0 = .ok (.iload_n 1, 1) := by decide +kernel
theorem dX6_fault_1 : decode cX6_fault 1 = .ok (.ifCond .eq 13, 3) := by decide +kernel
theorem dX6_fault_4 : decode cX6_fault 4 = .ok (.aload_n 0, 1) := by decide +kernel
theorem dX6_fault_5 : decode cX6_fault 5 = .ok (.getfield 10, 3) := by decide +kernel
theorem dX6_fault_8 : decode cX6_fault 8 = .ok (.getfield 84, 3) := by decide +kernel
theorem dX6_fault_11 : decode cX6_fault 11 = .ok (.goto 10, 3) := by decide +kernel
theorem dX6_fault_14 : decode cX6_fault 14 = .ok (.aload_n 0, 1) := by decide +kernel
theorem dX6_fault_15 : decode cX6_fault 15 = .ok (.getfield 10, 3) := by decide +kernel
theorem dX6_fault_18 : decode cX6_fault 18 = .ok (.getfield 80, 3) := by decide +kernel
theorem dX6_fault_21 : decode cX6_fault 21 = .ok (.ireturn, 1) := by decide +kernel
set_option maxRecDepth 20000 in
theorem ggX6_room_X6_canBeRoom : GoodIn wsX6_room wsX6_canBeRoom := goodIn_r _ [7, 8] (by decide +kernel) (by decide +kernel)
set_option maxRecDepth 20000 in
theorem gX6_room_X6_canBeRoom : GoodIn wsX6_room (va_wsS RX6 101 yX6_canBeRoom wsX6_canBeRoom) := goodIn_app (goodIn_of _ (by decide +kernel)) ggX6_room_X6_canBeRoom
set_option maxRecDepth 20000 in
theorem ggX6_room_X6_remember : GoodIn wsX6_room wsX6_remember := goodIn_r _ [12, 13, 14, 1, 2, 15, 16, 17, 18, 19, 20, 21, 22, 23, 24, 25, 26, 27, 28, 29, 115, 116, 117, 118, 119, 120, 121, 122, 123, 124, 125, 126, 127, 128, 129, 130, 131, 132, 133, 134, 135, 136, 137, 138] (by decide +kernel) (by decide +kernel)
set_option maxRecDepth 20000 in
theorem gX6_room_X6_remember : GoodIn wsX6_room (wsV RX6 108 RX6 yX6_remember wsX6_remember) := goodIn_app (goodIn_of _ (by decide +kernel)) ggX6_room_X6_remember
set_option maxRecDepth 20000 in
theorem ggX6_room_X6_beginAgain : GoodIn wsX6_room wsX6_beginAgain := goodIn_r _ [33, 1, 2, 34, 35, 36, 37, 38, 39, 40, 41, 42, 43, 44, 45, 46, 47, 48, 49, 50, 51, 52, 53, 54, 55, 56, 57, 58, 59, 60, 61, 62, 63, 64, 65, 66, 67, 68, 69, 70, 71, 72, 73, 18, 74, 26, 20, 75, 76, 77, 78, 79, 80, 81, 82, 83, 84, 85, 86, 87, 88, 89, 90, 91, 92, 93, 94, 95, 96, 97, 98, 99, 100, 101, 102, 103, 104, 105, 106, 23, 24, 25, 107, 108, 109, 110, 111, 112, 113, 114, 115, 116, 117, 118, 119, 120, 121, 122, 123, 124, 125, 126, 127, 128, 129, 130, 131, 132, 133, 134, 135, 136, 137, 138, 139, 140, 141, 142, 143, 144, 145, 146, 147, 148, 149, 150, 151, 152, 153, 154, 155, 156, 157, 158, 159, 160, 161] (by decide +kernel) (by decide +kernel)
set_option maxRecDepth 20000 in
theorem gX6_room_X6_beginAgain : GoodIn wsX6_room (wsV RX6 111 RX6 yX6_beginAgain wsX6_beginAgain) := goodIn_app (goodIn_of _ (by decide +kernel)) ggX6_room_X6_beginAgain
theorem dX6_room_0 : decode cX6_room 0 = .ok (.iload_n 1, 1) := by decide +kernel
theorem dX6_room_1 : decode cX6_room 1 = .ok (.i2l, 1) := by decide +kernel
theorem dX6_room_2 : decode cX6_room 2 = .ok (.invokestatic 101, 3) := by decide +kernel
theorem dX6_room_5 : decode cX6_room 5 = .ok (.ifCond .eq 17, 3) := by decide +kernel
theorem dX6_room_8 : decode cX6_room 8 = .ok (.iload_n 1, 1) := by decide +kernel
theorem dX6_room_9 : decode cX6_room 9 = .ok (.aload_n 0, 1) := by decide +kernel
theorem dX6_room_10 : decode cX6_room 10 = .ok (.getfield 10, 3) := by decide +kernel
theorem dX6_room_13 : decode cX6_room 13 = .ok (.getfield 85, 3) := by decide +kernel
theorem dX6_room_16 : decode cX6_room 16 = .ok (.getfield 105, 3) := by decide +kernel
theorem dX6_room_19 : decode cX6_room 19 = .ok (.if_icmp .ne 5, 3) := by decide +kernel
theorem dX6_room_22 : decode cX6_room 22 = .ok (.iconst 0, 1) := by decide +kernel
theorem dX6_room_23 : decode cX6_room 23 = .ok (.ireturn, 1) := by decide +kernel
theorem dX6_room_24 : decode cX6_room 24 = .ok (.aload_n 0, 1) := by decide +kernel
theorem dX6_room_25 : decode cX6_room 25 = .ok (.invokevirtual 108, 3) := by decide +kernel
theorem dX6_room_28 : decode cX6_room 28 = .ok (.aload_n 0, 1) := by decide +kernel
theorem dX6_room_29 : decode cX6_room 29 = .ok (.getfield 10, 3) := by decide +kernel
theorem dX6_room_32 : decode cX6_room 32 = .ok (.getfield 85, 3) := by decide +kernel
theorem dX6_room_35 : decode cX6_room 35 = .ok (.iload_n 1, 1) := by decide +kernel
theorem dX6_room_36 : decode cX6_room 36 = .ok (.putfield 105, 3) := by decide +kernel
theorem dX6_room_39 : decode cX6_room 39 = .ok (.aload_n 0, 1) := by decide +kernel
theorem dX6_room_40 : decode cX6_room 40 = .ok (.invokevirtual 111, 3) := by decide +kernel
theorem dX6_room_43 : decode cX6_room 43 = .ok (.iconst 1, 1) := by decide +kernel
theorem dX6_room_44 : decode cX6_room 44 = .ok (.ireturn, 1) := by decide +kernel
set_option maxRecDepth 20000 in
theorem ggX6_most_X6_canBeMost : GoodIn wsX6_most wsX6_canBeMost := goodIn_r _ [7, 8, 9] (by decide +kernel) (by decide +kernel)
set_option maxRecDepth 20000 in
theorem gX6_most_X6_canBeMost : GoodIn wsX6_most (va_wsS RX6 114 yX6_canBeMost wsX6_canBeMost) := goodIn_app (goodIn_of _ (by decide +kernel)) ggX6_most_X6_canBeMost
set_option maxRecDepth 20000 in
theorem ggX6_most_X6_remember : GoodIn wsX6_most wsX6_remember := goodIn_r _ [13, 14, 15, 1, 2, 16, 17, 18, 19, 20, 21, 22, 23, 24, 25, 26, 27, 28, 29, 30, 116, 117, 118, 119, 120, 121, 122, 123, 124, 125, 126, 127, 128, 129, 130, 131, 132, 133, 134, 135, 136, 137, 138, 139] (by decide +kernel) (by decide +kernel)
set_option maxRecDepth 20000 in
theorem gX6_most_X6_remember : GoodIn wsX6_most (wsV RX6 108 RX6 yX6_remember wsX6_remember) := goodIn_app (goodIn_of _ (by decide +kernel)) ggX6_most_X6_remember
set_option maxRecDepth 20000 in
theorem ggX6_most_X6_beginAgain : GoodIn wsX6_most wsX6_beginAgain := goodIn_r _ [34, 1, 2, 35, 36, 37, 38, 39, 40, 41, 42, 43, 44, 45, 46, 47, 48, 49, 50, 51, 52, 53, 54, 55, 56, 57, 58, 59, 60, 61, 62, 63, 64, 65, 66, 67, 68, 69, 70, 71, 72, 73, 74, 19, 75, 27, 21, 76, 77, 78, 79, 80, 81, 82, 83, 84, 85, 86, 87, 88, 89, 90, 91, 92, 93, 94, 95, 96, 97, 98, 99, 100, 101, 102, 103, 104, 105, 106, 107, 24, 25, 26, 108, 109, 110, 111, 112, 113, 114, 115, 116, 117, 118, 119, 120, 121, 122, 123, 124, 125, 126, 127, 128, 129, 130, 131, 132, 133, 134, 135, 136, 137, 138, 139, 140, 141, 142, 143, 144, 145, 146, 147, 148, 149, 150, 151, 152, 153, 154, 155, 156, 157, 158, 159, 160, 161, 162] (by decide +kernel) (by decide +kernel)
set_option maxRecDepth 20000 in
theorem gX6_most_X6_beginAgain : GoodIn wsX6_most (wsV RX6 111 RX6 yX6_beginAgain wsX6_beginAgain) := goodIn_app (goodIn_of _ (by decide +kernel)) ggX6_most_X6_beginAgain
theorem dX6_most_0 : decode cX6_most 0 = .ok (.iload_n 1, 1) := by decide +kernel
theorem dX6_most_1 : decode cX6_most 1 = .ok (.i2l, 1) := by decide +kernel
theorem dX6_most_2 : decode cX6_most 2 = .ok (.invokestatic 114, 3) := by decide +kernel
theorem dX6_most_5 : decode cX6_most 5 = .ok (.ifCond .eq 17, 3) := by decide +kernel
theorem dX6_most_8 : decode cX6_most 8 = .ok (.iload_n 1, 1) := by decide +kernel
theorem dX6_most_9 : decode cX6_most 9 = .ok (.aload_n 0, 1) := by decide +kernel
theorem dX6_most_10 : decode cX6_most 10 = .ok (.getfield 10, 3) := by decide +kernel
theorem dX6_most_13 : decode cX6_most 13 = .ok (.getfield 85, 3) := by decide +kernel
theorem dX6_most_16 : decode cX6_most 16 = .ok (.getfield 117, 3) := by decide +kernel
theorem dX6_most_19 : decode cX6_most 19 = .ok (.if_icmp .ne 5, 3) := by decide +kernel
theorem dX6_most_22 : decode cX6_most 22 = .ok (.iconst 0, 1) := by decide +kernel
theorem dX6_most_23 : decode cX6_most 23 = .ok (.ireturn, 1) := by decide +kernel
theorem dX6_most_24 : decode cX6_most 24 = .ok (.aload_n 0, 1) := by decide +kernel
theorem dX6_most_25 : decode cX6_most 25 = .ok (.invokevirtual 108, 3) := by decide +kernel
theorem dX6_most_28 : decode cX6_most 28 = .ok (.aload_n 0, 1) := by decide +kernel
theorem dX6_most_29 : decode cX6_most 29 = .ok (.getfield 10, 3) := by decide +kernel
theorem dX6_most_32 : decode cX6_most 32 = .ok (.getfield 85, 3) := by decide +kernel
theorem dX6_most_35 : decode cX6_most 35 = .ok (.iload_n 1, 1) := by decide +kernel
theorem dX6_most_36 : decode cX6_most 36 = .ok (.putfield 117, 3) := by decide +kernel
theorem dX6_most_39 : decode cX6_most 39 = .ok (.aload_n 0, 1) := by decide +kernel
theorem dX6_most_40 : decode cX6_most 40 = .ok (.invokevirtual 111, 3) := by decide +kernel
theorem dX6_most_43 : decode cX6_most 43 = .ok (.iconst 1, 1) := by decide +kernel
theorem dX6_most_44 : decode cX6_most 44 = .ok (.ireturn, 1) := by decide +kernel
set_option maxRecDepth 20000 in
theorem ggX6_add_X1_canTake : GoodIn wsX6_add wsX1_canTake := goodIn_r _ [8, 9, 10, 11, 12, 13, 14, 15, 16, 17, 7, 18, 19, 20, 21, 22, 23, 24, 25, 26, 27, 28, 153, 154, 155, 156, 157, 158] (by decide +kernel) (by decide +kernel)
set_option maxRecDepth 20000 in
theorem gX6_add_X1_canTake : GoodIn wsX6_add (wsV RX6 120 RX1 yX1_canTake wsX1_canTake) := goodIn_app (goodIn_of _ (by decide +kernel)) ggX6_add_X1_canTake
set_option maxRecDepth 20000 in
theorem ggX6_add_X6_remember : GoodIn wsX6_add wsX6_remember := goodIn_r _ [32, 33, 34, 1, 2, 35, 36, 37, 7, 38, 19, 9, 39, 40, 41, 42, 28, 43, 44, 45, 135, 136, 137, 138, 139, 140, 141, 142, 143, 144, 145, 146, 147, 148, 149, 150, 151, 152, 153, 154, 155, 156, 157, 158] (by decide +kernel) (by decide +kernel)
set_option maxRecDepth 20000 in
theorem gX6_add_X6_remember : GoodIn wsX6_add (wsV RX6 108 RX6 yX6_remember wsX6_remember) := goodIn_app (goodIn_of _ (by decide +kernel)) ggX6_add_X6_remember
set_option maxRecDepth 20000 in
theorem ggX6_add_X1_put : GoodIn wsX6_add wsX1_put := goodIn_r _ [49, 9, 19, 28, 153, 154, 155, 156, 157, 158] (by decide +kernel) (by decide +kernel)
set_option maxRecDepth 20000 in
theorem gX6_add_X1_put : GoodIn wsX6_add (wsV RX6 124 RX1 yX1_put wsX1_put) := goodIn_app (goodIn_of _ (by decide +kernel)) ggX6_add_X1_put
set_option maxRecDepth 20000 in
theorem ggX6_add_X6_beginAgain : GoodIn wsX6_add wsX6_beginAgain := goodIn_r _ [53, 1, 2, 54, 55, 56, 57, 58, 59, 60, 61, 62, 63, 64, 65, 66, 67, 68, 69, 70, 71, 72, 73, 74, 75, 76, 77, 78, 79, 80, 81, 82, 83, 84, 85, 86, 87, 88, 89, 90, 91, 92, 93, 7, 94, 28, 19, 95, 96, 97, 98, 99, 100, 101, 102, 103, 104, 105, 106, 107, 108, 109, 110, 111, 112, 113, 114, 115, 116, 117, 118, 119, 120, 121, 122, 123, 124, 125, 126, 40, 41, 42, 127, 128, 129, 130, 131, 132, 133, 134, 135, 136, 137, 138, 139, 140, 141, 142, 143, 144, 145, 146, 147, 148, 149, 150, 151, 152, 153, 154, 155, 156, 157, 158, 159, 160, 161, 162, 163, 164, 165, 166, 167, 168, 169, 170, 171, 172, 173, 174, 175, 176, 177, 178, 179, 180, 181] (by decide +kernel) (by decide +kernel)
set_option maxRecDepth 20000 in
theorem gX6_add_X6_beginAgain : GoodIn wsX6_add (wsV RX6 111 RX6 yX6_beginAgain wsX6_beginAgain) := goodIn_app (goodIn_of _ (by decide +kernel)) ggX6_add_X6_beginAgain
theorem dX6_add_0 : decode cX6_add 0 = .ok (.aload_n 0, 1) := by decide +kernel
theorem dX6_add_1 : decode cX6_add 1 = .ok (.getfield 10, 3) := by decide +kernel
theorem dX6_add_4 : decode cX6_add 4 = .ok (.getfield 85, 3) := by decide +kernel
theorem dX6_add_7 : decode cX6_add 7 = .ok (.iload_n 1, 1) := by decide +kernel
theorem dX6_add_8 : decode cX6_add 8 = .ok (.iload_n 2, 1) := by decide +kernel
theorem dX6_add_9 : decode cX6_add 9 = .ok (.invokevirtual 120, 3) := by decide +kernel
theorem dX6_add_12 : decode cX6_add 12 = .ok (.ifCond .ne 5, 3) := by decide +kernel
theorem dX6_add_15 : decode cX6_add 15 = .ok (.iconst (-1), 1) := by decide +kernel
theorem dX6_add_16 : decode cX6_add 16 = .ok (.ireturn, 1) := by decide +kernel
theorem dX6_add_17 : decode cX6_add 17 = .ok (.aload_n 0, 1) := by decide +kernel
theorem dX6_add_18 : decode cX6_add 18 = .ok (.invokevirtual 108, 3) := by decide +kernel
theorem dX6_add_21 : decode cX6_add 21 = .ok (.aload_n 0, 1) := by decide +kernel
theorem dX6_add_22 : decode cX6_add 22 = .ok (.getfield 10, 3) := by decide +kernel
theorem dX6_add_25 : decode cX6_add 25 = .ok (.getfield 85, 3) := by decide +kernel
theorem dX6_add_28 : decode cX6_add 28 = .ok (.iload_n 1, 1) := by decide +kernel
theorem dX6_add_29 : decode cX6_add 29 = .ok (.iload_n 2, 1) := by decide +kernel
theorem dX6_add_30 : decode cX6_add 30 = .ok (.invokevirtual 124, 3) := by decide +kernel
theorem dX6_add_33 : decode cX6_add 33 = .ok (.aload_n 0, 1) := by decide +kernel
theorem dX6_add_34 : decode cX6_add 34 = .ok (.invokevirtual 111, 3) := by decide +kernel
theorem dX6_add_37 : decode cX6_add 37 = .ok (.aload_n 0, 1) := by decide +kernel
theorem dX6_add_38 : decode cX6_add 38 = .ok (.getfield 10, 3) := by decide +kernel
theorem dX6_add_41 : decode cX6_add 41 = .ok (.getfield 85, 3) := by decide +kernel
theorem dX6_add_44 : decode cX6_add 44 = .ok (.getfield 98, 3) := by decide +kernel
theorem dX6_add_47 : decode cX6_add 47 = .ok (.iconst 1, 1) := by decide +kernel
theorem dX6_add_48 : decode cX6_add 48 = .ok (.isub, 1) := by decide +kernel
theorem dX6_add_49 : decode cX6_add 49 = .ok (.ireturn, 1) := by decide +kernel
set_option maxRecDepth 20000 in
theorem ggX6_drop_X1_has : GoodIn wsX6_drop wsX1_has := goodIn_r _ [8, 9, 138, 139, 140, 141, 142, 143] (by decide +kernel) (by decide +kernel)
set_option maxRecDepth 20000 in
theorem gX6_drop_X1_has : GoodIn wsX6_drop (wsV RX6 128 RX1 yX1_has wsX1_has) := goodIn_app (goodIn_of _ (by decide +kernel)) ggX6_drop_X1_has
set_option maxRecDepth 20000 in
theorem ggX6_drop_X6_remember : GoodIn wsX6_drop wsX6_remember := goodIn_r _ [14, 15, 16, 1, 2, 17, 18, 19, 7, 20, 21, 9, 22, 23, 24, 25, 26, 27, 28, 29, 120, 121, 122, 123, 124, 125, 126, 127, 128, 129, 130, 131, 132, 133, 134, 135, 136, 137, 138, 139, 140, 141, 142, 143] (by decide +kernel) (by decide +kernel)
set_option maxRecDepth 20000 in
theorem gX6_drop_X6_remember : GoodIn wsX6_drop (wsV RX6 108 RX6 yX6_remember wsX6_remember) := goodIn_app (goodIn_of _ (by decide +kernel)) ggX6_drop_X6_remember
set_option maxRecDepth 20000 in
theorem ggX6_drop_X1_takeOut : GoodIn wsX6_drop wsX1_takeOut := goodIn_r _ [33, 21, 9, 22, 23, 24, 25, 26, 34, 5, 6, 7, 8, 138, 139, 140, 141, 142, 143] (by decide +kernel) (by decide +kernel)
set_option maxRecDepth 20000 in
theorem gX6_drop_X1_takeOut : GoodIn wsX6_drop (wsV RX6 132 RX1 yX1_takeOut wsX1_takeOut) := goodIn_app (goodIn_of _ (by decide +kernel)) ggX6_drop_X1_takeOut
set_option maxRecDepth 20000 in
theorem ggX6_drop_X6_beginAgain : GoodIn wsX6_drop wsX6_beginAgain := goodIn_r _ [38, 1, 2, 39, 40, 41, 42, 43, 44, 45, 46, 47, 48, 49, 50, 51, 52, 53, 54, 55, 56, 57, 58, 59, 60, 61, 62, 63, 64, 65, 66, 67, 68, 69, 70, 71, 72, 73, 74, 75, 76, 77, 78, 7, 79, 26, 21, 80, 81, 82, 83, 84, 85, 86, 87, 88, 89, 90, 91, 92, 93, 94, 95, 96, 97, 98, 99, 100, 101, 102, 103, 104, 105, 106, 107, 108, 109, 110, 111, 23, 24, 25, 112, 113, 114, 115, 116, 117, 118, 119, 120, 121, 122, 123, 124, 125, 126, 127, 128, 129, 130, 131, 132, 133, 134, 135, 136, 137, 138, 139, 140, 141, 142, 143, 144, 145, 146, 147, 148, 149, 150, 151, 152, 153, 154, 155, 156, 157, 158, 159, 160, 161, 162, 163, 164, 165, 166] (by decide +kernel) (by decide +kernel)
set_option maxRecDepth 20000 in
theorem gX6_drop_X6_beginAgain : GoodIn wsX6_drop (wsV RX6 111 RX6 yX6_beginAgain wsX6_beginAgain) := goodIn_app (goodIn_of _ (by decide +kernel)) ggX6_drop_X6_beginAgain
theorem dX6_drop_0 : decode cX6_drop 0 = .ok (.aload_n 0, 1) := by decide +kernel
theorem dX6_drop_1 : decode cX6_drop 1 = .ok (.getfield 10, 3) := by decide +kernel
theorem dX6_drop_4 : decode cX6_drop 4 = .ok (.getfield 85, 3) := by decide +kernel
theorem dX6_drop_7 : decode cX6_drop 7 = .ok (.iload_n 1, 1) := by decide +kernel
theorem dX6_drop_8 : decode cX6_drop 8 = .ok (.invokevirtual 128, 3) := by decide +kernel
theorem dX6_drop_11 : decode cX6_drop 11 = .ok (.ifCond .ne 5, 3) := by decide +kernel
theorem dX6_drop_14 : decode cX6_drop 14 = .ok (.iconst (-1), 1) := by decide +kernel
theorem dX6_drop_15 : decode cX6_drop 15 = .ok (.ireturn, 1) := by decide +kernel
theorem dX6_drop_16 : decode cX6_drop 16 = .ok (.aload_n 0, 1) := by decide +kernel
theorem dX6_drop_17 : decode cX6_drop 17 = .ok (.invokevirtual 108, 3) := by decide +kernel
theorem dX6_drop_20 : decode cX6_drop 20 = .ok (.aload_n 0, 1) := by decide +kernel
theorem dX6_drop_21 : decode cX6_drop 21 = .ok (.getfield 10, 3) := by decide +kernel
theorem dX6_drop_24 : decode cX6_drop 24 = .ok (.getfield 85, 3) := by decide +kernel
theorem dX6_drop_27 : decode cX6_drop 27 = .ok (.iload_n 1, 1) := by decide +kernel
theorem dX6_drop_28 : decode cX6_drop 28 = .ok (.invokevirtual 132, 3) := by decide +kernel
theorem dX6_drop_31 : decode cX6_drop 31 = .ok (.aload_n 0, 1) := by decide +kernel
theorem dX6_drop_32 : decode cX6_drop 32 = .ok (.invokevirtual 111, 3) := by decide +kernel
theorem dX6_drop_35 : decode cX6_drop 35 = .ok (.aload_n 0, 1) := by decide +kernel
theorem dX6_drop_36 : decode cX6_drop 36 = .ok (.getfield 10, 3) := by decide +kernel
theorem dX6_drop_39 : decode cX6_drop 39 = .ok (.getfield 85, 3) := by decide +kernel
theorem dX6_drop_42 : decode cX6_drop 42 = .ok (.getfield 98, 3) := by decide +kernel
theorem dX6_drop_45 : decode cX6_drop 45 = .ok (.ireturn, 1) := by decide +kernel
set_option maxRecDepth 20000 in
theorem ggX6_step_X0_isProved : GoodIn wsX6_step wsX0_isProved := goodIn_r _ [12, 13, 14, 15, 16, 17, 18, 150, 151, 152, 153, 154, 155, 156, 157, 158, 159, 166, 167, 168, 169, 170, 171, 172, 173, 174, 175, 176, 177, 178] (by decide +kernel) (by decide +kernel)
set_option maxRecDepth 20000 in
theorem gX6_step_X0_isProved : GoodIn wsX6_step (wsV RX6 136 RX0 yX0_isProved wsX0_isProved) := goodIn_app (goodIn_of _ (by decide +kernel)) ggX6_step_X0_isProved
set_option maxRecDepth 20000 in
theorem ggX6_step_X0_widen : GoodIn wsX6_step wsX0_widen := goodIn_r _ [22, 23, 16, 17, 18, 15, 24, 13, 25, 26, 27, 28, 9, 10, 11, 12, 14, 29, 30, 31, 32, 33, 34, 35, 36, 37, 38, 39, 40, 41, 42, 43, 44, 45, 46, 47, 48, 49, 50, 51, 52, 53, 54, 55, 56, 57, 58, 59, 60, 61, 62, 63, 64, 65, 66, 67, 68, 69, 70, 71, 72, 73, 74, 75, 76, 77, 78, 79, 80, 81, 82, 83, 84, 85, 86, 87, 88, 89, 90, 91, 92, 93, 94, 95, 96, 97, 98, 99, 100, 101, 102, 103, 104, 105, 106, 107, 108, 109, 110, 111, 112, 150, 151, 152, 153, 154, 155, 156, 157, 158, 159, 170, 171, 172, 173, 174, 175, 176, 177, 178, 166, 167, 168, 169] (by decide +kernel) (by decide +kernel)
set_option maxRecDepth 20000 in
theorem gX6_step_X0_widen : GoodIn wsX6_step (wsV RX6 140 RX0 yX0_widen wsX0_widen) := goodIn_app (goodIn_of _ (by decide +kernel)) ggX6_step_X0_widen
set_option maxRecDepth 20000 in
theorem ggX6_step_X6_remember : GoodIn wsX6_step wsX6_remember := goodIn_r _ [117, 118, 119, 2, 3, 120, 121, 122, 123, 124, 125, 126, 127, 62, 63, 64, 128, 129, 130, 131, 132, 133, 134, 135, 136, 137, 138, 139, 140, 141, 142, 143, 144, 145, 146, 147, 148, 149, 160, 161, 162, 163, 164, 165] (by decide +kernel) (by decide +kernel)
set_option maxRecDepth 20000 in
theorem gX6_step_X6_remember : GoodIn wsX6_step (wsV RX6 108 RX6 yX6_remember wsX6_remember) := goodIn_app (goodIn_of _ (by decide +kernel)) ggX6_step_X6_remember
theorem dX6_step_0 : decode cX6_step 0 = .ok (.aload_n 0, 1) := by decide +kernel
theorem dX6_step_1 : decode cX6_step 1 = .ok (.getfield 30, 3) := by decide +kernel
theorem dX6_step_4 : decode cX6_step 4 = .ok (.invokevirtual 136, 3) := by decide +kernel
theorem dX6_step_7 : decode cX6_step 7 = .ok (.ifCond .eq 5, 3) := by decide +kernel
theorem dX6_step_10 : decode cX6_step 10 = .ok (.iconst (-1), 1) := by decide +kernel
theorem dX6_step_11 : decode cX6_step 11 = .ok (.ireturn, 1) := by decide +kernel
theorem dX6_step_12 : decode cX6_step 12 = .ok (.aload_n 0, 1) := by decide +kernel
theorem dX6_step_13 : decode cX6_step 13 = .ok (.getfield 30, 3) := by decide +kernel
theorem dX6_step_16 : decode cX6_step 16 = .ok (.invokevirtual 140, 3) := by decide +kernel
theorem dX6_step_19 : decode cX6_step 19 = .ok (.ifCond .ne 6, 3) := by decide +kernel
theorem dX6_step_22 : decode cX6_step 22 = .ok (.bipush (-2), 2) := by decide +kernel
theorem dX6_step_24 : decode cX6_step 24 = .ok (.ireturn, 1) := by decide +kernel
theorem dX6_step_25 : decode cX6_step 25 = .ok (.aload_n 0, 1) := by decide +kernel
theorem dX6_step_26 : decode cX6_step 26 = .ok (.invokevirtual 108, 3) := by decide +kernel
theorem dX6_step_29 : decode cX6_step 29 = .ok (.aload_n 0, 1) := by decide +kernel
theorem dX6_step_30 : decode cX6_step 30 = .ok (.getfield 10, 3) := by decide +kernel
theorem dX6_step_33 : decode cX6_step 33 = .ok (.getfield 85, 3) := by decide +kernel
theorem dX6_step_36 : decode cX6_step 36 = .ok (.aload_n 0, 1) := by decide +kernel
theorem dX6_step_37 : decode cX6_step 37 = .ok (.getfield 30, 3) := by decide +kernel
theorem dX6_step_40 : decode cX6_step 40 = .ok (.getfield 143, 3) := by decide +kernel
theorem dX6_step_43 : decode cX6_step 43 = .ok (.putfield 146, 3) := by decide +kernel
theorem dX6_step_46 : decode cX6_step 46 = .ok (.aload_n 0, 1) := by decide +kernel
theorem dX6_step_47 : decode cX6_step 47 = .ok (.getfield 30, 3) := by decide +kernel
theorem dX6_step_50 : decode cX6_step 50 = .ok (.getfield 147, 3) := by decide +kernel
theorem dX6_step_53 : decode cX6_step 53 = .ok (.getfield 150, 3) := by decide +kernel
theorem dX6_step_56 : decode cX6_step 56 = .ok (.ireturn, 1) := by decide +kernel
set_option maxRecDepth 20000 in
theorem ggX6_solve_X0_widenToTheEnd : GoodIn wsX6_solve wsX0_widenToTheEnd := goodIn_r _ [10, 11, 12, 13, 14, 15, 16, 17, 18, 19, 9, 20, 21, 22, 23, 24, 25, 26, 27, 28, 29, 30, 31, 32, 33, 34, 35, 36, 37, 38, 39, 40, 41, 42, 43, 44, 45, 46, 47, 48, 49, 50, 51, 52, 53, 54, 55, 56, 57, 58, 59, 60, 61, 62, 63, 64, 65, 66, 67, 68, 69, 70, 71, 72, 73, 74, 75, 76, 77, 78, 79, 80, 81, 82, 83, 84, 85, 86, 87, 88, 89, 90, 91, 92, 93, 94, 95, 96, 97, 98, 99, 100, 101, 102, 103, 104, 105, 106, 107, 108, 109, 110, 111, 112, 113, 114, 115, 116, 147, 148, 149, 150, 151, 152, 153, 154, 155, 156, 170, 171, 172, 173, 174, 175, 176, 177, 178, 179, 180, 181, 182] (by decide +kernel) (by decide +kernel)
set_option maxRecDepth 20000 in
theorem gX6_solve_X0_widenToTheEnd : GoodIn wsX6_solve (wsV RX6 153 RX0 yX0_widenToTheEnd wsX0_widenToTheEnd) := goodIn_app (goodIn_of _ (by decide +kernel)) ggX6_solve_X0_widenToTheEnd
set_option maxRecDepth 20000 in
theorem ggX6_solve_X6_remember : GoodIn wsX6_solve wsX6_remember := goodIn_r _ [121, 122, 123, 3, 4, 124, 125, 126, 127, 128, 129, 130, 131, 66, 67, 68, 132, 133, 134, 135, 136, 137, 138, 139, 140, 141, 142, 143, 144, 145, 146, 157, 158, 159, 160, 161, 162, 163, 164, 165, 166, 167, 168, 169] (by decide +kernel) (by decide +kernel)
set_option maxRecDepth 20000 in
theorem gX6_solve_X6_remember : GoodIn wsX6_solve (wsV RX6 108 RX6 yX6_remember wsX6_remember) := goodIn_app (goodIn_of _ (by decide +kernel)) ggX6_solve_X6_remember
theorem dX6_solve_0 : decode cX6_solve 0 = .ok (.aload_n 0, 1) := by decide +kernel
theorem dX6_solve_1 : decode cX6_solve 1 = .ok (.getfield 30, 3) := by decide +kernel
theorem dX6_solve_4 : decode cX6_solve 4 = .ok (.getfield 143, 3) := by decide +kernel
theorem dX6_solve_7 : decode cX6_solve 7 = .ok (.istore_n 1, 1) := by decide +kernel
theorem dX6_solve_8 : decode cX6_solve 8 = .ok (.aload_n 0, 1) := by decide +kernel
theorem dX6_solve_9 : decode cX6_solve 9 = .ok (.getfield 30, 3) := by decide +kernel
theorem dX6_solve_12 : decode cX6_solve 12 = .ok (.invokevirtual 153, 3) := by decide +kernel
theorem dX6_solve_15 : decode cX6_solve 15 = .ok (.pop, 1) := by decide +kernel
theorem dX6_solve_16 : decode cX6_solve 16 = .ok (.aload_n 0, 1) := by decide +kernel
theorem dX6_solve_17 : decode cX6_solve 17 = .ok (.getfield 30, 3) := by decide +kernel
theorem dX6_solve_20 : decode cX6_solve 20 = .ok (.getfield 143, 3) := by decide +kernel
theorem dX6_solve_23 : decode cX6_solve 23 = .ok (.iload_n 1, 1) := by decide +kernel
theorem dX6_solve_24 : decode cX6_solve 24 = .ok (.if_icmp .ne 5, 3) := by decide +kernel
theorem dX6_solve_27 : decode cX6_solve 27 = .ok (.iconst (-1), 1) := by decide +kernel
theorem dX6_solve_28 : decode cX6_solve 28 = .ok (.ireturn, 1) := by decide +kernel
theorem dX6_solve_29 : decode cX6_solve 29 = .ok (.aload_n 0, 1) := by decide +kernel
theorem dX6_solve_30 : decode cX6_solve 30 = .ok (.invokevirtual 108, 3) := by decide +kernel
theorem dX6_solve_33 : decode cX6_solve 33 = .ok (.aload_n 0, 1) := by decide +kernel
theorem dX6_solve_34 : decode cX6_solve 34 = .ok (.getfield 10, 3) := by decide +kernel
theorem dX6_solve_37 : decode cX6_solve 37 = .ok (.getfield 85, 3) := by decide +kernel
theorem dX6_solve_40 : decode cX6_solve 40 = .ok (.aload_n 0, 1) := by decide +kernel
theorem dX6_solve_41 : decode cX6_solve 41 = .ok (.getfield 30, 3) := by decide +kernel
theorem dX6_solve_44 : decode cX6_solve 44 = .ok (.getfield 143, 3) := by decide +kernel
theorem dX6_solve_47 : decode cX6_solve 47 = .ok (.putfield 146, 3) := by decide +kernel
theorem dX6_solve_50 : decode cX6_solve 50 = .ok (.aload_n 0, 1) := by decide +kernel
theorem dX6_solve_51 : decode cX6_solve 51 = .ok (.getfield 30, 3) := by decide +kernel
theorem dX6_solve_54 : decode cX6_solve 54 = .ok (.getfield 143, 3) := by decide +kernel
theorem dX6_solve_57 : decode cX6_solve 57 = .ok (.iload_n 1, 1) := by decide +kernel
theorem dX6_solve_58 : decode cX6_solve 58 = .ok (.isub, 1) := by decide +kernel
theorem dX6_solve_59 : decode cX6_solve 59 = .ok (.ireturn, 1) := by decide +kernel
set_option maxRecDepth 20000 in
theorem ggX6_undo_X1_copyFrom : GoodIn wsX6_undo wsX1_copyFrom := goodIn_r _ [9, 10, 11, 12, 13, 14, 15, 16, 17, 18, 19, 182, 183, 184, 185, 186, 187] (by decide +kernel) (by decide +kernel)
set_option maxRecDepth 20000 in
theorem gX6_undo_X1_copyFrom : GoodIn wsX6_undo (wsV RX6 91 RX1 yX1_copyFrom wsX1_copyFrom) := goodIn_app (goodIn_of _ (by decide +kernel)) ggX6_undo_X1_copyFrom
set_option maxRecDepth 20000 in
theorem ggX6_undo_X6_makeCoreAnew : GoodIn wsX6_undo wsX6_makeCoreAnew := goodIn_r _ [24, 25, 2, 3, 26, 27, 28, 29, 30, 31, 32, 33, 34, 35, 36, 37, 38, 39, 40, 41, 42, 43, 44, 45, 46, 47, 48, 49, 50, 51, 52, 53, 54, 55, 56, 57, 58, 59, 60, 61, 62, 63, 64, 8, 65, 16, 10, 66, 67, 68, 69, 70, 71, 72, 73, 74, 75, 76, 77, 78, 79, 80, 81, 82, 83, 84, 85, 86, 87, 88, 89, 90, 91, 92, 93, 94, 95, 96, 97, 13, 14, 15, 98, 99, 100, 101, 102, 103, 104, 105, 106, 107, 108, 109, 110, 111, 112, 113, 114, 115, 116, 117, 118, 119, 120, 121, 122, 123, 124, 125, 126, 127, 128, 129, 130, 131, 132, 133, 134, 135, 136, 137, 138, 139, 140, 141, 142, 143, 144, 145, 146, 147, 148, 149, 150, 151, 152, 153, 154, 155, 156, 157, 158, 159, 160, 161, 162, 163, 164, 165, 166, 167, 168, 169, 170, 171, 172, 173, 174, 175, 176, 177, 178, 179, 180, 181, 182, 183, 184, 185, 186, 187, 188, 189, 190, 191, 192, 193, 194, 195, 196, 197, 198, 199, 200, 201, 202, 203, 204, 205, 206, 207, 208, 209, 210] (by decide +kernel) (by decide +kernel)
set_option maxRecDepth 20000 in
theorem gX6_undo_X6_makeCoreAnew : GoodIn wsX6_undo (wsV RX6 58 RX6 yX6_makeCoreAnew wsX6_makeCoreAnew) := goodIn_app (goodIn_of _ (by decide +kernel)) ggX6_undo_X6_makeCoreAnew
theorem dX6_undo_0 : decode cX6_undo 0 = .ok (.aload_n 0, 1) := by decide +kernel
theorem dX6_undo_1 : decode cX6_undo 1 = .ok (.getfield 95, 3) := by decide +kernel
theorem dX6_undo_4 : decode cX6_undo 4 = .ok (.iconst 1, 1) := by decide +kernel
theorem dX6_undo_5 : decode cX6_undo 5 = .ok (.if_icmp .ge 5, 3) := by decide +kernel
theorem dX6_undo_8 : decode cX6_undo 8 = .ok (.iconst (-1), 1) := by decide +kernel
theorem dX6_undo_9 : decode cX6_undo 9 = .ok (.ireturn, 1) := by decide +kernel
theorem dX6_undo_10 : decode cX6_undo 10 = .ok (.aload_n 0, 1) := by decide +kernel
theorem dX6_undo_11 : decode cX6_undo 11 = .ok (.dup, 1) := by decide +kernel
theorem dX6_undo_12 : decode cX6_undo 12 = .ok (.getfield 95, 3) := by decide +kernel
theorem dX6_undo_15 : decode cX6_undo 15 = .ok (.iconst 1, 1) := by decide +kernel
theorem dX6_undo_16 : decode cX6_undo 16 = .ok (.isub, 1) := by decide +kernel
theorem dX6_undo_17 : decode cX6_undo 17 = .ok (.putfield 95, 3) := by decide +kernel
theorem dX6_undo_20 : decode cX6_undo 20 = .ok (.aload_n 0, 1) := by decide +kernel
theorem dX6_undo_21 : decode cX6_undo 21 = .ok (.getfield 10, 3) := by decide +kernel
theorem dX6_undo_24 : decode cX6_undo 24 = .ok (.getfield 85, 3) := by decide +kernel
theorem dX6_undo_27 : decode cX6_undo 27 = .ok (.aload_n 0, 1) := by decide +kernel
theorem dX6_undo_28 : decode cX6_undo 28 = .ok (.getfield 22, 3) := by decide +kernel
theorem dX6_undo_31 : decode cX6_undo 31 = .ok (.aload_n 0, 1) := by decide +kernel
theorem dX6_undo_32 : decode cX6_undo 32 = .ok (.getfield 95, 3) := by decide +kernel
theorem dX6_undo_35 : decode cX6_undo 35 = .ok (.aaload, 1) := by decide +kernel
theorem dX6_undo_36 : decode cX6_undo 36 = .ok (.invokevirtual 91, 3) := by decide +kernel
theorem dX6_undo_39 : decode cX6_undo 39 = .ok (.aload_n 0, 1) := by decide +kernel
theorem dX6_undo_40 : decode cX6_undo 40 = .ok (.invokevirtual 58, 3) := by decide +kernel
theorem dX6_undo_43 : decode cX6_undo 43 = .ok (.aload_n 0, 1) := by decide +kernel
theorem dX6_undo_44 : decode cX6_undo 44 = .ok (.getfield 95, 3) := by decide +kernel
theorem dX6_undo_47 : decode cX6_undo 47 = .ok (.ireturn, 1) := by decide +kernel
set_option maxRecDepth 20000 in
theorem ggX6_count_X6_linearBound : GoodIn wsX6_count wsX6_linearBound := goodIn_r _ [24, 6, 7, 8, 10, 25, 26, 27, 28, 29, 30, 31, 32, 33, 34, 35, 36, 37, 38, 39, 40, 41, 42, 43, 44, 45, 46, 47, 96, 97, 98, 99, 100, 101, 102, 103, 104, 105, 106, 120, 121, 122, 123, 124, 125, 126, 127, 128, 129, 130, 131, 132, 133, 134, 135, 136, 137, 138] (by decide +kernel) (by decide +kernel)
set_option maxRecDepth 20000 in
theorem gX6_count_X6_linearBound : GoodIn wsX6_count (wsV RX6 172 RX6 yX6_linearBound wsX6_linearBound) := goodIn_app (goodIn_of _ (by decide +kernel)) ggX6_count_X6_linearBound
set_option maxRecDepth 20000 in
theorem ggX6_count_X0_isProved : GoodIn wsX6_count wsX0_isProved := goodIn_r _ [52, 53, 54, 55, 56, 57, 58, 120, 121, 122, 123, 124, 125, 126, 127, 128, 129, 139, 140, 141, 142, 130, 131, 132, 133, 134, 135, 136, 137, 138] (by decide +kernel) (by decide +kernel)
set_option maxRecDepth 20000 in
theorem gX6_count_X0_isProved : GoodIn wsX6_count (wsV RX6 136 RX0 yX0_isProved wsX0_isProved) := goodIn_app (goodIn_of _ (by decide +kernel)) ggX6_count_X0_isProved
set_option maxRecDepth 20000 in
theorem ggX6_count_X6_countFixed : GoodIn wsX6_count wsX6_countFixed := goodIn_r _ [62, 1, 2, 3, 63, 64, 65, 23, 66, 6, 7, 16, 25, 26, 27, 28, 29, 30, 31, 67, 68, 69, 70, 71, 43, 42, 72, 33, 34, 35, 36, 37, 73, 39, 40, 41, 44, 45, 46, 47, 96, 97, 98, 99, 100, 101, 102, 103, 104, 105, 106, 107, 108, 109, 110, 111, 112, 113, 114, 115, 116, 117, 118, 119, 120, 121, 122, 123, 124, 125, 126, 127, 128, 129, 130, 131, 132, 133, 134, 135, 136, 137, 138] (by decide +kernel) (by decide +kernel)
set_option maxRecDepth 20000 in
theorem gX6_count_X6_countFixed : GoodIn wsX6_count (wsV RX6 187 RX6 yX6_countFixed wsX6_countFixed) := goodIn_app (goodIn_of _ (by decide +kernel)) ggX6_count_X6_countFixed
set_option maxRecDepth 20000 in
theorem ggX6_count_X0_countFitting : GoodIn wsX6_count wsX0_countFitting := goodIn_r _ [77, 53, 54, 78, 57, 79, 120, 121, 122, 123, 124, 125, 126, 127, 128, 129, 139, 140, 141, 142, 130, 131, 132, 133, 134, 135, 136, 137, 138] (by decide +kernel) (by decide +kernel)
set_option maxRecDepth 20000 in
theorem gX6_count_X0_countFitting : GoodIn wsX6_count (wsV RX6 190 RX0 yX0_countFitting wsX0_countFitting) := goodIn_app (goodIn_of _ (by decide +kernel)) ggX6_count_X0_countFitting
set_option maxRecDepth 20000 in
theorem ggX6_count_X1_allWeights : GoodIn wsX6_count wsX1_allWeights := goodIn_r _ [84, 85, 86, 87, 88, 83, 89, 90, 114, 115, 116, 117, 118, 119] (by decide +kernel) (by decide +kernel)
set_option maxRecDepth 20000 in
theorem gX6_count_X1_allWeights : GoodIn wsX6_count (wsV RX6 193 RX1 yX1_allWeights wsX1_allWeights) := goodIn_app (goodIn_of _ (by decide +kernel)) ggX6_count_X1_allWeights
set_option maxRecDepth 20000 in
theorem ggX6_count_X1_allProfits : GoodIn wsX6_count wsX1_allProfits := goodIn_r _ [94, 95, 86, 87, 88, 83, 89, 90, 114, 115, 116, 117, 118, 119] (by decide +kernel) (by decide +kernel)
set_option maxRecDepth 20000 in
theorem gX6_count_X1_allProfits : GoodIn wsX6_count (wsV RX6 197 RX1 yX1_allProfits wsX1_allProfits) := goodIn_app (goodIn_of _ (by decide +kernel)) ggX6_count_X1_allProfits
theorem dX6_count_0 : decode cX6_count 0 = .ok (.iload_n 1, 1) := by decide +kernel
theorem dX6_count_1 : decode cX6_count 1 = .ok (.tableswitch 296 0 19 #[95, 106, 117, 128, 139, 150, 161, 166, 174, 182, 190, 201, 230, 238, 246, 251, 256, 264, 272, 284], 95) := by decide +kernel
theorem dX6_count_96 : decode cX6_count 96 = .ok (.aload_n 0, 1) := by decide +kernel
theorem dX6_count_97 : decode cX6_count 97 = .ok (.getfield 10, 3) := by decide +kernel
theorem dX6_count_100 : decode cX6_count 100 = .ok (.getfield 85, 3) := by decide +kernel
theorem dX6_count_103 : decode cX6_count 103 = .ok (.getfield 98, 3) := by decide +kernel
theorem dX6_count_106 : decode cX6_count 106 = .ok (.ireturn, 1) := by decide +kernel
theorem dX6_count_107 : decode cX6_count 107 = .ok (.aload_n 0, 1) := by decide +kernel
theorem dX6_count_108 : decode cX6_count 108 = .ok (.getfield 10, 3) := by decide +kernel
theorem dX6_count_111 : decode cX6_count 111 = .ok (.getfield 85, 3) := by decide +kernel
theorem dX6_count_114 : decode cX6_count 114 = .ok (.getfield 105, 3) := by decide +kernel
theorem dX6_count_117 : decode cX6_count 117 = .ok (.ireturn, 1) := by decide +kernel
theorem dX6_count_118 : decode cX6_count 118 = .ok (.aload_n 0, 1) := by decide +kernel
theorem dX6_count_119 : decode cX6_count 119 = .ok (.getfield 10, 3) := by decide +kernel
theorem dX6_count_122 : decode cX6_count 122 = .ok (.getfield 85, 3) := by decide +kernel
theorem dX6_count_125 : decode cX6_count 125 = .ok (.getfield 117, 3) := by decide +kernel
theorem dX6_count_128 : decode cX6_count 128 = .ok (.ireturn, 1) := by decide +kernel
theorem dX6_count_129 : decode cX6_count 129 = .ok (.aload_n 0, 1) := by decide +kernel
theorem dX6_count_130 : decode cX6_count 130 = .ok (.getfield 30, 3) := by decide +kernel
theorem dX6_count_133 : decode cX6_count 133 = .ok (.getfield 157, 3) := by decide +kernel
theorem dX6_count_136 : decode cX6_count 136 = .ok (.getfield 161, 3) := by decide +kernel
theorem dX6_count_139 : decode cX6_count 139 = .ok (.ireturn, 1) := by decide +kernel
theorem dX6_count_140 : decode cX6_count 140 = .ok (.aload_n 0, 1) := by decide +kernel
theorem dX6_count_141 : decode cX6_count 141 = .ok (.getfield 30, 3) := by decide +kernel
theorem dX6_count_144 : decode cX6_count 144 = .ok (.getfield 157, 3) := by decide +kernel
theorem dX6_count_147 : decode cX6_count 147 = .ok (.getfield 166, 3) := by decide +kernel
theorem dX6_count_150 : decode cX6_count 150 = .ok (.ireturn, 1) := by decide +kernel
theorem dX6_count_151 : decode cX6_count 151 = .ok (.aload_n 0, 1) := by decide +kernel
theorem dX6_count_152 : decode cX6_count 152 = .ok (.getfield 30, 3) := by decide +kernel
theorem dX6_count_155 : decode cX6_count 155 = .ok (.getfield 157, 3) := by decide +kernel
theorem dX6_count_158 : decode cX6_count 158 = .ok (.getfield 169, 3) := by decide +kernel
theorem dX6_count_161 : decode cX6_count 161 = .ok (.ireturn, 1) := by decide +kernel
theorem dX6_count_162 : decode cX6_count 162 = .ok (.aload_n 0, 1) := by decide +kernel
theorem dX6_count_163 : decode cX6_count 163 = .ok (.invokevirtual 172, 3) := by decide +kernel
theorem dX6_count_166 : decode cX6_count 166 = .ok (.ireturn, 1) := by decide +kernel
theorem dX6_count_167 : decode cX6_count 167 = .ok (.aload_n 0, 1) := by decide +kernel
theorem dX6_count_168 : decode cX6_count 168 = .ok (.getfield 30, 3) := by decide +kernel
theorem dX6_count_171 : decode cX6_count 171 = .ok (.getfield 175, 3) := by decide +kernel
theorem dX6_count_174 : decode cX6_count 174 = .ok (.ireturn, 1) := by decide +kernel
theorem dX6_count_175 : decode cX6_count 175 = .ok (.aload_n 0, 1) := by decide +kernel
theorem dX6_count_176 : decode cX6_count 176 = .ok (.getfield 30, 3) := by decide +kernel
theorem dX6_count_179 : decode cX6_count 179 = .ok (.getfield 178, 3) := by decide +kernel
theorem dX6_count_182 : decode cX6_count 182 = .ok (.ireturn, 1) := by decide +kernel
theorem dX6_count_183 : decode cX6_count 183 = .ok (.aload_n 0, 1) := by decide +kernel
theorem dX6_count_184 : decode cX6_count 184 = .ok (.getfield 30, 3) := by decide +kernel
theorem dX6_count_187 : decode cX6_count 187 = .ok (.getfield 143, 3) := by decide +kernel
theorem dX6_count_190 : decode cX6_count 190 = .ok (.ireturn, 1) := by decide +kernel
theorem dX6_count_191 : decode cX6_count 191 = .ok (.aload_n 0, 1) := by decide +kernel
theorem dX6_count_192 : decode cX6_count 192 = .ok (.getfield 30, 3) := by decide +kernel
theorem dX6_count_195 : decode cX6_count 195 = .ok (.getfield 147, 3) := by decide +kernel
theorem dX6_count_198 : decode cX6_count 198 = .ok (.getfield 150, 3) := by decide +kernel
theorem dX6_count_201 : decode cX6_count 201 = .ok (.ireturn, 1) := by decide +kernel
theorem dX6_count_202 : decode cX6_count 202 = .ok (.aload_n 0, 1) := by decide +kernel
theorem dX6_count_203 : decode cX6_count 203 = .ok (.getfield 30, 3) := by decide +kernel
theorem dX6_count_206 : decode cX6_count 206 = .ok (.invokevirtual 136, 3) := by decide +kernel
theorem dX6_count_209 : decode cX6_count 209 = .ok (.ifCond .eq 20, 3) := by decide +kernel
theorem dX6_count_212 : decode cX6_count 212 = .ok (.aload_n 0, 1) := by decide +kernel
theorem dX6_count_213 : decode cX6_count 213 = .ok (.getfield 10, 3) := by decide +kernel
theorem dX6_count_216 : decode cX6_count 216 = .ok (.getfield 85, 3) := by decide +kernel
theorem dX6_count_219 : decode cX6_count 219 = .ok (.getfield 98, 3) := by decide +kernel
theorem dX6_count_222 : decode cX6_count 222 = .ok (.ifCond .le 7, 3) := by decide +kernel
theorem dX6_count_225 : decode cX6_count 225 = .ok (.iconst 1, 1) := by decide +kernel
theorem dX6_count_226 : decode cX6_count 226 = .ok (.goto 4, 3) := by decide +kernel
theorem dX6_count_229 : decode cX6_count 229 = .ok (.iconst 0, 1) := by decide +kernel
theorem dX6_count_230 : decode cX6_count 230 = .ok (.ireturn, 1) := by decide +kernel
theorem dX6_count_231 : decode cX6_count 231 = .ok (.aload_n 0, 1) := by decide +kernel
theorem dX6_count_232 : decode cX6_count 232 = .ok (.getfield 30, 3) := by decide +kernel
theorem dX6_count_235 : decode cX6_count 235 = .ok (.getfield 181, 3) := by decide +kernel
theorem dX6_count_238 : decode cX6_count 238 = .ok (.ireturn, 1) := by decide +kernel
theorem dX6_count_239 : decode cX6_count 239 = .ok (.aload_n 0, 1) := by decide +kernel
theorem dX6_count_240 : decode cX6_count 240 = .ok (.getfield 30, 3) := by decide +kernel
theorem dX6_count_243 : decode cX6_count 243 = .ok (.getfield 184, 3) := by decide +kernel
theorem dX6_count_246 : decode cX6_count 246 = .ok (.ireturn, 1) := by decide +kernel
theorem dX6_count_247 : decode cX6_count 247 = .ok (.aload_n 0, 1) := by decide +kernel
theorem dX6_count_248 : decode cX6_count 248 = .ok (.invokevirtual 187, 3) := by decide +kernel
theorem dX6_count_251 : decode cX6_count 251 = .ok (.ireturn, 1) := by decide +kernel
theorem dX6_count_252 : decode cX6_count 252 = .ok (.aload_n 0, 1) := by decide +kernel
theorem dX6_count_253 : decode cX6_count 253 = .ok (.getfield 95, 3) := by decide +kernel
theorem dX6_count_256 : decode cX6_count 256 = .ok (.ireturn, 1) := by decide +kernel
theorem dX6_count_257 : decode cX6_count 257 = .ok (.aload_n 0, 1) := by decide +kernel
theorem dX6_count_258 : decode cX6_count 258 = .ok (.getfield 10, 3) := by decide +kernel
theorem dX6_count_261 : decode cX6_count 261 = .ok (.getfield 65, 3) := by decide +kernel
theorem dX6_count_264 : decode cX6_count 264 = .ok (.ireturn, 1) := by decide +kernel
theorem dX6_count_265 : decode cX6_count 265 = .ok (.aload_n 0, 1) := by decide +kernel
theorem dX6_count_266 : decode cX6_count 266 = .ok (.getfield 30, 3) := by decide +kernel
theorem dX6_count_269 : decode cX6_count 269 = .ok (.invokevirtual 190, 3) := by decide +kernel
theorem dX6_count_272 : decode cX6_count 272 = .ok (.ireturn, 1) := by decide +kernel
theorem dX6_count_273 : decode cX6_count 273 = .ok (.aload_n 0, 1) := by decide +kernel
theorem dX6_count_274 : decode cX6_count 274 = .ok (.getfield 10, 3) := by decide +kernel
theorem dX6_count_277 : decode cX6_count 277 = .ok (.getfield 85, 3) := by decide +kernel
theorem dX6_count_280 : decode cX6_count 280 = .ok (.invokevirtual 193, 3) := by decide +kernel
theorem dX6_count_283 : decode cX6_count 283 = .ok (.l2i, 1) := by decide +kernel
theorem dX6_count_284 : decode cX6_count 284 = .ok (.ireturn, 1) := by decide +kernel
theorem dX6_count_285 : decode cX6_count 285 = .ok (.aload_n 0, 1) := by decide +kernel
theorem dX6_count_286 : decode cX6_count 286 = .ok (.getfield 10, 3) := by decide +kernel
theorem dX6_count_289 : decode cX6_count 289 = .ok (.getfield 85, 3) := by decide +kernel
theorem dX6_count_292 : decode cX6_count 292 = .ok (.invokevirtual 197, 3) := by decide +kernel
theorem dX6_count_295 : decode cX6_count 295 = .ok (.l2i, 1) := by decide +kernel
theorem dX6_count_296 : decode cX6_count 296 = .ok (.ireturn, 1) := by decide +kernel
theorem dX6_count_297 : decode cX6_count 297 = .ok (.iconst (-1), 1) := by decide +kernel
theorem dX6_count_298 : decode cX6_count 298 = .ok (.ireturn, 1) := by decide +kernel
set_option maxRecDepth 20000 in
theorem ggX6_item_X1_has : GoodIn wsX6_item wsX1_has := goodIn_r _ [14, 15, 76, 77, 78, 79, 80, 81] (by decide +kernel) (by decide +kernel)
set_option maxRecDepth 20000 in
theorem gX6_item_X1_has : GoodIn wsX6_item (wsV RX6 128 RX1 yX1_has wsX1_has) := goodIn_app (goodIn_of _ (by decide +kernel)) ggX6_item_X1_has
set_option maxRecDepth 20000 in
theorem ggX6_item_X0_bestHas : GoodIn wsX6_item wsX0_bestHas := goodIn_r _ [20, 21, 22, 23, 82, 83, 84, 85, 86, 87, 88, 89, 90, 91, 92, 93, 94, 95, 96, 97, 98, 99, 100] (by decide +kernel) (by decide +kernel)
set_option maxRecDepth 20000 in
theorem gX6_item_X0_bestHas : GoodIn wsX6_item (wsV RX6 217 RX0 yX0_bestHas wsX0_bestHas) := goodIn_app (goodIn_of _ (by decide +kernel)) ggX6_item_X0_bestHas
set_option maxRecDepth 20000 in
theorem ggX6_item_X6_isFixed : GoodIn wsX6_item wsX6_isFixed := goodIn_r _ [28, 7, 8, 29, 30, 31, 32, 33, 34, 35, 36, 37, 38, 39, 40, 41, 42, 43, 44, 45, 46, 47, 48, 49, 50, 51, 52, 53, 54, 55, 56, 57, 58, 59, 60, 61, 62, 63, 64, 65, 66, 67, 68, 82, 83, 84, 85, 86, 87, 88, 89, 90, 91, 92, 93, 94, 95, 96, 97, 98, 99, 100] (by decide +kernel) (by decide +kernel)
set_option maxRecDepth 20000 in
theorem gX6_item_X6_isFixed : GoodIn wsX6_item (wsV RX6 220 RX6 yX6_isFixed wsX6_isFixed) := goodIn_app (goodIn_of _ (by decide +kernel)) ggX6_item_X6_isFixed
theorem dX6_item_0 : decode cX6_item 0 = .ok (.aload_n 0, 1) := by decide +kernel
theorem dX6_item_1 : decode cX6_item 1 = .ok (.getfield 10, 3) := by decide +kernel
theorem dX6_item_4 : decode cX6_item 4 = .ok (.getfield 85, 3) := by decide +kernel
theorem dX6_item_7 : decode cX6_item 7 = .ok (.iload_n 1, 1) := by decide +kernel
theorem dX6_item_8 : decode cX6_item 8 = .ok (.invokevirtual 128, 3) := by decide +kernel
theorem dX6_item_11 : decode cX6_item 11 = .ok (.ifCond .ne 13, 3) := by decide +kernel
theorem dX6_item_14 : decode cX6_item 14 = .ok (.new 200, 3) := by decide +kernel
theorem dX6_item_17 : decode cX6_item 17 = .ok (.dup, 1) := by decide +kernel
theorem dX6_item_18 : decode cX6_item 18 = .ok (.ldc 202, 2) := by decide +kernel
theorem dX6_item_20 : decode cX6_item 20 = .ok (.invokespecial 204, 3) := by decide +kernel
theorem dX6_item_23 : decode cX6_item 23 = .ok (.athrow, 1) := by decide +kernel
theorem dX6_item_24 : decode cX6_item 24 = .ok (.iload_n 2, 1) := by decide +kernel
theorem dX6_item_25 : decode cX6_item 25 = .ok (.tableswitch 127 0 4 #[35, 48, 61, 74, 102], 35) := by decide +kernel
theorem dX6_item_60 : decode cX6_item 60 = .ok (.aload_n 0, 1) := by decide +kernel
theorem dX6_item_61 : decode cX6_item 61 = .ok (.getfield 10, 3) := by decide +kernel
theorem dX6_item_64 : decode cX6_item 64 = .ok (.getfield 85, 3) := by decide +kernel
theorem dX6_item_67 : decode cX6_item 67 = .ok (.getfield 207, 3) := by decide +kernel
theorem dX6_item_70 : decode cX6_item 70 = .ok (.iload_n 1, 1) := by decide +kernel
theorem dX6_item_71 : decode cX6_item 71 = .ok (.iaload, 1) := by decide +kernel
theorem dX6_item_72 : decode cX6_item 72 = .ok (.ireturn, 1) := by decide +kernel
theorem dX6_item_73 : decode cX6_item 73 = .ok (.aload_n 0, 1) := by decide +kernel
theorem dX6_item_74 : decode cX6_item 74 = .ok (.getfield 10, 3) := by decide +kernel
theorem dX6_item_77 : decode cX6_item 77 = .ok (.getfield 85, 3) := by decide +kernel
theorem dX6_item_80 : decode cX6_item 80 = .ok (.getfield 211, 3) := by decide +kernel
theorem dX6_item_83 : decode cX6_item 83 = .ok (.iload_n 1, 1) := by decide +kernel
theorem dX6_item_84 : decode cX6_item 84 = .ok (.iaload, 1) := by decide +kernel
theorem dX6_item_85 : decode cX6_item 85 = .ok (.ireturn, 1) := by decide +kernel
theorem dX6_item_86 : decode cX6_item 86 = .ok (.aload_n 0, 1) := by decide +kernel
theorem dX6_item_87 : decode cX6_item 87 = .ok (.getfield 30, 3) := by decide +kernel
theorem dX6_item_90 : decode cX6_item 90 = .ok (.getfield 157, 3) := by decide +kernel
theorem dX6_item_93 : decode cX6_item 93 = .ok (.getfield 214, 3) := by decide +kernel
theorem dX6_item_96 : decode cX6_item 96 = .ok (.iload_n 1, 1) := by decide +kernel
theorem dX6_item_97 : decode cX6_item 97 = .ok (.iaload, 1) := by decide +kernel
theorem dX6_item_98 : decode cX6_item 98 = .ok (.ireturn, 1) := by decide +kernel
theorem dX6_item_99 : decode cX6_item 99 = .ok (.aload_n 0, 1) := by decide +kernel
theorem dX6_item_100 : decode cX6_item 100 = .ok (.getfield 30, 3) := by decide +kernel
theorem dX6_item_103 : decode cX6_item 103 = .ok (.aload_n 0, 1) := by decide +kernel
theorem dX6_item_104 : decode cX6_item 104 = .ok (.getfield 30, 3) := by decide +kernel
theorem dX6_item_107 : decode cX6_item 107 = .ok (.getfield 157, 3) := by decide +kernel
theorem dX6_item_110 : decode cX6_item 110 = .ok (.getfield 214, 3) := by decide +kernel
theorem dX6_item_113 : decode cX6_item 113 = .ok (.iload_n 1, 1) := by decide +kernel
theorem dX6_item_114 : decode cX6_item 114 = .ok (.iaload, 1) := by decide +kernel
theorem dX6_item_115 : decode cX6_item 115 = .ok (.invokevirtual 217, 3) := by decide +kernel
theorem dX6_item_118 : decode cX6_item 118 = .ok (.ifCond .eq 7, 3) := by decide +kernel
theorem dX6_item_121 : decode cX6_item 121 = .ok (.iconst 1, 1) := by decide +kernel
theorem dX6_item_122 : decode cX6_item 122 = .ok (.goto 4, 3) := by decide +kernel
theorem dX6_item_125 : decode cX6_item 125 = .ok (.iconst 0, 1) := by decide +kernel
theorem dX6_item_126 : decode cX6_item 126 = .ok (.ireturn, 1) := by decide +kernel
theorem dX6_item_127 : decode cX6_item 127 = .ok (.aload_n 0, 1) := by decide +kernel
theorem dX6_item_128 : decode cX6_item 128 = .ok (.aload_n 0, 1) := by decide +kernel
theorem dX6_item_129 : decode cX6_item 129 = .ok (.getfield 30, 3) := by decide +kernel
theorem dX6_item_132 : decode cX6_item 132 = .ok (.getfield 157, 3) := by decide +kernel
theorem dX6_item_135 : decode cX6_item 135 = .ok (.getfield 214, 3) := by decide +kernel
theorem dX6_item_138 : decode cX6_item 138 = .ok (.iload_n 1, 1) := by decide +kernel
theorem dX6_item_139 : decode cX6_item 139 = .ok (.iaload, 1) := by decide +kernel
theorem dX6_item_140 : decode cX6_item 140 = .ok (.invokevirtual 220, 3) := by decide +kernel
theorem dX6_item_143 : decode cX6_item 143 = .ok (.ifCond .eq 7, 3) := by decide +kernel
theorem dX6_item_146 : decode cX6_item 146 = .ok (.iconst 1, 1) := by decide +kernel
theorem dX6_item_147 : decode cX6_item 147 = .ok (.goto 4, 3) := by decide +kernel
theorem dX6_item_150 : decode cX6_item 150 = .ok (.iconst 0, 1) := by decide +kernel
theorem dX6_item_151 : decode cX6_item 151 = .ok (.ireturn, 1) := by decide +kernel
theorem dX6_item_152 : decode cX6_item 152 = .ok (.new 200, 3) := by decide +kernel
theorem dX6_item_155 : decode cX6_item 155 = .ok (.dup, 1) := by decide +kernel
theorem dX6_item_156 : decode cX6_item 156 = .ok (.ldc 223, 2) := by decide +kernel
theorem dX6_item_158 : decode cX6_item 158 = .ok (.invokespecial 204, 3) := by decide +kernel
theorem dX6_item_161 : decode cX6_item 161 = .ok (.athrow, 1) := by decide +kernel
set_option maxRecDepth 20000 in
theorem ggX6_reduced_X1_has : GoodIn wsX6_reduced wsX1_has := goodIn_r _ [10, 11, 77, 78, 79, 80, 81, 82] (by decide +kernel) (by decide +kernel)
set_option maxRecDepth 20000 in
theorem gX6_reduced_X1_has : GoodIn wsX6_reduced (wsV RX6 128 RX1 yX1_has wsX1_has) := goodIn_app (goodIn_of _ (by decide +kernel)) ggX6_reduced_X1_has
set_option maxRecDepth 20000 in
theorem ggX6_reduced_X2_breakIsItem : GoodIn wsX6_reduced wsX2_breakIsItem := goodIn_r _ [16, 17, 18, 68, 69, 70, 71, 72, 73, 74, 75, 76] (by decide +kernel) (by decide +kernel)
set_option maxRecDepth 20000 in
theorem gX6_reduced_X2_breakIsItem : GoodIn wsX6_reduced (wsV RX6 225 RX2 yX2_breakIsItem wsX2_breakIsItem) := goodIn_app (goodIn_of _ (by decide +kernel)) ggX6_reduced_X2_breakIsItem
set_option maxRecDepth 20000 in
theorem ggX6_reduced_X2_reducedAt : GoodIn wsX6_reduced wsX2_reducedAt := goodIn_r _ [22, 18, 17, 23, 24, 25, 26, 27, 28, 15, 29, 30, 31, 32, 33, 34, 35, 36, 37, 38, 39, 68, 69, 70, 71, 72, 73, 74, 75, 76] (by decide +kernel) (by decide +kernel)
set_option maxRecDepth 20000 in
theorem gX6_reduced_X2_reducedAt : GoodIn wsX6_reduced (wsV RX6 228 RX2 yX2_reducedAt wsX2_reducedAt) := goodIn_app (goodIn_of _ (by decide +kernel)) ggX6_reduced_X2_reducedAt
theorem dX6_reduced_0 : decode cX6_reduced 0 = .ok (.aload_n 0, 1) := by decide +kernel
theorem dX6_reduced_1 : decode cX6_reduced 1 = .ok (.getfield 10, 3) := by decide +kernel
theorem dX6_reduced_4 : decode cX6_reduced 4 = .ok (.getfield 85, 3) := by decide +kernel
theorem dX6_reduced_7 : decode cX6_reduced 7 = .ok (.iload_n 1, 1) := by decide +kernel
theorem dX6_reduced_8 : decode cX6_reduced 8 = .ok (.invokevirtual 128, 3) := by decide +kernel
theorem dX6_reduced_11 : decode cX6_reduced 11 = .ok (.ifCond .eq 16, 3) := by decide +kernel
theorem dX6_reduced_14 : decode cX6_reduced 14 = .ok (.aload_n 0, 1) := by decide +kernel
theorem dX6_reduced_15 : decode cX6_reduced 15 = .ok (.getfield 30, 3) := by decide +kernel
theorem dX6_reduced_18 : decode cX6_reduced 18 = .ok (.getfield 157, 3) := by decide +kernel
theorem dX6_reduced_21 : decode cX6_reduced 21 = .ok (.invokevirtual 225, 3) := by decide +kernel
theorem dX6_reduced_24 : decode cX6_reduced 24 = .ok (.ifCond .ne 5, 3) := by decide +kernel
theorem dX6_reduced_27 : decode cX6_reduced 27 = .ok (.lconst 0, 1) := by decide +kernel
theorem dX6_reduced_28 : decode cX6_reduced 28 = .ok (.lreturn, 1) := by decide +kernel
theorem dX6_reduced_29 : decode cX6_reduced 29 = .ok (.aload_n 0, 1) := by decide +kernel
theorem dX6_reduced_30 : decode cX6_reduced 30 = .ok (.getfield 30, 3) := by decide +kernel
theorem dX6_reduced_33 : decode cX6_reduced 33 = .ok (.getfield 157, 3) := by decide +kernel
theorem dX6_reduced_36 : decode cX6_reduced 36 = .ok (.aload_n 0, 1) := by decide +kernel
theorem dX6_reduced_37 : decode cX6_reduced 37 = .ok (.getfield 30, 3) := by decide +kernel
theorem dX6_reduced_40 : decode cX6_reduced 40 = .ok (.getfield 157, 3) := by decide +kernel
theorem dX6_reduced_43 : decode cX6_reduced 43 = .ok (.getfield 214, 3) := by decide +kernel
theorem dX6_reduced_46 : decode cX6_reduced 46 = .ok (.iload_n 1, 1) := by decide +kernel
theorem dX6_reduced_47 : decode cX6_reduced 47 = .ok (.iaload, 1) := by decide +kernel
theorem dX6_reduced_48 : decode cX6_reduced 48 = .ok (.invokevirtual 228, 3) := by decide +kernel
theorem dX6_reduced_51 : decode cX6_reduced 51 = .ok (.lreturn, 1) := by decide +kernel
set_option maxRecDepth 20000 in
theorem ggX6_order_X1_has : GoodIn wsX6_order wsX1_has := goodIn_r _ [10, 11, 49, 50, 51, 52, 53, 54] (by decide +kernel) (by decide +kernel)
set_option maxRecDepth 20000 in
theorem gX6_order_X1_has : GoodIn wsX6_order (wsV RX6 128 RX1 yX1_has wsX1_has) := goodIn_app (goodIn_of _ (by decide +kernel)) ggX6_order_X1_has
theorem dX6_order_0 : decode cX6_order 0 = .ok (.aload_n 0, 1) := by decide +kernel
theorem dX6_order_1 : decode cX6_order 1 = .ok (.getfield 10, 3) := by decide +kernel
theorem dX6_order_4 : decode cX6_order 4 = .ok (.getfield 85, 3) := by decide +kernel
theorem dX6_order_7 : decode cX6_order 7 = .ok (.iload_n 1, 1) := by decide +kernel
theorem dX6_order_8 : decode cX6_order 8 = .ok (.invokevirtual 128, 3) := by decide +kernel
theorem dX6_order_11 : decode cX6_order 11 = .ok (.ifCond .eq 18, 3) := by decide +kernel
theorem dX6_order_14 : decode cX6_order 14 = .ok (.aload_n 0, 1) := by decide +kernel
theorem dX6_order_15 : decode cX6_order 15 = .ok (.getfield 30, 3) := by decide +kernel
theorem dX6_order_18 : decode cX6_order 18 = .ok (.getfield 157, 3) := by decide +kernel
theorem dX6_order_21 : decode cX6_order 21 = .ok (.getfield 232, 3) := by decide +kernel
theorem dX6_order_24 : decode cX6_order 24 = .ok (.iload_n 1, 1) := by decide +kernel
theorem dX6_order_25 : decode cX6_order 25 = .ok (.iaload, 1) := by decide +kernel
theorem dX6_order_26 : decode cX6_order 26 = .ok (.goto 4, 3) := by decide +kernel
theorem dX6_order_29 : decode cX6_order 29 = .ok (.iconst (-1), 1) := by decide +kernel
theorem dX6_order_30 : decode cX6_order 30 = .ok (.ireturn, 1) := by decide +kernel
set_option maxRecDepth 20000 in
theorem ggX6_set_X4_has : GoodIn wsX6_set wsX4_has := goodIn_r _ [12, 13, 67, 68, 69, 70] (by decide +kernel) (by decide +kernel)
set_option maxRecDepth 20000 in
theorem gX6_set_X4_has : GoodIn wsX6_set (wsV RX6 235 RX4 yX4_has wsX4_has) := goodIn_app (goodIn_of _ (by decide +kernel)) ggX6_set_X4_has
set_option maxRecDepth 20000 in
theorem ggX6_set_X0_boundOf : GoodIn wsX6_set wsX0_boundOf := goodIn_r _ [18, 19, 20, 21, 22, 23, 24, 25, 26, 27, 28, 29, 30, 31, 32, 33, 34, 35, 36, 37, 38, 57, 58, 59, 60, 61, 62, 63, 64, 65, 66, 71, 72, 73, 74, 75, 76, 77, 78, 79, 67, 68, 69, 70] (by decide +kernel) (by decide +kernel)
set_option maxRecDepth 20000 in
theorem gX6_set_X0_boundOf : GoodIn wsX6_set (wsV RX6 240 RX0 yX0_boundOf wsX0_boundOf) := goodIn_app (goodIn_of _ (by decide +kernel)) ggX6_set_X0_boundOf
set_option maxRecDepth 20000 in
theorem ggX6_set_J13_bitCount_95d88 : GoodIn wsX6_set wsJ13_bitCount_95d88 := goodIn_r _ [42, 43, 44, 45] (by decide +kernel) (by decide +kernel)
set_option maxRecDepth 20000 in
theorem gX6_set_J13_bitCount_95d88 : GoodIn wsX6_set (va_wsS RX6 247 yJ13_bitCount_95d88 wsJ13_bitCount_95d88) := goodIn_app (goodIn_of _ (by decide +kernel)) ggX6_set_J13_bitCount_95d88
theorem dX6_set_0 : decode cX6_set 0 = .ok (.aload_n 0, 1) := by decide +kernel
theorem dX6_set_1 : decode cX6_set 1 = .ok (.getfield 30, 3) := by decide +kernel
theorem dX6_set_4 : decode cX6_set 4 = .ok (.getfield 147, 3) := by decide +kernel
theorem dX6_set_7 : decode cX6_set 7 = .ok (.iload_n 1, 1) := by decide +kernel
theorem dX6_set_8 : decode cX6_set 8 = .ok (.invokevirtual 235, 3) := by decide +kernel
theorem dX6_set_11 : decode cX6_set 11 = .ok (.ifCond .ne 13, 3) := by decide +kernel
theorem dX6_set_14 : decode cX6_set 14 = .ok (.new 200, 3) := by decide +kernel
theorem dX6_set_17 : decode cX6_set 17 = .ok (.dup, 1) := by decide +kernel
theorem dX6_set_18 : decode cX6_set 18 = .ok (.ldc 236, 2) := by decide +kernel
theorem dX6_set_20 : decode cX6_set 20 = .ok (.invokespecial 204, 3) := by decide +kernel
theorem dX6_set_23 : decode cX6_set 23 = .ok (.athrow, 1) := by decide +kernel
theorem dX6_set_24 : decode cX6_set 24 = .ok (.iload_n 2, 1) := by decide +kernel
theorem dX6_set_25 : decode cX6_set 25 = .ok (.tableswitch 102 0 4 #[35, 49, 63, 72, 85], 35) := by decide +kernel
theorem dX6_set_60 : decode cX6_set 60 = .ok (.aload_n 0, 1) := by decide +kernel
theorem dX6_set_61 : decode cX6_set 61 = .ok (.getfield 30, 3) := by decide +kernel
theorem dX6_set_64 : decode cX6_set 64 = .ok (.getfield 147, 3) := by decide +kernel
theorem dX6_set_67 : decode cX6_set 67 = .ok (.getfield 238, 3) := by decide +kernel
theorem dX6_set_70 : decode cX6_set 70 = .ok (.iload_n 1, 1) := by decide +kernel
theorem dX6_set_71 : decode cX6_set 71 = .ok (.iaload, 1) := by decide +kernel
theorem dX6_set_72 : decode cX6_set 72 = .ok (.i2l, 1) := by decide +kernel
theorem dX6_set_73 : decode cX6_set 73 = .ok (.lreturn, 1) := by decide +kernel
theorem dX6_set_74 : decode cX6_set 74 = .ok (.aload_n 0, 1) := by decide +kernel
theorem dX6_set_75 : decode cX6_set 75 = .ok (.getfield 30, 3) := by decide +kernel
theorem dX6_set_78 : decode cX6_set 78 = .ok (.getfield 147, 3) := by decide +kernel
theorem dX6_set_81 : decode cX6_set 81 = .ok (.getfield 239, 3) := by decide +kernel
theorem dX6_set_84 : decode cX6_set 84 = .ok (.iload_n 1, 1) := by decide +kernel
theorem dX6_set_85 : decode cX6_set 85 = .ok (.iaload, 1) := by decide +kernel
theorem dX6_set_86 : decode cX6_set 86 = .ok (.i2l, 1) := by decide +kernel
theorem dX6_set_87 : decode cX6_set 87 = .ok (.lreturn, 1) := by decide +kernel
theorem dX6_set_88 : decode cX6_set 88 = .ok (.aload_n 0, 1) := by decide +kernel
theorem dX6_set_89 : decode cX6_set 89 = .ok (.getfield 30, 3) := by decide +kernel
theorem dX6_set_92 : decode cX6_set 92 = .ok (.iload_n 1, 1) := by decide +kernel
theorem dX6_set_93 : decode cX6_set 93 = .ok (.invokevirtual 240, 3) := by decide +kernel
theorem dX6_set_96 : decode cX6_set 96 = .ok (.lreturn, 1) := by decide +kernel
theorem dX6_set_97 : decode cX6_set 97 = .ok (.aload_n 0, 1) := by decide +kernel
theorem dX6_set_98 : decode cX6_set 98 = .ok (.getfield 30, 3) := by decide +kernel
theorem dX6_set_101 : decode cX6_set 101 = .ok (.getfield 147, 3) := by decide +kernel
theorem dX6_set_104 : decode cX6_set 104 = .ok (.getfield 243, 3) := by decide +kernel
theorem dX6_set_107 : decode cX6_set 107 = .ok (.iload_n 1, 1) := by decide +kernel
theorem dX6_set_108 : decode cX6_set 108 = .ok (.laload, 1) := by decide +kernel
theorem dX6_set_109 : decode cX6_set 109 = .ok (.lreturn, 1) := by decide +kernel
theorem dX6_set_110 : decode cX6_set 110 = .ok (.aload_n 0, 1) := by decide +kernel
theorem dX6_set_111 : decode cX6_set 111 = .ok (.getfield 30, 3) := by decide +kernel
theorem dX6_set_114 : decode cX6_set 114 = .ok (.getfield 147, 3) := by decide +kernel
theorem dX6_set_117 : decode cX6_set 117 = .ok (.getfield 243, 3) := by decide +kernel
theorem dX6_set_120 : decode cX6_set 120 = .ok (.iload_n 1, 1) := by decide +kernel
theorem dX6_set_121 : decode cX6_set 121 = .ok (.laload, 1) := by decide +kernel
theorem dX6_set_122 : decode cX6_set 122 = .ok (.invokestatic 247, 3) := by decide +kernel
theorem dX6_set_125 : decode cX6_set 125 = .ok (.i2l, 1) := by decide +kernel
theorem dX6_set_126 : decode cX6_set 126 = .ok (.lreturn, 1) := by decide +kernel
theorem dX6_set_127 : decode cX6_set 127 = .ok (.new 200, 3) := by decide +kernel
theorem dX6_set_130 : decode cX6_set 130 = .ok (.dup, 1) := by decide +kernel
theorem dX6_set_131 : decode cX6_set 131 = .ok (.ldc 253, 2) := by decide +kernel
theorem dX6_set_133 : decode cX6_set 133 = .ok (.invokespecial 204, 3) := by decide +kernel
theorem dX6_set_136 : decode cX6_set 136 = .ok (.athrow, 1) := by decide +kernel
theorem dX6_best_0 : decode cX6_best 0 = .ok (.aload_n 0, 1) := by decide +kernel
theorem dX6_best_1 : decode cX6_best 1 = .ok (.getfield 30, 3) := by decide +kernel
theorem dX6_best_4 : decode cX6_best 4 = .ok (.getfield 255, 3) := by decide +kernel
theorem dX6_best_7 : decode cX6_best 7 = .ok (.lreturn, 1) := by decide +kernel
set_option maxRecDepth 20000 in
theorem ggX6_share_X1_has : GoodIn wsX6_share wsX1_has := goodIn_r _ [9, 10, 34, 35, 36, 37, 38, 39] (by decide +kernel) (by decide +kernel)
set_option maxRecDepth 20000 in
theorem gX6_share_X1_has : GoodIn wsX6_share (wsV RX6 128 RX1 yX1_has wsX1_has) := goodIn_app (goodIn_of _ (by decide +kernel)) ggX6_share_X1_has
set_option maxRecDepth 20000 in
theorem ggX6_share_X6_bitsOfFloat : GoodIn wsX6_share wsX6_bitsOfFloat := goodIn_r _ [14, 15] (by decide +kernel) (by decide +kernel)
set_option maxRecDepth 20000 in
theorem gX6_share_X6_bitsOfFloat : GoodIn wsX6_share (va_wsS RX6 259 yX6_bitsOfFloat wsX6_bitsOfFloat) := goodIn_app (goodIn_of _ (by decide +kernel)) ggX6_share_X6_bitsOfFloat
theorem dX6_share_0 : decode cX6_share 0 = .ok (.aload_n 0, 1) := by decide +kernel
theorem dX6_share_1 : decode cX6_share 1 = .ok (.getfield 10, 3) := by decide +kernel
theorem dX6_share_4 : decode cX6_share 4 = .ok (.getfield 85, 3) := by decide +kernel
theorem dX6_share_7 : decode cX6_share 7 = .ok (.iload_n 1, 1) := by decide +kernel
theorem dX6_share_8 : decode cX6_share 8 = .ok (.invokevirtual 128, 3) := by decide +kernel
theorem dX6_share_11 : decode cX6_share 11 = .ok (.ifCond .eq 19, 3) := by decide +kernel
theorem dX6_share_14 : decode cX6_share 14 = .ok (.aload_n 0, 1) := by decide +kernel
theorem dX6_share_15 : decode cX6_share 15 = .ok (.getfield 10, 3) := by decide +kernel
theorem dX6_share_18 : decode cX6_share 18 = .ok (.getfield 85, 3) := by decide +kernel
theorem dX6_share_21 : decode cX6_share 21 = .ok (.getfield 207, 3) := by decide +kernel
theorem dX6_share_24 : decode cX6_share 24 = .ok (.iload_n 1, 1) := by decide +kernel
theorem dX6_share_25 : decode cX6_share 25 = .ok (.iaload, 1) := by decide +kernel
theorem dX6_share_26 : decode cX6_share 26 = .ok (.iconst 1, 1) := by decide +kernel
theorem dX6_share_27 : decode cX6_share 27 = .ok (.if_icmp .ge 5, 3) := by decide +kernel
theorem dX6_share_30 : decode cX6_share 30 = .ok (.iconst 0, 1) := by decide +kernel
theorem dX6_share_31 : decode cX6_share 31 = .ok (.ireturn, 1) := by decide +kernel
theorem dX6_share_32 : decode cX6_share 32 = .ok (.aload_n 0, 1) := by decide +kernel
theorem dX6_share_33 : decode cX6_share 33 = .ok (.getfield 10, 3) := by decide +kernel
theorem dX6_share_36 : decode cX6_share 36 = .ok (.getfield 85, 3) := by decide +kernel
theorem dX6_share_39 : decode cX6_share 39 = .ok (.getfield 211, 3) := by decide +kernel
theorem dX6_share_42 : decode cX6_share 42 = .ok (.iload_n 1, 1) := by decide +kernel
theorem dX6_share_43 : decode cX6_share 43 = .ok (.iaload, 1) := by decide +kernel
theorem dX6_share_44 : decode cX6_share 44 = .ok (.i2f, 1) := by decide +kernel
theorem dX6_share_45 : decode cX6_share 45 = .ok (.aload_n 0, 1) := by decide +kernel
theorem dX6_share_46 : decode cX6_share 46 = .ok (.getfield 10, 3) := by decide +kernel
theorem dX6_share_49 : decode cX6_share 49 = .ok (.getfield 85, 3) := by decide +kernel
theorem dX6_share_52 : decode cX6_share 52 = .ok (.getfield 207, 3) := by decide +kernel
theorem dX6_share_55 : decode cX6_share 55 = .ok (.iload_n 1, 1) := by decide +kernel
theorem dX6_share_56 : decode cX6_share 56 = .ok (.iaload, 1) := by decide +kernel
theorem dX6_share_57 : decode cX6_share 57 = .ok (.i2f, 1) := by decide +kernel
theorem dX6_share_58 : decode cX6_share 58 = .ok (.fdiv, 1) := by decide +kernel
theorem dX6_share_59 : decode cX6_share 59 = .ok (.invokestatic 259, 3) := by decide +kernel
theorem dX6_share_62 : decode cX6_share 62 = .ok (.ireturn, 1) := by decide +kernel
set_option maxRecDepth 20000 in
theorem ggX6_linear_X6_linearValue : GoodIn wsX6_linear wsX6_linearValue := goodIn_r _ [5, 6, 7, 8, 9, 10, 11, 12, 13, 14, 15, 16, 17, 18, 19, 20, 21, 22, 23, 24, 31, 32, 33, 34, 35, 36, 37, 38, 39, 40, 41, 42, 43, 44, 45, 46, 47, 48, 49, 50, 51, 52, 53, 54, 55, 56, 57, 58, 59, 60] (by decide +kernel) (by decide +kernel)
set_option maxRecDepth 20000 in
theorem gX6_linear_X6_linearValue : GoodIn wsX6_linear (wsV RX6 263 RX6 yX6_linearValue wsX6_linearValue) := goodIn_app (goodIn_of _ (by decide +kernel)) ggX6_linear_X6_linearValue
set_option maxRecDepth 20000 in
theorem ggX6_linear_X6_bitsOfDouble : GoodIn wsX6_linear wsX6_bitsOfDouble := goodIn_r _ [27, 28, 29, 30] (by decide +kernel) (by decide +kernel)
set_option maxRecDepth 20000 in
theorem gX6_linear_X6_bitsOfDouble : GoodIn wsX6_linear (va_wsS RX6 267 yX6_bitsOfDouble wsX6_bitsOfDouble) := goodIn_app (goodIn_of _ (by decide +kernel)) ggX6_linear_X6_bitsOfDouble
theorem dX6_linear_0 : decode cX6_linear 0 = .ok (.aload_n 0, 1) := by decide +kernel
theorem dX6_linear_1 : decode cX6_linear 1 = .ok (.invokevirtual 263, 3) := by decide +kernel
theorem dX6_linear_4 : decode cX6_linear 4 = .ok (.invokestatic 267, 3) := by decide +kernel
theorem dX6_linear_7 : decode cX6_linear 7 = .ok (.lreturn, 1) := by decide +kernel
set_option maxRecDepth 20000 in
theorem ggX6_part_X6_linearValue : GoodIn wsX6_part wsX6_linearValue := goodIn_r _ [5, 6, 7, 8, 9, 10, 11, 12, 13, 14, 15, 16, 17, 18, 19, 20, 21, 22, 23, 24, 25, 26, 27, 28, 29, 30, 31, 32, 33, 34, 35, 36, 37, 38, 39, 40, 41, 42, 43, 44, 45, 46, 47, 48, 49, 50, 51, 52, 53, 54] (by decide +kernel) (by decide +kernel)
set_option maxRecDepth 20000 in
theorem gX6_part_X6_linearValue : GoodIn wsX6_part (wsV RX6 263 RX6 yX6_linearValue wsX6_linearValue) := goodIn_app (goodIn_of _ (by decide +kernel)) ggX6_part_X6_linearValue
theorem dX6_part_0 : decode cX6_part 0 = .ok (.iload_n 2, 1) := by decide +kernel
theorem dX6_part_1 : decode cX6_part 1 = .ok (.ifCond .ne 5, 3) := by decide +kernel
theorem dX6_part_4 : decode cX6_part 4 = .ok (.iconst 0, 1) := by decide +kernel
theorem dX6_part_5 : decode cX6_part 5 = .ok (.ireturn, 1) := by decide +kernel
theorem dX6_part_6 : decode cX6_part 6 = .ok (.aload_n 0, 1) := by decide +kernel
theorem dX6_part_7 : decode cX6_part 7 = .ok (.invokevirtual 263, 3) := by decide +kernel
theorem dX6_part_10 : decode cX6_part 10 = .ok (.iload_n 1, 1) := by decide +kernel
theorem dX6_part_11 : decode cX6_part 11 = .ok (.i2d, 1) := by decide +kernel
theorem dX6_part_12 : decode cX6_part 12 = .ok (.dmul, 1) := by decide +kernel
theorem dX6_part_13 : decode cX6_part 13 = .ok (.iload_n 2, 1) := by decide +kernel
theorem dX6_part_14 : decode cX6_part 14 = .ok (.i2d, 1) := by decide +kernel
theorem dX6_part_15 : decode cX6_part 15 = .ok (.ddiv, 1) := by decide +kernel
theorem dX6_part_16 : decode cX6_part 16 = .ok (.d2i, 1) := by decide +kernel
theorem dX6_part_17 : decode cX6_part 17 = .ok (.ireturn, 1) := by decide +kernel
theorem dX6_greedy_0 : decode cX6_greedy 0 = .ok (.aload_n 0, 1) := by decide +kernel
theorem dX6_greedy_1 : decode cX6_greedy 1 = .ok (.getfield 30, 3) := by decide +kernel
theorem dX6_greedy_4 : decode cX6_greedy 4 = .ok (.getfield 157, 3) := by decide +kernel
theorem dX6_greedy_7 : decode cX6_greedy 7 = .ok (.astore_n 2, 1) := by decide +kernel
theorem dX6_greedy_8 : decode cX6_greedy 8 = .ok (.lconst 0, 1) := by decide +kernel
theorem dX6_greedy_9 : decode cX6_greedy 9 = .ok (.lstore_n 3, 1) := by decide +kernel
theorem dX6_greedy_10 : decode cX6_greedy 10 = .ok (.lconst 0, 1) := by decide +kernel
theorem dX6_greedy_11 : decode cX6_greedy 11 = .ok (.lstore 5, 2) := by decide +kernel
theorem dX6_greedy_13 : decode cX6_greedy 13 = .ok (.lconst 0, 1) := by decide +kernel
theorem dX6_greedy_14 : decode cX6_greedy 14 = .ok (.lstore 7, 2) := by decide +kernel
theorem dX6_greedy_16 : decode cX6_greedy 16 = .ok (.iconst 0, 1) := by decide +kernel
theorem dX6_greedy_17 : decode cX6_greedy 17 = .ok (.istore 9, 2) := by decide +kernel
theorem dX6_greedy_19 : decode cX6_greedy 19 = .ok (.iload 9, 2) := by decide +kernel
theorem dX6_greedy_21 : decode cX6_greedy 21 = .ok (.aload_n 2, 1) := by decide +kernel
theorem dX6_greedy_22 : decode cX6_greedy 22 = .ok (.getfield 271, 3) := by decide +kernel
theorem dX6_greedy_25 : decode cX6_greedy 25 = .ok (.if_icmp .ge 61, 3) := by decide +kernel
theorem dX6_greedy_28 : decode cX6_greedy 28 = .ok (.lload_n 3, 1) := by decide +kernel
theorem dX6_greedy_29 : decode cX6_greedy 29 = .ok (.aload_n 2, 1) := by decide +kernel
theorem dX6_greedy_30 : decode cX6_greedy 30 = .ok (.getfield 272, 3) := by decide +kernel
theorem dX6_greedy_33 : decode cX6_greedy 33 = .ok (.iload 9, 2) := by decide +kernel
theorem dX6_greedy_35 : decode cX6_greedy 35 = .ok (.iaload, 1) := by decide +kernel
theorem dX6_greedy_36 : decode cX6_greedy 36 = .ok (.i2l, 1) := by decide +kernel
theorem dX6_greedy_37 : decode cX6_greedy 37 = .ok (.ladd, 1) := by decide +kernel
theorem dX6_greedy_38 : decode cX6_greedy 38 = .ok (.aload_n 2, 1) := by decide +kernel
theorem dX6_greedy_39 : decode cX6_greedy 39 = .ok (.getfield 273, 3) := by decide +kernel
theorem dX6_greedy_42 : decode cX6_greedy 42 = .ok (.i2l, 1) := by decide +kernel
theorem dX6_greedy_43 : decode cX6_greedy 43 = .ok (.lcmp, 1) := by decide +kernel
theorem dX6_greedy_44 : decode cX6_greedy 44 = .ok (.ifCond .gt 36, 3) := by decide +kernel
theorem dX6_greedy_47 : decode cX6_greedy 47 = .ok (.lload_n 3, 1) := by decide +kernel
theorem dX6_greedy_48 : decode cX6_greedy 48 = .ok (.aload_n 2, 1) := by decide +kernel
theorem dX6_greedy_49 : decode cX6_greedy 49 = .ok (.getfield 272, 3) := by decide +kernel
theorem dX6_greedy_52 : decode cX6_greedy 52 = .ok (.iload 9, 2) := by decide +kernel
theorem dX6_greedy_54 : decode cX6_greedy 54 = .ok (.iaload, 1) := by decide +kernel
theorem dX6_greedy_55 : decode cX6_greedy 55 = .ok (.i2l, 1) := by decide +kernel
theorem dX6_greedy_56 : decode cX6_greedy 56 = .ok (.ladd, 1) := by decide +kernel
theorem dX6_greedy_57 : decode cX6_greedy 57 = .ok (.lstore_n 3, 1) := by decide +kernel
theorem dX6_greedy_58 : decode cX6_greedy 58 = .ok (.lload 5, 2) := by decide +kernel
theorem dX6_greedy_60 : decode cX6_greedy 60 = .ok (.aload_n 2, 1) := by decide +kernel
theorem dX6_greedy_61 : decode cX6_greedy 61 = .ok (.getfield 274, 3) := by decide +kernel
theorem dX6_greedy_64 : decode cX6_greedy 64 = .ok (.iload 9, 2) := by decide +kernel
theorem dX6_greedy_66 : decode cX6_greedy 66 = .ok (.iaload, 1) := by decide +kernel
theorem dX6_greedy_67 : decode cX6_greedy 67 = .ok (.i2l, 1) := by decide +kernel
theorem dX6_greedy_68 : decode cX6_greedy 68 = .ok (.ladd, 1) := by decide +kernel
theorem dX6_greedy_69 : decode cX6_greedy 69 = .ok (.lstore 5, 2) := by decide +kernel
theorem dX6_greedy_71 : decode cX6_greedy 71 = .ok (.lload 7, 2) := by decide +kernel
theorem dX6_greedy_73 : decode cX6_greedy 73 = .ok (.lconst 1, 1) := by decide +kernel
theorem dX6_greedy_74 : decode cX6_greedy 74 = .ok (.iload 9, 2) := by decide +kernel
theorem dX6_greedy_76 : decode cX6_greedy 76 = .ok (.lshl, 1) := by decide +kernel
theorem dX6_greedy_77 : decode cX6_greedy 77 = .ok (.lor, 1) := by decide +kernel
theorem dX6_greedy_78 : decode cX6_greedy 78 = .ok (.lstore 7, 2) := by decide +kernel
theorem dX6_greedy_80 : decode cX6_greedy 80 = .ok (.iinc 9 1, 3) := by decide +kernel
theorem dX6_greedy_83 : decode cX6_greedy 83 = .ok (.goto (-64), 3) := by decide +kernel
theorem dX6_greedy_86 : decode cX6_greedy 86 = .ok (.iload_n 1, 1) := by decide +kernel
theorem dX6_greedy_87 : decode cX6_greedy 87 = .ok (.tableswitch 33 0 2 #[25, 28, 30], 25) := by decide +kernel
theorem dX6_greedy_112 : decode cX6_greedy 112 = .ok (.lload 5, 2) := by decide +kernel
theorem dX6_greedy_114 : decode cX6_greedy 114 = .ok (.lreturn, 1) := by decide +kernel
theorem dX6_greedy_115 : decode cX6_greedy 115 = .ok (.lload_n 3, 1) := by decide +kernel
theorem dX6_greedy_116 : decode cX6_greedy 116 = .ok (.lreturn, 1) := by decide +kernel
theorem dX6_greedy_117 : decode cX6_greedy 117 = .ok (.lload 7, 2) := by decide +kernel
theorem dX6_greedy_119 : decode cX6_greedy 119 = .ok (.lreturn, 1) := by decide +kernel
theorem dX6_greedy_120 : decode cX6_greedy 120 = .ok (.ldc2_w 275, 3) := by decide +kernel
theorem dX6_greedy_123 : decode cX6_greedy 123 = .ok (.lreturn, 1) := by decide +kernel
set_option maxRecDepth 20000 in
theorem ggX6_swap_X0_bestHas : GoodIn wsX6_swap wsX0_bestHas := goodIn_r _ [12, 13, 14, 15, 49, 50, 51, 52, 53, 54, 55, 56, 57, 58, 59, 60, 61, 62, 63, 64, 65, 66, 67] (by decide +kernel) (by decide +kernel)
set_option maxRecDepth 20000 in
theorem gX6_swap_X0_bestHas : GoodIn wsX6_swap (wsV RX6 217 RX0 yX0_bestHas wsX0_bestHas) := goodIn_app (goodIn_of _ (by decide +kernel)) ggX6_swap_X0_bestHas
set_option maxRecDepth 20000 in
theorem ggX6_swap_X6_bestInsteadOf : GoodIn wsX6_swap wsX6_bestInsteadOf := goodIn_r _ [20, 4, 5, 21, 22, 23, 24, 6, 8, 9, 10, 11, 12, 13, 14, 15, 25, 26, 27, 28, 29, 30, 31, 32, 33, 34, 35, 49, 50, 51, 52, 53, 54, 55, 56, 57, 58, 59, 60, 61, 62, 63, 64, 65, 66, 67] (by decide +kernel) (by decide +kernel)
set_option maxRecDepth 20000 in
theorem gX6_swap_X6_bestInsteadOf : GoodIn wsX6_swap (wsV RX6 277 RX6 yX6_bestInsteadOf wsX6_bestInsteadOf) := goodIn_app (goodIn_of _ (by decide +kernel)) ggX6_swap_X6_bestInsteadOf
theorem dX6_swap_0 : decode cX6_swap 0 = .ok (.iload_n 1, 1) := by decide +kernel
theorem dX6_swap_1 : decode cX6_swap 1 = .ok (.ifCond .lt 8, 3) := by decide +kernel
theorem dX6_swap_4 : decode cX6_swap 4 = .ok (.iload_n 1, 1) := by decide +kernel
theorem dX6_swap_5 : decode cX6_swap 5 = .ok (.iconst 2, 1) := by decide +kernel
theorem dX6_swap_6 : decode cX6_swap 6 = .ok (.if_icmp .le 5, 3) := by decide +kernel
theorem dX6_swap_9 : decode cX6_swap 9 = .ok (.iconst (-1), 1) := by decide +kernel
theorem dX6_swap_10 : decode cX6_swap 10 = .ok (.ireturn, 1) := by decide +kernel
theorem dX6_swap_11 : decode cX6_swap 11 = .ok (.iconst 0, 1) := by decide +kernel
theorem dX6_swap_12 : decode cX6_swap 12 = .ok (.istore_n 2, 1) := by decide +kernel
theorem dX6_swap_13 : decode cX6_swap 13 = .ok (.iconst (-1), 1) := by decide +kernel
theorem dX6_swap_14 : decode cX6_swap 14 = .ok (.istore_n 3, 1) := by decide +kernel
theorem dX6_swap_15 : decode cX6_swap 15 = .ok (.iconst (-1), 1) := by decide +kernel
theorem dX6_swap_16 : decode cX6_swap 16 = .ok (.istore 4, 2) := by decide +kernel
theorem dX6_swap_18 : decode cX6_swap 18 = .ok (.iconst 0, 1) := by decide +kernel
theorem dX6_swap_19 : decode cX6_swap 19 = .ok (.istore 5, 2) := by decide +kernel
theorem dX6_swap_21 : decode cX6_swap 21 = .ok (.iload 5, 2) := by decide +kernel
theorem dX6_swap_23 : decode cX6_swap 23 = .ok (.aload_n 0, 1) := by decide +kernel
theorem dX6_swap_24 : decode cX6_swap 24 = .ok (.getfield 10, 3) := by decide +kernel
theorem dX6_swap_27 : decode cX6_swap 27 = .ok (.getfield 85, 3) := by decide +kernel
theorem dX6_swap_30 : decode cX6_swap 30 = .ok (.getfield 98, 3) := by decide +kernel
theorem dX6_swap_33 : decode cX6_swap 33 = .ok (.if_icmp .ge 127, 3) := by decide +kernel
theorem dX6_swap_36 : decode cX6_swap 36 = .ok (.aload_n 0, 1) := by decide +kernel
theorem dX6_swap_37 : decode cX6_swap 37 = .ok (.getfield 30, 3) := by decide +kernel
theorem dX6_swap_40 : decode cX6_swap 40 = .ok (.iload 5, 2) := by decide +kernel
theorem dX6_swap_42 : decode cX6_swap 42 = .ok (.invokevirtual 217, 3) := by decide +kernel
theorem dX6_swap_45 : decode cX6_swap 45 = .ok (.ifCond .eq 12, 3) := by decide +kernel
theorem dX6_swap_48 : decode cX6_swap 48 = .ok (.aload_n 0, 1) := by decide +kernel
theorem dX6_swap_49 : decode cX6_swap 49 = .ok (.iload 5, 2) := by decide +kernel
theorem dX6_swap_51 : decode cX6_swap 51 = .ok (.invokevirtual 277, 3) := by decide +kernel
theorem dX6_swap_54 : decode cX6_swap 54 = .ok (.goto 4, 3) := by decide +kernel
theorem dX6_swap_57 : decode cX6_swap 57 = .ok (.iconst (-1), 1) := by decide +kernel
theorem dX6_swap_58 : decode cX6_swap 58 = .ok (.istore 6, 2) := by decide +kernel
theorem dX6_swap_60 : decode cX6_swap 60 = .ok (.iload 6, 2) := by decide +kernel
theorem dX6_swap_62 : decode cX6_swap 62 = .ok (.iconst (-1), 1) := by decide +kernel
theorem dX6_swap_63 : decode cX6_swap 63 = .ok (.if_icmp .eq 91, 3) := by decide +kernel
theorem dX6_swap_66 : decode cX6_swap 66 = .ok (.aload_n 0, 1) := by decide +kernel
theorem dX6_swap_67 : decode cX6_swap 67 = .ok (.getfield 30, 3) := by decide +kernel
theorem dX6_swap_70 : decode cX6_swap 70 = .ok (.getfield 157, 3) := by decide +kernel
theorem dX6_swap_73 : decode cX6_swap 73 = .ok (.getfield 274, 3) := by decide +kernel
theorem dX6_swap_76 : decode cX6_swap 76 = .ok (.iload 6, 2) := by decide +kernel
theorem dX6_swap_78 : decode cX6_swap 78 = .ok (.iaload, 1) := by decide +kernel
theorem dX6_swap_79 : decode cX6_swap 79 = .ok (.aload_n 0, 1) := by decide +kernel
theorem dX6_swap_80 : decode cX6_swap 80 = .ok (.getfield 30, 3) := by decide +kernel
theorem dX6_swap_83 : decode cX6_swap 83 = .ok (.getfield 157, 3) := by decide +kernel
theorem dX6_swap_86 : decode cX6_swap 86 = .ok (.getfield 274, 3) := by decide +kernel
theorem dX6_swap_89 : decode cX6_swap 89 = .ok (.iload 5, 2) := by decide +kernel
theorem dX6_swap_91 : decode cX6_swap 91 = .ok (.iaload, 1) := by decide +kernel
theorem dX6_swap_92 : decode cX6_swap 92 = .ok (.isub, 1) := by decide +kernel
theorem dX6_swap_93 : decode cX6_swap 93 = .ok (.iload_n 2, 1) := by decide +kernel
theorem dX6_swap_94 : decode cX6_swap 94 = .ok (.if_icmp .le 60, 3) := by decide +kernel
theorem dX6_swap_97 : decode cX6_swap 97 = .ok (.aload_n 0, 1) := by decide +kernel
theorem dX6_swap_98 : decode cX6_swap 98 = .ok (.getfield 30, 3) := by decide +kernel
theorem dX6_swap_101 : decode cX6_swap 101 = .ok (.getfield 157, 3) := by decide +kernel
theorem dX6_swap_104 : decode cX6_swap 104 = .ok (.getfield 274, 3) := by decide +kernel
theorem dX6_swap_107 : decode cX6_swap 107 = .ok (.iload 6, 2) := by decide +kernel
theorem dX6_swap_109 : decode cX6_swap 109 = .ok (.iaload, 1) := by decide +kernel
theorem dX6_swap_110 : decode cX6_swap 110 = .ok (.aload_n 0, 1) := by decide +kernel
theorem dX6_swap_111 : decode cX6_swap 111 = .ok (.getfield 30, 3) := by decide +kernel
theorem dX6_swap_114 : decode cX6_swap 114 = .ok (.getfield 157, 3) := by decide +kernel
