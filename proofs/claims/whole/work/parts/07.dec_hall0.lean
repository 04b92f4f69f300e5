set_option maxRecDepth 20000 in
theorem ggX11_init_X3_init : GoodIn wsX11_init wsX3_init := goodIn_r _ [44, 45, 2, 3, 46, 47, 48, 49, 50, 51, 52, 120, 121, 122, 123, 124, 125, 126] (by decide +kernel) (by decide +kernel)
set_option maxRecDepth 20000 in
theorem gX11_init_X3_init_n11 : GoodIn wsX11_init (wsX3_init) := ggX11_init_X3_init
set_option maxRecDepth 20000 in
theorem ggX11_init_X7_init : GoodIn wsX11_init wsX7_init := goodIn_r _ [54, 55, 2, 3, 46, 56, 57, 140, 141, 142, 143] (by decide +kernel) (by decide +kernel)
set_option maxRecDepth 20000 in
theorem gX11_init_X7_init_n18 : GoodIn wsX11_init (wsX7_init) := ggX11_init_X7_init
set_option maxRecDepth 20000 in
theorem ggX11_init_X5_init : GoodIn wsX11_init wsX5_init := goodIn_r _ [59, 60, 2, 3, 46, 61, 62, 63, 64, 144, 145, 146, 147, 148, 149, 150, 151, 152, 153, 154, 155, 156, 157, 158, 159, 160] (by decide +kernel) (by decide +kernel)
set_option maxRecDepth 20000 in
theorem gX11_init_X5_init_n28 : GoodIn wsX11_init (wsX5_init) := ggX11_init_X5_init
set_option maxRecDepth 20000 in
theorem ggX11_init_X6_init : GoodIn wsX11_init wsX6_init := goodIn_r _ [66, 67, 2, 3, 46, 68, 69, 70, 71, 72, 73, 74, 75, 76, 77, 78, 161, 162, 163, 164, 194, 195, 196, 197, 198] (by decide +kernel) (by decide +kernel)
set_option maxRecDepth 20000 in
theorem gX11_init_X6_init_n39 : GoodIn wsX11_init (wsX6_init) := ggX11_init_X6_init
set_option maxRecDepth 20000 in
theorem ggX11_init_X1_init : GoodIn wsX11_init wsX1_init := goodIn_r _ [80, 81, 2, 3, 46, 82, 83, 71, 72, 84, 74, 75, 76, 77, 78, 165, 166, 167, 194, 195, 196, 197, 198] (by decide +kernel) (by decide +kernel)
set_option maxRecDepth 20000 in
theorem gX11_init_X1_init_n42 : GoodIn wsX11_init (wsX1_init) := ggX11_init_X1_init
set_option maxRecDepth 20000 in
theorem ggX11_init_X10_init : GoodIn wsX11_init wsX10_init := goodIn_r _ [86, 87, 2, 3, 46, 88, 89, 90, 168, 169, 170, 171, 172] (by decide +kernel) (by decide +kernel)
set_option maxRecDepth 20000 in
theorem gX11_init_X10_init_n49 : GoodIn wsX11_init (wsX10_init) := ggX11_init_X10_init
set_option maxRecDepth 20000 in
theorem ggX11_init_X4_init : GoodIn wsX11_init wsX4_init := goodIn_r _ [93, 94, 2, 3, 46, 95, 96, 97, 98, 99, 100, 101, 102, 103, 104, 173, 174, 175, 176, 177, 178, 179] (by decide +kernel) (by decide +kernel)
set_option maxRecDepth 20000 in
theorem gX11_init_X4_init : GoodIn wsX11_init (wsX4_init) := ggX11_init_X4_init
set_option maxRecDepth 20000 in
theorem ggX11_init_X2_init : GoodIn wsX11_init wsX2_init := goodIn_r _ [106, 107, 2, 3, 46, 108, 180, 181, 182, 183, 184] (by decide +kernel) (by decide +kernel)
set_option maxRecDepth 20000 in
theorem gX11_init_X2_init_n63 : GoodIn wsX11_init (wsX2_init) := ggX11_init_X2_init
set_option maxRecDepth 20000 in
theorem ggX11_init_X0_init : GoodIn wsX11_init wsX0_init := goodIn_r _ [110, 111, 2, 3, 46, 112, 113, 114, 115, 116, 117, 118, 119, 185, 186, 187, 188, 189, 190, 191, 192, 193] (by decide +kernel) (by decide +kernel)
set_option maxRecDepth 20000 in
theorem gX11_init_X0_init_n70 : GoodIn wsX11_init (wsX0_init) := ggX11_init_X0_init
theorem dX11_init_0 : decode cX11_init 0 = .ok (.aload_n 0, 1) := by decide +kernel
theorem dX11_init_1 : decode cX11_init 1 = .ok (.invokespecial 3, 3) := by decide +kernel
theorem dX11_init_4 : decode cX11_init 4 = .ok (.aload_n 0, 1) := by decide +kernel
theorem dX11_init_5 : decode cX11_init 5 = .ok (.new 9, 3) := by decide +kernel
theorem dX11_init_8 : decode cX11_init 8 = .ok (.dup, 1) := by decide +kernel
theorem dX11_init_9 : decode cX11_init 9 = .ok (.invokespecial 11, 3) := by decide +kernel
theorem dX11_init_12 : decode cX11_init 12 = .ok (.putfield 12, 3) := by decide +kernel
theorem dX11_init_15 : decode cX11_init 15 = .ok (.aload_n 0, 1) := by decide +kernel
theorem dX11_init_16 : decode cX11_init 16 = .ok (.new 16, 3) := by decide +kernel
theorem dX11_init_19 : decode cX11_init 19 = .ok (.dup, 1) := by decide +kernel
theorem dX11_init_20 : decode cX11_init 20 = .ok (.invokespecial 18, 3) := by decide +kernel
theorem dX11_init_23 : decode cX11_init 23 = .ok (.putfield 19, 3) := by decide +kernel
theorem dX11_init_26 : decode cX11_init 26 = .ok (.aload_n 0, 1) := by decide +kernel
theorem dX11_init_27 : decode cX11_init 27 = .ok (.new 16, 3) := by decide +kernel
theorem dX11_init_30 : decode cX11_init 30 = .ok (.dup, 1) := by decide +kernel
theorem dX11_init_31 : decode cX11_init 31 = .ok (.invokespecial 18, 3) := by decide +kernel
theorem dX11_init_34 : decode cX11_init 34 = .ok (.putfield 23, 3) := by decide +kernel
theorem dX11_init_37 : decode cX11_init 37 = .ok (.aload_n 0, 1) := by decide +kernel
theorem dX11_init_38 : decode cX11_init 38 = .ok (.new 26, 3) := by decide +kernel
theorem dX11_init_41 : decode cX11_init 41 = .ok (.dup, 1) := by decide +kernel
theorem dX11_init_42 : decode cX11_init 42 = .ok (.invokespecial 28, 3) := by decide +kernel
theorem dX11_init_45 : decode cX11_init 45 = .ok (.putfield 29, 3) := by decide +kernel
theorem dX11_init_48 : decode cX11_init 48 = .ok (.aload_n 0, 1) := by decide +kernel
theorem dX11_init_49 : decode cX11_init 49 = .ok (.iconst 4, 1) := by decide +kernel
theorem dX11_init_50 : decode cX11_init 50 = .ok (.anewarray 33, 3) := by decide +kernel
theorem dX11_init_53 : decode cX11_init 53 = .ok (.putfield 35, 3) := by decide +kernel
theorem dX11_init_56 : decode cX11_init 56 = .ok (.iconst 0, 1) := by decide +kernel
theorem dX11_init_57 : decode cX11_init 57 = .ok (.istore_n 1, 1) := by decide +kernel
theorem dX11_init_58 : decode cX11_init 58 = .ok (.iload_n 1, 1) := by decide +kernel
theorem dX11_init_59 : decode cX11_init 59 = .ok (.iconst 4, 1) := by decide +kernel
theorem dX11_init_60 : decode cX11_init 60 = .ok (.if_icmp .ge 22, 3) := by decide +kernel
theorem dX11_init_63 : decode cX11_init 63 = .ok (.aload_n 0, 1) := by decide +kernel
theorem dX11_init_64 : decode cX11_init 64 = .ok (.getfield 35, 3) := by decide +kernel
theorem dX11_init_67 : decode cX11_init 67 = .ok (.iload_n 1, 1) := by decide +kernel
theorem dX11_init_68 : decode cX11_init 68 = .ok (.new 33, 3) := by decide +kernel
theorem dX11_init_71 : decode cX11_init 71 = .ok (.dup, 1) := by decide +kernel
theorem dX11_init_72 : decode cX11_init 72 = .ok (.invokespecial 39, 3) := by decide +kernel
theorem dX11_init_75 : decode cX11_init 75 = .ok (.aastore, 1) := by decide +kernel
theorem dX11_init_76 : decode cX11_init 76 = .ok (.iinc 1 1, 3) := by decide +kernel
theorem dX11_init_79 : decode cX11_init 79 = .ok (.goto (-21), 3) := by decide +kernel
theorem dX11_init_82 : decode cX11_init 82 = .ok (.aload_n 0, 1) := by decide +kernel
theorem dX11_init_83 : decode cX11_init 83 = .ok (.new 40, 3) := by decide +kernel
theorem dX11_init_86 : decode cX11_init 86 = .ok (.dup, 1) := by decide +kernel
theorem dX11_init_87 : decode cX11_init 87 = .ok (.invokespecial 42, 3) := by decide +kernel
theorem dX11_init_90 : decode cX11_init 90 = .ok (.putfield 43, 3) := by decide +kernel
theorem dX11_init_93 : decode cX11_init 93 = .ok (.aload_n 0, 1) := by decide +kernel
theorem dX11_init_94 : decode cX11_init 94 = .ok (.new 47, 3) := by decide +kernel
theorem dX11_init_97 : decode cX11_init 97 = .ok (.dup, 1) := by decide +kernel
theorem dX11_init_98 : decode cX11_init 98 = .ok (.invokespecial 49, 3) := by decide +kernel
theorem dX11_init_101 : decode cX11_init 101 = .ok (.putfield 50, 3) := by decide +kernel
theorem dX11_init_104 : decode cX11_init 104 = .ok (.aload_n 0, 1) := by decide +kernel
theorem dX11_init_105 : decode cX11_init 105 = .ok (.new 54, 3) := by decide +kernel
theorem dX11_init_108 : decode cX11_init 108 = .ok (.dup, 1) := by decide +kernel
theorem dX11_init_109 : decode cX11_init 109 = .ok (.invokespecial 56, 3) := by decide +kernel
theorem dX11_init_112 : decode cX11_init 112 = .ok (.putfield 57, 3) := by decide +kernel
theorem dX11_init_115 : decode cX11_init 115 = .ok (.aload_n 0, 1) := by decide +kernel
theorem dX11_init_116 : decode cX11_init 116 = .ok (.new 61, 3) := by decide +kernel
theorem dX11_init_119 : decode cX11_init 119 = .ok (.dup, 1) := by decide +kernel
theorem dX11_init_120 : decode cX11_init 120 = .ok (.invokespecial 63, 3) := by decide +kernel
theorem dX11_init_123 : decode cX11_init 123 = .ok (.putfield 64, 3) := by decide +kernel
theorem dX11_init_126 : decode cX11_init 126 = .ok (.aload_n 0, 1) := by decide +kernel
theorem dX11_init_127 : decode cX11_init 127 = .ok (.new 68, 3) := by decide +kernel
theorem dX11_init_130 : decode cX11_init 130 = .ok (.dup, 1) := by decide +kernel
theorem dX11_init_131 : decode cX11_init 131 = .ok (.invokespecial 70, 3) := by decide +kernel
theorem dX11_init_134 : decode cX11_init 134 = .ok (.putfield 71, 3) := by decide +kernel
theorem dX11_init_137 : decode cX11_init 137 = .ok (.aload_n 0, 1) := by decide +kernel
theorem dX11_init_138 : decode cX11_init 138 = .ok (.sipush 999, 3) := by decide +kernel
theorem dX11_init_141 : decode cX11_init 141 = .ok (.putfield 75, 3) := by decide +kernel
theorem dX11_init_144 : decode cX11_init 144 = .ok (.aload_n 0, 1) := by decide +kernel
theorem dX11_init_145 : decode cX11_init 145 = .ok (.sipush 999, 3) := by decide +kernel
theorem dX11_init_148 : decode cX11_init 148 = .ok (.putfield 79, 3) := by decide +kernel
theorem dX11_init_151 : decode cX11_init 151 = .ok (.return_, 1) := by decide +kernel
theorem dX11_member_0 : decode cX11_member 0 = .ok (.aload_n 0, 1) := by decide +kernel
theorem dX11_member_1 : decode cX11_member 1 = .ok (.getfield 82, 3) := by decide +kernel
theorem dX11_member_4 : decode cX11_member 4 = .ok (.bipush 10, 2) := by decide +kernel
theorem dX11_member_6 : decode cX11_member 6 = .ok (.if_icmp .lt 5, 3) := by decide +kernel
theorem dX11_member_9 : decode cX11_member 9 = .ok (.iconst (-1), 1) := by decide +kernel
theorem dX11_member_10 : decode cX11_member 10 = .ok (.ireturn, 1) := by decide +kernel
theorem dX11_member_11 : decode cX11_member 11 = .ok (.aload_n 0, 1) := by decide +kernel
theorem dX11_member_12 : decode cX11_member 12 = .ok (.dup, 1) := by decide +kernel
theorem dX11_member_13 : decode cX11_member 13 = .ok (.getfield 82, 3) := by decide +kernel
theorem dX11_member_16 : decode cX11_member 16 = .ok (.iconst 1, 1) := by decide +kernel
theorem dX11_member_17 : decode cX11_member 17 = .ok (.iadd, 1) := by decide +kernel
theorem dX11_member_18 : decode cX11_member 18 = .ok (.putfield 82, 3) := by decide +kernel
theorem dX11_member_21 : decode cX11_member 21 = .ok (.aload_n 0, 1) := by decide +kernel
theorem dX11_member_22 : decode cX11_member 22 = .ok (.getfield 82, 3) := by decide +kernel
theorem dX11_member_25 : decode cX11_member 25 = .ok (.iconst 1, 1) := by decide +kernel
theorem dX11_member_26 : decode cX11_member 26 = .ok (.isub, 1) := by decide +kernel
theorem dX11_member_27 : decode cX11_member 27 = .ok (.ireturn, 1) := by decide +kernel
set_option maxRecDepth 20000 in
theorem ggX11_shift_X11_inside : GoodIn wsX11_shift wsX11_inside := goodIn_r _ [6] (by decide +kernel) (by decide +kernel)
set_option maxRecDepth 20000 in
theorem gX11_shift_X11_inside : GoodIn wsX11_shift (va_wsS RX11 85 yX11_inside wsX11_inside) := goodIn_app (goodIn_of _ (by decide +kernel)) ggX11_shift_X11_inside
set_option maxRecDepth 20000 in
theorem ggX11_shift_X3_lastTold : GoodIn wsX11_shift wsX3_lastTold := goodIn_r _ [11, 12, 13, 4, 5, 6, 70, 71, 72, 73, 74, 75, 76] (by decide +kernel) (by decide +kernel)
set_option maxRecDepth 20000 in
theorem gX11_shift_X3_lastTold : GoodIn wsX11_shift (wsV RX11 89 RX3 yX3_lastTold wsX3_lastTold) := goodIn_app (goodIn_of _ (by decide +kernel)) ggX11_shift_X3_lastTold
set_option maxRecDepth 20000 in
theorem ggX11_shift_X3_add : GoodIn wsX11_shift wsX3_add := goodIn_r _ [17, 12, 18, 19, 20, 21, 13, 4, 5, 6, 70, 71, 72, 73, 74, 75, 76] (by decide +kernel) (by decide +kernel)
set_option maxRecDepth 20000 in
theorem gX11_shift_X3_add : GoodIn wsX11_shift (wsV RX11 96 RX3 yX3_add wsX3_add) := goodIn_app (goodIn_of _ (by decide +kernel)) ggX11_shift_X3_add
set_option maxRecDepth 20000 in
theorem ggX11_shift_X11_seatAnew : GoodIn wsX11_shift wsX11_seatAnew := goodIn_r _ [25, 2, 26, 27, 28, 29, 30, 31, 32, 10, 33, 34, 12, 13, 19, 20, 21, 35, 36, 37, 38, 39, 40, 41, 42, 18, 4, 5, 6, 43, 44, 45, 46, 47, 48, 49, 50, 51, 52, 53, 54, 55, 56, 57, 58, 59, 60, 61, 62, 63, 64, 65, 66, 67, 68, 69, 77, 78, 79, 80, 81, 82, 83, 84, 85, 70, 71, 72, 73, 74, 75, 76, 86, 87, 88, 89] (by decide +kernel) (by decide +kernel)
set_option maxRecDepth 20000 in
theorem gX11_shift_X11_seatAnew : GoodIn wsX11_shift (wsV RX11 100 RX11 yX11_seatAnew wsX11_seatAnew) := goodIn_app (goodIn_of _ (by decide +kernel)) ggX11_shift_X11_seatAnew
theorem dX11_shift_0 : decode cX11_shift 0 = .ok (.iload_n 1, 1) := by decide +kernel
theorem dX11_shift_1 : decode cX11_shift 1 = .ok (.aload_n 0, 1) := by decide +kernel
theorem dX11_shift_2 : decode cX11_shift 2 = .ok (.getfield 82, 3) := by decide +kernel
theorem dX11_shift_5 : decode cX11_shift 5 = .ok (.invokestatic 85, 3) := by decide +kernel
theorem dX11_shift_8 : decode cX11_shift 8 = .ok (.ifCond .eq 53, 3) := by decide +kernel
theorem dX11_shift_11 : decode cX11_shift 11 = .ok (.iload_n 2, 1) := by decide +kernel
theorem dX11_shift_12 : decode cX11_shift 12 = .ok (.sipush 1000, 3) := by decide +kernel
theorem dX11_shift_15 : decode cX11_shift 15 = .ok (.invokestatic 85, 3) := by decide +kernel
theorem dX11_shift_18 : decode cX11_shift 18 = .ok (.ifCond .eq 43, 3) := by decide +kernel
theorem dX11_shift_21 : decode cX11_shift 21 = .ok (.iload_n 3, 1) := by decide +kernel
theorem dX11_shift_22 : decode cX11_shift 22 = .ok (.bipush 100, 2) := by decide +kernel
theorem dX11_shift_24 : decode cX11_shift 24 = .ok (.invokestatic 85, 3) := by decide +kernel
theorem dX11_shift_27 : decode cX11_shift 27 = .ok (.ifCond .eq 34, 3) := by decide +kernel
theorem dX11_shift_30 : decode cX11_shift 30 = .ok (.iload 4, 2) := by decide +kernel
theorem dX11_shift_32 : decode cX11_shift 32 = .ok (.iconst (-1), 1) := by decide +kernel
theorem dX11_shift_33 : decode cX11_shift 33 = .ok (.if_icmp .eq 13, 3) := by decide +kernel
theorem dX11_shift_36 : decode cX11_shift 36 = .ok (.iload 4, 2) := by decide +kernel
theorem dX11_shift_38 : decode cX11_shift 38 = .ok (.bipush 6, 2) := by decide +kernel
theorem dX11_shift_40 : decode cX11_shift 40 = .ok (.invokestatic 85, 3) := by decide +kernel
theorem dX11_shift_43 : decode cX11_shift 43 = .ok (.ifCond .eq 18, 3) := by decide +kernel
theorem dX11_shift_46 : decode cX11_shift 46 = .ok (.iload 5, 2) := by decide +kernel
theorem dX11_shift_48 : decode cX11_shift 48 = .ok (.sipush 1000, 3) := by decide +kernel
theorem dX11_shift_51 : decode cX11_shift 51 = .ok (.invokestatic 85, 3) := by decide +kernel
theorem dX11_shift_54 : decode cX11_shift 54 = .ok (.ifCond .eq 7, 3) := by decide +kernel
theorem dX11_shift_57 : decode cX11_shift 57 = .ok (.iconst 1, 1) := by decide +kernel
theorem dX11_shift_58 : decode cX11_shift 58 = .ok (.goto 4, 3) := by decide +kernel
theorem dX11_shift_61 : decode cX11_shift 61 = .ok (.iconst 0, 1) := by decide +kernel
theorem dX11_shift_62 : decode cX11_shift 62 = .ok (.istore 6, 2) := by decide +kernel
theorem dX11_shift_64 : decode cX11_shift 64 = .ok (.iload 6, 2) := by decide +kernel
theorem dX11_shift_66 : decode cX11_shift 66 = .ok (.ifCond .eq 28, 3) := by decide +kernel
theorem dX11_shift_69 : decode cX11_shift 69 = .ok (.iload 5, 2) := by decide +kernel
theorem dX11_shift_71 : decode cX11_shift 71 = .ok (.aload_n 0, 1) := by decide +kernel
theorem dX11_shift_72 : decode cX11_shift 72 = .ok (.getfield 12, 3) := by decide +kernel
theorem dX11_shift_75 : decode cX11_shift 75 = .ok (.invokevirtual 89, 3) := by decide +kernel
theorem dX11_shift_78 : decode cX11_shift 78 = .ok (.if_icmp .lt 16, 3) := by decide +kernel
theorem dX11_shift_81 : decode cX11_shift 81 = .ok (.aload_n 0, 1) := by decide +kernel
theorem dX11_shift_82 : decode cX11_shift 82 = .ok (.getfield 12, 3) := by decide +kernel
theorem dX11_shift_85 : decode cX11_shift 85 = .ok (.getfield 93, 3) := by decide +kernel
theorem dX11_shift_88 : decode cX11_shift 88 = .ok (.sipush 200, 3) := by decide +kernel
theorem dX11_shift_91 : decode cX11_shift 91 = .ok (.if_icmp .lt 5, 3) := by decide +kernel
theorem dX11_shift_94 : decode cX11_shift 94 = .ok (.iconst 0, 1) := by decide +kernel
theorem dX11_shift_95 : decode cX11_shift 95 = .ok (.ireturn, 1) := by decide +kernel
theorem dX11_shift_96 : decode cX11_shift 96 = .ok (.aload_n 0, 1) := by decide +kernel
theorem dX11_shift_97 : decode cX11_shift 97 = .ok (.getfield 12, 3) := by decide +kernel
theorem dX11_shift_100 : decode cX11_shift 100 = .ok (.iload_n 1, 1) := by decide +kernel
theorem dX11_shift_101 : decode cX11_shift 101 = .ok (.iload_n 2, 1) := by decide +kernel
theorem dX11_shift_102 : decode cX11_shift 102 = .ok (.iload_n 3, 1) := by decide +kernel
theorem dX11_shift_103 : decode cX11_shift 103 = .ok (.iload 4, 2) := by decide +kernel
theorem dX11_shift_105 : decode cX11_shift 105 = .ok (.iload 5, 2) := by decide +kernel
theorem dX11_shift_107 : decode cX11_shift 107 = .ok (.invokevirtual 96, 3) := by decide +kernel
theorem dX11_shift_110 : decode cX11_shift 110 = .ok (.aload_n 0, 1) := by decide +kernel
theorem dX11_shift_111 : decode cX11_shift 111 = .ok (.invokevirtual 100, 3) := by decide +kernel
theorem dX11_shift_114 : decode cX11_shift 114 = .ok (.iconst 1, 1) := by decide +kernel
theorem dX11_shift_115 : decode cX11_shift 115 = .ok (.ireturn, 1) := by decide +kernel
set_option maxRecDepth 20000 in
theorem ggX11_view_X11_inside : GoodIn wsX11_view wsX11_inside := goodIn_r _ [6] (by decide +kernel) (by decide +kernel)
set_option maxRecDepth 20000 in
theorem gX11_view_X11_inside : GoodIn wsX11_view (va_wsS RX11 85 yX11_inside wsX11_inside) := goodIn_app (goodIn_of _ (by decide +kernel)) ggX11_view_X11_inside
set_option maxRecDepth 20000 in
theorem ggX11_view_X11_seatAnew : GoodIn wsX11_view wsX11_seatAnew := goodIn_r _ [10, 11, 12, 1, 2, 13, 14, 15, 16, 17, 18, 19, 20, 21, 22, 23, 24, 25, 26, 27, 28, 29, 30, 31, 32, 33, 4, 5, 6, 34, 35, 36, 37, 38, 39, 40, 41, 42, 43, 44, 45, 46, 47, 48, 49, 50, 51, 52, 53, 54, 55, 56, 57, 58, 59, 60, 61, 62, 63, 64, 65, 66, 67, 68, 69, 70, 71, 72, 73, 74, 75, 76, 77, 78, 79, 80] (by decide +kernel) (by decide +kernel)
set_option maxRecDepth 20000 in
theorem gX11_view_X11_seatAnew : GoodIn wsX11_view (wsV RX11 100 RX11 yX11_seatAnew wsX11_seatAnew) := goodIn_app (goodIn_of _ (by decide +kernel)) ggX11_view_X11_seatAnew
theorem dX11_view_0 : decode cX11_view 0 = .ok (.iload_n 1, 1) := by decide +kernel
theorem dX11_view_1 : decode cX11_view 1 = .ok (.sipush 1000, 3) := by decide +kernel
theorem dX11_view_4 : decode cX11_view 4 = .ok (.invokestatic 85, 3) := by decide +kernel
theorem dX11_view_7 : decode cX11_view 7 = .ok (.ifCond .eq 13, 3) := by decide +kernel
theorem dX11_view_10 : decode cX11_view 10 = .ok (.iload_n 2, 1) := by decide +kernel
theorem dX11_view_11 : decode cX11_view 11 = .ok (.sipush 1000, 3) := by decide +kernel
theorem dX11_view_14 : decode cX11_view 14 = .ok (.invokestatic 85, 3) := by decide +kernel
theorem dX11_view_17 : decode cX11_view 17 = .ok (.ifCond .ne 5, 3) := by decide +kernel
theorem dX11_view_20 : decode cX11_view 20 = .ok (.iconst 0, 1) := by decide +kernel
theorem dX11_view_21 : decode cX11_view 21 = .ok (.ireturn, 1) := by decide +kernel
theorem dX11_view_22 : decode cX11_view 22 = .ok (.aload_n 0, 1) := by decide +kernel
theorem dX11_view_23 : decode cX11_view 23 = .ok (.iload_n 1, 1) := by decide +kernel
theorem dX11_view_24 : decode cX11_view 24 = .ok (.putfield 75, 3) := by decide +kernel
theorem dX11_view_27 : decode cX11_view 27 = .ok (.aload_n 0, 1) := by decide +kernel
theorem dX11_view_28 : decode cX11_view 28 = .ok (.iload_n 2, 1) := by decide +kernel
theorem dX11_view_29 : decode cX11_view 29 = .ok (.putfield 79, 3) := by decide +kernel
theorem dX11_view_32 : decode cX11_view 32 = .ok (.aload_n 0, 1) := by decide +kernel
theorem dX11_view_33 : decode cX11_view 33 = .ok (.invokevirtual 100, 3) := by decide +kernel
theorem dX11_view_36 : decode cX11_view 36 = .ok (.iconst 1, 1) := by decide +kernel
theorem dX11_view_37 : decode cX11_view 37 = .ok (.ireturn, 1) := by decide +kernel
set_option maxRecDepth 20000 in
theorem ggX11_of_X11_inside : GoodIn wsX11_of wsX11_inside := goodIn_r _ [7] (by decide +kernel) (by decide +kernel)
set_option maxRecDepth 20000 in
theorem gX11_of_X11_inside : GoodIn wsX11_of (va_wsS RX11 85 yX11_inside wsX11_inside) := goodIn_app (goodIn_of _ (by decide +kernel)) ggX11_of_X11_inside
set_option maxRecDepth 20000 in
theorem ggX11_of_X4_firstOf : GoodIn wsX11_of wsX4_firstOf := goodIn_r _ [12, 13, 5, 6, 7, 45, 46, 47, 48, 49, 50, 51] (by decide +kernel) (by decide +kernel)
set_option maxRecDepth 20000 in
theorem gX11_of_X4_firstOf : GoodIn wsX11_of (wsV RX11 103 RX4 yX4_firstOf wsX4_firstOf) := goodIn_app (goodIn_of _ (by decide +kernel)) ggX11_of_X4_firstOf
set_option maxRecDepth 20000 in
theorem ggX11_of_X11_has : GoodIn wsX11_of wsX11_has := goodIn_r _ [16] (by decide +kernel) (by decide +kernel)
set_option maxRecDepth 20000 in
theorem gX11_of_X11_has : GoodIn wsX11_of (va_wsS RX11 110 yX11_has wsX11_has) := goodIn_app (goodIn_of _ (by decide +kernel)) ggX11_of_X11_has
set_option maxRecDepth 20000 in
theorem ggX11_of_X7_weightOf : GoodIn wsX11_of wsX7_weightOf := goodIn_r _ [21, 22, 41, 42, 43, 44] (by decide +kernel) (by decide +kernel)
set_option maxRecDepth 20000 in
theorem gX11_of_X7_weightOf : GoodIn wsX11_of (wsV RX11 113 RX7 yX7_weightOf wsX7_weightOf) := goodIn_app (goodIn_of _ (by decide +kernel)) ggX11_of_X7_weightOf
set_option maxRecDepth 20000 in
theorem ggX11_of_X7_blocOf : GoodIn wsX11_of wsX7_blocOf := goodIn_r _ [26, 27, 15, 6, 16, 41, 42, 43, 44] (by decide +kernel) (by decide +kernel)
set_option maxRecDepth 20000 in
theorem gX11_of_X7_blocOf : GoodIn wsX11_of (wsV RX11 116 RX7 yX7_blocOf wsX7_blocOf) := goodIn_app (goodIn_of _ (by decide +kernel)) ggX11_of_X7_blocOf
theorem dX11_of_0 : decode cX11_of 0 = .ok (.iload_n 1, 1) := by decide +kernel
theorem dX11_of_1 : decode cX11_of 1 = .ok (.aload_n 0, 1) := by decide +kernel
theorem dX11_of_2 : decode cX11_of 2 = .ok (.getfield 82, 3) := by decide +kernel
theorem dX11_of_5 : decode cX11_of 5 = .ok (.invokestatic 85, 3) := by decide +kernel
theorem dX11_of_8 : decode cX11_of 8 = .ok (.ifCond .ne 5, 3) := by decide +kernel
theorem dX11_of_11 : decode cX11_of 11 = .ok (.iconst (-1), 1) := by decide +kernel
theorem dX11_of_12 : decode cX11_of 12 = .ok (.ireturn, 1) := by decide +kernel
theorem dX11_of_13 : decode cX11_of 13 = .ok (.iload_n 2, 1) := by decide +kernel
theorem dX11_of_14 : decode cX11_of 14 = .ok (.iconst 2, 1) := by decide +kernel
theorem dX11_of_15 : decode cX11_of 15 = .ok (.if_icmp .ne 12, 3) := by decide +kernel
theorem dX11_of_18 : decode cX11_of 18 = .ok (.aload_n 0, 1) := by decide +kernel
theorem dX11_of_19 : decode cX11_of 19 = .ok (.getfield 57, 3) := by decide +kernel
theorem dX11_of_22 : decode cX11_of 22 = .ok (.iload_n 1, 1) := by decide +kernel
theorem dX11_of_23 : decode cX11_of 23 = .ok (.invokevirtual 103, 3) := by decide +kernel
theorem dX11_of_26 : decode cX11_of 26 = .ok (.ireturn, 1) := by decide +kernel
theorem dX11_of_27 : decode cX11_of 27 = .ok (.aload_n 0, 1) := by decide +kernel
theorem dX11_of_28 : decode cX11_of 28 = .ok (.getfield 19, 3) := by decide +kernel
theorem dX11_of_31 : decode cX11_of 31 = .ok (.getfield 107, 3) := by decide +kernel
theorem dX11_of_34 : decode cX11_of 34 = .ok (.iload_n 1, 1) := by decide +kernel
theorem dX11_of_35 : decode cX11_of 35 = .ok (.invokestatic 110, 3) := by decide +kernel
theorem dX11_of_38 : decode cX11_of 38 = .ok (.ifCond .ne 5, 3) := by decide +kernel
theorem dX11_of_41 : decode cX11_of 41 = .ok (.iconst (-1), 1) := by decide +kernel
theorem dX11_of_42 : decode cX11_of 42 = .ok (.ireturn, 1) := by decide +kernel
theorem dX11_of_43 : decode cX11_of 43 = .ok (.iload_n 2, 1) := by decide +kernel
theorem dX11_of_44 : decode cX11_of 44 = .ok (.ifCond .ne 16, 3) := by decide +kernel
theorem dX11_of_47 : decode cX11_of 47 = .ok (.aload_n 0, 1) := by decide +kernel
theorem dX11_of_48 : decode cX11_of 48 = .ok (.getfield 19, 3) := by decide +kernel
theorem dX11_of_51 : decode cX11_of 51 = .ok (.iconst 1, 1) := by decide +kernel
theorem dX11_of_52 : decode cX11_of 52 = .ok (.iload_n 1, 1) := by decide +kernel
theorem dX11_of_53 : decode cX11_of 53 = .ok (.ishl, 1) := by decide +kernel
theorem dX11_of_54 : decode cX11_of 54 = .ok (.invokevirtual 113, 3) := by decide +kernel
theorem dX11_of_57 : decode cX11_of 57 = .ok (.goto 20, 3) := by decide +kernel
theorem dX11_of_60 : decode cX11_of 60 = .ok (.iload_n 2, 1) := by decide +kernel
theorem dX11_of_61 : decode cX11_of 61 = .ok (.iconst 1, 1) := by decide +kernel
theorem dX11_of_62 : decode cX11_of 62 = .ok (.if_icmp .ne 14, 3) := by decide +kernel
theorem dX11_of_65 : decode cX11_of 65 = .ok (.aload_n 0, 1) := by decide +kernel
theorem dX11_of_66 : decode cX11_of 66 = .ok (.getfield 19, 3) := by decide +kernel
theorem dX11_of_69 : decode cX11_of 69 = .ok (.iload_n 1, 1) := by decide +kernel
theorem dX11_of_70 : decode cX11_of 70 = .ok (.invokevirtual 116, 3) := by decide +kernel
theorem dX11_of_73 : decode cX11_of 73 = .ok (.goto 4, 3) := by decide +kernel
theorem dX11_of_76 : decode cX11_of 76 = .ok (.iconst (-1), 1) := by decide +kernel
theorem dX11_of_77 : decode cX11_of 77 = .ok (.ireturn, 1) := by decide +kernel
set_option maxRecDepth 20000 in
theorem ggX11_look_X7_blocs : GoodIn wsX11_look wsX7_blocs := goodIn_r _ [10, 11, 25, 26, 27, 28] (by decide +kernel) (by decide +kernel)
set_option maxRecDepth 20000 in
theorem gX11_look_X7_blocs : GoodIn wsX11_look (wsV RX11 119 RX7 yX7_blocs wsX7_blocs) := goodIn_app (goodIn_of _ (by decide +kernel)) ggX11_look_X7_blocs
theorem dX11_look_0 : decode cX11_look 0 = .ok (.iload_n 1, 1) := by decide +kernel
theorem dX11_look_1 : decode cX11_look 1 = .ok (.tableswitch 78 0 5 #[39, 44, 52, 60, 68, 73], 39) := by decide +kernel
theorem dX11_look_40 : decode cX11_look 40 = .ok (.aload_n 0, 1) := by decide +kernel
theorem dX11_look_41 : decode cX11_look 41 = .ok (.getfield 82, 3) := by decide +kernel
theorem dX11_look_44 : decode cX11_look 44 = .ok (.ireturn, 1) := by decide +kernel
theorem dX11_look_45 : decode cX11_look 45 = .ok (.aload_n 0, 1) := by decide +kernel
theorem dX11_look_46 : decode cX11_look 46 = .ok (.getfield 19, 3) := by decide +kernel
theorem dX11_look_49 : decode cX11_look 49 = .ok (.getfield 107, 3) := by decide +kernel
theorem dX11_look_52 : decode cX11_look 52 = .ok (.ireturn, 1) := by decide +kernel
theorem dX11_look_53 : decode cX11_look 53 = .ok (.aload_n 0, 1) := by decide +kernel
theorem dX11_look_54 : decode cX11_look 54 = .ok (.getfield 12, 3) := by decide +kernel
theorem dX11_look_57 : decode cX11_look 57 = .ok (.getfield 93, 3) := by decide +kernel
theorem dX11_look_60 : decode cX11_look 60 = .ok (.ireturn, 1) := by decide +kernel
theorem dX11_look_61 : decode cX11_look 61 = .ok (.aload_n 0, 1) := by decide +kernel
theorem dX11_look_62 : decode cX11_look 62 = .ok (.getfield 19, 3) := by decide +kernel
theorem dX11_look_65 : decode cX11_look 65 = .ok (.invokevirtual 119, 3) := by decide +kernel
theorem dX11_look_68 : decode cX11_look 68 = .ok (.ireturn, 1) := by decide +kernel
theorem dX11_look_69 : decode cX11_look 69 = .ok (.aload_n 0, 1) := by decide +kernel
theorem dX11_look_70 : decode cX11_look 70 = .ok (.getfield 75, 3) := by decide +kernel
theorem dX11_look_73 : decode cX11_look 73 = .ok (.ireturn, 1) := by decide +kernel
theorem dX11_look_74 : decode cX11_look 74 = .ok (.aload_n 0, 1) := by decide +kernel
theorem dX11_look_75 : decode cX11_look 75 = .ok (.getfield 79, 3) := by decide +kernel
theorem dX11_look_78 : decode cX11_look 78 = .ok (.ireturn, 1) := by decide +kernel
theorem dX11_look_79 : decode cX11_look 79 = .ok (.iconst (-1), 1) := by decide +kernel
theorem dX11_look_80 : decode cX11_look 80 = .ok (.ireturn, 1) := by decide +kernel
set_option maxRecDepth 20000 in
theorem ggX11_feed_X5_put : GoodIn wsX11_feed wsX5_put := goodIn_r _ [6, 7, 8, 22, 23, 24, 25, 26, 27, 28, 29, 30, 31, 32, 33, 34, 35, 36, 37, 38] (by decide +kernel) (by decide +kernel)
set_option maxRecDepth 20000 in
theorem gX11_feed_X5_put : GoodIn wsX11_feed (wsV RX11 125 RX5 yX5_put wsX5_put) := goodIn_app (goodIn_of _ (by decide +kernel)) ggX11_feed_X5_put
theorem dX11_feed_0 : decode cX11_feed 0 = .ok (.aload_n 0, 1) := by decide +kernel
theorem dX11_feed_1 : decode cX11_feed 1 = .ok (.getfield 29, 3) := by decide +kernel
theorem dX11_feed_4 : decode cX11_feed 4 = .ok (.getfield 122, 3) := by decide +kernel
theorem dX11_feed_7 : decode cX11_feed 7 = .ok (.bipush 20, 2) := by decide +kernel
theorem dX11_feed_9 : decode cX11_feed 9 = .ok (.iadd, 1) := by decide +kernel
theorem dX11_feed_10 : decode cX11_feed 10 = .ok (.sipush 400, 3) := by decide +kernel
theorem dX11_feed_13 : decode cX11_feed 13 = .ok (.if_icmp .le 5, 3) := by decide +kernel
theorem dX11_feed_16 : decode cX11_feed 16 = .ok (.iconst (-1), 1) := by decide +kernel
theorem dX11_feed_17 : decode cX11_feed 17 = .ok (.ireturn, 1) := by decide +kernel
theorem dX11_feed_18 : decode cX11_feed 18 = .ok (.aload_n 0, 1) := by decide +kernel
theorem dX11_feed_19 : decode cX11_feed 19 = .ok (.getfield 29, 3) := by decide +kernel
theorem dX11_feed_22 : decode cX11_feed 22 = .ok (.iload_n 1, 1) := by decide +kernel
theorem dX11_feed_23 : decode cX11_feed 23 = .ok (.invokevirtual 125, 3) := by decide +kernel
theorem dX11_feed_26 : decode cX11_feed 26 = .ok (.aload_n 0, 1) := by decide +kernel
theorem dX11_feed_27 : decode cX11_feed 27 = .ok (.getfield 29, 3) := by decide +kernel
theorem dX11_feed_30 : decode cX11_feed 30 = .ok (.iload_n 2, 1) := by decide +kernel
theorem dX11_feed_31 : decode cX11_feed 31 = .ok (.invokevirtual 125, 3) := by decide +kernel
theorem dX11_feed_34 : decode cX11_feed 34 = .ok (.aload_n 0, 1) := by decide +kernel
theorem dX11_feed_35 : decode cX11_feed 35 = .ok (.getfield 29, 3) := by decide +kernel
theorem dX11_feed_38 : decode cX11_feed 38 = .ok (.iload_n 3, 1) := by decide +kernel
theorem dX11_feed_39 : decode cX11_feed 39 = .ok (.invokevirtual 125, 3) := by decide +kernel
theorem dX11_feed_42 : decode cX11_feed 42 = .ok (.aload_n 0, 1) := by decide +kernel
theorem dX11_feed_43 : decode cX11_feed 43 = .ok (.getfield 29, 3) := by decide +kernel
theorem dX11_feed_46 : decode cX11_feed 46 = .ok (.iload 4, 2) := by decide +kernel
theorem dX11_feed_48 : decode cX11_feed 48 = .ok (.invokevirtual 125, 3) := by decide +kernel
theorem dX11_feed_51 : decode cX11_feed 51 = .ok (.aload_n 0, 1) := by decide +kernel
theorem dX11_feed_52 : decode cX11_feed 52 = .ok (.getfield 29, 3) := by decide +kernel
theorem dX11_feed_55 : decode cX11_feed 55 = .ok (.iload 5, 2) := by decide +kernel
theorem dX11_feed_57 : decode cX11_feed 57 = .ok (.invokevirtual 125, 3) := by decide +kernel
theorem dX11_feed_60 : decode cX11_feed 60 = .ok (.aload_n 0, 1) := by decide +kernel
theorem dX11_feed_61 : decode cX11_feed 61 = .ok (.getfield 29, 3) := by decide +kernel
theorem dX11_feed_64 : decode cX11_feed 64 = .ok (.getfield 122, 3) := by decide +kernel
theorem dX11_feed_67 : decode cX11_feed 67 = .ok (.ireturn, 1) := by decide +kernel
theorem dX11_end_0 : decode cX11_end 0 = .ok (.iload_n 1, 1) := by decide +kernel
theorem dX11_end_1 : decode cX11_end 1 = .ok (.ifCond .lt 14, 3) := by decide +kernel
theorem dX11_end_4 : decode cX11_end 4 = .ok (.iload_n 1, 1) := by decide +kernel
theorem dX11_end_5 : decode cX11_end 5 = .ok (.aload_n 0, 1) := by decide +kernel
theorem dX11_end_6 : decode cX11_end 6 = .ok (.getfield 29, 3) := by decide +kernel
theorem dX11_end_9 : decode cX11_end 9 = .ok (.getfield 122, 3) := by decide +kernel
theorem dX11_end_12 : decode cX11_end 12 = .ok (.if_icmp .le 5, 3) := by decide +kernel
theorem dX11_end_15 : decode cX11_end 15 = .ok (.iconst 0, 1) := by decide +kernel
theorem dX11_end_16 : decode cX11_end 16 = .ok (.ireturn, 1) := by decide +kernel
theorem dX11_end_17 : decode cX11_end 17 = .ok (.aload_n 0, 1) := by decide +kernel
theorem dX11_end_18 : decode cX11_end 18 = .ok (.getfield 29, 3) := by decide +kernel
theorem dX11_end_21 : decode cX11_end 21 = .ok (.iload_n 1, 1) := by decide +kernel
theorem dX11_end_22 : decode cX11_end 22 = .ok (.putfield 122, 3) := by decide +kernel
theorem dX11_end_25 : decode cX11_end 25 = .ok (.iconst 1, 1) := by decide +kernel
theorem dX11_end_26 : decode cX11_end 26 = .ok (.ireturn, 1) := by decide +kernel
set_option maxRecDepth 20000 in
theorem ggX11_rule_X11_inside : GoodIn wsX11_rule wsX11_inside := goodIn_r _ [6] (by decide +kernel) (by decide +kernel)
set_option maxRecDepth 20000 in
theorem gX11_rule_X11_inside : GoodIn wsX11_rule (va_wsS RX11 85 yX11_inside wsX11_inside) := goodIn_app (goodIn_of _ (by decide +kernel)) ggX11_rule_X11_inside
set_option maxRecDepth 20000 in
theorem ggX11_rule_X5_read : GoodIn wsX11_rule wsX5_read := goodIn_r _ [11, 12, 13, 14, 15, 16, 17, 18, 19, 20, 21, 22, 23, 10, 24, 25, 26, 27, 28, 29, 30, 31, 32, 33, 34, 35, 36, 37, 38, 39, 40, 41, 42, 43, 44, 45, 46, 47, 48, 49, 50, 51, 52, 53, 54, 55, 56, 57, 58, 59, 60, 61, 62, 63, 64, 65, 66, 67, 68, 69, 70, 71, 72, 73, 74, 75, 76, 77, 78, 79, 80, 81, 82, 83, 84, 85, 86, 87, 88, 89, 90, 91, 92, 93, 94, 95, 96, 97, 98, 99, 100, 101, 102, 103, 104, 105, 106, 107, 108, 109, 110, 4, 5, 6, 111, 112, 113, 114, 115, 116, 117, 118, 119, 120, 121, 122, 123, 124, 125, 126, 127, 128, 129, 130, 131, 132, 133, 134, 135, 136, 137, 138, 139, 140, 141, 142, 143, 144, 145, 146, 147, 148, 149, 150, 151, 152, 153, 154, 155, 156, 157, 158, 159, 160, 186, 187, 188, 189, 190, 191, 192, 193, 194, 195, 196, 197, 198, 199, 200, 201, 202] (by decide +kernel) (by decide +kernel)
set_option maxRecDepth 20000 in
theorem gX11_rule_X5_read : GoodIn wsX11_rule (wsV RX11 129 RX5 yX5_read wsX5_read) := goodIn_app (goodIn_of _ (by decide +kernel)) ggX11_rule_X5_read
set_option maxRecDepth 20000 in
theorem ggX11_rule_X6_become : GoodIn wsX11_rule wsX6_become := goodIn_r _ [165, 166, 167, 168, 169, 170, 171, 172, 186, 187, 188, 189, 190, 191, 192, 193, 194, 195, 196, 197, 198, 199, 200, 201, 202, 203, 204, 205, 206, 207, 208, 209, 210, 211] (by decide +kernel) (by decide +kernel)
set_option maxRecDepth 20000 in
theorem gX11_rule_X6_become : GoodIn wsX11_rule (wsV RX11 135 RX6 yX6_become wsX6_become) := goodIn_app (goodIn_of _ (by decide +kernel)) ggX11_rule_X6_become
theorem dX11_rule_0 : decode cX11_rule 0 = .ok (.iload_n 1, 1) := by decide +kernel
theorem dX11_rule_1 : decode cX11_rule 1 = .ok (.iconst 4, 1) := by decide +kernel
theorem dX11_rule_2 : decode cX11_rule 2 = .ok (.invokestatic 85, 3) := by decide +kernel
theorem dX11_rule_5 : decode cX11_rule 5 = .ok (.ifCond .ne 13, 3) := by decide +kernel
theorem dX11_rule_8 : decode cX11_rule 8 = .ok (.aload_n 0, 1) := by decide +kernel
theorem dX11_rule_9 : decode cX11_rule 9 = .ok (.getfield 29, 3) := by decide +kernel
theorem dX11_rule_12 : decode cX11_rule 12 = .ok (.iconst 0, 1) := by decide +kernel
theorem dX11_rule_13 : decode cX11_rule 13 = .ok (.putfield 122, 3) := by decide +kernel
theorem dX11_rule_16 : decode cX11_rule 16 = .ok (.iconst 0, 1) := by decide +kernel
theorem dX11_rule_17 : decode cX11_rule 17 = .ok (.ireturn, 1) := by decide +kernel
theorem dX11_rule_18 : decode cX11_rule 18 = .ok (.aload_n 0, 1) := by decide +kernel
theorem dX11_rule_19 : decode cX11_rule 19 = .ok (.getfield 29, 3) := by decide +kernel
theorem dX11_rule_22 : decode cX11_rule 22 = .ok (.invokevirtual 129, 3) := by decide +kernel
theorem dX11_rule_25 : decode cX11_rule 25 = .ok (.aload_n 0, 1) := by decide +kernel
theorem dX11_rule_26 : decode cX11_rule 26 = .ok (.getfield 29, 3) := by decide +kernel
theorem dX11_rule_29 : decode cX11_rule 29 = .ok (.iconst 0, 1) := by decide +kernel
theorem dX11_rule_30 : decode cX11_rule 30 = .ok (.putfield 122, 3) := by decide +kernel
theorem dX11_rule_33 : decode cX11_rule 33 = .ok (.aload_n 0, 1) := by decide +kernel
theorem dX11_rule_34 : decode cX11_rule 34 = .ok (.getfield 29, 3) := by decide +kernel
theorem dX11_rule_37 : decode cX11_rule 37 = .ok (.getfield 132, 3) := by decide +kernel
theorem dX11_rule_40 : decode cX11_rule 40 = .ok (.ifCond .eq 5, 3) := by decide +kernel
theorem dX11_rule_43 : decode cX11_rule 43 = .ok (.iconst 0, 1) := by decide +kernel
theorem dX11_rule_44 : decode cX11_rule 44 = .ok (.ireturn, 1) := by decide +kernel
theorem dX11_rule_45 : decode cX11_rule 45 = .ok (.aload_n 0, 1) := by decide +kernel
theorem dX11_rule_46 : decode cX11_rule 46 = .ok (.getfield 35, 3) := by decide +kernel
theorem dX11_rule_49 : decode cX11_rule 49 = .ok (.iload_n 1, 1) := by decide +kernel
theorem dX11_rule_50 : decode cX11_rule 50 = .ok (.aaload, 1) := by decide +kernel
theorem dX11_rule_51 : decode cX11_rule 51 = .ok (.aload_n 0, 1) := by decide +kernel
theorem dX11_rule_52 : decode cX11_rule 52 = .ok (.getfield 29, 3) := by decide +kernel
theorem dX11_rule_55 : decode cX11_rule 55 = .ok (.invokevirtual 135, 3) := by decide +kernel
theorem dX11_rule_58 : decode cX11_rule 58 = .ok (.iconst 1, 1) := by decide +kernel
theorem dX11_rule_59 : decode cX11_rule 59 = .ok (.ireturn, 1) := by decide +kernel
theorem dX11_fault_0 : decode cX11_fault 0 = .ok (.iload_n 1, 1) := by decide +kernel
theorem dX11_fault_1 : decode cX11_fault 1 = .ok (.ifCond .ne 13, 3) := by decide +kernel
theorem dX11_fault_4 : decode cX11_fault 4 = .ok (.aload_n 0, 1) := by decide +kernel
theorem dX11_fault_5 : decode cX11_fault 5 = .ok (.getfield 29, 3) := by decide +kernel
theorem dX11_fault_8 : decode cX11_fault 8 = .ok (.getfield 132, 3) := by decide +kernel
theorem dX11_fault_11 : decode cX11_fault 11 = .ok (.goto 19, 3) := by decide +kernel
theorem dX11_fault_14 : decode cX11_fault 14 = .ok (.iload_n 1, 1) := by decide +kernel
theorem dX11_fault_15 : decode cX11_fault 15 = .ok (.iconst 1, 1) := by decide +kernel
theorem dX11_fault_16 : decode cX11_fault 16 = .ok (.if_icmp .ne 13, 3) := by decide +kernel
theorem dX11_fault_19 : decode cX11_fault 19 = .ok (.aload_n 0, 1) := by decide +kernel
theorem dX11_fault_20 : decode cX11_fault 20 = .ok (.getfield 29, 3) := by decide +kernel
theorem dX11_fault_23 : decode cX11_fault 23 = .ok (.getfield 139, 3) := by decide +kernel
theorem dX11_fault_26 : decode cX11_fault 26 = .ok (.goto 4, 3) := by decide +kernel
theorem dX11_fault_29 : decode cX11_fault 29 = .ok (.iconst (-1), 1) := by decide +kernel
theorem dX11_fault_30 : decode cX11_fault 30 = .ok (.ireturn, 1) := by decide +kernel
set_option maxRecDepth 20000 in
theorem ggX11_carries_X11_inside : GoodIn wsX11_carries wsX11_inside := goodIn_r _ [6] (by decide +kernel) (by decide +kernel)
set_option maxRecDepth 20000 in
theorem gX11_carries_X11_inside : GoodIn wsX11_carries (va_wsS RX11 85 yX11_inside wsX11_inside) := goodIn_app (goodIn_of _ (by decide +kernel)) ggX11_carries_X11_inside
set_option maxRecDepth 20000 in
theorem ggX11_carries_X11_isWithin : GoodIn wsX11_carries wsX11_isWithin := goodIn_r _ [9] (by decide +kernel) (by decide +kernel)
set_option maxRecDepth 20000 in
theorem gX11_carries_X11_isWithin : GoodIn wsX11_carries (va_wsS RX11 142 yX11_isWithin wsX11_isWithin) := goodIn_app (goodIn_of _ (by decide +kernel)) ggX11_carries_X11_isWithin
set_option maxRecDepth 20000 in
theorem ggX11_carries_X6_passes : GoodIn wsX11_carries wsX6_passes := goodIn_r _ [14, 15, 16, 17, 18, 19, 20, 21, 4, 5, 6, 22, 23, 24, 25, 26, 13, 27, 28, 29, 30, 31, 32, 33, 34, 35, 36, 37, 38, 39, 40, 41, 42, 43, 44, 45, 46, 47, 48, 49, 50, 51, 52, 53, 54, 72, 73, 74, 75, 76, 77, 78, 79, 80, 68, 69, 70, 71] (by decide +kernel) (by decide +kernel)
set_option maxRecDepth 20000 in
theorem gX11_carries_X6_passes : GoodIn wsX11_carries (wsV RX11 145 RX6 yX6_passes wsX6_passes) := goodIn_app (goodIn_of _ (by decide +kernel)) ggX11_carries_X6_passes
theorem dX11_carries_0 : decode cX11_carries 0 = .ok (.iload_n 1, 1) := by decide +kernel
theorem dX11_carries_1 : decode cX11_carries 1 = .ok (.iconst 4, 1) := by decide +kernel
theorem dX11_carries_2 : decode cX11_carries 2 = .ok (.invokestatic 85, 3) := by decide +kernel
theorem dX11_carries_5 : decode cX11_carries 5 = .ok (.ifCond .eq 17, 3) := by decide +kernel
theorem dX11_carries_8 : decode cX11_carries 8 = .ok (.iload_n 2, 1) := by decide +kernel
theorem dX11_carries_9 : decode cX11_carries 9 = .ok (.aload_n 0, 1) := by decide +kernel
theorem dX11_carries_10 : decode cX11_carries 10 = .ok (.getfield 19, 3) := by decide +kernel
theorem dX11_carries_13 : decode cX11_carries 13 = .ok (.getfield 107, 3) := by decide +kernel
theorem dX11_carries_16 : decode cX11_carries 16 = .ok (.invokestatic 142, 3) := by decide +kernel
theorem dX11_carries_19 : decode cX11_carries 19 = .ok (.ifCond .ne 5, 3) := by decide +kernel
theorem dX11_carries_22 : decode cX11_carries 22 = .ok (.iconst (-1), 1) := by decide +kernel
theorem dX11_carries_23 : decode cX11_carries 23 = .ok (.ireturn, 1) := by decide +kernel
theorem dX11_carries_24 : decode cX11_carries 24 = .ok (.aload_n 0, 1) := by decide +kernel
theorem dX11_carries_25 : decode cX11_carries 25 = .ok (.getfield 35, 3) := by decide +kernel
theorem dX11_carries_28 : decode cX11_carries 28 = .ok (.iload_n 1, 1) := by decide +kernel
theorem dX11_carries_29 : decode cX11_carries 29 = .ok (.aaload, 1) := by decide +kernel
theorem dX11_carries_30 : decode cX11_carries 30 = .ok (.iload_n 2, 1) := by decide +kernel
theorem dX11_carries_31 : decode cX11_carries 31 = .ok (.aload_n 0, 1) := by decide +kernel
theorem dX11_carries_32 : decode cX11_carries 32 = .ok (.getfield 19, 3) := by decide +kernel
theorem dX11_carries_35 : decode cX11_carries 35 = .ok (.invokevirtual 145, 3) := by decide +kernel
theorem dX11_carries_38 : decode cX11_carries 38 = .ok (.ifCond .eq 7, 3) := by decide +kernel
theorem dX11_carries_41 : decode cX11_carries 41 = .ok (.iconst 1, 1) := by decide +kernel
theorem dX11_carries_42 : decode cX11_carries 42 = .ok (.goto 4, 3) := by decide +kernel
theorem dX11_carries_45 : decode cX11_carries 45 = .ok (.iconst 0, 1) := by decide +kernel
theorem dX11_carries_46 : decode cX11_carries 46 = .ok (.ireturn, 1) := by decide +kernel
set_option maxRecDepth 20000 in
theorem ggX11_leasts_X11_findLeasts : GoodIn wsX11_leasts wsX11_findLeasts := goodIn_r _ [6, 1, 7, 8, 9, 5, 10, 11, 12, 13, 14, 15, 16, 17, 18, 19, 20, 21, 22, 23, 24, 25, 26, 27, 28, 29, 30, 31, 32, 33, 34, 35, 36, 37, 38, 39, 40, 41, 42, 43, 44, 45, 46, 47, 48, 49, 50, 51, 52, 53, 54, 55, 56, 57, 58, 59, 60, 61, 62, 63, 64, 65, 66, 67, 68, 69, 70, 71, 72, 73, 74, 75, 76, 77, 78, 79, 80, 81, 82, 83, 84, 85, 86, 87, 88, 89, 90, 91, 92, 93, 94, 95, 96, 97, 98, 99, 100, 101, 102, 103, 104, 105, 106, 107, 111, 112, 113, 114, 115, 116, 117, 118, 119, 120, 121, 122, 123, 108, 109, 110] (by decide +kernel) (by decide +kernel)
set_option maxRecDepth 20000 in
theorem gX11_leasts_X11_findLeasts : GoodIn wsX11_leasts (wsV RX11 149 RX11 yX11_findLeasts wsX11_findLeasts) := goodIn_app (goodIn_of _ (by decide +kernel)) ggX11_leasts_X11_findLeasts
theorem dX11_leasts_0 : decode cX11_leasts 0 = .ok (.aload_n 0, 1) := by decide +kernel
theorem dX11_leasts_1 : decode cX11_leasts 1 = .ok (.iload_n 1, 1) := by decide +kernel
theorem dX11_leasts_2 : decode cX11_leasts 2 = .ok (.iload_n 2, 1) := by decide +kernel
theorem dX11_leasts_3 : decode cX11_leasts 3 = .ok (.invokevirtual 149, 3) := by decide +kernel
theorem dX11_leasts_6 : decode cX11_leasts 6 = .ok (.ifCond .eq 13, 3) := by decide +kernel
theorem dX11_leasts_9 : decode cX11_leasts 9 = .ok (.aload_n 0, 1) := by decide +kernel
theorem dX11_leasts_10 : decode cX11_leasts 10 = .ok (.getfield 43, 3) := by decide +kernel
theorem dX11_leasts_13 : decode cX11_leasts 13 = .ok (.getfield 152, 3) := by decide +kernel
theorem dX11_leasts_16 : decode cX11_leasts 16 = .ok (.goto 4, 3) := by decide +kernel
theorem dX11_leasts_19 : decode cX11_leasts 19 = .ok (.iconst (-1), 1) := by decide +kernel
theorem dX11_leasts_20 : decode cX11_leasts 20 = .ok (.ireturn, 1) := by decide +kernel
set_option maxRecDepth 20000 in
theorem ggX11_least_X11_findLeasts : GoodIn wsX11_least wsX11_findLeasts := goodIn_r _ [6, 1, 7, 8, 9, 5, 10, 11, 12, 13, 14, 15, 16, 17, 18, 19, 20, 21, 22, 23, 24, 25, 26, 27, 28, 29, 30, 31, 32, 33, 34, 35, 36, 37, 38, 39, 40, 41, 42, 43, 44, 45, 46, 47, 48, 49, 50, 51, 52, 53, 54, 55, 56, 57, 58, 59, 60, 61, 62, 63, 64, 65, 66, 67, 68, 69, 70, 71, 72, 73, 74, 75, 76, 77, 78, 79, 80, 81, 82, 83, 84, 85, 86, 87, 88, 89, 90, 91, 92, 93, 94, 99, 100, 101, 102, 103, 104, 105, 106, 107, 108, 109, 110, 111, 112, 113, 114, 115, 116, 117, 118, 119, 120, 121, 122, 123, 124, 125, 126, 127] (by decide +kernel) (by decide +kernel)
set_option maxRecDepth 20000 in
theorem gX11_least_X11_findLeasts : GoodIn wsX11_least (wsV RX11 149 RX11 yX11_findLeasts wsX11_findLeasts) := goodIn_app (goodIn_of _ (by decide +kernel)) ggX11_least_X11_findLeasts
set_option maxRecDepth 20000 in
theorem ggX11_least_X1_at : GoodIn wsX11_least wsX1_at := goodIn_r _ [98, 76, 89, 14, 5, 15, 125, 126, 127] (by decide +kernel) (by decide +kernel)
set_option maxRecDepth 20000 in
theorem gX11_least_X1_at : GoodIn wsX11_least (wsV RX11 153 RX1 yX1_at wsX1_at) := goodIn_app (goodIn_of _ (by decide +kernel)) ggX11_least_X1_at
theorem dX11_least_0 : decode cX11_least 0 = .ok (.aload_n 0, 1) := by decide +kernel
theorem dX11_least_1 : decode cX11_least 1 = .ok (.iload_n 1, 1) := by decide +kernel
theorem dX11_least_2 : decode cX11_least 2 = .ok (.iload_n 2, 1) := by decide +kernel
theorem dX11_least_3 : decode cX11_least 3 = .ok (.invokevirtual 149, 3) := by decide +kernel
theorem dX11_least_6 : decode cX11_least 6 = .ok (.ifCond .eq 14, 3) := by decide +kernel
theorem dX11_least_9 : decode cX11_least 9 = .ok (.aload_n 0, 1) := by decide +kernel
theorem dX11_least_10 : decode cX11_least 10 = .ok (.getfield 43, 3) := by decide +kernel
theorem dX11_least_13 : decode cX11_least 13 = .ok (.iload_n 3, 1) := by decide +kernel
theorem dX11_least_14 : decode cX11_least 14 = .ok (.invokevirtual 153, 3) := by decide +kernel
theorem dX11_least_17 : decode cX11_least 17 = .ok (.goto 4, 3) := by decide +kernel
theorem dX11_least_20 : decode cX11_least 20 = .ok (.iconst (-1), 1) := by decide +kernel
theorem dX11_least_21 : decode cX11_least 21 = .ok (.ireturn, 1) := by decide +kernel
set_option maxRecDepth 20000 in
theorem ggX11_power_X11_tableOf : GoodIn wsX11_power wsX11_tableOf := goodIn_r _ [8, 9, 2, 10, 11, 7, 12, 13, 14, 15, 16, 17, 18, 19, 20, 21, 22, 23, 24, 25, 26, 27, 28, 29, 30, 31, 32, 33, 34, 35, 36, 37, 38, 39, 40, 41, 42, 43, 44, 45, 46, 47, 48, 49, 50, 51, 52, 53, 54, 55, 56, 57, 58, 59, 60, 61, 62, 63, 64, 65, 66, 67, 106, 107, 108, 109, 110, 111, 112, 113, 114, 115, 116, 117, 118, 123, 124, 125, 126, 127, 128, 129, 130, 131, 119, 120, 121, 122] (by decide +kernel) (by decide +kernel)
set_option maxRecDepth 20000 in
theorem gX11_power_X11_tableOf : GoodIn wsX11_power (wsV RX11 156 RX11 yX11_tableOf wsX11_tableOf) := goodIn_app (goodIn_of _ (by decide +kernel)) ggX11_power_X11_tableOf
set_option maxRecDepth 20000 in
theorem ggX11_power_X11_inside : GoodIn wsX11_power wsX11_inside := goodIn_r _ [12] (by decide +kernel) (by decide +kernel)
set_option maxRecDepth 20000 in
theorem gX11_power_X11_inside : GoodIn wsX11_power (va_wsS RX11 85 yX11_inside wsX11_inside) := goodIn_app (goodIn_of _ (by decide +kernel)) ggX11_power_X11_inside
set_option maxRecDepth 20000 in
theorem ggX11_power_X11_has : GoodIn wsX11_power wsX11_has := goodIn_r _ [70] (by decide +kernel) (by decide +kernel)
set_option maxRecDepth 20000 in
theorem gX11_power_X11_has : GoodIn wsX11_power (va_wsS RX11 110 yX11_has wsX11_has) := goodIn_app (goodIn_of _ (by decide +kernel)) ggX11_power_X11_has
set_option maxRecDepth 20000 in
theorem ggX11_power_X9_swings : GoodIn wsX11_power wsX9_swings := goodIn_r _ [74, 25, 75, 76, 77, 22, 78, 31, 7, 32, 79, 80, 81, 82, 24, 11, 12, 69, 70, 127, 128, 129, 130, 131] (by decide +kernel) (by decide +kernel)
set_option maxRecDepth 20000 in
theorem gX11_power_X9_swings : GoodIn wsX11_power (wsV RX11 162 RX9 yX9_swings wsX9_swings) := goodIn_app (goodIn_of _ (by decide +kernel)) ggX11_power_X9_swings
set_option maxRecDepth 20000 in
theorem ggX11_power_X9_setsWithoutOne : GoodIn wsX11_power wsX9_setsWithoutOne := goodIn_r _ [86, 25, 87, 88, 89, 90, 91, 44, 45, 46, 47, 48, 49, 127, 128, 129, 130, 131] (by decide +kernel) (by decide +kernel)
set_option maxRecDepth 20000 in
theorem gX11_power_X9_setsWithoutOne : GoodIn wsX11_power (wsV RX11 168 RX9 yX9_setsWithoutOne wsX9_setsWithoutOne) := goodIn_app (goodIn_of _ (by decide +kernel)) ggX11_power_X9_setsWithoutOne
set_option maxRecDepth 20000 in
theorem ggX11_power_X11_reduced : GoodIn wsX11_power wsX11_reduced := goodIn_r _ [94] (by decide +kernel) (by decide +kernel)
set_option maxRecDepth 20000 in
theorem gX11_power_X11_reduced : GoodIn wsX11_power (va_wsS RX11 172 yX11_reduced wsX11_reduced) := goodIn_app (goodIn_of _ (by decide +kernel)) ggX11_power_X11_reduced
set_option maxRecDepth 20000 in
theorem ggX11_power_X9_turns : GoodIn wsX11_power wsX9_turns := goodIn_r _ [98, 25, 91, 44, 45, 46, 47, 48, 49, 75, 76, 77, 22, 78, 31, 7, 32, 79, 80, 81, 82, 24, 11, 12, 69, 70, 99, 100, 101, 127, 128, 129, 130, 131] (by decide +kernel) (by decide +kernel)
set_option maxRecDepth 20000 in
theorem gX11_power_X9_turns : GoodIn wsX11_power (wsV RX11 176 RX9 yX9_turns wsX9_turns) := goodIn_app (goodIn_of _ (by decide +kernel)) ggX11_power_X9_turns
set_option maxRecDepth 20000 in
theorem ggX11_power_X9_orders : GoodIn wsX11_power wsX9_orders := goodIn_r _ [105, 25, 91, 44, 45, 46, 47, 48, 49, 99, 100, 22, 101, 127, 128, 129, 130, 131] (by decide +kernel) (by decide +kernel)
set_option maxRecDepth 20000 in
theorem gX11_power_X9_orders : GoodIn wsX11_power (wsV RX11 179 RX9 yX9_orders wsX9_orders) := goodIn_app (goodIn_of _ (by decide +kernel)) ggX11_power_X9_orders
theorem dX11_power_0 : decode cX11_power 0 = .ok (.aload_n 0, 1) := by decide +kernel
theorem dX11_power_1 : decode cX11_power 1 = .ok (.iload_n 1, 1) := by decide +kernel
theorem dX11_power_2 : decode cX11_power 2 = .ok (.invokevirtual 156, 3) := by decide +kernel
theorem dX11_power_5 : decode cX11_power 5 = .ok (.astore 4, 2) := by decide +kernel
theorem dX11_power_7 : decode cX11_power 7 = .ok (.aload 4, 2) := by decide +kernel
theorem dX11_power_9 : decode cX11_power 9 = .ok (.ifnull 28, 3) := by decide +kernel
theorem dX11_power_12 : decode cX11_power 12 = .ok (.iload_n 2, 1) := by decide +kernel
theorem dX11_power_13 : decode cX11_power 13 = .ok (.aload_n 0, 1) := by decide +kernel
theorem dX11_power_14 : decode cX11_power 14 = .ok (.getfield 82, 3) := by decide +kernel
theorem dX11_power_17 : decode cX11_power 17 = .ok (.invokestatic 85, 3) := by decide +kernel
theorem dX11_power_20 : decode cX11_power 20 = .ok (.ifCond .eq 17, 3) := by decide +kernel
theorem dX11_power_23 : decode cX11_power 23 = .ok (.aload_n 0, 1) := by decide +kernel
theorem dX11_power_24 : decode cX11_power 24 = .ok (.getfield 19, 3) := by decide +kernel
theorem dX11_power_27 : decode cX11_power 27 = .ok (.getfield 107, 3) := by decide +kernel
theorem dX11_power_30 : decode cX11_power 30 = .ok (.iload_n 2, 1) := by decide +kernel
theorem dX11_power_31 : decode cX11_power 31 = .ok (.invokestatic 110, 3) := by decide +kernel
theorem dX11_power_34 : decode cX11_power 34 = .ok (.ifCond .ne 7, 3) := by decide +kernel
theorem dX11_power_37 : decode cX11_power 37 = .ok (.ldc2_w 160, 3) := by decide +kernel
theorem dX11_power_40 : decode cX11_power 40 = .ok (.lreturn, 1) := by decide +kernel
theorem dX11_power_41 : decode cX11_power 41 = .ok (.iload_n 3, 1) := by decide +kernel
theorem dX11_power_42 : decode cX11_power 42 = .ok (.tableswitch 101 0 4 #[34, 41, 56, 71, 86], 34) := by decide +kernel
theorem dX11_power_76 : decode cX11_power 76 = .ok (.aload 4, 2) := by decide +kernel
theorem dX11_power_78 : decode cX11_power 78 = .ok (.iload_n 2, 1) := by decide +kernel
theorem dX11_power_79 : decode cX11_power 79 = .ok (.invokevirtual 162, 3) := by decide +kernel
theorem dX11_power_82 : decode cX11_power 82 = .ok (.lreturn, 1) := by decide +kernel
theorem dX11_power_83 : decode cX11_power 83 = .ok (.aload 4, 2) := by decide +kernel
theorem dX11_power_85 : decode cX11_power 85 = .ok (.iload_n 2, 1) := by decide +kernel
theorem dX11_power_86 : decode cX11_power 86 = .ok (.invokevirtual 162, 3) := by decide +kernel
theorem dX11_power_89 : decode cX11_power 89 = .ok (.aload 4, 2) := by decide +kernel
theorem dX11_power_91 : decode cX11_power 91 = .ok (.invokevirtual 168, 3) := by decide +kernel
theorem dX11_power_94 : decode cX11_power 94 = .ok (.invokestatic 172, 3) := by decide +kernel
theorem dX11_power_97 : decode cX11_power 97 = .ok (.lreturn, 1) := by decide +kernel
theorem dX11_power_98 : decode cX11_power 98 = .ok (.aload 4, 2) := by decide +kernel
theorem dX11_power_100 : decode cX11_power 100 = .ok (.invokevirtual 168, 3) := by decide +kernel
theorem dX11_power_103 : decode cX11_power 103 = .ok (.aload 4, 2) := by decide +kernel
theorem dX11_power_105 : decode cX11_power 105 = .ok (.iload_n 2, 1) := by decide +kernel
theorem dX11_power_106 : decode cX11_power 106 = .ok (.invokevirtual 162, 3) := by decide +kernel
theorem dX11_power_109 : decode cX11_power 109 = .ok (.invokestatic 172, 3) := by decide +kernel
theorem dX11_power_112 : decode cX11_power 112 = .ok (.lreturn, 1) := by decide +kernel
theorem dX11_power_113 : decode cX11_power 113 = .ok (.aload 4, 2) := by decide +kernel
theorem dX11_power_115 : decode cX11_power 115 = .ok (.iload_n 2, 1) := by decide +kernel
theorem dX11_power_116 : decode cX11_power 116 = .ok (.invokevirtual 176, 3) := by decide +kernel
theorem dX11_power_119 : decode cX11_power 119 = .ok (.aload 4, 2) := by decide +kernel
theorem dX11_power_121 : decode cX11_power 121 = .ok (.invokevirtual 179, 3) := by decide +kernel
theorem dX11_power_124 : decode cX11_power 124 = .ok (.invokestatic 172, 3) := by decide +kernel
theorem dX11_power_127 : decode cX11_power 127 = .ok (.lreturn, 1) := by decide +kernel
theorem dX11_power_128 : decode cX11_power 128 = .ok (.aload 4, 2) := by decide +kernel
theorem dX11_power_130 : decode cX11_power 130 = .ok (.invokevirtual 179, 3) := by decide +kernel
theorem dX11_power_133 : decode cX11_power 133 = .ok (.aload 4, 2) := by decide +kernel
theorem dX11_power_135 : decode cX11_power 135 = .ok (.iload_n 2, 1) := by decide +kernel
theorem dX11_power_136 : decode cX11_power 136 = .ok (.invokevirtual 176, 3) := by decide +kernel
theorem dX11_power_139 : decode cX11_power 139 = .ok (.invokestatic 172, 3) := by decide +kernel
theorem dX11_power_142 : decode cX11_power 142 = .ok (.lreturn, 1) := by decide +kernel
theorem dX11_power_143 : decode cX11_power 143 = .ok (.ldc2_w 160, 3) := by decide +kernel
theorem dX11_power_146 : decode cX11_power 146 = .ok (.lreturn, 1) := by decide +kernel
set_option maxRecDepth 20000 in
theorem ggX11_odd_X11_tableOf : GoodIn wsX11_odd wsX11_tableOf := goodIn_r _ [5, 6, 7, 8, 9, 4, 10, 11, 12, 13, 14, 15, 16, 17, 18, 19, 20, 21, 22, 23, 24, 25, 26, 27, 28, 29, 30, 31, 32, 33, 34, 35, 36, 37, 38, 39, 40, 41, 42, 43, 44, 45, 46, 47, 48, 49, 50, 51, 52, 53, 54, 55, 56, 57, 58, 59, 60, 61, 62, 63, 64, 65, 81, 82, 83, 84, 85, 86, 87, 88, 89, 90, 91, 92, 93, 94, 95, 96, 97, 98, 99, 100, 101, 102, 103, 104, 105, 106] (by decide +kernel) (by decide +kernel)
set_option maxRecDepth 20000 in
theorem gX11_odd_X11_tableOf : GoodIn wsX11_odd (wsV RX11 156 RX11 yX11_tableOf wsX11_tableOf) := goodIn_app (goodIn_of _ (by decide +kernel)) ggX11_odd_X11_tableOf
set_option maxRecDepth 20000 in
theorem ggX11_odd_X11_inside : GoodIn wsX11_odd wsX11_inside := goodIn_r _ [10] (by decide +kernel) (by decide +kernel)
set_option maxRecDepth 20000 in
theorem gX11_odd_X11_inside : GoodIn wsX11_odd (va_wsS RX11 85 yX11_inside wsX11_inside) := goodIn_app (goodIn_of _ (by decide +kernel)) ggX11_odd_X11_inside
set_option maxRecDepth 20000 in
theorem ggX11_odd_X9_oddSet : GoodIn wsX11_odd wsX9_oddSet := goodIn_r _ [69, 23, 29, 4, 30, 70, 71, 72, 20, 73, 22, 9, 10, 74, 75, 76, 77, 78, 79, 98, 99, 100, 101, 102] (by decide +kernel) (by decide +kernel)
set_option maxRecDepth 20000 in
theorem gX11_odd_X9_oddSet : GoodIn wsX11_odd (wsV RX11 182 RX9 yX9_oddSet wsX9_oddSet) := goodIn_app (goodIn_of _ (by decide +kernel)) ggX11_odd_X9_oddSet
set_option maxRecDepth 20000 in
theorem ggX11_odd_X9_spoiler : GoodIn wsX11_odd wsX9_spoiler := goodIn_r _ [79, 23, 74, 4, 75, 70, 71, 72, 20, 73, 22, 9, 10, 98, 99, 100, 101, 102] (by decide +kernel) (by decide +kernel)
set_option maxRecDepth 20000 in
theorem gX11_odd_X9_spoiler : GoodIn wsX11_odd (wsV RX11 185 RX9 yX9_spoiler wsX9_spoiler) := goodIn_app (goodIn_of _ (by decide +kernel)) ggX11_odd_X9_spoiler
theorem dX11_odd_0 : decode cX11_odd 0 = .ok (.aload_n 0, 1) := by decide +kernel
theorem dX11_odd_1 : decode cX11_odd 1 = .ok (.iload_n 1, 1) := by decide +kernel
theorem dX11_odd_2 : decode cX11_odd 2 = .ok (.invokevirtual 156, 3) := by decide +kernel
theorem dX11_odd_5 : decode cX11_odd 5 = .ok (.astore_n 3, 1) := by decide +kernel
theorem dX11_odd_6 : decode cX11_odd 6 = .ok (.aload_n 3, 1) := by decide +kernel
theorem dX11_odd_7 : decode cX11_odd 7 = .ok (.ifnull 11, 3) := by decide +kernel
theorem dX11_odd_10 : decode cX11_odd 10 = .ok (.iload_n 2, 1) := by decide +kernel
theorem dX11_odd_11 : decode cX11_odd 11 = .ok (.iconst 2, 1) := by decide +kernel
theorem dX11_odd_12 : decode cX11_odd 12 = .ok (.invokestatic 85, 3) := by decide +kernel
theorem dX11_odd_15 : decode cX11_odd 15 = .ok (.ifCond .ne 5, 3) := by decide +kernel
theorem dX11_odd_18 : decode cX11_odd 18 = .ok (.iconst (-1), 1) := by decide +kernel
theorem dX11_odd_19 : decode cX11_odd 19 = .ok (.ireturn, 1) := by decide +kernel
theorem dX11_odd_20 : decode cX11_odd 20 = .ok (.aload_n 3, 1) := by decide +kernel
theorem dX11_odd_21 : decode cX11_odd 21 = .ok (.invokevirtual 182, 3) := by decide +kernel
theorem dX11_odd_24 : decode cX11_odd 24 = .ok (.istore 4, 2) := by decide +kernel
theorem dX11_odd_26 : decode cX11_odd 26 = .ok (.iload 4, 2) := by decide +kernel
theorem dX11_odd_28 : decode cX11_odd 28 = .ok (.iconst (-1), 1) := by decide +kernel
theorem dX11_odd_29 : decode cX11_odd 29 = .ok (.if_icmp .ne 5, 3) := by decide +kernel
theorem dX11_odd_32 : decode cX11_odd 32 = .ok (.iconst (-1), 1) := by decide +kernel
theorem dX11_odd_33 : decode cX11_odd 33 = .ok (.ireturn, 1) := by decide +kernel
theorem dX11_odd_34 : decode cX11_odd 34 = .ok (.iload_n 2, 1) := by decide +kernel
theorem dX11_odd_35 : decode cX11_odd 35 = .ok (.ifCond .ne 8, 3) := by decide +kernel
theorem dX11_odd_38 : decode cX11_odd 38 = .ok (.iload 4, 2) := by decide +kernel
theorem dX11_odd_40 : decode cX11_odd 40 = .ok (.goto 9, 3) := by decide +kernel
theorem dX11_odd_43 : decode cX11_odd 43 = .ok (.aload_n 3, 1) := by decide +kernel
theorem dX11_odd_44 : decode cX11_odd 44 = .ok (.iload 4, 2) := by decide +kernel
theorem dX11_odd_46 : decode cX11_odd 46 = .ok (.invokevirtual 185, 3) := by decide +kernel
theorem dX11_odd_49 : decode cX11_odd 49 = .ok (.ireturn, 1) := by decide +kernel
set_option maxRecDepth 20000 in
theorem ggX11_worth_X11_tableOf : GoodIn wsX11_worth wsX11_tableOf := goodIn_r _ [7, 8, 2, 9, 10, 6, 11, 12, 13, 14, 15, 16, 17, 18, 19, 20, 21, 22, 23, 24, 25, 26, 27, 28, 29, 30, 31, 32, 33, 34, 35, 36, 37, 38, 39, 40, 41, 42, 43, 44, 45, 46, 47, 48, 49, 50, 51, 52, 53, 54, 55, 56, 57, 58, 59, 60, 61, 62, 63, 64, 65, 66, 78, 79, 80, 81, 82, 83, 84, 85, 86, 87, 88, 89, 90, 95, 96, 97, 98, 99, 100, 101, 102, 103, 91, 92, 93, 94] (by decide +kernel) (by decide +kernel)
set_option maxRecDepth 20000 in
theorem gX11_worth_X11_tableOf : GoodIn wsX11_worth (wsV RX11 156 RX11 yX11_tableOf wsX11_tableOf) := goodIn_app (goodIn_of _ (by decide +kernel)) ggX11_worth_X11_tableOf
set_option maxRecDepth 20000 in
theorem ggX11_worth_X11_inside : GoodIn wsX11_worth wsX11_inside := goodIn_r _ [11] (by decide +kernel) (by decide +kernel)
set_option maxRecDepth 20000 in
theorem gX11_worth_X11_inside : GoodIn wsX11_worth (va_wsS RX11 85 yX11_inside wsX11_inside) := goodIn_app (goodIn_of _ (by decide +kernel)) ggX11_worth_X11_inside
set_option maxRecDepth 20000 in
theorem ggX11_worth_X11_has : GoodIn wsX11_worth wsX11_has := goodIn_r _ [69] (by decide +kernel) (by decide +kernel)
set_option maxRecDepth 20000 in
theorem gX11_worth_X11_has : GoodIn wsX11_worth (va_wsS RX11 110 yX11_has wsX11_has) := goodIn_app (goodIn_of _ (by decide +kernel)) ggX11_worth_X11_has
set_option maxRecDepth 20000 in
theorem ggX11_worth_X9_noLess : GoodIn wsX11_worth wsX9_noLess := goodIn_r _ [73, 24, 30, 6, 31, 74, 75, 76, 21, 77, 23, 10, 11, 68, 69, 99, 100, 101, 102, 103] (by decide +kernel) (by decide +kernel)
set_option maxRecDepth 20000 in
theorem gX11_worth_X9_noLess : GoodIn wsX11_worth (wsV RX11 188 RX9 yX9_noLess wsX9_noLess) := goodIn_app (goodIn_of _ (by decide +kernel)) ggX11_worth_X9_noLess
theorem dX11_worth_0 : decode cX11_worth 0 = .ok (.aload_n 0, 1) := by decide +kernel
theorem dX11_worth_1 : decode cX11_worth 1 = .ok (.iload_n 1, 1) := by decide +kernel
theorem dX11_worth_2 : decode cX11_worth 2 = .ok (.invokevirtual 156, 3) := by decide +kernel
theorem dX11_worth_5 : decode cX11_worth 5 = .ok (.astore 4, 2) := by decide +kernel
theorem dX11_worth_7 : decode cX11_worth 7 = .ok (.aload 4, 2) := by decide +kernel
theorem dX11_worth_9 : decode cX11_worth 9 = .ok (.ifnull 58, 3) := by decide +kernel
theorem dX11_worth_12 : decode cX11_worth 12 = .ok (.iload_n 2, 1) := by decide +kernel
theorem dX11_worth_13 : decode cX11_worth 13 = .ok (.iload_n 3, 1) := by decide +kernel
theorem dX11_worth_14 : decode cX11_worth 14 = .ok (.if_icmp .eq 53, 3) := by decide +kernel
theorem dX11_worth_17 : decode cX11_worth 17 = .ok (.iload_n 2, 1) := by decide +kernel
theorem dX11_worth_18 : decode cX11_worth 18 = .ok (.aload_n 0, 1) := by decide +kernel
theorem dX11_worth_19 : decode cX11_worth 19 = .ok (.getfield 82, 3) := by decide +kernel
theorem dX11_worth_22 : decode cX11_worth 22 = .ok (.invokestatic 85, 3) := by decide +kernel
theorem dX11_worth_25 : decode cX11_worth 25 = .ok (.ifCond .eq 42, 3) := by decide +kernel
theorem dX11_worth_28 : decode cX11_worth 28 = .ok (.iload_n 3, 1) := by decide +kernel
theorem dX11_worth_29 : decode cX11_worth 29 = .ok (.aload_n 0, 1) := by decide +kernel
theorem dX11_worth_30 : decode cX11_worth 30 = .ok (.getfield 82, 3) := by decide +kernel
theorem dX11_worth_33 : decode cX11_worth 33 = .ok (.invokestatic 85, 3) := by decide +kernel
theorem dX11_worth_36 : decode cX11_worth 36 = .ok (.ifCond .eq 31, 3) := by decide +kernel
theorem dX11_worth_39 : decode cX11_worth 39 = .ok (.aload_n 0, 1) := by decide +kernel
theorem dX11_worth_40 : decode cX11_worth 40 = .ok (.getfield 19, 3) := by decide +kernel
theorem dX11_worth_43 : decode cX11_worth 43 = .ok (.getfield 107, 3) := by decide +kernel
theorem dX11_worth_46 : decode cX11_worth 46 = .ok (.iload_n 2, 1) := by decide +kernel
theorem dX11_worth_47 : decode cX11_worth 47 = .ok (.invokestatic 110, 3) := by decide +kernel
theorem dX11_worth_50 : decode cX11_worth 50 = .ok (.ifCond .eq 17, 3) := by decide +kernel
theorem dX11_worth_53 : decode cX11_worth 53 = .ok (.aload_n 0, 1) := by decide +kernel
theorem dX11_worth_54 : decode cX11_worth 54 = .ok (.getfield 19, 3) := by decide +kernel
theorem dX11_worth_57 : decode cX11_worth 57 = .ok (.getfield 107, 3) := by decide +kernel
theorem dX11_worth_60 : decode cX11_worth 60 = .ok (.iload_n 3, 1) := by decide +kernel
theorem dX11_worth_61 : decode cX11_worth 61 = .ok (.invokestatic 110, 3) := by decide +kernel
theorem dX11_worth_64 : decode cX11_worth 64 = .ok (.ifCond .ne 5, 3) := by decide +kernel
theorem dX11_worth_67 : decode cX11_worth 67 = .ok (.iconst (-1), 1) := by decide +kernel
theorem dX11_worth_68 : decode cX11_worth 68 = .ok (.ireturn, 1) := by decide +kernel
theorem dX11_worth_69 : decode cX11_worth 69 = .ok (.aload 4, 2) := by decide +kernel
theorem dX11_worth_71 : decode cX11_worth 71 = .ok (.iload_n 2, 1) := by decide +kernel
theorem dX11_worth_72 : decode cX11_worth 72 = .ok (.iload_n 3, 1) := by decide +kernel
theorem dX11_worth_73 : decode cX11_worth 73 = .ok (.invokevirtual 188, 3) := by decide +kernel
theorem dX11_worth_76 : decode cX11_worth 76 = .ok (.ifCond .eq 7, 3) := by decide +kernel
theorem dX11_worth_79 : decode cX11_worth 79 = .ok (.iconst 1, 1) := by decide +kernel
theorem dX11_worth_80 : decode cX11_worth 80 = .ok (.goto 4, 3) := by decide +kernel
theorem dX11_worth_83 : decode cX11_worth 83 = .ok (.iconst 0, 1) := by decide +kernel
theorem dX11_worth_84 : decode cX11_worth 84 = .ok (.aload 4, 2) := by decide +kernel
theorem dX11_worth_86 : decode cX11_worth 86 = .ok (.iload_n 3, 1) := by decide +kernel
theorem dX11_worth_87 : decode cX11_worth 87 = .ok (.iload_n 2, 1) := by decide +kernel
theorem dX11_worth_88 : decode cX11_worth 88 = .ok (.invokevirtual 188, 3) := by decide +kernel
theorem dX11_worth_91 : decode cX11_worth 91 = .ok (.ifCond .eq 7, 3) := by decide +kernel
theorem dX11_worth_94 : decode cX11_worth 94 = .ok (.iconst 2, 1) := by decide +kernel
theorem dX11_worth_95 : decode cX11_worth 95 = .ok (.goto 4, 3) := by decide +kernel
theorem dX11_worth_98 : decode cX11_worth 98 = .ok (.iconst 0, 1) := by decide +kernel
theorem dX11_worth_99 : decode cX11_worth 99 = .ok (.iadd, 1) := by decide +kernel
theorem dX11_worth_100 : decode cX11_worth 100 = .ok (.ireturn, 1) := by decide +kernel
set_option maxRecDepth 20000 in
theorem ggX11_trade_X11_tableOf : GoodIn wsX11_trade wsX11_tableOf := goodIn_r _ [6, 7, 8, 9, 10, 5, 11, 12, 13, 14, 15, 16, 17, 18, 19, 20, 21, 22, 23, 24, 25, 26, 27, 28, 29, 30, 31, 32, 33, 34, 35, 36, 37, 38, 39, 40, 41, 42, 43, 44, 45, 46, 47, 48, 49, 50, 51, 52, 53, 54, 55, 56, 57, 58, 59, 60, 61, 62, 63, 64, 65, 66, 109, 110, 111, 112, 113, 114, 115, 116, 117, 118, 119, 120, 121, 122, 123, 124, 125, 104, 105, 106, 107, 108, 126, 127, 128, 129] (by decide +kernel) (by decide +kernel)
set_option maxRecDepth 20000 in
theorem gX11_trade_X11_tableOf : GoodIn wsX11_trade (wsV RX11 156 RX11 yX11_tableOf wsX11_tableOf) := goodIn_app (goodIn_of _ (by decide +kernel)) ggX11_trade_X11_tableOf
set_option maxRecDepth 20000 in
theorem ggX11_trade_X11_inside : GoodIn wsX11_trade wsX11_inside := goodIn_r _ [11] (by decide +kernel) (by decide +kernel)
set_option maxRecDepth 20000 in
theorem gX11_trade_X11_inside : GoodIn wsX11_trade (va_wsS RX11 85 yX11_inside wsX11_inside) := goodIn_app (goodIn_of _ (by decide +kernel)) ggX11_trade_X11_inside
set_option maxRecDepth 20000 in
theorem ggX11_trade_X10_seek : GoodIn wsX11_trade wsX10_seek := goodIn_r _ [71, 72, 73, 74, 27, 28, 29, 75, 76, 77, 70, 78, 79, 80, 30, 5, 31, 81, 82, 83, 21, 84, 23, 10, 11, 85, 86, 87, 88, 89, 90, 91, 92, 93, 94, 95, 96, 97, 98, 99, 100, 101, 102, 103, 104, 105, 106, 107, 108, 130, 131, 132, 133, 134] (by decide +kernel) (by decide +kernel)
set_option maxRecDepth 20000 in
theorem gX11_trade_X10_seek : GoodIn wsX11_trade (wsV RX11 195 RX10 yX10_seek wsX10_seek) := goodIn_app (goodIn_of _ (by decide +kernel)) ggX11_trade_X10_seek
theorem dX11_trade_0 : decode cX11_trade 0 = .ok (.aload_n 0, 1) := by decide +kernel
theorem dX11_trade_1 : decode cX11_trade 1 = .ok (.iload_n 1, 1) := by decide +kernel
theorem dX11_trade_2 : decode cX11_trade 2 = .ok (.invokevirtual 156, 3) := by decide +kernel
theorem dX11_trade_5 : decode cX11_trade 5 = .ok (.astore_n 3, 1) := by decide +kernel
theorem dX11_trade_6 : decode cX11_trade 6 = .ok (.aload_n 3, 1) := by decide +kernel
theorem dX11_trade_7 : decode cX11_trade 7 = .ok (.ifnull 11, 3) := by decide +kernel
theorem dX11_trade_10 : decode cX11_trade 10 = .ok (.iload_n 2, 1) := by decide +kernel
theorem dX11_trade_11 : decode cX11_trade 11 = .ok (.iconst 4, 1) := by decide +kernel
theorem dX11_trade_12 : decode cX11_trade 12 = .ok (.invokestatic 85, 3) := by decide +kernel
theorem dX11_trade_15 : decode cX11_trade 15 = .ok (.ifCond .ne 5, 3) := by decide +kernel
theorem dX11_trade_18 : decode cX11_trade 18 = .ok (.iconst (-1), 1) := by decide +kernel
theorem dX11_trade_19 : decode cX11_trade 19 = .ok (.ireturn, 1) := by decide +kernel
theorem dX11_trade_20 : decode cX11_trade 20 = .ok (.aload_n 3, 1) := by decide +kernel
theorem dX11_trade_21 : decode cX11_trade 21 = .ok (.getfield 191, 3) := by decide +kernel
theorem dX11_trade_24 : decode cX11_trade 24 = .ok (.ifCond .ne 11, 3) := by decide +kernel
theorem dX11_trade_27 : decode cX11_trade 27 = .ok (.aload_n 0, 1) := by decide +kernel
theorem dX11_trade_28 : decode cX11_trade 28 = .ok (.getfield 50, 3) := by decide +kernel
theorem dX11_trade_31 : decode cX11_trade 31 = .ok (.aload_n 3, 1) := by decide +kernel
theorem dX11_trade_32 : decode cX11_trade 32 = .ok (.invokevirtual 195, 3) := by decide +kernel
theorem dX11_trade_35 : decode cX11_trade 35 = .ok (.aload_n 3, 1) := by decide +kernel
theorem dX11_trade_36 : decode cX11_trade 36 = .ok (.getfield 199, 3) := by decide +kernel
theorem dX11_trade_39 : decode cX11_trade 39 = .ok (.iload_n 2, 1) := by decide +kernel
theorem dX11_trade_40 : decode cX11_trade 40 = .ok (.iaload, 1) := by decide +kernel
theorem dX11_trade_41 : decode cX11_trade 41 = .ok (.ireturn, 1) := by decide +kernel
set_option maxRecDepth 20000 in
theorem ggX11_days_X11_inside : GoodIn wsX11_days wsX11_inside := goodIn_r _ [12] (by decide +kernel) (by decide +kernel)
set_option maxRecDepth 20000 in
theorem gX11_days_X11_inside : GoodIn wsX11_days (va_wsS RX11 85 yX11_inside wsX11_inside) := goodIn_app (goodIn_of _ (by decide +kernel)) ggX11_days_X11_inside
set_option maxRecDepth 20000 in
theorem ggX11_days_X11_isWithin : GoodIn wsX11_days wsX11_isWithin := goodIn_r _ [15] (by decide +kernel) (by decide +kernel)
set_option maxRecDepth 20000 in
theorem gX11_days_X11_isWithin : GoodIn wsX11_days (va_wsS RX11 142 yX11_isWithin wsX11_isWithin) := goodIn_app (goodIn_of _ (by decide +kernel)) ggX11_days_X11_isWithin
set_option maxRecDepth 20000 in
theorem ggX11_days_X3_dayBehind : GoodIn wsX11_days wsX3_dayBehind := goodIn_r _ [20, 21, 22, 100, 101, 102, 103, 104, 105, 106] (by decide +kernel) (by decide +kernel)
set_option maxRecDepth 20000 in
theorem gX11_days_X3_dayBehind : GoodIn wsX11_days (wsV RX11 203 RX3 yX3_dayBehind wsX3_dayBehind) := goodIn_app (goodIn_of _ (by decide +kernel)) ggX11_days_X3_dayBehind
set_option maxRecDepth 20000 in
theorem ggX11_days_X3_seat : GoodIn wsX11_days wsX3_seat := goodIn_r _ [26, 27, 21, 28, 22, 29, 30, 31, 32, 33, 34, 35, 36, 37, 19, 38, 39, 10, 11, 12, 40, 41, 42, 43, 44, 45, 46, 47, 48, 49, 50, 51, 52, 53, 100, 101, 102, 103, 104, 105, 106, 96, 97, 98, 99] (by decide +kernel) (by decide +kernel)
set_option maxRecDepth 20000 in
theorem gX11_days_X3_seat : GoodIn wsX11_days (wsV RX11 212 RX3 yX3_seat wsX3_seat) := goodIn_app (goodIn_of _ (by decide +kernel)) ggX11_days_X3_seat
set_option maxRecDepth 20000 in
theorem ggX11_days_X6_holds : GoodIn wsX11_days wsX6_holds := goodIn_r _ [58, 59, 60, 61, 10, 11, 12, 62, 63, 57, 64, 65, 66, 67, 68, 69, 70, 71, 72, 73, 74, 43, 75, 45, 76, 77, 78, 79, 46, 80, 81, 82, 107, 108, 109, 110, 96, 97, 98, 99] (by decide +kernel) (by decide +kernel)
set_option maxRecDepth 20000 in
theorem gX11_days_X6_holds : GoodIn wsX11_days (wsV RX11 216 RX6 yX6_holds wsX6_holds) := goodIn_app (goodIn_of _ (by decide +kernel)) ggX11_days_X6_holds
theorem dX11_days_0 : decode cX11_days 0 = .ok (.iload_n 1, 1) := by decide +kernel
theorem dX11_days_1 : decode cX11_days 1 = .ok (.iconst 4, 1) := by decide +kernel
theorem dX11_days_2 : decode cX11_days 2 = .ok (.invokestatic 85, 3) := by decide +kernel
theorem dX11_days_5 : decode cX11_days 5 = .ok (.ifCond .eq 47, 3) := by decide +kernel
theorem dX11_days_8 : decode cX11_days 8 = .ok (.iload_n 2, 1) := by decide +kernel
theorem dX11_days_9 : decode cX11_days 9 = .ok (.iconst 1, 1) := by decide +kernel
theorem dX11_days_10 : decode cX11_days 10 = .ok (.aload_n 0, 1) := by decide +kernel
theorem dX11_days_11 : decode cX11_days 11 = .ok (.getfield 82, 3) := by decide +kernel
theorem dX11_days_14 : decode cX11_days 14 = .ok (.ishl, 1) := by decide +kernel
theorem dX11_days_15 : decode cX11_days 15 = .ok (.iconst 1, 1) := by decide +kernel
theorem dX11_days_16 : decode cX11_days 16 = .ok (.isub, 1) := by decide +kernel
theorem dX11_days_17 : decode cX11_days 17 = .ok (.invokestatic 142, 3) := by decide +kernel
theorem dX11_days_20 : decode cX11_days 20 = .ok (.ifCond .eq 32, 3) := by decide +kernel
theorem dX11_days_23 : decode cX11_days 23 = .ok (.iload_n 3, 1) := by decide +kernel
theorem dX11_days_24 : decode cX11_days 24 = .ok (.ifCond .lt 28, 3) := by decide +kernel
theorem dX11_days_27 : decode cX11_days 27 = .ok (.iload 4, 2) := by decide +kernel
theorem dX11_days_29 : decode cX11_days 29 = .ok (.iload_n 3, 1) := by decide +kernel
theorem dX11_days_30 : decode cX11_days 30 = .ok (.if_icmp .lt 22, 3) := by decide +kernel
theorem dX11_days_33 : decode cX11_days 33 = .ok (.iload 4, 2) := by decide +kernel
theorem dX11_days_35 : decode cX11_days 35 = .ok (.sipush 1000, 3) := by decide +kernel
theorem dX11_days_38 : decode cX11_days 38 = .ok (.if_icmp .ge 14, 3) := by decide +kernel
theorem dX11_days_41 : decode cX11_days 41 = .ok (.iload 5, 2) := by decide +kernel
theorem dX11_days_43 : decode cX11_days 43 = .ok (.sipush 1000, 3) := by decide +kernel
theorem dX11_days_46 : decode cX11_days 46 = .ok (.invokestatic 85, 3) := by decide +kernel
theorem dX11_days_49 : decode cX11_days 49 = .ok (.ifCond .ne 5, 3) := by decide +kernel
theorem dX11_days_52 : decode cX11_days 52 = .ok (.iconst (-1), 1) := by decide +kernel
theorem dX11_days_53 : decode cX11_days 53 = .ok (.ireturn, 1) := by decide +kernel
theorem dX11_days_54 : decode cX11_days 54 = .ok (.iconst 0, 1) := by decide +kernel
theorem dX11_days_55 : decode cX11_days 55 = .ok (.istore 6, 2) := by decide +kernel
theorem dX11_days_57 : decode cX11_days 57 = .ok (.iload_n 3, 1) := by decide +kernel
theorem dX11_days_58 : decode cX11_days 58 = .ok (.istore 7, 2) := by decide +kernel
theorem dX11_days_60 : decode cX11_days 60 = .ok (.iconst 0, 1) := by decide +kernel
theorem dX11_days_61 : decode cX11_days 61 = .ok (.istore 8, 2) := by decide +kernel
theorem dX11_days_63 : decode cX11_days 63 = .ok (.iload 8, 2) := by decide +kernel
theorem dX11_days_65 : decode cX11_days 65 = .ok (.sipush 200, 3) := by decide +kernel
theorem dX11_days_68 : decode cX11_days 68 = .ok (.if_icmp .gt 88, 3) := by decide +kernel
theorem dX11_days_71 : decode cX11_days 71 = .ok (.iload 7, 2) := by decide +kernel
theorem dX11_days_73 : decode cX11_days 73 = .ok (.iload 4, 2) := by decide +kernel
theorem dX11_days_75 : decode cX11_days 75 = .ok (.if_icmp .gt 81, 3) := by decide +kernel
theorem dX11_days_78 : decode cX11_days 78 = .ok (.aload_n 0, 1) := by decide +kernel
theorem dX11_days_79 : decode cX11_days 79 = .ok (.getfield 12, 3) := by decide +kernel
theorem dX11_days_82 : decode cX11_days 82 = .ok (.iload 7, 2) := by decide +kernel
theorem dX11_days_84 : decode cX11_days 84 = .ok (.invokevirtual 203, 3) := by decide +kernel
theorem dX11_days_87 : decode cX11_days 87 = .ok (.iload 4, 2) := by decide +kernel
theorem dX11_days_89 : decode cX11_days 89 = .ok (.iconst 1, 1) := by decide +kernel
theorem dX11_days_90 : decode cX11_days 90 = .ok (.iadd, 1) := by decide +kernel
theorem dX11_days_91 : decode cX11_days 91 = .ok (.invokestatic 206, 3) := by decide +kernel
theorem dX11_days_94 : decode cX11_days 94 = .ok (.istore 9, 2) := by decide +kernel
theorem dX11_days_96 : decode cX11_days 96 = .ok (.aload_n 0, 1) := by decide +kernel
theorem dX11_days_97 : decode cX11_days 97 = .ok (.getfield 12, 3) := by decide +kernel
theorem dX11_days_100 : decode cX11_days 100 = .ok (.aload_n 0, 1) := by decide +kernel
theorem dX11_days_101 : decode cX11_days 101 = .ok (.getfield 23, 3) := by decide +kernel
theorem dX11_days_104 : decode cX11_days 104 = .ok (.iload 7, 2) := by decide +kernel
theorem dX11_days_106 : decode cX11_days 106 = .ok (.iload 5, 2) := by decide +kernel
theorem dX11_days_108 : decode cX11_days 108 = .ok (.invokevirtual 212, 3) := by decide +kernel
theorem dX11_days_111 : decode cX11_days 111 = .ok (.aload_n 0, 1) := by decide +kernel
theorem dX11_days_112 : decode cX11_days 112 = .ok (.getfield 35, 3) := by decide +kernel
theorem dX11_days_115 : decode cX11_days 115 = .ok (.iload_n 1, 1) := by decide +kernel
theorem dX11_days_116 : decode cX11_days 116 = .ok (.aaload, 1) := by decide +kernel
theorem dX11_days_117 : decode cX11_days 117 = .ok (.iload_n 2, 1) := by decide +kernel
theorem dX11_days_118 : decode cX11_days 118 = .ok (.aload_n 0, 1) := by decide +kernel
theorem dX11_days_119 : decode cX11_days 119 = .ok (.getfield 23, 3) := by decide +kernel
theorem dX11_days_122 : decode cX11_days 122 = .ok (.getfield 107, 3) := by decide +kernel
theorem dX11_days_125 : decode cX11_days 125 = .ok (.iand, 1) := by decide +kernel
theorem dX11_days_126 : decode cX11_days 126 = .ok (.aload_n 0, 1) := by decide +kernel
theorem dX11_days_127 : decode cX11_days 127 = .ok (.getfield 23, 3) := by decide +kernel
theorem dX11_days_130 : decode cX11_days 130 = .ok (.invokevirtual 216, 3) := by decide +kernel
theorem dX11_days_133 : decode cX11_days 133 = .ok (.ifCond .eq 13, 3) := by decide +kernel
theorem dX11_days_136 : decode cX11_days 136 = .ok (.iload 6, 2) := by decide +kernel
theorem dX11_days_138 : decode cX11_days 138 = .ok (.iload 9, 2) := by decide +kernel
theorem dX11_days_140 : decode cX11_days 140 = .ok (.iload 7, 2) := by decide +kernel
theorem dX11_days_142 : decode cX11_days 142 = .ok (.isub, 1) := by decide +kernel
theorem dX11_days_143 : decode cX11_days 143 = .ok (.iadd, 1) := by decide +kernel
theorem dX11_days_144 : decode cX11_days 144 = .ok (.istore 6, 2) := by decide +kernel
theorem dX11_days_146 : decode cX11_days 146 = .ok (.iload 9, 2) := by decide +kernel
theorem dX11_days_148 : decode cX11_days 148 = .ok (.istore 7, 2) := by decide +kernel
theorem dX11_days_150 : decode cX11_days 150 = .ok (.iinc 8 1, 3) := by decide +kernel
theorem dX11_days_153 : decode cX11_days 153 = .ok (.goto (-90), 3) := by decide +kernel
theorem dX11_days_156 : decode cX11_days 156 = .ok (.iload 6, 2) := by decide +kernel
theorem dX11_days_158 : decode cX11_days 158 = .ok (.ireturn, 1) := by decide +kernel
set_option maxRecDepth 20000 in
theorem ggX11_wish_X11_inside : GoodIn wsX11_wish wsX11_inside := goodIn_r _ [6] (by decide +kernel) (by decide +kernel)
set_option maxRecDepth 20000 in
theorem gX11_wish_X11_inside : GoodIn wsX11_wish (va_wsS RX11 85 yX11_inside wsX11_inside) := goodIn_app (goodIn_of _ (by decide +kernel)) ggX11_wish_X11_inside
set_option maxRecDepth 20000 in
theorem ggX11_wish_X4_drop : GoodIn wsX11_wish wsX4_drop := goodIn_r _ [11, 12, 4, 5, 6, 38, 39, 40, 41, 42, 43, 44] (by decide +kernel) (by decide +kernel)
set_option maxRecDepth 20000 in
theorem gX11_wish_X4_drop : GoodIn wsX11_wish (wsV RX11 219 RX4 yX4_drop wsX4_drop) := goodIn_app (goodIn_of _ (by decide +kernel)) ggX11_wish_X4_drop
set_option maxRecDepth 20000 in
theorem ggX11_wish_X4_take : GoodIn wsX11_wish wsX4_take := goodIn_r _ [16, 17, 12, 18, 19, 20, 21, 22, 4, 5, 6, 23, 24, 38, 39, 40, 41, 42, 43, 44] (by decide +kernel) (by decide +kernel)
set_option maxRecDepth 20000 in
theorem gX11_wish_X4_take : GoodIn wsX11_wish (wsV RX11 222 RX4 yX4_take wsX4_take) := goodIn_app (goodIn_of _ (by decide +kernel)) ggX11_wish_X4_take
theorem dX11_wish_0 : decode cX11_wish 0 = .ok (.iload_n 1, 1) := by decide +kernel
theorem dX11_wish_1 : decode cX11_wish 1 = .ok (.aload_n 0, 1) := by decide +kernel
theorem dX11_wish_2 : decode cX11_wish 2 = .ok (.getfield 82, 3) := by decide +kernel
theorem dX11_wish_5 : decode cX11_wish 5 = .ok (.invokestatic 85, 3) := by decide +kernel
theorem dX11_wish_8 : decode cX11_wish 8 = .ok (.ifCond .ne 5, 3) := by decide +kernel
theorem dX11_wish_11 : decode cX11_wish 11 = .ok (.iconst 0, 1) := by decide +kernel
theorem dX11_wish_12 : decode cX11_wish 12 = .ok (.ireturn, 1) := by decide +kernel
theorem dX11_wish_13 : decode cX11_wish 13 = .ok (.iload_n 2, 1) := by decide +kernel
theorem dX11_wish_14 : decode cX11_wish 14 = .ok (.iconst (-1), 1) := by decide +kernel
theorem dX11_wish_15 : decode cX11_wish 15 = .ok (.if_icmp .ne 13, 3) := by decide +kernel
theorem dX11_wish_18 : decode cX11_wish 18 = .ok (.aload_n 0, 1) := by decide +kernel
theorem dX11_wish_19 : decode cX11_wish 19 = .ok (.getfield 57, 3) := by decide +kernel
theorem dX11_wish_22 : decode cX11_wish 22 = .ok (.iload_n 1, 1) := by decide +kernel
theorem dX11_wish_23 : decode cX11_wish 23 = .ok (.invokevirtual 219, 3) := by decide +kernel
theorem dX11_wish_26 : decode cX11_wish 26 = .ok (.iconst 1, 1) := by decide +kernel
theorem dX11_wish_27 : decode cX11_wish 27 = .ok (.ireturn, 1) := by decide +kernel
theorem dX11_wish_28 : decode cX11_wish 28 = .ok (.aload_n 0, 1) := by decide +kernel
theorem dX11_wish_29 : decode cX11_wish 29 = .ok (.getfield 57, 3) := by decide +kernel
theorem dX11_wish_32 : decode cX11_wish 32 = .ok (.iload_n 1, 1) := by decide +kernel
theorem dX11_wish_33 : decode cX11_wish 33 = .ok (.iload_n 2, 1) := by decide +kernel
theorem dX11_wish_34 : decode cX11_wish 34 = .ok (.invokevirtual 222, 3) := by decide +kernel
theorem dX11_wish_37 : decode cX11_wish 37 = .ok (.ireturn, 1) := by decide +kernel
set_option maxRecDepth 20000 in
theorem ggX11_support_X11_inside : GoodIn wsX11_support wsX11_inside := goodIn_r _ [6] (by decide +kernel) (by decide +kernel)
set_option maxRecDepth 20000 in
theorem gX11_support_X11_inside : GoodIn wsX11_support (va_wsS RX11 85 yX11_inside wsX11_inside) := goodIn_app (goodIn_of _ (by decide +kernel)) ggX11_support_X11_inside
set_option maxRecDepth 20000 in
theorem ggX11_support_X4_ahead : GoodIn wsX11_support wsX4_ahead := goodIn_r _ [11, 12, 13, 4, 5, 6, 31, 32, 33, 34, 35, 36, 37] (by decide +kernel) (by decide +kernel)
set_option maxRecDepth 20000 in
theorem gX11_support_X4_ahead : GoodIn wsX11_support (wsV RX11 225 RX4 yX4_ahead wsX4_ahead) := goodIn_app (goodIn_of _ (by decide +kernel)) ggX11_support_X4_ahead
theorem dX11_support_0 : decode cX11_support 0 = .ok (.iload_n 1, 1) := by decide +kernel
theorem dX11_support_1 : decode cX11_support 1 = .ok (.bipush 6, 2) := by decide +kernel
theorem dX11_support_3 : decode cX11_support 3 = .ok (.invokestatic 85, 3) := by decide +kernel
theorem dX11_support_6 : decode cX11_support 6 = .ok (.ifCond .eq 17, 3) := by decide +kernel
theorem dX11_support_9 : decode cX11_support 9 = .ok (.iload_n 2, 1) := by decide +kernel
theorem dX11_support_10 : decode cX11_support 10 = .ok (.bipush 6, 2) := by decide +kernel
theorem dX11_support_12 : decode cX11_support 12 = .ok (.invokestatic 85, 3) := by decide +kernel
theorem dX11_support_15 : decode cX11_support 15 = .ok (.ifCond .eq 8, 3) := by decide +kernel
theorem dX11_support_18 : decode cX11_support 18 = .ok (.iload_n 1, 1) := by decide +kernel
theorem dX11_support_19 : decode cX11_support 19 = .ok (.iload_n 2, 1) := by decide +kernel
theorem dX11_support_20 : decode cX11_support 20 = .ok (.if_icmp .ne 5, 3) := by decide +kernel
theorem dX11_support_23 : decode cX11_support 23 = .ok (.iconst (-1), 1) := by decide +kernel
theorem dX11_support_24 : decode cX11_support 24 = .ok (.ireturn, 1) := by decide +kernel
theorem dX11_support_25 : decode cX11_support 25 = .ok (.aload_n 0, 1) := by decide +kernel
theorem dX11_support_26 : decode cX11_support 26 = .ok (.getfield 57, 3) := by decide +kernel
theorem dX11_support_29 : decode cX11_support 29 = .ok (.iload_n 1, 1) := by decide +kernel
theorem dX11_support_30 : decode cX11_support 30 = .ok (.iload_n 2, 1) := by decide +kernel
theorem dX11_support_31 : decode cX11_support 31 = .ok (.invokevirtual 225, 3) := by decide +kernel
theorem dX11_support_34 : decode cX11_support 34 = .ok (.aload_n 0, 1) := by decide +kernel
theorem dX11_support_35 : decode cX11_support 35 = .ok (.getfield 19, 3) := by decide +kernel
theorem dX11_support_38 : decode cX11_support 38 = .ok (.getfield 107, 3) := by decide +kernel
theorem dX11_support_41 : decode cX11_support 41 = .ok (.iand, 1) := by decide +kernel
theorem dX11_support_42 : decode cX11_support 42 = .ok (.ireturn, 1) := by decide +kernel
set_option maxRecDepth 20000 in
theorem ggX11_agenda_X11_inside : GoodIn wsX11_agenda wsX11_inside := goodIn_r _ [7] (by decide +kernel) (by decide +kernel)
set_option maxRecDepth 20000 in
theorem gX11_agenda_X11_inside : GoodIn wsX11_agenda (va_wsS RX11 85 yX11_inside wsX11_inside) := goodIn_app (goodIn_of _ (by decide +kernel)) ggX11_agenda_X11_inside
set_option maxRecDepth 20000 in
theorem ggX11_agenda_X4_fromDigits : GoodIn wsX11_agenda wsX4_fromDigits := goodIn_r _ [12, 13, 14, 5, 6, 7, 15, 16, 105, 106, 107, 108, 109, 110, 111] (by decide +kernel) (by decide +kernel)
set_option maxRecDepth 20000 in
theorem gX11_agenda_X4_fromDigits : GoodIn wsX11_agenda (wsV RX11 228 RX4 yX4_fromDigits wsX4_fromDigits) := goodIn_app (goodIn_of _ (by decide +kernel)) ggX11_agenda_X4_fromDigits
set_option maxRecDepth 20000 in
theorem ggX11_agenda_X4_compare : GoodIn wsX11_agenda wsX4_compare := goodIn_r _ [20, 21, 22, 23, 24, 11, 25, 26, 27, 5, 6, 7, 28, 29, 30, 31, 32, 33, 34, 35, 36, 37, 38, 39, 15, 16, 40, 41, 42, 43, 44, 45, 46, 47, 48, 49, 50, 51, 52, 53, 54, 55, 56, 57, 58, 59, 60, 61, 62, 63, 64, 65, 66, 67, 68, 69, 70, 105, 106, 107, 108, 109, 110, 111, 112, 113, 114, 115, 116, 117, 118, 119, 120, 121, 122, 123, 124] (by decide +kernel) (by decide +kernel)
set_option maxRecDepth 20000 in
theorem gX11_agenda_X4_compare : GoodIn wsX11_agenda (wsV RX11 232 RX4 yX4_compare wsX4_compare) := goodIn_app (goodIn_of _ (by decide +kernel)) ggX11_agenda_X4_compare
set_option maxRecDepth 20000 in
theorem ggX11_agenda_X4_outcome : GoodIn wsX11_agenda wsX4_outcome := goodIn_r _ [74, 75, 76, 77, 11, 78, 79, 13, 80, 81, 82, 83, 14, 5, 6, 7, 84, 85, 86, 87, 21, 15, 16, 88, 89, 90, 91, 105, 106, 107, 108, 109, 110, 111] (by decide +kernel) (by decide +kernel)
set_option maxRecDepth 20000 in
theorem gX11_agenda_X4_outcome : GoodIn wsX11_agenda (wsV RX11 236 RX4 yX4_outcome wsX4_outcome) := goodIn_app (goodIn_of _ (by decide +kernel)) ggX11_agenda_X4_outcome
theorem dX11_agenda_0 : decode cX11_agenda 0 = .ok (.iload_n 1, 1) := by decide +kernel
theorem dX11_agenda_1 : decode cX11_agenda 1 = .ok (.iconst 4, 1) := by decide +kernel
theorem dX11_agenda_2 : decode cX11_agenda 2 = .ok (.invokestatic 85, 3) := by decide +kernel
theorem dX11_agenda_5 : decode cX11_agenda 5 = .ok (.ifCond .eq 14, 3) := by decide +kernel
theorem dX11_agenda_8 : decode cX11_agenda 8 = .ok (.aload_n 0, 1) := by decide +kernel
theorem dX11_agenda_9 : decode cX11_agenda 9 = .ok (.getfield 57, 3) := by decide +kernel
theorem dX11_agenda_12 : decode cX11_agenda 12 = .ok (.iload_n 2, 1) := by decide +kernel
theorem dX11_agenda_13 : decode cX11_agenda 13 = .ok (.invokevirtual 228, 3) := by decide +kernel
theorem dX11_agenda_16 : decode cX11_agenda 16 = .ok (.ifCond .ne 5, 3) := by decide +kernel
theorem dX11_agenda_19 : decode cX11_agenda 19 = .ok (.iconst (-1), 1) := by decide +kernel
theorem dX11_agenda_20 : decode cX11_agenda 20 = .ok (.ireturn, 1) := by decide +kernel
theorem dX11_agenda_21 : decode cX11_agenda 21 = .ok (.aload_n 0, 1) := by decide +kernel
theorem dX11_agenda_22 : decode cX11_agenda 22 = .ok (.getfield 57, 3) := by decide +kernel
theorem dX11_agenda_25 : decode cX11_agenda 25 = .ok (.aload_n 0, 1) := by decide +kernel
theorem dX11_agenda_26 : decode cX11_agenda 26 = .ok (.getfield 35, 3) := by decide +kernel
theorem dX11_agenda_29 : decode cX11_agenda 29 = .ok (.iload_n 1, 1) := by decide +kernel
theorem dX11_agenda_30 : decode cX11_agenda 30 = .ok (.aaload, 1) := by decide +kernel
theorem dX11_agenda_31 : decode cX11_agenda 31 = .ok (.aload_n 0, 1) := by decide +kernel
theorem dX11_agenda_32 : decode cX11_agenda 32 = .ok (.getfield 19, 3) := by decide +kernel
theorem dX11_agenda_35 : decode cX11_agenda 35 = .ok (.invokevirtual 232, 3) := by decide +kernel
theorem dX11_agenda_38 : decode cX11_agenda 38 = .ok (.aload_n 0, 1) := by decide +kernel
theorem dX11_agenda_39 : decode cX11_agenda 39 = .ok (.getfield 57, 3) := by decide +kernel
theorem dX11_agenda_42 : decode cX11_agenda 42 = .ok (.iload_n 3, 1) := by decide +kernel
theorem dX11_agenda_43 : decode cX11_agenda 43 = .ok (.invokevirtual 236, 3) := by decide +kernel
theorem dX11_agenda_46 : decode cX11_agenda 46 = .ok (.ireturn, 1) := by decide +kernel
set_option maxRecDepth 20000 in
theorem ggX11_through_X11_inside : GoodIn wsX11_through wsX11_inside := goodIn_r _ [7] (by decide +kernel) (by decide +kernel)
set_option maxRecDepth 20000 in
theorem gX11_through_X11_inside : GoodIn wsX11_through (va_wsS RX11 85 yX11_inside wsX11_inside) := goodIn_app (goodIn_of _ (by decide +kernel)) ggX11_through_X11_inside
set_option maxRecDepth 20000 in
theorem ggX11_through_X11_has : GoodIn wsX11_through wsX11_has := goodIn_r _ [10] (by decide +kernel) (by decide +kernel)
set_option maxRecDepth 20000 in
theorem gX11_through_X11_has : GoodIn wsX11_through (va_wsS RX11 110 yX11_has wsX11_has) := goodIn_app (goodIn_of _ (by decide +kernel)) ggX11_through_X11_has
set_option maxRecDepth 20000 in
theorem ggX11_through_X4_compare : GoodIn wsX11_through wsX4_compare := goodIn_r _ [15, 16, 17, 18, 19, 14, 20, 21, 22, 5, 6, 7, 23, 24, 25, 26, 27, 28, 29, 30, 31, 32, 33, 34, 9, 10, 35, 36, 37, 38, 39, 40, 41, 42, 43, 44, 45, 46, 47, 48, 49, 50, 51, 52, 53, 54, 55, 56, 57, 58, 59, 60, 61, 62, 63, 64, 65, 126, 127, 128, 129, 130, 131, 132, 133, 134, 135, 136, 137, 138, 139, 140, 141, 142, 143, 144, 145] (by decide +kernel) (by decide +kernel)
set_option maxRecDepth 20000 in
theorem gX11_through_X4_compare : GoodIn wsX11_through (wsV RX11 232 RX4 yX4_compare wsX4_compare) := goodIn_app (goodIn_of _ (by decide +kernel)) ggX11_through_X4_compare
set_option maxRecDepth 20000 in
theorem ggX11_through_X4_ordersFor : GoodIn wsX11_through wsX4_ordersFor := goodIn_r _ [69, 70, 71, 72, 14, 73, 74, 75, 9, 6, 10, 5, 7, 76, 77, 78, 79, 80, 81, 82, 83, 84, 85, 86, 87, 88, 89, 90, 91, 92, 16, 93, 94, 95, 96, 97, 98, 99, 100, 101, 102, 103, 104, 126, 127, 128, 129, 130, 131, 132] (by decide +kernel) (by decide +kernel)
set_option maxRecDepth 20000 in
theorem gX11_through_X4_ordersFor : GoodIn wsX11_through (wsV RX11 240 RX4 yX4_ordersFor wsX4_ordersFor) := goodIn_app (goodIn_of _ (by decide +kernel)) ggX11_through_X4_ordersFor
set_option maxRecDepth 20000 in
theorem ggX11_through_X4_firstFor : GoodIn wsX11_through wsX4_firstFor := goodIn_r _ [108, 70, 71, 72, 14, 73, 74, 75, 9, 6, 10, 5, 7, 76, 77, 78, 79, 80, 81, 82, 83, 84, 85, 86, 87, 88, 89, 90, 91, 92, 16, 93, 94, 95, 96, 109, 110, 111, 112, 97, 98, 99, 100, 101, 102, 103, 104, 126, 127, 128, 129, 130, 131, 132] (by decide +kernel) (by decide +kernel)
set_option maxRecDepth 20000 in
theorem gX11_through_X4_firstFor : GoodIn wsX11_through (wsV RX11 244 RX4 yX4_firstFor wsX4_firstFor) := goodIn_app (goodIn_of _ (by decide +kernel)) ggX11_through_X4_firstFor
theorem dX11_through_0 : decode cX11_through 0 = .ok (.iload_n 1, 1) := by decide +kernel
theorem dX11_through_1 : decode cX11_through 1 = .ok (.iconst 4, 1) := by decide +kernel
theorem dX11_through_2 : decode cX11_through 2 = .ok (.invokestatic 85, 3) := by decide +kernel
theorem dX11_through_5 : decode cX11_through 5 = .ok (.ifCond .eq 38, 3) := by decide +kernel
theorem dX11_through_8 : decode cX11_through 8 = .ok (.iload_n 2, 1) := by decide +kernel
theorem dX11_through_9 : decode cX11_through 9 = .ok (.bipush 64, 2) := by decide +kernel
theorem dX11_through_11 : decode cX11_through 11 = .ok (.invokestatic 85, 3) := by decide +kernel
theorem dX11_through_14 : decode cX11_through 14 = .ok (.ifCond .eq 29, 3) := by decide +kernel
theorem dX11_through_17 : decode cX11_through 17 = .ok (.iload_n 3, 1) := by decide +kernel
theorem dX11_through_18 : decode cX11_through 18 = .ok (.bipush 6, 2) := by decide +kernel
theorem dX11_through_20 : decode cX11_through 20 = .ok (.invokestatic 85, 3) := by decide +kernel
theorem dX11_through_23 : decode cX11_through 23 = .ok (.ifCond .eq 20, 3) := by decide +kernel
theorem dX11_through_26 : decode cX11_through 26 = .ok (.iload_n 2, 1) := by decide +kernel
theorem dX11_through_27 : decode cX11_through 27 = .ok (.iload_n 3, 1) := by decide +kernel
theorem dX11_through_28 : decode cX11_through 28 = .ok (.invokestatic 110, 3) := by decide +kernel
theorem dX11_through_31 : decode cX11_through 31 = .ok (.ifCond .eq 12, 3) := by decide +kernel
theorem dX11_through_34 : decode cX11_through 34 = .ok (.iload 5, 2) := by decide +kernel
theorem dX11_through_36 : decode cX11_through 36 = .ok (.iconst 2, 1) := by decide +kernel
theorem dX11_through_37 : decode cX11_through 37 = .ok (.invokestatic 85, 3) := by decide +kernel
theorem dX11_through_40 : decode cX11_through 40 = .ok (.ifCond .ne 5, 3) := by decide +kernel
theorem dX11_through_43 : decode cX11_through 43 = .ok (.iconst (-1), 1) := by decide +kernel
theorem dX11_through_44 : decode cX11_through 44 = .ok (.ireturn, 1) := by decide +kernel
theorem dX11_through_45 : decode cX11_through 45 = .ok (.aload_n 0, 1) := by decide +kernel
theorem dX11_through_46 : decode cX11_through 46 = .ok (.getfield 57, 3) := by decide +kernel
theorem dX11_through_49 : decode cX11_through 49 = .ok (.aload_n 0, 1) := by decide +kernel
theorem dX11_through_50 : decode cX11_through 50 = .ok (.getfield 35, 3) := by decide +kernel
theorem dX11_through_53 : decode cX11_through 53 = .ok (.iload_n 1, 1) := by decide +kernel
theorem dX11_through_54 : decode cX11_through 54 = .ok (.aaload, 1) := by decide +kernel
theorem dX11_through_55 : decode cX11_through 55 = .ok (.aload_n 0, 1) := by decide +kernel
theorem dX11_through_56 : decode cX11_through 56 = .ok (.getfield 19, 3) := by decide +kernel
theorem dX11_through_59 : decode cX11_through 59 = .ok (.invokevirtual 232, 3) := by decide +kernel
theorem dX11_through_62 : decode cX11_through 62 = .ok (.iload 5, 2) := by decide +kernel
theorem dX11_through_64 : decode cX11_through 64 = .ok (.ifCond .ne 17, 3) := by decide +kernel
theorem dX11_through_67 : decode cX11_through 67 = .ok (.aload_n 0, 1) := by decide +kernel
theorem dX11_through_68 : decode cX11_through 68 = .ok (.getfield 57, 3) := by decide +kernel
theorem dX11_through_71 : decode cX11_through 71 = .ok (.iload_n 3, 1) := by decide +kernel
theorem dX11_through_72 : decode cX11_through 72 = .ok (.iload_n 2, 1) := by decide +kernel
theorem dX11_through_73 : decode cX11_through 73 = .ok (.iload 4, 2) := by decide +kernel
theorem dX11_through_75 : decode cX11_through 75 = .ok (.invokevirtual 240, 3) := by decide +kernel
theorem dX11_through_78 : decode cX11_through 78 = .ok (.goto 14, 3) := by decide +kernel
theorem dX11_through_81 : decode cX11_through 81 = .ok (.aload_n 0, 1) := by decide +kernel
theorem dX11_through_82 : decode cX11_through 82 = .ok (.getfield 57, 3) := by decide +kernel
theorem dX11_through_85 : decode cX11_through 85 = .ok (.iload_n 3, 1) := by decide +kernel
theorem dX11_through_86 : decode cX11_through 86 = .ok (.iload_n 2, 1) := by decide +kernel
theorem dX11_through_87 : decode cX11_through 87 = .ok (.iload 4, 2) := by decide +kernel
theorem dX11_through_89 : decode cX11_through 89 = .ok (.invokevirtual 244, 3) := by decide +kernel
theorem dX11_through_92 : decode cX11_through 92 = .ok (.ireturn, 1) := by decide +kernel
set_option maxRecDepth 20000 in
theorem ggX11_best_X11_inside : GoodIn wsX11_best wsX11_inside := goodIn_r _ [7] (by decide +kernel) (by decide +kernel)
set_option maxRecDepth 20000 in
theorem gX11_best_X11_inside : GoodIn wsX11_best (va_wsS RX11 85 yX11_inside wsX11_inside) := goodIn_app (goodIn_of _ (by decide +kernel)) ggX11_best_X11_inside
set_option maxRecDepth 20000 in
theorem ggX11_best_X4_compare : GoodIn wsX11_best wsX4_compare := goodIn_r _ [12, 13, 14, 15, 16, 11, 17, 18, 19, 5, 6, 7, 20, 21, 22, 23, 24, 25, 26, 27, 28, 29, 30, 31, 32, 33, 34, 35, 36, 37, 38, 39, 40, 41, 42, 43, 44, 45, 46, 47, 48, 49, 50, 51, 52, 53, 54, 55, 56, 57, 58, 59, 60, 61, 62, 63, 64, 84, 85, 86, 87, 88, 89, 90, 91, 92, 93, 94, 95, 96, 97, 98, 99, 100, 101, 102, 103] (by decide +kernel) (by decide +kernel)
set_option maxRecDepth 20000 in
theorem gX11_best_X4_compare : GoodIn wsX11_best (wsV RX11 232 RX4 yX4_compare wsX4_compare) := goodIn_app (goodIn_of _ (by decide +kernel)) ggX11_best_X4_compare
set_option maxRecDepth 20000 in
theorem ggX11_best_X4_beatsAll : GoodIn wsX11_best wsX4_beatsAll := goodIn_r _ [68, 13, 32, 6, 33, 69, 70, 84, 85, 86, 87, 88, 89, 90] (by decide +kernel) (by decide +kernel)
set_option maxRecDepth 20000 in
theorem gX11_best_X4_beatsAll : GoodIn wsX11_best (wsV RX11 247 RX4 yX4_beatsAll wsX4_beatsAll) := goodIn_app (goodIn_of _ (by decide +kernel)) ggX11_best_X4_beatsAll
theorem dX11_best_0 : decode cX11_best 0 = .ok (.iload_n 1, 1) := by decide +kernel
theorem dX11_best_1 : decode cX11_best 1 = .ok (.iconst 4, 1) := by decide +kernel
theorem dX11_best_2 : decode cX11_best 2 = .ok (.invokestatic 85, 3) := by decide +kernel
theorem dX11_best_5 : decode cX11_best 5 = .ok (.ifCond .eq 12, 3) := by decide +kernel
theorem dX11_best_8 : decode cX11_best 8 = .ok (.iload_n 2, 1) := by decide +kernel
theorem dX11_best_9 : decode cX11_best 9 = .ok (.bipush 64, 2) := by decide +kernel
theorem dX11_best_11 : decode cX11_best 11 = .ok (.invokestatic 85, 3) := by decide +kernel
theorem dX11_best_14 : decode cX11_best 14 = .ok (.ifCond .ne 5, 3) := by decide +kernel
theorem dX11_best_17 : decode cX11_best 17 = .ok (.iconst (-1), 1) := by decide +kernel
theorem dX11_best_18 : decode cX11_best 18 = .ok (.ireturn, 1) := by decide +kernel
theorem dX11_best_19 : decode cX11_best 19 = .ok (.aload_n 0, 1) := by decide +kernel
theorem dX11_best_20 : decode cX11_best 20 = .ok (.getfield 57, 3) := by decide +kernel
theorem dX11_best_23 : decode cX11_best 23 = .ok (.aload_n 0, 1) := by decide +kernel
theorem dX11_best_24 : decode cX11_best 24 = .ok (.getfield 35, 3) := by decide +kernel
theorem dX11_best_27 : decode cX11_best 27 = .ok (.iload_n 1, 1) := by decide +kernel
theorem dX11_best_28 : decode cX11_best 28 = .ok (.aaload, 1) := by decide +kernel
theorem dX11_best_29 : decode cX11_best 29 = .ok (.aload_n 0, 1) := by decide +kernel
theorem dX11_best_30 : decode cX11_best 30 = .ok (.getfield 19, 3) := by decide +kernel
theorem dX11_best_33 : decode cX11_best 33 = .ok (.invokevirtual 232, 3) := by decide +kernel
theorem dX11_best_36 : decode cX11_best 36 = .ok (.aload_n 0, 1) := by decide +kernel
theorem dX11_best_37 : decode cX11_best 37 = .ok (.getfield 57, 3) := by decide +kernel
theorem dX11_best_40 : decode cX11_best 40 = .ok (.iload_n 2, 1) := by decide +kernel
theorem dX11_best_41 : decode cX11_best 41 = .ok (.invokevirtual 247, 3) := by decide +kernel
theorem dX11_best_44 : decode cX11_best 44 = .ok (.ireturn, 1) := by decide +kernel
set_option maxRecDepth 20000 in
theorem ggX11_line_X11_inside : GoodIn wsX11_line wsX11_inside := goodIn_r _ [5] (by decide +kernel) (by decide +kernel)
set_option maxRecDepth 20000 in
theorem gX11_line_X11_inside : GoodIn wsX11_line (va_wsS RX11 85 yX11_inside wsX11_inside) := goodIn_app (goodIn_of _ (by decide +kernel)) ggX11_line_X11_inside
theorem dX11_line_0 : decode cX11_line 0 = .ok (.iload_n 1, 1) := by decide +kernel
theorem dX11_line_1 : decode cX11_line 1 = .ok (.bipush 6, 2) := by decide +kernel
theorem dX11_line_3 : decode cX11_line 3 = .ok (.invokestatic 85, 3) := by decide +kernel
theorem dX11_line_6 : decode cX11_line 6 = .ok (.ifCond .eq 12, 3) := by decide +kernel
theorem dX11_line_9 : decode cX11_line 9 = .ok (.iload_n 2, 1) := by decide +kernel
theorem dX11_line_10 : decode cX11_line 10 = .ok (.bipush 100, 2) := by decide +kernel
theorem dX11_line_12 : decode cX11_line 12 = .ok (.invokestatic 85, 3) := by decide +kernel
theorem dX11_line_15 : decode cX11_line 15 = .ok (.ifCond .ne 5, 3) := by decide +kernel
theorem dX11_line_18 : decode cX11_line 18 = .ok (.iconst 0, 1) := by decide +kernel
theorem dX11_line_19 : decode cX11_line 19 = .ok (.ireturn, 1) := by decide +kernel
theorem dX11_line_20 : decode cX11_line 20 = .ok (.aload_n 0, 1) := by decide +kernel
theorem dX11_line_21 : decode cX11_line 21 = .ok (.getfield 64, 3) := by decide +kernel
theorem dX11_line_24 : decode cX11_line 24 = .ok (.getfield 250, 3) := by decide +kernel
theorem dX11_line_27 : decode cX11_line 27 = .ok (.iload_n 1, 1) := by decide +kernel
theorem dX11_line_28 : decode cX11_line 28 = .ok (.iload_n 2, 1) := by decide +kernel
theorem dX11_line_29 : decode cX11_line 29 = .ok (.iastore, 1) := by decide +kernel
theorem dX11_line_30 : decode cX11_line 30 = .ok (.iconst 1, 1) := by decide +kernel
theorem dX11_line_31 : decode cX11_line 31 = .ok (.ireturn, 1) := by decide +kernel
set_option maxRecDepth 20000 in
theorem ggX11_coalition_X11_inside : GoodIn wsX11_coalition wsX11_inside := goodIn_r _ [7] (by decide +kernel) (by decide +kernel)
set_option maxRecDepth 20000 in
theorem gX11_coalition_X11_inside : GoodIn wsX11_coalition (va_wsS RX11 85 yX11_inside wsX11_inside) := goodIn_app (goodIn_of _ (by decide +kernel)) ggX11_coalition_X11_inside
set_option maxRecDepth 20000 in
theorem ggX11_coalition_X2_seek : GoodIn wsX11_coalition wsX2_seek := goodIn_r _ [12, 13, 14, 15, 16, 17, 18, 19, 20, 21, 22, 23, 6, 24, 25, 26, 27, 11, 28, 29, 30, 31, 32, 33, 34, 35, 36, 37, 38, 39, 40, 41, 42, 43, 44, 45, 46, 47, 48, 49, 50, 51, 52, 53, 54, 55, 56, 57, 58, 59, 60, 61, 62, 5, 7, 63, 64, 65, 66, 67, 68, 69, 70, 71, 72, 73, 74, 75, 76, 77, 78, 79, 80, 81, 82, 83, 84, 85, 86, 87, 88, 89, 90, 91, 92, 93, 94, 95, 96, 110, 111, 112, 113, 114, 115, 116, 117, 118, 119, 120, 121, 122, 123, 124, 125, 126, 127] (by decide +kernel) (by decide +kernel)
set_option maxRecDepth 20000 in
theorem gX11_coalition_X2_seek : GoodIn wsX11_coalition (wsV RX11 253 RX2 yX2_seek wsX2_seek) := goodIn_app (goodIn_of _ (by decide +kernel)) ggX11_coalition_X2_seek
theorem dX11_coalition_0 : decode cX11_coalition 0 = .ok (.iload_n 1, 1) := by decide +kernel
theorem dX11_coalition_1 : decode cX11_coalition 1 = .ok (.iconst 4, 1) := by decide +kernel
theorem dX11_coalition_2 : decode cX11_coalition 2 = .ok (.invokestatic 85, 3) := by decide +kernel
theorem dX11_coalition_5 : decode cX11_coalition 5 = .ok (.ifCond .ne 5, 3) := by decide +kernel
theorem dX11_coalition_8 : decode cX11_coalition 8 = .ok (.iconst (-1), 1) := by decide +kernel
theorem dX11_coalition_9 : decode cX11_coalition 9 = .ok (.ireturn, 1) := by decide +kernel
theorem dX11_coalition_10 : decode cX11_coalition 10 = .ok (.aload_n 0, 1) := by decide +kernel
theorem dX11_coalition_11 : decode cX11_coalition 11 = .ok (.getfield 64, 3) := by decide +kernel
theorem dX11_coalition_14 : decode cX11_coalition 14 = .ok (.aload_n 0, 1) := by decide +kernel
theorem dX11_coalition_15 : decode cX11_coalition 15 = .ok (.getfield 35, 3) := by decide +kernel
theorem dX11_coalition_18 : decode cX11_coalition 18 = .ok (.iload_n 1, 1) := by decide +kernel
theorem dX11_coalition_19 : decode cX11_coalition 19 = .ok (.aaload, 1) := by decide +kernel
theorem dX11_coalition_20 : decode cX11_coalition 20 = .ok (.aload_n 0, 1) := by decide +kernel
theorem dX11_coalition_21 : decode cX11_coalition 21 = .ok (.getfield 19, 3) := by decide +kernel
theorem dX11_coalition_24 : decode cX11_coalition 24 = .ok (.invokevirtual 253, 3) := by decide +kernel
theorem dX11_coalition_27 : decode cX11_coalition 27 = .ok (.iload_n 2, 1) := by decide +kernel
theorem dX11_coalition_28 : decode cX11_coalition 28 = .ok (.tableswitch 64 0 3 #[32, 40, 48, 56], 32) := by decide +kernel
theorem dX11_coalition_60 : decode cX11_coalition 60 = .ok (.aload_n 0, 1) := by decide +kernel
theorem dX11_coalition_61 : decode cX11_coalition 61 = .ok (.getfield 64, 3) := by decide +kernel
theorem dX11_coalition_64 : decode cX11_coalition 64 = .ok (.getfield 255, 3) := by decide +kernel
theorem dX11_coalition_67 : decode cX11_coalition 67 = .ok (.ireturn, 1) := by decide +kernel
theorem dX11_coalition_68 : decode cX11_coalition 68 = .ok (.aload_n 0, 1) := by decide +kernel
theorem dX11_coalition_69 : decode cX11_coalition 69 = .ok (.getfield 64, 3) := by decide +kernel
theorem dX11_coalition_72 : decode cX11_coalition 72 = .ok (.getfield 258, 3) := by decide +kernel
theorem dX11_coalition_75 : decode cX11_coalition 75 = .ok (.ireturn, 1) := by decide +kernel
theorem dX11_coalition_76 : decode cX11_coalition 76 = .ok (.aload_n 0, 1) := by decide +kernel
theorem dX11_coalition_77 : decode cX11_coalition 77 = .ok (.getfield 64, 3) := by decide +kernel
theorem dX11_coalition_80 : decode cX11_coalition 80 = .ok (.getfield 261, 3) := by decide +kernel
theorem dX11_coalition_83 : decode cX11_coalition 83 = .ok (.ireturn, 1) := by decide +kernel
theorem dX11_coalition_84 : decode cX11_coalition 84 = .ok (.aload_n 0, 1) := by decide +kernel
theorem dX11_coalition_85 : decode cX11_coalition 85 = .ok (.getfield 64, 3) := by decide +kernel
theorem dX11_coalition_88 : decode cX11_coalition 88 = .ok (.getfield 264, 3) := by decide +kernel
theorem dX11_coalition_91 : decode cX11_coalition 91 = .ok (.ireturn, 1) := by decide +kernel
theorem dX11_coalition_92 : decode cX11_coalition 92 = .ok (.iconst (-1), 1) := by decide +kernel
theorem dX11_coalition_93 : decode cX11_coalition 93 = .ok (.ireturn, 1) := by decide +kernel
set_option maxRecDepth 20000 in
theorem ggX11_value_X11_inside : GoodIn wsX11_value wsX11_inside := goodIn_r _ [5] (by decide +kernel) (by decide +kernel)
set_option maxRecDepth 20000 in
theorem gX11_value_X11_inside : GoodIn wsX11_value (va_wsS RX11 85 yX11_inside wsX11_inside) := goodIn_app (goodIn_of _ (by decide +kernel)) ggX11_value_X11_inside
set_option maxRecDepth 20000 in
theorem ggX11_value_X0_price : GoodIn wsX11_value wsX0_price := goodIn_r _ [10, 11, 3, 4, 5, 25, 26, 27, 28, 29, 30, 31, 32, 33] (by decide +kernel) (by decide +kernel)
set_option maxRecDepth 20000 in
theorem gX11_value_X0_price : GoodIn wsX11_value (wsV RX11 265 RX0 yX0_price wsX0_price) := goodIn_app (goodIn_of _ (by decide +kernel)) ggX11_value_X0_price
theorem dX11_value_0 : decode cX11_value 0 = .ok (.iload_n 1, 1) := by decide +kernel
theorem dX11_value_1 : decode cX11_value 1 = .ok (.bipush 8, 2) := by decide +kernel
theorem dX11_value_3 : decode cX11_value 3 = .ok (.invokestatic 85, 3) := by decide +kernel
theorem dX11_value_6 : decode cX11_value 6 = .ok (.ifCond .eq 21, 3) := by decide +kernel
theorem dX11_value_9 : decode cX11_value 9 = .ok (.iload_n 2, 1) := by decide +kernel
theorem dX11_value_10 : decode cX11_value 10 = .ok (.bipush 6, 2) := by decide +kernel
theorem dX11_value_12 : decode cX11_value 12 = .ok (.invokestatic 85, 3) := by decide +kernel
theorem dX11_value_15 : decode cX11_value 15 = .ok (.ifCond .eq 12, 3) := by decide +kernel
theorem dX11_value_18 : decode cX11_value 18 = .ok (.iload_n 3, 1) := by decide +kernel
theorem dX11_value_19 : decode cX11_value 19 = .ok (.bipush 100, 2) := by decide +kernel
theorem dX11_value_21 : decode cX11_value 21 = .ok (.invokestatic 85, 3) := by decide +kernel
theorem dX11_value_24 : decode cX11_value 24 = .ok (.ifCond .ne 5, 3) := by decide +kernel
theorem dX11_value_27 : decode cX11_value 27 = .ok (.iconst 0, 1) := by decide +kernel
theorem dX11_value_28 : decode cX11_value 28 = .ok (.ireturn, 1) := by decide +kernel
theorem dX11_value_29 : decode cX11_value 29 = .ok (.aload_n 0, 1) := by decide +kernel
theorem dX11_value_30 : decode cX11_value 30 = .ok (.getfield 71, 3) := by decide +kernel
theorem dX11_value_33 : decode cX11_value 33 = .ok (.iload_n 1, 1) := by decide +kernel
theorem dX11_value_34 : decode cX11_value 34 = .ok (.iload_n 2, 1) := by decide +kernel
theorem dX11_value_35 : decode cX11_value 35 = .ok (.iload_n 3, 1) := by decide +kernel
theorem dX11_value_36 : decode cX11_value 36 = .ok (.invokevirtual 265, 3) := by decide +kernel
theorem dX11_value_39 : decode cX11_value 39 = .ok (.iconst 1, 1) := by decide +kernel
theorem dX11_value_40 : decode cX11_value 40 = .ok (.ireturn, 1) := by decide +kernel
set_option maxRecDepth 20000 in
theorem ggX11_deal_X11_inside : GoodIn wsX11_deal wsX11_inside := goodIn_r _ [6] (by decide +kernel) (by decide +kernel)
set_option maxRecDepth 20000 in
theorem gX11_deal_X11_inside : GoodIn wsX11_deal (va_wsS RX11 85 yX11_inside wsX11_inside) := goodIn_app (goodIn_of _ (by decide +kernel)) ggX11_deal_X11_inside
set_option maxRecDepth 20000 in
theorem ggX11_deal_X0_weigh : GoodIn wsX11_deal wsX0_weigh := goodIn_r _ [11, 12, 13, 5, 14, 15, 16, 17, 18, 19, 20, 21, 22, 23, 24, 25, 109, 110, 111, 112, 113, 114, 115, 116, 117, 118, 119, 120, 121] (by decide +kernel) (by decide +kernel)
set_option maxRecDepth 20000 in
theorem gX11_deal_X0_weigh : GoodIn wsX11_deal (wsV RX11 269 RX0 yX0_weigh wsX0_weigh) := goodIn_app (goodIn_of _ (by decide +kernel)) ggX11_deal_X0_weigh
set_option maxRecDepth 20000 in
theorem ggX11_deal_J6_bitCount_0f7a4 : GoodIn wsX11_deal wsJ6_bitCount_0f7a4 := goodIn_r _ [29, 30, 31, 32] (by decide +kernel) (by decide +kernel)
set_option maxRecDepth 20000 in
theorem gX11_deal_J6_bitCount_0f7a4 : GoodIn wsX11_deal (va_wsS RX11 272 yJ6_bitCount_0f7a4 wsJ6_bitCount_0f7a4) := goodIn_app (goodIn_of _ (by decide +kernel)) ggX11_deal_J6_bitCount_0f7a4
set_option maxRecDepth 20000 in
theorem ggX11_deal_X0_queueUp : GoodIn wsX11_deal wsX0_queueUp := goodIn_r _ [36, 37, 38, 39, 40, 41, 42, 43, 44, 45, 46, 47, 13, 5, 14, 48, 49, 50, 10, 51, 12, 4, 6, 109, 110, 111, 112, 113, 114, 115, 116, 117] (by decide +kernel) (by decide +kernel)
set_option maxRecDepth 20000 in
theorem gX11_deal_X0_queueUp : GoodIn wsX11_deal (wsV RX11 277 RX0 yX0_queueUp wsX0_queueUp) := goodIn_app (goodIn_of _ (by decide +kernel)) ggX11_deal_X0_queueUp
set_option maxRecDepth 20000 in
theorem ggX11_deal_X0_handOut : GoodIn wsX11_deal wsX0_handOut := goodIn_r _ [55, 56, 57, 42, 43, 58, 44, 45, 46, 47, 13, 5, 14, 59, 60, 61, 10, 62, 63, 27, 28, 29, 30, 31, 32, 64, 65, 4, 6, 66, 67, 68, 69, 70, 71, 72, 73, 74, 75, 76, 77, 78, 79, 80, 81, 82, 83, 109, 110, 111, 112, 113, 114, 115, 116, 117] (by decide +kernel) (by decide +kernel)
set_option maxRecDepth 20000 in
theorem gX11_deal_X0_handOut : GoodIn wsX11_deal (wsV RX11 280 RX0 yX0_handOut wsX0_handOut) := goodIn_app (goodIn_of _ (by decide +kernel)) ggX11_deal_X0_handOut
set_option maxRecDepth 20000 in
theorem ggX11_deal_X0_ownerOf : GoodIn wsX11_deal wsX0_ownerOf := goodIn_r _ [87, 56, 4, 5, 6, 109, 110, 111, 112, 113, 114, 115, 116, 117] (by decide +kernel) (by decide +kernel)
set_option maxRecDepth 20000 in
theorem gX11_deal_X0_ownerOf : GoodIn wsX11_deal (wsV RX11 284 RX0 yX0_ownerOf wsX0_ownerOf) := goodIn_app (goodIn_of _ (by decide +kernel)) ggX11_deal_X0_ownerOf
set_option maxRecDepth 20000 in
theorem ggX11_deal_X0_heldBy : GoodIn wsX11_deal wsX0_heldBy := goodIn_r _ [91, 57, 4, 5, 6, 109, 110, 111, 112, 113, 114, 115, 116, 117] (by decide +kernel) (by decide +kernel)
set_option maxRecDepth 20000 in
theorem gX11_deal_X0_heldBy : GoodIn wsX11_deal (wsV RX11 287 RX0 yX0_heldBy wsX0_heldBy) := goodIn_app (goodIn_of _ (by decide +kernel)) ggX11_deal_X0_heldBy
set_option maxRecDepth 20000 in
theorem ggX11_deal_X0_chooserAt : GoodIn wsX11_deal wsX0_chooserAt := goodIn_r _ [95, 42, 43, 4, 5, 6, 109, 110, 111, 112, 113, 114, 115, 116, 117] (by decide +kernel) (by decide +kernel)
set_option maxRecDepth 20000 in
theorem gX11_deal_X0_chooserAt : GoodIn wsX11_deal (wsV RX11 290 RX0 yX0_chooserAt wsX0_chooserAt) := goodIn_app (goodIn_of _ (by decide +kernel)) ggX11_deal_X0_chooserAt
theorem dX11_deal_0 : decode cX11_deal 0 = .ok (.iload_n 1, 1) := by decide +kernel
theorem dX11_deal_1 : decode cX11_deal 1 = .ok (.ifCond .eq 45, 3) := by decide +kernel
theorem dX11_deal_4 : decode cX11_deal 4 = .ok (.iload_n 1, 1) := by decide +kernel
theorem dX11_deal_5 : decode cX11_deal 5 = .ok (.bipush 64, 2) := by decide +kernel
theorem dX11_deal_7 : decode cX11_deal 7 = .ok (.invokestatic 85, 3) := by decide +kernel
theorem dX11_deal_10 : decode cX11_deal 10 = .ok (.ifCond .eq 36, 3) := by decide +kernel
theorem dX11_deal_13 : decode cX11_deal 13 = .ok (.iload_n 2, 1) := by decide +kernel
theorem dX11_deal_14 : decode cX11_deal 14 = .ok (.sipush 256, 3) := by decide +kernel
theorem dX11_deal_17 : decode cX11_deal 17 = .ok (.invokestatic 85, 3) := by decide +kernel
theorem dX11_deal_20 : decode cX11_deal 20 = .ok (.ifCond .eq 26, 3) := by decide +kernel
theorem dX11_deal_23 : decode cX11_deal 23 = .ok (.iload_n 3, 1) := by decide +kernel
theorem dX11_deal_24 : decode cX11_deal 24 = .ok (.iconst 2, 1) := by decide +kernel
theorem dX11_deal_25 : decode cX11_deal 25 = .ok (.invokestatic 85, 3) := by decide +kernel
theorem dX11_deal_28 : decode cX11_deal 28 = .ok (.ifCond .eq 18, 3) := by decide +kernel
theorem dX11_deal_31 : decode cX11_deal 31 = .ok (.aload_n 0, 1) := by decide +kernel
theorem dX11_deal_32 : decode cX11_deal 32 = .ok (.getfield 71, 3) := by decide +kernel
theorem dX11_deal_35 : decode cX11_deal 35 = .ok (.iload_n 1, 1) := by decide +kernel
theorem dX11_deal_36 : decode cX11_deal 36 = .ok (.aload_n 0, 1) := by decide +kernel
theorem dX11_deal_37 : decode cX11_deal 37 = .ok (.getfield 19, 3) := by decide +kernel
theorem dX11_deal_40 : decode cX11_deal 40 = .ok (.invokevirtual 269, 3) := by decide +kernel
theorem dX11_deal_43 : decode cX11_deal 43 = .ok (.ifCond .ne 5, 3) := by decide +kernel
theorem dX11_deal_46 : decode cX11_deal 46 = .ok (.iconst (-1), 1) := by decide +kernel
theorem dX11_deal_47 : decode cX11_deal 47 = .ok (.ireturn, 1) := by decide +kernel
theorem dX11_deal_48 : decode cX11_deal 48 = .ok (.aload_n 0, 1) := by decide +kernel
theorem dX11_deal_49 : decode cX11_deal 49 = .ok (.getfield 71, 3) := by decide +kernel
theorem dX11_deal_52 : decode cX11_deal 52 = .ok (.iload_n 1, 1) := by decide +kernel
theorem dX11_deal_53 : decode cX11_deal 53 = .ok (.iload_n 2, 1) := by decide +kernel
theorem dX11_deal_54 : decode cX11_deal 54 = .ok (.invokestatic 272, 3) := by decide +kernel
theorem dX11_deal_57 : decode cX11_deal 57 = .ok (.iload_n 3, 1) := by decide +kernel
theorem dX11_deal_58 : decode cX11_deal 58 = .ok (.invokevirtual 277, 3) := by decide +kernel
theorem dX11_deal_61 : decode cX11_deal 61 = .ok (.aload_n 0, 1) := by decide +kernel
theorem dX11_deal_62 : decode cX11_deal 62 = .ok (.getfield 71, 3) := by decide +kernel
theorem dX11_deal_65 : decode cX11_deal 65 = .ok (.iload_n 1, 1) := by decide +kernel
theorem dX11_deal_66 : decode cX11_deal 66 = .ok (.iload_n 2, 1) := by decide +kernel
theorem dX11_deal_67 : decode cX11_deal 67 = .ok (.iload 4, 2) := by decide +kernel
theorem dX11_deal_69 : decode cX11_deal 69 = .ok (.invokevirtual 280, 3) := by decide +kernel
theorem dX11_deal_72 : decode cX11_deal 72 = .ok (.iload 5, 2) := by decide +kernel
theorem dX11_deal_74 : decode cX11_deal 74 = .ok (.bipush 10, 2) := by decide +kernel
theorem dX11_deal_76 : decode cX11_deal 76 = .ok (.if_icmp .ge 13, 3) := by decide +kernel
theorem dX11_deal_79 : decode cX11_deal 79 = .ok (.aload_n 0, 1) := by decide +kernel
theorem dX11_deal_80 : decode cX11_deal 80 = .ok (.getfield 71, 3) := by decide +kernel
theorem dX11_deal_83 : decode cX11_deal 83 = .ok (.iload 5, 2) := by decide +kernel
theorem dX11_deal_85 : decode cX11_deal 85 = .ok (.invokevirtual 284, 3) := by decide +kernel
theorem dX11_deal_88 : decode cX11_deal 88 = .ok (.ireturn, 1) := by decide +kernel
theorem dX11_deal_89 : decode cX11_deal 89 = .ok (.iload 5, 2) := by decide +kernel
theorem dX11_deal_91 : decode cX11_deal 91 = .ok (.bipush 20, 2) := by decide +kernel
theorem dX11_deal_93 : decode cX11_deal 93 = .ok (.if_icmp .ge 18, 3) := by decide +kernel
theorem dX11_deal_96 : decode cX11_deal 96 = .ok (.aload_n 0, 1) := by decide +kernel
theorem dX11_deal_97 : decode cX11_deal 97 = .ok (.getfield 71, 3) := by decide +kernel
theorem dX11_deal_100 : decode cX11_deal 100 = .ok (.iload 5, 2) := by decide +kernel
theorem dX11_deal_102 : decode cX11_deal 102 = .ok (.bipush 10, 2) := by decide +kernel
theorem dX11_deal_104 : decode cX11_deal 104 = .ok (.isub, 1) := by decide +kernel
theorem dX11_deal_105 : decode cX11_deal 105 = .ok (.invokevirtual 287, 3) := by decide +kernel
theorem dX11_deal_108 : decode cX11_deal 108 = .ok (.goto 15, 3) := by decide +kernel
theorem dX11_deal_111 : decode cX11_deal 111 = .ok (.aload_n 0, 1) := by decide +kernel
theorem dX11_deal_112 : decode cX11_deal 112 = .ok (.getfield 71, 3) := by decide +kernel
theorem dX11_deal_115 : decode cX11_deal 115 = .ok (.iload 5, 2) := by decide +kernel
theorem dX11_deal_117 : decode cX11_deal 117 = .ok (.bipush 20, 2) := by decide +kernel
theorem dX11_deal_119 : decode cX11_deal 119 = .ok (.isub, 1) := by decide +kernel
theorem dX11_deal_120 : decode cX11_deal 120 = .ok (.invokevirtual 290, 3) := by decide +kernel
theorem dX11_deal_123 : decode cX11_deal 123 = .ok (.ireturn, 1) := by decide +kernel
set_option maxRecDepth 20000 in
theorem ggX11_seatAnew_X3_seat : GoodIn wsX11_seatAnew wsX3_seat := goodIn_r _ [10, 11, 12, 13, 14, 15, 16, 17, 18, 19, 20, 21, 22, 23, 9, 24, 25, 26, 27, 28, 29, 30, 31, 32, 33, 34, 35, 36, 37, 38, 39, 40, 41, 42, 65, 66, 67, 68, 69, 70, 71, 72, 73, 74, 75] (by decide +kernel) (by decide +kernel)
set_option maxRecDepth 20000 in
theorem gX11_seatAnew_X3_seat : GoodIn wsX11_seatAnew (wsV RX11 212 RX3 yX3_seat wsX3_seat) := goodIn_app (goodIn_of _ (by decide +kernel)) ggX11_seatAnew_X3_seat
theorem dX11_seatAnew_0 : decode cX11_seatAnew 0 = .ok (.aload_n 0, 1) := by decide +kernel
theorem dX11_seatAnew_1 : decode cX11_seatAnew 1 = .ok (.getfield 12, 3) := by decide +kernel
theorem dX11_seatAnew_4 : decode cX11_seatAnew 4 = .ok (.aload_n 0, 1) := by decide +kernel
theorem dX11_seatAnew_5 : decode cX11_seatAnew 5 = .ok (.getfield 19, 3) := by decide +kernel
theorem dX11_seatAnew_8 : decode cX11_seatAnew 8 = .ok (.aload_n 0, 1) := by decide +kernel
theorem dX11_seatAnew_9 : decode cX11_seatAnew 9 = .ok (.getfield 75, 3) := by decide +kernel
theorem dX11_seatAnew_12 : decode cX11_seatAnew 12 = .ok (.aload_n 0, 1) := by decide +kernel
theorem dX11_seatAnew_13 : decode cX11_seatAnew 13 = .ok (.getfield 79, 3) := by decide +kernel
theorem dX11_seatAnew_16 : decode cX11_seatAnew 16 = .ok (.invokevirtual 212, 3) := by decide +kernel
theorem dX11_seatAnew_19 : decode cX11_seatAnew 19 = .ok (.iconst 0, 1) := by decide +kernel
theorem dX11_seatAnew_20 : decode cX11_seatAnew 20 = .ok (.istore_n 1, 1) := by decide +kernel
theorem dX11_seatAnew_21 : decode cX11_seatAnew 21 = .ok (.iload_n 1, 1) := by decide +kernel
theorem dX11_seatAnew_22 : decode cX11_seatAnew 22 = .ok (.iconst 4, 1) := by decide +kernel
theorem dX11_seatAnew_23 : decode cX11_seatAnew 23 = .ok (.if_icmp .ge 22, 3) := by decide +kernel
theorem dX11_seatAnew_26 : decode cX11_seatAnew 26 = .ok (.aload_n 0, 1) := by decide +kernel
theorem dX11_seatAnew_27 : decode cX11_seatAnew 27 = .ok (.getfield 35, 3) := by decide +kernel
theorem dX11_seatAnew_30 : decode cX11_seatAnew 30 = .ok (.iload_n 1, 1) := by decide +kernel
theorem dX11_seatAnew_31 : decode cX11_seatAnew 31 = .ok (.aaload, 1) := by decide +kernel
theorem dX11_seatAnew_32 : decode cX11_seatAnew 32 = .ok (.getfield 293, 3) := by decide +kernel
theorem dX11_seatAnew_35 : decode cX11_seatAnew 35 = .ok (.iconst 0, 1) := by decide +kernel
theorem dX11_seatAnew_36 : decode cX11_seatAnew 36 = .ok (.putfield 297, 3) := by decide +kernel
theorem dX11_seatAnew_39 : decode cX11_seatAnew 39 = .ok (.iinc 1 1, 3) := by decide +kernel
theorem dX11_seatAnew_42 : decode cX11_seatAnew 42 = .ok (.goto (-21), 3) := by decide +kernel
theorem dX11_seatAnew_45 : decode cX11_seatAnew 45 = .ok (.return_, 1) := by decide +kernel
set_option maxRecDepth 20000 in
theorem ggX11_tableOf_X11_inside : GoodIn wsX11_tableOf wsX11_inside := goodIn_r _ [6] (by decide +kernel) (by decide +kernel)
set_option maxRecDepth 20000 in
theorem gX11_tableOf_X11_inside : GoodIn wsX11_tableOf (va_wsS RX11 85 yX11_inside wsX11_inside) := goodIn_app (goodIn_of _ (by decide +kernel)) ggX11_tableOf_X11_inside
set_option maxRecDepth 20000 in
theorem ggX11_tableOf_X6_tabulate : GoodIn wsX11_tableOf wsX6_tabulate := goodIn_r _ [11, 12, 13, 14, 15, 16, 17, 18, 19, 20, 21, 22, 23, 24, 25, 5, 26, 27, 28, 29, 10, 30, 31, 32, 33, 4, 6, 34, 35, 36, 37, 38, 39, 40, 41, 42, 43, 44, 45, 46, 47, 48, 49, 50, 51, 52, 53, 54, 55, 56, 57, 58, 59, 60, 61, 75, 76, 77, 78, 79, 80, 81, 82, 83, 84, 85, 86, 87] (by decide +kernel) (by decide +kernel)
set_option maxRecDepth 20000 in
theorem gX11_tableOf_X6_tabulate : GoodIn wsX11_tableOf (wsV RX11 300 RX6 yX6_tabulate wsX6_tabulate) := goodIn_app (goodIn_of _ (by decide +kernel)) ggX11_tableOf_X6_tabulate
theorem dX11_tableOf_0 : decode cX11_tableOf 0 = .ok (.iload_n 1, 1) := by decide +kernel
theorem dX11_tableOf_1 : decode cX11_tableOf 1 = .ok (.iconst 4, 1) := by decide +kernel
theorem dX11_tableOf_2 : decode cX11_tableOf 2 = .ok (.invokestatic 85, 3) := by decide +kernel
theorem dX11_tableOf_5 : decode cX11_tableOf 5 = .ok (.ifCond .ne 5, 3) := by decide +kernel
theorem dX11_tableOf_8 : decode cX11_tableOf 8 = .ok (.aconst_null, 1) := by decide +kernel
theorem dX11_tableOf_9 : decode cX11_tableOf 9 = .ok (.areturn, 1) := by decide +kernel
theorem dX11_tableOf_10 : decode cX11_tableOf 10 = .ok (.aload_n 0, 1) := by decide +kernel
theorem dX11_tableOf_11 : decode cX11_tableOf 11 = .ok (.getfield 35, 3) := by decide +kernel
theorem dX11_tableOf_14 : decode cX11_tableOf 14 = .ok (.iload_n 1, 1) := by decide +kernel
theorem dX11_tableOf_15 : decode cX11_tableOf 15 = .ok (.aaload, 1) := by decide +kernel
theorem dX11_tableOf_16 : decode cX11_tableOf 16 = .ok (.aload_n 0, 1) := by decide +kernel
theorem dX11_tableOf_17 : decode cX11_tableOf 17 = .ok (.getfield 19, 3) := by decide +kernel
theorem dX11_tableOf_20 : decode cX11_tableOf 20 = .ok (.invokevirtual 300, 3) := by decide +kernel
theorem dX11_tableOf_23 : decode cX11_tableOf 23 = .ok (.aload_n 0, 1) := by decide +kernel
theorem dX11_tableOf_24 : decode cX11_tableOf 24 = .ok (.getfield 35, 3) := by decide +kernel
theorem dX11_tableOf_27 : decode cX11_tableOf 27 = .ok (.iload_n 1, 1) := by decide +kernel
theorem dX11_tableOf_28 : decode cX11_tableOf 28 = .ok (.aaload, 1) := by decide +kernel
theorem dX11_tableOf_29 : decode cX11_tableOf 29 = .ok (.getfield 293, 3) := by decide +kernel
theorem dX11_tableOf_32 : decode cX11_tableOf 32 = .ok (.areturn, 1) := by decide +kernel
set_option maxRecDepth 20000 in
theorem ggX11_findLeasts_X11_tableOf : GoodIn wsX11_findLeasts wsX11_tableOf := goodIn_r _ [6, 7, 8, 9, 10, 5, 11, 12, 13, 14, 15, 16, 17, 18, 19, 20, 21, 22, 23, 24, 25, 26, 27, 28, 29, 30, 31, 32, 33, 34, 35, 36, 37, 38, 39, 40, 41, 42, 43, 44, 45, 46, 47, 48, 49, 50, 51, 52, 53, 54, 55, 56, 57, 58, 59, 60, 61, 62, 63, 64, 65, 66, 91, 92, 93, 94, 95, 96, 97, 98, 99, 100, 101, 102, 103, 104, 105, 106, 107, 108, 109, 110, 111, 112, 113, 114, 115, 116] (by decide +kernel) (by decide +kernel)
set_option maxRecDepth 20000 in
theorem gX11_findLeasts_X11_tableOf : GoodIn wsX11_findLeasts (wsV RX11 156 RX11 yX11_tableOf wsX11_tableOf) := goodIn_app (goodIn_of _ (by decide +kernel)) ggX11_findLeasts_X11_tableOf
set_option maxRecDepth 20000 in
theorem ggX11_findLeasts_X11_inside : GoodIn wsX11_findLeasts wsX11_inside := goodIn_r _ [11] (by decide +kernel) (by decide +kernel)
set_option maxRecDepth 20000 in
theorem gX11_findLeasts_X11_inside : GoodIn wsX11_findLeasts (va_wsS RX11 85 yX11_inside wsX11_inside) := goodIn_app (goodIn_of _ (by decide +kernel)) ggX11_findLeasts_X11_inside
set_option maxRecDepth 20000 in
theorem ggX11_findLeasts_X1_seek : GoodIn wsX11_findLeasts wsX1_seek := goodIn_r _ [71, 72, 73, 74, 19, 20, 21, 22, 23, 24, 25, 26, 27, 28, 29, 30, 5, 31, 75, 76, 77, 78, 10, 11, 79, 80, 81, 82, 83, 70, 84, 85, 86, 87, 88, 89, 90, 64, 65, 66, 117, 118, 119, 108, 109, 110, 111, 112] (by decide +kernel) (by decide +kernel)
set_option maxRecDepth 20000 in
theorem gX11_findLeasts_X1_seek : GoodIn wsX11_findLeasts (wsV RX11 304 RX1 yX1_seek wsX1_seek) := goodIn_app (goodIn_of _ (by decide +kernel)) ggX11_findLeasts_X1_seek
theorem dX11_findLeasts_0 : decode cX11_findLeasts 0 = .ok (.aload_n 0, 1) := by decide +kernel
theorem dX11_findLeasts_1 : decode cX11_findLeasts 1 = .ok (.iload_n 1, 1) := by decide +kernel
theorem dX11_findLeasts_2 : decode cX11_findLeasts 2 = .ok (.invokevirtual 156, 3) := by decide +kernel
theorem dX11_findLeasts_5 : decode cX11_findLeasts 5 = .ok (.astore_n 3, 1) := by decide +kernel
theorem dX11_findLeasts_6 : decode cX11_findLeasts 6 = .ok (.aload_n 3, 1) := by decide +kernel
theorem dX11_findLeasts_7 : decode cX11_findLeasts 7 = .ok (.ifnull 11, 3) := by decide +kernel
theorem dX11_findLeasts_10 : decode cX11_findLeasts 10 = .ok (.iload_n 2, 1) := by decide +kernel
theorem dX11_findLeasts_11 : decode cX11_findLeasts 11 = .ok (.iconst 2, 1) := by decide +kernel
theorem dX11_findLeasts_12 : decode cX11_findLeasts 12 = .ok (.invokestatic 85, 3) := by decide +kernel
theorem dX11_findLeasts_15 : decode cX11_findLeasts 15 = .ok (.ifCond .ne 5, 3) := by decide +kernel
theorem dX11_findLeasts_18 : decode cX11_findLeasts 18 = .ok (.iconst 0, 1) := by decide +kernel
theorem dX11_findLeasts_19 : decode cX11_findLeasts 19 = .ok (.ireturn, 1) := by decide +kernel
theorem dX11_findLeasts_20 : decode cX11_findLeasts 20 = .ok (.aload_n 0, 1) := by decide +kernel
theorem dX11_findLeasts_21 : decode cX11_findLeasts 21 = .ok (.getfield 43, 3) := by decide +kernel
theorem dX11_findLeasts_24 : decode cX11_findLeasts 24 = .ok (.aload_n 3, 1) := by decide +kernel
theorem dX11_findLeasts_25 : decode cX11_findLeasts 25 = .ok (.iload_n 2, 1) := by decide +kernel
theorem dX11_findLeasts_26 : decode cX11_findLeasts 26 = .ok (.iconst 1, 1) := by decide +kernel
theorem dX11_findLeasts_27 : decode cX11_findLeasts 27 = .ok (.if_icmp .ne 7, 3) := by decide +kernel
theorem dX11_findLeasts_30 : decode cX11_findLeasts 30 = .ok (.iconst 1, 1) := by decide +kernel
theorem dX11_findLeasts_31 : decode cX11_findLeasts 31 = .ok (.goto 4, 3) := by decide +kernel
theorem dX11_findLeasts_34 : decode cX11_findLeasts 34 = .ok (.iconst 0, 1) := by decide +kernel
theorem dX11_findLeasts_35 : decode cX11_findLeasts 35 = .ok (.invokevirtual 304, 3) := by decide +kernel
theorem dX11_findLeasts_38 : decode cX11_findLeasts 38 = .ok (.iconst 1, 1) := by decide +kernel
theorem dX11_findLeasts_39 : decode cX11_findLeasts 39 = .ok (.ireturn, 1) := by decide +kernel
theorem dX11_inside_0 : decode cX11_inside 0 = .ok (.iload_n 0, 1) := by decide +kernel
theorem dX11_inside_1 : decode cX11_inside 1 = .ok (.ifCond .lt 12, 3) := by decide +kernel
theorem dX11_inside_4 : decode cX11_inside 4 = .ok (.iload_n 0, 1) := by decide +kernel
theorem dX11_inside_5 : decode cX11_inside 5 = .ok (.iload_n 1, 1) := by decide +kernel
theorem dX11_inside_6 : decode cX11_inside 6 = .ok (.if_icmp .ge 7, 3) := by decide +kernel
theorem dX11_inside_9 : decode cX11_inside 9 = .ok (.iconst 1, 1) := by decide +kernel
theorem dX11_inside_10 : decode cX11_inside 10 = .ok (.goto 4, 3) := by decide +kernel
theorem dX11_inside_13 : decode cX11_inside 13 = .ok (.iconst 0, 1) := by decide +kernel
theorem dX11_inside_14 : decode cX11_inside 14 = .ok (.ireturn, 1) := by decide +kernel
theorem dX11_has_0 : decode cX11_has 0 = .ok (.iload_n 0, 1) := by decide +kernel
theorem dX11_has_1 : decode cX11_has 1 = .ok (.iload_n 1, 1) := by decide +kernel
theorem dX11_has_2 : decode cX11_has 2 = .ok (.ishr, 1) := by decide +kernel
theorem dX11_has_3 : decode cX11_has 3 = .ok (.iconst 1, 1) := by decide +kernel
theorem dX11_has_4 : decode cX11_has 4 = .ok (.iand, 1) := by decide +kernel
theorem dX11_has_5 : decode cX11_has 5 = .ok (.ifCond .eq 7, 3) := by decide +kernel
theorem dX11_has_8 : decode cX11_has 8 = .ok (.iconst 1, 1) := by decide +kernel
theorem dX11_has_9 : decode cX11_has 9 = .ok (.goto 4, 3) := by decide +kernel
theorem dX11_has_12 : decode cX11_has 12 = .ok (.iconst 0, 1) := by decide +kernel
theorem dX11_has_13 : decode cX11_has 13 = .ok (.ireturn, 1) := by decide +kernel
theorem dX11_isWithin_0 : decode cX11_isWithin 0 = .ok (.iload_n 0, 1) := by decide +kernel
theorem dX11_isWithin_1 : decode cX11_isWithin 1 = .ok (.iload_n 1, 1) := by decide +kernel
theorem dX11_isWithin_2 : decode cX11_isWithin 2 = .ok (.iconst (-1), 1) := by decide +kernel
theorem dX11_isWithin_3 : decode cX11_isWithin 3 = .ok (.ixor, 1) := by decide +kernel
theorem dX11_isWithin_4 : decode cX11_isWithin 4 = .ok (.iand, 1) := by decide +kernel
theorem dX11_isWithin_5 : decode cX11_isWithin 5 = .ok (.ifCond .ne 7, 3) := by decide +kernel
theorem dX11_isWithin_8 : decode cX11_isWithin 8 = .ok (.iconst 1, 1) := by decide +kernel
theorem dX11_isWithin_9 : decode cX11_isWithin 9 = .ok (.goto 4, 3) := by decide +kernel
theorem dX11_isWithin_12 : decode cX11_isWithin 12 = .ok (.iconst 0, 1) := by decide +kernel
theorem dX11_isWithin_13 : decode cX11_isWithin 13 = .ok (.ireturn, 1) := by decide +kernel
theorem dX11_reduced_0 : decode cX11_reduced 0 = .ok (.lload_n 0, 1) := by decide +kernel
theorem dX11_reduced_1 : decode cX11_reduced 1 = .ok (.lstore 4, 2) := by decide +kernel
theorem dX11_reduced_3 : decode cX11_reduced 3 = .ok (.lload_n 2, 1) := by decide +kernel
theorem dX11_reduced_4 : decode cX11_reduced 4 = .ok (.lstore 6, 2) := by decide +kernel
theorem dX11_reduced_6 : decode cX11_reduced 6 = .ok (.iconst 0, 1) := by decide +kernel
theorem dX11_reduced_7 : decode cX11_reduced 7 = .ok (.istore 8, 2) := by decide +kernel
theorem dX11_reduced_9 : decode cX11_reduced 9 = .ok (.iload 8, 2) := by decide +kernel
theorem dX11_reduced_11 : decode cX11_reduced 11 = .ok (.bipush 100, 2) := by decide +kernel
theorem dX11_reduced_13 : decode cX11_reduced 13 = .ok (.if_icmp .ge 31, 3) := by decide +kernel
theorem dX11_reduced_16 : decode cX11_reduced 16 = .ok (.lload 6, 2) := by decide +kernel
theorem dX11_reduced_18 : decode cX11_reduced 18 = .ok (.lconst 0, 1) := by decide +kernel
theorem dX11_reduced_19 : decode cX11_reduced 19 = .ok (.lcmp, 1) := by decide +kernel
theorem dX11_reduced_20 : decode cX11_reduced 20 = .ok (.ifCond .eq 24, 3) := by decide +kernel
theorem dX11_reduced_23 : decode cX11_reduced 23 = .ok (.lload 4, 2) := by decide +kernel
theorem dX11_reduced_25 : decode cX11_reduced 25 = .ok (.lload 6, 2) := by decide +kernel
theorem dX11_reduced_27 : decode cX11_reduced 27 = .ok (.lrem, 1) := by decide +kernel
theorem dX11_reduced_28 : decode cX11_reduced 28 = .ok (.lstore 9, 2) := by decide +kernel
theorem dX11_reduced_30 : decode cX11_reduced 30 = .ok (.lload 6, 2) := by decide +kernel
theorem dX11_reduced_32 : decode cX11_reduced 32 = .ok (.lstore 4, 2) := by decide +kernel
theorem dX11_reduced_34 : decode cX11_reduced 34 = .ok (.lload 9, 2) := by decide +kernel
theorem dX11_reduced_36 : decode cX11_reduced 36 = .ok (.lstore 6, 2) := by decide +kernel
theorem dX11_reduced_38 : decode cX11_reduced 38 = .ok (.iinc 8 1, 3) := by decide +kernel
theorem dX11_reduced_41 : decode cX11_reduced 41 = .ok (.goto (-32), 3) := by decide +kernel
theorem dX11_reduced_44 : decode cX11_reduced 44 = .ok (.lload 4, 2) := by decide +kernel
theorem dX11_reduced_46 : decode cX11_reduced 46 = .ok (.lconst 0, 1) := by decide +kernel
theorem dX11_reduced_47 : decode cX11_reduced 47 = .ok (.lcmp, 1) := by decide +kernel
theorem dX11_reduced_48 : decode cX11_reduced 48 = .ok (.ifCond .ne 7, 3) := by decide +kernel
theorem dX11_reduced_51 : decode cX11_reduced 51 = .ok (.lconst 0, 1) := by decide +kernel
theorem dX11_reduced_52 : decode cX11_reduced 52 = .ok (.goto 7, 3) := by decide +kernel
theorem dX11_reduced_55 : decode cX11_reduced 55 = .ok (.lload_n 0, 1) := by decide +kernel
theorem dX11_reduced_56 : decode cX11_reduced 56 = .ok (.lload 4, 2) := by decide +kernel
theorem dX11_reduced_58 : decode cX11_reduced 58 = .ok (.ldiv, 1) := by decide +kernel
theorem dX11_reduced_59 : decode cX11_reduced 59 = .ok (.lreturn, 1) := by decide +kernel
