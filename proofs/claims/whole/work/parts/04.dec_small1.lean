theorem dX4_init_41 : decode cX4_init 41 = .ok (.putfield 24, 3) := by decide +kernel
theorem dX4_init_44 : decode cX4_init 44 = .ok (.aload_n 0, 1) := by decide +kernel
theorem dX4_init_45 : decode cX4_init 45 = .ok (.bipush 6, 2) := by decide +kernel
theorem dX4_init_47 : decode cX4_init 47 = .ok (.newarray .int, 2) := by decide +kernel
theorem dX4_init_49 : decode cX4_init 49 = .ok (.putfield 27, 3) := by decide +kernel
theorem dX4_init_52 : decode cX4_init 52 = .ok (.aload_n 0, 1) := by decide +kernel
theorem dX4_init_53 : decode cX4_init 53 = .ok (.getfield 9, 3) := by decide +kernel
theorem dX4_init_56 : decode cX4_init 56 = .ok (.iconst (-1), 1) := by decide +kernel
theorem dX4_init_57 : decode cX4_init 57 = .ok (.invokestatic 30, 3) := by decide +kernel
theorem dX4_init_60 : decode cX4_init 60 = .ok (.return_, 1) := by decide +kernel
set_option maxRecDepth 20000 in
theorem ggX4_firstOf_X11_inside : GoodIn wsX4_firstOf wsX11_inside := goodIn_r _ [4] (by decide +kernel) (by decide +kernel)
set_option maxRecDepth 20000 in
theorem gX4_firstOf_X11_inside_n36 : GoodIn wsX4_firstOf (wsX11_inside) := ggX4_firstOf_X11_inside
theorem dX4_firstOf_0 : decode cX4_firstOf 0 = .ok (.iload_n 1, 1) := by decide +kernel
theorem dX4_firstOf_1 : decode cX4_firstOf 1 = .ok (.bipush 10, 2) := by decide +kernel
theorem dX4_firstOf_3 : decode cX4_firstOf 3 = .ok (.invokestatic 36, 3) := by decide +kernel
theorem dX4_firstOf_6 : decode cX4_firstOf 6 = .ok (.ifCond .eq 12, 3) := by decide +kernel
theorem dX4_firstOf_9 : decode cX4_firstOf 9 = .ok (.aload_n 0, 1) := by decide +kernel
theorem dX4_firstOf_10 : decode cX4_firstOf 10 = .ok (.getfield 9, 3) := by decide +kernel
theorem dX4_firstOf_13 : decode cX4_firstOf 13 = .ok (.iload_n 1, 1) := by decide +kernel
theorem dX4_firstOf_14 : decode cX4_firstOf 14 = .ok (.iaload, 1) := by decide +kernel
theorem dX4_firstOf_15 : decode cX4_firstOf 15 = .ok (.goto 4, 3) := by decide +kernel
theorem dX4_firstOf_18 : decode cX4_firstOf 18 = .ok (.iconst (-1), 1) := by decide +kernel
theorem dX4_firstOf_19 : decode cX4_firstOf 19 = .ok (.ireturn, 1) := by decide +kernel
set_option maxRecDepth 20000 in
theorem ggX4_drop_X11_inside : GoodIn wsX4_drop wsX11_inside := goodIn_r _ [4] (by decide +kernel) (by decide +kernel)
set_option maxRecDepth 20000 in
theorem gX4_drop_X11_inside_n36 : GoodIn wsX4_drop (wsX11_inside) := ggX4_drop_X11_inside
theorem dX4_drop_0 : decode cX4_drop 0 = .ok (.iload_n 1, 1) := by decide +kernel
theorem dX4_drop_1 : decode cX4_drop 1 = .ok (.bipush 10, 2) := by decide +kernel
theorem dX4_drop_3 : decode cX4_drop 3 = .ok (.invokestatic 36, 3) := by decide +kernel
theorem dX4_drop_6 : decode cX4_drop 6 = .ok (.ifCond .eq 10, 3) := by decide +kernel
theorem dX4_drop_9 : decode cX4_drop 9 = .ok (.aload_n 0, 1) := by decide +kernel
theorem dX4_drop_10 : decode cX4_drop 10 = .ok (.getfield 9, 3) := by decide +kernel
theorem dX4_drop_13 : decode cX4_drop 13 = .ok (.iload_n 1, 1) := by decide +kernel
theorem dX4_drop_14 : decode cX4_drop 14 = .ok (.iconst (-1), 1) := by decide +kernel
theorem dX4_drop_15 : decode cX4_drop 15 = .ok (.iastore, 1) := by decide +kernel
theorem dX4_drop_16 : decode cX4_drop 16 = .ok (.return_, 1) := by decide +kernel
set_option maxRecDepth 20000 in
theorem ggX4_take_X11_inside : GoodIn wsX4_take wsX11_inside := goodIn_r _ [10] (by decide +kernel) (by decide +kernel)
set_option maxRecDepth 20000 in
theorem gX4_take_X11_inside_n36 : GoodIn wsX4_take (wsX11_inside) := ggX4_take_X11_inside
set_option maxRecDepth 20000 in
theorem ggX4_take_X11_has : GoodIn wsX4_take wsX11_has := goodIn_r _ [12] (by decide +kernel) (by decide +kernel)
set_option maxRecDepth 20000 in
theorem gX4_take_X11_has_n40 : GoodIn wsX4_take (wsX11_has) := ggX4_take_X11_has
theorem dX4_take_0 : decode cX4_take 0 = .ok (.iload_n 1, 1) := by decide +kernel
theorem dX4_take_1 : decode cX4_take 1 = .ok (.bipush 10, 2) := by decide +kernel
theorem dX4_take_3 : decode cX4_take 3 = .ok (.invokestatic 36, 3) := by decide +kernel
theorem dX4_take_6 : decode cX4_take 6 = .ok (.ifCond .eq 7, 3) := by decide +kernel
theorem dX4_take_9 : decode cX4_take 9 = .ok (.iload_n 2, 1) := by decide +kernel
theorem dX4_take_10 : decode cX4_take 10 = .ok (.ifCond .ge 5, 3) := by decide +kernel
theorem dX4_take_13 : decode cX4_take 13 = .ok (.iconst 0, 1) := by decide +kernel
theorem dX4_take_14 : decode cX4_take 14 = .ok (.ireturn, 1) := by decide +kernel
theorem dX4_take_15 : decode cX4_take 15 = .ok (.iconst 0, 1) := by decide +kernel
theorem dX4_take_16 : decode cX4_take 16 = .ok (.istore_n 3, 1) := by decide +kernel
theorem dX4_take_17 : decode cX4_take 17 = .ok (.iload_n 2, 1) := by decide +kernel
theorem dX4_take_18 : decode cX4_take 18 = .ok (.istore 4, 2) := by decide +kernel
theorem dX4_take_20 : decode cX4_take 20 = .ok (.iconst (-1), 1) := by decide +kernel
theorem dX4_take_21 : decode cX4_take 21 = .ok (.istore 5, 2) := by decide +kernel
theorem dX4_take_23 : decode cX4_take 23 = .ok (.iconst 5, 1) := by decide +kernel
theorem dX4_take_24 : decode cX4_take 24 = .ok (.istore 6, 2) := by decide +kernel
theorem dX4_take_26 : decode cX4_take 26 = .ok (.iload 6, 2) := by decide +kernel
theorem dX4_take_28 : decode cX4_take 28 = .ok (.ifCond .lt 60, 3) := by decide +kernel
theorem dX4_take_31 : decode cX4_take 31 = .ok (.iload 4, 2) := by decide +kernel
theorem dX4_take_33 : decode cX4_take 33 = .ok (.bipush 10, 2) := by decide +kernel
theorem dX4_take_35 : decode cX4_take 35 = .ok (.irem, 1) := by decide +kernel
theorem dX4_take_36 : decode cX4_take 36 = .ok (.istore 5, 2) := by decide +kernel
theorem dX4_take_38 : decode cX4_take 38 = .ok (.iload 4, 2) := by decide +kernel
theorem dX4_take_40 : decode cX4_take 40 = .ok (.bipush 10, 2) := by decide +kernel
theorem dX4_take_42 : decode cX4_take 42 = .ok (.idiv, 1) := by decide +kernel
theorem dX4_take_43 : decode cX4_take 43 = .ok (.istore 4, 2) := by decide +kernel
theorem dX4_take_45 : decode cX4_take 45 = .ok (.iload 5, 2) := by decide +kernel
theorem dX4_take_47 : decode cX4_take 47 = .ok (.bipush 6, 2) := by decide +kernel
theorem dX4_take_49 : decode cX4_take 49 = .ok (.invokestatic 36, 3) := by decide +kernel
theorem dX4_take_52 : decode cX4_take 52 = .ok (.ifCond .eq 12, 3) := by decide +kernel
theorem dX4_take_55 : decode cX4_take 55 = .ok (.iload_n 3, 1) := by decide +kernel
theorem dX4_take_56 : decode cX4_take 56 = .ok (.iload 5, 2) := by decide +kernel
theorem dX4_take_58 : decode cX4_take 58 = .ok (.invokestatic 40, 3) := by decide +kernel
theorem dX4_take_61 : decode cX4_take 61 = .ok (.ifCond .eq 5, 3) := by decide +kernel
theorem dX4_take_64 : decode cX4_take 64 = .ok (.iconst 0, 1) := by decide +kernel
theorem dX4_take_65 : decode cX4_take 65 = .ok (.ireturn, 1) := by decide +kernel
theorem dX4_take_66 : decode cX4_take 66 = .ok (.iload_n 3, 1) := by decide +kernel
theorem dX4_take_67 : decode cX4_take 67 = .ok (.iconst 1, 1) := by decide +kernel
theorem dX4_take_68 : decode cX4_take 68 = .ok (.iload 5, 2) := by decide +kernel
theorem dX4_take_70 : decode cX4_take 70 = .ok (.ishl, 1) := by decide +kernel
theorem dX4_take_71 : decode cX4_take 71 = .ok (.ior, 1) := by decide +kernel
theorem dX4_take_72 : decode cX4_take 72 = .ok (.istore_n 3, 1) := by decide +kernel
theorem dX4_take_73 : decode cX4_take 73 = .ok (.aload_n 0, 1) := by decide +kernel
theorem dX4_take_74 : decode cX4_take 74 = .ok (.getfield 18, 3) := by decide +kernel
theorem dX4_take_77 : decode cX4_take 77 = .ok (.iload 5, 2) := by decide +kernel
theorem dX4_take_79 : decode cX4_take 79 = .ok (.iload 6, 2) := by decide +kernel
theorem dX4_take_81 : decode cX4_take 81 = .ok (.iastore, 1) := by decide +kernel
theorem dX4_take_82 : decode cX4_take 82 = .ok (.iinc 6 (-1), 3) := by decide +kernel
theorem dX4_take_85 : decode cX4_take 85 = .ok (.goto (-59), 3) := by decide +kernel
theorem dX4_take_88 : decode cX4_take 88 = .ok (.iload 4, 2) := by decide +kernel
theorem dX4_take_90 : decode cX4_take 90 = .ok (.ifCond .eq 5, 3) := by decide +kernel
theorem dX4_take_93 : decode cX4_take 93 = .ok (.iconst 0, 1) := by decide +kernel
theorem dX4_take_94 : decode cX4_take 94 = .ok (.ireturn, 1) := by decide +kernel
theorem dX4_take_95 : decode cX4_take 95 = .ok (.aload_n 0, 1) := by decide +kernel
theorem dX4_take_96 : decode cX4_take 96 = .ok (.getfield 9, 3) := by decide +kernel
theorem dX4_take_99 : decode cX4_take 99 = .ok (.iload_n 1, 1) := by decide +kernel
theorem dX4_take_100 : decode cX4_take 100 = .ok (.iload 5, 2) := by decide +kernel
theorem dX4_take_102 : decode cX4_take 102 = .ok (.iastore, 1) := by decide +kernel
theorem dX4_take_103 : decode cX4_take 103 = .ok (.aload_n 0, 1) := by decide +kernel
theorem dX4_take_104 : decode cX4_take 104 = .ok (.getfield 18, 3) := by decide +kernel
theorem dX4_take_107 : decode cX4_take 107 = .ok (.iconst 0, 1) := by decide +kernel
theorem dX4_take_108 : decode cX4_take 108 = .ok (.aload_n 0, 1) := by decide +kernel
theorem dX4_take_109 : decode cX4_take 109 = .ok (.getfield 15, 3) := by decide +kernel
theorem dX4_take_112 : decode cX4_take 112 = .ok (.iload_n 1, 1) := by decide +kernel
theorem dX4_take_113 : decode cX4_take 113 = .ok (.bipush 6, 2) := by decide +kernel
theorem dX4_take_115 : decode cX4_take 115 = .ok (.imul, 1) := by decide +kernel
theorem dX4_take_116 : decode cX4_take 116 = .ok (.bipush 6, 2) := by decide +kernel
theorem dX4_take_118 : decode cX4_take 118 = .ok (.invokestatic 43, 3) := by decide +kernel
theorem dX4_take_121 : decode cX4_take 121 = .ok (.iconst 1, 1) := by decide +kernel
theorem dX4_take_122 : decode cX4_take 122 = .ok (.ireturn, 1) := by decide +kernel
set_option maxRecDepth 20000 in
theorem ggX4_ahead_X11_inside : GoodIn wsX4_ahead wsX11_inside := goodIn_r _ [5] (by decide +kernel) (by decide +kernel)
set_option maxRecDepth 20000 in
theorem gX4_ahead_X11_inside_n36 : GoodIn wsX4_ahead (wsX11_inside) := ggX4_ahead_X11_inside
theorem dX4_ahead_0 : decode cX4_ahead 0 = .ok (.iconst 0, 1) := by decide +kernel
theorem dX4_ahead_1 : decode cX4_ahead 1 = .ok (.istore_n 3, 1) := by decide +kernel
theorem dX4_ahead_2 : decode cX4_ahead 2 = .ok (.iload_n 1, 1) := by decide +kernel
theorem dX4_ahead_3 : decode cX4_ahead 3 = .ok (.bipush 6, 2) := by decide +kernel
theorem dX4_ahead_5 : decode cX4_ahead 5 = .ok (.invokestatic 36, 3) := by decide +kernel
theorem dX4_ahead_8 : decode cX4_ahead 8 = .ok (.ifCond .eq 73, 3) := by decide +kernel
theorem dX4_ahead_11 : decode cX4_ahead 11 = .ok (.iload_n 2, 1) := by decide +kernel
theorem dX4_ahead_12 : decode cX4_ahead 12 = .ok (.bipush 6, 2) := by decide +kernel
theorem dX4_ahead_14 : decode cX4_ahead 14 = .ok (.invokestatic 36, 3) := by decide +kernel
theorem dX4_ahead_17 : decode cX4_ahead 17 = .ok (.ifCond .eq 64, 3) := by decide +kernel
theorem dX4_ahead_20 : decode cX4_ahead 20 = .ok (.iconst 0, 1) := by decide +kernel
theorem dX4_ahead_21 : decode cX4_ahead 21 = .ok (.istore 4, 2) := by decide +kernel
theorem dX4_ahead_23 : decode cX4_ahead 23 = .ok (.iload 4, 2) := by decide +kernel
theorem dX4_ahead_25 : decode cX4_ahead 25 = .ok (.bipush 10, 2) := by decide +kernel
theorem dX4_ahead_27 : decode cX4_ahead 27 = .ok (.if_icmp .ge 54, 3) := by decide +kernel
theorem dX4_ahead_30 : decode cX4_ahead 30 = .ok (.aload_n 0, 1) := by decide +kernel
theorem dX4_ahead_31 : decode cX4_ahead 31 = .ok (.getfield 9, 3) := by decide +kernel
theorem dX4_ahead_34 : decode cX4_ahead 34 = .ok (.iload 4, 2) := by decide +kernel
theorem dX4_ahead_36 : decode cX4_ahead 36 = .ok (.iaload, 1) := by decide +kernel
theorem dX4_ahead_37 : decode cX4_ahead 37 = .ok (.iconst (-1), 1) := by decide +kernel
theorem dX4_ahead_38 : decode cX4_ahead 38 = .ok (.if_icmp .eq 37, 3) := by decide +kernel
theorem dX4_ahead_41 : decode cX4_ahead 41 = .ok (.aload_n 0, 1) := by decide +kernel
theorem dX4_ahead_42 : decode cX4_ahead 42 = .ok (.getfield 15, 3) := by decide +kernel
theorem dX4_ahead_45 : decode cX4_ahead 45 = .ok (.iload 4, 2) := by decide +kernel
theorem dX4_ahead_47 : decode cX4_ahead 47 = .ok (.bipush 6, 2) := by decide +kernel
theorem dX4_ahead_49 : decode cX4_ahead 49 = .ok (.imul, 1) := by decide +kernel
theorem dX4_ahead_50 : decode cX4_ahead 50 = .ok (.iload_n 1, 1) := by decide +kernel
theorem dX4_ahead_51 : decode cX4_ahead 51 = .ok (.iadd, 1) := by decide +kernel
theorem dX4_ahead_52 : decode cX4_ahead 52 = .ok (.iaload, 1) := by decide +kernel
theorem dX4_ahead_53 : decode cX4_ahead 53 = .ok (.aload_n 0, 1) := by decide +kernel
theorem dX4_ahead_54 : decode cX4_ahead 54 = .ok (.getfield 15, 3) := by decide +kernel
theorem dX4_ahead_57 : decode cX4_ahead 57 = .ok (.iload 4, 2) := by decide +kernel
theorem dX4_ahead_59 : decode cX4_ahead 59 = .ok (.bipush 6, 2) := by decide +kernel
theorem dX4_ahead_61 : decode cX4_ahead 61 = .ok (.imul, 1) := by decide +kernel
theorem dX4_ahead_62 : decode cX4_ahead 62 = .ok (.iload_n 2, 1) := by decide +kernel
theorem dX4_ahead_63 : decode cX4_ahead 63 = .ok (.iadd, 1) := by decide +kernel
theorem dX4_ahead_64 : decode cX4_ahead 64 = .ok (.iaload, 1) := by decide +kernel
theorem dX4_ahead_65 : decode cX4_ahead 65 = .ok (.if_icmp .ge 10, 3) := by decide +kernel
theorem dX4_ahead_68 : decode cX4_ahead 68 = .ok (.iload_n 3, 1) := by decide +kernel
theorem dX4_ahead_69 : decode cX4_ahead 69 = .ok (.iconst 1, 1) := by decide +kernel
theorem dX4_ahead_70 : decode cX4_ahead 70 = .ok (.iload 4, 2) := by decide +kernel
theorem dX4_ahead_72 : decode cX4_ahead 72 = .ok (.ishl, 1) := by decide +kernel
theorem dX4_ahead_73 : decode cX4_ahead 73 = .ok (.ior, 1) := by decide +kernel
theorem dX4_ahead_74 : decode cX4_ahead 74 = .ok (.istore_n 3, 1) := by decide +kernel
theorem dX4_ahead_75 : decode cX4_ahead 75 = .ok (.iinc 4 1, 3) := by decide +kernel
theorem dX4_ahead_78 : decode cX4_ahead 78 = .ok (.goto (-55), 3) := by decide +kernel
theorem dX4_ahead_81 : decode cX4_ahead 81 = .ok (.iload_n 3, 1) := by decide +kernel
theorem dX4_ahead_82 : decode cX4_ahead 82 = .ok (.ireturn, 1) := by decide +kernel
set_option maxRecDepth 20000 in
theorem ggX4_compare_X4_ahead : GoodIn wsX4_compare wsX4_ahead := goodIn_r _ [6, 7, 8, 9, 10, 11, 57, 58, 59, 60, 61, 62, 63] (by decide +kernel) (by decide +kernel)
set_option maxRecDepth 20000 in
theorem gX4_compare_X4_ahead : GoodIn wsX4_compare (wsV RX4 49 RX4 yX4_ahead wsX4_ahead) := goodIn_app (goodIn_of _ (by decide +kernel)) ggX4_compare_X4_ahead
set_option maxRecDepth 20000 in
theorem ggX4_compare_X6_passes : GoodIn wsX4_compare wsX6_passes := goodIn_r _ [16, 17, 18, 19, 20, 21, 22, 23, 9, 10, 11, 24, 25, 26, 27, 28, 15, 29, 30, 31, 32, 33, 34, 35, 36, 37, 38, 39, 40, 41, 42, 43, 44, 45, 46, 47, 48, 49, 50, 51, 52, 53, 54, 55, 56, 68, 69, 70, 71, 72, 73, 74, 75, 76, 64, 65, 66, 67] (by decide +kernel) (by decide +kernel)
set_option maxRecDepth 20000 in
theorem gX4_compare_X6_passes : GoodIn wsX4_compare (wsV RX4 59 RX6 yX6_passes wsX6_passes) := goodIn_app (goodIn_of _ (by decide +kernel)) ggX4_compare_X6_passes
theorem dX4_compare_0 : decode cX4_compare 0 = .ok (.iconst 0, 1) := by decide +kernel
theorem dX4_compare_1 : decode cX4_compare 1 = .ok (.istore_n 3, 1) := by decide +kernel
theorem dX4_compare_2 : decode cX4_compare 2 = .ok (.iload_n 3, 1) := by decide +kernel
theorem dX4_compare_3 : decode cX4_compare 3 = .ok (.bipush 6, 2) := by decide +kernel
theorem dX4_compare_5 : decode cX4_compare 5 = .ok (.if_icmp .ge 71, 3) := by decide +kernel
theorem dX4_compare_8 : decode cX4_compare 8 = .ok (.aload_n 0, 1) := by decide +kernel
theorem dX4_compare_9 : decode cX4_compare 9 = .ok (.getfield 21, 3) := by decide +kernel
theorem dX4_compare_12 : decode cX4_compare 12 = .ok (.iload_n 3, 1) := by decide +kernel
theorem dX4_compare_13 : decode cX4_compare 13 = .ok (.iconst 0, 1) := by decide +kernel
theorem dX4_compare_14 : decode cX4_compare 14 = .ok (.iastore, 1) := by decide +kernel
theorem dX4_compare_15 : decode cX4_compare 15 = .ok (.iconst 0, 1) := by decide +kernel
theorem dX4_compare_16 : decode cX4_compare 16 = .ok (.istore 4, 2) := by decide +kernel
theorem dX4_compare_18 : decode cX4_compare 18 = .ok (.iload 4, 2) := by decide +kernel
theorem dX4_compare_20 : decode cX4_compare 20 = .ok (.bipush 6, 2) := by decide +kernel
theorem dX4_compare_22 : decode cX4_compare 22 = .ok (.if_icmp .ge 48, 3) := by decide +kernel
theorem dX4_compare_25 : decode cX4_compare 25 = .ok (.iload_n 3, 1) := by decide +kernel
theorem dX4_compare_26 : decode cX4_compare 26 = .ok (.iload 4, 2) := by decide +kernel
theorem dX4_compare_28 : decode cX4_compare 28 = .ok (.if_icmp .eq 36, 3) := by decide +kernel
theorem dX4_compare_31 : decode cX4_compare 31 = .ok (.aload_n 1, 1) := by decide +kernel
theorem dX4_compare_32 : decode cX4_compare 32 = .ok (.aload_n 0, 1) := by decide +kernel
theorem dX4_compare_33 : decode cX4_compare 33 = .ok (.iload_n 3, 1) := by decide +kernel
theorem dX4_compare_34 : decode cX4_compare 34 = .ok (.iload 4, 2) := by decide +kernel
theorem dX4_compare_36 : decode cX4_compare 36 = .ok (.invokevirtual 49, 3) := by decide +kernel
theorem dX4_compare_39 : decode cX4_compare 39 = .ok (.aload_n 2, 1) := by decide +kernel
theorem dX4_compare_40 : decode cX4_compare 40 = .ok (.getfield 53, 3) := by decide +kernel
theorem dX4_compare_43 : decode cX4_compare 43 = .ok (.iand, 1) := by decide +kernel
theorem dX4_compare_44 : decode cX4_compare 44 = .ok (.aload_n 2, 1) := by decide +kernel
theorem dX4_compare_45 : decode cX4_compare 45 = .ok (.invokevirtual 59, 3) := by decide +kernel
theorem dX4_compare_48 : decode cX4_compare 48 = .ok (.ifCond .eq 16, 3) := by decide +kernel
theorem dX4_compare_51 : decode cX4_compare 51 = .ok (.aload_n 0, 1) := by decide +kernel
theorem dX4_compare_52 : decode cX4_compare 52 = .ok (.getfield 21, 3) := by decide +kernel
theorem dX4_compare_55 : decode cX4_compare 55 = .ok (.iload_n 3, 1) := by decide +kernel
theorem dX4_compare_56 : decode cX4_compare 56 = .ok (.dup2, 1) := by decide +kernel
theorem dX4_compare_57 : decode cX4_compare 57 = .ok (.iaload, 1) := by decide +kernel
theorem dX4_compare_58 : decode cX4_compare 58 = .ok (.iconst 1, 1) := by decide +kernel
theorem dX4_compare_59 : decode cX4_compare 59 = .ok (.iload 4, 2) := by decide +kernel
theorem dX4_compare_61 : decode cX4_compare 61 = .ok (.ishl, 1) := by decide +kernel
theorem dX4_compare_62 : decode cX4_compare 62 = .ok (.ior, 1) := by decide +kernel
theorem dX4_compare_63 : decode cX4_compare 63 = .ok (.iastore, 1) := by decide +kernel
theorem dX4_compare_64 : decode cX4_compare 64 = .ok (.iinc 4 1, 3) := by decide +kernel
theorem dX4_compare_67 : decode cX4_compare 67 = .ok (.goto (-49), 3) := by decide +kernel
theorem dX4_compare_70 : decode cX4_compare 70 = .ok (.iinc 3 1, 3) := by decide +kernel
theorem dX4_compare_73 : decode cX4_compare 73 = .ok (.goto (-71), 3) := by decide +kernel
theorem dX4_compare_76 : decode cX4_compare 76 = .ok (.return_, 1) := by decide +kernel
set_option maxRecDepth 20000 in
theorem ggX4_beats_X11_inside : GoodIn wsX4_beats wsX11_inside := goodIn_r _ [4] (by decide +kernel) (by decide +kernel)
set_option maxRecDepth 20000 in
theorem gX4_beats_X11_inside_n36 : GoodIn wsX4_beats (wsX11_inside) := ggX4_beats_X11_inside
set_option maxRecDepth 20000 in
theorem ggX4_beats_X11_has : GoodIn wsX4_beats wsX11_has := goodIn_r _ [6] (by decide +kernel) (by decide +kernel)
set_option maxRecDepth 20000 in
theorem gX4_beats_X11_has_n40 : GoodIn wsX4_beats (wsX11_has) := ggX4_beats_X11_has
theorem dX4_beats_0 : decode cX4_beats 0 = .ok (.iload_n 1, 1) := by decide +kernel
theorem dX4_beats_1 : decode cX4_beats 1 = .ok (.bipush 6, 2) := by decide +kernel
theorem dX4_beats_3 : decode cX4_beats 3 = .ok (.invokestatic 36, 3) := by decide +kernel
theorem dX4_beats_6 : decode cX4_beats 6 = .ok (.ifCond .eq 29, 3) := by decide +kernel
theorem dX4_beats_9 : decode cX4_beats 9 = .ok (.iload_n 2, 1) := by decide +kernel
theorem dX4_beats_10 : decode cX4_beats 10 = .ok (.bipush 6, 2) := by decide +kernel
theorem dX4_beats_12 : decode cX4_beats 12 = .ok (.invokestatic 36, 3) := by decide +kernel
theorem dX4_beats_15 : decode cX4_beats 15 = .ok (.ifCond .eq 20, 3) := by decide +kernel
theorem dX4_beats_18 : decode cX4_beats 18 = .ok (.aload_n 0, 1) := by decide +kernel
theorem dX4_beats_19 : decode cX4_beats 19 = .ok (.getfield 21, 3) := by decide +kernel
theorem dX4_beats_22 : decode cX4_beats 22 = .ok (.iload_n 1, 1) := by decide +kernel
theorem dX4_beats_23 : decode cX4_beats 23 = .ok (.iaload, 1) := by decide +kernel
theorem dX4_beats_24 : decode cX4_beats 24 = .ok (.iload_n 2, 1) := by decide +kernel
theorem dX4_beats_25 : decode cX4_beats 25 = .ok (.invokestatic 40, 3) := by decide +kernel
theorem dX4_beats_28 : decode cX4_beats 28 = .ok (.ifCond .eq 7, 3) := by decide +kernel
theorem dX4_beats_31 : decode cX4_beats 31 = .ok (.iconst 1, 1) := by decide +kernel
theorem dX4_beats_32 : decode cX4_beats 32 = .ok (.goto 4, 3) := by decide +kernel
theorem dX4_beats_35 : decode cX4_beats 35 = .ok (.iconst 0, 1) := by decide +kernel
theorem dX4_beats_36 : decode cX4_beats 36 = .ok (.ireturn, 1) := by decide +kernel
set_option maxRecDepth 20000 in
theorem ggX4_fromDigits_X11_inside : GoodIn wsX4_fromDigits wsX11_inside := goodIn_r _ [5] (by decide +kernel) (by decide +kernel)
set_option maxRecDepth 20000 in
theorem gX4_fromDigits_X11_inside_n36 : GoodIn wsX4_fromDigits (wsX11_inside) := ggX4_fromDigits_X11_inside
set_option maxRecDepth 20000 in
theorem ggX4_fromDigits_X11_has : GoodIn wsX4_fromDigits wsX11_has := goodIn_r _ [7] (by decide +kernel) (by decide +kernel)
set_option maxRecDepth 20000 in
theorem gX4_fromDigits_X11_has_n40 : GoodIn wsX4_fromDigits (wsX11_has) := ggX4_fromDigits_X11_has
theorem dX4_fromDigits_0 : decode cX4_fromDigits 0 = .ok (.iconst 0, 1) := by decide +kernel
theorem dX4_fromDigits_1 : decode cX4_fromDigits 1 = .ok (.istore_n 2, 1) := by decide +kernel
theorem dX4_fromDigits_2 : decode cX4_fromDigits 2 = .ok (.iload_n 1, 1) := by decide +kernel
theorem dX4_fromDigits_3 : decode cX4_fromDigits 3 = .ok (.istore_n 3, 1) := by decide +kernel
theorem dX4_fromDigits_4 : decode cX4_fromDigits 4 = .ok (.iconst 0, 1) := by decide +kernel
theorem dX4_fromDigits_5 : decode cX4_fromDigits 5 = .ok (.istore 4, 2) := by decide +kernel
theorem dX4_fromDigits_7 : decode cX4_fromDigits 7 = .ok (.iload 4, 2) := by decide +kernel
theorem dX4_fromDigits_9 : decode cX4_fromDigits 9 = .ok (.bipush 6, 2) := by decide +kernel
theorem dX4_fromDigits_11 : decode cX4_fromDigits 11 = .ok (.if_icmp .ge 23, 3) := by decide +kernel
theorem dX4_fromDigits_14 : decode cX4_fromDigits 14 = .ok (.iload_n 3, 1) := by decide +kernel
theorem dX4_fromDigits_15 : decode cX4_fromDigits 15 = .ok (.bipush 9, 2) := by decide +kernel
theorem dX4_fromDigits_17 : decode cX4_fromDigits 17 = .ok (.if_icmp .le 17, 3) := by decide +kernel
theorem dX4_fromDigits_20 : decode cX4_fromDigits 20 = .ok (.iload_n 3, 1) := by decide +kernel
theorem dX4_fromDigits_21 : decode cX4_fromDigits 21 = .ok (.bipush 10, 2) := by decide +kernel
theorem dX4_fromDigits_23 : decode cX4_fromDigits 23 = .ok (.idiv, 1) := by decide +kernel
theorem dX4_fromDigits_24 : decode cX4_fromDigits 24 = .ok (.istore_n 3, 1) := by decide +kernel
theorem dX4_fromDigits_25 : decode cX4_fromDigits 25 = .ok (.iinc 2 1, 3) := by decide +kernel
theorem dX4_fromDigits_28 : decode cX4_fromDigits 28 = .ok (.iinc 4 1, 3) := by decide +kernel
theorem dX4_fromDigits_31 : decode cX4_fromDigits 31 = .ok (.goto (-24), 3) := by decide +kernel
theorem dX4_fromDigits_34 : decode cX4_fromDigits 34 = .ok (.iload_n 3, 1) := by decide +kernel
theorem dX4_fromDigits_35 : decode cX4_fromDigits 35 = .ok (.bipush 9, 2) := by decide +kernel
theorem dX4_fromDigits_37 : decode cX4_fromDigits 37 = .ok (.if_icmp .ne 7, 3) := by decide +kernel
theorem dX4_fromDigits_40 : decode cX4_fromDigits 40 = .ok (.iload_n 2, 1) := by decide +kernel
theorem dX4_fromDigits_41 : decode cX4_fromDigits 41 = .ok (.ifCond .ne 5, 3) := by decide +kernel
theorem dX4_fromDigits_44 : decode cX4_fromDigits 44 = .ok (.iconst 0, 1) := by decide +kernel
theorem dX4_fromDigits_45 : decode cX4_fromDigits 45 = .ok (.ireturn, 1) := by decide +kernel
theorem dX4_fromDigits_46 : decode cX4_fromDigits 46 = .ok (.aload_n 0, 1) := by decide +kernel
theorem dX4_fromDigits_47 : decode cX4_fromDigits 47 = .ok (.iload_n 2, 1) := by decide +kernel
theorem dX4_fromDigits_48 : decode cX4_fromDigits 48 = .ok (.putfield 65, 3) := by decide +kernel
theorem dX4_fromDigits_51 : decode cX4_fromDigits 51 = .ok (.iconst 0, 1) := by decide +kernel
theorem dX4_fromDigits_52 : decode cX4_fromDigits 52 = .ok (.istore 4, 2) := by decide +kernel
theorem dX4_fromDigits_54 : decode cX4_fromDigits 54 = .ok (.iload_n 1, 1) := by decide +kernel
theorem dX4_fromDigits_55 : decode cX4_fromDigits 55 = .ok (.istore 5, 2) := by decide +kernel
theorem dX4_fromDigits_57 : decode cX4_fromDigits 57 = .ok (.iload_n 2, 1) := by decide +kernel
theorem dX4_fromDigits_58 : decode cX4_fromDigits 58 = .ok (.iconst 1, 1) := by decide +kernel
theorem dX4_fromDigits_59 : decode cX4_fromDigits 59 = .ok (.isub, 1) := by decide +kernel
theorem dX4_fromDigits_60 : decode cX4_fromDigits 60 = .ok (.istore 6, 2) := by decide +kernel
theorem dX4_fromDigits_62 : decode cX4_fromDigits 62 = .ok (.iload 6, 2) := by decide +kernel
theorem dX4_fromDigits_64 : decode cX4_fromDigits 64 = .ok (.ifCond .lt 70, 3) := by decide +kernel
theorem dX4_fromDigits_67 : decode cX4_fromDigits 67 = .ok (.iload 6, 2) := by decide +kernel
theorem dX4_fromDigits_69 : decode cX4_fromDigits 69 = .ok (.bipush 6, 2) := by decide +kernel
theorem dX4_fromDigits_71 : decode cX4_fromDigits 71 = .ok (.if_icmp .ge 63, 3) := by decide +kernel
theorem dX4_fromDigits_74 : decode cX4_fromDigits 74 = .ok (.iload 5, 2) := by decide +kernel
theorem dX4_fromDigits_76 : decode cX4_fromDigits 76 = .ok (.bipush 10, 2) := by decide +kernel
theorem dX4_fromDigits_78 : decode cX4_fromDigits 78 = .ok (.irem, 1) := by decide +kernel
theorem dX4_fromDigits_79 : decode cX4_fromDigits 79 = .ok (.istore 7, 2) := by decide +kernel
theorem dX4_fromDigits_81 : decode cX4_fromDigits 81 = .ok (.iload 5, 2) := by decide +kernel
theorem dX4_fromDigits_83 : decode cX4_fromDigits 83 = .ok (.bipush 10, 2) := by decide +kernel
theorem dX4_fromDigits_85 : decode cX4_fromDigits 85 = .ok (.idiv, 1) := by decide +kernel
theorem dX4_fromDigits_86 : decode cX4_fromDigits 86 = .ok (.istore 5, 2) := by decide +kernel
theorem dX4_fromDigits_88 : decode cX4_fromDigits 88 = .ok (.iload 7, 2) := by decide +kernel
theorem dX4_fromDigits_90 : decode cX4_fromDigits 90 = .ok (.bipush 6, 2) := by decide +kernel
theorem dX4_fromDigits_92 : decode cX4_fromDigits 92 = .ok (.invokestatic 36, 3) := by decide +kernel
theorem dX4_fromDigits_95 : decode cX4_fromDigits 95 = .ok (.ifCond .eq 13, 3) := by decide +kernel
theorem dX4_fromDigits_98 : decode cX4_fromDigits 98 = .ok (.iload 4, 2) := by decide +kernel
theorem dX4_fromDigits_100 : decode cX4_fromDigits 100 = .ok (.iload 7, 2) := by decide +kernel
theorem dX4_fromDigits_102 : decode cX4_fromDigits 102 = .ok (.invokestatic 40, 3) := by decide +kernel
theorem dX4_fromDigits_105 : decode cX4_fromDigits 105 = .ok (.ifCond .eq 5, 3) := by decide +kernel
theorem dX4_fromDigits_108 : decode cX4_fromDigits 108 = .ok (.iconst 0, 1) := by decide +kernel
theorem dX4_fromDigits_109 : decode cX4_fromDigits 109 = .ok (.ireturn, 1) := by decide +kernel
theorem dX4_fromDigits_110 : decode cX4_fromDigits 110 = .ok (.iload 4, 2) := by decide +kernel
theorem dX4_fromDigits_112 : decode cX4_fromDigits 112 = .ok (.iconst 1, 1) := by decide +kernel
theorem dX4_fromDigits_113 : decode cX4_fromDigits 113 = .ok (.iload 7, 2) := by decide +kernel
theorem dX4_fromDigits_115 : decode cX4_fromDigits 115 = .ok (.ishl, 1) := by decide +kernel
theorem dX4_fromDigits_116 : decode cX4_fromDigits 116 = .ok (.ior, 1) := by decide +kernel
theorem dX4_fromDigits_117 : decode cX4_fromDigits 117 = .ok (.istore 4, 2) := by decide +kernel
theorem dX4_fromDigits_119 : decode cX4_fromDigits 119 = .ok (.aload_n 0, 1) := by decide +kernel
theorem dX4_fromDigits_120 : decode cX4_fromDigits 120 = .ok (.getfield 27, 3) := by decide +kernel
theorem dX4_fromDigits_123 : decode cX4_fromDigits 123 = .ok (.iload 6, 2) := by decide +kernel
theorem dX4_fromDigits_125 : decode cX4_fromDigits 125 = .ok (.iload 7, 2) := by decide +kernel
theorem dX4_fromDigits_127 : decode cX4_fromDigits 127 = .ok (.iastore, 1) := by decide +kernel
theorem dX4_fromDigits_128 : decode cX4_fromDigits 128 = .ok (.iinc 6 (-1), 3) := by decide +kernel
theorem dX4_fromDigits_131 : decode cX4_fromDigits 131 = .ok (.goto (-69), 3) := by decide +kernel
theorem dX4_fromDigits_134 : decode cX4_fromDigits 134 = .ok (.iconst 1, 1) := by decide +kernel
theorem dX4_fromDigits_135 : decode cX4_fromDigits 135 = .ok (.ireturn, 1) := by decide +kernel
theorem dX4_toDigits_0 : decode cX4_toDigits 0 = .ok (.bipush 9, 2) := by decide +kernel
theorem dX4_toDigits_2 : decode cX4_toDigits 2 = .ok (.istore_n 1, 1) := by decide +kernel
theorem dX4_toDigits_3 : decode cX4_toDigits 3 = .ok (.iconst 0, 1) := by decide +kernel
theorem dX4_toDigits_4 : decode cX4_toDigits 4 = .ok (.istore_n 2, 1) := by decide +kernel
theorem dX4_toDigits_5 : decode cX4_toDigits 5 = .ok (.iload_n 2, 1) := by decide +kernel
theorem dX4_toDigits_6 : decode cX4_toDigits 6 = .ok (.aload_n 0, 1) := by decide +kernel
theorem dX4_toDigits_7 : decode cX4_toDigits 7 = .ok (.getfield 65, 3) := by decide +kernel
theorem dX4_toDigits_10 : decode cX4_toDigits 10 = .ok (.if_icmp .ge 27, 3) := by decide +kernel
theorem dX4_toDigits_13 : decode cX4_toDigits 13 = .ok (.iload_n 2, 1) := by decide +kernel
theorem dX4_toDigits_14 : decode cX4_toDigits 14 = .ok (.bipush 6, 2) := by decide +kernel
theorem dX4_toDigits_16 : decode cX4_toDigits 16 = .ok (.if_icmp .ge 21, 3) := by decide +kernel
theorem dX4_toDigits_19 : decode cX4_toDigits 19 = .ok (.iload_n 1, 1) := by decide +kernel
theorem dX4_toDigits_20 : decode cX4_toDigits 20 = .ok (.bipush 10, 2) := by decide +kernel
theorem dX4_toDigits_22 : decode cX4_toDigits 22 = .ok (.imul, 1) := by decide +kernel
theorem dX4_toDigits_23 : decode cX4_toDigits 23 = .ok (.aload_n 0, 1) := by decide +kernel
theorem dX4_toDigits_24 : decode cX4_toDigits 24 = .ok (.getfield 27, 3) := by decide +kernel
theorem dX4_toDigits_27 : decode cX4_toDigits 27 = .ok (.iload_n 2, 1) := by decide +kernel
theorem dX4_toDigits_28 : decode cX4_toDigits 28 = .ok (.iaload, 1) := by decide +kernel
theorem dX4_toDigits_29 : decode cX4_toDigits 29 = .ok (.iadd, 1) := by decide +kernel
theorem dX4_toDigits_30 : decode cX4_toDigits 30 = .ok (.istore_n 1, 1) := by decide +kernel
theorem dX4_toDigits_31 : decode cX4_toDigits 31 = .ok (.iinc 2 1, 3) := by decide +kernel
theorem dX4_toDigits_34 : decode cX4_toDigits 34 = .ok (.goto (-29), 3) := by decide +kernel
theorem dX4_toDigits_37 : decode cX4_toDigits 37 = .ok (.iload_n 1, 1) := by decide +kernel
theorem dX4_toDigits_38 : decode cX4_toDigits 38 = .ok (.ireturn, 1) := by decide +kernel
set_option maxRecDepth 20000 in
theorem ggX4_outcome_X4_foreseen : GoodIn wsX4_outcome wsX4_foreseen := goodIn_r _ [5, 6, 7, 8, 9, 10, 4, 11, 12, 13, 14, 15, 16, 17, 18, 19, 20, 21, 22, 27, 28, 29, 30, 31, 32, 33] (by decide +kernel) (by decide +kernel)
set_option maxRecDepth 20000 in
theorem gX4_outcome_X4_foreseen : GoodIn wsX4_outcome (wsV RX4 68 RX4 yX4_foreseen wsX4_foreseen) := goodIn_app (goodIn_of _ (by decide +kernel)) ggX4_outcome_X4_foreseen
set_option maxRecDepth 20000 in
theorem ggX4_outcome_X4_sincere : GoodIn wsX4_outcome wsX4_sincere := goodIn_r _ [26, 12, 7, 16, 17, 18, 4, 19, 20, 13, 14, 15, 21, 22, 27, 28, 29, 30, 31, 32, 33] (by decide +kernel) (by decide +kernel)
set_option maxRecDepth 20000 in
theorem gX4_outcome_X4_sincere : GoodIn wsX4_outcome (wsV RX4 72 RX4 yX4_sincere wsX4_sincere) := goodIn_app (goodIn_of _ (by decide +kernel)) ggX4_outcome_X4_sincere
theorem dX4_outcome_0 : decode cX4_outcome 0 = .ok (.iload_n 1, 1) := by decide +kernel
theorem dX4_outcome_1 : decode cX4_outcome 1 = .ok (.ifCond .eq 10, 3) := by decide +kernel
theorem dX4_outcome_4 : decode cX4_outcome 4 = .ok (.aload_n 0, 1) := by decide +kernel
theorem dX4_outcome_5 : decode cX4_outcome 5 = .ok (.invokevirtual 68, 3) := by decide +kernel
theorem dX4_outcome_8 : decode cX4_outcome 8 = .ok (.goto 7, 3) := by decide +kernel
theorem dX4_outcome_11 : decode cX4_outcome 11 = .ok (.aload_n 0, 1) := by decide +kernel
theorem dX4_outcome_12 : decode cX4_outcome 12 = .ok (.invokevirtual 72, 3) := by decide +kernel
theorem dX4_outcome_15 : decode cX4_outcome 15 = .ok (.ireturn, 1) := by decide +kernel
set_option maxRecDepth 20000 in
theorem ggX4_sincere_X4_beats : GoodIn wsX4_sincere wsX4_beats := goodIn_r _ [7, 8, 9, 10, 11, 12, 13, 14, 15, 16, 17, 18, 19, 20] (by decide +kernel) (by decide +kernel)
set_option maxRecDepth 20000 in
theorem gX4_sincere_X4_beats : GoodIn wsX4_sincere (wsV RX4 75 RX4 yX4_beats wsX4_beats) := goodIn_app (goodIn_of _ (by decide +kernel)) ggX4_sincere_X4_beats
theorem dX4_sincere_0 : decode cX4_sincere 0 = .ok (.aload_n 0, 1) := by decide +kernel
theorem dX4_sincere_1 : decode cX4_sincere 1 = .ok (.getfield 27, 3) := by decide +kernel
theorem dX4_sincere_4 : decode cX4_sincere 4 = .ok (.iconst 0, 1) := by decide +kernel
theorem dX4_sincere_5 : decode cX4_sincere 5 = .ok (.iaload, 1) := by decide +kernel
theorem dX4_sincere_6 : decode cX4_sincere 6 = .ok (.istore_n 1, 1) := by decide +kernel
theorem dX4_sincere_7 : decode cX4_sincere 7 = .ok (.iconst 1, 1) := by decide +kernel
theorem dX4_sincere_8 : decode cX4_sincere 8 = .ok (.istore_n 2, 1) := by decide +kernel
theorem dX4_sincere_9 : decode cX4_sincere 9 = .ok (.iload_n 2, 1) := by decide +kernel
theorem dX4_sincere_10 : decode cX4_sincere 10 = .ok (.aload_n 0, 1) := by decide +kernel
theorem dX4_sincere_11 : decode cX4_sincere 11 = .ok (.getfield 65, 3) := by decide +kernel
theorem dX4_sincere_14 : decode cX4_sincere 14 = .ok (.if_icmp .ge 36, 3) := by decide +kernel
theorem dX4_sincere_17 : decode cX4_sincere 17 = .ok (.iload_n 2, 1) := by decide +kernel
theorem dX4_sincere_18 : decode cX4_sincere 18 = .ok (.bipush 6, 2) := by decide +kernel
theorem dX4_sincere_20 : decode cX4_sincere 20 = .ok (.if_icmp .ge 30, 3) := by decide +kernel
theorem dX4_sincere_23 : decode cX4_sincere 23 = .ok (.aload_n 0, 1) := by decide +kernel
theorem dX4_sincere_24 : decode cX4_sincere 24 = .ok (.aload_n 0, 1) := by decide +kernel
theorem dX4_sincere_25 : decode cX4_sincere 25 = .ok (.getfield 27, 3) := by decide +kernel
theorem dX4_sincere_28 : decode cX4_sincere 28 = .ok (.iload_n 2, 1) := by decide +kernel
theorem dX4_sincere_29 : decode cX4_sincere 29 = .ok (.iaload, 1) := by decide +kernel
theorem dX4_sincere_30 : decode cX4_sincere 30 = .ok (.iload_n 1, 1) := by decide +kernel
theorem dX4_sincere_31 : decode cX4_sincere 31 = .ok (.invokevirtual 75, 3) := by decide +kernel
theorem dX4_sincere_34 : decode cX4_sincere 34 = .ok (.ifCond .eq 10, 3) := by decide +kernel
theorem dX4_sincere_37 : decode cX4_sincere 37 = .ok (.aload_n 0, 1) := by decide +kernel
theorem dX4_sincere_38 : decode cX4_sincere 38 = .ok (.getfield 27, 3) := by decide +kernel
theorem dX4_sincere_41 : decode cX4_sincere 41 = .ok (.iload_n 2, 1) := by decide +kernel
theorem dX4_sincere_42 : decode cX4_sincere 42 = .ok (.iaload, 1) := by decide +kernel
theorem dX4_sincere_43 : decode cX4_sincere 43 = .ok (.istore_n 1, 1) := by decide +kernel
theorem dX4_sincere_44 : decode cX4_sincere 44 = .ok (.iinc 2 1, 3) := by decide +kernel
theorem dX4_sincere_47 : decode cX4_sincere 47 = .ok (.goto (-38), 3) := by decide +kernel
theorem dX4_sincere_50 : decode cX4_sincere 50 = .ok (.iload_n 1, 1) := by decide +kernel
theorem dX4_sincere_51 : decode cX4_sincere 51 = .ok (.ireturn, 1) := by decide +kernel
set_option maxRecDepth 20000 in
theorem ggX4_foreseen_X4_leadOf : GoodIn wsX4_foreseen wsX4_leadOf := goodIn_r _ [7, 8, 1, 9, 10, 11, 19, 20, 21, 22, 23, 24, 25] (by decide +kernel) (by decide +kernel)
set_option maxRecDepth 20000 in
theorem gX4_foreseen_X4_leadOf : GoodIn wsX4_foreseen (wsV RX4 78 RX4 yX4_leadOf wsX4_leadOf) := goodIn_app (goodIn_of _ (by decide +kernel)) ggX4_foreseen_X4_leadOf
set_option maxRecDepth 20000 in
theorem ggX4_foreseen_X4_beats : GoodIn wsX4_foreseen wsX4_beats := goodIn_r _ [15, 16, 9, 10, 11, 17, 18, 19, 20, 21, 22, 23, 24, 25] (by decide +kernel) (by decide +kernel)
set_option maxRecDepth 20000 in
theorem gX4_foreseen_X4_beats : GoodIn wsX4_foreseen (wsV RX4 75 RX4 yX4_beats wsX4_beats) := goodIn_app (goodIn_of _ (by decide +kernel)) ggX4_foreseen_X4_beats
theorem dX4_foreseen_0 : decode cX4_foreseen 0 = .ok (.iconst 0, 1) := by decide +kernel
theorem dX4_foreseen_1 : decode cX4_foreseen 1 = .ok (.istore_n 1, 1) := by decide +kernel
theorem dX4_foreseen_2 : decode cX4_foreseen 2 = .ok (.iload_n 1, 1) := by decide +kernel
theorem dX4_foreseen_3 : decode cX4_foreseen 3 = .ok (.bipush 6, 2) := by decide +kernel
theorem dX4_foreseen_5 : decode cX4_foreseen 5 = .ok (.if_icmp .ge 16, 3) := by decide +kernel
theorem dX4_foreseen_8 : decode cX4_foreseen 8 = .ok (.aload_n 0, 1) := by decide +kernel
theorem dX4_foreseen_9 : decode cX4_foreseen 9 = .ok (.getfield 24, 3) := by decide +kernel
theorem dX4_foreseen_12 : decode cX4_foreseen 12 = .ok (.iload_n 1, 1) := by decide +kernel
theorem dX4_foreseen_13 : decode cX4_foreseen 13 = .ok (.iload_n 1, 1) := by decide +kernel
theorem dX4_foreseen_14 : decode cX4_foreseen 14 = .ok (.iastore, 1) := by decide +kernel
theorem dX4_foreseen_15 : decode cX4_foreseen 15 = .ok (.iinc 1 1, 3) := by decide +kernel
theorem dX4_foreseen_18 : decode cX4_foreseen 18 = .ok (.goto (-16), 3) := by decide +kernel
theorem dX4_foreseen_21 : decode cX4_foreseen 21 = .ok (.aload_n 0, 1) := by decide +kernel
theorem dX4_foreseen_22 : decode cX4_foreseen 22 = .ok (.getfield 65, 3) := by decide +kernel
theorem dX4_foreseen_25 : decode cX4_foreseen 25 = .ok (.iconst 1, 1) := by decide +kernel
theorem dX4_foreseen_26 : decode cX4_foreseen 26 = .ok (.isub, 1) := by decide +kernel
theorem dX4_foreseen_27 : decode cX4_foreseen 27 = .ok (.istore_n 1, 1) := by decide +kernel
theorem dX4_foreseen_28 : decode cX4_foreseen 28 = .ok (.iload_n 1, 1) := by decide +kernel
theorem dX4_foreseen_29 : decode cX4_foreseen 29 = .ok (.iconst 1, 1) := by decide +kernel
theorem dX4_foreseen_30 : decode cX4_foreseen 30 = .ok (.if_icmp .lt 50, 3) := by decide +kernel
theorem dX4_foreseen_33 : decode cX4_foreseen 33 = .ok (.aload_n 0, 1) := by decide +kernel
theorem dX4_foreseen_34 : decode cX4_foreseen 34 = .ok (.iload_n 1, 1) := by decide +kernel
theorem dX4_foreseen_35 : decode cX4_foreseen 35 = .ok (.invokevirtual 78, 3) := by decide +kernel
theorem dX4_foreseen_38 : decode cX4_foreseen 38 = .ok (.istore_n 2, 1) := by decide +kernel
theorem dX4_foreseen_39 : decode cX4_foreseen 39 = .ok (.iconst 0, 1) := by decide +kernel
theorem dX4_foreseen_40 : decode cX4_foreseen 40 = .ok (.istore_n 3, 1) := by decide +kernel
theorem dX4_foreseen_41 : decode cX4_foreseen 41 = .ok (.iload_n 3, 1) := by decide +kernel
theorem dX4_foreseen_42 : decode cX4_foreseen 42 = .ok (.bipush 6, 2) := by decide +kernel
theorem dX4_foreseen_44 : decode cX4_foreseen 44 = .ok (.if_icmp .ge 30, 3) := by decide +kernel
theorem dX4_foreseen_47 : decode cX4_foreseen 47 = .ok (.aload_n 0, 1) := by decide +kernel
theorem dX4_foreseen_48 : decode cX4_foreseen 48 = .ok (.iload_n 2, 1) := by decide +kernel
theorem dX4_foreseen_49 : decode cX4_foreseen 49 = .ok (.aload_n 0, 1) := by decide +kernel
theorem dX4_foreseen_50 : decode cX4_foreseen 50 = .ok (.getfield 24, 3) := by decide +kernel
theorem dX4_foreseen_53 : decode cX4_foreseen 53 = .ok (.iload_n 3, 1) := by decide +kernel
theorem dX4_foreseen_54 : decode cX4_foreseen 54 = .ok (.iaload, 1) := by decide +kernel
theorem dX4_foreseen_55 : decode cX4_foreseen 55 = .ok (.invokevirtual 75, 3) := by decide +kernel
theorem dX4_foreseen_58 : decode cX4_foreseen 58 = .ok (.ifCond .eq 10, 3) := by decide +kernel
theorem dX4_foreseen_61 : decode cX4_foreseen 61 = .ok (.aload_n 0, 1) := by decide +kernel
theorem dX4_foreseen_62 : decode cX4_foreseen 62 = .ok (.getfield 24, 3) := by decide +kernel
theorem dX4_foreseen_65 : decode cX4_foreseen 65 = .ok (.iload_n 3, 1) := by decide +kernel
theorem dX4_foreseen_66 : decode cX4_foreseen 66 = .ok (.iload_n 2, 1) := by decide +kernel
theorem dX4_foreseen_67 : decode cX4_foreseen 67 = .ok (.iastore, 1) := by decide +kernel
theorem dX4_foreseen_68 : decode cX4_foreseen 68 = .ok (.iinc 3 1, 3) := by decide +kernel
theorem dX4_foreseen_71 : decode cX4_foreseen 71 = .ok (.goto (-30), 3) := by decide +kernel
theorem dX4_foreseen_74 : decode cX4_foreseen 74 = .ok (.iinc 1 (-1), 3) := by decide +kernel
theorem dX4_foreseen_77 : decode cX4_foreseen 77 = .ok (.goto (-49), 3) := by decide +kernel
theorem dX4_foreseen_80 : decode cX4_foreseen 80 = .ok (.aload_n 0, 1) := by decide +kernel
theorem dX4_foreseen_81 : decode cX4_foreseen 81 = .ok (.iconst 0, 1) := by decide +kernel
theorem dX4_foreseen_82 : decode cX4_foreseen 82 = .ok (.invokevirtual 78, 3) := by decide +kernel
theorem dX4_foreseen_85 : decode cX4_foreseen 85 = .ok (.ireturn, 1) := by decide +kernel
set_option maxRecDepth 20000 in
theorem ggX4_leadOf_X11_inside : GoodIn wsX4_leadOf wsX11_inside := goodIn_r _ [5] (by decide +kernel) (by decide +kernel)
set_option maxRecDepth 20000 in
theorem gX4_leadOf_X11_inside_n36 : GoodIn wsX4_leadOf (wsX11_inside) := ggX4_leadOf_X11_inside
theorem dX4_leadOf_0 : decode cX4_leadOf 0 = .ok (.iload_n 1, 1) := by decide +kernel
theorem dX4_leadOf_1 : decode cX4_leadOf 1 = .ok (.bipush 6, 2) := by decide +kernel
theorem dX4_leadOf_3 : decode cX4_leadOf 3 = .ok (.invokestatic 36, 3) := by decide +kernel
theorem dX4_leadOf_6 : decode cX4_leadOf 6 = .ok (.ifCond .eq 31, 3) := by decide +kernel
theorem dX4_leadOf_9 : decode cX4_leadOf 9 = .ok (.aload_n 0, 1) := by decide +kernel
theorem dX4_leadOf_10 : decode cX4_leadOf 10 = .ok (.getfield 27, 3) := by decide +kernel
theorem dX4_leadOf_13 : decode cX4_leadOf 13 = .ok (.iload_n 1, 1) := by decide +kernel
theorem dX4_leadOf_14 : decode cX4_leadOf 14 = .ok (.iaload, 1) := by decide +kernel
theorem dX4_leadOf_15 : decode cX4_leadOf 15 = .ok (.bipush 6, 2) := by decide +kernel
theorem dX4_leadOf_17 : decode cX4_leadOf 17 = .ok (.invokestatic 36, 3) := by decide +kernel
theorem dX4_leadOf_20 : decode cX4_leadOf 20 = .ok (.ifCond .eq 17, 3) := by decide +kernel
theorem dX4_leadOf_23 : decode cX4_leadOf 23 = .ok (.aload_n 0, 1) := by decide +kernel
theorem dX4_leadOf_24 : decode cX4_leadOf 24 = .ok (.getfield 24, 3) := by decide +kernel
theorem dX4_leadOf_27 : decode cX4_leadOf 27 = .ok (.aload_n 0, 1) := by decide +kernel
theorem dX4_leadOf_28 : decode cX4_leadOf 28 = .ok (.getfield 27, 3) := by decide +kernel
theorem dX4_leadOf_31 : decode cX4_leadOf 31 = .ok (.iload_n 1, 1) := by decide +kernel
theorem dX4_leadOf_32 : decode cX4_leadOf 32 = .ok (.iaload, 1) := by decide +kernel
theorem dX4_leadOf_33 : decode cX4_leadOf 33 = .ok (.iaload, 1) := by decide +kernel
theorem dX4_leadOf_34 : decode cX4_leadOf 34 = .ok (.goto 4, 3) := by decide +kernel
theorem dX4_leadOf_37 : decode cX4_leadOf 37 = .ok (.iconst (-1), 1) := by decide +kernel
theorem dX4_leadOf_38 : decode cX4_leadOf 38 = .ok (.ireturn, 1) := by decide +kernel
set_option maxRecDepth 20000 in
theorem ggX4_ordersFor_X4_firstOrder : GoodIn wsX4_ordersFor wsX4_firstOrder := goodIn_r _ [5, 6, 7, 8, 9, 10, 11, 12, 43, 44, 45, 46, 47, 48, 49] (by decide +kernel) (by decide +kernel)
set_option maxRecDepth 20000 in
theorem gX4_ordersFor_X4_firstOrder : GoodIn wsX4_ordersFor (wsV RX4 82 RX4 yX4_firstOrder wsX4_firstOrder) := goodIn_app (goodIn_of _ (by decide +kernel)) ggX4_ordersFor_X4_firstOrder
set_option maxRecDepth 20000 in
theorem ggX4_ordersFor_X4_outcome : GoodIn wsX4_ordersFor wsX4_outcome := goodIn_r _ [16, 17, 18, 19, 4, 20, 21, 6, 22, 23, 24, 25, 7, 11, 9, 12, 26, 27, 28, 29, 30, 8, 10, 31, 32, 33, 34, 43, 44, 45, 46, 47, 48, 49] (by decide +kernel) (by decide +kernel)
set_option maxRecDepth 20000 in
theorem gX4_ordersFor_X4_outcome : GoodIn wsX4_ordersFor (wsV RX4 86 RX4 yX4_outcome wsX4_outcome) := goodIn_app (goodIn_of _ (by decide +kernel)) ggX4_ordersFor_X4_outcome
set_option maxRecDepth 20000 in
theorem ggX4_ordersFor_X4_nextOrder : GoodIn wsX4_ordersFor wsX4_nextOrder := goodIn_r _ [38, 6, 7, 11, 9, 12, 39, 40, 41, 4, 42, 43, 44, 45, 46, 47, 48, 49] (by decide +kernel) (by decide +kernel)
set_option maxRecDepth 20000 in
theorem gX4_ordersFor_X4_nextOrder : GoodIn wsX4_ordersFor (wsV RX4 90 RX4 yX4_nextOrder wsX4_nextOrder) := goodIn_app (goodIn_of _ (by decide +kernel)) ggX4_ordersFor_X4_nextOrder
theorem dX4_ordersFor_0 : decode cX4_ordersFor 0 = .ok (.iconst 0, 1) := by decide +kernel
theorem dX4_ordersFor_1 : decode cX4_ordersFor 1 = .ok (.istore 4, 2) := by decide +kernel
theorem dX4_ordersFor_3 : decode cX4_ordersFor 3 = .ok (.aload_n 0, 1) := by decide +kernel
theorem dX4_ordersFor_4 : decode cX4_ordersFor 4 = .ok (.iload_n 2, 1) := by decide +kernel
theorem dX4_ordersFor_5 : decode cX4_ordersFor 5 = .ok (.invokevirtual 82, 3) := by decide +kernel
theorem dX4_ordersFor_8 : decode cX4_ordersFor 8 = .ok (.istore 5, 2) := by decide +kernel
theorem dX4_ordersFor_10 : decode cX4_ordersFor 10 = .ok (.iconst 0, 1) := by decide +kernel
theorem dX4_ordersFor_11 : decode cX4_ordersFor 11 = .ok (.istore 6, 2) := by decide +kernel
theorem dX4_ordersFor_13 : decode cX4_ordersFor 13 = .ok (.iload 6, 2) := by decide +kernel
theorem dX4_ordersFor_15 : decode cX4_ordersFor 15 = .ok (.sipush 720, 3) := by decide +kernel
theorem dX4_ordersFor_18 : decode cX4_ordersFor 18 = .ok (.if_icmp .ge 32, 3) := by decide +kernel
theorem dX4_ordersFor_21 : decode cX4_ordersFor 21 = .ok (.iload 5, 2) := by decide +kernel
theorem dX4_ordersFor_23 : decode cX4_ordersFor 23 = .ok (.ifCond .eq 27, 3) := by decide +kernel
theorem dX4_ordersFor_26 : decode cX4_ordersFor 26 = .ok (.aload_n 0, 1) := by decide +kernel
theorem dX4_ordersFor_27 : decode cX4_ordersFor 27 = .ok (.iload_n 3, 1) := by decide +kernel
theorem dX4_ordersFor_28 : decode cX4_ordersFor 28 = .ok (.invokevirtual 86, 3) := by decide +kernel
theorem dX4_ordersFor_31 : decode cX4_ordersFor 31 = .ok (.iload_n 1, 1) := by decide +kernel
theorem dX4_ordersFor_32 : decode cX4_ordersFor 32 = .ok (.if_icmp .ne 6, 3) := by decide +kernel
theorem dX4_ordersFor_35 : decode cX4_ordersFor 35 = .ok (.iinc 4 1, 3) := by decide +kernel
theorem dX4_ordersFor_38 : decode cX4_ordersFor 38 = .ok (.aload_n 0, 1) := by decide +kernel
theorem dX4_ordersFor_39 : decode cX4_ordersFor 39 = .ok (.invokevirtual 90, 3) := by decide +kernel
theorem dX4_ordersFor_42 : decode cX4_ordersFor 42 = .ok (.istore 5, 2) := by decide +kernel
theorem dX4_ordersFor_44 : decode cX4_ordersFor 44 = .ok (.iinc 6 1, 3) := by decide +kernel
theorem dX4_ordersFor_47 : decode cX4_ordersFor 47 = .ok (.goto (-34), 3) := by decide +kernel
theorem dX4_ordersFor_50 : decode cX4_ordersFor 50 = .ok (.iload 4, 2) := by decide +kernel
theorem dX4_ordersFor_52 : decode cX4_ordersFor 52 = .ok (.ireturn, 1) := by decide +kernel
set_option maxRecDepth 20000 in
theorem ggX4_firstFor_X4_firstOrder : GoodIn wsX4_firstFor wsX4_firstOrder := goodIn_r _ [5, 6, 7, 8, 9, 10, 11, 12, 47, 48, 49, 50, 51, 52, 53] (by decide +kernel) (by decide +kernel)
set_option maxRecDepth 20000 in
theorem gX4_firstFor_X4_firstOrder : GoodIn wsX4_firstFor (wsV RX4 82 RX4 yX4_firstOrder wsX4_firstOrder) := goodIn_app (goodIn_of _ (by decide +kernel)) ggX4_firstFor_X4_firstOrder
set_option maxRecDepth 20000 in
theorem ggX4_firstFor_X4_outcome : GoodIn wsX4_firstFor wsX4_outcome := goodIn_r _ [16, 17, 18, 19, 4, 20, 21, 6, 22, 23, 24, 25, 7, 11, 9, 12, 26, 27, 28, 29, 30, 8, 10, 31, 32, 33, 34, 47, 48, 49, 50, 51, 52, 53] (by decide +kernel) (by decide +kernel)
set_option maxRecDepth 20000 in
theorem gX4_firstFor_X4_outcome : GoodIn wsX4_firstFor (wsV RX4 86 RX4 yX4_outcome wsX4_outcome) := goodIn_app (goodIn_of _ (by decide +kernel)) ggX4_firstFor_X4_outcome
set_option maxRecDepth 20000 in
theorem ggX4_firstFor_X4_toDigits : GoodIn wsX4_firstFor wsX4_toDigits := goodIn_r _ [38, 6, 7, 47, 48, 49, 50, 51, 52, 53] (by decide +kernel) (by decide +kernel)
set_option maxRecDepth 20000 in
theorem gX4_firstFor_X4_toDigits : GoodIn wsX4_firstFor (wsV RX4 94 RX4 yX4_toDigits wsX4_toDigits) := goodIn_app (goodIn_of _ (by decide +kernel)) ggX4_firstFor_X4_toDigits
set_option maxRecDepth 20000 in
theorem ggX4_firstFor_X4_nextOrder : GoodIn wsX4_firstFor wsX4_nextOrder := goodIn_r _ [42, 6, 7, 11, 9, 12, 43, 44, 45, 4, 46, 47, 48, 49, 50, 51, 52, 53] (by decide +kernel) (by decide +kernel)
set_option maxRecDepth 20000 in
theorem gX4_firstFor_X4_nextOrder : GoodIn wsX4_firstFor (wsV RX4 90 RX4 yX4_nextOrder wsX4_nextOrder) := goodIn_app (goodIn_of _ (by decide +kernel)) ggX4_firstFor_X4_nextOrder
theorem dX4_firstFor_0 : decode cX4_firstFor 0 = .ok (.aload_n 0, 1) := by decide +kernel
theorem dX4_firstFor_1 : decode cX4_firstFor 1 = .ok (.iload_n 2, 1) := by decide +kernel
theorem dX4_firstFor_2 : decode cX4_firstFor 2 = .ok (.invokevirtual 82, 3) := by decide +kernel
theorem dX4_firstFor_5 : decode cX4_firstFor 5 = .ok (.istore 4, 2) := by decide +kernel
theorem dX4_firstFor_7 : decode cX4_firstFor 7 = .ok (.iconst 0, 1) := by decide +kernel
theorem dX4_firstFor_8 : decode cX4_firstFor 8 = .ok (.istore 5, 2) := by decide +kernel
theorem dX4_firstFor_10 : decode cX4_firstFor 10 = .ok (.iload 5, 2) := by decide +kernel
theorem dX4_firstFor_12 : decode cX4_firstFor 12 = .ok (.sipush 720, 3) := by decide +kernel
theorem dX4_firstFor_15 : decode cX4_firstFor 15 = .ok (.if_icmp .ge 34, 3) := by decide +kernel
theorem dX4_firstFor_18 : decode cX4_firstFor 18 = .ok (.iload 4, 2) := by decide +kernel
theorem dX4_firstFor_20 : decode cX4_firstFor 20 = .ok (.ifCond .eq 29, 3) := by decide +kernel
theorem dX4_firstFor_23 : decode cX4_firstFor 23 = .ok (.aload_n 0, 1) := by decide +kernel
theorem dX4_firstFor_24 : decode cX4_firstFor 24 = .ok (.iload_n 3, 1) := by decide +kernel
theorem dX4_firstFor_25 : decode cX4_firstFor 25 = .ok (.invokevirtual 86, 3) := by decide +kernel
theorem dX4_firstFor_28 : decode cX4_firstFor 28 = .ok (.iload_n 1, 1) := by decide +kernel
theorem dX4_firstFor_29 : decode cX4_firstFor 29 = .ok (.if_icmp .ne 8, 3) := by decide +kernel
theorem dX4_firstFor_32 : decode cX4_firstFor 32 = .ok (.aload_n 0, 1) := by decide +kernel
theorem dX4_firstFor_33 : decode cX4_firstFor 33 = .ok (.invokevirtual 94, 3) := by decide +kernel
theorem dX4_firstFor_36 : decode cX4_firstFor 36 = .ok (.ireturn, 1) := by decide +kernel
theorem dX4_firstFor_37 : decode cX4_firstFor 37 = .ok (.aload_n 0, 1) := by decide +kernel
theorem dX4_firstFor_38 : decode cX4_firstFor 38 = .ok (.invokevirtual 90, 3) := by decide +kernel
theorem dX4_firstFor_41 : decode cX4_firstFor 41 = .ok (.istore 4, 2) := by decide +kernel
theorem dX4_firstFor_43 : decode cX4_firstFor 43 = .ok (.iinc 5 1, 3) := by decide +kernel
theorem dX4_firstFor_46 : decode cX4_firstFor 46 = .ok (.goto (-36), 3) := by decide +kernel
theorem dX4_firstFor_49 : decode cX4_firstFor 49 = .ok (.iconst (-1), 1) := by decide +kernel
theorem dX4_firstFor_50 : decode cX4_firstFor 50 = .ok (.ireturn, 1) := by decide +kernel
set_option maxRecDepth 20000 in
theorem ggX4_firstOrder_X11_has : GoodIn wsX4_firstOrder wsX11_has := goodIn_r _ [5] (by decide +kernel) (by decide +kernel)
set_option maxRecDepth 20000 in
theorem gX4_firstOrder_X11_has_n40 : GoodIn wsX4_firstOrder (wsX11_has) := ggX4_firstOrder_X11_has
set_option maxRecDepth 20000 in
theorem ggX4_firstOrder_X11_inside : GoodIn wsX4_firstOrder wsX11_inside := goodIn_r _ [7] (by decide +kernel) (by decide +kernel)
set_option maxRecDepth 20000 in
theorem gX4_firstOrder_X11_inside_n36 : GoodIn wsX4_firstOrder (wsX11_inside) := ggX4_firstOrder_X11_inside
theorem dX4_firstOrder_0 : decode cX4_firstOrder 0 = .ok (.aload_n 0, 1) := by decide +kernel
theorem dX4_firstOrder_1 : decode cX4_firstOrder 1 = .ok (.iconst 0, 1) := by decide +kernel
theorem dX4_firstOrder_2 : decode cX4_firstOrder 2 = .ok (.putfield 65, 3) := by decide +kernel
theorem dX4_firstOrder_5 : decode cX4_firstOrder 5 = .ok (.iconst 0, 1) := by decide +kernel
theorem dX4_firstOrder_6 : decode cX4_firstOrder 6 = .ok (.istore_n 2, 1) := by decide +kernel
theorem dX4_firstOrder_7 : decode cX4_firstOrder 7 = .ok (.iload_n 2, 1) := by decide +kernel
theorem dX4_firstOrder_8 : decode cX4_firstOrder 8 = .ok (.bipush 6, 2) := by decide +kernel
theorem dX4_firstOrder_10 : decode cX4_firstOrder 10 = .ok (.if_icmp .ge 49, 3) := by decide +kernel
theorem dX4_firstOrder_13 : decode cX4_firstOrder 13 = .ok (.iload_n 1, 1) := by decide +kernel
theorem dX4_firstOrder_14 : decode cX4_firstOrder 14 = .ok (.iload_n 2, 1) := by decide +kernel
theorem dX4_firstOrder_15 : decode cX4_firstOrder 15 = .ok (.invokestatic 40, 3) := by decide +kernel
theorem dX4_firstOrder_18 : decode cX4_firstOrder 18 = .ok (.ifCond .eq 35, 3) := by decide +kernel
theorem dX4_firstOrder_21 : decode cX4_firstOrder 21 = .ok (.aload_n 0, 1) := by decide +kernel
theorem dX4_firstOrder_22 : decode cX4_firstOrder 22 = .ok (.getfield 65, 3) := by decide +kernel
theorem dX4_firstOrder_25 : decode cX4_firstOrder 25 = .ok (.bipush 6, 2) := by decide +kernel
theorem dX4_firstOrder_27 : decode cX4_firstOrder 27 = .ok (.invokestatic 36, 3) := by decide +kernel
theorem dX4_firstOrder_30 : decode cX4_firstOrder 30 = .ok (.ifCond .eq 23, 3) := by decide +kernel
theorem dX4_firstOrder_33 : decode cX4_firstOrder 33 = .ok (.aload_n 0, 1) := by decide +kernel
theorem dX4_firstOrder_34 : decode cX4_firstOrder 34 = .ok (.getfield 27, 3) := by decide +kernel
theorem dX4_firstOrder_37 : decode cX4_firstOrder 37 = .ok (.aload_n 0, 1) := by decide +kernel
theorem dX4_firstOrder_38 : decode cX4_firstOrder 38 = .ok (.getfield 65, 3) := by decide +kernel
theorem dX4_firstOrder_41 : decode cX4_firstOrder 41 = .ok (.iload_n 2, 1) := by decide +kernel
theorem dX4_firstOrder_42 : decode cX4_firstOrder 42 = .ok (.iastore, 1) := by decide +kernel
theorem dX4_firstOrder_43 : decode cX4_firstOrder 43 = .ok (.aload_n 0, 1) := by decide +kernel
theorem dX4_firstOrder_44 : decode cX4_firstOrder 44 = .ok (.dup, 1) := by decide +kernel
theorem dX4_firstOrder_45 : decode cX4_firstOrder 45 = .ok (.getfield 65, 3) := by decide +kernel
theorem dX4_firstOrder_48 : decode cX4_firstOrder 48 = .ok (.iconst 1, 1) := by decide +kernel
theorem dX4_firstOrder_49 : decode cX4_firstOrder 49 = .ok (.iadd, 1) := by decide +kernel
theorem dX4_firstOrder_50 : decode cX4_firstOrder 50 = .ok (.putfield 65, 3) := by decide +kernel
theorem dX4_firstOrder_53 : decode cX4_firstOrder 53 = .ok (.iinc 2 1, 3) := by decide +kernel
theorem dX4_firstOrder_56 : decode cX4_firstOrder 56 = .ok (.goto (-49), 3) := by decide +kernel
theorem dX4_firstOrder_59 : decode cX4_firstOrder 59 = .ok (.aload_n 0, 1) := by decide +kernel
theorem dX4_firstOrder_60 : decode cX4_firstOrder 60 = .ok (.getfield 65, 3) := by decide +kernel
theorem dX4_firstOrder_63 : decode cX4_firstOrder 63 = .ok (.ifCond .le 7, 3) := by decide +kernel
theorem dX4_firstOrder_66 : decode cX4_firstOrder 66 = .ok (.iconst 1, 1) := by decide +kernel
theorem dX4_firstOrder_67 : decode cX4_firstOrder 67 = .ok (.goto 4, 3) := by decide +kernel
theorem dX4_firstOrder_70 : decode cX4_firstOrder 70 = .ok (.iconst 0, 1) := by decide +kernel
theorem dX4_firstOrder_71 : decode cX4_firstOrder 71 = .ok (.ireturn, 1) := by decide +kernel
set_option maxRecDepth 20000 in
theorem ggX4_nextOrder_X11_inside : GoodIn wsX4_nextOrder wsX11_inside := goodIn_r _ [5] (by decide +kernel) (by decide +kernel)
set_option maxRecDepth 20000 in
theorem gX4_nextOrder_X11_inside_n36 : GoodIn wsX4_nextOrder (wsX11_inside) := ggX4_nextOrder_X11_inside
set_option maxRecDepth 20000 in
theorem ggX4_nextOrder_X4_swap : GoodIn wsX4_nextOrder wsX4_swap := goodIn_r _ [10, 2, 3, 4, 5, 11, 12, 13, 14, 15, 16, 17] (by decide +kernel) (by decide +kernel)
set_option maxRecDepth 20000 in
theorem gX4_nextOrder_X4_swap : GoodIn wsX4_nextOrder (wsV RX4 97 RX4 yX4_swap wsX4_swap) := goodIn_app (goodIn_of _ (by decide +kernel)) ggX4_nextOrder_X4_swap
theorem dX4_nextOrder_0 : decode cX4_nextOrder 0 = .ok (.aload_n 0, 1) := by decide +kernel
theorem dX4_nextOrder_1 : decode cX4_nextOrder 1 = .ok (.getfield 65, 3) := by decide +kernel
theorem dX4_nextOrder_4 : decode cX4_nextOrder 4 = .ok (.iconst 1, 1) := by decide +kernel
theorem dX4_nextOrder_5 : decode cX4_nextOrder 5 = .ok (.isub, 1) := by decide +kernel
theorem dX4_nextOrder_6 : decode cX4_nextOrder 6 = .ok (.bipush 6, 2) := by decide +kernel
theorem dX4_nextOrder_8 : decode cX4_nextOrder 8 = .ok (.invokestatic 36, 3) := by decide +kernel
theorem dX4_nextOrder_11 : decode cX4_nextOrder 11 = .ok (.ifCond .ne 5, 3) := by decide +kernel
theorem dX4_nextOrder_14 : decode cX4_nextOrder 14 = .ok (.iconst 0, 1) := by decide +kernel
theorem dX4_nextOrder_15 : decode cX4_nextOrder 15 = .ok (.ireturn, 1) := by decide +kernel
theorem dX4_nextOrder_16 : decode cX4_nextOrder 16 = .ok (.aload_n 0, 1) := by decide +kernel
theorem dX4_nextOrder_17 : decode cX4_nextOrder 17 = .ok (.getfield 65, 3) := by decide +kernel
theorem dX4_nextOrder_20 : decode cX4_nextOrder 20 = .ok (.iconst 2, 1) := by decide +kernel
theorem dX4_nextOrder_21 : decode cX4_nextOrder 21 = .ok (.isub, 1) := by decide +kernel
theorem dX4_nextOrder_22 : decode cX4_nextOrder 22 = .ok (.istore_n 1, 1) := by decide +kernel
theorem dX4_nextOrder_23 : decode cX4_nextOrder 23 = .ok (.iload_n 1, 1) := by decide +kernel
theorem dX4_nextOrder_24 : decode cX4_nextOrder 24 = .ok (.ifCond .lt 26, 3) := by decide +kernel
theorem dX4_nextOrder_27 : decode cX4_nextOrder 27 = .ok (.aload_n 0, 1) := by decide +kernel
theorem dX4_nextOrder_28 : decode cX4_nextOrder 28 = .ok (.getfield 27, 3) := by decide +kernel
theorem dX4_nextOrder_31 : decode cX4_nextOrder 31 = .ok (.iload_n 1, 1) := by decide +kernel
theorem dX4_nextOrder_32 : decode cX4_nextOrder 32 = .ok (.iaload, 1) := by decide +kernel
theorem dX4_nextOrder_33 : decode cX4_nextOrder 33 = .ok (.aload_n 0, 1) := by decide +kernel
theorem dX4_nextOrder_34 : decode cX4_nextOrder 34 = .ok (.getfield 27, 3) := by decide +kernel
theorem dX4_nextOrder_37 : decode cX4_nextOrder 37 = .ok (.iload_n 1, 1) := by decide +kernel
theorem dX4_nextOrder_38 : decode cX4_nextOrder 38 = .ok (.iconst 1, 1) := by decide +kernel
theorem dX4_nextOrder_39 : decode cX4_nextOrder 39 = .ok (.iadd, 1) := by decide +kernel
theorem dX4_nextOrder_40 : decode cX4_nextOrder 40 = .ok (.iaload, 1) := by decide +kernel
theorem dX4_nextOrder_41 : decode cX4_nextOrder 41 = .ok (.if_icmp .le 9, 3) := by decide +kernel
theorem dX4_nextOrder_44 : decode cX4_nextOrder 44 = .ok (.iinc 1 (-1), 3) := by decide +kernel
theorem dX4_nextOrder_47 : decode cX4_nextOrder 47 = .ok (.goto (-24), 3) := by decide +kernel
theorem dX4_nextOrder_50 : decode cX4_nextOrder 50 = .ok (.iload_n 1, 1) := by decide +kernel
theorem dX4_nextOrder_51 : decode cX4_nextOrder 51 = .ok (.ifCond .ge 5, 3) := by decide +kernel
theorem dX4_nextOrder_54 : decode cX4_nextOrder 54 = .ok (.iconst 0, 1) := by decide +kernel
theorem dX4_nextOrder_55 : decode cX4_nextOrder 55 = .ok (.ireturn, 1) := by decide +kernel
theorem dX4_nextOrder_56 : decode cX4_nextOrder 56 = .ok (.aload_n 0, 1) := by decide +kernel
theorem dX4_nextOrder_57 : decode cX4_nextOrder 57 = .ok (.getfield 65, 3) := by decide +kernel
theorem dX4_nextOrder_60 : decode cX4_nextOrder 60 = .ok (.iconst 1, 1) := by decide +kernel
theorem dX4_nextOrder_61 : decode cX4_nextOrder 61 = .ok (.isub, 1) := by decide +kernel
theorem dX4_nextOrder_62 : decode cX4_nextOrder 62 = .ok (.istore_n 2, 1) := by decide +kernel
theorem dX4_nextOrder_63 : decode cX4_nextOrder 63 = .ok (.iload_n 2, 1) := by decide +kernel
theorem dX4_nextOrder_64 : decode cX4_nextOrder 64 = .ok (.iload_n 1, 1) := by decide +kernel
theorem dX4_nextOrder_65 : decode cX4_nextOrder 65 = .ok (.if_icmp .le 24, 3) := by decide +kernel
theorem dX4_nextOrder_68 : decode cX4_nextOrder 68 = .ok (.aload_n 0, 1) := by decide +kernel
theorem dX4_nextOrder_69 : decode cX4_nextOrder 69 = .ok (.getfield 27, 3) := by decide +kernel
theorem dX4_nextOrder_72 : decode cX4_nextOrder 72 = .ok (.iload_n 2, 1) := by decide +kernel
theorem dX4_nextOrder_73 : decode cX4_nextOrder 73 = .ok (.iaload, 1) := by decide +kernel
theorem dX4_nextOrder_74 : decode cX4_nextOrder 74 = .ok (.aload_n 0, 1) := by decide +kernel
theorem dX4_nextOrder_75 : decode cX4_nextOrder 75 = .ok (.getfield 27, 3) := by decide +kernel
theorem dX4_nextOrder_78 : decode cX4_nextOrder 78 = .ok (.iload_n 1, 1) := by decide +kernel
theorem dX4_nextOrder_79 : decode cX4_nextOrder 79 = .ok (.iaload, 1) := by decide +kernel
theorem dX4_nextOrder_80 : decode cX4_nextOrder 80 = .ok (.if_icmp .ge 9, 3) := by decide +kernel
theorem dX4_nextOrder_83 : decode cX4_nextOrder 83 = .ok (.iinc 2 (-1), 3) := by decide +kernel
theorem dX4_nextOrder_86 : decode cX4_nextOrder 86 = .ok (.goto (-23), 3) := by decide +kernel
theorem dX4_nextOrder_89 : decode cX4_nextOrder 89 = .ok (.aload_n 0, 1) := by decide +kernel
theorem dX4_nextOrder_90 : decode cX4_nextOrder 90 = .ok (.iload_n 1, 1) := by decide +kernel
theorem dX4_nextOrder_91 : decode cX4_nextOrder 91 = .ok (.iload_n 2, 1) := by decide +kernel
theorem dX4_nextOrder_92 : decode cX4_nextOrder 92 = .ok (.invokevirtual 97, 3) := by decide +kernel
theorem dX4_nextOrder_95 : decode cX4_nextOrder 95 = .ok (.iload_n 1, 1) := by decide +kernel
theorem dX4_nextOrder_96 : decode cX4_nextOrder 96 = .ok (.iconst 1, 1) := by decide +kernel
theorem dX4_nextOrder_97 : decode cX4_nextOrder 97 = .ok (.iadd, 1) := by decide +kernel
theorem dX4_nextOrder_98 : decode cX4_nextOrder 98 = .ok (.istore_n 3, 1) := by decide +kernel
theorem dX4_nextOrder_99 : decode cX4_nextOrder 99 = .ok (.aload_n 0, 1) := by decide +kernel
theorem dX4_nextOrder_100 : decode cX4_nextOrder 100 = .ok (.getfield 65, 3) := by decide +kernel
theorem dX4_nextOrder_103 : decode cX4_nextOrder 103 = .ok (.iconst 1, 1) := by decide +kernel
theorem dX4_nextOrder_104 : decode cX4_nextOrder 104 = .ok (.isub, 1) := by decide +kernel
theorem dX4_nextOrder_105 : decode cX4_nextOrder 105 = .ok (.istore 4, 2) := by decide +kernel
theorem dX4_nextOrder_107 : decode cX4_nextOrder 107 = .ok (.iload_n 3, 1) := by decide +kernel
theorem dX4_nextOrder_108 : decode cX4_nextOrder 108 = .ok (.iload 4, 2) := by decide +kernel
theorem dX4_nextOrder_110 : decode cX4_nextOrder 110 = .ok (.if_icmp .ge 19, 3) := by decide +kernel
theorem dX4_nextOrder_113 : decode cX4_nextOrder 113 = .ok (.aload_n 0, 1) := by decide +kernel
theorem dX4_nextOrder_114 : decode cX4_nextOrder 114 = .ok (.iload_n 3, 1) := by decide +kernel
theorem dX4_nextOrder_115 : decode cX4_nextOrder 115 = .ok (.iload 4, 2) := by decide +kernel
theorem dX4_nextOrder_117 : decode cX4_nextOrder 117 = .ok (.invokevirtual 97, 3) := by decide +kernel
theorem dX4_nextOrder_120 : decode cX4_nextOrder 120 = .ok (.iinc 3 1, 3) := by decide +kernel
theorem dX4_nextOrder_123 : decode cX4_nextOrder 123 = .ok (.iinc 4 (-1), 3) := by decide +kernel
theorem dX4_nextOrder_126 : decode cX4_nextOrder 126 = .ok (.goto (-19), 3) := by decide +kernel
theorem dX4_nextOrder_129 : decode cX4_nextOrder 129 = .ok (.iconst 1, 1) := by decide +kernel
theorem dX4_nextOrder_130 : decode cX4_nextOrder 130 = .ok (.ireturn, 1) := by decide +kernel
set_option maxRecDepth 20000 in
theorem ggX4_swap_X11_inside : GoodIn wsX4_swap wsX11_inside := goodIn_r _ [4] (by decide +kernel) (by decide +kernel)
set_option maxRecDepth 20000 in
theorem gX4_swap_X11_inside_n36 : GoodIn wsX4_swap (wsX11_inside) := ggX4_swap_X11_inside
theorem dX4_swap_0 : decode cX4_swap 0 = .ok (.iload_n 1, 1) := by decide +kernel
theorem dX4_swap_1 : decode cX4_swap 1 = .ok (.bipush 6, 2) := by decide +kernel
theorem dX4_swap_3 : decode cX4_swap 3 = .ok (.invokestatic 36, 3) := by decide +kernel
theorem dX4_swap_6 : decode cX4_swap 6 = .ok (.ifCond .eq 38, 3) := by decide +kernel
theorem dX4_swap_9 : decode cX4_swap 9 = .ok (.iload_n 2, 1) := by decide +kernel
theorem dX4_swap_10 : decode cX4_swap 10 = .ok (.bipush 6, 2) := by decide +kernel
theorem dX4_swap_12 : decode cX4_swap 12 = .ok (.invokestatic 36, 3) := by decide +kernel
theorem dX4_swap_15 : decode cX4_swap 15 = .ok (.ifCond .eq 29, 3) := by decide +kernel
theorem dX4_swap_18 : decode cX4_swap 18 = .ok (.aload_n 0, 1) := by decide +kernel
theorem dX4_swap_19 : decode cX4_swap 19 = .ok (.getfield 27, 3) := by decide +kernel
theorem dX4_swap_22 : decode cX4_swap 22 = .ok (.iload_n 1, 1) := by decide +kernel
theorem dX4_swap_23 : decode cX4_swap 23 = .ok (.iaload, 1) := by decide +kernel
theorem dX4_swap_24 : decode cX4_swap 24 = .ok (.istore_n 3, 1) := by decide +kernel
theorem dX4_swap_25 : decode cX4_swap 25 = .ok (.aload_n 0, 1) := by decide +kernel
theorem dX4_swap_26 : decode cX4_swap 26 = .ok (.getfield 27, 3) := by decide +kernel
theorem dX4_swap_29 : decode cX4_swap 29 = .ok (.iload_n 1, 1) := by decide +kernel
theorem dX4_swap_30 : decode cX4_swap 30 = .ok (.aload_n 0, 1) := by decide +kernel
theorem dX4_swap_31 : decode cX4_swap 31 = .ok (.getfield 27, 3) := by decide +kernel
theorem dX4_swap_34 : decode cX4_swap 34 = .ok (.iload_n 2, 1) := by decide +kernel
theorem dX4_swap_35 : decode cX4_swap 35 = .ok (.iaload, 1) := by decide +kernel
theorem dX4_swap_36 : decode cX4_swap 36 = .ok (.iastore, 1) := by decide +kernel
theorem dX4_swap_37 : decode cX4_swap 37 = .ok (.aload_n 0, 1) := by decide +kernel
theorem dX4_swap_38 : decode cX4_swap 38 = .ok (.getfield 27, 3) := by decide +kernel
theorem dX4_swap_41 : decode cX4_swap 41 = .ok (.iload_n 2, 1) := by decide +kernel
theorem dX4_swap_42 : decode cX4_swap 42 = .ok (.iload_n 3, 1) := by decide +kernel
theorem dX4_swap_43 : decode cX4_swap 43 = .ok (.iastore, 1) := by decide +kernel
theorem dX4_swap_44 : decode cX4_swap 44 = .ok (.return_, 1) := by decide +kernel
set_option maxRecDepth 20000 in
theorem ggX4_beatsAll_X11_has : GoodIn wsX4_beatsAll wsX11_has := goodIn_r _ [4] (by decide +kernel) (by decide +kernel)
set_option maxRecDepth 20000 in
theorem gX4_beatsAll_X11_has_n40 : GoodIn wsX4_beatsAll (wsX11_has) := ggX4_beatsAll_X11_has
set_option maxRecDepth 20000 in
theorem ggX4_beatsAll_X11_isWithin : GoodIn wsX4_beatsAll wsX11_isWithin := goodIn_r _ [6] (by decide +kernel) (by decide +kernel)
set_option maxRecDepth 20000 in
theorem gX4_beatsAll_X11_isWithin_n101 : GoodIn wsX4_beatsAll (wsX11_isWithin) := ggX4_beatsAll_X11_isWithin
theorem dX4_beatsAll_0 : decode cX4_beatsAll 0 = .ok (.iconst 0, 1) := by decide +kernel
theorem dX4_beatsAll_1 : decode cX4_beatsAll 1 = .ok (.istore_n 2, 1) := by decide +kernel
theorem dX4_beatsAll_2 : decode cX4_beatsAll 2 = .ok (.iload_n 2, 1) := by decide +kernel
theorem dX4_beatsAll_3 : decode cX4_beatsAll 3 = .ok (.bipush 6, 2) := by decide +kernel
theorem dX4_beatsAll_5 : decode cX4_beatsAll 5 = .ok (.if_icmp .ge 38, 3) := by decide +kernel
theorem dX4_beatsAll_8 : decode cX4_beatsAll 8 = .ok (.iload_n 1, 1) := by decide +kernel
theorem dX4_beatsAll_9 : decode cX4_beatsAll 9 = .ok (.iload_n 2, 1) := by decide +kernel
theorem dX4_beatsAll_10 : decode cX4_beatsAll 10 = .ok (.invokestatic 40, 3) := by decide +kernel
theorem dX4_beatsAll_13 : decode cX4_beatsAll 13 = .ok (.ifCond .eq 24, 3) := by decide +kernel
theorem dX4_beatsAll_16 : decode cX4_beatsAll 16 = .ok (.iload_n 1, 1) := by decide +kernel
theorem dX4_beatsAll_17 : decode cX4_beatsAll 17 = .ok (.iconst 1, 1) := by decide +kernel
theorem dX4_beatsAll_18 : decode cX4_beatsAll 18 = .ok (.iload_n 2, 1) := by decide +kernel
theorem dX4_beatsAll_19 : decode cX4_beatsAll 19 = .ok (.ishl, 1) := by decide +kernel
theorem dX4_beatsAll_20 : decode cX4_beatsAll 20 = .ok (.iconst (-1), 1) := by decide +kernel
theorem dX4_beatsAll_21 : decode cX4_beatsAll 21 = .ok (.ixor, 1) := by decide +kernel
theorem dX4_beatsAll_22 : decode cX4_beatsAll 22 = .ok (.iand, 1) := by decide +kernel
theorem dX4_beatsAll_23 : decode cX4_beatsAll 23 = .ok (.aload_n 0, 1) := by decide +kernel
theorem dX4_beatsAll_24 : decode cX4_beatsAll 24 = .ok (.getfield 21, 3) := by decide +kernel
theorem dX4_beatsAll_27 : decode cX4_beatsAll 27 = .ok (.iload_n 2, 1) := by decide +kernel
theorem dX4_beatsAll_28 : decode cX4_beatsAll 28 = .ok (.iaload, 1) := by decide +kernel
theorem dX4_beatsAll_29 : decode cX4_beatsAll 29 = .ok (.invokestatic 101, 3) := by decide +kernel
theorem dX4_beatsAll_32 : decode cX4_beatsAll 32 = .ok (.ifCond .eq 5, 3) := by decide +kernel
theorem dX4_beatsAll_35 : decode cX4_beatsAll 35 = .ok (.iload_n 2, 1) := by decide +kernel
theorem dX4_beatsAll_36 : decode cX4_beatsAll 36 = .ok (.ireturn, 1) := by decide +kernel
theorem dX4_beatsAll_37 : decode cX4_beatsAll 37 = .ok (.iinc 2 1, 3) := by decide +kernel
theorem dX4_beatsAll_40 : decode cX4_beatsAll 40 = .ok (.goto (-38), 3) := by decide +kernel
theorem dX4_beatsAll_43 : decode cX4_beatsAll 43 = .ok (.iconst (-1), 1) := by decide +kernel
theorem dX4_beatsAll_44 : decode cX4_beatsAll 44 = .ok (.ireturn, 1) := by decide +kernel
theorem dX5_init_0 : decode cX5_init 0 = .ok (.aload_n 0, 1) := by decide +kernel
theorem dX5_init_1 : decode cX5_init 1 = .ok (.invokespecial 3, 3) := by decide +kernel
theorem dX5_init_4 : decode cX5_init 4 = .ok (.aload_n 0, 1) := by decide +kernel
theorem dX5_init_5 : decode cX5_init 5 = .ok (.sipush 400, 3) := by decide +kernel
theorem dX5_init_8 : decode cX5_init 8 = .ok (.newarray .int, 2) := by decide +kernel
theorem dX5_init_10 : decode cX5_init 10 = .ok (.putfield 9, 3) := by decide +kernel
theorem dX5_init_13 : decode cX5_init 13 = .ok (.aload_n 0, 1) := by decide +kernel
theorem dX5_init_14 : decode cX5_init 14 = .ok (.sipush 400, 3) := by decide +kernel
theorem dX5_init_17 : decode cX5_init 17 = .ok (.newarray .int, 2) := by decide +kernel
theorem dX5_init_19 : decode cX5_init 19 = .ok (.putfield 15, 3) := by decide +kernel
theorem dX5_init_22 : decode cX5_init 22 = .ok (.aload_n 0, 1) := by decide +kernel
theorem dX5_init_23 : decode cX5_init 23 = .ok (.bipush 40, 2) := by decide +kernel
theorem dX5_init_25 : decode cX5_init 25 = .ok (.newarray .int, 2) := by decide +kernel
theorem dX5_init_27 : decode cX5_init 27 = .ok (.putfield 18, 3) := by decide +kernel
theorem dX5_init_30 : decode cX5_init 30 = .ok (.aload_n 0, 1) := by decide +kernel
theorem dX5_init_31 : decode cX5_init 31 = .ok (.iconst (-1), 1) := by decide +kernel
theorem dX5_init_32 : decode cX5_init 32 = .ok (.putfield 21, 3) := by decide +kernel
theorem dX5_init_35 : decode cX5_init 35 = .ok (.return_, 1) := by decide +kernel
theorem dX5_put_0 : decode cX5_put 0 = .ok (.bipush 24, 2) := by decide +kernel
theorem dX5_put_2 : decode cX5_put 2 = .ok (.istore_n 2, 1) := by decide +kernel
theorem dX5_put_3 : decode cX5_put 3 = .ok (.iload_n 2, 1) := by decide +kernel
theorem dX5_put_4 : decode cX5_put 4 = .ok (.ifCond .lt 45, 3) := by decide +kernel
theorem dX5_put_7 : decode cX5_put 7 = .ok (.aload_n 0, 1) := by decide +kernel
theorem dX5_put_8 : decode cX5_put 8 = .ok (.getfield 25, 3) := by decide +kernel
theorem dX5_put_11 : decode cX5_put 11 = .ok (.sipush 400, 3) := by decide +kernel
theorem dX5_put_14 : decode cX5_put 14 = .ok (.if_icmp .ge 35, 3) := by decide +kernel
theorem dX5_put_17 : decode cX5_put 17 = .ok (.aload_n 0, 1) := by decide +kernel
theorem dX5_put_18 : decode cX5_put 18 = .ok (.getfield 9, 3) := by decide +kernel
theorem dX5_put_21 : decode cX5_put 21 = .ok (.aload_n 0, 1) := by decide +kernel
theorem dX5_put_22 : decode cX5_put 22 = .ok (.getfield 25, 3) := by decide +kernel
theorem dX5_put_25 : decode cX5_put 25 = .ok (.iload_n 1, 1) := by decide +kernel
theorem dX5_put_26 : decode cX5_put 26 = .ok (.iload_n 2, 1) := by decide +kernel
theorem dX5_put_27 : decode cX5_put 27 = .ok (.ishr, 1) := by decide +kernel
theorem dX5_put_28 : decode cX5_put 28 = .ok (.sipush 255, 3) := by decide +kernel
theorem dX5_put_31 : decode cX5_put 31 = .ok (.iand, 1) := by decide +kernel
theorem dX5_put_32 : decode cX5_put 32 = .ok (.iastore, 1) := by decide +kernel
theorem dX5_put_33 : decode cX5_put 33 = .ok (.aload_n 0, 1) := by decide +kernel
theorem dX5_put_34 : decode cX5_put 34 = .ok (.dup, 1) := by decide +kernel
theorem dX5_put_35 : decode cX5_put 35 = .ok (.getfield 25, 3) := by decide +kernel
theorem dX5_put_38 : decode cX5_put 38 = .ok (.iconst 1, 1) := by decide +kernel
theorem dX5_put_39 : decode cX5_put 39 = .ok (.iadd, 1) := by decide +kernel
theorem dX5_put_40 : decode cX5_put 40 = .ok (.putfield 25, 3) := by decide +kernel
theorem dX5_put_43 : decode cX5_put 43 = .ok (.iinc 2 (-8), 3) := by decide +kernel
theorem dX5_put_46 : decode cX5_put 46 = .ok (.goto (-43), 3) := by decide +kernel
theorem dX5_put_49 : decode cX5_put 49 = .ok (.return_, 1) := by decide +kernel
set_option maxRecDepth 20000 in
theorem ggX5_read_X5_nextToken : GoodIn wsX5_read wsX5_nextToken := goodIn_r _ [14, 5, 15, 16, 17, 18, 19, 20, 13, 21, 22, 23, 24, 25, 26, 27, 28, 29, 30, 31, 32, 33, 34, 35, 36, 37, 38, 39, 40, 41, 42, 43, 44, 45, 46, 47, 48, 49, 50, 51, 52, 53, 54, 55, 56, 57, 58, 59, 60, 61, 62, 63, 64, 65, 66, 67, 68, 69, 70, 71, 72, 73, 74, 75, 76, 77, 78, 79, 80, 81, 82, 83, 84, 85, 86, 87, 88, 89, 90, 154, 155, 156, 157, 158, 159, 160, 161, 162, 163, 164, 165, 166, 167, 168, 169, 170] (by decide +kernel) (by decide +kernel)
set_option maxRecDepth 20000 in
theorem gX5_read_X5_nextToken : GoodIn wsX5_read (wsV RX5 53 RX5 yX5_nextToken wsX5_nextToken) := goodIn_app (goodIn_of _ (by decide +kernel)) ggX5_read_X5_nextToken
set_option maxRecDepth 20000 in
theorem ggX5_read_X5_takeToken : GoodIn wsX5_read wsX5_takeToken := goodIn_r _ [94, 9, 18, 95, 6, 96, 97, 98, 13, 99, 1, 100, 101, 102, 103, 104, 105, 89, 106, 107, 108, 109, 110, 111, 112, 113, 114, 7, 8, 115, 116, 117, 118, 3, 17, 4, 119, 120, 121, 122, 2, 123, 124, 125, 126, 127, 86, 128, 129, 130, 131, 132, 133, 134, 135, 136, 137, 138, 139, 140, 141, 142, 143, 144, 145, 146, 147, 148, 149, 150, 151, 152, 153, 154, 155, 156, 157, 158, 159, 160, 161, 162, 163, 164, 165, 166, 167, 168, 169, 170] (by decide +kernel) (by decide +kernel)
set_option maxRecDepth 20000 in
theorem gX5_read_X5_takeToken : GoodIn wsX5_read (wsV RX5 56 RX5 yX5_takeToken wsX5_takeToken) := goodIn_app (goodIn_of _ (by decide +kernel)) ggX5_read_X5_takeToken
theorem dX5_read_0 : decode cX5_read 0 = .ok (.aload_n 0, 1) := by decide +kernel
theorem dX5_read_1 : decode cX5_read 1 = .ok (.iconst 0, 1) := by decide +kernel
theorem dX5_read_2 : decode cX5_read 2 = .ok (.putfield 28, 3) := by decide +kernel
theorem dX5_read_5 : decode cX5_read 5 = .ok (.aload_n 0, 1) := by decide +kernel
theorem dX5_read_6 : decode cX5_read 6 = .ok (.iconst 0, 1) := by decide +kernel
theorem dX5_read_7 : decode cX5_read 7 = .ok (.putfield 31, 3) := by decide +kernel
theorem dX5_read_10 : decode cX5_read 10 = .ok (.aload_n 0, 1) := by decide +kernel
theorem dX5_read_11 : decode cX5_read 11 = .ok (.iconst 0, 1) := by decide +kernel
theorem dX5_read_12 : decode cX5_read 12 = .ok (.putfield 34, 3) := by decide +kernel
theorem dX5_read_15 : decode cX5_read 15 = .ok (.aload_n 0, 1) := by decide +kernel
theorem dX5_read_16 : decode cX5_read 16 = .ok (.iconst (-1), 1) := by decide +kernel
theorem dX5_read_17 : decode cX5_read 17 = .ok (.putfield 21, 3) := by decide +kernel
theorem dX5_read_20 : decode cX5_read 20 = .ok (.aload_n 0, 1) := by decide +kernel
theorem dX5_read_21 : decode cX5_read 21 = .ok (.iconst 0, 1) := by decide +kernel
theorem dX5_read_22 : decode cX5_read 22 = .ok (.putfield 37, 3) := by decide +kernel
theorem dX5_read_25 : decode cX5_read 25 = .ok (.aload_n 0, 1) := by decide +kernel
theorem dX5_read_26 : decode cX5_read 26 = .ok (.iconst 0, 1) := by decide +kernel
theorem dX5_read_27 : decode cX5_read 27 = .ok (.putfield 40, 3) := by decide +kernel
theorem dX5_read_30 : decode cX5_read 30 = .ok (.aload_n 0, 1) := by decide +kernel
theorem dX5_read_31 : decode cX5_read 31 = .ok (.iconst 0, 1) := by decide +kernel
theorem dX5_read_32 : decode cX5_read 32 = .ok (.putfield 44, 3) := by decide +kernel
theorem dX5_read_35 : decode cX5_read 35 = .ok (.aload_n 0, 1) := by decide +kernel
theorem dX5_read_36 : decode cX5_read 36 = .ok (.iconst 0, 1) := by decide +kernel
theorem dX5_read_37 : decode cX5_read 37 = .ok (.putfield 47, 3) := by decide +kernel
theorem dX5_read_40 : decode cX5_read 40 = .ok (.aload_n 0, 1) := by decide +kernel
theorem dX5_read_41 : decode cX5_read 41 = .ok (.bipush 7, 2) := by decide +kernel
theorem dX5_read_43 : decode cX5_read 43 = .ok (.putfield 50, 3) := by decide +kernel
theorem dX5_read_46 : decode cX5_read 46 = .ok (.iconst 0, 1) := by decide +kernel
theorem dX5_read_47 : decode cX5_read 47 = .ok (.istore_n 1, 1) := by decide +kernel
theorem dX5_read_48 : decode cX5_read 48 = .ok (.iload_n 1, 1) := by decide +kernel
theorem dX5_read_49 : decode cX5_read 49 = .ok (.sipush 400, 3) := by decide +kernel
theorem dX5_read_52 : decode cX5_read 52 = .ok (.if_icmp .gt 26, 3) := by decide +kernel
theorem dX5_read_55 : decode cX5_read 55 = .ok (.aload_n 0, 1) := by decide +kernel
theorem dX5_read_56 : decode cX5_read 56 = .ok (.getfield 50, 3) := by decide +kernel
theorem dX5_read_59 : decode cX5_read 59 = .ok (.bipush 8, 2) := by decide +kernel
theorem dX5_read_61 : decode cX5_read 61 = .ok (.if_icmp .eq 17, 3) := by decide +kernel
theorem dX5_read_64 : decode cX5_read 64 = .ok (.aload_n 0, 1) := by decide +kernel
theorem dX5_read_65 : decode cX5_read 65 = .ok (.invokevirtual 53, 3) := by decide +kernel
theorem dX5_read_68 : decode cX5_read 68 = .ok (.aload_n 0, 1) := by decide +kernel
theorem dX5_read_69 : decode cX5_read 69 = .ok (.invokevirtual 56, 3) := by decide +kernel
theorem dX5_read_72 : decode cX5_read 72 = .ok (.iinc 1 1, 3) := by decide +kernel
theorem dX5_read_75 : decode cX5_read 75 = .ok (.goto (-27), 3) := by decide +kernel
theorem dX5_read_78 : decode cX5_read 78 = .ok (.return_, 1) := by decide +kernel
set_option maxRecDepth 20000 in
theorem ggX5_nextToken_X5_isLetter : GoodIn wsX5_nextToken wsX5_isLetter := goodIn_r _ [9] (by decide +kernel) (by decide +kernel)
set_option maxRecDepth 20000 in
theorem gX5_nextToken_X5_isLetter : GoodIn wsX5_nextToken (va_wsS RX5 67 yX5_isLetter wsX5_isLetter) := goodIn_app (goodIn_of _ (by decide +kernel)) ggX5_nextToken_X5_isLetter
set_option maxRecDepth 20000 in
theorem ggX5_nextToken_X5_readWord : GoodIn wsX5_nextToken wsX5_readWord := goodIn_r _ [13, 1, 2, 3, 5, 6, 7, 8, 9, 14, 15, 16, 17, 4, 18, 19, 20, 21, 22, 23, 24, 25, 26, 27, 28, 29, 30, 31, 32, 33, 34, 35, 36, 37, 38, 39, 40, 41, 42, 43, 44, 45, 46, 47, 48, 49, 50, 51, 52, 53, 54, 55, 56, 57, 58, 59, 60, 61, 62, 63, 64, 65, 66, 79, 80, 81, 82, 83, 84, 85, 86, 87, 88, 89, 90, 91, 92, 93, 94, 95] (by decide +kernel) (by decide +kernel)
set_option maxRecDepth 20000 in
theorem gX5_nextToken_X5_readWord : GoodIn wsX5_nextToken (wsV RX5 71 RX5 yX5_readWord wsX5_readWord) := goodIn_app (goodIn_of _ (by decide +kernel)) ggX5_nextToken_X5_readWord
set_option maxRecDepth 20000 in
theorem ggX5_nextToken_X5_isDigit : GoodIn wsX5_nextToken wsX5_isDigit := goodIn_r _ [69] (by decide +kernel) (by decide +kernel)
set_option maxRecDepth 20000 in
theorem gX5_nextToken_X5_isDigit : GoodIn wsX5_nextToken (va_wsS RX5 74 yX5_isDigit wsX5_isDigit) := goodIn_app (goodIn_of _ (by decide +kernel)) ggX5_nextToken_X5_isDigit
set_option maxRecDepth 20000 in
theorem ggX5_nextToken_X5_readNumber : GoodIn wsX5_nextToken wsX5_readNumber := goodIn_r _ [73, 74, 1, 2, 3, 4, 5, 67, 68, 8, 69, 79, 80, 81, 82, 83, 84, 85, 86, 87, 88, 89, 90, 91, 92, 93, 94, 95] (by decide +kernel) (by decide +kernel)
set_option maxRecDepth 20000 in
theorem gX5_nextToken_X5_readNumber : GoodIn wsX5_nextToken (wsV RX5 77 RX5 yX5_readNumber wsX5_readNumber) := goodIn_app (goodIn_of _ (by decide +kernel)) ggX5_nextToken_X5_readNumber
set_option maxRecDepth 20000 in
theorem ggX5_nextToken_X8_ofMark : GoodIn wsX5_nextToken wsX8_ofMark := goodIn_r _ [78] (by decide +kernel) (by decide +kernel)
set_option maxRecDepth 20000 in
theorem gX5_nextToken_X8_ofMark : GoodIn wsX5_nextToken (va_wsS RX5 80 yX8_ofMark wsX8_ofMark) := goodIn_app (goodIn_of _ (by decide +kernel)) ggX5_nextToken_X8_ofMark
theorem dX5_nextToken_0 : decode cX5_nextToken 0 = .ok (.aload_n 0, 1) := by decide +kernel
theorem dX5_nextToken_1 : decode cX5_nextToken 1 = .ok (.getfield 37, 3) := by decide +kernel
theorem dX5_nextToken_4 : decode cX5_nextToken 4 = .ok (.aload_n 0, 1) := by decide +kernel
theorem dX5_nextToken_5 : decode cX5_nextToken 5 = .ok (.getfield 25, 3) := by decide +kernel
theorem dX5_nextToken_8 : decode cX5_nextToken 8 = .ok (.if_icmp .ge 54, 3) := by decide +kernel
theorem dX5_nextToken_11 : decode cX5_nextToken 11 = .ok (.aload_n 0, 1) := by decide +kernel
theorem dX5_nextToken_12 : decode cX5_nextToken 12 = .ok (.getfield 37, 3) := by decide +kernel
theorem dX5_nextToken_15 : decode cX5_nextToken 15 = .ok (.sipush 400, 3) := by decide +kernel
theorem dX5_nextToken_18 : decode cX5_nextToken 18 = .ok (.if_icmp .ge 44, 3) := by decide +kernel
theorem dX5_nextToken_21 : decode cX5_nextToken 21 = .ok (.aload_n 0, 1) := by decide +kernel
theorem dX5_nextToken_22 : decode cX5_nextToken 22 = .ok (.getfield 9, 3) := by decide +kernel
theorem dX5_nextToken_25 : decode cX5_nextToken 25 = .ok (.aload_n 0, 1) := by decide +kernel
theorem dX5_nextToken_26 : decode cX5_nextToken 26 = .ok (.getfield 37, 3) := by decide +kernel
theorem dX5_nextToken_29 : decode cX5_nextToken 29 = .ok (.iaload, 1) := by decide +kernel
theorem dX5_nextToken_30 : decode cX5_nextToken 30 = .ok (.bipush 32, 2) := by decide +kernel
theorem dX5_nextToken_32 : decode cX5_nextToken 32 = .ok (.if_icmp .eq 17, 3) := by decide +kernel
theorem dX5_nextToken_35 : decode cX5_nextToken 35 = .ok (.aload_n 0, 1) := by decide +kernel
theorem dX5_nextToken_36 : decode cX5_nextToken 36 = .ok (.getfield 9, 3) := by decide +kernel
theorem dX5_nextToken_39 : decode cX5_nextToken 39 = .ok (.aload_n 0, 1) := by decide +kernel
theorem dX5_nextToken_40 : decode cX5_nextToken 40 = .ok (.getfield 37, 3) := by decide +kernel
theorem dX5_nextToken_43 : decode cX5_nextToken 43 = .ok (.iaload, 1) := by decide +kernel
theorem dX5_nextToken_44 : decode cX5_nextToken 44 = .ok (.bipush 10, 2) := by decide +kernel
theorem dX5_nextToken_46 : decode cX5_nextToken 46 = .ok (.if_icmp .ne 16, 3) := by decide +kernel
theorem dX5_nextToken_49 : decode cX5_nextToken 49 = .ok (.aload_n 0, 1) := by decide +kernel
theorem dX5_nextToken_50 : decode cX5_nextToken 50 = .ok (.dup, 1) := by decide +kernel
theorem dX5_nextToken_51 : decode cX5_nextToken 51 = .ok (.getfield 37, 3) := by decide +kernel
theorem dX5_nextToken_54 : decode cX5_nextToken 54 = .ok (.iconst 1, 1) := by decide +kernel
theorem dX5_nextToken_55 : decode cX5_nextToken 55 = .ok (.iadd, 1) := by decide +kernel
theorem dX5_nextToken_56 : decode cX5_nextToken 56 = .ok (.putfield 37, 3) := by decide +kernel
theorem dX5_nextToken_59 : decode cX5_nextToken 59 = .ok (.goto (-59), 3) := by decide +kernel
theorem dX5_nextToken_62 : decode cX5_nextToken 62 = .ok (.aload_n 0, 1) := by decide +kernel
theorem dX5_nextToken_63 : decode cX5_nextToken 63 = .ok (.aload_n 0, 1) := by decide +kernel
theorem dX5_nextToken_64 : decode cX5_nextToken 64 = .ok (.getfield 37, 3) := by decide +kernel
theorem dX5_nextToken_67 : decode cX5_nextToken 67 = .ok (.putfield 59, 3) := by decide +kernel
theorem dX5_nextToken_70 : decode cX5_nextToken 70 = .ok (.aload_n 0, 1) := by decide +kernel
theorem dX5_nextToken_71 : decode cX5_nextToken 71 = .ok (.getfield 37, 3) := by decide +kernel
theorem dX5_nextToken_74 : decode cX5_nextToken 74 = .ok (.aload_n 0, 1) := by decide +kernel
theorem dX5_nextToken_75 : decode cX5_nextToken 75 = .ok (.getfield 25, 3) := by decide +kernel
theorem dX5_nextToken_78 : decode cX5_nextToken 78 = .ok (.if_icmp .ge 13, 3) := by decide +kernel
theorem dX5_nextToken_81 : decode cX5_nextToken 81 = .ok (.aload_n 0, 1) := by decide +kernel
theorem dX5_nextToken_82 : decode cX5_nextToken 82 = .ok (.getfield 37, 3) := by decide +kernel
theorem dX5_nextToken_85 : decode cX5_nextToken 85 = .ok (.sipush 400, 3) := by decide +kernel
theorem dX5_nextToken_88 : decode cX5_nextToken 88 = .ok (.if_icmp .lt 11, 3) := by decide +kernel
theorem dX5_nextToken_91 : decode cX5_nextToken 91 = .ok (.aload_n 0, 1) := by decide +kernel
theorem dX5_nextToken_92 : decode cX5_nextToken 92 = .ok (.iconst 0, 1) := by decide +kernel
theorem dX5_nextToken_93 : decode cX5_nextToken 93 = .ok (.putfield 64, 3) := by decide +kernel
theorem dX5_nextToken_96 : decode cX5_nextToken 96 = .ok (.goto 73, 3) := by decide +kernel
theorem dX5_nextToken_99 : decode cX5_nextToken 99 = .ok (.aload_n 0, 1) := by decide +kernel
theorem dX5_nextToken_100 : decode cX5_nextToken 100 = .ok (.getfield 9, 3) := by decide +kernel
theorem dX5_nextToken_103 : decode cX5_nextToken 103 = .ok (.aload_n 0, 1) := by decide +kernel
theorem dX5_nextToken_104 : decode cX5_nextToken 104 = .ok (.getfield 37, 3) := by decide +kernel
theorem dX5_nextToken_107 : decode cX5_nextToken 107 = .ok (.iaload, 1) := by decide +kernel
theorem dX5_nextToken_108 : decode cX5_nextToken 108 = .ok (.invokestatic 67, 3) := by decide +kernel
theorem dX5_nextToken_111 : decode cX5_nextToken 111 = .ok (.ifCond .eq 10, 3) := by decide +kernel
theorem dX5_nextToken_114 : decode cX5_nextToken 114 = .ok (.aload_n 0, 1) := by decide +kernel
theorem dX5_nextToken_115 : decode cX5_nextToken 115 = .ok (.invokevirtual 71, 3) := by decide +kernel
theorem dX5_nextToken_118 : decode cX5_nextToken 118 = .ok (.goto 51, 3) := by decide +kernel
theorem dX5_nextToken_121 : decode cX5_nextToken 121 = .ok (.aload_n 0, 1) := by decide +kernel
theorem dX5_nextToken_122 : decode cX5_nextToken 122 = .ok (.getfield 9, 3) := by decide +kernel
theorem dX5_nextToken_125 : decode cX5_nextToken 125 = .ok (.aload_n 0, 1) := by decide +kernel
theorem dX5_nextToken_126 : decode cX5_nextToken 126 = .ok (.getfield 37, 3) := by decide +kernel
theorem dX5_nextToken_129 : decode cX5_nextToken 129 = .ok (.iaload, 1) := by decide +kernel
theorem dX5_nextToken_130 : decode cX5_nextToken 130 = .ok (.invokestatic 74, 3) := by decide +kernel
theorem dX5_nextToken_133 : decode cX5_nextToken 133 = .ok (.ifCond .eq 10, 3) := by decide +kernel
theorem dX5_nextToken_136 : decode cX5_nextToken 136 = .ok (.aload_n 0, 1) := by decide +kernel
theorem dX5_nextToken_137 : decode cX5_nextToken 137 = .ok (.invokevirtual 77, 3) := by decide +kernel
theorem dX5_nextToken_140 : decode cX5_nextToken 140 = .ok (.goto 29, 3) := by decide +kernel
theorem dX5_nextToken_143 : decode cX5_nextToken 143 = .ok (.aload_n 0, 1) := by decide +kernel
theorem dX5_nextToken_144 : decode cX5_nextToken 144 = .ok (.aload_n 0, 1) := by decide +kernel
theorem dX5_nextToken_145 : decode cX5_nextToken 145 = .ok (.getfield 9, 3) := by decide +kernel
theorem dX5_nextToken_148 : decode cX5_nextToken 148 = .ok (.aload_n 0, 1) := by decide +kernel
theorem dX5_nextToken_149 : decode cX5_nextToken 149 = .ok (.getfield 37, 3) := by decide +kernel
theorem dX5_nextToken_152 : decode cX5_nextToken 152 = .ok (.iaload, 1) := by decide +kernel
theorem dX5_nextToken_153 : decode cX5_nextToken 153 = .ok (.invokestatic 80, 3) := by decide +kernel
theorem dX5_nextToken_156 : decode cX5_nextToken 156 = .ok (.putfield 64, 3) := by decide +kernel
theorem dX5_nextToken_159 : decode cX5_nextToken 159 = .ok (.aload_n 0, 1) := by decide +kernel
theorem dX5_nextToken_160 : decode cX5_nextToken 160 = .ok (.dup, 1) := by decide +kernel
theorem dX5_nextToken_161 : decode cX5_nextToken 161 = .ok (.getfield 37, 3) := by decide +kernel
theorem dX5_nextToken_164 : decode cX5_nextToken 164 = .ok (.iconst 1, 1) := by decide +kernel
theorem dX5_nextToken_165 : decode cX5_nextToken 165 = .ok (.iadd, 1) := by decide +kernel
theorem dX5_nextToken_166 : decode cX5_nextToken 166 = .ok (.putfield 37, 3) := by decide +kernel
theorem dX5_nextToken_169 : decode cX5_nextToken 169 = .ok (.return_, 1) := by decide +kernel
set_option maxRecDepth 20000 in
theorem ggX5_readWord_X5_isLetter : GoodIn wsX5_readWord wsX5_isLetter := goodIn_r _ [8] (by decide +kernel) (by decide +kernel)
set_option maxRecDepth 20000 in
theorem gX5_readWord_X5_isLetter : GoodIn wsX5_readWord (va_wsS RX5 67 yX5_isLetter wsX5_isLetter) := goodIn_app (goodIn_of _ (by decide +kernel)) ggX5_readWord_X5_isLetter
set_option maxRecDepth 20000 in
theorem ggX5_readWord_X5_isWord : GoodIn wsX5_readWord wsX5_isWord := goodIn_r _ [12, 1, 13, 3, 14, 15, 16, 17, 18, 19, 20, 21, 22, 23, 24, 25, 26, 27, 28, 29, 30, 31, 32, 33, 34, 35, 36, 37, 38, 39, 40, 41, 42, 43, 44, 45, 46, 47, 48, 49, 50, 51, 52, 53, 54, 55, 56, 57, 58, 59, 60, 61, 62, 63, 64, 65, 66, 67, 68, 69, 70, 71, 72, 73, 74, 75, 76, 77, 78, 79] (by decide +kernel) (by decide +kernel)
set_option maxRecDepth 20000 in
theorem gX5_readWord_X5_isWord : GoodIn wsX5_readWord (wsV RX5 86 RX5 yX5_isWord wsX5_isWord) := goodIn_app (goodIn_of _ (by decide +kernel)) ggX5_readWord_X5_isWord
theorem dX5_readWord_0 : decode cX5_readWord 0 = .ok (.aload_n 0, 1) := by decide +kernel
theorem dX5_readWord_1 : decode cX5_readWord 1 = .ok (.getfield 37, 3) := by decide +kernel
theorem dX5_readWord_4 : decode cX5_readWord 4 = .ok (.aload_n 0, 1) := by decide +kernel
theorem dX5_readWord_5 : decode cX5_readWord 5 = .ok (.getfield 25, 3) := by decide +kernel
theorem dX5_readWord_8 : decode cX5_readWord 8 = .ok (.if_icmp .ge 41, 3) := by decide +kernel
theorem dX5_readWord_11 : decode cX5_readWord 11 = .ok (.aload_n 0, 1) := by decide +kernel
theorem dX5_readWord_12 : decode cX5_readWord 12 = .ok (.getfield 37, 3) := by decide +kernel
theorem dX5_readWord_15 : decode cX5_readWord 15 = .ok (.sipush 400, 3) := by decide +kernel
theorem dX5_readWord_18 : decode cX5_readWord 18 = .ok (.if_icmp .ge 31, 3) := by decide +kernel
theorem dX5_readWord_21 : decode cX5_readWord 21 = .ok (.aload_n 0, 1) := by decide +kernel
theorem dX5_readWord_22 : decode cX5_readWord 22 = .ok (.getfield 9, 3) := by decide +kernel
theorem dX5_readWord_25 : decode cX5_readWord 25 = .ok (.aload_n 0, 1) := by decide +kernel
theorem dX5_readWord_26 : decode cX5_readWord 26 = .ok (.getfield 37, 3) := by decide +kernel
theorem dX5_readWord_29 : decode cX5_readWord 29 = .ok (.iaload, 1) := by decide +kernel
theorem dX5_readWord_30 : decode cX5_readWord 30 = .ok (.invokestatic 67, 3) := by decide +kernel
theorem dX5_readWord_33 : decode cX5_readWord 33 = .ok (.ifCond .eq 16, 3) := by decide +kernel
theorem dX5_readWord_36 : decode cX5_readWord 36 = .ok (.aload_n 0, 1) := by decide +kernel
theorem dX5_readWord_37 : decode cX5_readWord 37 = .ok (.dup, 1) := by decide +kernel
theorem dX5_readWord_38 : decode cX5_readWord 38 = .ok (.getfield 37, 3) := by decide +kernel
theorem dX5_readWord_41 : decode cX5_readWord 41 = .ok (.iconst 1, 1) := by decide +kernel
theorem dX5_readWord_42 : decode cX5_readWord 42 = .ok (.iadd, 1) := by decide +kernel
theorem dX5_readWord_43 : decode cX5_readWord 43 = .ok (.putfield 37, 3) := by decide +kernel
theorem dX5_readWord_46 : decode cX5_readWord 46 = .ok (.goto (-46), 3) := by decide +kernel
theorem dX5_readWord_49 : decode cX5_readWord 49 = .ok (.aload_n 0, 1) := by decide +kernel
theorem dX5_readWord_50 : decode cX5_readWord 50 = .ok (.aload_n 0, 1) := by decide +kernel
theorem dX5_readWord_51 : decode cX5_readWord 51 = .ok (.ldc 84, 2) := by decide +kernel
theorem dX5_readWord_53 : decode cX5_readWord 53 = .ok (.invokevirtual 86, 3) := by decide +kernel
theorem dX5_readWord_56 : decode cX5_readWord 56 = .ok (.ifCond .eq 8, 3) := by decide +kernel
theorem dX5_readWord_59 : decode cX5_readWord 59 = .ok (.bipush 22, 2) := by decide +kernel
theorem dX5_readWord_61 : decode cX5_readWord 61 = .ok (.goto 115, 3) := by decide +kernel
theorem dX5_readWord_64 : decode cX5_readWord 64 = .ok (.aload_n 0, 1) := by decide +kernel
theorem dX5_readWord_65 : decode cX5_readWord 65 = .ok (.ldc 90, 2) := by decide +kernel
theorem dX5_readWord_67 : decode cX5_readWord 67 = .ok (.invokevirtual 86, 3) := by decide +kernel
theorem dX5_readWord_70 : decode cX5_readWord 70 = .ok (.ifCond .eq 8, 3) := by decide +kernel
theorem dX5_readWord_73 : decode cX5_readWord 73 = .ok (.bipush 21, 2) := by decide +kernel
theorem dX5_readWord_75 : decode cX5_readWord 75 = .ok (.goto 101, 3) := by decide +kernel
theorem dX5_readWord_78 : decode cX5_readWord 78 = .ok (.aload_n 0, 1) := by decide +kernel
theorem dX5_readWord_79 : decode cX5_readWord 79 = .ok (.ldc 92, 2) := by decide +kernel
theorem dX5_readWord_81 : decode cX5_readWord 81 = .ok (.invokevirtual 86, 3) := by decide +kernel
theorem dX5_readWord_84 : decode cX5_readWord 84 = .ok (.ifCond .eq 8, 3) := by decide +kernel
theorem dX5_readWord_87 : decode cX5_readWord 87 = .ok (.bipush 14, 2) := by decide +kernel
theorem dX5_readWord_89 : decode cX5_readWord 89 = .ok (.goto 87, 3) := by decide +kernel
theorem dX5_readWord_92 : decode cX5_readWord 92 = .ok (.aload_n 0, 1) := by decide +kernel
theorem dX5_readWord_93 : decode cX5_readWord 93 = .ok (.ldc 94, 2) := by decide +kernel
theorem dX5_readWord_95 : decode cX5_readWord 95 = .ok (.invokevirtual 86, 3) := by decide +kernel
theorem dX5_readWord_98 : decode cX5_readWord 98 = .ok (.ifCond .eq 8, 3) := by decide +kernel
theorem dX5_readWord_101 : decode cX5_readWord 101 = .ok (.bipush 11, 2) := by decide +kernel
theorem dX5_readWord_103 : decode cX5_readWord 103 = .ok (.goto 73, 3) := by decide +kernel
theorem dX5_readWord_106 : decode cX5_readWord 106 = .ok (.aload_n 0, 1) := by decide +kernel
theorem dX5_readWord_107 : decode cX5_readWord 107 = .ok (.ldc 96, 2) := by decide +kernel
theorem dX5_readWord_109 : decode cX5_readWord 109 = .ok (.invokevirtual 86, 3) := by decide +kernel
theorem dX5_readWord_112 : decode cX5_readWord 112 = .ok (.ifCond .eq 7, 3) := by decide +kernel
theorem dX5_readWord_115 : decode cX5_readWord 115 = .ok (.iconst 5, 1) := by decide +kernel
theorem dX5_readWord_116 : decode cX5_readWord 116 = .ok (.goto 60, 3) := by decide +kernel
theorem dX5_readWord_119 : decode cX5_readWord 119 = .ok (.aload_n 0, 1) := by decide +kernel
theorem dX5_readWord_120 : decode cX5_readWord 120 = .ok (.ldc 98, 2) := by decide +kernel
theorem dX5_readWord_122 : decode cX5_readWord 122 = .ok (.invokevirtual 86, 3) := by decide +kernel
theorem dX5_readWord_125 : decode cX5_readWord 125 = .ok (.ifCond .eq 8, 3) := by decide +kernel
theorem dX5_readWord_128 : decode cX5_readWord 128 = .ok (.bipush 7, 2) := by decide +kernel
theorem dX5_readWord_130 : decode cX5_readWord 130 = .ok (.goto 46, 3) := by decide +kernel
theorem dX5_readWord_133 : decode cX5_readWord 133 = .ok (.aload_n 0, 1) := by decide +kernel
theorem dX5_readWord_134 : decode cX5_readWord 134 = .ok (.ldc 100, 2) := by decide +kernel
theorem dX5_readWord_136 : decode cX5_readWord 136 = .ok (.invokevirtual 86, 3) := by decide +kernel
theorem dX5_readWord_139 : decode cX5_readWord 139 = .ok (.ifCond .eq 8, 3) := by decide +kernel
theorem dX5_readWord_142 : decode cX5_readWord 142 = .ok (.bipush 8, 2) := by decide +kernel
theorem dX5_readWord_144 : decode cX5_readWord 144 = .ok (.goto 32, 3) := by decide +kernel
theorem dX5_readWord_147 : decode cX5_readWord 147 = .ok (.aload_n 0, 1) := by decide +kernel
theorem dX5_readWord_148 : decode cX5_readWord 148 = .ok (.ldc 102, 2) := by decide +kernel
theorem dX5_readWord_150 : decode cX5_readWord 150 = .ok (.invokevirtual 86, 3) := by decide +kernel
theorem dX5_readWord_153 : decode cX5_readWord 153 = .ok (.ifCond .eq 8, 3) := by decide +kernel
theorem dX5_readWord_156 : decode cX5_readWord 156 = .ok (.bipush 9, 2) := by decide +kernel
theorem dX5_readWord_158 : decode cX5_readWord 158 = .ok (.goto 18, 3) := by decide +kernel
theorem dX5_readWord_161 : decode cX5_readWord 161 = .ok (.aload_n 0, 1) := by decide +kernel
theorem dX5_readWord_162 : decode cX5_readWord 162 = .ok (.ldc 104, 2) := by decide +kernel
theorem dX5_readWord_164 : decode cX5_readWord 164 = .ok (.invokevirtual 86, 3) := by decide +kernel
theorem dX5_readWord_167 : decode cX5_readWord 167 = .ok (.ifCond .eq 8, 3) := by decide +kernel
theorem dX5_readWord_170 : decode cX5_readWord 170 = .ok (.bipush 10, 2) := by decide +kernel
theorem dX5_readWord_172 : decode cX5_readWord 172 = .ok (.goto 4, 3) := by decide +kernel
theorem dX5_readWord_175 : decode cX5_readWord 175 = .ok (.iconst 1, 1) := by decide +kernel
theorem dX5_readWord_176 : decode cX5_readWord 176 = .ok (.putfield 64, 3) := by decide +kernel
theorem dX5_readWord_179 : decode cX5_readWord 179 = .ok (.return_, 1) := by decide +kernel
set_option maxRecDepth 20000 in
theorem ggX5_isWord_J0_length_8abf5 : GoodIn wsX5_isWord wsJ0_length_8abf5 := goodIn_r _ [8, 9, 10, 11, 12, 7, 13, 14, 15] (by decide +kernel) (by decide +kernel)
set_option maxRecDepth 20000 in
theorem gX5_isWord_J0_length_8abf5 : GoodIn wsX5_isWord (wsV RX5 106 RJ0 yJ0_length_8abf5 wsJ0_length_8abf5) := goodIn_app (goodIn_of _ (by decide +kernel)) ggX5_isWord_J0_length_8abf5
set_option maxRecDepth 20000 in
theorem ggX5_isWord_J0_charAt_5068e : GoodIn wsX5_isWord wsJ0_charAt_5068e := goodIn_r _ [19, 9, 20, 21, 22, 7, 23, 14, 15, 24, 25, 26, 27, 28, 29, 30, 31, 32, 33, 34, 35, 36, 37, 38, 39, 40, 41, 42, 43, 44, 45, 46, 47, 48, 49, 50, 51, 52] (by decide +kernel) (by decide +kernel)
set_option maxRecDepth 20000 in
theorem gX5_isWord_J0_charAt_5068e : GoodIn wsX5_isWord (wsV RX5 111 RJ0 yJ0_charAt_5068e wsJ0_charAt_5068e) := goodIn_app (goodIn_of _ (by decide +kernel)) ggX5_isWord_J0_charAt_5068e
theorem dX5_isWord_0 : decode cX5_isWord 0 = .ok (.aload_n 0, 1) := by decide +kernel
theorem dX5_isWord_1 : decode cX5_isWord 1 = .ok (.getfield 37, 3) := by decide +kernel
theorem dX5_isWord_4 : decode cX5_isWord 4 = .ok (.aload_n 0, 1) := by decide +kernel
theorem dX5_isWord_5 : decode cX5_isWord 5 = .ok (.getfield 59, 3) := by decide +kernel
theorem dX5_isWord_8 : decode cX5_isWord 8 = .ok (.isub, 1) := by decide +kernel
theorem dX5_isWord_9 : decode cX5_isWord 9 = .ok (.aload_n 1, 1) := by decide +kernel
theorem dX5_isWord_10 : decode cX5_isWord 10 = .ok (.invokevirtual 106, 3) := by decide +kernel
theorem dX5_isWord_13 : decode cX5_isWord 13 = .ok (.if_icmp .ne 13, 3) := by decide +kernel
theorem dX5_isWord_16 : decode cX5_isWord 16 = .ok (.aload_n 0, 1) := by decide +kernel
theorem dX5_isWord_17 : decode cX5_isWord 17 = .ok (.getfield 37, 3) := by decide +kernel
theorem dX5_isWord_20 : decode cX5_isWord 20 = .ok (.sipush 400, 3) := by decide +kernel
theorem dX5_isWord_23 : decode cX5_isWord 23 = .ok (.if_icmp .le 5, 3) := by decide +kernel
theorem dX5_isWord_26 : decode cX5_isWord 26 = .ok (.iconst 0, 1) := by decide +kernel
theorem dX5_isWord_27 : decode cX5_isWord 27 = .ok (.ireturn, 1) := by decide +kernel
theorem dX5_isWord_28 : decode cX5_isWord 28 = .ok (.iconst 0, 1) := by decide +kernel
theorem dX5_isWord_29 : decode cX5_isWord 29 = .ok (.istore_n 2, 1) := by decide +kernel
theorem dX5_isWord_30 : decode cX5_isWord 30 = .ok (.iload_n 2, 1) := by decide +kernel
theorem dX5_isWord_31 : decode cX5_isWord 31 = .ok (.aload_n 1, 1) := by decide +kernel
theorem dX5_isWord_32 : decode cX5_isWord 32 = .ok (.invokevirtual 106, 3) := by decide +kernel
theorem dX5_isWord_35 : decode cX5_isWord 35 = .ok (.if_icmp .ge 30, 3) := by decide +kernel
theorem dX5_isWord_38 : decode cX5_isWord 38 = .ok (.aload_n 0, 1) := by decide +kernel
theorem dX5_isWord_39 : decode cX5_isWord 39 = .ok (.getfield 9, 3) := by decide +kernel
theorem dX5_isWord_42 : decode cX5_isWord 42 = .ok (.aload_n 0, 1) := by decide +kernel
theorem dX5_isWord_43 : decode cX5_isWord 43 = .ok (.getfield 59, 3) := by decide +kernel
theorem dX5_isWord_46 : decode cX5_isWord 46 = .ok (.iload_n 2, 1) := by decide +kernel
theorem dX5_isWord_47 : decode cX5_isWord 47 = .ok (.iadd, 1) := by decide +kernel
theorem dX5_isWord_48 : decode cX5_isWord 48 = .ok (.iaload, 1) := by decide +kernel
theorem dX5_isWord_49 : decode cX5_isWord 49 = .ok (.aload_n 1, 1) := by decide +kernel
theorem dX5_isWord_50 : decode cX5_isWord 50 = .ok (.iload_n 2, 1) := by decide +kernel
theorem dX5_isWord_51 : decode cX5_isWord 51 = .ok (.invokevirtual 111, 3) := by decide +kernel
theorem dX5_isWord_54 : decode cX5_isWord 54 = .ok (.if_icmp .eq 5, 3) := by decide +kernel
theorem dX5_isWord_57 : decode cX5_isWord 57 = .ok (.iconst 0, 1) := by decide +kernel
theorem dX5_isWord_58 : decode cX5_isWord 58 = .ok (.ireturn, 1) := by decide +kernel
theorem dX5_isWord_59 : decode cX5_isWord 59 = .ok (.iinc 2 1, 3) := by decide +kernel
theorem dX5_isWord_62 : decode cX5_isWord 62 = .ok (.goto (-32), 3) := by decide +kernel
theorem dX5_isWord_65 : decode cX5_isWord 65 = .ok (.iconst 1, 1) := by decide +kernel
theorem dX5_isWord_66 : decode cX5_isWord 66 = .ok (.ireturn, 1) := by decide +kernel
set_option maxRecDepth 20000 in
theorem ggX5_readNumber_X5_isDigit : GoodIn wsX5_readNumber wsX5_isDigit := goodIn_r _ [10] (by decide +kernel) (by decide +kernel)
set_option maxRecDepth 20000 in
theorem gX5_readNumber_X5_isDigit : GoodIn wsX5_readNumber (va_wsS RX5 74 yX5_isDigit wsX5_isDigit) := goodIn_app (goodIn_of _ (by decide +kernel)) ggX5_readNumber_X5_isDigit
theorem dX5_readNumber_0 : decode cX5_readNumber 0 = .ok (.aload_n 0, 1) := by decide +kernel
theorem dX5_readNumber_1 : decode cX5_readNumber 1 = .ok (.iconst 0, 1) := by decide +kernel
theorem dX5_readNumber_2 : decode cX5_readNumber 2 = .ok (.putfield 115, 3) := by decide +kernel
theorem dX5_readNumber_5 : decode cX5_readNumber 5 = .ok (.aload_n 0, 1) := by decide +kernel
theorem dX5_readNumber_6 : decode cX5_readNumber 6 = .ok (.getfield 37, 3) := by decide +kernel
theorem dX5_readNumber_9 : decode cX5_readNumber 9 = .ok (.aload_n 0, 1) := by decide +kernel
theorem dX5_readNumber_10 : decode cX5_readNumber 10 = .ok (.getfield 25, 3) := by decide +kernel
theorem dX5_readNumber_13 : decode cX5_readNumber 13 = .ok (.if_icmp .ge 65, 3) := by decide +kernel
theorem dX5_readNumber_16 : decode cX5_readNumber 16 = .ok (.aload_n 0, 1) := by decide +kernel
theorem dX5_readNumber_17 : decode cX5_readNumber 17 = .ok (.getfield 37, 3) := by decide +kernel
theorem dX5_readNumber_20 : decode cX5_readNumber 20 = .ok (.sipush 400, 3) := by decide +kernel
theorem dX5_readNumber_23 : decode cX5_readNumber 23 = .ok (.if_icmp .ge 55, 3) := by decide +kernel
theorem dX5_readNumber_26 : decode cX5_readNumber 26 = .ok (.aload_n 0, 1) := by decide +kernel
theorem dX5_readNumber_27 : decode cX5_readNumber 27 = .ok (.getfield 9, 3) := by decide +kernel
theorem dX5_readNumber_30 : decode cX5_readNumber 30 = .ok (.aload_n 0, 1) := by decide +kernel
theorem dX5_readNumber_31 : decode cX5_readNumber 31 = .ok (.getfield 37, 3) := by decide +kernel
theorem dX5_readNumber_34 : decode cX5_readNumber 34 = .ok (.iaload, 1) := by decide +kernel
theorem dX5_readNumber_35 : decode cX5_readNumber 35 = .ok (.invokestatic 74, 3) := by decide +kernel
theorem dX5_readNumber_38 : decode cX5_readNumber 38 = .ok (.ifCond .eq 40, 3) := by decide +kernel
theorem dX5_readNumber_41 : decode cX5_readNumber 41 = .ok (.aload_n 0, 1) := by decide +kernel
theorem dX5_readNumber_42 : decode cX5_readNumber 42 = .ok (.aload_n 0, 1) := by decide +kernel
theorem dX5_readNumber_43 : decode cX5_readNumber 43 = .ok (.getfield 115, 3) := by decide +kernel
theorem dX5_readNumber_46 : decode cX5_readNumber 46 = .ok (.bipush 10, 2) := by decide +kernel
theorem dX5_readNumber_48 : decode cX5_readNumber 48 = .ok (.imul, 1) := by decide +kernel
theorem dX5_readNumber_49 : decode cX5_readNumber 49 = .ok (.aload_n 0, 1) := by decide +kernel
theorem dX5_readNumber_50 : decode cX5_readNumber 50 = .ok (.getfield 9, 3) := by decide +kernel
theorem dX5_readNumber_53 : decode cX5_readNumber 53 = .ok (.aload_n 0, 1) := by decide +kernel
theorem dX5_readNumber_54 : decode cX5_readNumber 54 = .ok (.getfield 37, 3) := by decide +kernel
theorem dX5_readNumber_57 : decode cX5_readNumber 57 = .ok (.iaload, 1) := by decide +kernel
theorem dX5_readNumber_58 : decode cX5_readNumber 58 = .ok (.iadd, 1) := by decide +kernel
theorem dX5_readNumber_59 : decode cX5_readNumber 59 = .ok (.bipush 48, 2) := by decide +kernel
theorem dX5_readNumber_61 : decode cX5_readNumber 61 = .ok (.isub, 1) := by decide +kernel
theorem dX5_readNumber_62 : decode cX5_readNumber 62 = .ok (.putfield 115, 3) := by decide +kernel
theorem dX5_readNumber_65 : decode cX5_readNumber 65 = .ok (.aload_n 0, 1) := by decide +kernel
theorem dX5_readNumber_66 : decode cX5_readNumber 66 = .ok (.dup, 1) := by decide +kernel
theorem dX5_readNumber_67 : decode cX5_readNumber 67 = .ok (.getfield 37, 3) := by decide +kernel
theorem dX5_readNumber_70 : decode cX5_readNumber 70 = .ok (.iconst 1, 1) := by decide +kernel
theorem dX5_readNumber_71 : decode cX5_readNumber 71 = .ok (.iadd, 1) := by decide +kernel
theorem dX5_readNumber_72 : decode cX5_readNumber 72 = .ok (.putfield 37, 3) := by decide +kernel
theorem dX5_readNumber_75 : decode cX5_readNumber 75 = .ok (.goto (-70), 3) := by decide +kernel
theorem dX5_readNumber_78 : decode cX5_readNumber 78 = .ok (.aload_n 0, 1) := by decide +kernel
theorem dX5_readNumber_79 : decode cX5_readNumber 79 = .ok (.aload_n 0, 1) := by decide +kernel
theorem dX5_readNumber_80 : decode cX5_readNumber 80 = .ok (.getfield 37, 3) := by decide +kernel
theorem dX5_readNumber_83 : decode cX5_readNumber 83 = .ok (.aload_n 0, 1) := by decide +kernel
theorem dX5_readNumber_84 : decode cX5_readNumber 84 = .ok (.getfield 59, 3) := by decide +kernel
theorem dX5_readNumber_87 : decode cX5_readNumber 87 = .ok (.isub, 1) := by decide +kernel
theorem dX5_readNumber_88 : decode cX5_readNumber 88 = .ok (.iconst 4, 1) := by decide +kernel
theorem dX5_readNumber_89 : decode cX5_readNumber 89 = .ok (.if_icmp .gt 8, 3) := by decide +kernel
theorem dX5_readNumber_92 : decode cX5_readNumber 92 = .ok (.bipush 6, 2) := by decide +kernel
theorem dX5_readNumber_94 : decode cX5_readNumber 94 = .ok (.goto 4, 3) := by decide +kernel
theorem dX5_readNumber_97 : decode cX5_readNumber 97 = .ok (.iconst 1, 1) := by decide +kernel
theorem dX5_readNumber_98 : decode cX5_readNumber 98 = .ok (.putfield 64, 3) := by decide +kernel
theorem dX5_readNumber_101 : decode cX5_readNumber 101 = .ok (.return_, 1) := by decide +kernel
theorem dX5_isLetter_0 : decode cX5_isLetter 0 = .ok (.iload_n 0, 1) := by decide +kernel
theorem dX5_isLetter_1 : decode cX5_isLetter 1 = .ok (.bipush 97, 2) := by decide +kernel
theorem dX5_isLetter_3 : decode cX5_isLetter 3 = .ok (.if_icmp .lt 9, 3) := by decide +kernel
theorem dX5_isLetter_6 : decode cX5_isLetter 6 = .ok (.iload_n 0, 1) := by decide +kernel
theorem dX5_isLetter_7 : decode cX5_isLetter 7 = .ok (.bipush 122, 2) := by decide +kernel
theorem dX5_isLetter_9 : decode cX5_isLetter 9 = .ok (.if_icmp .le 15, 3) := by decide +kernel
theorem dX5_isLetter_12 : decode cX5_isLetter 12 = .ok (.iload_n 0, 1) := by decide +kernel
theorem dX5_isLetter_13 : decode cX5_isLetter 13 = .ok (.bipush 65, 2) := by decide +kernel
theorem dX5_isLetter_15 : decode cX5_isLetter 15 = .ok (.if_icmp .lt 13, 3) := by decide +kernel
theorem dX5_isLetter_18 : decode cX5_isLetter 18 = .ok (.iload_n 0, 1) := by decide +kernel
theorem dX5_isLetter_19 : decode cX5_isLetter 19 = .ok (.bipush 90, 2) := by decide +kernel
theorem dX5_isLetter_21 : decode cX5_isLetter 21 = .ok (.if_icmp .gt 7, 3) := by decide +kernel
theorem dX5_isLetter_24 : decode cX5_isLetter 24 = .ok (.iconst 1, 1) := by decide +kernel
theorem dX5_isLetter_25 : decode cX5_isLetter 25 = .ok (.goto 4, 3) := by decide +kernel
theorem dX5_isLetter_28 : decode cX5_isLetter 28 = .ok (.iconst 0, 1) := by decide +kernel
theorem dX5_isLetter_29 : decode cX5_isLetter 29 = .ok (.ireturn, 1) := by decide +kernel
theorem dX5_isDigit_0 : decode cX5_isDigit 0 = .ok (.iload_n 0, 1) := by decide +kernel
theorem dX5_isDigit_1 : decode cX5_isDigit 1 = .ok (.bipush 48, 2) := by decide +kernel
theorem dX5_isDigit_3 : decode cX5_isDigit 3 = .ok (.if_icmp .lt 13, 3) := by decide +kernel
theorem dX5_isDigit_6 : decode cX5_isDigit 6 = .ok (.iload_n 0, 1) := by decide +kernel
theorem dX5_isDigit_7 : decode cX5_isDigit 7 = .ok (.bipush 57, 2) := by decide +kernel
theorem dX5_isDigit_9 : decode cX5_isDigit 9 = .ok (.if_icmp .gt 7, 3) := by decide +kernel
theorem dX5_isDigit_12 : decode cX5_isDigit 12 = .ok (.iconst 1, 1) := by decide +kernel
theorem dX5_isDigit_13 : decode cX5_isDigit 13 = .ok (.goto 4, 3) := by decide +kernel
theorem dX5_isDigit_16 : decode cX5_isDigit 16 = .ok (.iconst 0, 1) := by decide +kernel
theorem dX5_isDigit_17 : decode cX5_isDigit 17 = .ok (.ireturn, 1) := by decide +kernel
set_option maxRecDepth 20000 in
theorem ggX5_takeToken_X5_emit : GoodIn wsX5_takeToken wsX5_emit := goodIn_r _ [9, 10, 11, 12, 13, 14, 73, 74, 75, 76, 77, 78, 79, 80, 81, 82, 83, 84, 85, 86, 87, 88, 89] (by decide +kernel) (by decide +kernel)
set_option maxRecDepth 20000 in
theorem gX5_takeToken_X5_emit : GoodIn wsX5_takeToken (wsV RX5 121 RX5 yX5_emit wsX5_emit) := goodIn_app (goodIn_of _ (by decide +kernel)) ggX5_takeToken_X5_emit
set_option maxRecDepth 20000 in
theorem ggX5_takeToken_X8_isSum : GoodIn wsX5_takeToken wsX8_isSum := goodIn_r _ [18] (by decide +kernel) (by decide +kernel)
set_option maxRecDepth 20000 in
theorem gX5_takeToken_X8_isSum : GoodIn wsX5_takeToken (va_wsS RX5 125 yX8_isSum wsX8_isSum) := goodIn_app (goodIn_of _ (by decide +kernel)) ggX5_takeToken_X8_isSum
set_option maxRecDepth 20000 in
theorem ggX5_takeToken_X5_takeClause : GoodIn wsX5_takeToken wsX5_takeClause := goodIn_r _ [22, 2, 3, 1, 4, 23, 24, 25, 8, 26, 27, 28, 29, 30, 31, 32, 33, 34, 35, 36, 37, 38, 39, 40, 41, 12, 13, 14, 42, 43, 44, 45, 46, 5, 6, 7, 9, 10, 11, 73, 74, 75, 76, 77, 78, 79, 80, 81, 82, 83, 84, 85, 86, 87, 88, 89] (by decide +kernel) (by decide +kernel)
set_option maxRecDepth 20000 in
theorem gX5_takeToken_X5_takeClause : GoodIn wsX5_takeToken (wsV RX5 128 RX5 yX5_takeClause wsX5_takeClause) := goodIn_app (goodIn_of _ (by decide +kernel)) ggX5_takeToken_X5_takeClause
set_option maxRecDepth 20000 in
theorem ggX5_takeToken_X5_takeUnit : GoodIn wsX5_takeToken wsX5_takeUnit := goodIn_r _ [45, 2, 3, 1, 46, 5, 6, 7, 8, 9, 10, 11, 12, 13, 14, 29, 30, 31, 32, 33, 34, 35, 73, 74, 75, 76, 77, 78, 79, 80, 81, 82, 83, 84, 85, 86, 87, 88, 89] (by decide +kernel) (by decide +kernel)
set_option maxRecDepth 20000 in
theorem gX5_takeToken_X5_takeUnit : GoodIn wsX5_takeToken (wsV RX5 131 RX5 yX5_takeUnit wsX5_takeUnit) := goodIn_app (goodIn_of _ (by decide +kernel)) ggX5_takeToken_X5_takeUnit
set_option maxRecDepth 20000 in
theorem ggX5_takeToken_X5_takeOwner : GoodIn wsX5_takeToken wsX5_takeOwner := goodIn_r _ [50, 3, 2, 46, 1, 29, 30, 31, 8, 32, 33, 34, 35, 5, 6, 7, 9, 10, 11, 12, 13, 14, 73, 74, 75, 76, 77, 78, 79, 80, 81, 82, 83, 84, 85, 86, 87, 88, 89] (by decide +kernel) (by decide +kernel)
set_option maxRecDepth 20000 in
theorem gX5_takeToken_X5_takeOwner : GoodIn wsX5_takeToken (wsV RX5 134 RX5 yX5_takeOwner wsX5_takeOwner) := goodIn_app (goodIn_of _ (by decide +kernel)) ggX5_takeToken_X5_takeOwner
set_option maxRecDepth 20000 in
theorem ggX5_takeToken_X5_takeBehindUnit : GoodIn wsX5_takeToken wsX5_takeBehindUnit := goodIn_r _ [54, 2, 1, 4, 15, 16, 17, 18, 55, 56, 57, 58, 59, 60, 8, 61, 40, 41, 27, 12, 13, 14, 5, 6, 7, 9, 10, 11, 36, 37, 38, 39, 62, 63, 64, 29, 30, 31, 32, 33, 34, 35, 73, 74, 75, 76, 77, 78, 79, 80, 81, 82, 83, 84, 85, 86, 87, 88, 89] (by decide +kernel) (by decide +kernel)
set_option maxRecDepth 20000 in
theorem gX5_takeToken_X5_takeBehindUnit : GoodIn wsX5_takeToken (wsV RX5 137 RX5 yX5_takeBehindUnit wsX5_takeBehindUnit) := goodIn_app (goodIn_of _ (by decide +kernel)) ggX5_takeToken_X5_takeBehindUnit
set_option maxRecDepth 20000 in
theorem ggX5_takeToken_X5_takeBehindClause : GoodIn wsX5_takeToken wsX5_takeBehindClause := goodIn_r _ [68, 2, 1, 28, 40, 27, 55, 56, 17, 57, 58, 59, 60, 8, 61, 41, 12, 13, 14, 5, 6, 7, 9, 10, 11, 36, 37, 38, 39, 29, 30, 31, 32, 33, 34, 35, 73, 74, 75, 76, 77, 78, 79, 80, 81, 82, 83, 84, 85, 86, 87, 88, 89] (by decide +kernel) (by decide +kernel)
set_option maxRecDepth 20000 in
theorem gX5_takeToken_X5_takeBehindClause : GoodIn wsX5_takeToken (wsV RX5 140 RX5 yX5_takeBehindClause wsX5_takeBehindClause) := goodIn_app (goodIn_of _ (by decide +kernel)) ggX5_takeToken_X5_takeBehindClause
set_option maxRecDepth 20000 in
theorem ggX5_takeToken_X5_takeLast : GoodIn wsX5_takeToken wsX5_takeLast := goodIn_r _ [72, 2, 1, 29, 30, 31, 8, 32, 33, 34, 35, 73, 74, 75, 76, 77, 78, 79, 80, 81, 82, 83, 84, 85, 86, 87, 88, 89] (by decide +kernel) (by decide +kernel)
set_option maxRecDepth 20000 in
theorem gX5_takeToken_X5_takeLast : GoodIn wsX5_takeToken (wsV RX5 143 RX5 yX5_takeLast wsX5_takeLast) := goodIn_app (goodIn_of _ (by decide +kernel)) ggX5_takeToken_X5_takeLast
theorem dX5_takeToken_0 : decode cX5_takeToken 0 = .ok (.aload_n 0, 1) := by decide +kernel
theorem dX5_takeToken_1 : decode cX5_takeToken 1 = .ok (.getfield 50, 3) := by decide +kernel
theorem dX5_takeToken_4 : decode cX5_takeToken 4 = .ok (.bipush 7, 2) := by decide +kernel
theorem dX5_takeToken_6 : decode cX5_takeToken 6 = .ok (.if_icmp .ne 20, 3) := by decide +kernel
theorem dX5_takeToken_9 : decode cX5_takeToken 9 = .ok (.aload_n 0, 1) := by decide +kernel
theorem dX5_takeToken_10 : decode cX5_takeToken 10 = .ok (.aload_n 0, 1) := by decide +kernel
theorem dX5_takeToken_11 : decode cX5_takeToken 11 = .ok (.getfield 64, 3) := by decide +kernel
theorem dX5_takeToken_14 : decode cX5_takeToken 14 = .ok (.ifCond .ne 8, 3) := by decide +kernel
theorem dX5_takeToken_17 : decode cX5_takeToken 17 = .ok (.bipush 8, 2) := by decide +kernel
theorem dX5_takeToken_19 : decode cX5_takeToken 19 = .ok (.goto 4, 3) := by decide +kernel
theorem dX5_takeToken_22 : decode cX5_takeToken 22 = .ok (.iconst 0, 1) := by decide +kernel
theorem dX5_takeToken_23 : decode cX5_takeToken 23 = .ok (.putfield 50, 3) := by decide +kernel
theorem dX5_takeToken_26 : decode cX5_takeToken 26 = .ok (.aload_n 0, 1) := by decide +kernel
theorem dX5_takeToken_27 : decode cX5_takeToken 27 = .ok (.getfield 50, 3) := by decide +kernel
theorem dX5_takeToken_30 : decode cX5_takeToken 30 = .ok (.iconst 3, 1) := by decide +kernel
theorem dX5_takeToken_31 : decode cX5_takeToken 31 = .ok (.if_icmp .ne 25, 3) := by decide +kernel
theorem dX5_takeToken_34 : decode cX5_takeToken 34 = .ok (.aload_n 0, 1) := by decide +kernel
theorem dX5_takeToken_35 : decode cX5_takeToken 35 = .ok (.getfield 64, 3) := by decide +kernel
theorem dX5_takeToken_38 : decode cX5_takeToken 38 = .ok (.iconst 5, 1) := by decide +kernel
theorem dX5_takeToken_39 : decode cX5_takeToken 39 = .ok (.if_icmp .eq 17, 3) := by decide +kernel
theorem dX5_takeToken_42 : decode cX5_takeToken 42 = .ok (.aload_n 0, 1) := by decide +kernel
theorem dX5_takeToken_43 : decode cX5_takeToken 43 = .ok (.aload_n 0, 1) := by decide +kernel
theorem dX5_takeToken_44 : decode cX5_takeToken 44 = .ok (.getfield 118, 3) := by decide +kernel
theorem dX5_takeToken_47 : decode cX5_takeToken 47 = .ok (.iconst 0, 1) := by decide +kernel
theorem dX5_takeToken_48 : decode cX5_takeToken 48 = .ok (.invokevirtual 121, 3) := by decide +kernel
theorem dX5_takeToken_51 : decode cX5_takeToken 51 = .ok (.aload_n 0, 1) := by decide +kernel
theorem dX5_takeToken_52 : decode cX5_takeToken 52 = .ok (.iconst 4, 1) := by decide +kernel
theorem dX5_takeToken_53 : decode cX5_takeToken 53 = .ok (.putfield 50, 3) := by decide +kernel
theorem dX5_takeToken_56 : decode cX5_takeToken 56 = .ok (.aload_n 0, 1) := by decide +kernel
theorem dX5_takeToken_57 : decode cX5_takeToken 57 = .ok (.getfield 50, 3) := by decide +kernel
theorem dX5_takeToken_60 : decode cX5_takeToken 60 = .ok (.iconst 4, 1) := by decide +kernel
theorem dX5_takeToken_61 : decode cX5_takeToken 61 = .ok (.if_icmp .ne 25, 3) := by decide +kernel
theorem dX5_takeToken_64 : decode cX5_takeToken 64 = .ok (.aload_n 0, 1) := by decide +kernel
theorem dX5_takeToken_65 : decode cX5_takeToken 65 = .ok (.getfield 40, 3) := by decide +kernel
theorem dX5_takeToken_68 : decode cX5_takeToken 68 = .ok (.ifCond .eq 18, 3) := by decide +kernel
theorem dX5_takeToken_71 : decode cX5_takeToken 71 = .ok (.aload_n 0, 1) := by decide +kernel
theorem dX5_takeToken_72 : decode cX5_takeToken 72 = .ok (.getfield 64, 3) := by decide +kernel
theorem dX5_takeToken_75 : decode cX5_takeToken 75 = .ok (.invokestatic 125, 3) := by decide +kernel
theorem dX5_takeToken_78 : decode cX5_takeToken 78 = .ok (.ifCond .ne 8, 3) := by decide +kernel
theorem dX5_takeToken_81 : decode cX5_takeToken 81 = .ok (.aload_n 0, 1) := by decide +kernel
theorem dX5_takeToken_82 : decode cX5_takeToken 82 = .ok (.iconst 5, 1) := by decide +kernel
theorem dX5_takeToken_83 : decode cX5_takeToken 83 = .ok (.putfield 50, 3) := by decide +kernel
theorem dX5_takeToken_86 : decode cX5_takeToken 86 = .ok (.aload_n 0, 1) := by decide +kernel
theorem dX5_takeToken_87 : decode cX5_takeToken 87 = .ok (.getfield 50, 3) := by decide +kernel
theorem dX5_takeToken_90 : decode cX5_takeToken 90 = .ok (.tableswitch 92 0 6 #[42, 49, 56, 63, 71, 78, 85], 42) := by decide +kernel
theorem dX5_takeToken_132 : decode cX5_takeToken 132 = .ok (.aload_n 0, 1) := by decide +kernel
theorem dX5_takeToken_133 : decode cX5_takeToken 133 = .ok (.invokevirtual 128, 3) := by decide +kernel
theorem dX5_takeToken_136 : decode cX5_takeToken 136 = .ok (.goto 46, 3) := by decide +kernel
theorem dX5_takeToken_139 : decode cX5_takeToken 139 = .ok (.aload_n 0, 1) := by decide +kernel
theorem dX5_takeToken_140 : decode cX5_takeToken 140 = .ok (.invokevirtual 131, 3) := by decide +kernel
theorem dX5_takeToken_143 : decode cX5_takeToken 143 = .ok (.goto 39, 3) := by decide +kernel
theorem dX5_takeToken_146 : decode cX5_takeToken 146 = .ok (.aload_n 0, 1) := by decide +kernel
theorem dX5_takeToken_147 : decode cX5_takeToken 147 = .ok (.invokevirtual 134, 3) := by decide +kernel
theorem dX5_takeToken_150 : decode cX5_takeToken 150 = .ok (.goto 32, 3) := by decide +kernel
theorem dX5_takeToken_153 : decode cX5_takeToken 153 = .ok (.aload_n 0, 1) := by decide +kernel
theorem dX5_takeToken_154 : decode cX5_takeToken 154 = .ok (.iconst 2, 1) := by decide +kernel
theorem dX5_takeToken_155 : decode cX5_takeToken 155 = .ok (.putfield 50, 3) := by decide +kernel
theorem dX5_takeToken_158 : decode cX5_takeToken 158 = .ok (.goto 24, 3) := by decide +kernel
theorem dX5_takeToken_161 : decode cX5_takeToken 161 = .ok (.aload_n 0, 1) := by decide +kernel
theorem dX5_takeToken_162 : decode cX5_takeToken 162 = .ok (.invokevirtual 137, 3) := by decide +kernel
theorem dX5_takeToken_165 : decode cX5_takeToken 165 = .ok (.goto 17, 3) := by decide +kernel
theorem dX5_takeToken_168 : decode cX5_takeToken 168 = .ok (.aload_n 0, 1) := by decide +kernel
theorem dX5_takeToken_169 : decode cX5_takeToken 169 = .ok (.invokevirtual 140, 3) := by decide +kernel
theorem dX5_takeToken_172 : decode cX5_takeToken 172 = .ok (.goto 10, 3) := by decide +kernel
theorem dX5_takeToken_175 : decode cX5_takeToken 175 = .ok (.aload_n 0, 1) := by decide +kernel
theorem dX5_takeToken_176 : decode cX5_takeToken 176 = .ok (.invokevirtual 143, 3) := by decide +kernel
theorem dX5_takeToken_179 : decode cX5_takeToken 179 = .ok (.goto 3, 3) := by decide +kernel
theorem dX5_takeToken_182 : decode cX5_takeToken 182 = .ok (.return_, 1) := by decide +kernel
set_option maxRecDepth 20000 in
theorem ggX5_takeClause_X5_takeOpening : GoodIn wsX5_takeClause wsX5_takeOpening := goodIn_r _ [9, 10, 1, 11, 3, 12, 13, 14, 8, 15, 16, 17, 18, 19, 20, 21, 22, 23, 24, 25, 26, 27, 39, 40, 41, 42, 43, 44, 45, 46, 47, 48, 49, 50, 51, 52, 53, 54, 55] (by decide +kernel) (by decide +kernel)
set_option maxRecDepth 20000 in
theorem gX5_takeClause_X5_takeOpening : GoodIn wsX5_takeClause (wsV RX5 146 RX5 yX5_takeOpening wsX5_takeOpening) := goodIn_app (goodIn_of _ (by decide +kernel)) ggX5_takeClause_X5_takeOpening
set_option maxRecDepth 20000 in
theorem ggX5_takeClause_X5_takeUnit : GoodIn wsX5_takeClause wsX5_takeUnit := goodIn_r _ [31, 1, 2, 3, 32, 33, 34, 35, 8, 36, 37, 38, 25, 26, 27, 12, 13, 14, 15, 16, 17, 18, 39, 40, 41, 42, 43, 44, 45, 46, 47, 48, 49, 50, 51, 52, 53, 54, 55] (by decide +kernel) (by decide +kernel)
set_option maxRecDepth 20000 in
theorem gX5_takeClause_X5_takeUnit : GoodIn wsX5_takeClause (wsV RX5 131 RX5 yX5_takeUnit wsX5_takeUnit) := goodIn_app (goodIn_of _ (by decide +kernel)) ggX5_takeClause_X5_takeUnit
theorem dX5_takeClause_0 : decode cX5_takeClause 0 = .ok (.aload_n 0, 1) := by decide +kernel
theorem dX5_takeClause_1 : decode cX5_takeClause 1 = .ok (.getfield 64, 3) := by decide +kernel
theorem dX5_takeClause_4 : decode cX5_takeClause 4 = .ok (.bipush 14, 2) := by decide +kernel
theorem dX5_takeClause_6 : decode cX5_takeClause 6 = .ok (.if_icmp .eq 11, 3) := by decide +kernel
theorem dX5_takeClause_9 : decode cX5_takeClause 9 = .ok (.aload_n 0, 1) := by decide +kernel
theorem dX5_takeClause_10 : decode cX5_takeClause 10 = .ok (.getfield 64, 3) := by decide +kernel
theorem dX5_takeClause_13 : decode cX5_takeClause 13 = .ok (.iconst 3, 1) := by decide +kernel
theorem dX5_takeClause_14 : decode cX5_takeClause 14 = .ok (.if_icmp .ne 10, 3) := by decide +kernel
theorem dX5_takeClause_17 : decode cX5_takeClause 17 = .ok (.aload_n 0, 1) := by decide +kernel
theorem dX5_takeClause_18 : decode cX5_takeClause 18 = .ok (.invokevirtual 146, 3) := by decide +kernel
theorem dX5_takeClause_21 : decode cX5_takeClause 21 = .ok (.goto 35, 3) := by decide +kernel
theorem dX5_takeClause_24 : decode cX5_takeClause 24 = .ok (.aload_n 0, 1) := by decide +kernel
theorem dX5_takeClause_25 : decode cX5_takeClause 25 = .ok (.getfield 64, 3) := by decide +kernel
theorem dX5_takeClause_28 : decode cX5_takeClause 28 = .ok (.bipush 11, 2) := by decide +kernel
theorem dX5_takeClause_30 : decode cX5_takeClause 30 = .ok (.if_icmp .ne 17, 3) := by decide +kernel
theorem dX5_takeClause_33 : decode cX5_takeClause 33 = .ok (.aload_n 0, 1) := by decide +kernel
