theorem dX0_init_0 : decode cX0_init 0 = .ok (.aload_n 0, 1) := by decide +kernel
theorem dX0_init_1 : decode cX0_init 1 = .ok (.invokespecial 3, 3) := by decide +kernel
theorem dX0_init_4 : decode cX0_init 4 = .ok (.aload_n 0, 1) := by decide +kernel
theorem dX0_init_5 : decode cX0_init 5 = .ok (.bipush 48, 2) := by decide +kernel
theorem dX0_init_7 : decode cX0_init 7 = .ok (.newarray .int, 2) := by decide +kernel
theorem dX0_init_9 : decode cX0_init 9 = .ok (.putfield 9, 3) := by decide +kernel
theorem dX0_init_12 : decode cX0_init 12 = .ok (.aload_n 0, 1) := by decide +kernel
theorem dX0_init_13 : decode cX0_init 13 = .ok (.bipush 6, 2) := by decide +kernel
theorem dX0_init_15 : decode cX0_init 15 = .ok (.newarray .int, 2) := by decide +kernel
theorem dX0_init_17 : decode cX0_init 17 = .ok (.putfield 15, 3) := by decide +kernel
theorem dX0_init_20 : decode cX0_init 20 = .ok (.aload_n 0, 1) := by decide +kernel
theorem dX0_init_21 : decode cX0_init 21 = .ok (.bipush 6, 2) := by decide +kernel
theorem dX0_init_23 : decode cX0_init 23 = .ok (.newarray .int, 2) := by decide +kernel
theorem dX0_init_25 : decode cX0_init 25 = .ok (.putfield 18, 3) := by decide +kernel
theorem dX0_init_28 : decode cX0_init 28 = .ok (.aload_n 0, 1) := by decide +kernel
theorem dX0_init_29 : decode cX0_init 29 = .ok (.bipush 8, 2) := by decide +kernel
theorem dX0_init_31 : decode cX0_init 31 = .ok (.newarray .int, 2) := by decide +kernel
theorem dX0_init_33 : decode cX0_init 33 = .ok (.putfield 21, 3) := by decide +kernel
theorem dX0_init_36 : decode cX0_init 36 = .ok (.aload_n 0, 1) := by decide +kernel
theorem dX0_init_37 : decode cX0_init 37 = .ok (.bipush 8, 2) := by decide +kernel
theorem dX0_init_39 : decode cX0_init 39 = .ok (.newarray .int, 2) := by decide +kernel
theorem dX0_init_41 : decode cX0_init 41 = .ok (.putfield 24, 3) := by decide +kernel
theorem dX0_init_44 : decode cX0_init 44 = .ok (.aload_n 0, 1) := by decide +kernel
theorem dX0_init_45 : decode cX0_init 45 = .ok (.bipush 6, 2) := by decide +kernel
theorem dX0_init_47 : decode cX0_init 47 = .ok (.newarray .int, 2) := by decide +kernel
theorem dX0_init_49 : decode cX0_init 49 = .ok (.putfield 27, 3) := by decide +kernel
theorem dX0_init_52 : decode cX0_init 52 = .ok (.aload_n 0, 1) := by decide +kernel
theorem dX0_init_53 : decode cX0_init 53 = .ok (.sipush 256, 3) := by decide +kernel
theorem dX0_init_56 : decode cX0_init 56 = .ok (.newarray .int, 2) := by decide +kernel
theorem dX0_init_58 : decode cX0_init 58 = .ok (.putfield 30, 3) := by decide +kernel
theorem dX0_init_61 : decode cX0_init 61 = .ok (.aload_n 0, 1) := by decide +kernel
theorem dX0_init_62 : decode cX0_init 62 = .ok (.sipush 1536, 3) := by decide +kernel
theorem dX0_init_65 : decode cX0_init 65 = .ok (.newarray .int, 2) := by decide +kernel
theorem dX0_init_67 : decode cX0_init 67 = .ok (.putfield 33, 3) := by decide +kernel
theorem dX0_init_70 : decode cX0_init 70 = .ok (.return_, 1) := by decide +kernel
set_option maxRecDepth 20000 in
theorem ggX0_price_X11_inside : GoodIn wsX0_price wsX11_inside := goodIn_r _ [4] (by decide +kernel) (by decide +kernel)
set_option maxRecDepth 20000 in
theorem gX0_price_X11_inside_n36 : GoodIn wsX0_price (wsX11_inside) := ggX0_price_X11_inside
theorem dX0_price_0 : decode cX0_price 0 = .ok (.iload_n 1, 1) := by decide +kernel
theorem dX0_price_1 : decode cX0_price 1 = .ok (.bipush 8, 2) := by decide +kernel
theorem dX0_price_3 : decode cX0_price 3 = .ok (.invokestatic 36, 3) := by decide +kernel
theorem dX0_price_6 : decode cX0_price 6 = .ok (.ifCond .eq 24, 3) := by decide +kernel
theorem dX0_price_9 : decode cX0_price 9 = .ok (.iload_n 2, 1) := by decide +kernel
theorem dX0_price_10 : decode cX0_price 10 = .ok (.bipush 6, 2) := by decide +kernel
theorem dX0_price_12 : decode cX0_price 12 = .ok (.invokestatic 36, 3) := by decide +kernel
theorem dX0_price_15 : decode cX0_price 15 = .ok (.ifCond .eq 15, 3) := by decide +kernel
theorem dX0_price_18 : decode cX0_price 18 = .ok (.aload_n 0, 1) := by decide +kernel
theorem dX0_price_19 : decode cX0_price 19 = .ok (.getfield 9, 3) := by decide +kernel
theorem dX0_price_22 : decode cX0_price 22 = .ok (.iload_n 1, 1) := by decide +kernel
theorem dX0_price_23 : decode cX0_price 23 = .ok (.bipush 6, 2) := by decide +kernel
theorem dX0_price_25 : decode cX0_price 25 = .ok (.imul, 1) := by decide +kernel
theorem dX0_price_26 : decode cX0_price 26 = .ok (.iload_n 2, 1) := by decide +kernel
theorem dX0_price_27 : decode cX0_price 27 = .ok (.iadd, 1) := by decide +kernel
theorem dX0_price_28 : decode cX0_price 28 = .ok (.iload_n 3, 1) := by decide +kernel
theorem dX0_price_29 : decode cX0_price 29 = .ok (.iastore, 1) := by decide +kernel
theorem dX0_price_30 : decode cX0_price 30 = .ok (.return_, 1) := by decide +kernel
set_option maxRecDepth 20000 in
theorem ggX0_priceOf_X11_inside : GoodIn wsX0_priceOf wsX11_inside := goodIn_r _ [4] (by decide +kernel) (by decide +kernel)
set_option maxRecDepth 20000 in
theorem gX0_priceOf_X11_inside_n36 : GoodIn wsX0_priceOf (wsX11_inside) := ggX0_priceOf_X11_inside
theorem dX0_priceOf_0 : decode cX0_priceOf 0 = .ok (.iload_n 1, 1) := by decide +kernel
theorem dX0_priceOf_1 : decode cX0_priceOf 1 = .ok (.bipush 8, 2) := by decide +kernel
theorem dX0_priceOf_3 : decode cX0_priceOf 3 = .ok (.invokestatic 36, 3) := by decide +kernel
theorem dX0_priceOf_6 : decode cX0_priceOf 6 = .ok (.ifCond .eq 26, 3) := by decide +kernel
theorem dX0_priceOf_9 : decode cX0_priceOf 9 = .ok (.iload_n 2, 1) := by decide +kernel
theorem dX0_priceOf_10 : decode cX0_priceOf 10 = .ok (.bipush 6, 2) := by decide +kernel
theorem dX0_priceOf_12 : decode cX0_priceOf 12 = .ok (.invokestatic 36, 3) := by decide +kernel
theorem dX0_priceOf_15 : decode cX0_priceOf 15 = .ok (.ifCond .eq 17, 3) := by decide +kernel
theorem dX0_priceOf_18 : decode cX0_priceOf 18 = .ok (.aload_n 0, 1) := by decide +kernel
theorem dX0_priceOf_19 : decode cX0_priceOf 19 = .ok (.getfield 9, 3) := by decide +kernel
theorem dX0_priceOf_22 : decode cX0_priceOf 22 = .ok (.iload_n 1, 1) := by decide +kernel
theorem dX0_priceOf_23 : decode cX0_priceOf 23 = .ok (.bipush 6, 2) := by decide +kernel
theorem dX0_priceOf_25 : decode cX0_priceOf 25 = .ok (.imul, 1) := by decide +kernel
theorem dX0_priceOf_26 : decode cX0_priceOf 26 = .ok (.iload_n 2, 1) := by decide +kernel
theorem dX0_priceOf_27 : decode cX0_priceOf 27 = .ok (.iadd, 1) := by decide +kernel
theorem dX0_priceOf_28 : decode cX0_priceOf 28 = .ok (.iaload, 1) := by decide +kernel
theorem dX0_priceOf_29 : decode cX0_priceOf 29 = .ok (.goto 4, 3) := by decide +kernel
theorem dX0_priceOf_32 : decode cX0_priceOf 32 = .ok (.iconst 0, 1) := by decide +kernel
theorem dX0_priceOf_33 : decode cX0_priceOf 33 = .ok (.ireturn, 1) := by decide +kernel
set_option maxRecDepth 20000 in
theorem ggX0_weigh_X11_has : GoodIn wsX0_weigh wsX11_has := goodIn_r _ [4] (by decide +kernel) (by decide +kernel)
set_option maxRecDepth 20000 in
theorem gX0_weigh_X11_has_n40 : GoodIn wsX0_weigh (wsX11_has) := ggX0_weigh_X11_has
set_option maxRecDepth 20000 in
theorem ggX0_weigh_X7_ofBloc : GoodIn wsX0_weigh wsX7_ofBloc := goodIn_r _ [9, 10, 25, 26, 27, 28] (by decide +kernel) (by decide +kernel)
set_option maxRecDepth 20000 in
theorem gX0_weigh_X7_ofBloc : GoodIn wsX0_weigh (wsV RX0 43 RX7 yX7_ofBloc wsX7_ofBloc) := goodIn_app (goodIn_of _ (by decide +kernel)) ggX0_weigh_X7_ofBloc
set_option maxRecDepth 20000 in
theorem ggX0_weigh_X7_weightOf : GoodIn wsX0_weigh wsX7_weightOf := goodIn_r _ [14, 15, 25, 26, 27, 28] (by decide +kernel) (by decide +kernel)
set_option maxRecDepth 20000 in
theorem gX0_weigh_X7_weightOf : GoodIn wsX0_weigh (wsV RX0 49 RX7 yX7_weightOf wsX7_weightOf) := goodIn_app (goodIn_of _ (by decide +kernel)) ggX0_weigh_X7_weightOf
theorem dX0_weigh_0 : decode cX0_weigh 0 = .ok (.iconst 1, 1) := by decide +kernel
theorem dX0_weigh_1 : decode cX0_weigh 1 = .ok (.istore_n 3, 1) := by decide +kernel
theorem dX0_weigh_2 : decode cX0_weigh 2 = .ok (.iconst 0, 1) := by decide +kernel
theorem dX0_weigh_3 : decode cX0_weigh 3 = .ok (.istore 4, 2) := by decide +kernel
theorem dX0_weigh_5 : decode cX0_weigh 5 = .ok (.iload 4, 2) := by decide +kernel
theorem dX0_weigh_7 : decode cX0_weigh 7 = .ok (.bipush 6, 2) := by decide +kernel
theorem dX0_weigh_9 : decode cX0_weigh 9 = .ok (.if_icmp .ge 60, 3) := by decide +kernel
theorem dX0_weigh_12 : decode cX0_weigh 12 = .ok (.aload_n 0, 1) := by decide +kernel
theorem dX0_weigh_13 : decode cX0_weigh 13 = .ok (.getfield 15, 3) := by decide +kernel
theorem dX0_weigh_16 : decode cX0_weigh 16 = .ok (.iload 4, 2) := by decide +kernel
theorem dX0_weigh_18 : decode cX0_weigh 18 = .ok (.iload_n 1, 1) := by decide +kernel
theorem dX0_weigh_19 : decode cX0_weigh 19 = .ok (.iload 4, 2) := by decide +kernel
theorem dX0_weigh_21 : decode cX0_weigh 21 = .ok (.invokestatic 40, 3) := by decide +kernel
theorem dX0_weigh_24 : decode cX0_weigh 24 = .ok (.ifCond .eq 16, 3) := by decide +kernel
theorem dX0_weigh_27 : decode cX0_weigh 27 = .ok (.aload_n 2, 1) := by decide +kernel
theorem dX0_weigh_28 : decode cX0_weigh 28 = .ok (.aload_n 2, 1) := by decide +kernel
theorem dX0_weigh_29 : decode cX0_weigh 29 = .ok (.iload 4, 2) := by decide +kernel
theorem dX0_weigh_31 : decode cX0_weigh 31 = .ok (.invokevirtual 43, 3) := by decide +kernel
theorem dX0_weigh_34 : decode cX0_weigh 34 = .ok (.invokevirtual 49, 3) := by decide +kernel
theorem dX0_weigh_37 : decode cX0_weigh 37 = .ok (.goto 4, 3) := by decide +kernel
theorem dX0_weigh_40 : decode cX0_weigh 40 = .ok (.iconst 0, 1) := by decide +kernel
theorem dX0_weigh_41 : decode cX0_weigh 41 = .ok (.iastore, 1) := by decide +kernel
theorem dX0_weigh_42 : decode cX0_weigh 42 = .ok (.iload_n 1, 1) := by decide +kernel
theorem dX0_weigh_43 : decode cX0_weigh 43 = .ok (.iload 4, 2) := by decide +kernel
theorem dX0_weigh_45 : decode cX0_weigh 45 = .ok (.invokestatic 40, 3) := by decide +kernel
theorem dX0_weigh_48 : decode cX0_weigh 48 = .ok (.ifCond .eq 15, 3) := by decide +kernel
theorem dX0_weigh_51 : decode cX0_weigh 51 = .ok (.aload_n 0, 1) := by decide +kernel
theorem dX0_weigh_52 : decode cX0_weigh 52 = .ok (.getfield 15, 3) := by decide +kernel
theorem dX0_weigh_55 : decode cX0_weigh 55 = .ok (.iload 4, 2) := by decide +kernel
theorem dX0_weigh_57 : decode cX0_weigh 57 = .ok (.iaload, 1) := by decide +kernel
theorem dX0_weigh_58 : decode cX0_weigh 58 = .ok (.ifCond .ne 5, 3) := by decide +kernel
theorem dX0_weigh_61 : decode cX0_weigh 61 = .ok (.iconst 0, 1) := by decide +kernel
theorem dX0_weigh_62 : decode cX0_weigh 62 = .ok (.istore_n 3, 1) := by decide +kernel
theorem dX0_weigh_63 : decode cX0_weigh 63 = .ok (.iinc 4 1, 3) := by decide +kernel
theorem dX0_weigh_66 : decode cX0_weigh 66 = .ok (.goto (-61), 3) := by decide +kernel
theorem dX0_weigh_69 : decode cX0_weigh 69 = .ok (.iload_n 3, 1) := by decide +kernel
theorem dX0_weigh_70 : decode cX0_weigh 70 = .ok (.ireturn, 1) := by decide +kernel
set_option maxRecDepth 20000 in
theorem ggX0_queueUp_J7_fill_53178 : GoodIn wsX0_queueUp wsJ7_fill_53178 := goodIn_r _ [11] (by decide +kernel) (by decide +kernel)
set_option maxRecDepth 20000 in
theorem gX0_queueUp_J7_fill_53178 : GoodIn wsX0_queueUp (va_wsS RX0 52 yJ7_fill_53178 wsJ7_fill_53178) := goodIn_app (goodIn_of _ (by decide +kernel)) ggX0_queueUp_J7_fill_53178
set_option maxRecDepth 20000 in
theorem ggX0_queueUp_X11_has : GoodIn wsX0_queueUp wsX11_has := goodIn_r _ [14] (by decide +kernel) (by decide +kernel)
set_option maxRecDepth 20000 in
theorem gX0_queueUp_X11_has_n40 : GoodIn wsX0_queueUp (wsX11_has) := ggX0_queueUp_X11_has
set_option maxRecDepth 20000 in
theorem ggX0_queueUp_X0_isAhead : GoodIn wsX0_queueUp wsX0_isAhead := goodIn_r _ [19, 20, 1, 21, 13, 22, 23, 24, 25, 26, 27, 28, 29, 30, 31] (by decide +kernel) (by decide +kernel)
set_option maxRecDepth 20000 in
theorem gX0_queueUp_X0_isAhead : GoodIn wsX0_queueUp (wsV RX0 68 RX0 yX0_isAhead wsX0_isAhead) := goodIn_app (goodIn_of _ (by decide +kernel)) ggX0_queueUp_X0_isAhead
set_option maxRecDepth 20000 in
theorem ggX0_queueUp_X11_inside : GoodIn wsX0_queueUp wsX11_inside := goodIn_r _ [22] (by decide +kernel) (by decide +kernel)
set_option maxRecDepth 20000 in
theorem gX0_queueUp_X11_inside_n36 : GoodIn wsX0_queueUp (wsX11_inside) := ggX0_queueUp_X11_inside
theorem dX0_queueUp_0 : decode cX0_queueUp 0 = .ok (.aload_n 0, 1) := by decide +kernel
theorem dX0_queueUp_1 : decode cX0_queueUp 1 = .ok (.getfield 18, 3) := by decide +kernel
theorem dX0_queueUp_4 : decode cX0_queueUp 4 = .ok (.iconst 0, 1) := by decide +kernel
theorem dX0_queueUp_5 : decode cX0_queueUp 5 = .ok (.invokestatic 52, 3) := by decide +kernel
theorem dX0_queueUp_8 : decode cX0_queueUp 8 = .ok (.aload_n 0, 1) := by decide +kernel
theorem dX0_queueUp_9 : decode cX0_queueUp 9 = .ok (.iload_n 2, 1) := by decide +kernel
theorem dX0_queueUp_10 : decode cX0_queueUp 10 = .ok (.bipush 8, 2) := by decide +kernel
theorem dX0_queueUp_12 : decode cX0_queueUp 12 = .ok (.invokestatic 58, 3) := by decide +kernel
theorem dX0_queueUp_15 : decode cX0_queueUp 15 = .ok (.putfield 64, 3) := by decide +kernel
theorem dX0_queueUp_18 : decode cX0_queueUp 18 = .ok (.iconst 0, 1) := by decide +kernel
theorem dX0_queueUp_19 : decode cX0_queueUp 19 = .ok (.istore 4, 2) := by decide +kernel
theorem dX0_queueUp_21 : decode cX0_queueUp 21 = .ok (.iload 4, 2) := by decide +kernel
theorem dX0_queueUp_23 : decode cX0_queueUp 23 = .ok (.aload_n 0, 1) := by decide +kernel
theorem dX0_queueUp_24 : decode cX0_queueUp 24 = .ok (.getfield 64, 3) := by decide +kernel
theorem dX0_queueUp_27 : decode cX0_queueUp 27 = .ok (.if_icmp .ge 89, 3) := by decide +kernel
theorem dX0_queueUp_30 : decode cX0_queueUp 30 = .ok (.iconst (-1), 1) := by decide +kernel
theorem dX0_queueUp_31 : decode cX0_queueUp 31 = .ok (.istore 5, 2) := by decide +kernel
theorem dX0_queueUp_33 : decode cX0_queueUp 33 = .ok (.iconst 0, 1) := by decide +kernel
theorem dX0_queueUp_34 : decode cX0_queueUp 34 = .ok (.istore 6, 2) := by decide +kernel
theorem dX0_queueUp_36 : decode cX0_queueUp 36 = .ok (.iload 6, 2) := by decide +kernel
theorem dX0_queueUp_38 : decode cX0_queueUp 38 = .ok (.bipush 6, 2) := by decide +kernel
theorem dX0_queueUp_40 : decode cX0_queueUp 40 = .ok (.if_icmp .ge 40, 3) := by decide +kernel
theorem dX0_queueUp_43 : decode cX0_queueUp 43 = .ok (.iload_n 1, 1) := by decide +kernel
theorem dX0_queueUp_44 : decode cX0_queueUp 44 = .ok (.iload 6, 2) := by decide +kernel
theorem dX0_queueUp_46 : decode cX0_queueUp 46 = .ok (.invokestatic 40, 3) := by decide +kernel
theorem dX0_queueUp_49 : decode cX0_queueUp 49 = .ok (.ifCond .eq 25, 3) := by decide +kernel
theorem dX0_queueUp_52 : decode cX0_queueUp 52 = .ok (.iload 5, 2) := by decide +kernel
theorem dX0_queueUp_54 : decode cX0_queueUp 54 = .ok (.iconst (-1), 1) := by decide +kernel
theorem dX0_queueUp_55 : decode cX0_queueUp 55 = .ok (.if_icmp .eq 15, 3) := by decide +kernel
theorem dX0_queueUp_58 : decode cX0_queueUp 58 = .ok (.aload_n 0, 1) := by decide +kernel
theorem dX0_queueUp_59 : decode cX0_queueUp 59 = .ok (.iload 6, 2) := by decide +kernel
theorem dX0_queueUp_61 : decode cX0_queueUp 61 = .ok (.iload 5, 2) := by decide +kernel
theorem dX0_queueUp_63 : decode cX0_queueUp 63 = .ok (.iload_n 3, 1) := by decide +kernel
theorem dX0_queueUp_64 : decode cX0_queueUp 64 = .ok (.invokevirtual 68, 3) := by decide +kernel
theorem dX0_queueUp_67 : decode cX0_queueUp 67 = .ok (.ifCond .eq 7, 3) := by decide +kernel
theorem dX0_queueUp_70 : decode cX0_queueUp 70 = .ok (.iload 6, 2) := by decide +kernel
theorem dX0_queueUp_72 : decode cX0_queueUp 72 = .ok (.istore 5, 2) := by decide +kernel
theorem dX0_queueUp_74 : decode cX0_queueUp 74 = .ok (.iinc 6 1, 3) := by decide +kernel
theorem dX0_queueUp_77 : decode cX0_queueUp 77 = .ok (.goto (-41), 3) := by decide +kernel
theorem dX0_queueUp_80 : decode cX0_queueUp 80 = .ok (.aload_n 0, 1) := by decide +kernel
theorem dX0_queueUp_81 : decode cX0_queueUp 81 = .ok (.getfield 21, 3) := by decide +kernel
theorem dX0_queueUp_84 : decode cX0_queueUp 84 = .ok (.iload 4, 2) := by decide +kernel
theorem dX0_queueUp_86 : decode cX0_queueUp 86 = .ok (.iload 5, 2) := by decide +kernel
theorem dX0_queueUp_88 : decode cX0_queueUp 88 = .ok (.iastore, 1) := by decide +kernel
theorem dX0_queueUp_89 : decode cX0_queueUp 89 = .ok (.iload 5, 2) := by decide +kernel
theorem dX0_queueUp_91 : decode cX0_queueUp 91 = .ok (.bipush 6, 2) := by decide +kernel
theorem dX0_queueUp_93 : decode cX0_queueUp 93 = .ok (.invokestatic 36, 3) := by decide +kernel
theorem dX0_queueUp_96 : decode cX0_queueUp 96 = .ok (.ifCond .eq 14, 3) := by decide +kernel
theorem dX0_queueUp_99 : decode cX0_queueUp 99 = .ok (.aload_n 0, 1) := by decide +kernel
theorem dX0_queueUp_100 : decode cX0_queueUp 100 = .ok (.getfield 18, 3) := by decide +kernel
theorem dX0_queueUp_103 : decode cX0_queueUp 103 = .ok (.iload 5, 2) := by decide +kernel
theorem dX0_queueUp_105 : decode cX0_queueUp 105 = .ok (.dup2, 1) := by decide +kernel
theorem dX0_queueUp_106 : decode cX0_queueUp 106 = .ok (.iaload, 1) := by decide +kernel
theorem dX0_queueUp_107 : decode cX0_queueUp 107 = .ok (.iconst 1, 1) := by decide +kernel
theorem dX0_queueUp_108 : decode cX0_queueUp 108 = .ok (.iadd, 1) := by decide +kernel
theorem dX0_queueUp_109 : decode cX0_queueUp 109 = .ok (.iastore, 1) := by decide +kernel
theorem dX0_queueUp_110 : decode cX0_queueUp 110 = .ok (.iinc 4 1, 3) := by decide +kernel
theorem dX0_queueUp_113 : decode cX0_queueUp 113 = .ok (.goto (-92), 3) := by decide +kernel
theorem dX0_queueUp_116 : decode cX0_queueUp 116 = .ok (.return_, 1) := by decide +kernel
set_option maxRecDepth 20000 in
theorem ggX0_isAhead_X11_inside : GoodIn wsX0_isAhead wsX11_inside := goodIn_r _ [5] (by decide +kernel) (by decide +kernel)
set_option maxRecDepth 20000 in
theorem gX0_isAhead_X11_inside_n36 : GoodIn wsX0_isAhead (wsX11_inside) := ggX0_isAhead_X11_inside
theorem dX0_isAhead_0 : decode cX0_isAhead 0 = .ok (.iload_n 1, 1) := by decide +kernel
theorem dX0_isAhead_1 : decode cX0_isAhead 1 = .ok (.bipush 6, 2) := by decide +kernel
theorem dX0_isAhead_3 : decode cX0_isAhead 3 = .ok (.invokestatic 36, 3) := by decide +kernel
theorem dX0_isAhead_6 : decode cX0_isAhead 6 = .ok (.ifCond .eq 12, 3) := by decide +kernel
theorem dX0_isAhead_9 : decode cX0_isAhead 9 = .ok (.iload_n 2, 1) := by decide +kernel
theorem dX0_isAhead_10 : decode cX0_isAhead 10 = .ok (.bipush 6, 2) := by decide +kernel
theorem dX0_isAhead_12 : decode cX0_isAhead 12 = .ok (.invokestatic 36, 3) := by decide +kernel
theorem dX0_isAhead_15 : decode cX0_isAhead 15 = .ok (.ifCond .ne 5, 3) := by decide +kernel
theorem dX0_isAhead_18 : decode cX0_isAhead 18 = .ok (.iconst 0, 1) := by decide +kernel
theorem dX0_isAhead_19 : decode cX0_isAhead 19 = .ok (.ireturn, 1) := by decide +kernel
theorem dX0_isAhead_20 : decode cX0_isAhead 20 = .ok (.aload_n 0, 1) := by decide +kernel
theorem dX0_isAhead_21 : decode cX0_isAhead 21 = .ok (.getfield 15, 3) := by decide +kernel
theorem dX0_isAhead_24 : decode cX0_isAhead 24 = .ok (.iload_n 1, 1) := by decide +kernel
theorem dX0_isAhead_25 : decode cX0_isAhead 25 = .ok (.iaload, 1) := by decide +kernel
theorem dX0_isAhead_26 : decode cX0_isAhead 26 = .ok (.aload_n 0, 1) := by decide +kernel
theorem dX0_isAhead_27 : decode cX0_isAhead 27 = .ok (.getfield 18, 3) := by decide +kernel
theorem dX0_isAhead_30 : decode cX0_isAhead 30 = .ok (.iload_n 2, 1) := by decide +kernel
theorem dX0_isAhead_31 : decode cX0_isAhead 31 = .ok (.iaload, 1) := by decide +kernel
theorem dX0_isAhead_32 : decode cX0_isAhead 32 = .ok (.iload_n 3, 1) := by decide +kernel
theorem dX0_isAhead_33 : decode cX0_isAhead 33 = .ok (.iconst 1, 1) := by decide +kernel
theorem dX0_isAhead_34 : decode cX0_isAhead 34 = .ok (.iadd, 1) := by decide +kernel
theorem dX0_isAhead_35 : decode cX0_isAhead 35 = .ok (.imul, 1) := by decide +kernel
theorem dX0_isAhead_36 : decode cX0_isAhead 36 = .ok (.iconst 1, 1) := by decide +kernel
theorem dX0_isAhead_37 : decode cX0_isAhead 37 = .ok (.iadd, 1) := by decide +kernel
theorem dX0_isAhead_38 : decode cX0_isAhead 38 = .ok (.imul, 1) := by decide +kernel
theorem dX0_isAhead_39 : decode cX0_isAhead 39 = .ok (.istore 4, 2) := by decide +kernel
theorem dX0_isAhead_41 : decode cX0_isAhead 41 = .ok (.aload_n 0, 1) := by decide +kernel
theorem dX0_isAhead_42 : decode cX0_isAhead 42 = .ok (.getfield 15, 3) := by decide +kernel
theorem dX0_isAhead_45 : decode cX0_isAhead 45 = .ok (.iload_n 2, 1) := by decide +kernel
theorem dX0_isAhead_46 : decode cX0_isAhead 46 = .ok (.iaload, 1) := by decide +kernel
theorem dX0_isAhead_47 : decode cX0_isAhead 47 = .ok (.aload_n 0, 1) := by decide +kernel
theorem dX0_isAhead_48 : decode cX0_isAhead 48 = .ok (.getfield 18, 3) := by decide +kernel
theorem dX0_isAhead_51 : decode cX0_isAhead 51 = .ok (.iload_n 1, 1) := by decide +kernel
theorem dX0_isAhead_52 : decode cX0_isAhead 52 = .ok (.iaload, 1) := by decide +kernel
theorem dX0_isAhead_53 : decode cX0_isAhead 53 = .ok (.iload_n 3, 1) := by decide +kernel
theorem dX0_isAhead_54 : decode cX0_isAhead 54 = .ok (.iconst 1, 1) := by decide +kernel
theorem dX0_isAhead_55 : decode cX0_isAhead 55 = .ok (.iadd, 1) := by decide +kernel
theorem dX0_isAhead_56 : decode cX0_isAhead 56 = .ok (.imul, 1) := by decide +kernel
theorem dX0_isAhead_57 : decode cX0_isAhead 57 = .ok (.iconst 1, 1) := by decide +kernel
theorem dX0_isAhead_58 : decode cX0_isAhead 58 = .ok (.iadd, 1) := by decide +kernel
theorem dX0_isAhead_59 : decode cX0_isAhead 59 = .ok (.imul, 1) := by decide +kernel
theorem dX0_isAhead_60 : decode cX0_isAhead 60 = .ok (.istore 5, 2) := by decide +kernel
theorem dX0_isAhead_62 : decode cX0_isAhead 62 = .ok (.iload 4, 2) := by decide +kernel
theorem dX0_isAhead_64 : decode cX0_isAhead 64 = .ok (.iload 5, 2) := by decide +kernel
theorem dX0_isAhead_66 : decode cX0_isAhead 66 = .ok (.if_icmp .gt 25, 3) := by decide +kernel
theorem dX0_isAhead_69 : decode cX0_isAhead 69 = .ok (.iload 4, 2) := by decide +kernel
theorem dX0_isAhead_71 : decode cX0_isAhead 71 = .ok (.iload 5, 2) := by decide +kernel
theorem dX0_isAhead_73 : decode cX0_isAhead 73 = .ok (.if_icmp .ne 22, 3) := by decide +kernel
theorem dX0_isAhead_76 : decode cX0_isAhead 76 = .ok (.aload_n 0, 1) := by decide +kernel
theorem dX0_isAhead_77 : decode cX0_isAhead 77 = .ok (.getfield 15, 3) := by decide +kernel
theorem dX0_isAhead_80 : decode cX0_isAhead 80 = .ok (.iload_n 1, 1) := by decide +kernel
theorem dX0_isAhead_81 : decode cX0_isAhead 81 = .ok (.iaload, 1) := by decide +kernel
theorem dX0_isAhead_82 : decode cX0_isAhead 82 = .ok (.aload_n 0, 1) := by decide +kernel
theorem dX0_isAhead_83 : decode cX0_isAhead 83 = .ok (.getfield 15, 3) := by decide +kernel
theorem dX0_isAhead_86 : decode cX0_isAhead 86 = .ok (.iload_n 2, 1) := by decide +kernel
theorem dX0_isAhead_87 : decode cX0_isAhead 87 = .ok (.iaload, 1) := by decide +kernel
theorem dX0_isAhead_88 : decode cX0_isAhead 88 = .ok (.if_icmp .le 7, 3) := by decide +kernel
theorem dX0_isAhead_91 : decode cX0_isAhead 91 = .ok (.iconst 1, 1) := by decide +kernel
theorem dX0_isAhead_92 : decode cX0_isAhead 92 = .ok (.goto 4, 3) := by decide +kernel
theorem dX0_isAhead_95 : decode cX0_isAhead 95 = .ok (.iconst 0, 1) := by decide +kernel
theorem dX0_isAhead_96 : decode cX0_isAhead 96 = .ok (.ireturn, 1) := by decide +kernel
set_option maxRecDepth 20000 in
theorem ggX0_handOut_J7_fill_53178 : GoodIn wsX0_handOut wsJ7_fill_53178 := goodIn_r _ [9] (by decide +kernel) (by decide +kernel)
set_option maxRecDepth 20000 in
theorem gX0_handOut_J7_fill_53178 : GoodIn wsX0_handOut (va_wsS RX0 52 yJ7_fill_53178 wsJ7_fill_53178) := goodIn_app (goodIn_of _ (by decide +kernel)) ggX0_handOut_J7_fill_53178
set_option maxRecDepth 20000 in
theorem ggX0_handOut_X11_has : GoodIn wsX0_handOut wsX11_has := goodIn_r _ [12] (by decide +kernel) (by decide +kernel)
set_option maxRecDepth 20000 in
theorem gX0_handOut_X11_has_n40 : GoodIn wsX0_handOut (wsX11_has) := ggX0_handOut_X11_has
set_option maxRecDepth 20000 in
theorem ggX0_handOut_X0_foresee : GoodIn wsX0_handOut wsX0_foresee := goodIn_r _ [17, 3, 4, 18, 19, 20, 21, 22, 23, 24, 25, 11, 26, 27, 28, 29, 30, 31, 16, 32, 5, 33, 10, 12, 34, 35, 36, 37, 38, 39, 40, 41, 42, 47, 48, 49, 50, 51, 52, 53, 54, 55] (by decide +kernel) (by decide +kernel)
set_option maxRecDepth 20000 in
theorem gX0_handOut_X0_foresee : GoodIn wsX0_handOut (wsV RX0 72 RX0 yX0_foresee wsX0_foresee) := goodIn_app (goodIn_of _ (by decide +kernel)) ggX0_handOut_X0_foresee
set_option maxRecDepth 20000 in
theorem ggX0_handOut_X11_inside : GoodIn wsX0_handOut wsX11_inside := goodIn_r _ [28] (by decide +kernel) (by decide +kernel)
set_option maxRecDepth 20000 in
theorem gX0_handOut_X11_inside_n36 : GoodIn wsX0_handOut (wsX11_inside) := ggX0_handOut_X11_inside
set_option maxRecDepth 20000 in
theorem ggX0_handOut_X0_dearest : GoodIn wsX0_handOut wsX0_dearest := goodIn_r _ [46, 10, 11, 12, 34, 35, 36, 16, 37, 38, 27, 28, 47, 48, 49, 50, 51, 52, 53, 54, 55] (by decide +kernel) (by decide +kernel)
set_option maxRecDepth 20000 in
theorem gX0_handOut_X0_dearest : GoodIn wsX0_handOut (wsV RX0 76 RX0 yX0_dearest wsX0_dearest) := goodIn_app (goodIn_of _ (by decide +kernel)) ggX0_handOut_X0_dearest
set_option maxRecDepth 20000 in
theorem ggX0_handOut_X0_priceOf : GoodIn wsX0_handOut wsX0_priceOf := goodIn_r _ [37, 38, 27, 11, 28, 47, 48, 49, 50, 51, 52, 53, 54, 55] (by decide +kernel) (by decide +kernel)
set_option maxRecDepth 20000 in
theorem gX0_handOut_X0_priceOf : GoodIn wsX0_handOut (wsV RX0 79 RX0 yX0_priceOf wsX0_priceOf) := goodIn_app (goodIn_of _ (by decide +kernel)) ggX0_handOut_X0_priceOf
theorem dX0_handOut_0 : decode cX0_handOut 0 = .ok (.aload_n 0, 1) := by decide +kernel
theorem dX0_handOut_1 : decode cX0_handOut 1 = .ok (.getfield 24, 3) := by decide +kernel
theorem dX0_handOut_4 : decode cX0_handOut 4 = .ok (.iconst (-1), 1) := by decide +kernel
theorem dX0_handOut_5 : decode cX0_handOut 5 = .ok (.invokestatic 52, 3) := by decide +kernel
theorem dX0_handOut_8 : decode cX0_handOut 8 = .ok (.iconst 0, 1) := by decide +kernel
theorem dX0_handOut_9 : decode cX0_handOut 9 = .ok (.istore 4, 2) := by decide +kernel
theorem dX0_handOut_11 : decode cX0_handOut 11 = .ok (.iload 4, 2) := by decide +kernel
theorem dX0_handOut_13 : decode cX0_handOut 13 = .ok (.bipush 6, 2) := by decide +kernel
theorem dX0_handOut_15 : decode cX0_handOut 15 = .ok (.if_icmp .ge 30, 3) := by decide +kernel
theorem dX0_handOut_18 : decode cX0_handOut 18 = .ok (.aload_n 0, 1) := by decide +kernel
theorem dX0_handOut_19 : decode cX0_handOut 19 = .ok (.getfield 27, 3) := by decide +kernel
theorem dX0_handOut_22 : decode cX0_handOut 22 = .ok (.iload 4, 2) := by decide +kernel
theorem dX0_handOut_24 : decode cX0_handOut 24 = .ok (.iload_n 1, 1) := by decide +kernel
theorem dX0_handOut_25 : decode cX0_handOut 25 = .ok (.iload 4, 2) := by decide +kernel
theorem dX0_handOut_27 : decode cX0_handOut 27 = .ok (.invokestatic 40, 3) := by decide +kernel
theorem dX0_handOut_30 : decode cX0_handOut 30 = .ok (.ifCond .eq 7, 3) := by decide +kernel
theorem dX0_handOut_33 : decode cX0_handOut 33 = .ok (.iconst 0, 1) := by decide +kernel
theorem dX0_handOut_34 : decode cX0_handOut 34 = .ok (.goto 4, 3) := by decide +kernel
theorem dX0_handOut_37 : decode cX0_handOut 37 = .ok (.iconst (-1), 1) := by decide +kernel
theorem dX0_handOut_38 : decode cX0_handOut 38 = .ok (.iastore, 1) := by decide +kernel
theorem dX0_handOut_39 : decode cX0_handOut 39 = .ok (.iinc 4 1, 3) := by decide +kernel
theorem dX0_handOut_42 : decode cX0_handOut 42 = .ok (.goto (-31), 3) := by decide +kernel
theorem dX0_handOut_45 : decode cX0_handOut 45 = .ok (.iload_n 3, 1) := by decide +kernel
theorem dX0_handOut_46 : decode cX0_handOut 46 = .ok (.ifCond .eq 8, 3) := by decide +kernel
theorem dX0_handOut_49 : decode cX0_handOut 49 = .ok (.aload_n 0, 1) := by decide +kernel
theorem dX0_handOut_50 : decode cX0_handOut 50 = .ok (.iload_n 2, 1) := by decide +kernel
theorem dX0_handOut_51 : decode cX0_handOut 51 = .ok (.invokevirtual 72, 3) := by decide +kernel
theorem dX0_handOut_54 : decode cX0_handOut 54 = .ok (.iload_n 2, 1) := by decide +kernel
theorem dX0_handOut_55 : decode cX0_handOut 55 = .ok (.istore 4, 2) := by decide +kernel
theorem dX0_handOut_57 : decode cX0_handOut 57 = .ok (.iconst 0, 1) := by decide +kernel
theorem dX0_handOut_58 : decode cX0_handOut 58 = .ok (.istore 5, 2) := by decide +kernel
theorem dX0_handOut_60 : decode cX0_handOut 60 = .ok (.iload 5, 2) := by decide +kernel
theorem dX0_handOut_62 : decode cX0_handOut 62 = .ok (.aload_n 0, 1) := by decide +kernel
theorem dX0_handOut_63 : decode cX0_handOut 63 = .ok (.getfield 64, 3) := by decide +kernel
theorem dX0_handOut_66 : decode cX0_handOut 66 = .ok (.if_icmp .ge 118, 3) := by decide +kernel
theorem dX0_handOut_69 : decode cX0_handOut 69 = .ok (.iload 5, 2) := by decide +kernel
theorem dX0_handOut_71 : decode cX0_handOut 71 = .ok (.bipush 8, 2) := by decide +kernel
theorem dX0_handOut_73 : decode cX0_handOut 73 = .ok (.if_icmp .ge 111, 3) := by decide +kernel
theorem dX0_handOut_76 : decode cX0_handOut 76 = .ok (.aload_n 0, 1) := by decide +kernel
theorem dX0_handOut_77 : decode cX0_handOut 77 = .ok (.getfield 21, 3) := by decide +kernel
theorem dX0_handOut_80 : decode cX0_handOut 80 = .ok (.iload 5, 2) := by decide +kernel
theorem dX0_handOut_82 : decode cX0_handOut 82 = .ok (.iaload, 1) := by decide +kernel
theorem dX0_handOut_83 : decode cX0_handOut 83 = .ok (.istore 6, 2) := by decide +kernel
theorem dX0_handOut_85 : decode cX0_handOut 85 = .ok (.iload_n 3, 1) := by decide +kernel
theorem dX0_handOut_86 : decode cX0_handOut 86 = .ok (.ifCond .eq 24, 3) := by decide +kernel
theorem dX0_handOut_89 : decode cX0_handOut 89 = .ok (.iload 4, 2) := by decide +kernel
theorem dX0_handOut_91 : decode cX0_handOut 91 = .ok (.sipush 256, 3) := by decide +kernel
theorem dX0_handOut_94 : decode cX0_handOut 94 = .ok (.invokestatic 36, 3) := by decide +kernel
theorem dX0_handOut_97 : decode cX0_handOut 97 = .ok (.ifCond .eq 13, 3) := by decide +kernel
theorem dX0_handOut_100 : decode cX0_handOut 100 = .ok (.aload_n 0, 1) := by decide +kernel
theorem dX0_handOut_101 : decode cX0_handOut 101 = .ok (.getfield 30, 3) := by decide +kernel
theorem dX0_handOut_104 : decode cX0_handOut 104 = .ok (.iload 4, 2) := by decide +kernel
theorem dX0_handOut_106 : decode cX0_handOut 106 = .ok (.iaload, 1) := by decide +kernel
theorem dX0_handOut_107 : decode cX0_handOut 107 = .ok (.goto 11, 3) := by decide +kernel
theorem dX0_handOut_110 : decode cX0_handOut 110 = .ok (.aload_n 0, 1) := by decide +kernel
theorem dX0_handOut_111 : decode cX0_handOut 111 = .ok (.iload 4, 2) := by decide +kernel
theorem dX0_handOut_113 : decode cX0_handOut 113 = .ok (.iload 6, 2) := by decide +kernel
theorem dX0_handOut_115 : decode cX0_handOut 115 = .ok (.invokevirtual 76, 3) := by decide +kernel
theorem dX0_handOut_118 : decode cX0_handOut 118 = .ok (.istore 7, 2) := by decide +kernel
theorem dX0_handOut_120 : decode cX0_handOut 120 = .ok (.iload 7, 2) := by decide +kernel
theorem dX0_handOut_122 : decode cX0_handOut 122 = .ok (.bipush 8, 2) := by decide +kernel
theorem dX0_handOut_124 : decode cX0_handOut 124 = .ok (.invokestatic 36, 3) := by decide +kernel
theorem dX0_handOut_127 : decode cX0_handOut 127 = .ok (.ifCond .eq 51, 3) := by decide +kernel
theorem dX0_handOut_130 : decode cX0_handOut 130 = .ok (.iload 6, 2) := by decide +kernel
theorem dX0_handOut_132 : decode cX0_handOut 132 = .ok (.bipush 6, 2) := by decide +kernel
theorem dX0_handOut_134 : decode cX0_handOut 134 = .ok (.invokestatic 36, 3) := by decide +kernel
theorem dX0_handOut_137 : decode cX0_handOut 137 = .ok (.ifCond .eq 41, 3) := by decide +kernel
theorem dX0_handOut_140 : decode cX0_handOut 140 = .ok (.aload_n 0, 1) := by decide +kernel
theorem dX0_handOut_141 : decode cX0_handOut 141 = .ok (.getfield 24, 3) := by decide +kernel
theorem dX0_handOut_144 : decode cX0_handOut 144 = .ok (.iload 7, 2) := by decide +kernel
theorem dX0_handOut_146 : decode cX0_handOut 146 = .ok (.iload 6, 2) := by decide +kernel
theorem dX0_handOut_148 : decode cX0_handOut 148 = .ok (.iastore, 1) := by decide +kernel
theorem dX0_handOut_149 : decode cX0_handOut 149 = .ok (.aload_n 0, 1) := by decide +kernel
theorem dX0_handOut_150 : decode cX0_handOut 150 = .ok (.getfield 27, 3) := by decide +kernel
theorem dX0_handOut_153 : decode cX0_handOut 153 = .ok (.iload 6, 2) := by decide +kernel
theorem dX0_handOut_155 : decode cX0_handOut 155 = .ok (.dup2, 1) := by decide +kernel
theorem dX0_handOut_156 : decode cX0_handOut 156 = .ok (.iaload, 1) := by decide +kernel
theorem dX0_handOut_157 : decode cX0_handOut 157 = .ok (.aload_n 0, 1) := by decide +kernel
theorem dX0_handOut_158 : decode cX0_handOut 158 = .ok (.iload 7, 2) := by decide +kernel
theorem dX0_handOut_160 : decode cX0_handOut 160 = .ok (.iload 6, 2) := by decide +kernel
theorem dX0_handOut_162 : decode cX0_handOut 162 = .ok (.invokevirtual 79, 3) := by decide +kernel
theorem dX0_handOut_165 : decode cX0_handOut 165 = .ok (.iadd, 1) := by decide +kernel
theorem dX0_handOut_166 : decode cX0_handOut 166 = .ok (.iastore, 1) := by decide +kernel
theorem dX0_handOut_167 : decode cX0_handOut 167 = .ok (.iload 4, 2) := by decide +kernel
theorem dX0_handOut_169 : decode cX0_handOut 169 = .ok (.iconst 1, 1) := by decide +kernel
theorem dX0_handOut_170 : decode cX0_handOut 170 = .ok (.iload 7, 2) := by decide +kernel
theorem dX0_handOut_172 : decode cX0_handOut 172 = .ok (.ishl, 1) := by decide +kernel
theorem dX0_handOut_173 : decode cX0_handOut 173 = .ok (.iconst (-1), 1) := by decide +kernel
theorem dX0_handOut_174 : decode cX0_handOut 174 = .ok (.ixor, 1) := by decide +kernel
theorem dX0_handOut_175 : decode cX0_handOut 175 = .ok (.iand, 1) := by decide +kernel
theorem dX0_handOut_176 : decode cX0_handOut 176 = .ok (.istore 4, 2) := by decide +kernel
theorem dX0_handOut_178 : decode cX0_handOut 178 = .ok (.iinc 5 1, 3) := by decide +kernel
theorem dX0_handOut_181 : decode cX0_handOut 181 = .ok (.goto (-121), 3) := by decide +kernel
theorem dX0_handOut_184 : decode cX0_handOut 184 = .ok (.return_, 1) := by decide +kernel
set_option maxRecDepth 20000 in
theorem ggX0_dearest_X11_has : GoodIn wsX0_dearest wsX11_has := goodIn_r _ [3] (by decide +kernel) (by decide +kernel)
set_option maxRecDepth 20000 in
theorem gX0_dearest_X11_has_n40 : GoodIn wsX0_dearest (wsX11_has) := ggX0_dearest_X11_has
set_option maxRecDepth 20000 in
theorem ggX0_dearest_X0_priceOf : GoodIn wsX0_dearest wsX0_priceOf := goodIn_r _ [8, 9, 10, 2, 11, 12, 13, 14, 15, 16, 17, 18, 19, 20] (by decide +kernel) (by decide +kernel)
set_option maxRecDepth 20000 in
theorem gX0_dearest_X0_priceOf : GoodIn wsX0_dearest (wsV RX0 79 RX0 yX0_priceOf wsX0_priceOf) := goodIn_app (goodIn_of _ (by decide +kernel)) ggX0_dearest_X0_priceOf
theorem dX0_dearest_0 : decode cX0_dearest 0 = .ok (.iconst (-1), 1) := by decide +kernel
theorem dX0_dearest_1 : decode cX0_dearest 1 = .ok (.istore_n 3, 1) := by decide +kernel
theorem dX0_dearest_2 : decode cX0_dearest 2 = .ok (.iconst 0, 1) := by decide +kernel
theorem dX0_dearest_3 : decode cX0_dearest 3 = .ok (.istore 4, 2) := by decide +kernel
theorem dX0_dearest_5 : decode cX0_dearest 5 = .ok (.iload 4, 2) := by decide +kernel
theorem dX0_dearest_7 : decode cX0_dearest 7 = .ok (.bipush 8, 2) := by decide +kernel
theorem dX0_dearest_9 : decode cX0_dearest 9 = .ok (.if_icmp .ge 42, 3) := by decide +kernel
theorem dX0_dearest_12 : decode cX0_dearest 12 = .ok (.iload_n 1, 1) := by decide +kernel
theorem dX0_dearest_13 : decode cX0_dearest 13 = .ok (.iload 4, 2) := by decide +kernel
theorem dX0_dearest_15 : decode cX0_dearest 15 = .ok (.invokestatic 40, 3) := by decide +kernel
theorem dX0_dearest_18 : decode cX0_dearest 18 = .ok (.ifCond .eq 27, 3) := by decide +kernel
theorem dX0_dearest_21 : decode cX0_dearest 21 = .ok (.iload_n 3, 1) := by decide +kernel
theorem dX0_dearest_22 : decode cX0_dearest 22 = .ok (.iconst (-1), 1) := by decide +kernel
theorem dX0_dearest_23 : decode cX0_dearest 23 = .ok (.if_icmp .eq 19, 3) := by decide +kernel
theorem dX0_dearest_26 : decode cX0_dearest 26 = .ok (.aload_n 0, 1) := by decide +kernel
theorem dX0_dearest_27 : decode cX0_dearest 27 = .ok (.iload 4, 2) := by decide +kernel
theorem dX0_dearest_29 : decode cX0_dearest 29 = .ok (.iload_n 2, 1) := by decide +kernel
theorem dX0_dearest_30 : decode cX0_dearest 30 = .ok (.invokevirtual 79, 3) := by decide +kernel
theorem dX0_dearest_33 : decode cX0_dearest 33 = .ok (.aload_n 0, 1) := by decide +kernel
theorem dX0_dearest_34 : decode cX0_dearest 34 = .ok (.iload_n 3, 1) := by decide +kernel
theorem dX0_dearest_35 : decode cX0_dearest 35 = .ok (.iload_n 2, 1) := by decide +kernel
theorem dX0_dearest_36 : decode cX0_dearest 36 = .ok (.invokevirtual 79, 3) := by decide +kernel
theorem dX0_dearest_39 : decode cX0_dearest 39 = .ok (.if_icmp .le 6, 3) := by decide +kernel
theorem dX0_dearest_42 : decode cX0_dearest 42 = .ok (.iload 4, 2) := by decide +kernel
theorem dX0_dearest_44 : decode cX0_dearest 44 = .ok (.istore_n 3, 1) := by decide +kernel
theorem dX0_dearest_45 : decode cX0_dearest 45 = .ok (.iinc 4 1, 3) := by decide +kernel
theorem dX0_dearest_48 : decode cX0_dearest 48 = .ok (.goto (-43), 3) := by decide +kernel
theorem dX0_dearest_51 : decode cX0_dearest 51 = .ok (.iload_n 3, 1) := by decide +kernel
theorem dX0_dearest_52 : decode cX0_dearest 52 = .ok (.ireturn, 1) := by decide +kernel
set_option maxRecDepth 20000 in
theorem ggX0_foresee_J6_bitCount_0f7a4 : GoodIn wsX0_foresee wsJ6_bitCount_0f7a4 := goodIn_r _ [6, 7, 8, 9] (by decide +kernel) (by decide +kernel)
set_option maxRecDepth 20000 in
theorem gX0_foresee_J6_bitCount_0f7a4 : GoodIn wsX0_foresee (va_wsS RX0 82 yJ6_bitCount_0f7a4 wsJ6_bitCount_0f7a4) := goodIn_app (goodIn_of _ (by decide +kernel)) ggX0_foresee_J6_bitCount_0f7a4
set_option maxRecDepth 20000 in
theorem ggX0_foresee_X11_isWithin : GoodIn wsX0_foresee wsX11_isWithin := goodIn_r _ [12] (by decide +kernel) (by decide +kernel)
set_option maxRecDepth 20000 in
theorem gX0_foresee_X11_isWithin_n87 : GoodIn wsX0_foresee (wsX11_isWithin) := ggX0_foresee_X11_isWithin
set_option maxRecDepth 20000 in
theorem ggX0_foresee_X11_inside : GoodIn wsX0_foresee wsX11_inside := goodIn_r _ [14] (by decide +kernel) (by decide +kernel)
set_option maxRecDepth 20000 in
theorem gX0_foresee_X11_inside_n36 : GoodIn wsX0_foresee (wsX11_inside) := ggX0_foresee_X11_inside
set_option maxRecDepth 20000 in
theorem ggX0_foresee_X0_foreseeOne : GoodIn wsX0_foresee wsX0_foreseeOne := goodIn_r _ [19, 20, 21, 22, 11, 23, 24, 25, 26, 18, 27, 28, 13, 14, 29, 30, 31, 32, 33, 34, 35, 36, 37, 38, 39, 40, 41] (by decide +kernel) (by decide +kernel)
set_option maxRecDepth 20000 in
theorem gX0_foresee_X0_foreseeOne : GoodIn wsX0_foresee (wsV RX0 90 RX0 yX0_foreseeOne wsX0_foreseeOne) := goodIn_app (goodIn_of _ (by decide +kernel)) ggX0_foresee_X0_foreseeOne
theorem dX0_foresee_0 : decode cX0_foresee 0 = .ok (.iconst 1, 1) := by decide +kernel
theorem dX0_foresee_1 : decode cX0_foresee 1 = .ok (.istore_n 2, 1) := by decide +kernel
theorem dX0_foresee_2 : decode cX0_foresee 2 = .ok (.iload_n 2, 1) := by decide +kernel
theorem dX0_foresee_3 : decode cX0_foresee 3 = .ok (.iload_n 1, 1) := by decide +kernel
theorem dX0_foresee_4 : decode cX0_foresee 4 = .ok (.if_icmp .gt 54, 3) := by decide +kernel
theorem dX0_foresee_7 : decode cX0_foresee 7 = .ok (.iload_n 2, 1) := by decide +kernel
theorem dX0_foresee_8 : decode cX0_foresee 8 = .ok (.sipush 256, 3) := by decide +kernel
theorem dX0_foresee_11 : decode cX0_foresee 11 = .ok (.if_icmp .ge 47, 3) := by decide +kernel
theorem dX0_foresee_14 : decode cX0_foresee 14 = .ok (.aload_n 0, 1) := by decide +kernel
theorem dX0_foresee_15 : decode cX0_foresee 15 = .ok (.getfield 64, 3) := by decide +kernel
theorem dX0_foresee_18 : decode cX0_foresee 18 = .ok (.iload_n 2, 1) := by decide +kernel
theorem dX0_foresee_19 : decode cX0_foresee 19 = .ok (.invokestatic 82, 3) := by decide +kernel
theorem dX0_foresee_22 : decode cX0_foresee 22 = .ok (.isub, 1) := by decide +kernel
theorem dX0_foresee_23 : decode cX0_foresee 23 = .ok (.istore_n 3, 1) := by decide +kernel
theorem dX0_foresee_24 : decode cX0_foresee 24 = .ok (.iload_n 2, 1) := by decide +kernel
theorem dX0_foresee_25 : decode cX0_foresee 25 = .ok (.iload_n 1, 1) := by decide +kernel
theorem dX0_foresee_26 : decode cX0_foresee 26 = .ok (.invokestatic 87, 3) := by decide +kernel
theorem dX0_foresee_29 : decode cX0_foresee 29 = .ok (.ifCond .eq 23, 3) := by decide +kernel
theorem dX0_foresee_32 : decode cX0_foresee 32 = .ok (.iload_n 3, 1) := by decide +kernel
theorem dX0_foresee_33 : decode cX0_foresee 33 = .ok (.bipush 8, 2) := by decide +kernel
theorem dX0_foresee_35 : decode cX0_foresee 35 = .ok (.invokestatic 36, 3) := by decide +kernel
theorem dX0_foresee_38 : decode cX0_foresee 38 = .ok (.ifCond .eq 14, 3) := by decide +kernel
theorem dX0_foresee_41 : decode cX0_foresee 41 = .ok (.aload_n 0, 1) := by decide +kernel
theorem dX0_foresee_42 : decode cX0_foresee 42 = .ok (.iload_n 2, 1) := by decide +kernel
theorem dX0_foresee_43 : decode cX0_foresee 43 = .ok (.aload_n 0, 1) := by decide +kernel
theorem dX0_foresee_44 : decode cX0_foresee 44 = .ok (.getfield 21, 3) := by decide +kernel
theorem dX0_foresee_47 : decode cX0_foresee 47 = .ok (.iload_n 3, 1) := by decide +kernel
theorem dX0_foresee_48 : decode cX0_foresee 48 = .ok (.iaload, 1) := by decide +kernel
theorem dX0_foresee_49 : decode cX0_foresee 49 = .ok (.invokevirtual 90, 3) := by decide +kernel
theorem dX0_foresee_52 : decode cX0_foresee 52 = .ok (.iinc 2 1, 3) := by decide +kernel
theorem dX0_foresee_55 : decode cX0_foresee 55 = .ok (.goto (-53), 3) := by decide +kernel
theorem dX0_foresee_58 : decode cX0_foresee 58 = .ok (.return_, 1) := by decide +kernel
set_option maxRecDepth 20000 in
theorem ggX0_foreseeOne_X11_has : GoodIn wsX0_foreseeOne wsX11_has := goodIn_r _ [5] (by decide +kernel) (by decide +kernel)
set_option maxRecDepth 20000 in
theorem gX0_foreseeOne_X11_has_n40 : GoodIn wsX0_foreseeOne (wsX11_has) := ggX0_foreseeOne_X11_has
set_option maxRecDepth 20000 in
theorem ggX0_foreseeOne_X0_priceOf : GoodIn wsX0_foreseeOne wsX0_priceOf := goodIn_r _ [10, 11, 12, 4, 13, 18, 19, 20, 21, 22, 23, 24, 25, 26] (by decide +kernel) (by decide +kernel)
set_option maxRecDepth 20000 in
theorem gX0_foreseeOne_X0_priceOf : GoodIn wsX0_foreseeOne (wsV RX0 79 RX0 yX0_priceOf wsX0_priceOf) := goodIn_app (goodIn_of _ (by decide +kernel)) ggX0_foreseeOne_X0_priceOf
set_option maxRecDepth 20000 in
theorem ggX0_foreseeOne_X0_gainOf : GoodIn wsX0_foreseeOne wsX0_gainOf := goodIn_r _ [17, 2, 12, 4, 13, 18, 19, 20, 21, 22, 23, 24, 25, 26] (by decide +kernel) (by decide +kernel)
set_option maxRecDepth 20000 in
theorem gX0_foreseeOne_X0_gainOf : GoodIn wsX0_foreseeOne (wsV RX0 94 RX0 yX0_gainOf wsX0_gainOf) := goodIn_app (goodIn_of _ (by decide +kernel)) ggX0_foreseeOne_X0_gainOf
set_option maxRecDepth 20000 in
theorem ggX0_foreseeOne_X11_inside : GoodIn wsX0_foreseeOne wsX11_inside := goodIn_r _ [13] (by decide +kernel) (by decide +kernel)
set_option maxRecDepth 20000 in
theorem gX0_foreseeOne_X11_inside_n36 : GoodIn wsX0_foreseeOne (wsX11_inside) := ggX0_foreseeOne_X11_inside
theorem dX0_foreseeOne_0 : decode cX0_foreseeOne 0 = .ok (.iconst (-1), 1) := by decide +kernel
theorem dX0_foreseeOne_1 : decode cX0_foreseeOne 1 = .ok (.istore_n 3, 1) := by decide +kernel
theorem dX0_foreseeOne_2 : decode cX0_foreseeOne 2 = .ok (.iconst (-1), 1) := by decide +kernel
theorem dX0_foreseeOne_3 : decode cX0_foreseeOne 3 = .ok (.istore 4, 2) := by decide +kernel
theorem dX0_foreseeOne_5 : decode cX0_foreseeOne 5 = .ok (.iconst 0, 1) := by decide +kernel
theorem dX0_foreseeOne_6 : decode cX0_foreseeOne 6 = .ok (.istore 5, 2) := by decide +kernel
theorem dX0_foreseeOne_8 : decode cX0_foreseeOne 8 = .ok (.iload 5, 2) := by decide +kernel
theorem dX0_foreseeOne_10 : decode cX0_foreseeOne 10 = .ok (.bipush 8, 2) := by decide +kernel
theorem dX0_foreseeOne_12 : decode cX0_foreseeOne 12 = .ok (.if_icmp .ge 55, 3) := by decide +kernel
theorem dX0_foreseeOne_15 : decode cX0_foreseeOne 15 = .ok (.iload_n 1, 1) := by decide +kernel
theorem dX0_foreseeOne_16 : decode cX0_foreseeOne 16 = .ok (.iload 5, 2) := by decide +kernel
theorem dX0_foreseeOne_18 : decode cX0_foreseeOne 18 = .ok (.invokestatic 40, 3) := by decide +kernel
theorem dX0_foreseeOne_21 : decode cX0_foreseeOne 21 = .ok (.ifCond .eq 40, 3) := by decide +kernel
theorem dX0_foreseeOne_24 : decode cX0_foreseeOne 24 = .ok (.aload_n 0, 1) := by decide +kernel
theorem dX0_foreseeOne_25 : decode cX0_foreseeOne 25 = .ok (.iload 5, 2) := by decide +kernel
theorem dX0_foreseeOne_27 : decode cX0_foreseeOne 27 = .ok (.iload_n 2, 1) := by decide +kernel
theorem dX0_foreseeOne_28 : decode cX0_foreseeOne 28 = .ok (.invokevirtual 79, 3) := by decide +kernel
theorem dX0_foreseeOne_31 : decode cX0_foreseeOne 31 = .ok (.aload_n 0, 1) := by decide +kernel
theorem dX0_foreseeOne_32 : decode cX0_foreseeOne 32 = .ok (.iload_n 1, 1) := by decide +kernel
theorem dX0_foreseeOne_33 : decode cX0_foreseeOne 33 = .ok (.iconst 1, 1) := by decide +kernel
theorem dX0_foreseeOne_34 : decode cX0_foreseeOne 34 = .ok (.iload 5, 2) := by decide +kernel
theorem dX0_foreseeOne_36 : decode cX0_foreseeOne 36 = .ok (.ishl, 1) := by decide +kernel
theorem dX0_foreseeOne_37 : decode cX0_foreseeOne 37 = .ok (.iconst (-1), 1) := by decide +kernel
theorem dX0_foreseeOne_38 : decode cX0_foreseeOne 38 = .ok (.ixor, 1) := by decide +kernel
theorem dX0_foreseeOne_39 : decode cX0_foreseeOne 39 = .ok (.iand, 1) := by decide +kernel
theorem dX0_foreseeOne_40 : decode cX0_foreseeOne 40 = .ok (.iload_n 2, 1) := by decide +kernel
theorem dX0_foreseeOne_41 : decode cX0_foreseeOne 41 = .ok (.invokevirtual 94, 3) := by decide +kernel
theorem dX0_foreseeOne_44 : decode cX0_foreseeOne 44 = .ok (.iadd, 1) := by decide +kernel
theorem dX0_foreseeOne_45 : decode cX0_foreseeOne 45 = .ok (.istore 6, 2) := by decide +kernel
theorem dX0_foreseeOne_47 : decode cX0_foreseeOne 47 = .ok (.iload 6, 2) := by decide +kernel
theorem dX0_foreseeOne_49 : decode cX0_foreseeOne 49 = .ok (.iload 4, 2) := by decide +kernel
theorem dX0_foreseeOne_51 : decode cX0_foreseeOne 51 = .ok (.if_icmp .le 10, 3) := by decide +kernel
theorem dX0_foreseeOne_54 : decode cX0_foreseeOne 54 = .ok (.iload 6, 2) := by decide +kernel
theorem dX0_foreseeOne_56 : decode cX0_foreseeOne 56 = .ok (.istore 4, 2) := by decide +kernel
theorem dX0_foreseeOne_58 : decode cX0_foreseeOne 58 = .ok (.iload 5, 2) := by decide +kernel
theorem dX0_foreseeOne_60 : decode cX0_foreseeOne 60 = .ok (.istore_n 3, 1) := by decide +kernel
theorem dX0_foreseeOne_61 : decode cX0_foreseeOne 61 = .ok (.iinc 5 1, 3) := by decide +kernel
theorem dX0_foreseeOne_64 : decode cX0_foreseeOne 64 = .ok (.goto (-56), 3) := by decide +kernel
theorem dX0_foreseeOne_67 : decode cX0_foreseeOne 67 = .ok (.iload_n 1, 1) := by decide +kernel
theorem dX0_foreseeOne_68 : decode cX0_foreseeOne 68 = .ok (.sipush 256, 3) := by decide +kernel
theorem dX0_foreseeOne_71 : decode cX0_foreseeOne 71 = .ok (.invokestatic 36, 3) := by decide +kernel
theorem dX0_foreseeOne_74 : decode cX0_foreseeOne 74 = .ok (.ifCond .eq 12, 3) := by decide +kernel
theorem dX0_foreseeOne_77 : decode cX0_foreseeOne 77 = .ok (.iload_n 3, 1) := by decide +kernel
theorem dX0_foreseeOne_78 : decode cX0_foreseeOne 78 = .ok (.bipush 8, 2) := by decide +kernel
theorem dX0_foreseeOne_80 : decode cX0_foreseeOne 80 = .ok (.invokestatic 36, 3) := by decide +kernel
theorem dX0_foreseeOne_83 : decode cX0_foreseeOne 83 = .ok (.ifCond .ne 4, 3) := by decide +kernel
theorem dX0_foreseeOne_86 : decode cX0_foreseeOne 86 = .ok (.return_, 1) := by decide +kernel
theorem dX0_foreseeOne_87 : decode cX0_foreseeOne 87 = .ok (.aload_n 0, 1) := by decide +kernel
theorem dX0_foreseeOne_88 : decode cX0_foreseeOne 88 = .ok (.getfield 30, 3) := by decide +kernel
theorem dX0_foreseeOne_91 : decode cX0_foreseeOne 91 = .ok (.iload_n 1, 1) := by decide +kernel
theorem dX0_foreseeOne_92 : decode cX0_foreseeOne 92 = .ok (.iload_n 3, 1) := by decide +kernel
theorem dX0_foreseeOne_93 : decode cX0_foreseeOne 93 = .ok (.iastore, 1) := by decide +kernel
theorem dX0_foreseeOne_94 : decode cX0_foreseeOne 94 = .ok (.iconst 0, 1) := by decide +kernel
theorem dX0_foreseeOne_95 : decode cX0_foreseeOne 95 = .ok (.istore 5, 2) := by decide +kernel
theorem dX0_foreseeOne_97 : decode cX0_foreseeOne 97 = .ok (.iload 5, 2) := by decide +kernel
theorem dX0_foreseeOne_99 : decode cX0_foreseeOne 99 = .ok (.bipush 6, 2) := by decide +kernel
theorem dX0_foreseeOne_101 : decode cX0_foreseeOne 101 = .ok (.if_icmp .ge 49, 3) := by decide +kernel
theorem dX0_foreseeOne_104 : decode cX0_foreseeOne 104 = .ok (.aload_n 0, 1) := by decide +kernel
theorem dX0_foreseeOne_105 : decode cX0_foreseeOne 105 = .ok (.iload_n 1, 1) := by decide +kernel
theorem dX0_foreseeOne_106 : decode cX0_foreseeOne 106 = .ok (.iconst 1, 1) := by decide +kernel
theorem dX0_foreseeOne_107 : decode cX0_foreseeOne 107 = .ok (.iload_n 3, 1) := by decide +kernel
theorem dX0_foreseeOne_108 : decode cX0_foreseeOne 108 = .ok (.ishl, 1) := by decide +kernel
theorem dX0_foreseeOne_109 : decode cX0_foreseeOne 109 = .ok (.iconst (-1), 1) := by decide +kernel
theorem dX0_foreseeOne_110 : decode cX0_foreseeOne 110 = .ok (.ixor, 1) := by decide +kernel
theorem dX0_foreseeOne_111 : decode cX0_foreseeOne 111 = .ok (.iand, 1) := by decide +kernel
theorem dX0_foreseeOne_112 : decode cX0_foreseeOne 112 = .ok (.iload 5, 2) := by decide +kernel
theorem dX0_foreseeOne_114 : decode cX0_foreseeOne 114 = .ok (.invokevirtual 94, 3) := by decide +kernel
theorem dX0_foreseeOne_117 : decode cX0_foreseeOne 117 = .ok (.istore 6, 2) := by decide +kernel
theorem dX0_foreseeOne_119 : decode cX0_foreseeOne 119 = .ok (.aload_n 0, 1) := by decide +kernel
theorem dX0_foreseeOne_120 : decode cX0_foreseeOne 120 = .ok (.getfield 33, 3) := by decide +kernel
theorem dX0_foreseeOne_123 : decode cX0_foreseeOne 123 = .ok (.iload_n 1, 1) := by decide +kernel
theorem dX0_foreseeOne_124 : decode cX0_foreseeOne 124 = .ok (.bipush 6, 2) := by decide +kernel
theorem dX0_foreseeOne_126 : decode cX0_foreseeOne 126 = .ok (.imul, 1) := by decide +kernel
theorem dX0_foreseeOne_127 : decode cX0_foreseeOne 127 = .ok (.iload 5, 2) := by decide +kernel
theorem dX0_foreseeOne_129 : decode cX0_foreseeOne 129 = .ok (.iadd, 1) := by decide +kernel
theorem dX0_foreseeOne_130 : decode cX0_foreseeOne 130 = .ok (.iload 5, 2) := by decide +kernel
theorem dX0_foreseeOne_132 : decode cX0_foreseeOne 132 = .ok (.iload_n 2, 1) := by decide +kernel
theorem dX0_foreseeOne_133 : decode cX0_foreseeOne 133 = .ok (.if_icmp .ne 8, 3) := by decide +kernel
theorem dX0_foreseeOne_136 : decode cX0_foreseeOne 136 = .ok (.iload 4, 2) := by decide +kernel
theorem dX0_foreseeOne_138 : decode cX0_foreseeOne 138 = .ok (.goto 5, 3) := by decide +kernel
theorem dX0_foreseeOne_141 : decode cX0_foreseeOne 141 = .ok (.iload 6, 2) := by decide +kernel
theorem dX0_foreseeOne_143 : decode cX0_foreseeOne 143 = .ok (.iastore, 1) := by decide +kernel
theorem dX0_foreseeOne_144 : decode cX0_foreseeOne 144 = .ok (.iinc 5 1, 3) := by decide +kernel
theorem dX0_foreseeOne_147 : decode cX0_foreseeOne 147 = .ok (.goto (-50), 3) := by decide +kernel
theorem dX0_foreseeOne_150 : decode cX0_foreseeOne 150 = .ok (.return_, 1) := by decide +kernel
set_option maxRecDepth 20000 in
theorem ggX0_gainOf_X11_inside : GoodIn wsX0_gainOf wsX11_inside := goodIn_r _ [4] (by decide +kernel) (by decide +kernel)
set_option maxRecDepth 20000 in
theorem gX0_gainOf_X11_inside_n36 : GoodIn wsX0_gainOf (wsX11_inside) := ggX0_gainOf_X11_inside
theorem dX0_gainOf_0 : decode cX0_gainOf 0 = .ok (.iload_n 1, 1) := by decide +kernel
theorem dX0_gainOf_1 : decode cX0_gainOf 1 = .ok (.sipush 256, 3) := by decide +kernel
theorem dX0_gainOf_4 : decode cX0_gainOf 4 = .ok (.invokestatic 36, 3) := by decide +kernel
theorem dX0_gainOf_7 : decode cX0_gainOf 7 = .ok (.ifCond .eq 26, 3) := by decide +kernel
theorem dX0_gainOf_10 : decode cX0_gainOf 10 = .ok (.iload_n 2, 1) := by decide +kernel
theorem dX0_gainOf_11 : decode cX0_gainOf 11 = .ok (.bipush 6, 2) := by decide +kernel
theorem dX0_gainOf_13 : decode cX0_gainOf 13 = .ok (.invokestatic 36, 3) := by decide +kernel
theorem dX0_gainOf_16 : decode cX0_gainOf 16 = .ok (.ifCond .eq 17, 3) := by decide +kernel
theorem dX0_gainOf_19 : decode cX0_gainOf 19 = .ok (.aload_n 0, 1) := by decide +kernel
theorem dX0_gainOf_20 : decode cX0_gainOf 20 = .ok (.getfield 33, 3) := by decide +kernel
theorem dX0_gainOf_23 : decode cX0_gainOf 23 = .ok (.iload_n 1, 1) := by decide +kernel
theorem dX0_gainOf_24 : decode cX0_gainOf 24 = .ok (.bipush 6, 2) := by decide +kernel
theorem dX0_gainOf_26 : decode cX0_gainOf 26 = .ok (.imul, 1) := by decide +kernel
theorem dX0_gainOf_27 : decode cX0_gainOf 27 = .ok (.iload_n 2, 1) := by decide +kernel
theorem dX0_gainOf_28 : decode cX0_gainOf 28 = .ok (.iadd, 1) := by decide +kernel
theorem dX0_gainOf_29 : decode cX0_gainOf 29 = .ok (.iaload, 1) := by decide +kernel
theorem dX0_gainOf_30 : decode cX0_gainOf 30 = .ok (.goto 4, 3) := by decide +kernel
theorem dX0_gainOf_33 : decode cX0_gainOf 33 = .ok (.iconst 0, 1) := by decide +kernel
theorem dX0_gainOf_34 : decode cX0_gainOf 34 = .ok (.ireturn, 1) := by decide +kernel
set_option maxRecDepth 20000 in
theorem ggX0_ownerOf_X11_inside : GoodIn wsX0_ownerOf wsX11_inside := goodIn_r _ [4] (by decide +kernel) (by decide +kernel)
set_option maxRecDepth 20000 in
theorem gX0_ownerOf_X11_inside_n36 : GoodIn wsX0_ownerOf (wsX11_inside) := ggX0_ownerOf_X11_inside
theorem dX0_ownerOf_0 : decode cX0_ownerOf 0 = .ok (.iload_n 1, 1) := by decide +kernel
theorem dX0_ownerOf_1 : decode cX0_ownerOf 1 = .ok (.bipush 8, 2) := by decide +kernel
theorem dX0_ownerOf_3 : decode cX0_ownerOf 3 = .ok (.invokestatic 36, 3) := by decide +kernel
theorem dX0_ownerOf_6 : decode cX0_ownerOf 6 = .ok (.ifCond .eq 12, 3) := by decide +kernel
theorem dX0_ownerOf_9 : decode cX0_ownerOf 9 = .ok (.aload_n 0, 1) := by decide +kernel
theorem dX0_ownerOf_10 : decode cX0_ownerOf 10 = .ok (.getfield 24, 3) := by decide +kernel
theorem dX0_ownerOf_13 : decode cX0_ownerOf 13 = .ok (.iload_n 1, 1) := by decide +kernel
theorem dX0_ownerOf_14 : decode cX0_ownerOf 14 = .ok (.iaload, 1) := by decide +kernel
theorem dX0_ownerOf_15 : decode cX0_ownerOf 15 = .ok (.goto 4, 3) := by decide +kernel
theorem dX0_ownerOf_18 : decode cX0_ownerOf 18 = .ok (.iconst (-1), 1) := by decide +kernel
theorem dX0_ownerOf_19 : decode cX0_ownerOf 19 = .ok (.ireturn, 1) := by decide +kernel
set_option maxRecDepth 20000 in
theorem ggX0_heldBy_X11_inside : GoodIn wsX0_heldBy wsX11_inside := goodIn_r _ [4] (by decide +kernel) (by decide +kernel)
set_option maxRecDepth 20000 in
theorem gX0_heldBy_X11_inside_n36 : GoodIn wsX0_heldBy (wsX11_inside) := ggX0_heldBy_X11_inside
theorem dX0_heldBy_0 : decode cX0_heldBy 0 = .ok (.iload_n 1, 1) := by decide +kernel
theorem dX0_heldBy_1 : decode cX0_heldBy 1 = .ok (.bipush 6, 2) := by decide +kernel
theorem dX0_heldBy_3 : decode cX0_heldBy 3 = .ok (.invokestatic 36, 3) := by decide +kernel
theorem dX0_heldBy_6 : decode cX0_heldBy 6 = .ok (.ifCond .eq 12, 3) := by decide +kernel
theorem dX0_heldBy_9 : decode cX0_heldBy 9 = .ok (.aload_n 0, 1) := by decide +kernel
theorem dX0_heldBy_10 : decode cX0_heldBy 10 = .ok (.getfield 27, 3) := by decide +kernel
theorem dX0_heldBy_13 : decode cX0_heldBy 13 = .ok (.iload_n 1, 1) := by decide +kernel
theorem dX0_heldBy_14 : decode cX0_heldBy 14 = .ok (.iaload, 1) := by decide +kernel
theorem dX0_heldBy_15 : decode cX0_heldBy 15 = .ok (.goto 4, 3) := by decide +kernel
theorem dX0_heldBy_18 : decode cX0_heldBy 18 = .ok (.iconst (-1), 1) := by decide +kernel
theorem dX0_heldBy_19 : decode cX0_heldBy 19 = .ok (.ireturn, 1) := by decide +kernel
set_option maxRecDepth 20000 in
theorem ggX0_chooserAt_X11_inside : GoodIn wsX0_chooserAt wsX11_inside := goodIn_r _ [5] (by decide +kernel) (by decide +kernel)
set_option maxRecDepth 20000 in
theorem gX0_chooserAt_X11_inside_n36 : GoodIn wsX0_chooserAt (wsX11_inside) := ggX0_chooserAt_X11_inside
theorem dX0_chooserAt_0 : decode cX0_chooserAt 0 = .ok (.iload_n 1, 1) := by decide +kernel
theorem dX0_chooserAt_1 : decode cX0_chooserAt 1 = .ok (.aload_n 0, 1) := by decide +kernel
theorem dX0_chooserAt_2 : decode cX0_chooserAt 2 = .ok (.getfield 64, 3) := by decide +kernel
theorem dX0_chooserAt_5 : decode cX0_chooserAt 5 = .ok (.invokestatic 36, 3) := by decide +kernel
theorem dX0_chooserAt_8 : decode cX0_chooserAt 8 = .ok (.ifCond .eq 18, 3) := by decide +kernel
theorem dX0_chooserAt_11 : decode cX0_chooserAt 11 = .ok (.iload_n 1, 1) := by decide +kernel
theorem dX0_chooserAt_12 : decode cX0_chooserAt 12 = .ok (.bipush 8, 2) := by decide +kernel
theorem dX0_chooserAt_14 : decode cX0_chooserAt 14 = .ok (.if_icmp .ge 12, 3) := by decide +kernel
theorem dX0_chooserAt_17 : decode cX0_chooserAt 17 = .ok (.aload_n 0, 1) := by decide +kernel
theorem dX0_chooserAt_18 : decode cX0_chooserAt 18 = .ok (.getfield 21, 3) := by decide +kernel
theorem dX0_chooserAt_21 : decode cX0_chooserAt 21 = .ok (.iload_n 1, 1) := by decide +kernel
theorem dX0_chooserAt_22 : decode cX0_chooserAt 22 = .ok (.iaload, 1) := by decide +kernel
theorem dX0_chooserAt_23 : decode cX0_chooserAt 23 = .ok (.goto 4, 3) := by decide +kernel
theorem dX0_chooserAt_26 : decode cX0_chooserAt 26 = .ok (.iconst (-1), 1) := by decide +kernel
theorem dX0_chooserAt_27 : decode cX0_chooserAt 27 = .ok (.ireturn, 1) := by decide +kernel
set_option maxRecDepth 20000 in
theorem ggX1_init_X9_init : GoodIn wsX1_init wsX9_init := goodIn_r _ [11, 12, 2, 3, 4, 13, 14, 18, 19, 20, 21, 22] (by decide +kernel) (by decide +kernel)
set_option maxRecDepth 20000 in
theorem gX1_init_X9_init_n17 : GoodIn wsX1_init (wsX9_init) := ggX1_init_X9_init
theorem dX1_init_0 : decode cX1_init 0 = .ok (.aload_n 0, 1) := by decide +kernel
theorem dX1_init_1 : decode cX1_init 1 = .ok (.invokespecial 3, 3) := by decide +kernel
theorem dX1_init_4 : decode cX1_init 4 = .ok (.aload_n 0, 1) := by decide +kernel
theorem dX1_init_5 : decode cX1_init 5 = .ok (.sipush 252, 3) := by decide +kernel
theorem dX1_init_8 : decode cX1_init 8 = .ok (.newarray .int, 2) := by decide +kernel
theorem dX1_init_10 : decode cX1_init 10 = .ok (.putfield 11, 3) := by decide +kernel
theorem dX1_init_13 : decode cX1_init 13 = .ok (.aload_n 0, 1) := by decide +kernel
theorem dX1_init_14 : decode cX1_init 14 = .ok (.new 15, 3) := by decide +kernel
theorem dX1_init_17 : decode cX1_init 17 = .ok (.dup, 1) := by decide +kernel
theorem dX1_init_18 : decode cX1_init 18 = .ok (.invokespecial 17, 3) := by decide +kernel
theorem dX1_init_21 : decode cX1_init 21 = .ok (.putfield 18, 3) := by decide +kernel
theorem dX1_init_24 : decode cX1_init 24 = .ok (.return_, 1) := by decide +kernel
set_option maxRecDepth 20000 in
theorem ggX1_at_X11_inside : GoodIn wsX1_at wsX11_inside := goodIn_r _ [5] (by decide +kernel) (by decide +kernel)
set_option maxRecDepth 20000 in
theorem gX1_at_X11_inside_n26 : GoodIn wsX1_at (wsX11_inside) := ggX1_at_X11_inside
theorem dX1_at_0 : decode cX1_at 0 = .ok (.iload_n 1, 1) := by decide +kernel
theorem dX1_at_1 : decode cX1_at 1 = .ok (.aload_n 0, 1) := by decide +kernel
theorem dX1_at_2 : decode cX1_at 2 = .ok (.getfield 22, 3) := by decide +kernel
theorem dX1_at_5 : decode cX1_at 5 = .ok (.invokestatic 26, 3) := by decide +kernel
theorem dX1_at_8 : decode cX1_at 8 = .ok (.ifCond .eq 19, 3) := by decide +kernel
theorem dX1_at_11 : decode cX1_at 11 = .ok (.iload_n 1, 1) := by decide +kernel
theorem dX1_at_12 : decode cX1_at 12 = .ok (.sipush 252, 3) := by decide +kernel
theorem dX1_at_15 : decode cX1_at 15 = .ok (.if_icmp .ge 12, 3) := by decide +kernel
theorem dX1_at_18 : decode cX1_at 18 = .ok (.aload_n 0, 1) := by decide +kernel
theorem dX1_at_19 : decode cX1_at 19 = .ok (.getfield 11, 3) := by decide +kernel
theorem dX1_at_22 : decode cX1_at 22 = .ok (.iload_n 1, 1) := by decide +kernel
theorem dX1_at_23 : decode cX1_at 23 = .ok (.iaload, 1) := by decide +kernel
theorem dX1_at_24 : decode cX1_at 24 = .ok (.goto 4, 3) := by decide +kernel
theorem dX1_at_27 : decode cX1_at 27 = .ok (.iconst (-1), 1) := by decide +kernel
theorem dX1_at_28 : decode cX1_at 28 = .ok (.ireturn, 1) := by decide +kernel
set_option maxRecDepth 20000 in
theorem ggX1_seek_X9_clear : GoodIn wsX1_seek wsX9_clear := goodIn_r _ [7, 8, 9, 10, 11, 12, 13, 14, 43, 44, 45, 46, 47] (by decide +kernel) (by decide +kernel)
set_option maxRecDepth 20000 in
theorem gX1_seek_X9_clear : GoodIn wsX1_seek (wsV RX1 33 RX9 yX9_clear wsX9_clear) := goodIn_app (goodIn_of _ (by decide +kernel)) ggX1_seek_X9_clear
set_option maxRecDepth 20000 in
theorem ggX1_seek_X11_isWithin : GoodIn wsX1_seek wsX11_isWithin := goodIn_r _ [17] (by decide +kernel) (by decide +kernel)
set_option maxRecDepth 20000 in
theorem gX1_seek_X11_isWithin_n37 : GoodIn wsX1_seek (wsX11_isWithin) := ggX1_seek_X11_isWithin
set_option maxRecDepth 20000 in
theorem ggX1_seek_X9_at : GoodIn wsX1_seek wsX9_at := goodIn_r _ [21, 8, 22, 16, 23, 24, 25, 43, 44, 45, 46, 47] (by decide +kernel) (by decide +kernel)
set_option maxRecDepth 20000 in
theorem gX1_seek_X9_at : GoodIn wsX1_seek (wsV RX1 40 RX9 yX9_at wsX9_at) := goodIn_app (goodIn_of _ (by decide +kernel)) ggX1_seek_X9_at
set_option maxRecDepth 20000 in
theorem ggX1_seek_X1_weigh : GoodIn wsX1_seek wsX1_weigh := goodIn_r _ [30, 1, 31, 2, 32, 33, 34, 29, 35, 24, 16, 25, 18, 19, 20, 6, 21, 8, 22, 23, 36, 37, 38, 39, 40, 41, 42, 43, 44, 45, 46, 47] (by decide +kernel) (by decide +kernel)
set_option maxRecDepth 20000 in
theorem gX1_seek_X1_weigh : GoodIn wsX1_seek (wsV RX1 44 RX1 yX1_weigh wsX1_weigh) := goodIn_app (goodIn_of _ (by decide +kernel)) ggX1_seek_X1_weigh
theorem dX1_seek_0 : decode cX1_seek 0 = .ok (.aload_n 0, 1) := by decide +kernel
theorem dX1_seek_1 : decode cX1_seek 1 = .ok (.iconst 0, 1) := by decide +kernel
theorem dX1_seek_2 : decode cX1_seek 2 = .ok (.putfield 22, 3) := by decide +kernel
theorem dX1_seek_5 : decode cX1_seek 5 = .ok (.aload_n 0, 1) := by decide +kernel
theorem dX1_seek_6 : decode cX1_seek 6 = .ok (.getfield 18, 3) := by decide +kernel
theorem dX1_seek_9 : decode cX1_seek 9 = .ok (.aload_n 1, 1) := by decide +kernel
theorem dX1_seek_10 : decode cX1_seek 10 = .ok (.getfield 30, 3) := by decide +kernel
theorem dX1_seek_13 : decode cX1_seek 13 = .ok (.invokevirtual 33, 3) := by decide +kernel
theorem dX1_seek_16 : decode cX1_seek 16 = .ok (.iconst 0, 1) := by decide +kernel
theorem dX1_seek_17 : decode cX1_seek 17 = .ok (.istore_n 3, 1) := by decide +kernel
theorem dX1_seek_18 : decode cX1_seek 18 = .ok (.iload_n 3, 1) := by decide +kernel
theorem dX1_seek_19 : decode cX1_seek 19 = .ok (.aload_n 1, 1) := by decide +kernel
theorem dX1_seek_20 : decode cX1_seek 20 = .ok (.getfield 30, 3) := by decide +kernel
theorem dX1_seek_23 : decode cX1_seek 23 = .ok (.if_icmp .gt 61, 3) := by decide +kernel
theorem dX1_seek_26 : decode cX1_seek 26 = .ok (.iload_n 3, 1) := by decide +kernel
theorem dX1_seek_27 : decode cX1_seek 27 = .ok (.aload_n 1, 1) := by decide +kernel
theorem dX1_seek_28 : decode cX1_seek 28 = .ok (.getfield 30, 3) := by decide +kernel
theorem dX1_seek_31 : decode cX1_seek 31 = .ok (.invokestatic 37, 3) := by decide +kernel
theorem dX1_seek_34 : decode cX1_seek 34 = .ok (.ifCond .eq 44, 3) := by decide +kernel
theorem dX1_seek_37 : decode cX1_seek 37 = .ok (.iload_n 2, 1) := by decide +kernel
theorem dX1_seek_38 : decode cX1_seek 38 = .ok (.ifCond .eq 26, 3) := by decide +kernel
theorem dX1_seek_41 : decode cX1_seek 41 = .ok (.aload_n 1, 1) := by decide +kernel
theorem dX1_seek_42 : decode cX1_seek 42 = .ok (.aload_n 1, 1) := by decide +kernel
theorem dX1_seek_43 : decode cX1_seek 43 = .ok (.getfield 30, 3) := by decide +kernel
theorem dX1_seek_46 : decode cX1_seek 46 = .ok (.iload_n 3, 1) := by decide +kernel
theorem dX1_seek_47 : decode cX1_seek 47 = .ok (.iconst (-1), 1) := by decide +kernel
theorem dX1_seek_48 : decode cX1_seek 48 = .ok (.ixor, 1) := by decide +kernel
theorem dX1_seek_49 : decode cX1_seek 49 = .ok (.iand, 1) := by decide +kernel
theorem dX1_seek_50 : decode cX1_seek 50 = .ok (.invokevirtual 40, 3) := by decide +kernel
theorem dX1_seek_53 : decode cX1_seek 53 = .ok (.ifCond .ne 7, 3) := by decide +kernel
theorem dX1_seek_56 : decode cX1_seek 56 = .ok (.iconst 1, 1) := by decide +kernel
theorem dX1_seek_57 : decode cX1_seek 57 = .ok (.goto 12, 3) := by decide +kernel
theorem dX1_seek_60 : decode cX1_seek 60 = .ok (.iconst 0, 1) := by decide +kernel
theorem dX1_seek_61 : decode cX1_seek 61 = .ok (.goto 8, 3) := by decide +kernel
theorem dX1_seek_64 : decode cX1_seek 64 = .ok (.aload_n 1, 1) := by decide +kernel
theorem dX1_seek_65 : decode cX1_seek 65 = .ok (.iload_n 3, 1) := by decide +kernel
theorem dX1_seek_66 : decode cX1_seek 66 = .ok (.invokevirtual 40, 3) := by decide +kernel
theorem dX1_seek_69 : decode cX1_seek 69 = .ok (.istore 4, 2) := by decide +kernel
theorem dX1_seek_71 : decode cX1_seek 71 = .ok (.aload_n 0, 1) := by decide +kernel
theorem dX1_seek_72 : decode cX1_seek 72 = .ok (.iload_n 3, 1) := by decide +kernel
theorem dX1_seek_73 : decode cX1_seek 73 = .ok (.iload 4, 2) := by decide +kernel
theorem dX1_seek_75 : decode cX1_seek 75 = .ok (.invokevirtual 44, 3) := by decide +kernel
theorem dX1_seek_78 : decode cX1_seek 78 = .ok (.iinc 3 1, 3) := by decide +kernel
theorem dX1_seek_81 : decode cX1_seek 81 = .ok (.goto (-63), 3) := by decide +kernel
theorem dX1_seek_84 : decode cX1_seek 84 = .ok (.return_, 1) := by decide +kernel
set_option maxRecDepth 20000 in
theorem ggX1_weigh_X1_coversOne : GoodIn wsX1_weigh wsX1_coversOne := goodIn_r _ [8, 3, 9, 10, 11, 12, 13, 14, 15, 16, 17, 18, 19, 24, 25, 26, 27, 28, 29, 30, 31] (by decide +kernel) (by decide +kernel)
set_option maxRecDepth 20000 in
theorem gX1_weigh_X1_coversOne : GoodIn wsX1_weigh (wsV RX1 48 RX1 yX1_coversOne wsX1_coversOne) := goodIn_app (goodIn_of _ (by decide +kernel)) ggX1_weigh_X1_coversOne
set_option maxRecDepth 20000 in
theorem ggX1_weigh_X11_inside : GoodIn wsX1_weigh wsX11_inside := goodIn_r _ [19] (by decide +kernel) (by decide +kernel)
set_option maxRecDepth 20000 in
theorem gX1_weigh_X11_inside_n26 : GoodIn wsX1_weigh (wsX11_inside) := ggX1_weigh_X11_inside
set_option maxRecDepth 20000 in
theorem ggX1_weigh_X9_mark : GoodIn wsX1_weigh wsX9_mark := goodIn_r _ [23, 17, 18, 10, 19, 27, 28, 29, 30, 31] (by decide +kernel) (by decide +kernel)
set_option maxRecDepth 20000 in
theorem gX1_weigh_X9_mark : GoodIn wsX1_weigh (wsV RX1 51 RX9 yX9_mark wsX9_mark) := goodIn_app (goodIn_of _ (by decide +kernel)) ggX1_weigh_X9_mark
theorem dX1_weigh_0 : decode cX1_weigh 0 = .ok (.aload_n 0, 1) := by decide +kernel
theorem dX1_weigh_1 : decode cX1_weigh 1 = .ok (.iload_n 1, 1) := by decide +kernel
theorem dX1_weigh_2 : decode cX1_weigh 2 = .ok (.invokevirtual 48, 3) := by decide +kernel
theorem dX1_weigh_5 : decode cX1_weigh 5 = .ok (.istore_n 3, 1) := by decide +kernel
theorem dX1_weigh_6 : decode cX1_weigh 6 = .ok (.iload_n 2, 1) := by decide +kernel
theorem dX1_weigh_7 : decode cX1_weigh 7 = .ok (.ifCond .eq 40, 3) := by decide +kernel
theorem dX1_weigh_10 : decode cX1_weigh 10 = .ok (.iload_n 3, 1) := by decide +kernel
theorem dX1_weigh_11 : decode cX1_weigh 11 = .ok (.ifCond .ne 36, 3) := by decide +kernel
theorem dX1_weigh_14 : decode cX1_weigh 14 = .ok (.aload_n 0, 1) := by decide +kernel
theorem dX1_weigh_15 : decode cX1_weigh 15 = .ok (.getfield 22, 3) := by decide +kernel
theorem dX1_weigh_18 : decode cX1_weigh 18 = .ok (.sipush 252, 3) := by decide +kernel
theorem dX1_weigh_21 : decode cX1_weigh 21 = .ok (.invokestatic 26, 3) := by decide +kernel
theorem dX1_weigh_24 : decode cX1_weigh 24 = .ok (.ifCond .eq 23, 3) := by decide +kernel
theorem dX1_weigh_27 : decode cX1_weigh 27 = .ok (.aload_n 0, 1) := by decide +kernel
theorem dX1_weigh_28 : decode cX1_weigh 28 = .ok (.getfield 11, 3) := by decide +kernel
theorem dX1_weigh_31 : decode cX1_weigh 31 = .ok (.aload_n 0, 1) := by decide +kernel
theorem dX1_weigh_32 : decode cX1_weigh 32 = .ok (.getfield 22, 3) := by decide +kernel
theorem dX1_weigh_35 : decode cX1_weigh 35 = .ok (.iload_n 1, 1) := by decide +kernel
theorem dX1_weigh_36 : decode cX1_weigh 36 = .ok (.iastore, 1) := by decide +kernel
theorem dX1_weigh_37 : decode cX1_weigh 37 = .ok (.aload_n 0, 1) := by decide +kernel
theorem dX1_weigh_38 : decode cX1_weigh 38 = .ok (.dup, 1) := by decide +kernel
theorem dX1_weigh_39 : decode cX1_weigh 39 = .ok (.getfield 22, 3) := by decide +kernel
theorem dX1_weigh_42 : decode cX1_weigh 42 = .ok (.iconst 1, 1) := by decide +kernel
theorem dX1_weigh_43 : decode cX1_weigh 43 = .ok (.iadd, 1) := by decide +kernel
theorem dX1_weigh_44 : decode cX1_weigh 44 = .ok (.putfield 22, 3) := by decide +kernel
theorem dX1_weigh_47 : decode cX1_weigh 47 = .ok (.iload_n 2, 1) := by decide +kernel
theorem dX1_weigh_48 : decode cX1_weigh 48 = .ok (.ifCond .ne 7, 3) := by decide +kernel
theorem dX1_weigh_51 : decode cX1_weigh 51 = .ok (.iload_n 3, 1) := by decide +kernel
theorem dX1_weigh_52 : decode cX1_weigh 52 = .ok (.ifCond .eq 11, 3) := by decide +kernel
theorem dX1_weigh_55 : decode cX1_weigh 55 = .ok (.aload_n 0, 1) := by decide +kernel
theorem dX1_weigh_56 : decode cX1_weigh 56 = .ok (.getfield 18, 3) := by decide +kernel
theorem dX1_weigh_59 : decode cX1_weigh 59 = .ok (.iload_n 1, 1) := by decide +kernel
theorem dX1_weigh_60 : decode cX1_weigh 60 = .ok (.invokevirtual 51, 3) := by decide +kernel
theorem dX1_weigh_63 : decode cX1_weigh 63 = .ok (.return_, 1) := by decide +kernel
set_option maxRecDepth 20000 in
theorem ggX1_coversOne_X11_has : GoodIn wsX1_coversOne wsX11_has := goodIn_r _ [4] (by decide +kernel) (by decide +kernel)
set_option maxRecDepth 20000 in
theorem gX1_coversOne_X11_has_n54 : GoodIn wsX1_coversOne (wsX11_has) := ggX1_coversOne_X11_has
set_option maxRecDepth 20000 in
theorem ggX1_coversOne_X9_at : GoodIn wsX1_coversOne wsX9_at := goodIn_r _ [9, 10, 11, 3, 12, 2, 4, 16, 17, 18, 19, 20] (by decide +kernel) (by decide +kernel)
set_option maxRecDepth 20000 in
theorem gX1_coversOne_X9_at : GoodIn wsX1_coversOne (wsV RX1 40 RX9 yX9_at wsX9_at) := goodIn_app (goodIn_of _ (by decide +kernel)) ggX1_coversOne_X9_at
theorem dX1_coversOne_0 : decode cX1_coversOne 0 = .ok (.iconst 0, 1) := by decide +kernel
theorem dX1_coversOne_1 : decode cX1_coversOne 1 = .ok (.istore_n 2, 1) := by decide +kernel
theorem dX1_coversOne_2 : decode cX1_coversOne 2 = .ok (.iload_n 2, 1) := by decide +kernel
theorem dX1_coversOne_3 : decode cX1_coversOne 3 = .ok (.bipush 10, 2) := by decide +kernel
theorem dX1_coversOne_5 : decode cX1_coversOne 5 = .ok (.if_icmp .ge 34, 3) := by decide +kernel
theorem dX1_coversOne_8 : decode cX1_coversOne 8 = .ok (.iload_n 1, 1) := by decide +kernel
theorem dX1_coversOne_9 : decode cX1_coversOne 9 = .ok (.iload_n 2, 1) := by decide +kernel
theorem dX1_coversOne_10 : decode cX1_coversOne 10 = .ok (.invokestatic 54, 3) := by decide +kernel
theorem dX1_coversOne_13 : decode cX1_coversOne 13 = .ok (.ifCond .eq 20, 3) := by decide +kernel
theorem dX1_coversOne_16 : decode cX1_coversOne 16 = .ok (.aload_n 0, 1) := by decide +kernel
theorem dX1_coversOne_17 : decode cX1_coversOne 17 = .ok (.getfield 18, 3) := by decide +kernel
theorem dX1_coversOne_20 : decode cX1_coversOne 20 = .ok (.iload_n 1, 1) := by decide +kernel
theorem dX1_coversOne_21 : decode cX1_coversOne 21 = .ok (.iconst 1, 1) := by decide +kernel
theorem dX1_coversOne_22 : decode cX1_coversOne 22 = .ok (.iload_n 2, 1) := by decide +kernel
theorem dX1_coversOne_23 : decode cX1_coversOne 23 = .ok (.ishl, 1) := by decide +kernel
theorem dX1_coversOne_24 : decode cX1_coversOne 24 = .ok (.ixor, 1) := by decide +kernel
theorem dX1_coversOne_25 : decode cX1_coversOne 25 = .ok (.invokevirtual 40, 3) := by decide +kernel
theorem dX1_coversOne_28 : decode cX1_coversOne 28 = .ok (.ifCond .eq 5, 3) := by decide +kernel
theorem dX1_coversOne_31 : decode cX1_coversOne 31 = .ok (.iconst 1, 1) := by decide +kernel
theorem dX1_coversOne_32 : decode cX1_coversOne 32 = .ok (.ireturn, 1) := by decide +kernel
theorem dX1_coversOne_33 : decode cX1_coversOne 33 = .ok (.iinc 2 1, 3) := by decide +kernel
theorem dX1_coversOne_36 : decode cX1_coversOne 36 = .ok (.goto (-34), 3) := by decide +kernel
theorem dX1_coversOne_39 : decode cX1_coversOne 39 = .ok (.iconst 0, 1) := by decide +kernel
theorem dX1_coversOne_40 : decode cX1_coversOne 40 = .ok (.ireturn, 1) := by decide +kernel
theorem dX2_init_0 : decode cX2_init 0 = .ok (.aload_n 0, 1) := by decide +kernel
theorem dX2_init_1 : decode cX2_init 1 = .ok (.invokespecial 3, 3) := by decide +kernel
theorem dX2_init_4 : decode cX2_init 4 = .ok (.aload_n 0, 1) := by decide +kernel
theorem dX2_init_5 : decode cX2_init 5 = .ok (.bipush 6, 2) := by decide +kernel
theorem dX2_init_7 : decode cX2_init 7 = .ok (.newarray .int, 2) := by decide +kernel
theorem dX2_init_9 : decode cX2_init 9 = .ok (.putfield 9, 3) := by decide +kernel
theorem dX2_init_12 : decode cX2_init 12 = .ok (.return_, 1) := by decide +kernel
set_option maxRecDepth 20000 in
theorem ggX2_seek_X7_blocs : GoodIn wsX2_seek wsX7_blocs := goodIn_r _ [9, 10, 94, 95, 96, 97] (by decide +kernel) (by decide +kernel)
set_option maxRecDepth 20000 in
theorem gX2_seek_X7_blocs : GoodIn wsX2_seek (wsV RX2 15 RX7 yX7_blocs wsX7_blocs) := goodIn_app (goodIn_of _ (by decide +kernel)) ggX2_seek_X7_blocs
set_option maxRecDepth 20000 in
theorem ggX2_seek_X11_isWithin : GoodIn wsX2_seek wsX11_isWithin := goodIn_r _ [13] (by decide +kernel) (by decide +kernel)
set_option maxRecDepth 20000 in
theorem gX2_seek_X11_isWithin_n34 : GoodIn wsX2_seek (wsX11_isWithin) := ggX2_seek_X11_isWithin
set_option maxRecDepth 20000 in
theorem ggX2_seek_X2_hangsTogether : GoodIn wsX2_seek wsX2_hangsTogether := goodIn_r _ [18, 19, 20, 21, 22, 17, 23, 24, 25, 26, 27, 28, 12, 29, 30, 31, 32, 33, 34, 35, 36, 89, 90, 91, 92, 93] (by decide +kernel) (by decide +kernel)
set_option maxRecDepth 20000 in
theorem gX2_seek_X2_hangsTogether : GoodIn wsX2_seek (wsV RX2 38 RX2 yX2_hangsTogether wsX2_hangsTogether) := goodIn_app (goodIn_of _ (by decide +kernel)) ggX2_seek_X2_hangsTogether
set_option maxRecDepth 20000 in
theorem ggX2_seek_X7_ofBlocs : GoodIn wsX2_seek wsX7_ofBlocs := goodIn_r _ [40, 10, 28, 12, 29, 94, 95, 96, 97] (by decide +kernel) (by decide +kernel)
set_option maxRecDepth 20000 in
theorem gX2_seek_X7_ofBlocs : GoodIn wsX2_seek (wsV RX2 41 RX7 yX7_ofBlocs wsX7_ofBlocs) := goodIn_app (goodIn_of _ (by decide +kernel)) ggX2_seek_X7_ofBlocs
set_option maxRecDepth 20000 in
theorem ggX2_seek_X6_passes : GoodIn wsX2_seek wsX6_passes := goodIn_r _ [45, 46, 47, 48, 49, 50, 51, 52, 53, 12, 54, 28, 29, 55, 56, 57, 44, 58, 59, 60, 61, 62, 63, 64, 65, 66, 67, 68, 69, 70, 71, 72, 73, 74, 8, 75, 76, 77, 78, 79, 80, 10, 81, 82, 83, 98, 99, 100, 101, 102, 103, 104, 105, 106, 94, 95, 96, 97] (by decide +kernel) (by decide +kernel)
set_option maxRecDepth 20000 in
theorem gX2_seek_X6_passes : GoodIn wsX2_seek (wsV RX2 45 RX6 yX6_passes wsX6_passes) := goodIn_app (goodIn_of _ (by decide +kernel)) ggX2_seek_X6_passes
set_option maxRecDepth 20000 in
theorem ggX2_seek_X2_greatest : GoodIn wsX2_seek wsX2_greatest := goodIn_r _ [33, 19, 34, 35, 26, 36, 28, 12, 29, 89, 90, 91, 92, 93] (by decide +kernel) (by decide +kernel)
set_option maxRecDepth 20000 in
theorem gX2_seek_X2_greatest : GoodIn wsX2_seek (wsV RX2 51 RX2 yX2_greatest wsX2_greatest) := goodIn_app (goodIn_of _ (by decide +kernel)) ggX2_seek_X2_greatest
set_option maxRecDepth 20000 in
theorem ggX2_seek_X2_smallest : GoodIn wsX2_seek wsX2_smallest := goodIn_r _ [23, 19, 24, 25, 26, 27, 28, 12, 29, 89, 90, 91, 92, 93] (by decide +kernel) (by decide +kernel)
set_option maxRecDepth 20000 in
theorem gX2_seek_X2_smallest : GoodIn wsX2_seek (wsV RX2 54 RX2 yX2_smallest wsX2_smallest) := goodIn_app (goodIn_of _ (by decide +kernel)) ggX2_seek_X2_smallest
set_option maxRecDepth 20000 in
theorem ggX2_seek_X7_weightOf : GoodIn wsX2_seek wsX7_weightOf := goodIn_r _ [75, 76, 94, 95, 96, 97] (by decide +kernel) (by decide +kernel)
set_option maxRecDepth 20000 in
theorem gX2_seek_X7_weightOf : GoodIn wsX2_seek (wsV RX2 57 RX7 yX7_weightOf wsX7_weightOf) := goodIn_app (goodIn_of _ (by decide +kernel)) ggX2_seek_X7_weightOf
set_option maxRecDepth 20000 in
theorem ggX2_seek_X2_keepBetter : GoodIn wsX2_seek wsX2_keepBetter := goodIn_r _ [88, 2, 3, 4, 89, 90, 91, 92, 93] (by decide +kernel) (by decide +kernel)
set_option maxRecDepth 20000 in
theorem gX2_seek_X2_keepBetter : GoodIn wsX2_seek (wsV RX2 60 RX2 yX2_keepBetter wsX2_keepBetter) := goodIn_app (goodIn_of _ (by decide +kernel)) ggX2_seek_X2_keepBetter
theorem dX2_seek_0 : decode cX2_seek 0 = .ok (.aload_n 2, 1) := by decide +kernel
theorem dX2_seek_1 : decode cX2_seek 1 = .ok (.invokevirtual 15, 3) := by decide +kernel
theorem dX2_seek_4 : decode cX2_seek 4 = .ok (.istore_n 3, 1) := by decide +kernel
theorem dX2_seek_5 : decode cX2_seek 5 = .ok (.aload_n 0, 1) := by decide +kernel
theorem dX2_seek_6 : decode cX2_seek 6 = .ok (.iconst 0, 1) := by decide +kernel
theorem dX2_seek_7 : decode cX2_seek 7 = .ok (.putfield 21, 3) := by decide +kernel
theorem dX2_seek_10 : decode cX2_seek 10 = .ok (.aload_n 0, 1) := by decide +kernel
theorem dX2_seek_11 : decode cX2_seek 11 = .ok (.iconst (-1), 1) := by decide +kernel
theorem dX2_seek_12 : decode cX2_seek 12 = .ok (.putfield 25, 3) := by decide +kernel
theorem dX2_seek_15 : decode cX2_seek 15 = .ok (.aload_n 0, 1) := by decide +kernel
theorem dX2_seek_16 : decode cX2_seek 16 = .ok (.iconst (-1), 1) := by decide +kernel
theorem dX2_seek_17 : decode cX2_seek 17 = .ok (.putfield 28, 3) := by decide +kernel
theorem dX2_seek_20 : decode cX2_seek 20 = .ok (.aload_n 0, 1) := by decide +kernel
theorem dX2_seek_21 : decode cX2_seek 21 = .ok (.iconst (-1), 1) := by decide +kernel
theorem dX2_seek_22 : decode cX2_seek 22 = .ok (.putfield 31, 3) := by decide +kernel
theorem dX2_seek_25 : decode cX2_seek 25 = .ok (.iconst 1, 1) := by decide +kernel
theorem dX2_seek_26 : decode cX2_seek 26 = .ok (.istore 4, 2) := by decide +kernel
theorem dX2_seek_28 : decode cX2_seek 28 = .ok (.iload 4, 2) := by decide +kernel
theorem dX2_seek_30 : decode cX2_seek 30 = .ok (.iload_n 3, 1) := by decide +kernel
theorem dX2_seek_31 : decode cX2_seek 31 = .ok (.if_icmp .gt 81, 3) := by decide +kernel
theorem dX2_seek_34 : decode cX2_seek 34 = .ok (.iload 4, 2) := by decide +kernel
theorem dX2_seek_36 : decode cX2_seek 36 = .ok (.iload_n 3, 1) := by decide +kernel
theorem dX2_seek_37 : decode cX2_seek 37 = .ok (.invokestatic 34, 3) := by decide +kernel
theorem dX2_seek_40 : decode cX2_seek 40 = .ok (.ifCond .eq 66, 3) := by decide +kernel
theorem dX2_seek_43 : decode cX2_seek 43 = .ok (.aload_n 0, 1) := by decide +kernel
theorem dX2_seek_44 : decode cX2_seek 44 = .ok (.iload 4, 2) := by decide +kernel
theorem dX2_seek_46 : decode cX2_seek 46 = .ok (.iload_n 3, 1) := by decide +kernel
theorem dX2_seek_47 : decode cX2_seek 47 = .ok (.invokevirtual 38, 3) := by decide +kernel
theorem dX2_seek_50 : decode cX2_seek 50 = .ok (.ifCond .eq 56, 3) := by decide +kernel
theorem dX2_seek_53 : decode cX2_seek 53 = .ok (.aload_n 2, 1) := by decide +kernel
theorem dX2_seek_54 : decode cX2_seek 54 = .ok (.iload 4, 2) := by decide +kernel
theorem dX2_seek_56 : decode cX2_seek 56 = .ok (.invokevirtual 41, 3) := by decide +kernel
theorem dX2_seek_59 : decode cX2_seek 59 = .ok (.istore 5, 2) := by decide +kernel
theorem dX2_seek_61 : decode cX2_seek 61 = .ok (.aload_n 1, 1) := by decide +kernel
theorem dX2_seek_62 : decode cX2_seek 62 = .ok (.iload 5, 2) := by decide +kernel
theorem dX2_seek_64 : decode cX2_seek 64 = .ok (.aload_n 2, 1) := by decide +kernel
theorem dX2_seek_65 : decode cX2_seek 65 = .ok (.invokevirtual 45, 3) := by decide +kernel
theorem dX2_seek_68 : decode cX2_seek 68 = .ok (.ifCond .eq 38, 3) := by decide +kernel
theorem dX2_seek_71 : decode cX2_seek 71 = .ok (.aload_n 0, 1) := by decide +kernel
theorem dX2_seek_72 : decode cX2_seek 72 = .ok (.dup, 1) := by decide +kernel
theorem dX2_seek_73 : decode cX2_seek 73 = .ok (.getfield 21, 3) := by decide +kernel
theorem dX2_seek_76 : decode cX2_seek 76 = .ok (.iconst 1, 1) := by decide +kernel
theorem dX2_seek_77 : decode cX2_seek 77 = .ok (.iadd, 1) := by decide +kernel
theorem dX2_seek_78 : decode cX2_seek 78 = .ok (.putfield 21, 3) := by decide +kernel
theorem dX2_seek_81 : decode cX2_seek 81 = .ok (.aload_n 0, 1) := by decide +kernel
theorem dX2_seek_82 : decode cX2_seek 82 = .ok (.iload 4, 2) := by decide +kernel
theorem dX2_seek_84 : decode cX2_seek 84 = .ok (.aload_n 0, 1) := by decide +kernel
theorem dX2_seek_85 : decode cX2_seek 85 = .ok (.iload 4, 2) := by decide +kernel
theorem dX2_seek_87 : decode cX2_seek 87 = .ok (.invokevirtual 51, 3) := by decide +kernel
theorem dX2_seek_90 : decode cX2_seek 90 = .ok (.aload_n 0, 1) := by decide +kernel
theorem dX2_seek_91 : decode cX2_seek 91 = .ok (.iload 4, 2) := by decide +kernel
theorem dX2_seek_93 : decode cX2_seek 93 = .ok (.invokevirtual 54, 3) := by decide +kernel
theorem dX2_seek_96 : decode cX2_seek 96 = .ok (.isub, 1) := by decide +kernel
theorem dX2_seek_97 : decode cX2_seek 97 = .ok (.aload_n 2, 1) := by decide +kernel
theorem dX2_seek_98 : decode cX2_seek 98 = .ok (.iload 5, 2) := by decide +kernel
theorem dX2_seek_100 : decode cX2_seek 100 = .ok (.invokevirtual 57, 3) := by decide +kernel
theorem dX2_seek_103 : decode cX2_seek 103 = .ok (.invokevirtual 60, 3) := by decide +kernel
theorem dX2_seek_106 : decode cX2_seek 106 = .ok (.iinc 4 1, 3) := by decide +kernel
theorem dX2_seek_109 : decode cX2_seek 109 = .ok (.goto (-81), 3) := by decide +kernel
theorem dX2_seek_112 : decode cX2_seek 112 = .ok (.return_, 1) := by decide +kernel
theorem dX2_keepBetter_0 : decode cX2_keepBetter 0 = .ok (.aload_n 0, 1) := by decide +kernel
theorem dX2_keepBetter_1 : decode cX2_keepBetter 1 = .ok (.getfield 25, 3) := by decide +kernel
theorem dX2_keepBetter_4 : decode cX2_keepBetter 4 = .ok (.iconst (-1), 1) := by decide +kernel
theorem dX2_keepBetter_5 : decode cX2_keepBetter 5 = .ok (.if_icmp .eq 27, 3) := by decide +kernel
theorem dX2_keepBetter_8 : decode cX2_keepBetter 8 = .ok (.iload_n 2, 1) := by decide +kernel
theorem dX2_keepBetter_9 : decode cX2_keepBetter 9 = .ok (.aload_n 0, 1) := by decide +kernel
theorem dX2_keepBetter_10 : decode cX2_keepBetter 10 = .ok (.getfield 28, 3) := by decide +kernel
theorem dX2_keepBetter_13 : decode cX2_keepBetter 13 = .ok (.if_icmp .lt 19, 3) := by decide +kernel
theorem dX2_keepBetter_16 : decode cX2_keepBetter 16 = .ok (.iload_n 2, 1) := by decide +kernel
theorem dX2_keepBetter_17 : decode cX2_keepBetter 17 = .ok (.aload_n 0, 1) := by decide +kernel
theorem dX2_keepBetter_18 : decode cX2_keepBetter 18 = .ok (.getfield 28, 3) := by decide +kernel
theorem dX2_keepBetter_21 : decode cX2_keepBetter 21 = .ok (.if_icmp .ne 26, 3) := by decide +kernel
theorem dX2_keepBetter_24 : decode cX2_keepBetter 24 = .ok (.iload_n 3, 1) := by decide +kernel
theorem dX2_keepBetter_25 : decode cX2_keepBetter 25 = .ok (.aload_n 0, 1) := by decide +kernel
theorem dX2_keepBetter_26 : decode cX2_keepBetter 26 = .ok (.getfield 31, 3) := by decide +kernel
theorem dX2_keepBetter_29 : decode cX2_keepBetter 29 = .ok (.if_icmp .ge 18, 3) := by decide +kernel
theorem dX2_keepBetter_32 : decode cX2_keepBetter 32 = .ok (.aload_n 0, 1) := by decide +kernel
theorem dX2_keepBetter_33 : decode cX2_keepBetter 33 = .ok (.iload_n 1, 1) := by decide +kernel
theorem dX2_keepBetter_34 : decode cX2_keepBetter 34 = .ok (.putfield 25, 3) := by decide +kernel
theorem dX2_keepBetter_37 : decode cX2_keepBetter 37 = .ok (.aload_n 0, 1) := by decide +kernel
theorem dX2_keepBetter_38 : decode cX2_keepBetter 38 = .ok (.iload_n 2, 1) := by decide +kernel
theorem dX2_keepBetter_39 : decode cX2_keepBetter 39 = .ok (.putfield 28, 3) := by decide +kernel
theorem dX2_keepBetter_42 : decode cX2_keepBetter 42 = .ok (.aload_n 0, 1) := by decide +kernel
theorem dX2_keepBetter_43 : decode cX2_keepBetter 43 = .ok (.iload_n 3, 1) := by decide +kernel
theorem dX2_keepBetter_44 : decode cX2_keepBetter 44 = .ok (.putfield 31, 3) := by decide +kernel
theorem dX2_keepBetter_47 : decode cX2_keepBetter 47 = .ok (.return_, 1) := by decide +kernel
set_option maxRecDepth 20000 in
theorem ggX2_hangsTogether_X2_smallest : GoodIn wsX2_hangsTogether wsX2_smallest := goodIn_r _ [6, 1, 7, 8, 9, 10, 11, 12, 13, 21, 22, 23, 24, 25] (by decide +kernel) (by decide +kernel)
set_option maxRecDepth 20000 in
theorem gX2_hangsTogether_X2_smallest : GoodIn wsX2_hangsTogether (wsV RX2 54 RX2 yX2_smallest wsX2_smallest) := goodIn_app (goodIn_of _ (by decide +kernel)) ggX2_hangsTogether_X2_smallest
set_option maxRecDepth 20000 in
theorem ggX2_hangsTogether_X2_greatest : GoodIn wsX2_hangsTogether wsX2_greatest := goodIn_r _ [17, 1, 18, 19, 9, 20, 11, 12, 13, 21, 22, 23, 24, 25] (by decide +kernel) (by decide +kernel)
set_option maxRecDepth 20000 in
theorem gX2_hangsTogether_X2_greatest : GoodIn wsX2_hangsTogether (wsV RX2 51 RX2 yX2_greatest wsX2_greatest) := goodIn_app (goodIn_of _ (by decide +kernel)) ggX2_hangsTogether_X2_greatest
set_option maxRecDepth 20000 in
theorem ggX2_hangsTogether_X11_has : GoodIn wsX2_hangsTogether wsX11_has := goodIn_r _ [13] (by decide +kernel) (by decide +kernel)
set_option maxRecDepth 20000 in
theorem gX2_hangsTogether_X11_has_n64 : GoodIn wsX2_hangsTogether (wsX11_has) := ggX2_hangsTogether_X11_has
theorem dX2_hangsTogether_0 : decode cX2_hangsTogether 0 = .ok (.aload_n 0, 1) := by decide +kernel
theorem dX2_hangsTogether_1 : decode cX2_hangsTogether 1 = .ok (.iload_n 1, 1) := by decide +kernel
theorem dX2_hangsTogether_2 : decode cX2_hangsTogether 2 = .ok (.invokevirtual 54, 3) := by decide +kernel
theorem dX2_hangsTogether_5 : decode cX2_hangsTogether 5 = .ok (.istore_n 3, 1) := by decide +kernel
theorem dX2_hangsTogether_6 : decode cX2_hangsTogether 6 = .ok (.aload_n 0, 1) := by decide +kernel
theorem dX2_hangsTogether_7 : decode cX2_hangsTogether 7 = .ok (.iload_n 1, 1) := by decide +kernel
theorem dX2_hangsTogether_8 : decode cX2_hangsTogether 8 = .ok (.invokevirtual 51, 3) := by decide +kernel
theorem dX2_hangsTogether_11 : decode cX2_hangsTogether 11 = .ok (.istore 4, 2) := by decide +kernel
theorem dX2_hangsTogether_13 : decode cX2_hangsTogether 13 = .ok (.iconst 0, 1) := by decide +kernel
theorem dX2_hangsTogether_14 : decode cX2_hangsTogether 14 = .ok (.istore 5, 2) := by decide +kernel
theorem dX2_hangsTogether_16 : decode cX2_hangsTogether 16 = .ok (.iload 5, 2) := by decide +kernel
theorem dX2_hangsTogether_18 : decode cX2_hangsTogether 18 = .ok (.bipush 6, 2) := by decide +kernel
theorem dX2_hangsTogether_20 : decode cX2_hangsTogether 20 = .ok (.if_icmp .ge 47, 3) := by decide +kernel
theorem dX2_hangsTogether_23 : decode cX2_hangsTogether 23 = .ok (.iload_n 2, 1) := by decide +kernel
theorem dX2_hangsTogether_24 : decode cX2_hangsTogether 24 = .ok (.iload_n 1, 1) := by decide +kernel
theorem dX2_hangsTogether_25 : decode cX2_hangsTogether 25 = .ok (.iconst (-1), 1) := by decide +kernel
theorem dX2_hangsTogether_26 : decode cX2_hangsTogether 26 = .ok (.ixor, 1) := by decide +kernel
theorem dX2_hangsTogether_27 : decode cX2_hangsTogether 27 = .ok (.iand, 1) := by decide +kernel
theorem dX2_hangsTogether_28 : decode cX2_hangsTogether 28 = .ok (.iload 5, 2) := by decide +kernel
theorem dX2_hangsTogether_30 : decode cX2_hangsTogether 30 = .ok (.invokestatic 64, 3) := by decide +kernel
theorem dX2_hangsTogether_33 : decode cX2_hangsTogether 33 = .ok (.ifCond .eq 28, 3) := by decide +kernel
theorem dX2_hangsTogether_36 : decode cX2_hangsTogether 36 = .ok (.aload_n 0, 1) := by decide +kernel
theorem dX2_hangsTogether_37 : decode cX2_hangsTogether 37 = .ok (.getfield 9, 3) := by decide +kernel
theorem dX2_hangsTogether_40 : decode cX2_hangsTogether 40 = .ok (.iload 5, 2) := by decide +kernel
theorem dX2_hangsTogether_42 : decode cX2_hangsTogether 42 = .ok (.iaload, 1) := by decide +kernel
theorem dX2_hangsTogether_43 : decode cX2_hangsTogether 43 = .ok (.iload_n 3, 1) := by decide +kernel
theorem dX2_hangsTogether_44 : decode cX2_hangsTogether 44 = .ok (.if_icmp .le 17, 3) := by decide +kernel
theorem dX2_hangsTogether_47 : decode cX2_hangsTogether 47 = .ok (.aload_n 0, 1) := by decide +kernel
theorem dX2_hangsTogether_48 : decode cX2_hangsTogether 48 = .ok (.getfield 9, 3) := by decide +kernel
theorem dX2_hangsTogether_51 : decode cX2_hangsTogether 51 = .ok (.iload 5, 2) := by decide +kernel
theorem dX2_hangsTogether_53 : decode cX2_hangsTogether 53 = .ok (.iaload, 1) := by decide +kernel
theorem dX2_hangsTogether_54 : decode cX2_hangsTogether 54 = .ok (.iload 4, 2) := by decide +kernel
theorem dX2_hangsTogether_56 : decode cX2_hangsTogether 56 = .ok (.if_icmp .ge 5, 3) := by decide +kernel
theorem dX2_hangsTogether_59 : decode cX2_hangsTogether 59 = .ok (.iconst 0, 1) := by decide +kernel
theorem dX2_hangsTogether_60 : decode cX2_hangsTogether 60 = .ok (.ireturn, 1) := by decide +kernel
theorem dX2_hangsTogether_61 : decode cX2_hangsTogether 61 = .ok (.iinc 5 1, 3) := by decide +kernel
theorem dX2_hangsTogether_64 : decode cX2_hangsTogether 64 = .ok (.goto (-48), 3) := by decide +kernel
theorem dX2_hangsTogether_67 : decode cX2_hangsTogether 67 = .ok (.iconst 1, 1) := by decide +kernel
theorem dX2_hangsTogether_68 : decode cX2_hangsTogether 68 = .ok (.ireturn, 1) := by decide +kernel
set_option maxRecDepth 20000 in
theorem ggX2_smallest_X11_has : GoodIn wsX2_smallest wsX11_has := goodIn_r _ [8] (by decide +kernel) (by decide +kernel)
set_option maxRecDepth 20000 in
theorem gX2_smallest_X11_has_n64 : GoodIn wsX2_smallest (wsX11_has) := ggX2_smallest_X11_has
theorem dX2_smallest_0 : decode cX2_smallest 0 = .ok (.bipush 100, 2) := by decide +kernel
theorem dX2_smallest_2 : decode cX2_smallest 2 = .ok (.istore_n 2, 1) := by decide +kernel
theorem dX2_smallest_3 : decode cX2_smallest 3 = .ok (.iconst 0, 1) := by decide +kernel
theorem dX2_smallest_4 : decode cX2_smallest 4 = .ok (.istore_n 3, 1) := by decide +kernel
theorem dX2_smallest_5 : decode cX2_smallest 5 = .ok (.iload_n 3, 1) := by decide +kernel
theorem dX2_smallest_6 : decode cX2_smallest 6 = .ok (.bipush 6, 2) := by decide +kernel
theorem dX2_smallest_8 : decode cX2_smallest 8 = .ok (.if_icmp .ge 28, 3) := by decide +kernel
theorem dX2_smallest_11 : decode cX2_smallest 11 = .ok (.iload_n 1, 1) := by decide +kernel
theorem dX2_smallest_12 : decode cX2_smallest 12 = .ok (.iload_n 3, 1) := by decide +kernel
theorem dX2_smallest_13 : decode cX2_smallest 13 = .ok (.invokestatic 64, 3) := by decide +kernel
theorem dX2_smallest_16 : decode cX2_smallest 16 = .ok (.ifCond .eq 14, 3) := by decide +kernel
theorem dX2_smallest_19 : decode cX2_smallest 19 = .ok (.iload_n 2, 1) := by decide +kernel
theorem dX2_smallest_20 : decode cX2_smallest 20 = .ok (.aload_n 0, 1) := by decide +kernel
theorem dX2_smallest_21 : decode cX2_smallest 21 = .ok (.getfield 9, 3) := by decide +kernel
theorem dX2_smallest_24 : decode cX2_smallest 24 = .ok (.iload_n 3, 1) := by decide +kernel
theorem dX2_smallest_25 : decode cX2_smallest 25 = .ok (.iaload, 1) := by decide +kernel
theorem dX2_smallest_26 : decode cX2_smallest 26 = .ok (.invokestatic 67, 3) := by decide +kernel
theorem dX2_smallest_29 : decode cX2_smallest 29 = .ok (.istore_n 2, 1) := by decide +kernel
theorem dX2_smallest_30 : decode cX2_smallest 30 = .ok (.iinc 3 1, 3) := by decide +kernel
theorem dX2_smallest_33 : decode cX2_smallest 33 = .ok (.goto (-28), 3) := by decide +kernel
theorem dX2_smallest_36 : decode cX2_smallest 36 = .ok (.iload_n 2, 1) := by decide +kernel
theorem dX2_smallest_37 : decode cX2_smallest 37 = .ok (.ireturn, 1) := by decide +kernel
set_option maxRecDepth 20000 in
theorem ggX2_greatest_X11_has : GoodIn wsX2_greatest wsX11_has := goodIn_r _ [8] (by decide +kernel) (by decide +kernel)
set_option maxRecDepth 20000 in
theorem gX2_greatest_X11_has_n64 : GoodIn wsX2_greatest (wsX11_has) := ggX2_greatest_X11_has
theorem dX2_greatest_0 : decode cX2_greatest 0 = .ok (.iconst 0, 1) := by decide +kernel
theorem dX2_greatest_1 : decode cX2_greatest 1 = .ok (.istore_n 2, 1) := by decide +kernel
theorem dX2_greatest_2 : decode cX2_greatest 2 = .ok (.iconst 0, 1) := by decide +kernel
theorem dX2_greatest_3 : decode cX2_greatest 3 = .ok (.istore_n 3, 1) := by decide +kernel
theorem dX2_greatest_4 : decode cX2_greatest 4 = .ok (.iload_n 3, 1) := by decide +kernel
theorem dX2_greatest_5 : decode cX2_greatest 5 = .ok (.bipush 6, 2) := by decide +kernel
theorem dX2_greatest_7 : decode cX2_greatest 7 = .ok (.if_icmp .ge 28, 3) := by decide +kernel
theorem dX2_greatest_10 : decode cX2_greatest 10 = .ok (.iload_n 1, 1) := by decide +kernel
theorem dX2_greatest_11 : decode cX2_greatest 11 = .ok (.iload_n 3, 1) := by decide +kernel
theorem dX2_greatest_12 : decode cX2_greatest 12 = .ok (.invokestatic 64, 3) := by decide +kernel
theorem dX2_greatest_15 : decode cX2_greatest 15 = .ok (.ifCond .eq 14, 3) := by decide +kernel
theorem dX2_greatest_18 : decode cX2_greatest 18 = .ok (.iload_n 2, 1) := by decide +kernel
theorem dX2_greatest_19 : decode cX2_greatest 19 = .ok (.aload_n 0, 1) := by decide +kernel
theorem dX2_greatest_20 : decode cX2_greatest 20 = .ok (.getfield 9, 3) := by decide +kernel
theorem dX2_greatest_23 : decode cX2_greatest 23 = .ok (.iload_n 3, 1) := by decide +kernel
theorem dX2_greatest_24 : decode cX2_greatest 24 = .ok (.iaload, 1) := by decide +kernel
theorem dX2_greatest_25 : decode cX2_greatest 25 = .ok (.invokestatic 73, 3) := by decide +kernel
theorem dX2_greatest_28 : decode cX2_greatest 28 = .ok (.istore_n 2, 1) := by decide +kernel
theorem dX2_greatest_29 : decode cX2_greatest 29 = .ok (.iinc 3 1, 3) := by decide +kernel
theorem dX2_greatest_32 : decode cX2_greatest 32 = .ok (.goto (-28), 3) := by decide +kernel
theorem dX2_greatest_35 : decode cX2_greatest 35 = .ok (.iload_n 2, 1) := by decide +kernel
theorem dX2_greatest_36 : decode cX2_greatest 36 = .ok (.ireturn, 1) := by decide +kernel
theorem dX3_init_0 : decode cX3_init 0 = .ok (.aload_n 0, 1) := by decide +kernel
theorem dX3_init_1 : decode cX3_init 1 = .ok (.invokespecial 3, 3) := by decide +kernel
theorem dX3_init_4 : decode cX3_init 4 = .ok (.aload_n 0, 1) := by decide +kernel
theorem dX3_init_5 : decode cX3_init 5 = .ok (.sipush 200, 3) := by decide +kernel
theorem dX3_init_8 : decode cX3_init 8 = .ok (.newarray .int, 2) := by decide +kernel
theorem dX3_init_10 : decode cX3_init 10 = .ok (.putfield 9, 3) := by decide +kernel
theorem dX3_init_13 : decode cX3_init 13 = .ok (.aload_n 0, 1) := by decide +kernel
theorem dX3_init_14 : decode cX3_init 14 = .ok (.sipush 200, 3) := by decide +kernel
theorem dX3_init_17 : decode cX3_init 17 = .ok (.newarray .int, 2) := by decide +kernel
theorem dX3_init_19 : decode cX3_init 19 = .ok (.putfield 15, 3) := by decide +kernel
theorem dX3_init_22 : decode cX3_init 22 = .ok (.aload_n 0, 1) := by decide +kernel
theorem dX3_init_23 : decode cX3_init 23 = .ok (.sipush 200, 3) := by decide +kernel
theorem dX3_init_26 : decode cX3_init 26 = .ok (.newarray .int, 2) := by decide +kernel
theorem dX3_init_28 : decode cX3_init 28 = .ok (.putfield 18, 3) := by decide +kernel
theorem dX3_init_31 : decode cX3_init 31 = .ok (.aload_n 0, 1) := by decide +kernel
theorem dX3_init_32 : decode cX3_init 32 = .ok (.sipush 200, 3) := by decide +kernel
theorem dX3_init_35 : decode cX3_init 35 = .ok (.newarray .int, 2) := by decide +kernel
theorem dX3_init_37 : decode cX3_init 37 = .ok (.putfield 21, 3) := by decide +kernel
theorem dX3_init_40 : decode cX3_init 40 = .ok (.aload_n 0, 1) := by decide +kernel
theorem dX3_init_41 : decode cX3_init 41 = .ok (.sipush 200, 3) := by decide +kernel
theorem dX3_init_44 : decode cX3_init 44 = .ok (.newarray .int, 2) := by decide +kernel
theorem dX3_init_46 : decode cX3_init 46 = .ok (.putfield 24, 3) := by decide +kernel
theorem dX3_init_49 : decode cX3_init 49 = .ok (.aload_n 0, 1) := by decide +kernel
theorem dX3_init_50 : decode cX3_init 50 = .ok (.bipush 10, 2) := by decide +kernel
theorem dX3_init_52 : decode cX3_init 52 = .ok (.newarray .int, 2) := by decide +kernel
theorem dX3_init_54 : decode cX3_init 54 = .ok (.putfield 27, 3) := by decide +kernel
theorem dX3_init_57 : decode cX3_init 57 = .ok (.return_, 1) := by decide +kernel
set_option maxRecDepth 20000 in
theorem ggX3_lastTold_X11_inside : GoodIn wsX3_lastTold wsX11_inside := goodIn_r _ [5] (by decide +kernel) (by decide +kernel)
set_option maxRecDepth 20000 in
theorem gX3_lastTold_X11_inside_n34 : GoodIn wsX3_lastTold (wsX11_inside) := ggX3_lastTold_X11_inside
theorem dX3_lastTold_0 : decode cX3_lastTold 0 = .ok (.aload_n 0, 1) := by decide +kernel
theorem dX3_lastTold_1 : decode cX3_lastTold 1 = .ok (.getfield 30, 3) := by decide +kernel
theorem dX3_lastTold_4 : decode cX3_lastTold 4 = .ok (.iconst 1, 1) := by decide +kernel
theorem dX3_lastTold_5 : decode cX3_lastTold 5 = .ok (.isub, 1) := by decide +kernel
theorem dX3_lastTold_6 : decode cX3_lastTold 6 = .ok (.sipush 200, 3) := by decide +kernel
theorem dX3_lastTold_9 : decode cX3_lastTold 9 = .ok (.invokestatic 34, 3) := by decide +kernel
theorem dX3_lastTold_12 : decode cX3_lastTold 12 = .ok (.ifCond .eq 17, 3) := by decide +kernel
theorem dX3_lastTold_15 : decode cX3_lastTold 15 = .ok (.aload_n 0, 1) := by decide +kernel
theorem dX3_lastTold_16 : decode cX3_lastTold 16 = .ok (.getfield 24, 3) := by decide +kernel
theorem dX3_lastTold_19 : decode cX3_lastTold 19 = .ok (.aload_n 0, 1) := by decide +kernel
theorem dX3_lastTold_20 : decode cX3_lastTold 20 = .ok (.getfield 30, 3) := by decide +kernel
theorem dX3_lastTold_23 : decode cX3_lastTold 23 = .ok (.iconst 1, 1) := by decide +kernel
theorem dX3_lastTold_24 : decode cX3_lastTold 24 = .ok (.isub, 1) := by decide +kernel
theorem dX3_lastTold_25 : decode cX3_lastTold 25 = .ok (.iaload, 1) := by decide +kernel
theorem dX3_lastTold_26 : decode cX3_lastTold 26 = .ok (.goto 4, 3) := by decide +kernel
theorem dX3_lastTold_29 : decode cX3_lastTold 29 = .ok (.iconst 0, 1) := by decide +kernel
theorem dX3_lastTold_30 : decode cX3_lastTold 30 = .ok (.ireturn, 1) := by decide +kernel
set_option maxRecDepth 20000 in
theorem ggX3_add_X11_inside : GoodIn wsX3_add wsX11_inside := goodIn_r _ [9] (by decide +kernel) (by decide +kernel)
set_option maxRecDepth 20000 in
theorem gX3_add_X11_inside_n34 : GoodIn wsX3_add (wsX11_inside) := ggX3_add_X11_inside
theorem dX3_add_0 : decode cX3_add 0 = .ok (.aload_n 0, 1) := by decide +kernel
theorem dX3_add_1 : decode cX3_add 1 = .ok (.getfield 30, 3) := by decide +kernel
theorem dX3_add_4 : decode cX3_add 4 = .ok (.sipush 200, 3) := by decide +kernel
theorem dX3_add_7 : decode cX3_add 7 = .ok (.invokestatic 34, 3) := by decide +kernel
theorem dX3_add_10 : decode cX3_add 10 = .ok (.ifCond .ne 4, 3) := by decide +kernel
theorem dX3_add_13 : decode cX3_add 13 = .ok (.return_, 1) := by decide +kernel
theorem dX3_add_14 : decode cX3_add 14 = .ok (.aload_n 0, 1) := by decide +kernel
theorem dX3_add_15 : decode cX3_add 15 = .ok (.getfield 9, 3) := by decide +kernel
theorem dX3_add_18 : decode cX3_add 18 = .ok (.aload_n 0, 1) := by decide +kernel
theorem dX3_add_19 : decode cX3_add 19 = .ok (.getfield 30, 3) := by decide +kernel
theorem dX3_add_22 : decode cX3_add 22 = .ok (.iload_n 1, 1) := by decide +kernel
theorem dX3_add_23 : decode cX3_add 23 = .ok (.iastore, 1) := by decide +kernel
theorem dX3_add_24 : decode cX3_add 24 = .ok (.aload_n 0, 1) := by decide +kernel
theorem dX3_add_25 : decode cX3_add 25 = .ok (.getfield 15, 3) := by decide +kernel
theorem dX3_add_28 : decode cX3_add 28 = .ok (.aload_n 0, 1) := by decide +kernel
theorem dX3_add_29 : decode cX3_add 29 = .ok (.getfield 30, 3) := by decide +kernel
theorem dX3_add_32 : decode cX3_add 32 = .ok (.iload_n 2, 1) := by decide +kernel
theorem dX3_add_33 : decode cX3_add 33 = .ok (.iastore, 1) := by decide +kernel
theorem dX3_add_34 : decode cX3_add 34 = .ok (.aload_n 0, 1) := by decide +kernel
theorem dX3_add_35 : decode cX3_add 35 = .ok (.getfield 18, 3) := by decide +kernel
theorem dX3_add_38 : decode cX3_add 38 = .ok (.aload_n 0, 1) := by decide +kernel
theorem dX3_add_39 : decode cX3_add 39 = .ok (.getfield 30, 3) := by decide +kernel
theorem dX3_add_42 : decode cX3_add 42 = .ok (.iload_n 3, 1) := by decide +kernel
theorem dX3_add_43 : decode cX3_add 43 = .ok (.iastore, 1) := by decide +kernel
theorem dX3_add_44 : decode cX3_add 44 = .ok (.aload_n 0, 1) := by decide +kernel
theorem dX3_add_45 : decode cX3_add 45 = .ok (.getfield 21, 3) := by decide +kernel
theorem dX3_add_48 : decode cX3_add 48 = .ok (.aload_n 0, 1) := by decide +kernel
theorem dX3_add_49 : decode cX3_add 49 = .ok (.getfield 30, 3) := by decide +kernel
theorem dX3_add_52 : decode cX3_add 52 = .ok (.iload 4, 2) := by decide +kernel
theorem dX3_add_54 : decode cX3_add 54 = .ok (.iastore, 1) := by decide +kernel
theorem dX3_add_55 : decode cX3_add 55 = .ok (.aload_n 0, 1) := by decide +kernel
theorem dX3_add_56 : decode cX3_add 56 = .ok (.getfield 24, 3) := by decide +kernel
theorem dX3_add_59 : decode cX3_add 59 = .ok (.aload_n 0, 1) := by decide +kernel
theorem dX3_add_60 : decode cX3_add 60 = .ok (.getfield 30, 3) := by decide +kernel
theorem dX3_add_63 : decode cX3_add 63 = .ok (.iload 5, 2) := by decide +kernel
theorem dX3_add_65 : decode cX3_add 65 = .ok (.iastore, 1) := by decide +kernel
theorem dX3_add_66 : decode cX3_add 66 = .ok (.aload_n 0, 1) := by decide +kernel
theorem dX3_add_67 : decode cX3_add 67 = .ok (.dup, 1) := by decide +kernel
theorem dX3_add_68 : decode cX3_add 68 = .ok (.getfield 30, 3) := by decide +kernel
theorem dX3_add_71 : decode cX3_add 71 = .ok (.iconst 1, 1) := by decide +kernel
theorem dX3_add_72 : decode cX3_add 72 = .ok (.iadd, 1) := by decide +kernel
theorem dX3_add_73 : decode cX3_add 73 = .ok (.putfield 30, 3) := by decide +kernel
theorem dX3_add_76 : decode cX3_add 76 = .ok (.return_, 1) := by decide +kernel
set_option maxRecDepth 20000 in
theorem ggX3_seat_J7_fill_53178 : GoodIn wsX3_seat wsJ7_fill_53178 := goodIn_r _ [10] (by decide +kernel) (by decide +kernel)
set_option maxRecDepth 20000 in
theorem gX3_seat_J7_fill_53178 : GoodIn wsX3_seat (va_wsS RX3 38 yJ7_fill_53178 wsJ7_fill_53178) := goodIn_app (goodIn_of _ (by decide +kernel)) ggX3_seat_J7_fill_53178
set_option maxRecDepth 20000 in
theorem ggX3_seat_X3_keepLatest : GoodIn wsX3_seat wsX3_keepLatest := goodIn_r _ [15, 16, 1, 4, 17, 18, 19, 34, 35, 36, 37, 38, 39, 40] (by decide +kernel) (by decide +kernel)
set_option maxRecDepth 20000 in
theorem gX3_seat_X3_keepLatest : GoodIn wsX3_seat (wsV RX3 44 RX3 yX3_keepLatest wsX3_keepLatest) := goodIn_app (goodIn_of _ (by decide +kernel)) ggX3_seat_X3_keepLatest
set_option maxRecDepth 20000 in
theorem ggX3_seat_X7_clear : GoodIn wsX3_seat wsX7_clear := goodIn_r _ [24, 25, 26, 27, 28, 29, 8, 9, 10, 41, 42, 43, 44] (by decide +kernel) (by decide +kernel)
set_option maxRecDepth 20000 in
theorem gX3_seat_X7_clear : GoodIn wsX3_seat (wsV RX3 48 RX7 yX7_clear wsX7_clear) := goodIn_app (goodIn_of _ (by decide +kernel)) ggX3_seat_X7_clear
set_option maxRecDepth 20000 in
theorem ggX3_seat_X11_inside : GoodIn wsX3_seat wsX11_inside := goodIn_r _ [19] (by decide +kernel) (by decide +kernel)
set_option maxRecDepth 20000 in
theorem gX3_seat_X11_inside_n34 : GoodIn wsX3_seat (wsX11_inside) := ggX3_seat_X11_inside
set_option maxRecDepth 20000 in
theorem ggX3_seat_X7_put : GoodIn wsX3_seat wsX7_put := goodIn_r _ [33, 25, 26, 27, 28, 17, 18, 19, 41, 42, 43, 44] (by decide +kernel) (by decide +kernel)
set_option maxRecDepth 20000 in
theorem gX3_seat_X7_put : GoodIn wsX3_seat (wsV RX3 53 RX7 yX7_put wsX7_put) := goodIn_app (goodIn_of _ (by decide +kernel)) ggX3_seat_X7_put
theorem dX3_seat_0 : decode cX3_seat 0 = .ok (.aload_n 0, 1) := by decide +kernel
theorem dX3_seat_1 : decode cX3_seat 1 = .ok (.getfield 27, 3) := by decide +kernel
theorem dX3_seat_4 : decode cX3_seat 4 = .ok (.iconst (-1), 1) := by decide +kernel
theorem dX3_seat_5 : decode cX3_seat 5 = .ok (.invokestatic 38, 3) := by decide +kernel
theorem dX3_seat_8 : decode cX3_seat 8 = .ok (.iconst 0, 1) := by decide +kernel
theorem dX3_seat_9 : decode cX3_seat 9 = .ok (.istore 4, 2) := by decide +kernel
theorem dX3_seat_11 : decode cX3_seat 11 = .ok (.iload 4, 2) := by decide +kernel
theorem dX3_seat_13 : decode cX3_seat 13 = .ok (.aload_n 0, 1) := by decide +kernel
theorem dX3_seat_14 : decode cX3_seat 14 = .ok (.getfield 30, 3) := by decide +kernel
theorem dX3_seat_17 : decode cX3_seat 17 = .ok (.if_icmp .ge 45, 3) := by decide +kernel
theorem dX3_seat_20 : decode cX3_seat 20 = .ok (.iload 4, 2) := by decide +kernel
theorem dX3_seat_22 : decode cX3_seat 22 = .ok (.sipush 200, 3) := by decide +kernel
theorem dX3_seat_25 : decode cX3_seat 25 = .ok (.if_icmp .ge 37, 3) := by decide +kernel
theorem dX3_seat_28 : decode cX3_seat 28 = .ok (.aload_n 0, 1) := by decide +kernel
theorem dX3_seat_29 : decode cX3_seat 29 = .ok (.getfield 24, 3) := by decide +kernel
theorem dX3_seat_32 : decode cX3_seat 32 = .ok (.iload 4, 2) := by decide +kernel
theorem dX3_seat_34 : decode cX3_seat 34 = .ok (.iaload, 1) := by decide +kernel
theorem dX3_seat_35 : decode cX3_seat 35 = .ok (.iload_n 3, 1) := by decide +kernel
theorem dX3_seat_36 : decode cX3_seat 36 = .ok (.if_icmp .gt 20, 3) := by decide +kernel
theorem dX3_seat_39 : decode cX3_seat 39 = .ok (.aload_n 0, 1) := by decide +kernel
theorem dX3_seat_40 : decode cX3_seat 40 = .ok (.getfield 15, 3) := by decide +kernel
theorem dX3_seat_43 : decode cX3_seat 43 = .ok (.iload 4, 2) := by decide +kernel
theorem dX3_seat_45 : decode cX3_seat 45 = .ok (.iaload, 1) := by decide +kernel
theorem dX3_seat_46 : decode cX3_seat 46 = .ok (.iload_n 2, 1) := by decide +kernel
theorem dX3_seat_47 : decode cX3_seat 47 = .ok (.if_icmp .gt 9, 3) := by decide +kernel
theorem dX3_seat_50 : decode cX3_seat 50 = .ok (.aload_n 0, 1) := by decide +kernel
theorem dX3_seat_51 : decode cX3_seat 51 = .ok (.iload 4, 2) := by decide +kernel
theorem dX3_seat_53 : decode cX3_seat 53 = .ok (.invokevirtual 44, 3) := by decide +kernel
theorem dX3_seat_56 : decode cX3_seat 56 = .ok (.iinc 4 1, 3) := by decide +kernel
theorem dX3_seat_59 : decode cX3_seat 59 = .ok (.goto (-48), 3) := by decide +kernel
theorem dX3_seat_62 : decode cX3_seat 62 = .ok (.aload_n 1, 1) := by decide +kernel
theorem dX3_seat_63 : decode cX3_seat 63 = .ok (.invokevirtual 48, 3) := by decide +kernel
theorem dX3_seat_66 : decode cX3_seat 66 = .ok (.iconst 0, 1) := by decide +kernel
theorem dX3_seat_67 : decode cX3_seat 67 = .ok (.istore 4, 2) := by decide +kernel
theorem dX3_seat_69 : decode cX3_seat 69 = .ok (.iload 4, 2) := by decide +kernel
theorem dX3_seat_71 : decode cX3_seat 71 = .ok (.bipush 10, 2) := by decide +kernel
theorem dX3_seat_73 : decode cX3_seat 73 = .ok (.if_icmp .ge 49, 3) := by decide +kernel
theorem dX3_seat_76 : decode cX3_seat 76 = .ok (.aload_n 0, 1) := by decide +kernel
theorem dX3_seat_77 : decode cX3_seat 77 = .ok (.getfield 27, 3) := by decide +kernel
theorem dX3_seat_80 : decode cX3_seat 80 = .ok (.iload 4, 2) := by decide +kernel
theorem dX3_seat_82 : decode cX3_seat 82 = .ok (.iaload, 1) := by decide +kernel
theorem dX3_seat_83 : decode cX3_seat 83 = .ok (.istore 5, 2) := by decide +kernel
theorem dX3_seat_85 : decode cX3_seat 85 = .ok (.iload 5, 2) := by decide +kernel
theorem dX3_seat_87 : decode cX3_seat 87 = .ok (.sipush 200, 3) := by decide +kernel
theorem dX3_seat_90 : decode cX3_seat 90 = .ok (.invokestatic 34, 3) := by decide +kernel
theorem dX3_seat_93 : decode cX3_seat 93 = .ok (.ifCond .eq 23, 3) := by decide +kernel
theorem dX3_seat_96 : decode cX3_seat 96 = .ok (.aload_n 1, 1) := by decide +kernel
theorem dX3_seat_97 : decode cX3_seat 97 = .ok (.iload 4, 2) := by decide +kernel
theorem dX3_seat_99 : decode cX3_seat 99 = .ok (.aload_n 0, 1) := by decide +kernel
theorem dX3_seat_100 : decode cX3_seat 100 = .ok (.getfield 18, 3) := by decide +kernel
theorem dX3_seat_103 : decode cX3_seat 103 = .ok (.iload 5, 2) := by decide +kernel
theorem dX3_seat_105 : decode cX3_seat 105 = .ok (.iaload, 1) := by decide +kernel
theorem dX3_seat_106 : decode cX3_seat 106 = .ok (.aload_n 0, 1) := by decide +kernel
theorem dX3_seat_107 : decode cX3_seat 107 = .ok (.getfield 21, 3) := by decide +kernel
theorem dX3_seat_110 : decode cX3_seat 110 = .ok (.iload 5, 2) := by decide +kernel
theorem dX3_seat_112 : decode cX3_seat 112 = .ok (.iaload, 1) := by decide +kernel
theorem dX3_seat_113 : decode cX3_seat 113 = .ok (.invokevirtual 53, 3) := by decide +kernel
theorem dX3_seat_116 : decode cX3_seat 116 = .ok (.iinc 4 1, 3) := by decide +kernel
theorem dX3_seat_119 : decode cX3_seat 119 = .ok (.goto (-50), 3) := by decide +kernel
theorem dX3_seat_122 : decode cX3_seat 122 = .ok (.return_, 1) := by decide +kernel
set_option maxRecDepth 20000 in
theorem ggX3_keepLatest_X11_inside : GoodIn wsX3_keepLatest wsX11_inside := goodIn_r _ [6] (by decide +kernel) (by decide +kernel)
set_option maxRecDepth 20000 in
theorem gX3_keepLatest_X11_inside_n34 : GoodIn wsX3_keepLatest (wsX11_inside) := ggX3_keepLatest_X11_inside
theorem dX3_keepLatest_0 : decode cX3_keepLatest 0 = .ok (.iload_n 1, 1) := by decide +kernel
theorem dX3_keepLatest_1 : decode cX3_keepLatest 1 = .ok (.sipush 200, 3) := by decide +kernel
theorem dX3_keepLatest_4 : decode cX3_keepLatest 4 = .ok (.invokestatic 34, 3) := by decide +kernel
theorem dX3_keepLatest_7 : decode cX3_keepLatest 7 = .ok (.ifCond .eq 17, 3) := by decide +kernel
theorem dX3_keepLatest_10 : decode cX3_keepLatest 10 = .ok (.aload_n 0, 1) := by decide +kernel
theorem dX3_keepLatest_11 : decode cX3_keepLatest 11 = .ok (.getfield 9, 3) := by decide +kernel
theorem dX3_keepLatest_14 : decode cX3_keepLatest 14 = .ok (.iload_n 1, 1) := by decide +kernel
theorem dX3_keepLatest_15 : decode cX3_keepLatest 15 = .ok (.iaload, 1) := by decide +kernel
theorem dX3_keepLatest_16 : decode cX3_keepLatest 16 = .ok (.bipush 10, 2) := by decide +kernel
theorem dX3_keepLatest_18 : decode cX3_keepLatest 18 = .ok (.invokestatic 34, 3) := by decide +kernel
theorem dX3_keepLatest_21 : decode cX3_keepLatest 21 = .ok (.ifCond .ne 4, 3) := by decide +kernel
theorem dX3_keepLatest_24 : decode cX3_keepLatest 24 = .ok (.return_, 1) := by decide +kernel
theorem dX3_keepLatest_25 : decode cX3_keepLatest 25 = .ok (.aload_n 0, 1) := by decide +kernel
theorem dX3_keepLatest_26 : decode cX3_keepLatest 26 = .ok (.getfield 9, 3) := by decide +kernel
theorem dX3_keepLatest_29 : decode cX3_keepLatest 29 = .ok (.iload_n 1, 1) := by decide +kernel
theorem dX3_keepLatest_30 : decode cX3_keepLatest 30 = .ok (.iaload, 1) := by decide +kernel
theorem dX3_keepLatest_31 : decode cX3_keepLatest 31 = .ok (.istore_n 2, 1) := by decide +kernel
theorem dX3_keepLatest_32 : decode cX3_keepLatest 32 = .ok (.aload_n 0, 1) := by decide +kernel
theorem dX3_keepLatest_33 : decode cX3_keepLatest 33 = .ok (.getfield 27, 3) := by decide +kernel
theorem dX3_keepLatest_36 : decode cX3_keepLatest 36 = .ok (.iload_n 2, 1) := by decide +kernel
theorem dX3_keepLatest_37 : decode cX3_keepLatest 37 = .ok (.iaload, 1) := by decide +kernel
theorem dX3_keepLatest_38 : decode cX3_keepLatest 38 = .ok (.istore_n 3, 1) := by decide +kernel
theorem dX3_keepLatest_39 : decode cX3_keepLatest 39 = .ok (.iload_n 3, 1) := by decide +kernel
theorem dX3_keepLatest_40 : decode cX3_keepLatest 40 = .ok (.sipush 200, 3) := by decide +kernel
theorem dX3_keepLatest_43 : decode cX3_keepLatest 43 = .ok (.invokestatic 34, 3) := by decide +kernel
theorem dX3_keepLatest_46 : decode cX3_keepLatest 46 = .ok (.ifCond .eq 18, 3) := by decide +kernel
theorem dX3_keepLatest_49 : decode cX3_keepLatest 49 = .ok (.aload_n 0, 1) := by decide +kernel
theorem dX3_keepLatest_50 : decode cX3_keepLatest 50 = .ok (.getfield 15, 3) := by decide +kernel
theorem dX3_keepLatest_53 : decode cX3_keepLatest 53 = .ok (.iload_n 1, 1) := by decide +kernel
theorem dX3_keepLatest_54 : decode cX3_keepLatest 54 = .ok (.iaload, 1) := by decide +kernel
theorem dX3_keepLatest_55 : decode cX3_keepLatest 55 = .ok (.aload_n 0, 1) := by decide +kernel
theorem dX3_keepLatest_56 : decode cX3_keepLatest 56 = .ok (.getfield 15, 3) := by decide +kernel
theorem dX3_keepLatest_59 : decode cX3_keepLatest 59 = .ok (.iload_n 3, 1) := by decide +kernel
theorem dX3_keepLatest_60 : decode cX3_keepLatest 60 = .ok (.iaload, 1) := by decide +kernel
theorem dX3_keepLatest_61 : decode cX3_keepLatest 61 = .ok (.if_icmp .lt 10, 3) := by decide +kernel
theorem dX3_keepLatest_64 : decode cX3_keepLatest 64 = .ok (.aload_n 0, 1) := by decide +kernel
theorem dX3_keepLatest_65 : decode cX3_keepLatest 65 = .ok (.getfield 27, 3) := by decide +kernel
theorem dX3_keepLatest_68 : decode cX3_keepLatest 68 = .ok (.iload_n 2, 1) := by decide +kernel
theorem dX3_keepLatest_69 : decode cX3_keepLatest 69 = .ok (.iload_n 1, 1) := by decide +kernel
theorem dX3_keepLatest_70 : decode cX3_keepLatest 70 = .ok (.iastore, 1) := by decide +kernel
theorem dX3_keepLatest_71 : decode cX3_keepLatest 71 = .ok (.return_, 1) := by decide +kernel
theorem dX3_dayBehind_0 : decode cX3_dayBehind 0 = .ok (.sipush 1000, 3) := by decide +kernel
theorem dX3_dayBehind_3 : decode cX3_dayBehind 3 = .ok (.istore_n 2, 1) := by decide +kernel
theorem dX3_dayBehind_4 : decode cX3_dayBehind 4 = .ok (.iconst 0, 1) := by decide +kernel
theorem dX3_dayBehind_5 : decode cX3_dayBehind 5 = .ok (.istore_n 3, 1) := by decide +kernel
theorem dX3_dayBehind_6 : decode cX3_dayBehind 6 = .ok (.iload_n 3, 1) := by decide +kernel
theorem dX3_dayBehind_7 : decode cX3_dayBehind 7 = .ok (.aload_n 0, 1) := by decide +kernel
theorem dX3_dayBehind_8 : decode cX3_dayBehind 8 = .ok (.getfield 30, 3) := by decide +kernel
theorem dX3_dayBehind_11 : decode cX3_dayBehind 11 = .ok (.if_icmp .ge 43, 3) := by decide +kernel
theorem dX3_dayBehind_14 : decode cX3_dayBehind 14 = .ok (.iload_n 3, 1) := by decide +kernel
theorem dX3_dayBehind_15 : decode cX3_dayBehind 15 = .ok (.sipush 200, 3) := by decide +kernel
theorem dX3_dayBehind_18 : decode cX3_dayBehind 18 = .ok (.if_icmp .ge 36, 3) := by decide +kernel
theorem dX3_dayBehind_21 : decode cX3_dayBehind 21 = .ok (.aload_n 0, 1) := by decide +kernel
theorem dX3_dayBehind_22 : decode cX3_dayBehind 22 = .ok (.getfield 15, 3) := by decide +kernel
theorem dX3_dayBehind_25 : decode cX3_dayBehind 25 = .ok (.iload_n 3, 1) := by decide +kernel
theorem dX3_dayBehind_26 : decode cX3_dayBehind 26 = .ok (.iaload, 1) := by decide +kernel
theorem dX3_dayBehind_27 : decode cX3_dayBehind 27 = .ok (.iload_n 1, 1) := by decide +kernel
theorem dX3_dayBehind_28 : decode cX3_dayBehind 28 = .ok (.if_icmp .le 20, 3) := by decide +kernel
theorem dX3_dayBehind_31 : decode cX3_dayBehind 31 = .ok (.aload_n 0, 1) := by decide +kernel
theorem dX3_dayBehind_32 : decode cX3_dayBehind 32 = .ok (.getfield 15, 3) := by decide +kernel
theorem dX3_dayBehind_35 : decode cX3_dayBehind 35 = .ok (.iload_n 3, 1) := by decide +kernel
theorem dX3_dayBehind_36 : decode cX3_dayBehind 36 = .ok (.iaload, 1) := by decide +kernel
theorem dX3_dayBehind_37 : decode cX3_dayBehind 37 = .ok (.iload_n 2, 1) := by decide +kernel
theorem dX3_dayBehind_38 : decode cX3_dayBehind 38 = .ok (.if_icmp .ge 10, 3) := by decide +kernel
theorem dX3_dayBehind_41 : decode cX3_dayBehind 41 = .ok (.aload_n 0, 1) := by decide +kernel
theorem dX3_dayBehind_42 : decode cX3_dayBehind 42 = .ok (.getfield 15, 3) := by decide +kernel
theorem dX3_dayBehind_45 : decode cX3_dayBehind 45 = .ok (.iload_n 3, 1) := by decide +kernel
theorem dX3_dayBehind_46 : decode cX3_dayBehind 46 = .ok (.iaload, 1) := by decide +kernel
theorem dX3_dayBehind_47 : decode cX3_dayBehind 47 = .ok (.istore_n 2, 1) := by decide +kernel
theorem dX3_dayBehind_48 : decode cX3_dayBehind 48 = .ok (.iinc 3 1, 3) := by decide +kernel
theorem dX3_dayBehind_51 : decode cX3_dayBehind 51 = .ok (.goto (-45), 3) := by decide +kernel
theorem dX3_dayBehind_54 : decode cX3_dayBehind 54 = .ok (.iload_n 2, 1) := by decide +kernel
theorem dX3_dayBehind_55 : decode cX3_dayBehind 55 = .ok (.ireturn, 1) := by decide +kernel
set_option maxRecDepth 20000 in
theorem ggX4_init_J7_fill_53178 : GoodIn wsX4_init wsJ7_fill_53178 := goodIn_r _ [14] (by decide +kernel) (by decide +kernel)
set_option maxRecDepth 20000 in
theorem gX4_init_J7_fill_53178 : GoodIn wsX4_init (va_wsS RX4 30 yJ7_fill_53178 wsJ7_fill_53178) := goodIn_app (goodIn_of _ (by decide +kernel)) ggX4_init_J7_fill_53178
theorem dX4_init_0 : decode cX4_init 0 = .ok (.aload_n 0, 1) := by decide +kernel
theorem dX4_init_1 : decode cX4_init 1 = .ok (.invokespecial 3, 3) := by decide +kernel
theorem dX4_init_4 : decode cX4_init 4 = .ok (.aload_n 0, 1) := by decide +kernel
theorem dX4_init_5 : decode cX4_init 5 = .ok (.bipush 10, 2) := by decide +kernel
theorem dX4_init_7 : decode cX4_init 7 = .ok (.newarray .int, 2) := by decide +kernel
theorem dX4_init_9 : decode cX4_init 9 = .ok (.putfield 9, 3) := by decide +kernel
theorem dX4_init_12 : decode cX4_init 12 = .ok (.aload_n 0, 1) := by decide +kernel
theorem dX4_init_13 : decode cX4_init 13 = .ok (.bipush 60, 2) := by decide +kernel
theorem dX4_init_15 : decode cX4_init 15 = .ok (.newarray .int, 2) := by decide +kernel
theorem dX4_init_17 : decode cX4_init 17 = .ok (.putfield 15, 3) := by decide +kernel
theorem dX4_init_20 : decode cX4_init 20 = .ok (.aload_n 0, 1) := by decide +kernel
theorem dX4_init_21 : decode cX4_init 21 = .ok (.bipush 6, 2) := by decide +kernel
theorem dX4_init_23 : decode cX4_init 23 = .ok (.newarray .int, 2) := by decide +kernel
theorem dX4_init_25 : decode cX4_init 25 = .ok (.putfield 18, 3) := by decide +kernel
theorem dX4_init_28 : decode cX4_init 28 = .ok (.aload_n 0, 1) := by decide +kernel
theorem dX4_init_29 : decode cX4_init 29 = .ok (.bipush 6, 2) := by decide +kernel
theorem dX4_init_31 : decode cX4_init 31 = .ok (.newarray .int, 2) := by decide +kernel
theorem dX4_init_33 : decode cX4_init 33 = .ok (.putfield 21, 3) := by decide +kernel
theorem dX4_init_36 : decode cX4_init 36 = .ok (.aload_n 0, 1) := by decide +kernel
theorem dX4_init_37 : decode cX4_init 37 = .ok (.bipush 6, 2) := by decide +kernel
theorem dX4_init_39 : decode cX4_init 39 = .ok (.newarray .int, 2) := by decide +kernel
