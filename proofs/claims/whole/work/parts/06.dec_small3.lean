theorem dX9_spoiler_29 : decode cX9_spoiler 29 = .ok (.ishl, 1) := by decide +kernel
theorem dX9_spoiler_30 : decode cX9_spoiler 30 = .ok (.ior, 1) := by decide +kernel
theorem dX9_spoiler_31 : decode cX9_spoiler 31 = .ok (.invokevirtual 42, 3) := by decide +kernel
theorem dX9_spoiler_34 : decode cX9_spoiler 34 = .ok (.ifCond .ne 5, 3) := by decide +kernel
theorem dX9_spoiler_37 : decode cX9_spoiler 37 = .ok (.iload_n 3, 1) := by decide +kernel
theorem dX9_spoiler_38 : decode cX9_spoiler 38 = .ok (.ireturn, 1) := by decide +kernel
theorem dX9_spoiler_39 : decode cX9_spoiler 39 = .ok (.iinc 3 1, 3) := by decide +kernel
theorem dX9_spoiler_42 : decode cX9_spoiler 42 = .ok (.goto (-31), 3) := by decide +kernel
theorem dX9_spoiler_45 : decode cX9_spoiler 45 = .ok (.iconst (-1), 1) := by decide +kernel
theorem dX9_spoiler_46 : decode cX9_spoiler 46 = .ok (.ireturn, 1) := by decide +kernel
set_option maxRecDepth 20000 in
theorem ggX9_noLess_X11_isWithin : GoodIn wsX9_noLess wsX11_isWithin := goodIn_r _ [4] (by decide +kernel) (by decide +kernel)
set_option maxRecDepth 20000 in
theorem gX9_noLess_X11_isWithin_n39 : GoodIn wsX9_noLess (wsX11_isWithin) := ggX9_noLess_X11_isWithin
set_option maxRecDepth 20000 in
theorem ggX9_noLess_X9_at : GoodIn wsX9_noLess wsX9_at := goodIn_r _ [9, 10, 11, 3, 12, 13, 14, 15, 16, 17, 18, 19] (by decide +kernel) (by decide +kernel)
set_option maxRecDepth 20000 in
theorem gX9_noLess_X9_at : GoodIn wsX9_noLess (wsV RX9 42 RX9 yX9_at wsX9_at) := goodIn_app (goodIn_of _ (by decide +kernel)) ggX9_noLess_X9_at
theorem dX9_noLess_0 : decode cX9_noLess 0 = .ok (.aload_n 0, 1) := by decide +kernel
theorem dX9_noLess_1 : decode cX9_noLess 1 = .ok (.getfield 24, 3) := by decide +kernel
theorem dX9_noLess_4 : decode cX9_noLess 4 = .ok (.iconst 1, 1) := by decide +kernel
theorem dX9_noLess_5 : decode cX9_noLess 5 = .ok (.iload_n 1, 1) := by decide +kernel
theorem dX9_noLess_6 : decode cX9_noLess 6 = .ok (.ishl, 1) := by decide +kernel
theorem dX9_noLess_7 : decode cX9_noLess 7 = .ok (.iconst (-1), 1) := by decide +kernel
theorem dX9_noLess_8 : decode cX9_noLess 8 = .ok (.ixor, 1) := by decide +kernel
theorem dX9_noLess_9 : decode cX9_noLess 9 = .ok (.iand, 1) := by decide +kernel
theorem dX9_noLess_10 : decode cX9_noLess 10 = .ok (.iconst 1, 1) := by decide +kernel
theorem dX9_noLess_11 : decode cX9_noLess 11 = .ok (.iload_n 2, 1) := by decide +kernel
theorem dX9_noLess_12 : decode cX9_noLess 12 = .ok (.ishl, 1) := by decide +kernel
theorem dX9_noLess_13 : decode cX9_noLess 13 = .ok (.iconst (-1), 1) := by decide +kernel
theorem dX9_noLess_14 : decode cX9_noLess 14 = .ok (.ixor, 1) := by decide +kernel
theorem dX9_noLess_15 : decode cX9_noLess 15 = .ok (.iand, 1) := by decide +kernel
theorem dX9_noLess_16 : decode cX9_noLess 16 = .ok (.istore_n 3, 1) := by decide +kernel
theorem dX9_noLess_17 : decode cX9_noLess 17 = .ok (.iconst 0, 1) := by decide +kernel
theorem dX9_noLess_18 : decode cX9_noLess 18 = .ok (.istore 4, 2) := by decide +kernel
theorem dX9_noLess_20 : decode cX9_noLess 20 = .ok (.iload 4, 2) := by decide +kernel
theorem dX9_noLess_22 : decode cX9_noLess 22 = .ok (.iload_n 3, 1) := by decide +kernel
theorem dX9_noLess_23 : decode cX9_noLess 23 = .ok (.if_icmp .gt 46, 3) := by decide +kernel
theorem dX9_noLess_26 : decode cX9_noLess 26 = .ok (.iload 4, 2) := by decide +kernel
theorem dX9_noLess_28 : decode cX9_noLess 28 = .ok (.iload_n 3, 1) := by decide +kernel
theorem dX9_noLess_29 : decode cX9_noLess 29 = .ok (.invokestatic 39, 3) := by decide +kernel
theorem dX9_noLess_32 : decode cX9_noLess 32 = .ok (.ifCond .eq 31, 3) := by decide +kernel
theorem dX9_noLess_35 : decode cX9_noLess 35 = .ok (.aload_n 0, 1) := by decide +kernel
theorem dX9_noLess_36 : decode cX9_noLess 36 = .ok (.iload 4, 2) := by decide +kernel
theorem dX9_noLess_38 : decode cX9_noLess 38 = .ok (.iconst 1, 1) := by decide +kernel
theorem dX9_noLess_39 : decode cX9_noLess 39 = .ok (.iload_n 2, 1) := by decide +kernel
theorem dX9_noLess_40 : decode cX9_noLess 40 = .ok (.ishl, 1) := by decide +kernel
theorem dX9_noLess_41 : decode cX9_noLess 41 = .ok (.ior, 1) := by decide +kernel
theorem dX9_noLess_42 : decode cX9_noLess 42 = .ok (.invokevirtual 42, 3) := by decide +kernel
theorem dX9_noLess_45 : decode cX9_noLess 45 = .ok (.ifCond .eq 18, 3) := by decide +kernel
theorem dX9_noLess_48 : decode cX9_noLess 48 = .ok (.aload_n 0, 1) := by decide +kernel
theorem dX9_noLess_49 : decode cX9_noLess 49 = .ok (.iload 4, 2) := by decide +kernel
theorem dX9_noLess_51 : decode cX9_noLess 51 = .ok (.iconst 1, 1) := by decide +kernel
theorem dX9_noLess_52 : decode cX9_noLess 52 = .ok (.iload_n 1, 1) := by decide +kernel
theorem dX9_noLess_53 : decode cX9_noLess 53 = .ok (.ishl, 1) := by decide +kernel
theorem dX9_noLess_54 : decode cX9_noLess 54 = .ok (.ior, 1) := by decide +kernel
theorem dX9_noLess_55 : decode cX9_noLess 55 = .ok (.invokevirtual 42, 3) := by decide +kernel
theorem dX9_noLess_58 : decode cX9_noLess 58 = .ok (.ifCond .ne 5, 3) := by decide +kernel
theorem dX9_noLess_61 : decode cX9_noLess 61 = .ok (.iconst 0, 1) := by decide +kernel
theorem dX9_noLess_62 : decode cX9_noLess 62 = .ok (.ireturn, 1) := by decide +kernel
theorem dX9_noLess_63 : decode cX9_noLess 63 = .ok (.iinc 4 1, 3) := by decide +kernel
theorem dX9_noLess_66 : decode cX9_noLess 66 = .ok (.goto (-46), 3) := by decide +kernel
theorem dX9_noLess_69 : decode cX9_noLess 69 = .ok (.iconst 1, 1) := by decide +kernel
theorem dX9_noLess_70 : decode cX9_noLess 70 = .ok (.ireturn, 1) := by decide +kernel
theorem dX10_init_0 : decode cX10_init 0 = .ok (.aload_n 0, 1) := by decide +kernel
theorem dX10_init_1 : decode cX10_init 1 = .ok (.invokespecial 3, 3) := by decide +kernel
theorem dX10_init_4 : decode cX10_init 4 = .ok (.aload_n 0, 1) := by decide +kernel
theorem dX10_init_5 : decode cX10_init 5 = .ok (.sipush 1024, 3) := by decide +kernel
theorem dX10_init_8 : decode cX10_init 8 = .ok (.newarray .int, 2) := by decide +kernel
theorem dX10_init_10 : decode cX10_init 10 = .ok (.putfield 9, 3) := by decide +kernel
theorem dX10_init_13 : decode cX10_init 13 = .ok (.aload_n 0, 1) := by decide +kernel
theorem dX10_init_14 : decode cX10_init 14 = .ok (.sipush 1024, 3) := by decide +kernel
theorem dX10_init_17 : decode cX10_init 17 = .ok (.newarray .int, 2) := by decide +kernel
theorem dX10_init_19 : decode cX10_init 19 = .ok (.putfield 15, 3) := by decide +kernel
theorem dX10_init_22 : decode cX10_init 22 = .ok (.aload_n 0, 1) := by decide +kernel
theorem dX10_init_23 : decode cX10_init 23 = .ok (.sipush 1846, 3) := by decide +kernel
theorem dX10_init_26 : decode cX10_init 26 = .ok (.newarray .int, 2) := by decide +kernel
theorem dX10_init_28 : decode cX10_init 28 = .ok (.putfield 18, 3) := by decide +kernel
theorem dX10_init_31 : decode cX10_init 31 = .ok (.return_, 1) := by decide +kernel
set_option maxRecDepth 20000 in
theorem ggX10_seek_J7_fill_53178 : GoodIn wsX10_seek wsJ7_fill_53178 := goodIn_r _ [6] (by decide +kernel) (by decide +kernel)
set_option maxRecDepth 20000 in
theorem gX10_seek_J7_fill_53178 : GoodIn wsX10_seek (va_wsS RX10 30 yJ7_fill_53178 wsJ7_fill_53178) := goodIn_app (goodIn_of _ (by decide +kernel)) ggX10_seek_J7_fill_53178
set_option maxRecDepth 20000 in
theorem ggX10_seek_X10_list : GoodIn wsX10_seek wsX10_list := goodIn_r _ [11, 1, 12, 13, 14, 15, 16, 17, 18, 19, 20, 21, 22, 23, 24, 25, 26, 27, 28, 10, 29, 44, 45, 46, 47, 48, 49, 50, 51, 52, 53] (by decide +kernel) (by decide +kernel)
set_option maxRecDepth 20000 in
theorem gX10_seek_X10_list : GoodIn wsX10_seek (wsV RX10 40 RX10 yX10_list wsX10_list) := goodIn_app (goodIn_of _ (by decide +kernel)) ggX10_seek_X10_list
set_option maxRecDepth 20000 in
theorem ggX10_seek_X10_markSums : GoodIn wsX10_seek wsX10_markSums := goodIn_r _ [33, 34, 2, 1, 13, 35, 3, 4, 5, 6, 23, 15, 24, 49, 50, 51, 52, 53] (by decide +kernel) (by decide +kernel)
set_option maxRecDepth 20000 in
theorem gX10_seek_X10_markSums : GoodIn wsX10_seek (wsV RX10 47 RX10 yX10_markSums wsX10_markSums) := goodIn_app (goodIn_of _ (by decide +kernel)) ggX10_seek_X10_markSums
set_option maxRecDepth 20000 in
theorem ggX10_seek_X10_findPair : GoodIn wsX10_seek wsX10_findPair := goodIn_r _ [39, 2, 13, 35, 34, 12, 23, 15, 24, 25, 26, 40, 41, 42, 10, 43, 1, 14, 16, 17, 18, 19, 20, 21, 22, 49, 50, 51, 52, 53, 44, 45, 46, 47, 48] (by decide +kernel) (by decide +kernel)
set_option maxRecDepth 20000 in
theorem gX10_seek_X10_findPair : GoodIn wsX10_seek (wsV RX10 50 RX10 yX10_findPair wsX10_findPair) := goodIn_app (goodIn_of _ (by decide +kernel)) ggX10_seek_X10_findPair
theorem dX10_seek_0 : decode cX10_seek 0 = .ok (.aload_n 1, 1) := by decide +kernel
theorem dX10_seek_1 : decode cX10_seek 1 = .ok (.iconst 1, 1) := by decide +kernel
theorem dX10_seek_2 : decode cX10_seek 2 = .ok (.putfield 21, 3) := by decide +kernel
theorem dX10_seek_5 : decode cX10_seek 5 = .ok (.aload_n 1, 1) := by decide +kernel
theorem dX10_seek_6 : decode cX10_seek 6 = .ok (.getfield 27, 3) := by decide +kernel
theorem dX10_seek_9 : decode cX10_seek 9 = .ok (.iconst (-1), 1) := by decide +kernel
theorem dX10_seek_10 : decode cX10_seek 10 = .ok (.invokestatic 30, 3) := by decide +kernel
theorem dX10_seek_13 : decode cX10_seek 13 = .ok (.aload_n 0, 1) := by decide +kernel
theorem dX10_seek_14 : decode cX10_seek 14 = .ok (.iconst 0, 1) := by decide +kernel
theorem dX10_seek_15 : decode cX10_seek 15 = .ok (.putfield 36, 3) := by decide +kernel
theorem dX10_seek_18 : decode cX10_seek 18 = .ok (.aload_n 0, 1) := by decide +kernel
theorem dX10_seek_19 : decode cX10_seek 19 = .ok (.aload_n 1, 1) := by decide +kernel
theorem dX10_seek_20 : decode cX10_seek 20 = .ok (.iconst 1, 1) := by decide +kernel
theorem dX10_seek_21 : decode cX10_seek 21 = .ok (.invokevirtual 40, 3) := by decide +kernel
theorem dX10_seek_24 : decode cX10_seek 24 = .ok (.aload_n 0, 1) := by decide +kernel
theorem dX10_seek_25 : decode cX10_seek 25 = .ok (.aload_n 0, 1) := by decide +kernel
theorem dX10_seek_26 : decode cX10_seek 26 = .ok (.getfield 36, 3) := by decide +kernel
theorem dX10_seek_29 : decode cX10_seek 29 = .ok (.putfield 44, 3) := by decide +kernel
theorem dX10_seek_32 : decode cX10_seek 32 = .ok (.aload_n 0, 1) := by decide +kernel
theorem dX10_seek_33 : decode cX10_seek 33 = .ok (.aload_n 1, 1) := by decide +kernel
theorem dX10_seek_34 : decode cX10_seek 34 = .ok (.iconst 0, 1) := by decide +kernel
theorem dX10_seek_35 : decode cX10_seek 35 = .ok (.invokevirtual 40, 3) := by decide +kernel
theorem dX10_seek_38 : decode cX10_seek 38 = .ok (.aload_n 0, 1) := by decide +kernel
theorem dX10_seek_39 : decode cX10_seek 39 = .ok (.getfield 44, 3) := by decide +kernel
theorem dX10_seek_42 : decode cX10_seek 42 = .ok (.iconst 1, 1) := by decide +kernel
theorem dX10_seek_43 : decode cX10_seek 43 = .ok (.if_icmp .le 25, 3) := by decide +kernel
theorem dX10_seek_46 : decode cX10_seek 46 = .ok (.aload_n 0, 1) := by decide +kernel
theorem dX10_seek_47 : decode cX10_seek 47 = .ok (.getfield 36, 3) := by decide +kernel
theorem dX10_seek_50 : decode cX10_seek 50 = .ok (.aload_n 0, 1) := by decide +kernel
theorem dX10_seek_51 : decode cX10_seek 51 = .ok (.getfield 44, 3) := by decide +kernel
theorem dX10_seek_54 : decode cX10_seek 54 = .ok (.isub, 1) := by decide +kernel
theorem dX10_seek_55 : decode cX10_seek 55 = .ok (.iconst 1, 1) := by decide +kernel
theorem dX10_seek_56 : decode cX10_seek 56 = .ok (.if_icmp .le 12, 3) := by decide +kernel
theorem dX10_seek_59 : decode cX10_seek 59 = .ok (.aload_n 0, 1) := by decide +kernel
theorem dX10_seek_60 : decode cX10_seek 60 = .ok (.invokevirtual 47, 3) := by decide +kernel
theorem dX10_seek_63 : decode cX10_seek 63 = .ok (.aload_n 0, 1) := by decide +kernel
theorem dX10_seek_64 : decode cX10_seek 64 = .ok (.aload_n 1, 1) := by decide +kernel
theorem dX10_seek_65 : decode cX10_seek 65 = .ok (.invokevirtual 50, 3) := by decide +kernel
theorem dX10_seek_68 : decode cX10_seek 68 = .ok (.return_, 1) := by decide +kernel
set_option maxRecDepth 20000 in
theorem ggX10_list_X11_isWithin : GoodIn wsX10_list wsX11_isWithin := goodIn_r _ [6] (by decide +kernel) (by decide +kernel)
set_option maxRecDepth 20000 in
theorem gX10_list_X11_isWithin_n57 : GoodIn wsX10_list (wsX11_isWithin) := ggX10_list_X11_isWithin
set_option maxRecDepth 20000 in
theorem ggX10_list_X9_at : GoodIn wsX10_list wsX9_at := goodIn_r _ [11, 12, 13, 5, 14, 15, 16, 21, 22, 23, 24, 25] (by decide +kernel) (by decide +kernel)
set_option maxRecDepth 20000 in
theorem gX10_list_X9_at : GoodIn wsX10_list (wsV RX10 61 RX9 yX9_at wsX9_at) := goodIn_app (goodIn_of _ (by decide +kernel)) ggX10_list_X9_at
set_option maxRecDepth 20000 in
theorem ggX10_list_X11_inside : GoodIn wsX10_list wsX11_inside := goodIn_r _ [14] (by decide +kernel) (by decide +kernel)
set_option maxRecDepth 20000 in
theorem gX10_list_X11_inside_n65 : GoodIn wsX10_list (wsX11_inside) := ggX10_list_X11_inside
set_option maxRecDepth 20000 in
theorem ggX10_list_X10_figureOf : GoodIn wsX10_list wsX10_figureOf := goodIn_r _ [20] (by decide +kernel) (by decide +kernel)
set_option maxRecDepth 20000 in
theorem gX10_list_X10_figureOf : GoodIn wsX10_list (va_wsS RX10 68 yX10_figureOf wsX10_figureOf) := goodIn_app (goodIn_of _ (by decide +kernel)) ggX10_list_X10_figureOf
theorem dX10_list_0 : decode cX10_list 0 = .ok (.iconst 0, 1) := by decide +kernel
theorem dX10_list_1 : decode cX10_list 1 = .ok (.istore_n 3, 1) := by decide +kernel
theorem dX10_list_2 : decode cX10_list 2 = .ok (.iload_n 3, 1) := by decide +kernel
theorem dX10_list_3 : decode cX10_list 3 = .ok (.aload_n 1, 1) := by decide +kernel
theorem dX10_list_4 : decode cX10_list 4 = .ok (.getfield 54, 3) := by decide +kernel
theorem dX10_list_7 : decode cX10_list 7 = .ok (.if_icmp .gt 75, 3) := by decide +kernel
theorem dX10_list_10 : decode cX10_list 10 = .ok (.iload_n 3, 1) := by decide +kernel
theorem dX10_list_11 : decode cX10_list 11 = .ok (.aload_n 1, 1) := by decide +kernel
theorem dX10_list_12 : decode cX10_list 12 = .ok (.getfield 54, 3) := by decide +kernel
theorem dX10_list_15 : decode cX10_list 15 = .ok (.invokestatic 57, 3) := by decide +kernel
theorem dX10_list_18 : decode cX10_list 18 = .ok (.ifCond .eq 58, 3) := by decide +kernel
theorem dX10_list_21 : decode cX10_list 21 = .ok (.aload_n 1, 1) := by decide +kernel
theorem dX10_list_22 : decode cX10_list 22 = .ok (.iload_n 3, 1) := by decide +kernel
theorem dX10_list_23 : decode cX10_list 23 = .ok (.invokevirtual 61, 3) := by decide +kernel
theorem dX10_list_26 : decode cX10_list 26 = .ok (.iload_n 2, 1) := by decide +kernel
theorem dX10_list_27 : decode cX10_list 27 = .ok (.if_icmp .ne 49, 3) := by decide +kernel
theorem dX10_list_30 : decode cX10_list 30 = .ok (.aload_n 0, 1) := by decide +kernel
theorem dX10_list_31 : decode cX10_list 31 = .ok (.getfield 36, 3) := by decide +kernel
theorem dX10_list_34 : decode cX10_list 34 = .ok (.sipush 1024, 3) := by decide +kernel
theorem dX10_list_37 : decode cX10_list 37 = .ok (.invokestatic 65, 3) := by decide +kernel
theorem dX10_list_40 : decode cX10_list 40 = .ok (.ifCond .eq 36, 3) := by decide +kernel
theorem dX10_list_43 : decode cX10_list 43 = .ok (.aload_n 0, 1) := by decide +kernel
theorem dX10_list_44 : decode cX10_list 44 = .ok (.getfield 9, 3) := by decide +kernel
theorem dX10_list_47 : decode cX10_list 47 = .ok (.aload_n 0, 1) := by decide +kernel
theorem dX10_list_48 : decode cX10_list 48 = .ok (.getfield 36, 3) := by decide +kernel
theorem dX10_list_51 : decode cX10_list 51 = .ok (.iload_n 3, 1) := by decide +kernel
theorem dX10_list_52 : decode cX10_list 52 = .ok (.iastore, 1) := by decide +kernel
theorem dX10_list_53 : decode cX10_list 53 = .ok (.aload_n 0, 1) := by decide +kernel
theorem dX10_list_54 : decode cX10_list 54 = .ok (.getfield 15, 3) := by decide +kernel
theorem dX10_list_57 : decode cX10_list 57 = .ok (.aload_n 0, 1) := by decide +kernel
theorem dX10_list_58 : decode cX10_list 58 = .ok (.getfield 36, 3) := by decide +kernel
theorem dX10_list_61 : decode cX10_list 61 = .ok (.iload_n 3, 1) := by decide +kernel
theorem dX10_list_62 : decode cX10_list 62 = .ok (.invokestatic 68, 3) := by decide +kernel
theorem dX10_list_65 : decode cX10_list 65 = .ok (.iastore, 1) := by decide +kernel
theorem dX10_list_66 : decode cX10_list 66 = .ok (.aload_n 0, 1) := by decide +kernel
theorem dX10_list_67 : decode cX10_list 67 = .ok (.dup, 1) := by decide +kernel
theorem dX10_list_68 : decode cX10_list 68 = .ok (.getfield 36, 3) := by decide +kernel
theorem dX10_list_71 : decode cX10_list 71 = .ok (.iconst 1, 1) := by decide +kernel
theorem dX10_list_72 : decode cX10_list 72 = .ok (.iadd, 1) := by decide +kernel
theorem dX10_list_73 : decode cX10_list 73 = .ok (.putfield 36, 3) := by decide +kernel
theorem dX10_list_76 : decode cX10_list 76 = .ok (.iinc 3 1, 3) := by decide +kernel
theorem dX10_list_79 : decode cX10_list 79 = .ok (.goto (-77), 3) := by decide +kernel
theorem dX10_list_82 : decode cX10_list 82 = .ok (.return_, 1) := by decide +kernel
theorem dX10_figureOf_0 : decode cX10_figureOf 0 = .ok (.iconst 0, 1) := by decide +kernel
theorem dX10_figureOf_1 : decode cX10_figureOf 1 = .ok (.istore_n 1, 1) := by decide +kernel
theorem dX10_figureOf_2 : decode cX10_figureOf 2 = .ok (.bipush 9, 2) := by decide +kernel
theorem dX10_figureOf_4 : decode cX10_figureOf 4 = .ok (.istore_n 2, 1) := by decide +kernel
theorem dX10_figureOf_5 : decode cX10_figureOf 5 = .ok (.iload_n 2, 1) := by decide +kernel
theorem dX10_figureOf_6 : decode cX10_figureOf 6 = .ok (.ifCond .lt 19, 3) := by decide +kernel
theorem dX10_figureOf_9 : decode cX10_figureOf 9 = .ok (.iload_n 1, 1) := by decide +kernel
theorem dX10_figureOf_10 : decode cX10_figureOf 10 = .ok (.iconst 3, 1) := by decide +kernel
theorem dX10_figureOf_11 : decode cX10_figureOf 11 = .ok (.imul, 1) := by decide +kernel
theorem dX10_figureOf_12 : decode cX10_figureOf 12 = .ok (.iload_n 0, 1) := by decide +kernel
theorem dX10_figureOf_13 : decode cX10_figureOf 13 = .ok (.iload_n 2, 1) := by decide +kernel
theorem dX10_figureOf_14 : decode cX10_figureOf 14 = .ok (.ishr, 1) := by decide +kernel
theorem dX10_figureOf_15 : decode cX10_figureOf 15 = .ok (.iconst 1, 1) := by decide +kernel
theorem dX10_figureOf_16 : decode cX10_figureOf 16 = .ok (.iand, 1) := by decide +kernel
theorem dX10_figureOf_17 : decode cX10_figureOf 17 = .ok (.iadd, 1) := by decide +kernel
theorem dX10_figureOf_18 : decode cX10_figureOf 18 = .ok (.istore_n 1, 1) := by decide +kernel
theorem dX10_figureOf_19 : decode cX10_figureOf 19 = .ok (.iinc 2 (-1), 3) := by decide +kernel
theorem dX10_figureOf_22 : decode cX10_figureOf 22 = .ok (.goto (-17), 3) := by decide +kernel
theorem dX10_figureOf_25 : decode cX10_figureOf 25 = .ok (.iload_n 1, 1) := by decide +kernel
theorem dX10_figureOf_26 : decode cX10_figureOf 26 = .ok (.ireturn, 1) := by decide +kernel
set_option maxRecDepth 20000 in
theorem ggX10_markSums_J7_fill_53178 : GoodIn wsX10_markSums wsJ7_fill_53178 := goodIn_r _ [9] (by decide +kernel) (by decide +kernel)
set_option maxRecDepth 20000 in
theorem gX10_markSums_J7_fill_53178 : GoodIn wsX10_markSums (va_wsS RX10 30 yJ7_fill_53178 wsJ7_fill_53178) := goodIn_app (goodIn_of _ (by decide +kernel)) ggX10_markSums_J7_fill_53178
set_option maxRecDepth 20000 in
theorem ggX10_markSums_X11_inside : GoodIn wsX10_markSums wsX11_inside := goodIn_r _ [12] (by decide +kernel) (by decide +kernel)
set_option maxRecDepth 20000 in
theorem gX10_markSums_X11_inside_n65 : GoodIn wsX10_markSums (wsX11_inside) := ggX10_markSums_X11_inside
theorem dX10_markSums_0 : decode cX10_markSums 0 = .ok (.aload_n 0, 1) := by decide +kernel
theorem dX10_markSums_1 : decode cX10_markSums 1 = .ok (.getfield 18, 3) := by decide +kernel
theorem dX10_markSums_4 : decode cX10_markSums 4 = .ok (.iconst 0, 1) := by decide +kernel
theorem dX10_markSums_5 : decode cX10_markSums 5 = .ok (.invokestatic 30, 3) := by decide +kernel
theorem dX10_markSums_8 : decode cX10_markSums 8 = .ok (.aload_n 0, 1) := by decide +kernel
theorem dX10_markSums_9 : decode cX10_markSums 9 = .ok (.getfield 44, 3) := by decide +kernel
theorem dX10_markSums_12 : decode cX10_markSums 12 = .ok (.istore_n 1, 1) := by decide +kernel
theorem dX10_markSums_13 : decode cX10_markSums 13 = .ok (.iload_n 1, 1) := by decide +kernel
theorem dX10_markSums_14 : decode cX10_markSums 14 = .ok (.aload_n 0, 1) := by decide +kernel
theorem dX10_markSums_15 : decode cX10_markSums 15 = .ok (.getfield 36, 3) := by decide +kernel
theorem dX10_markSums_18 : decode cX10_markSums 18 = .ok (.if_icmp .ge 87, 3) := by decide +kernel
theorem dX10_markSums_21 : decode cX10_markSums 21 = .ok (.iload_n 1, 1) := by decide +kernel
theorem dX10_markSums_22 : decode cX10_markSums 22 = .ok (.sipush 1024, 3) := by decide +kernel
theorem dX10_markSums_25 : decode cX10_markSums 25 = .ok (.if_icmp .ge 80, 3) := by decide +kernel
theorem dX10_markSums_28 : decode cX10_markSums 28 = .ok (.aload_n 0, 1) := by decide +kernel
theorem dX10_markSums_29 : decode cX10_markSums 29 = .ok (.getfield 15, 3) := by decide +kernel
theorem dX10_markSums_32 : decode cX10_markSums 32 = .ok (.iload_n 1, 1) := by decide +kernel
theorem dX10_markSums_33 : decode cX10_markSums 33 = .ok (.iaload, 1) := by decide +kernel
theorem dX10_markSums_34 : decode cX10_markSums 34 = .ok (.istore_n 2, 1) := by decide +kernel
theorem dX10_markSums_35 : decode cX10_markSums 35 = .ok (.iload_n 1, 1) := by decide +kernel
theorem dX10_markSums_36 : decode cX10_markSums 36 = .ok (.iconst 1, 1) := by decide +kernel
theorem dX10_markSums_37 : decode cX10_markSums 37 = .ok (.iadd, 1) := by decide +kernel
theorem dX10_markSums_38 : decode cX10_markSums 38 = .ok (.istore_n 3, 1) := by decide +kernel
theorem dX10_markSums_39 : decode cX10_markSums 39 = .ok (.iload_n 3, 1) := by decide +kernel
theorem dX10_markSums_40 : decode cX10_markSums 40 = .ok (.aload_n 0, 1) := by decide +kernel
theorem dX10_markSums_41 : decode cX10_markSums 41 = .ok (.getfield 36, 3) := by decide +kernel
theorem dX10_markSums_44 : decode cX10_markSums 44 = .ok (.if_icmp .ge 55, 3) := by decide +kernel
theorem dX10_markSums_47 : decode cX10_markSums 47 = .ok (.iload_n 3, 1) := by decide +kernel
theorem dX10_markSums_48 : decode cX10_markSums 48 = .ok (.sipush 1024, 3) := by decide +kernel
theorem dX10_markSums_51 : decode cX10_markSums 51 = .ok (.if_icmp .ge 48, 3) := by decide +kernel
theorem dX10_markSums_54 : decode cX10_markSums 54 = .ok (.iload_n 2, 1) := by decide +kernel
theorem dX10_markSums_55 : decode cX10_markSums 55 = .ok (.aload_n 0, 1) := by decide +kernel
theorem dX10_markSums_56 : decode cX10_markSums 56 = .ok (.getfield 15, 3) := by decide +kernel
theorem dX10_markSums_59 : decode cX10_markSums 59 = .ok (.iload_n 3, 1) := by decide +kernel
theorem dX10_markSums_60 : decode cX10_markSums 60 = .ok (.iaload, 1) := by decide +kernel
theorem dX10_markSums_61 : decode cX10_markSums 61 = .ok (.iadd, 1) := by decide +kernel
theorem dX10_markSums_62 : decode cX10_markSums 62 = .ok (.istore 4, 2) := by decide +kernel
theorem dX10_markSums_64 : decode cX10_markSums 64 = .ok (.iload 4, 2) := by decide +kernel
theorem dX10_markSums_66 : decode cX10_markSums 66 = .ok (.ldc 72, 2) := by decide +kernel
theorem dX10_markSums_68 : decode cX10_markSums 68 = .ok (.invokestatic 65, 3) := by decide +kernel
theorem dX10_markSums_71 : decode cX10_markSums 71 = .ok (.ifCond .eq 22, 3) := by decide +kernel
theorem dX10_markSums_74 : decode cX10_markSums 74 = .ok (.aload_n 0, 1) := by decide +kernel
theorem dX10_markSums_75 : decode cX10_markSums 75 = .ok (.getfield 18, 3) := by decide +kernel
theorem dX10_markSums_78 : decode cX10_markSums 78 = .ok (.iload 4, 2) := by decide +kernel
theorem dX10_markSums_80 : decode cX10_markSums 80 = .ok (.iconst 5, 1) := by decide +kernel
theorem dX10_markSums_81 : decode cX10_markSums 81 = .ok (.ishr, 1) := by decide +kernel
theorem dX10_markSums_82 : decode cX10_markSums 82 = .ok (.dup2, 1) := by decide +kernel
theorem dX10_markSums_83 : decode cX10_markSums 83 = .ok (.iaload, 1) := by decide +kernel
theorem dX10_markSums_84 : decode cX10_markSums 84 = .ok (.iconst 1, 1) := by decide +kernel
theorem dX10_markSums_85 : decode cX10_markSums 85 = .ok (.iload 4, 2) := by decide +kernel
theorem dX10_markSums_87 : decode cX10_markSums 87 = .ok (.bipush 31, 2) := by decide +kernel
theorem dX10_markSums_89 : decode cX10_markSums 89 = .ok (.iand, 1) := by decide +kernel
theorem dX10_markSums_90 : decode cX10_markSums 90 = .ok (.ishl, 1) := by decide +kernel
theorem dX10_markSums_91 : decode cX10_markSums 91 = .ok (.ior, 1) := by decide +kernel
theorem dX10_markSums_92 : decode cX10_markSums 92 = .ok (.iastore, 1) := by decide +kernel
theorem dX10_markSums_93 : decode cX10_markSums 93 = .ok (.iinc 3 1, 3) := by decide +kernel
theorem dX10_markSums_96 : decode cX10_markSums 96 = .ok (.goto (-57), 3) := by decide +kernel
theorem dX10_markSums_99 : decode cX10_markSums 99 = .ok (.iinc 1 1, 3) := by decide +kernel
theorem dX10_markSums_102 : decode cX10_markSums 102 = .ok (.goto (-89), 3) := by decide +kernel
theorem dX10_markSums_105 : decode cX10_markSums 105 = .ok (.return_, 1) := by decide +kernel
set_option maxRecDepth 20000 in
theorem ggX10_findPair_X11_inside : GoodIn wsX10_findPair wsX11_inside := goodIn_r _ [8] (by decide +kernel) (by decide +kernel)
set_option maxRecDepth 20000 in
theorem gX10_findPair_X11_inside_n65 : GoodIn wsX10_findPair (wsX11_inside) := ggX10_findPair_X11_inside
set_option maxRecDepth 20000 in
theorem ggX10_findPair_X11_has : GoodIn wsX10_findPair wsX11_has := goodIn_r _ [10] (by decide +kernel) (by decide +kernel)
set_option maxRecDepth 20000 in
theorem gX10_findPair_X11_has_n73 : GoodIn wsX10_findPair (wsX11_has) := ggX10_findPair_X11_has
set_option maxRecDepth 20000 in
theorem ggX10_findPair_X10_findOthers : GoodIn wsX10_findPair wsX10_findOthers := goodIn_r _ [15, 1, 16, 5, 17, 7, 18, 19, 20, 21, 22, 23, 24, 6, 8, 9, 10, 25, 26, 27, 28, 29, 30, 31, 32, 33, 34] (by decide +kernel) (by decide +kernel)
set_option maxRecDepth 20000 in
theorem gX10_findPair_X10_findOthers : GoodIn wsX10_findPair (wsV RX10 76 RX10 yX10_findOthers wsX10_findOthers) := goodIn_app (goodIn_of _ (by decide +kernel)) ggX10_findPair_X10_findOthers
theorem dX10_findPair_0 : decode cX10_findPair 0 = .ok (.iconst 0, 1) := by decide +kernel
theorem dX10_findPair_1 : decode cX10_findPair 1 = .ok (.istore_n 2, 1) := by decide +kernel
theorem dX10_findPair_2 : decode cX10_findPair 2 = .ok (.iload_n 2, 1) := by decide +kernel
theorem dX10_findPair_3 : decode cX10_findPair 3 = .ok (.aload_n 0, 1) := by decide +kernel
theorem dX10_findPair_4 : decode cX10_findPair 4 = .ok (.getfield 44, 3) := by decide +kernel
theorem dX10_findPair_7 : decode cX10_findPair 7 = .ok (.if_icmp .ge 111, 3) := by decide +kernel
theorem dX10_findPair_10 : decode cX10_findPair 10 = .ok (.iload_n 2, 1) := by decide +kernel
theorem dX10_findPair_11 : decode cX10_findPair 11 = .ok (.sipush 1024, 3) := by decide +kernel
theorem dX10_findPair_14 : decode cX10_findPair 14 = .ok (.if_icmp .ge 104, 3) := by decide +kernel
theorem dX10_findPair_17 : decode cX10_findPair 17 = .ok (.aload_n 0, 1) := by decide +kernel
theorem dX10_findPair_18 : decode cX10_findPair 18 = .ok (.getfield 15, 3) := by decide +kernel
theorem dX10_findPair_21 : decode cX10_findPair 21 = .ok (.iload_n 2, 1) := by decide +kernel
theorem dX10_findPair_22 : decode cX10_findPair 22 = .ok (.iaload, 1) := by decide +kernel
theorem dX10_findPair_23 : decode cX10_findPair 23 = .ok (.istore_n 3, 1) := by decide +kernel
theorem dX10_findPair_24 : decode cX10_findPair 24 = .ok (.iload_n 2, 1) := by decide +kernel
theorem dX10_findPair_25 : decode cX10_findPair 25 = .ok (.iconst 1, 1) := by decide +kernel
theorem dX10_findPair_26 : decode cX10_findPair 26 = .ok (.iadd, 1) := by decide +kernel
theorem dX10_findPair_27 : decode cX10_findPair 27 = .ok (.istore 4, 2) := by decide +kernel
theorem dX10_findPair_29 : decode cX10_findPair 29 = .ok (.iload 4, 2) := by decide +kernel
theorem dX10_findPair_31 : decode cX10_findPair 31 = .ok (.aload_n 0, 1) := by decide +kernel
theorem dX10_findPair_32 : decode cX10_findPair 32 = .ok (.getfield 44, 3) := by decide +kernel
theorem dX10_findPair_35 : decode cX10_findPair 35 = .ok (.if_icmp .ge 77, 3) := by decide +kernel
theorem dX10_findPair_38 : decode cX10_findPair 38 = .ok (.iload 4, 2) := by decide +kernel
theorem dX10_findPair_40 : decode cX10_findPair 40 = .ok (.sipush 1024, 3) := by decide +kernel
theorem dX10_findPair_43 : decode cX10_findPair 43 = .ok (.if_icmp .ge 69, 3) := by decide +kernel
theorem dX10_findPair_46 : decode cX10_findPair 46 = .ok (.iload_n 3, 1) := by decide +kernel
theorem dX10_findPair_47 : decode cX10_findPair 47 = .ok (.aload_n 0, 1) := by decide +kernel
theorem dX10_findPair_48 : decode cX10_findPair 48 = .ok (.getfield 15, 3) := by decide +kernel
theorem dX10_findPair_51 : decode cX10_findPair 51 = .ok (.iload 4, 2) := by decide +kernel
theorem dX10_findPair_53 : decode cX10_findPair 53 = .ok (.iaload, 1) := by decide +kernel
theorem dX10_findPair_54 : decode cX10_findPair 54 = .ok (.iadd, 1) := by decide +kernel
theorem dX10_findPair_55 : decode cX10_findPair 55 = .ok (.istore 5, 2) := by decide +kernel
theorem dX10_findPair_57 : decode cX10_findPair 57 = .ok (.iload 5, 2) := by decide +kernel
theorem dX10_findPair_59 : decode cX10_findPair 59 = .ok (.ldc 72, 2) := by decide +kernel
theorem dX10_findPair_61 : decode cX10_findPair 61 = .ok (.invokestatic 65, 3) := by decide +kernel
theorem dX10_findPair_64 : decode cX10_findPair 64 = .ok (.ifCond .eq 42, 3) := by decide +kernel
theorem dX10_findPair_67 : decode cX10_findPair 67 = .ok (.aload_n 0, 1) := by decide +kernel
theorem dX10_findPair_68 : decode cX10_findPair 68 = .ok (.getfield 18, 3) := by decide +kernel
theorem dX10_findPair_71 : decode cX10_findPair 71 = .ok (.iload 5, 2) := by decide +kernel
theorem dX10_findPair_73 : decode cX10_findPair 73 = .ok (.iconst 5, 1) := by decide +kernel
theorem dX10_findPair_74 : decode cX10_findPair 74 = .ok (.ishr, 1) := by decide +kernel
theorem dX10_findPair_75 : decode cX10_findPair 75 = .ok (.iaload, 1) := by decide +kernel
theorem dX10_findPair_76 : decode cX10_findPair 76 = .ok (.iload 5, 2) := by decide +kernel
theorem dX10_findPair_78 : decode cX10_findPair 78 = .ok (.bipush 31, 2) := by decide +kernel
theorem dX10_findPair_80 : decode cX10_findPair 80 = .ok (.iand, 1) := by decide +kernel
theorem dX10_findPair_81 : decode cX10_findPair 81 = .ok (.invokestatic 73, 3) := by decide +kernel
theorem dX10_findPair_84 : decode cX10_findPair 84 = .ok (.ifCond .eq 22, 3) := by decide +kernel
theorem dX10_findPair_87 : decode cX10_findPair 87 = .ok (.aload_n 0, 1) := by decide +kernel
theorem dX10_findPair_88 : decode cX10_findPair 88 = .ok (.aload_n 1, 1) := by decide +kernel
theorem dX10_findPair_89 : decode cX10_findPair 89 = .ok (.aload_n 0, 1) := by decide +kernel
theorem dX10_findPair_90 : decode cX10_findPair 90 = .ok (.getfield 9, 3) := by decide +kernel
theorem dX10_findPair_93 : decode cX10_findPair 93 = .ok (.iload_n 2, 1) := by decide +kernel
theorem dX10_findPair_94 : decode cX10_findPair 94 = .ok (.iaload, 1) := by decide +kernel
theorem dX10_findPair_95 : decode cX10_findPair 95 = .ok (.aload_n 0, 1) := by decide +kernel
theorem dX10_findPair_96 : decode cX10_findPair 96 = .ok (.getfield 9, 3) := by decide +kernel
theorem dX10_findPair_99 : decode cX10_findPair 99 = .ok (.iload 4, 2) := by decide +kernel
theorem dX10_findPair_101 : decode cX10_findPair 101 = .ok (.iaload, 1) := by decide +kernel
theorem dX10_findPair_102 : decode cX10_findPair 102 = .ok (.invokevirtual 76, 3) := by decide +kernel
theorem dX10_findPair_105 : decode cX10_findPair 105 = .ok (.return_, 1) := by decide +kernel
theorem dX10_findPair_106 : decode cX10_findPair 106 = .ok (.iinc 4 1, 3) := by decide +kernel
theorem dX10_findPair_109 : decode cX10_findPair 109 = .ok (.goto (-80), 3) := by decide +kernel
theorem dX10_findPair_112 : decode cX10_findPair 112 = .ok (.iinc 2 1, 3) := by decide +kernel
theorem dX10_findPair_115 : decode cX10_findPair 115 = .ok (.goto (-113), 3) := by decide +kernel
theorem dX10_findPair_118 : decode cX10_findPair 118 = .ok (.return_, 1) := by decide +kernel
set_option maxRecDepth 20000 in
theorem ggX10_findOthers_X11_isWithin : GoodIn wsX10_findOthers wsX11_isWithin := goodIn_r _ [6] (by decide +kernel) (by decide +kernel)
set_option maxRecDepth 20000 in
theorem gX10_findOthers_X11_isWithin_n57 : GoodIn wsX10_findOthers (wsX11_isWithin) := ggX10_findOthers_X11_isWithin
set_option maxRecDepth 20000 in
theorem ggX10_findOthers_X9_at : GoodIn wsX10_findOthers wsX9_at := goodIn_r _ [11, 12, 13, 5, 14, 15, 16, 22, 23, 24, 25, 26] (by decide +kernel) (by decide +kernel)
set_option maxRecDepth 20000 in
theorem gX10_findOthers_X9_at : GoodIn wsX10_findOthers (wsV RX10 61 RX9 yX9_at wsX9_at) := goodIn_app (goodIn_of _ (by decide +kernel)) ggX10_findOthers_X9_at
theorem dX10_findOthers_0 : decode cX10_findOthers 0 = .ok (.iload_n 2, 1) := by decide +kernel
theorem dX10_findOthers_1 : decode cX10_findOthers 1 = .ok (.iload_n 3, 1) := by decide +kernel
theorem dX10_findOthers_2 : decode cX10_findOthers 2 = .ok (.iand, 1) := by decide +kernel
theorem dX10_findOthers_3 : decode cX10_findOthers 3 = .ok (.istore 4, 2) := by decide +kernel
theorem dX10_findOthers_5 : decode cX10_findOthers 5 = .ok (.iload_n 2, 1) := by decide +kernel
theorem dX10_findOthers_6 : decode cX10_findOthers 6 = .ok (.iload_n 3, 1) := by decide +kernel
theorem dX10_findOthers_7 : decode cX10_findOthers 7 = .ok (.ixor, 1) := by decide +kernel
theorem dX10_findOthers_8 : decode cX10_findOthers 8 = .ok (.istore 5, 2) := by decide +kernel
theorem dX10_findOthers_10 : decode cX10_findOthers 10 = .ok (.aload_n 0, 1) := by decide +kernel
theorem dX10_findOthers_11 : decode cX10_findOthers 11 = .ok (.getfield 44, 3) := by decide +kernel
theorem dX10_findOthers_14 : decode cX10_findOthers 14 = .ok (.istore 6, 2) := by decide +kernel
theorem dX10_findOthers_16 : decode cX10_findOthers 16 = .ok (.iload 6, 2) := by decide +kernel
theorem dX10_findOthers_18 : decode cX10_findOthers 18 = .ok (.aload_n 0, 1) := by decide +kernel
theorem dX10_findOthers_19 : decode cX10_findOthers 19 = .ok (.getfield 36, 3) := by decide +kernel
theorem dX10_findOthers_22 : decode cX10_findOthers 22 = .ok (.if_icmp .ge 106, 3) := by decide +kernel
theorem dX10_findOthers_25 : decode cX10_findOthers 25 = .ok (.iload 6, 2) := by decide +kernel
theorem dX10_findOthers_27 : decode cX10_findOthers 27 = .ok (.sipush 1024, 3) := by decide +kernel
theorem dX10_findOthers_30 : decode cX10_findOthers 30 = .ok (.if_icmp .ge 98, 3) := by decide +kernel
theorem dX10_findOthers_33 : decode cX10_findOthers 33 = .ok (.aload_n 0, 1) := by decide +kernel
theorem dX10_findOthers_34 : decode cX10_findOthers 34 = .ok (.getfield 9, 3) := by decide +kernel
theorem dX10_findOthers_37 : decode cX10_findOthers 37 = .ok (.iload 6, 2) := by decide +kernel
theorem dX10_findOthers_39 : decode cX10_findOthers 39 = .ok (.iaload, 1) := by decide +kernel
theorem dX10_findOthers_40 : decode cX10_findOthers 40 = .ok (.istore 7, 2) := by decide +kernel
theorem dX10_findOthers_42 : decode cX10_findOthers 42 = .ok (.iload 4, 2) := by decide +kernel
theorem dX10_findOthers_44 : decode cX10_findOthers 44 = .ok (.iload 5, 2) := by decide +kernel
theorem dX10_findOthers_46 : decode cX10_findOthers 46 = .ok (.iload 7, 2) := by decide +kernel
theorem dX10_findOthers_48 : decode cX10_findOthers 48 = .ok (.iconst (-1), 1) := by decide +kernel
theorem dX10_findOthers_49 : decode cX10_findOthers 49 = .ok (.ixor, 1) := by decide +kernel
theorem dX10_findOthers_50 : decode cX10_findOthers 50 = .ok (.iand, 1) := by decide +kernel
theorem dX10_findOthers_51 : decode cX10_findOthers 51 = .ok (.ior, 1) := by decide +kernel
theorem dX10_findOthers_52 : decode cX10_findOthers 52 = .ok (.istore 8, 2) := by decide +kernel
theorem dX10_findOthers_54 : decode cX10_findOthers 54 = .ok (.iload 7, 2) := by decide +kernel
theorem dX10_findOthers_56 : decode cX10_findOthers 56 = .ok (.iload_n 2, 1) := by decide +kernel
theorem dX10_findOthers_57 : decode cX10_findOthers 57 = .ok (.iload_n 3, 1) := by decide +kernel
theorem dX10_findOthers_58 : decode cX10_findOthers 58 = .ok (.ior, 1) := by decide +kernel
theorem dX10_findOthers_59 : decode cX10_findOthers 59 = .ok (.invokestatic 57, 3) := by decide +kernel
theorem dX10_findOthers_62 : decode cX10_findOthers 62 = .ok (.ifCond .eq 60, 3) := by decide +kernel
theorem dX10_findOthers_65 : decode cX10_findOthers 65 = .ok (.iload 4, 2) := by decide +kernel
theorem dX10_findOthers_67 : decode cX10_findOthers 67 = .ok (.iload 7, 2) := by decide +kernel
theorem dX10_findOthers_69 : decode cX10_findOthers 69 = .ok (.invokestatic 57, 3) := by decide +kernel
theorem dX10_findOthers_72 : decode cX10_findOthers 72 = .ok (.ifCond .eq 50, 3) := by decide +kernel
theorem dX10_findOthers_75 : decode cX10_findOthers 75 = .ok (.iload 7, 2) := by decide +kernel
theorem dX10_findOthers_77 : decode cX10_findOthers 77 = .ok (.iload 8, 2) := by decide +kernel
theorem dX10_findOthers_79 : decode cX10_findOthers 79 = .ok (.if_icmp .ge 43, 3) := by decide +kernel
theorem dX10_findOthers_82 : decode cX10_findOthers 82 = .ok (.aload_n 1, 1) := by decide +kernel
theorem dX10_findOthers_83 : decode cX10_findOthers 83 = .ok (.iload 8, 2) := by decide +kernel
theorem dX10_findOthers_85 : decode cX10_findOthers 85 = .ok (.invokevirtual 61, 3) := by decide +kernel
theorem dX10_findOthers_88 : decode cX10_findOthers 88 = .ok (.ifCond .ne 34, 3) := by decide +kernel
theorem dX10_findOthers_91 : decode cX10_findOthers 91 = .ok (.aload_n 1, 1) := by decide +kernel
theorem dX10_findOthers_92 : decode cX10_findOthers 92 = .ok (.getfield 27, 3) := by decide +kernel
theorem dX10_findOthers_95 : decode cX10_findOthers 95 = .ok (.iconst 0, 1) := by decide +kernel
theorem dX10_findOthers_96 : decode cX10_findOthers 96 = .ok (.iload_n 2, 1) := by decide +kernel
theorem dX10_findOthers_97 : decode cX10_findOthers 97 = .ok (.iastore, 1) := by decide +kernel
theorem dX10_findOthers_98 : decode cX10_findOthers 98 = .ok (.aload_n 1, 1) := by decide +kernel
theorem dX10_findOthers_99 : decode cX10_findOthers 99 = .ok (.getfield 27, 3) := by decide +kernel
theorem dX10_findOthers_102 : decode cX10_findOthers 102 = .ok (.iconst 1, 1) := by decide +kernel
theorem dX10_findOthers_103 : decode cX10_findOthers 103 = .ok (.iload_n 3, 1) := by decide +kernel
theorem dX10_findOthers_104 : decode cX10_findOthers 104 = .ok (.iastore, 1) := by decide +kernel
theorem dX10_findOthers_105 : decode cX10_findOthers 105 = .ok (.aload_n 1, 1) := by decide +kernel
theorem dX10_findOthers_106 : decode cX10_findOthers 106 = .ok (.getfield 27, 3) := by decide +kernel
theorem dX10_findOthers_109 : decode cX10_findOthers 109 = .ok (.iconst 2, 1) := by decide +kernel
theorem dX10_findOthers_110 : decode cX10_findOthers 110 = .ok (.iload 7, 2) := by decide +kernel
theorem dX10_findOthers_112 : decode cX10_findOthers 112 = .ok (.iastore, 1) := by decide +kernel
theorem dX10_findOthers_113 : decode cX10_findOthers 113 = .ok (.aload_n 1, 1) := by decide +kernel
theorem dX10_findOthers_114 : decode cX10_findOthers 114 = .ok (.getfield 27, 3) := by decide +kernel
theorem dX10_findOthers_117 : decode cX10_findOthers 117 = .ok (.iconst 3, 1) := by decide +kernel
theorem dX10_findOthers_118 : decode cX10_findOthers 118 = .ok (.iload 8, 2) := by decide +kernel
theorem dX10_findOthers_120 : decode cX10_findOthers 120 = .ok (.iastore, 1) := by decide +kernel
theorem dX10_findOthers_121 : decode cX10_findOthers 121 = .ok (.return_, 1) := by decide +kernel
theorem dX10_findOthers_122 : decode cX10_findOthers 122 = .ok (.iinc 6 1, 3) := by decide +kernel
theorem dX10_findOthers_125 : decode cX10_findOthers 125 = .ok (.goto (-109), 3) := by decide +kernel
theorem dX10_findOthers_128 : decode cX10_findOthers 128 = .ok (.return_, 1) := by decide +kernel
theorem dJ6_bitCount_0f7a4_0 : decode cJ6_bitCount_0f7a4 0 = .ok (.iload_n 0, 1) := by decide +kernel
theorem dJ6_bitCount_0f7a4_1 : decode cJ6_bitCount_0f7a4 1 = .ok (.iload_n 0, 1) := by decide +kernel
theorem dJ6_bitCount_0f7a4_2 : decode cJ6_bitCount_0f7a4 2 = .ok (.iconst 1, 1) := by decide +kernel
theorem dJ6_bitCount_0f7a4_3 : decode cJ6_bitCount_0f7a4 3 = .ok (.iushr, 1) := by decide +kernel
theorem dJ6_bitCount_0f7a4_4 : decode cJ6_bitCount_0f7a4 4 = .ok (.ldc_w 265, 3) := by decide +kernel
theorem dJ6_bitCount_0f7a4_7 : decode cJ6_bitCount_0f7a4 7 = .ok (.iand, 1) := by decide +kernel
theorem dJ6_bitCount_0f7a4_8 : decode cJ6_bitCount_0f7a4 8 = .ok (.isub, 1) := by decide +kernel
theorem dJ6_bitCount_0f7a4_9 : decode cJ6_bitCount_0f7a4 9 = .ok (.istore_n 0, 1) := by decide +kernel
theorem dJ6_bitCount_0f7a4_10 : decode cJ6_bitCount_0f7a4 10 = .ok (.iload_n 0, 1) := by decide +kernel
theorem dJ6_bitCount_0f7a4_11 : decode cJ6_bitCount_0f7a4 11 = .ok (.ldc_w 266, 3) := by decide +kernel
theorem dJ6_bitCount_0f7a4_14 : decode cJ6_bitCount_0f7a4 14 = .ok (.iand, 1) := by decide +kernel
theorem dJ6_bitCount_0f7a4_15 : decode cJ6_bitCount_0f7a4 15 = .ok (.iload_n 0, 1) := by decide +kernel
theorem dJ6_bitCount_0f7a4_16 : decode cJ6_bitCount_0f7a4 16 = .ok (.iconst 2, 1) := by decide +kernel
theorem dJ6_bitCount_0f7a4_17 : decode cJ6_bitCount_0f7a4 17 = .ok (.iushr, 1) := by decide +kernel
theorem dJ6_bitCount_0f7a4_18 : decode cJ6_bitCount_0f7a4 18 = .ok (.ldc_w 266, 3) := by decide +kernel
theorem dJ6_bitCount_0f7a4_21 : decode cJ6_bitCount_0f7a4 21 = .ok (.iand, 1) := by decide +kernel
theorem dJ6_bitCount_0f7a4_22 : decode cJ6_bitCount_0f7a4 22 = .ok (.iadd, 1) := by decide +kernel
theorem dJ6_bitCount_0f7a4_23 : decode cJ6_bitCount_0f7a4 23 = .ok (.istore_n 0, 1) := by decide +kernel
theorem dJ6_bitCount_0f7a4_24 : decode cJ6_bitCount_0f7a4 24 = .ok (.iload_n 0, 1) := by decide +kernel
theorem dJ6_bitCount_0f7a4_25 : decode cJ6_bitCount_0f7a4 25 = .ok (.iload_n 0, 1) := by decide +kernel
theorem dJ6_bitCount_0f7a4_26 : decode cJ6_bitCount_0f7a4 26 = .ok (.iconst 4, 1) := by decide +kernel
theorem dJ6_bitCount_0f7a4_27 : decode cJ6_bitCount_0f7a4 27 = .ok (.iushr, 1) := by decide +kernel
theorem dJ6_bitCount_0f7a4_28 : decode cJ6_bitCount_0f7a4 28 = .ok (.iadd, 1) := by decide +kernel
theorem dJ6_bitCount_0f7a4_29 : decode cJ6_bitCount_0f7a4 29 = .ok (.ldc_w 267, 3) := by decide +kernel
theorem dJ6_bitCount_0f7a4_32 : decode cJ6_bitCount_0f7a4 32 = .ok (.iand, 1) := by decide +kernel
theorem dJ6_bitCount_0f7a4_33 : decode cJ6_bitCount_0f7a4 33 = .ok (.istore_n 0, 1) := by decide +kernel
theorem dJ6_bitCount_0f7a4_34 : decode cJ6_bitCount_0f7a4 34 = .ok (.iload_n 0, 1) := by decide +kernel
theorem dJ6_bitCount_0f7a4_35 : decode cJ6_bitCount_0f7a4 35 = .ok (.iload_n 0, 1) := by decide +kernel
theorem dJ6_bitCount_0f7a4_36 : decode cJ6_bitCount_0f7a4 36 = .ok (.bipush 8, 2) := by decide +kernel
theorem dJ6_bitCount_0f7a4_38 : decode cJ6_bitCount_0f7a4 38 = .ok (.iushr, 1) := by decide +kernel
theorem dJ6_bitCount_0f7a4_39 : decode cJ6_bitCount_0f7a4 39 = .ok (.iadd, 1) := by decide +kernel
theorem dJ6_bitCount_0f7a4_40 : decode cJ6_bitCount_0f7a4 40 = .ok (.istore_n 0, 1) := by decide +kernel
theorem dJ6_bitCount_0f7a4_41 : decode cJ6_bitCount_0f7a4 41 = .ok (.iload_n 0, 1) := by decide +kernel
theorem dJ6_bitCount_0f7a4_42 : decode cJ6_bitCount_0f7a4 42 = .ok (.iload_n 0, 1) := by decide +kernel
theorem dJ6_bitCount_0f7a4_43 : decode cJ6_bitCount_0f7a4 43 = .ok (.bipush 16, 2) := by decide +kernel
theorem dJ6_bitCount_0f7a4_45 : decode cJ6_bitCount_0f7a4 45 = .ok (.iushr, 1) := by decide +kernel
theorem dJ6_bitCount_0f7a4_46 : decode cJ6_bitCount_0f7a4 46 = .ok (.iadd, 1) := by decide +kernel
theorem dJ6_bitCount_0f7a4_47 : decode cJ6_bitCount_0f7a4 47 = .ok (.istore_n 0, 1) := by decide +kernel
theorem dJ6_bitCount_0f7a4_48 : decode cJ6_bitCount_0f7a4 48 = .ok (.iload_n 0, 1) := by decide +kernel
theorem dJ6_bitCount_0f7a4_49 : decode cJ6_bitCount_0f7a4 49 = .ok (.bipush 63, 2) := by decide +kernel
theorem dJ6_bitCount_0f7a4_51 : decode cJ6_bitCount_0f7a4 51 = .ok (.iand, 1) := by decide +kernel
theorem dJ6_bitCount_0f7a4_52 : decode cJ6_bitCount_0f7a4 52 = .ok (.ireturn, 1) := by decide +kernel
theorem dJ9_max_7cf53_0 : decode cJ9_max_7cf53 0 = .ok (.iload_n 0, 1) := by decide +kernel
theorem dJ9_max_7cf53_1 : decode cJ9_max_7cf53 1 = .ok (.iload_n 1, 1) := by decide +kernel
theorem dJ9_max_7cf53_2 : decode cJ9_max_7cf53 2 = .ok (.if_icmp .lt 7, 3) := by decide +kernel
theorem dJ9_max_7cf53_5 : decode cJ9_max_7cf53 5 = .ok (.iload_n 0, 1) := by decide +kernel
theorem dJ9_max_7cf53_6 : decode cJ9_max_7cf53 6 = .ok (.goto 4, 3) := by decide +kernel
theorem dJ9_max_7cf53_9 : decode cJ9_max_7cf53 9 = .ok (.iload_n 1, 1) := by decide +kernel
theorem dJ9_max_7cf53_10 : decode cJ9_max_7cf53 10 = .ok (.ireturn, 1) := by decide +kernel
theorem dJ9_min_7cf53_0 : decode cJ9_min_7cf53 0 = .ok (.iload_n 0, 1) := by decide +kernel
theorem dJ9_min_7cf53_1 : decode cJ9_min_7cf53 1 = .ok (.iload_n 1, 1) := by decide +kernel
theorem dJ9_min_7cf53_2 : decode cJ9_min_7cf53 2 = .ok (.if_icmp .gt 7, 3) := by decide +kernel
theorem dJ9_min_7cf53_5 : decode cJ9_min_7cf53 5 = .ok (.iload_n 0, 1) := by decide +kernel
theorem dJ9_min_7cf53_6 : decode cJ9_min_7cf53 6 = .ok (.goto 4, 3) := by decide +kernel
theorem dJ9_min_7cf53_9 : decode cJ9_min_7cf53 9 = .ok (.iload_n 1, 1) := by decide +kernel
theorem dJ9_min_7cf53_10 : decode cJ9_min_7cf53 10 = .ok (.ireturn, 1) := by decide +kernel
set_option maxRecDepth 20000 in
theorem ggJ0_length_8abf5_J0_coder_7d493 : GoodIn wsJ0_length_8abf5 wsJ0_coder_7d493 := goodIn_r _ [6, 7, 8] (by decide +kernel) (by decide +kernel)
set_option maxRecDepth 20000 in
theorem gJ0_length_8abf5_J0_coder_7d493 : GoodIn wsJ0_length_8abf5 (wsV RJ0 335 RJ0 yJ0_coder_7d493 wsJ0_coder_7d493) := goodIn_app (goodIn_of _ (by decide +kernel)) ggJ0_length_8abf5_J0_coder_7d493
theorem dJ0_length_8abf5_0 : decode cJ0_length_8abf5 0 = .ok (.aload_n 0, 1) := by decide +kernel
theorem dJ0_length_8abf5_1 : decode cJ0_length_8abf5 1 = .ok (.getfield 9, 3) := by decide +kernel
theorem dJ0_length_8abf5_4 : decode cJ0_length_8abf5 4 = .ok (.arraylength, 1) := by decide +kernel
theorem dJ0_length_8abf5_5 : decode cJ0_length_8abf5 5 = .ok (.aload_n 0, 1) := by decide +kernel
theorem dJ0_length_8abf5_6 : decode cJ0_length_8abf5 6 = .ok (.invokevirtual 335, 3) := by decide +kernel
theorem dJ0_length_8abf5_9 : decode cJ0_length_8abf5 9 = .ok (.ishr, 1) := by decide +kernel
theorem dJ0_length_8abf5_10 : decode cJ0_length_8abf5 10 = .ok (.ireturn, 1) := by decide +kernel
set_option maxRecDepth 20000 in
theorem ggJ0_charAt_5068e_J0_isLatin1_aae02 : GoodIn wsJ0_charAt_5068e wsJ0_isLatin1_aae02 := goodIn_r _ [6, 7, 8] (by decide +kernel) (by decide +kernel)
set_option maxRecDepth 20000 in
theorem gJ0_charAt_5068e_J0_isLatin1_aae02 : GoodIn wsJ0_charAt_5068e (wsV RJ0 492 RJ0 yJ0_isLatin1_aae02 wsJ0_isLatin1_aae02) := goodIn_app (goodIn_of _ (by decide +kernel)) ggJ0_charAt_5068e_J0_isLatin1_aae02
set_option maxRecDepth 20000 in
theorem ggJ0_charAt_5068e_J1_charAt_3b067 : GoodIn wsJ0_charAt_5068e wsJ1_charAt_3b067 := goodIn_r _ [12, 13, 14, 5, 15, 16, 17, 18, 19, 20] (by decide +kernel) (by decide +kernel)
set_option maxRecDepth 20000 in
theorem gJ0_charAt_5068e_J1_charAt_3b067 : GoodIn wsJ0_charAt_5068e (va_wsS RJ0 495 yJ1_charAt_3b067 wsJ1_charAt_3b067) := goodIn_app (goodIn_of _ (by decide +kernel)) ggJ0_charAt_5068e_J1_charAt_3b067
set_option maxRecDepth 20000 in
theorem ggJ0_charAt_5068e_J2_charAt_3b067 : GoodIn wsJ0_charAt_5068e wsJ2_charAt_3b067 := goodIn_r _ [24, 25, 26, 23, 27, 28, 29, 30, 31, 14, 5, 15, 16, 17, 18, 19, 20, 32, 33, 34, 35, 36, 37] (by decide +kernel) (by decide +kernel)
set_option maxRecDepth 20000 in
theorem gJ0_charAt_5068e_J2_charAt_3b067 : GoodIn wsJ0_charAt_5068e (va_wsS RJ0 498 yJ2_charAt_3b067 wsJ2_charAt_3b067) := goodIn_app (goodIn_of _ (by decide +kernel)) ggJ0_charAt_5068e_J2_charAt_3b067
theorem dJ0_charAt_5068e_0 : decode cJ0_charAt_5068e 0 = .ok (.aload_n 0, 1) := by decide +kernel
theorem dJ0_charAt_5068e_1 : decode cJ0_charAt_5068e 1 = .ok (.invokevirtual 492, 3) := by decide +kernel
theorem dJ0_charAt_5068e_4 : decode cJ0_charAt_5068e 4 = .ok (.ifCond .eq 12, 3) := by decide +kernel
theorem dJ0_charAt_5068e_7 : decode cJ0_charAt_5068e 7 = .ok (.aload_n 0, 1) := by decide +kernel
theorem dJ0_charAt_5068e_8 : decode cJ0_charAt_5068e 8 = .ok (.getfield 9, 3) := by decide +kernel
theorem dJ0_charAt_5068e_11 : decode cJ0_charAt_5068e 11 = .ok (.iload_n 1, 1) := by decide +kernel
theorem dJ0_charAt_5068e_12 : decode cJ0_charAt_5068e 12 = .ok (.invokestatic 495, 3) := by decide +kernel
theorem dJ0_charAt_5068e_15 : decode cJ0_charAt_5068e 15 = .ok (.ireturn, 1) := by decide +kernel
theorem dJ0_charAt_5068e_16 : decode cJ0_charAt_5068e 16 = .ok (.aload_n 0, 1) := by decide +kernel
theorem dJ0_charAt_5068e_17 : decode cJ0_charAt_5068e 17 = .ok (.getfield 9, 3) := by decide +kernel
theorem dJ0_charAt_5068e_20 : decode cJ0_charAt_5068e 20 = .ok (.iload_n 1, 1) := by decide +kernel
theorem dJ0_charAt_5068e_21 : decode cJ0_charAt_5068e 21 = .ok (.invokestatic 498, 3) := by decide +kernel
theorem dJ0_charAt_5068e_24 : decode cJ0_charAt_5068e 24 = .ok (.ireturn, 1) := by decide +kernel
theorem dJ0_coder_7d493_0 : decode cJ0_coder_7d493 0 = .ok (.getstatic 38, 3) := by decide +kernel
theorem dJ0_coder_7d493_3 : decode cJ0_coder_7d493 3 = .ok (.ifCond .eq 10, 3) := by decide +kernel
theorem dJ0_coder_7d493_6 : decode cJ0_coder_7d493 6 = .ok (.aload_n 0, 1) := by decide +kernel
theorem dJ0_coder_7d493_7 : decode cJ0_coder_7d493 7 = .ok (.getfield 15, 3) := by decide +kernel
theorem dJ0_coder_7d493_10 : decode cJ0_coder_7d493 10 = .ok (.goto 4, 3) := by decide +kernel
theorem dJ0_coder_7d493_13 : decode cJ0_coder_7d493 13 = .ok (.iconst 1, 1) := by decide +kernel
theorem dJ0_coder_7d493_14 : decode cJ0_coder_7d493 14 = .ok (.ireturn, 1) := by decide +kernel
theorem dJ0_isLatin1_aae02_0 : decode cJ0_isLatin1_aae02 0 = .ok (.getstatic 38, 3) := by decide +kernel
theorem dJ0_isLatin1_aae02_3 : decode cJ0_isLatin1_aae02 3 = .ok (.ifCond .eq 14, 3) := by decide +kernel
theorem dJ0_isLatin1_aae02_6 : decode cJ0_isLatin1_aae02 6 = .ok (.aload_n 0, 1) := by decide +kernel
theorem dJ0_isLatin1_aae02_7 : decode cJ0_isLatin1_aae02 7 = .ok (.getfield 15, 3) := by decide +kernel
theorem dJ0_isLatin1_aae02_10 : decode cJ0_isLatin1_aae02 10 = .ok (.ifCond .ne 7, 3) := by decide +kernel
theorem dJ0_isLatin1_aae02_13 : decode cJ0_isLatin1_aae02 13 = .ok (.iconst 1, 1) := by decide +kernel
theorem dJ0_isLatin1_aae02_14 : decode cJ0_isLatin1_aae02 14 = .ok (.goto 4, 3) := by decide +kernel
theorem dJ0_isLatin1_aae02_17 : decode cJ0_isLatin1_aae02 17 = .ok (.iconst 0, 1) := by decide +kernel
theorem dJ0_isLatin1_aae02_18 : decode cJ0_isLatin1_aae02 18 = .ok (.ireturn, 1) := by decide +kernel
set_option maxRecDepth 20000 in
theorem ggJ0_checkIndex_df160_J3_checkIndex_8e157 : GoodIn wsJ0_checkIndex_df160 wsJ3_checkIndex_8e157 := goodIn_r _ [5] (by decide +kernel) (by decide +kernel)
set_option maxRecDepth 20000 in
theorem gJ0_checkIndex_df160_J3_checkIndex_8e157 : GoodIn wsJ0_checkIndex_df160 (va_wsS RJ0 1059 yJ3_checkIndex_8e157 wsJ3_checkIndex_8e157) := goodIn_app (goodIn_of _ (by decide +kernel)) ggJ0_checkIndex_df160_J3_checkIndex_8e157
theorem dJ0_checkIndex_df160_0 : decode cJ0_checkIndex_df160 0 = .ok (.iload_n 0, 1) := by decide +kernel
theorem dJ0_checkIndex_df160_1 : decode cJ0_checkIndex_df160 1 = .ok (.iload_n 1, 1) := by decide +kernel
theorem dJ0_checkIndex_df160_2 : decode cJ0_checkIndex_df160 2 = .ok (.getstatic 1053, 3) := by decide +kernel
theorem dJ0_checkIndex_df160_5 : decode cJ0_checkIndex_df160 5 = .ok (.invokestatic 1059, 3) := by decide +kernel
theorem dJ0_checkIndex_df160_8 : decode cJ0_checkIndex_df160 8 = .ok (.pop, 1) := by decide +kernel
theorem dJ0_checkIndex_df160_9 : decode cJ0_checkIndex_df160 9 = .ok (.return_, 1) := by decide +kernel
set_option maxRecDepth 20000 in
theorem ggJ1_charAt_3b067_J0_checkIndex_df160 : GoodIn wsJ1_charAt_3b067 wsJ0_checkIndex_df160 := goodIn_r _ [4, 5, 6, 7, 8, 9] (by decide +kernel) (by decide +kernel)
set_option maxRecDepth 20000 in
theorem gJ1_charAt_3b067_J0_checkIndex_df160 : GoodIn wsJ1_charAt_3b067 (va_wsS RJ1 9 yJ0_checkIndex_df160 wsJ0_checkIndex_df160) := goodIn_app (goodIn_of _ (by decide +kernel)) ggJ1_charAt_3b067_J0_checkIndex_df160
theorem dJ1_charAt_3b067_0 : decode cJ1_charAt_3b067 0 = .ok (.iload_n 1, 1) := by decide +kernel
theorem dJ1_charAt_3b067_1 : decode cJ1_charAt_3b067 1 = .ok (.aload_n 0, 1) := by decide +kernel
theorem dJ1_charAt_3b067_2 : decode cJ1_charAt_3b067 2 = .ok (.arraylength, 1) := by decide +kernel
theorem dJ1_charAt_3b067_3 : decode cJ1_charAt_3b067 3 = .ok (.invokestatic 9, 3) := by decide +kernel
theorem dJ1_charAt_3b067_6 : decode cJ1_charAt_3b067 6 = .ok (.aload_n 0, 1) := by decide +kernel
theorem dJ1_charAt_3b067_7 : decode cJ1_charAt_3b067 7 = .ok (.iload_n 1, 1) := by decide +kernel
theorem dJ1_charAt_3b067_8 : decode cJ1_charAt_3b067 8 = .ok (.baload, 1) := by decide +kernel
theorem dJ1_charAt_3b067_9 : decode cJ1_charAt_3b067 9 = .ok (.sipush 255, 3) := by decide +kernel
theorem dJ1_charAt_3b067_12 : decode cJ1_charAt_3b067 12 = .ok (.iand, 1) := by decide +kernel
theorem dJ1_charAt_3b067_13 : decode cJ1_charAt_3b067 13 = .ok (.i2c, 1) := by decide +kernel
theorem dJ1_charAt_3b067_14 : decode cJ1_charAt_3b067 14 = .ok (.ireturn, 1) := by decide +kernel
set_option maxRecDepth 20000 in
theorem ggJ2_getChar_3b067_J2_length_9d52b : GoodIn wsJ2_getChar_3b067 wsJ2_length_9d52b := goodIn_r _ [7] (by decide +kernel) (by decide +kernel)
set_option maxRecDepth 20000 in
theorem gJ2_getChar_3b067_J2_length_9d52b : GoodIn wsJ2_getChar_3b067 (va_wsS RJ2 48 yJ2_length_9d52b wsJ2_length_9d52b) := goodIn_app (goodIn_of _ (by decide +kernel)) ggJ2_getChar_3b067_J2_length_9d52b
theorem dJ2_getChar_3b067_0 : decode cJ2_getChar_3b067 0 = .ok (.getstatic 44, 3) := by decide +kernel
theorem dJ2_getChar_3b067_3 : decode cJ2_getChar_3b067 3 = .ok (.ifCond .ne 25, 3) := by decide +kernel
theorem dJ2_getChar_3b067_6 : decode cJ2_getChar_3b067 6 = .ok (.iload_n 1, 1) := by decide +kernel
theorem dJ2_getChar_3b067_7 : decode cJ2_getChar_3b067 7 = .ok (.ifCond .lt 11, 3) := by decide +kernel
theorem dJ2_getChar_3b067_10 : decode cJ2_getChar_3b067 10 = .ok (.iload_n 1, 1) := by decide +kernel
theorem dJ2_getChar_3b067_11 : decode cJ2_getChar_3b067 11 = .ok (.aload_n 0, 1) := by decide +kernel
theorem dJ2_getChar_3b067_12 : decode cJ2_getChar_3b067 12 = .ok (.invokestatic 48, 3) := by decide +kernel
theorem dJ2_getChar_3b067_15 : decode cJ2_getChar_3b067 15 = .ok (.if_icmp .lt 13, 3) := by decide +kernel
theorem dJ2_getChar_3b067_18 : decode cJ2_getChar_3b067 18 = .ok (.new 52, 3) := by decide +kernel
theorem dJ2_getChar_3b067_21 : decode cJ2_getChar_3b067 21 = .ok (.dup, 1) := by decide +kernel
theorem dJ2_getChar_3b067_22 : decode cJ2_getChar_3b067 22 = .ok (.ldc 54, 2) := by decide +kernel
theorem dJ2_getChar_3b067_24 : decode cJ2_getChar_3b067 24 = .ok (.invokespecial 56, 3) := by decide +kernel
theorem dJ2_getChar_3b067_27 : decode cJ2_getChar_3b067 27 = .ok (.athrow, 1) := by decide +kernel
theorem dJ2_getChar_3b067_28 : decode cJ2_getChar_3b067 28 = .ok (.iload_n 1, 1) := by decide +kernel
theorem dJ2_getChar_3b067_29 : decode cJ2_getChar_3b067 29 = .ok (.iconst 1, 1) := by decide +kernel
theorem dJ2_getChar_3b067_30 : decode cJ2_getChar_3b067 30 = .ok (.ishl, 1) := by decide +kernel
theorem dJ2_getChar_3b067_31 : decode cJ2_getChar_3b067 31 = .ok (.istore_n 1, 1) := by decide +kernel
theorem dJ2_getChar_3b067_32 : decode cJ2_getChar_3b067 32 = .ok (.aload_n 0, 1) := by decide +kernel
theorem dJ2_getChar_3b067_33 : decode cJ2_getChar_3b067 33 = .ok (.iload_n 1, 1) := by decide +kernel
theorem dJ2_getChar_3b067_34 : decode cJ2_getChar_3b067 34 = .ok (.iinc 1 1, 3) := by decide +kernel
theorem dJ2_getChar_3b067_37 : decode cJ2_getChar_3b067 37 = .ok (.baload, 1) := by decide +kernel
theorem dJ2_getChar_3b067_38 : decode cJ2_getChar_3b067 38 = .ok (.sipush 255, 3) := by decide +kernel
theorem dJ2_getChar_3b067_41 : decode cJ2_getChar_3b067 41 = .ok (.iand, 1) := by decide +kernel
theorem dJ2_getChar_3b067_42 : decode cJ2_getChar_3b067 42 = .ok (.getstatic 59, 3) := by decide +kernel
theorem dJ2_getChar_3b067_45 : decode cJ2_getChar_3b067 45 = .ok (.ishl, 1) := by decide +kernel
theorem dJ2_getChar_3b067_46 : decode cJ2_getChar_3b067 46 = .ok (.aload_n 0, 1) := by decide +kernel
theorem dJ2_getChar_3b067_47 : decode cJ2_getChar_3b067 47 = .ok (.iload_n 1, 1) := by decide +kernel
theorem dJ2_getChar_3b067_48 : decode cJ2_getChar_3b067 48 = .ok (.baload, 1) := by decide +kernel
theorem dJ2_getChar_3b067_49 : decode cJ2_getChar_3b067 49 = .ok (.sipush 255, 3) := by decide +kernel
theorem dJ2_getChar_3b067_52 : decode cJ2_getChar_3b067 52 = .ok (.iand, 1) := by decide +kernel
theorem dJ2_getChar_3b067_53 : decode cJ2_getChar_3b067 53 = .ok (.getstatic 63, 3) := by decide +kernel
theorem dJ2_getChar_3b067_56 : decode cJ2_getChar_3b067 56 = .ok (.ishl, 1) := by decide +kernel
theorem dJ2_getChar_3b067_57 : decode cJ2_getChar_3b067 57 = .ok (.ior, 1) := by decide +kernel
theorem dJ2_getChar_3b067_58 : decode cJ2_getChar_3b067 58 = .ok (.i2c, 1) := by decide +kernel
theorem dJ2_getChar_3b067_59 : decode cJ2_getChar_3b067 59 = .ok (.ireturn, 1) := by decide +kernel
theorem dJ2_length_9d52b_0 : decode cJ2_length_9d52b 0 = .ok (.aload_n 0, 1) := by decide +kernel
theorem dJ2_length_9d52b_1 : decode cJ2_length_9d52b 1 = .ok (.arraylength, 1) := by decide +kernel
theorem dJ2_length_9d52b_2 : decode cJ2_length_9d52b 2 = .ok (.iconst 1, 1) := by decide +kernel
theorem dJ2_length_9d52b_3 : decode cJ2_length_9d52b 3 = .ok (.ishr, 1) := by decide +kernel
theorem dJ2_length_9d52b_4 : decode cJ2_length_9d52b 4 = .ok (.ireturn, 1) := by decide +kernel
set_option maxRecDepth 20000 in
theorem ggJ2_charAt_3b067_J2_checkIndex_2214a : GoodIn wsJ2_charAt_3b067 wsJ2_checkIndex_2214a := goodIn_r _ [4, 5, 6, 3, 7, 8, 9, 10, 11, 12, 13, 14, 15, 16] (by decide +kernel) (by decide +kernel)
set_option maxRecDepth 20000 in
theorem gJ2_charAt_3b067_J2_checkIndex_2214a : GoodIn wsJ2_charAt_3b067 (va_wsS RJ2 67 yJ2_checkIndex_2214a wsJ2_checkIndex_2214a) := goodIn_app (goodIn_of _ (by decide +kernel)) ggJ2_charAt_3b067_J2_checkIndex_2214a
set_option maxRecDepth 20000 in
theorem ggJ2_charAt_3b067_J2_getChar_3b067 : GoodIn wsJ2_charAt_3b067 wsJ2_getChar_3b067 := goodIn_r _ [19, 20, 21, 22, 5, 6, 3, 7] (by decide +kernel) (by decide +kernel)
set_option maxRecDepth 20000 in
theorem gJ2_charAt_3b067_J2_getChar_3b067 : GoodIn wsJ2_charAt_3b067 (va_wsS RJ2 71 yJ2_getChar_3b067 wsJ2_getChar_3b067) := goodIn_app (goodIn_of _ (by decide +kernel)) ggJ2_charAt_3b067_J2_getChar_3b067
theorem dJ2_charAt_3b067_0 : decode cJ2_charAt_3b067 0 = .ok (.iload_n 1, 1) := by decide +kernel
theorem dJ2_charAt_3b067_1 : decode cJ2_charAt_3b067 1 = .ok (.aload_n 0, 1) := by decide +kernel
theorem dJ2_charAt_3b067_2 : decode cJ2_charAt_3b067 2 = .ok (.invokestatic 67, 3) := by decide +kernel
theorem dJ2_charAt_3b067_5 : decode cJ2_charAt_3b067 5 = .ok (.aload_n 0, 1) := by decide +kernel
theorem dJ2_charAt_3b067_6 : decode cJ2_charAt_3b067 6 = .ok (.iload_n 1, 1) := by decide +kernel
theorem dJ2_charAt_3b067_7 : decode cJ2_charAt_3b067 7 = .ok (.invokestatic 71, 3) := by decide +kernel
theorem dJ2_charAt_3b067_10 : decode cJ2_charAt_3b067 10 = .ok (.ireturn, 1) := by decide +kernel
set_option maxRecDepth 20000 in
theorem ggJ2_checkIndex_2214a_J2_length_9d52b : GoodIn wsJ2_checkIndex_2214a wsJ2_length_9d52b := goodIn_r _ [4] (by decide +kernel) (by decide +kernel)
set_option maxRecDepth 20000 in
theorem gJ2_checkIndex_2214a_J2_length_9d52b : GoodIn wsJ2_checkIndex_2214a (va_wsS RJ2 48 yJ2_length_9d52b wsJ2_length_9d52b) := goodIn_app (goodIn_of _ (by decide +kernel)) ggJ2_checkIndex_2214a_J2_length_9d52b
set_option maxRecDepth 20000 in
theorem ggJ2_checkIndex_2214a_J0_checkIndex_df160 : GoodIn wsJ2_checkIndex_2214a wsJ0_checkIndex_df160 := goodIn_r _ [8, 9, 10, 11, 12, 13] (by decide +kernel) (by decide +kernel)
set_option maxRecDepth 20000 in
theorem gJ2_checkIndex_2214a_J0_checkIndex_df160 : GoodIn wsJ2_checkIndex_2214a (va_wsS RJ2 414 yJ0_checkIndex_df160 wsJ0_checkIndex_df160) := goodIn_app (goodIn_of _ (by decide +kernel)) ggJ2_checkIndex_2214a_J0_checkIndex_df160
theorem dJ2_checkIndex_2214a_0 : decode cJ2_checkIndex_2214a 0 = .ok (.iload_n 0, 1) := by decide +kernel
theorem dJ2_checkIndex_2214a_1 : decode cJ2_checkIndex_2214a 1 = .ok (.aload_n 1, 1) := by decide +kernel
theorem dJ2_checkIndex_2214a_2 : decode cJ2_checkIndex_2214a 2 = .ok (.invokestatic 48, 3) := by decide +kernel
theorem dJ2_checkIndex_2214a_5 : decode cJ2_checkIndex_2214a 5 = .ok (.invokestatic 414, 3) := by decide +kernel
theorem dJ2_checkIndex_2214a_8 : decode cJ2_checkIndex_2214a 8 = .ok (.return_, 1) := by decide +kernel
theorem dJ7_fill_53178_0 : decode cJ7_fill_53178 0 = .ok (.iconst 0, 1) := by decide +kernel
theorem dJ7_fill_53178_1 : decode cJ7_fill_53178 1 = .ok (.istore_n 2, 1) := by decide +kernel
theorem dJ7_fill_53178_2 : decode cJ7_fill_53178 2 = .ok (.aload_n 0, 1) := by decide +kernel
theorem dJ7_fill_53178_3 : decode cJ7_fill_53178 3 = .ok (.arraylength, 1) := by decide +kernel
theorem dJ7_fill_53178_4 : decode cJ7_fill_53178 4 = .ok (.istore_n 3, 1) := by decide +kernel
theorem dJ7_fill_53178_5 : decode cJ7_fill_53178 5 = .ok (.iload_n 2, 1) := by decide +kernel
theorem dJ7_fill_53178_6 : decode cJ7_fill_53178 6 = .ok (.iload_n 3, 1) := by decide +kernel
theorem dJ7_fill_53178_7 : decode cJ7_fill_53178 7 = .ok (.if_icmp .ge 13, 3) := by decide +kernel
theorem dJ7_fill_53178_10 : decode cJ7_fill_53178 10 = .ok (.aload_n 0, 1) := by decide +kernel
theorem dJ7_fill_53178_11 : decode cJ7_fill_53178 11 = .ok (.iload_n 2, 1) := by decide +kernel
theorem dJ7_fill_53178_12 : decode cJ7_fill_53178 12 = .ok (.iload_n 1, 1) := by decide +kernel
theorem dJ7_fill_53178_13 : decode cJ7_fill_53178 13 = .ok (.iastore, 1) := by decide +kernel
theorem dJ7_fill_53178_14 : decode cJ7_fill_53178 14 = .ok (.iinc 2 1, 3) := by decide +kernel
theorem dJ7_fill_53178_17 : decode cJ7_fill_53178 17 = .ok (.goto (-12), 3) := by decide +kernel
theorem dJ7_fill_53178_20 : decode cJ7_fill_53178 20 = .ok (.return_, 1) := by decide +kernel
theorem dJ3_checkIndex_8e157_0 : decode cJ3_checkIndex_8e157 0 = .ok (.iload_n 0, 1) := by decide +kernel
theorem dJ3_checkIndex_8e157_1 : decode cJ3_checkIndex_8e157 1 = .ok (.ifCond .lt 8, 3) := by decide +kernel
theorem dJ3_checkIndex_8e157_4 : decode cJ3_checkIndex_8e157 4 = .ok (.iload_n 0, 1) := by decide +kernel
theorem dJ3_checkIndex_8e157_5 : decode cJ3_checkIndex_8e157 5 = .ok (.iload_n 1, 1) := by decide +kernel
theorem dJ3_checkIndex_8e157_6 : decode cJ3_checkIndex_8e157 6 = .ok (.if_icmp .lt 10, 3) := by decide +kernel
theorem dJ3_checkIndex_8e157_9 : decode cJ3_checkIndex_8e157 9 = .ok (.aload_n 2, 1) := by decide +kernel
theorem dJ3_checkIndex_8e157_10 : decode cJ3_checkIndex_8e157 10 = .ok (.iload_n 0, 1) := by decide +kernel
theorem dJ3_checkIndex_8e157_11 : decode cJ3_checkIndex_8e157 11 = .ok (.iload_n 1, 1) := by decide +kernel
theorem dJ3_checkIndex_8e157_12 : decode cJ3_checkIndex_8e157 12 = .ok (.invokestatic 95, 3) := by decide +kernel
theorem dJ3_checkIndex_8e157_15 : decode cJ3_checkIndex_8e157 15 = .ok (.athrow, 1) := by decide +kernel
theorem dJ3_checkIndex_8e157_16 : decode cJ3_checkIndex_8e157 16 = .ok (.iload_n 0, 1) := by decide +kernel
theorem dJ3_checkIndex_8e157_17 : decode cJ3_checkIndex_8e157 17 = .ok (.ireturn, 1) := by decide +kernel
