theorem dX5_takeClause_34 : decode cX5_takeClause 34 = .ok (.bipush 11, 2) := by decide +kernel
theorem dX5_takeClause_36 : decode cX5_takeClause 36 = .ok (.putfield 118, 3) := by decide +kernel
theorem dX5_takeClause_39 : decode cX5_takeClause 39 = .ok (.aload_n 0, 1) := by decide +kernel
theorem dX5_takeClause_40 : decode cX5_takeClause 40 = .ok (.iconst 2, 1) := by decide +kernel
theorem dX5_takeClause_41 : decode cX5_takeClause 41 = .ok (.putfield 50, 3) := by decide +kernel
theorem dX5_takeClause_44 : decode cX5_takeClause 44 = .ok (.goto 12, 3) := by decide +kernel
theorem dX5_takeClause_47 : decode cX5_takeClause 47 = .ok (.aload_n 0, 1) := by decide +kernel
theorem dX5_takeClause_48 : decode cX5_takeClause 48 = .ok (.iconst 0, 1) := by decide +kernel
theorem dX5_takeClause_49 : decode cX5_takeClause 49 = .ok (.putfield 40, 3) := by decide +kernel
theorem dX5_takeClause_52 : decode cX5_takeClause 52 = .ok (.aload_n 0, 1) := by decide +kernel
theorem dX5_takeClause_53 : decode cX5_takeClause 53 = .ok (.invokevirtual 131, 3) := by decide +kernel
theorem dX5_takeClause_56 : decode cX5_takeClause 56 = .ok (.return_, 1) := by decide +kernel
set_option maxRecDepth 20000 in
theorem ggX5_takeOpening_X5_stop : GoodIn wsX5_takeOpening wsX5_stop := goodIn_r _ [9, 10, 11, 12, 4, 22, 23, 24, 25, 26, 27, 28, 29, 30, 31, 32, 33, 34, 35, 36, 37, 38] (by decide +kernel) (by decide +kernel)
set_option maxRecDepth 20000 in
theorem gX5_takeOpening_X5_stop : GoodIn wsX5_takeOpening (wsV RX5 149 RX5 yX5_stop wsX5_stop) := goodIn_app (goodIn_of _ (by decide +kernel)) ggX5_takeOpening_X5_stop
set_option maxRecDepth 20000 in
theorem ggX5_takeOpening_X5_push : GoodIn wsX5_takeOpening wsX5_push := goodIn_r _ [16, 17, 18, 2, 19, 20, 21, 22, 23, 24, 25, 26, 27, 28, 29, 30, 31, 32, 33, 34, 35, 36, 37, 38] (by decide +kernel) (by decide +kernel)
set_option maxRecDepth 20000 in
theorem gX5_takeOpening_X5_push : GoodIn wsX5_takeOpening (wsV RX5 153 RX5 yX5_push wsX5_push) := goodIn_app (goodIn_of _ (by decide +kernel)) ggX5_takeOpening_X5_push
theorem dX5_takeOpening_0 : decode cX5_takeOpening 0 = .ok (.aload_n 0, 1) := by decide +kernel
theorem dX5_takeOpening_1 : decode cX5_takeOpening 1 = .ok (.getfield 44, 3) := by decide +kernel
theorem dX5_takeOpening_4 : decode cX5_takeOpening 4 = .ok (.bipush 8, 2) := by decide +kernel
theorem dX5_takeOpening_6 : decode cX5_takeOpening 6 = .ok (.if_icmp .lt 9, 3) := by decide +kernel
theorem dX5_takeOpening_9 : decode cX5_takeOpening 9 = .ok (.aload_n 0, 1) := by decide +kernel
theorem dX5_takeOpening_10 : decode cX5_takeOpening 10 = .ok (.iconst 3, 1) := by decide +kernel
theorem dX5_takeOpening_11 : decode cX5_takeOpening 11 = .ok (.invokevirtual 149, 3) := by decide +kernel
theorem dX5_takeOpening_14 : decode cX5_takeOpening 14 = .ok (.return_, 1) := by decide +kernel
theorem dX5_takeOpening_15 : decode cX5_takeOpening 15 = .ok (.aload_n 0, 1) := by decide +kernel
theorem dX5_takeOpening_16 : decode cX5_takeOpening 16 = .ok (.dup, 1) := by decide +kernel
theorem dX5_takeOpening_17 : decode cX5_takeOpening 17 = .ok (.getfield 44, 3) := by decide +kernel
theorem dX5_takeOpening_20 : decode cX5_takeOpening 20 = .ok (.iconst 1, 1) := by decide +kernel
theorem dX5_takeOpening_21 : decode cX5_takeOpening 21 = .ok (.iadd, 1) := by decide +kernel
theorem dX5_takeOpening_22 : decode cX5_takeOpening 22 = .ok (.putfield 44, 3) := by decide +kernel
theorem dX5_takeOpening_25 : decode cX5_takeOpening 25 = .ok (.aload_n 0, 1) := by decide +kernel
theorem dX5_takeOpening_26 : decode cX5_takeOpening 26 = .ok (.getfield 64, 3) := by decide +kernel
theorem dX5_takeOpening_29 : decode cX5_takeOpening 29 = .ok (.iconst 3, 1) := by decide +kernel
theorem dX5_takeOpening_30 : decode cX5_takeOpening 30 = .ok (.if_icmp .ne 13, 3) := by decide +kernel
theorem dX5_takeOpening_33 : decode cX5_takeOpening 33 = .ok (.aload_n 0, 1) := by decide +kernel
theorem dX5_takeOpening_34 : decode cX5_takeOpening 34 = .ok (.dup, 1) := by decide +kernel
theorem dX5_takeOpening_35 : decode cX5_takeOpening 35 = .ok (.getfield 47, 3) := by decide +kernel
theorem dX5_takeOpening_38 : decode cX5_takeOpening 38 = .ok (.iconst 1, 1) := by decide +kernel
theorem dX5_takeOpening_39 : decode cX5_takeOpening 39 = .ok (.iadd, 1) := by decide +kernel
theorem dX5_takeOpening_40 : decode cX5_takeOpening 40 = .ok (.putfield 47, 3) := by decide +kernel
theorem dX5_takeOpening_43 : decode cX5_takeOpening 43 = .ok (.aload_n 0, 1) := by decide +kernel
theorem dX5_takeOpening_44 : decode cX5_takeOpening 44 = .ok (.invokevirtual 153, 3) := by decide +kernel
theorem dX5_takeOpening_47 : decode cX5_takeOpening 47 = .ok (.aload_n 0, 1) := by decide +kernel
theorem dX5_takeOpening_48 : decode cX5_takeOpening 48 = .ok (.iconst 0, 1) := by decide +kernel
theorem dX5_takeOpening_49 : decode cX5_takeOpening 49 = .ok (.putfield 50, 3) := by decide +kernel
theorem dX5_takeOpening_52 : decode cX5_takeOpening 52 = .ok (.return_, 1) := by decide +kernel
set_option maxRecDepth 20000 in
theorem ggX5_takeUnit_X5_emit : GoodIn wsX5_takeUnit wsX5_emit := goodIn_r _ [9, 10, 11, 12, 13, 14, 22, 23, 24, 25, 26, 27, 28, 29, 30, 31, 32, 33, 34, 35, 36, 37, 38] (by decide +kernel) (by decide +kernel)
set_option maxRecDepth 20000 in
theorem gX5_takeUnit_X5_emit : GoodIn wsX5_takeUnit (wsV RX5 121 RX5 yX5_emit wsX5_emit) := goodIn_app (goodIn_of _ (by decide +kernel)) ggX5_takeUnit_X5_emit
set_option maxRecDepth 20000 in
theorem ggX5_takeUnit_X5_stop : GoodIn wsX5_takeUnit wsX5_stop := goodIn_r _ [18, 19, 20, 21, 3, 22, 23, 24, 25, 26, 27, 28, 29, 30, 31, 32, 33, 34, 35, 36, 37, 38] (by decide +kernel) (by decide +kernel)
set_option maxRecDepth 20000 in
theorem gX5_takeUnit_X5_stop : GoodIn wsX5_takeUnit (wsV RX5 149 RX5 yX5_stop wsX5_stop) := goodIn_app (goodIn_of _ (by decide +kernel)) ggX5_takeUnit_X5_stop
theorem dX5_takeUnit_0 : decode cX5_takeUnit 0 = .ok (.aload_n 0, 1) := by decide +kernel
theorem dX5_takeUnit_1 : decode cX5_takeUnit 1 = .ok (.getfield 64, 3) := by decide +kernel
theorem dX5_takeUnit_4 : decode cX5_takeUnit 4 = .ok (.bipush 7, 2) := by decide +kernel
theorem dX5_takeUnit_6 : decode cX5_takeUnit 6 = .ok (.if_icmp .eq 12, 3) := by decide +kernel
theorem dX5_takeUnit_9 : decode cX5_takeUnit 9 = .ok (.aload_n 0, 1) := by decide +kernel
theorem dX5_takeUnit_10 : decode cX5_takeUnit 10 = .ok (.getfield 64, 3) := by decide +kernel
theorem dX5_takeUnit_13 : decode cX5_takeUnit 13 = .ok (.bipush 8, 2) := by decide +kernel
theorem dX5_takeUnit_15 : decode cX5_takeUnit 15 = .ok (.if_icmp .ne 19, 3) := by decide +kernel
theorem dX5_takeUnit_18 : decode cX5_takeUnit 18 = .ok (.aload_n 0, 1) := by decide +kernel
theorem dX5_takeUnit_19 : decode cX5_takeUnit 19 = .ok (.aload_n 0, 1) := by decide +kernel
theorem dX5_takeUnit_20 : decode cX5_takeUnit 20 = .ok (.getfield 64, 3) := by decide +kernel
theorem dX5_takeUnit_23 : decode cX5_takeUnit 23 = .ok (.putfield 118, 3) := by decide +kernel
theorem dX5_takeUnit_26 : decode cX5_takeUnit 26 = .ok (.aload_n 0, 1) := by decide +kernel
theorem dX5_takeUnit_27 : decode cX5_takeUnit 27 = .ok (.iconst 3, 1) := by decide +kernel
theorem dX5_takeUnit_28 : decode cX5_takeUnit 28 = .ok (.putfield 50, 3) := by decide +kernel
theorem dX5_takeUnit_31 : decode cX5_takeUnit 31 = .ok (.goto 55, 3) := by decide +kernel
theorem dX5_takeUnit_34 : decode cX5_takeUnit 34 = .ok (.aload_n 0, 1) := by decide +kernel
theorem dX5_takeUnit_35 : decode cX5_takeUnit 35 = .ok (.getfield 64, 3) := by decide +kernel
theorem dX5_takeUnit_38 : decode cX5_takeUnit 38 = .ok (.bipush 6, 2) := by decide +kernel
theorem dX5_takeUnit_40 : decode cX5_takeUnit 40 = .ok (.if_icmp .eq 21, 3) := by decide +kernel
theorem dX5_takeUnit_43 : decode cX5_takeUnit 43 = .ok (.aload_n 0, 1) := by decide +kernel
theorem dX5_takeUnit_44 : decode cX5_takeUnit 44 = .ok (.getfield 64, 3) := by decide +kernel
theorem dX5_takeUnit_47 : decode cX5_takeUnit 47 = .ok (.bipush 9, 2) := by decide +kernel
theorem dX5_takeUnit_49 : decode cX5_takeUnit 49 = .ok (.if_icmp .eq 12, 3) := by decide +kernel
theorem dX5_takeUnit_52 : decode cX5_takeUnit 52 = .ok (.aload_n 0, 1) := by decide +kernel
theorem dX5_takeUnit_53 : decode cX5_takeUnit 53 = .ok (.getfield 64, 3) := by decide +kernel
theorem dX5_takeUnit_56 : decode cX5_takeUnit 56 = .ok (.bipush 10, 2) := by decide +kernel
theorem dX5_takeUnit_58 : decode cX5_takeUnit 58 = .ok (.if_icmp .ne 23, 3) := by decide +kernel
theorem dX5_takeUnit_61 : decode cX5_takeUnit 61 = .ok (.aload_n 0, 1) := by decide +kernel
theorem dX5_takeUnit_62 : decode cX5_takeUnit 62 = .ok (.aload_n 0, 1) := by decide +kernel
theorem dX5_takeUnit_63 : decode cX5_takeUnit 63 = .ok (.getfield 64, 3) := by decide +kernel
theorem dX5_takeUnit_66 : decode cX5_takeUnit 66 = .ok (.aload_n 0, 1) := by decide +kernel
theorem dX5_takeUnit_67 : decode cX5_takeUnit 67 = .ok (.getfield 115, 3) := by decide +kernel
theorem dX5_takeUnit_70 : decode cX5_takeUnit 70 = .ok (.invokevirtual 121, 3) := by decide +kernel
theorem dX5_takeUnit_73 : decode cX5_takeUnit 73 = .ok (.aload_n 0, 1) := by decide +kernel
theorem dX5_takeUnit_74 : decode cX5_takeUnit 74 = .ok (.iconst 4, 1) := by decide +kernel
theorem dX5_takeUnit_75 : decode cX5_takeUnit 75 = .ok (.putfield 50, 3) := by decide +kernel
theorem dX5_takeUnit_78 : decode cX5_takeUnit 78 = .ok (.goto 8, 3) := by decide +kernel
theorem dX5_takeUnit_81 : decode cX5_takeUnit 81 = .ok (.aload_n 0, 1) := by decide +kernel
theorem dX5_takeUnit_82 : decode cX5_takeUnit 82 = .ok (.iconst 1, 1) := by decide +kernel
theorem dX5_takeUnit_83 : decode cX5_takeUnit 83 = .ok (.invokevirtual 149, 3) := by decide +kernel
theorem dX5_takeUnit_86 : decode cX5_takeUnit 86 = .ok (.return_, 1) := by decide +kernel
set_option maxRecDepth 20000 in
theorem ggX5_takeOwner_X5_stop : GoodIn wsX5_takeOwner wsX5_stop := goodIn_r _ [9, 10, 11, 12, 4, 22, 23, 24, 25, 26, 27, 28, 29, 30, 31, 32, 33, 34, 35, 36, 37, 38] (by decide +kernel) (by decide +kernel)
set_option maxRecDepth 20000 in
theorem gX5_takeOwner_X5_stop : GoodIn wsX5_takeOwner (wsV RX5 149 RX5 yX5_stop wsX5_stop) := goodIn_app (goodIn_of _ (by decide +kernel)) ggX5_takeOwner_X5_stop
set_option maxRecDepth 20000 in
theorem ggX5_takeOwner_X5_emit : GoodIn wsX5_takeOwner wsX5_emit := goodIn_r _ [16, 17, 18, 19, 20, 21, 22, 23, 24, 25, 26, 27, 28, 29, 30, 31, 32, 33, 34, 35, 36, 37, 38] (by decide +kernel) (by decide +kernel)
set_option maxRecDepth 20000 in
theorem gX5_takeOwner_X5_emit : GoodIn wsX5_takeOwner (wsV RX5 121 RX5 yX5_emit wsX5_emit) := goodIn_app (goodIn_of _ (by decide +kernel)) ggX5_takeOwner_X5_emit
theorem dX5_takeOwner_0 : decode cX5_takeOwner 0 = .ok (.aload_n 0, 1) := by decide +kernel
theorem dX5_takeOwner_1 : decode cX5_takeOwner 1 = .ok (.getfield 118, 3) := by decide +kernel
theorem dX5_takeOwner_4 : decode cX5_takeOwner 4 = .ok (.bipush 11, 2) := by decide +kernel
theorem dX5_takeOwner_6 : decode cX5_takeOwner 6 = .ok (.if_icmp .ne 7, 3) := by decide +kernel
theorem dX5_takeOwner_9 : decode cX5_takeOwner 9 = .ok (.iconst 1, 1) := by decide +kernel
theorem dX5_takeOwner_10 : decode cX5_takeOwner 10 = .ok (.goto 4, 3) := by decide +kernel
theorem dX5_takeOwner_13 : decode cX5_takeOwner 13 = .ok (.iconst 0, 1) := by decide +kernel
theorem dX5_takeOwner_14 : decode cX5_takeOwner 14 = .ok (.istore_n 1, 1) := by decide +kernel
theorem dX5_takeOwner_15 : decode cX5_takeOwner 15 = .ok (.aload_n 0, 1) := by decide +kernel
theorem dX5_takeOwner_16 : decode cX5_takeOwner 16 = .ok (.getfield 64, 3) := by decide +kernel
theorem dX5_takeOwner_19 : decode cX5_takeOwner 19 = .ok (.bipush 6, 2) := by decide +kernel
theorem dX5_takeOwner_21 : decode cX5_takeOwner 21 = .ok (.if_icmp .eq 11, 3) := by decide +kernel
theorem dX5_takeOwner_24 : decode cX5_takeOwner 24 = .ok (.aload_n 0, 1) := by decide +kernel
theorem dX5_takeOwner_25 : decode cX5_takeOwner 25 = .ok (.iconst 1, 1) := by decide +kernel
theorem dX5_takeOwner_26 : decode cX5_takeOwner 26 = .ok (.invokevirtual 149, 3) := by decide +kernel
theorem dX5_takeOwner_29 : decode cX5_takeOwner 29 = .ok (.goto 80, 3) := by decide +kernel
theorem dX5_takeOwner_32 : decode cX5_takeOwner 32 = .ok (.aload_n 0, 1) := by decide +kernel
theorem dX5_takeOwner_33 : decode cX5_takeOwner 33 = .ok (.getfield 115, 3) := by decide +kernel
theorem dX5_takeOwner_36 : decode cX5_takeOwner 36 = .ok (.iload_n 1, 1) := by decide +kernel
theorem dX5_takeOwner_37 : decode cX5_takeOwner 37 = .ok (.ifCond .eq 8, 3) := by decide +kernel
theorem dX5_takeOwner_40 : decode cX5_takeOwner 40 = .ok (.bipush 10, 2) := by decide +kernel
theorem dX5_takeOwner_42 : decode cX5_takeOwner 42 = .ok (.goto 5, 3) := by decide +kernel
theorem dX5_takeOwner_45 : decode cX5_takeOwner 45 = .ok (.bipush 6, 2) := by decide +kernel
theorem dX5_takeOwner_47 : decode cX5_takeOwner 47 = .ok (.if_icmp .lt 11, 3) := by decide +kernel
theorem dX5_takeOwner_50 : decode cX5_takeOwner 50 = .ok (.aload_n 0, 1) := by decide +kernel
theorem dX5_takeOwner_51 : decode cX5_takeOwner 51 = .ok (.iconst 2, 1) := by decide +kernel
theorem dX5_takeOwner_52 : decode cX5_takeOwner 52 = .ok (.invokevirtual 149, 3) := by decide +kernel
theorem dX5_takeOwner_55 : decode cX5_takeOwner 55 = .ok (.goto 54, 3) := by decide +kernel
theorem dX5_takeOwner_58 : decode cX5_takeOwner 58 = .ok (.iload_n 1, 1) := by decide +kernel
theorem dX5_takeOwner_59 : decode cX5_takeOwner 59 = .ok (.ifCond .eq 21, 3) := by decide +kernel
theorem dX5_takeOwner_62 : decode cX5_takeOwner 62 = .ok (.aload_n 0, 1) := by decide +kernel
theorem dX5_takeOwner_63 : decode cX5_takeOwner 63 = .ok (.bipush 11, 2) := by decide +kernel
theorem dX5_takeOwner_65 : decode cX5_takeOwner 65 = .ok (.aload_n 0, 1) := by decide +kernel
theorem dX5_takeOwner_66 : decode cX5_takeOwner 66 = .ok (.getfield 115, 3) := by decide +kernel
theorem dX5_takeOwner_69 : decode cX5_takeOwner 69 = .ok (.invokevirtual 121, 3) := by decide +kernel
theorem dX5_takeOwner_72 : decode cX5_takeOwner 72 = .ok (.aload_n 0, 1) := by decide +kernel
theorem dX5_takeOwner_73 : decode cX5_takeOwner 73 = .ok (.iconst 5, 1) := by decide +kernel
theorem dX5_takeOwner_74 : decode cX5_takeOwner 74 = .ok (.putfield 50, 3) := by decide +kernel
theorem dX5_takeOwner_77 : decode cX5_takeOwner 77 = .ok (.goto 32, 3) := by decide +kernel
theorem dX5_takeOwner_80 : decode cX5_takeOwner 80 = .ok (.aload_n 0, 1) := by decide +kernel
theorem dX5_takeOwner_81 : decode cX5_takeOwner 81 = .ok (.aload_n 0, 1) := by decide +kernel
theorem dX5_takeOwner_82 : decode cX5_takeOwner 82 = .ok (.getfield 118, 3) := by decide +kernel
theorem dX5_takeOwner_85 : decode cX5_takeOwner 85 = .ok (.bipush 7, 2) := by decide +kernel
theorem dX5_takeOwner_87 : decode cX5_takeOwner 87 = .ok (.if_icmp .ne 8, 3) := by decide +kernel
theorem dX5_takeOwner_90 : decode cX5_takeOwner 90 = .ok (.bipush 12, 2) := by decide +kernel
theorem dX5_takeOwner_92 : decode cX5_takeOwner 92 = .ok (.goto 5, 3) := by decide +kernel
theorem dX5_takeOwner_95 : decode cX5_takeOwner 95 = .ok (.bipush 13, 2) := by decide +kernel
theorem dX5_takeOwner_97 : decode cX5_takeOwner 97 = .ok (.aload_n 0, 1) := by decide +kernel
theorem dX5_takeOwner_98 : decode cX5_takeOwner 98 = .ok (.getfield 115, 3) := by decide +kernel
theorem dX5_takeOwner_101 : decode cX5_takeOwner 101 = .ok (.invokevirtual 121, 3) := by decide +kernel
theorem dX5_takeOwner_104 : decode cX5_takeOwner 104 = .ok (.aload_n 0, 1) := by decide +kernel
theorem dX5_takeOwner_105 : decode cX5_takeOwner 105 = .ok (.iconst 4, 1) := by decide +kernel
theorem dX5_takeOwner_106 : decode cX5_takeOwner 106 = .ok (.putfield 50, 3) := by decide +kernel
theorem dX5_takeOwner_109 : decode cX5_takeOwner 109 = .ok (.return_, 1) := by decide +kernel
set_option maxRecDepth 20000 in
theorem ggX5_takeBehindUnit_X8_isSum : GoodIn wsX5_takeBehindUnit wsX8_isSum := goodIn_r _ [7] (by decide +kernel) (by decide +kernel)
set_option maxRecDepth 20000 in
theorem gX5_takeBehindUnit_X8_isSum : GoodIn wsX5_takeBehindUnit (va_wsS RX5 125 yX8_isSum wsX8_isSum) := goodIn_app (goodIn_of _ (by decide +kernel)) ggX5_takeBehindUnit_X8_isSum
set_option maxRecDepth 20000 in
theorem ggX5_takeBehindUnit_X8_rank : GoodIn wsX5_takeBehindUnit wsX8_rank := goodIn_r _ [10] (by decide +kernel) (by decide +kernel)
set_option maxRecDepth 20000 in
theorem gX5_takeBehindUnit_X8_rank : GoodIn wsX5_takeBehindUnit (va_wsS RX5 156 yX8_rank wsX8_rank) := goodIn_app (goodIn_of _ (by decide +kernel)) ggX5_takeBehindUnit_X8_rank
set_option maxRecDepth 20000 in
theorem ggX5_takeBehindUnit_X5_release : GoodIn wsX5_takeBehindUnit wsX5_release := goodIn_r _ [15, 16, 17, 18, 19, 20, 21, 8, 9, 6, 10, 22, 23, 24, 14, 25, 26, 27, 42, 43, 44, 45, 46, 47, 48, 49, 50, 51, 52, 53, 54, 55, 56, 57, 58] (by decide +kernel) (by decide +kernel)
set_option maxRecDepth 20000 in
theorem gX5_takeBehindUnit_X5_release : GoodIn wsX5_takeBehindUnit (wsV RX5 159 RX5 yX5_release wsX5_release) := goodIn_app (goodIn_of _ (by decide +kernel)) ggX5_takeBehindUnit_X5_release
set_option maxRecDepth 20000 in
theorem ggX5_takeBehindUnit_X5_push : GoodIn wsX5_takeBehindUnit wsX5_push := goodIn_r _ [31, 16, 17, 1, 19, 20, 21, 42, 43, 44, 45, 46, 47, 48, 49, 50, 51, 52, 53, 54, 55, 56, 57, 58] (by decide +kernel) (by decide +kernel)
set_option maxRecDepth 20000 in
theorem gX5_takeBehindUnit_X5_push : GoodIn wsX5_takeBehindUnit (wsV RX5 153 RX5 yX5_push wsX5_push) := goodIn_app (goodIn_of _ (by decide +kernel)) ggX5_takeBehindUnit_X5_push
set_option maxRecDepth 20000 in
theorem ggX5_takeBehindUnit_X8_isComparison : GoodIn wsX5_takeBehindUnit wsX8_isComparison := goodIn_r _ [34] (by decide +kernel) (by decide +kernel)
set_option maxRecDepth 20000 in
theorem gX5_takeBehindUnit_X8_isComparison : GoodIn wsX5_takeBehindUnit (va_wsS RX5 162 yX8_isComparison wsX8_isComparison) := goodIn_app (goodIn_of _ (by decide +kernel)) ggX5_takeBehindUnit_X8_isComparison
set_option maxRecDepth 20000 in
theorem ggX5_takeBehindUnit_X5_stop : GoodIn wsX5_takeBehindUnit wsX5_stop := goodIn_r _ [38, 39, 40, 41, 2, 42, 43, 44, 45, 46, 47, 48, 49, 50, 51, 52, 53, 54, 55, 56, 57, 58] (by decide +kernel) (by decide +kernel)
set_option maxRecDepth 20000 in
theorem gX5_takeBehindUnit_X5_stop : GoodIn wsX5_takeBehindUnit (wsV RX5 149 RX5 yX5_stop wsX5_stop) := goodIn_app (goodIn_of _ (by decide +kernel)) ggX5_takeBehindUnit_X5_stop
theorem dX5_takeBehindUnit_0 : decode cX5_takeBehindUnit 0 = .ok (.aload_n 0, 1) := by decide +kernel
theorem dX5_takeBehindUnit_1 : decode cX5_takeBehindUnit 1 = .ok (.getfield 64, 3) := by decide +kernel
theorem dX5_takeBehindUnit_4 : decode cX5_takeBehindUnit 4 = .ok (.invokestatic 125, 3) := by decide +kernel
theorem dX5_takeBehindUnit_7 : decode cX5_takeBehindUnit 7 = .ok (.ifCond .eq 26, 3) := by decide +kernel
theorem dX5_takeBehindUnit_10 : decode cX5_takeBehindUnit 10 = .ok (.aload_n 0, 1) := by decide +kernel
theorem dX5_takeBehindUnit_11 : decode cX5_takeBehindUnit 11 = .ok (.aload_n 0, 1) := by decide +kernel
theorem dX5_takeBehindUnit_12 : decode cX5_takeBehindUnit 12 = .ok (.getfield 64, 3) := by decide +kernel
theorem dX5_takeBehindUnit_15 : decode cX5_takeBehindUnit 15 = .ok (.invokestatic 156, 3) := by decide +kernel
theorem dX5_takeBehindUnit_18 : decode cX5_takeBehindUnit 18 = .ok (.invokevirtual 159, 3) := by decide +kernel
theorem dX5_takeBehindUnit_21 : decode cX5_takeBehindUnit 21 = .ok (.aload_n 0, 1) := by decide +kernel
theorem dX5_takeBehindUnit_22 : decode cX5_takeBehindUnit 22 = .ok (.invokevirtual 153, 3) := by decide +kernel
theorem dX5_takeBehindUnit_25 : decode cX5_takeBehindUnit 25 = .ok (.aload_n 0, 1) := by decide +kernel
theorem dX5_takeBehindUnit_26 : decode cX5_takeBehindUnit 26 = .ok (.iconst 1, 1) := by decide +kernel
theorem dX5_takeBehindUnit_27 : decode cX5_takeBehindUnit 27 = .ok (.putfield 50, 3) := by decide +kernel
theorem dX5_takeBehindUnit_30 : decode cX5_takeBehindUnit 30 = .ok (.goto 46, 3) := by decide +kernel
theorem dX5_takeBehindUnit_33 : decode cX5_takeBehindUnit 33 = .ok (.aload_n 0, 1) := by decide +kernel
theorem dX5_takeBehindUnit_34 : decode cX5_takeBehindUnit 34 = .ok (.getfield 64, 3) := by decide +kernel
theorem dX5_takeBehindUnit_37 : decode cX5_takeBehindUnit 37 = .ok (.invokestatic 162, 3) := by decide +kernel
theorem dX5_takeBehindUnit_40 : decode cX5_takeBehindUnit 40 = .ok (.ifCond .eq 31, 3) := by decide +kernel
theorem dX5_takeBehindUnit_43 : decode cX5_takeBehindUnit 43 = .ok (.aload_n 0, 1) := by decide +kernel
theorem dX5_takeBehindUnit_44 : decode cX5_takeBehindUnit 44 = .ok (.aload_n 0, 1) := by decide +kernel
theorem dX5_takeBehindUnit_45 : decode cX5_takeBehindUnit 45 = .ok (.getfield 64, 3) := by decide +kernel
theorem dX5_takeBehindUnit_48 : decode cX5_takeBehindUnit 48 = .ok (.invokestatic 156, 3) := by decide +kernel
theorem dX5_takeBehindUnit_51 : decode cX5_takeBehindUnit 51 = .ok (.invokevirtual 159, 3) := by decide +kernel
theorem dX5_takeBehindUnit_54 : decode cX5_takeBehindUnit 54 = .ok (.aload_n 0, 1) := by decide +kernel
theorem dX5_takeBehindUnit_55 : decode cX5_takeBehindUnit 55 = .ok (.invokevirtual 153, 3) := by decide +kernel
theorem dX5_takeBehindUnit_58 : decode cX5_takeBehindUnit 58 = .ok (.aload_n 0, 1) := by decide +kernel
theorem dX5_takeBehindUnit_59 : decode cX5_takeBehindUnit 59 = .ok (.iconst 1, 1) := by decide +kernel
theorem dX5_takeBehindUnit_60 : decode cX5_takeBehindUnit 60 = .ok (.putfield 40, 3) := by decide +kernel
theorem dX5_takeBehindUnit_63 : decode cX5_takeBehindUnit 63 = .ok (.aload_n 0, 1) := by decide +kernel
theorem dX5_takeBehindUnit_64 : decode cX5_takeBehindUnit 64 = .ok (.iconst 1, 1) := by decide +kernel
theorem dX5_takeBehindUnit_65 : decode cX5_takeBehindUnit 65 = .ok (.putfield 50, 3) := by decide +kernel
theorem dX5_takeBehindUnit_68 : decode cX5_takeBehindUnit 68 = .ok (.goto 8, 3) := by decide +kernel
theorem dX5_takeBehindUnit_71 : decode cX5_takeBehindUnit 71 = .ok (.aload_n 0, 1) := by decide +kernel
theorem dX5_takeBehindUnit_72 : decode cX5_takeBehindUnit 72 = .ok (.iconst 1, 1) := by decide +kernel
theorem dX5_takeBehindUnit_73 : decode cX5_takeBehindUnit 73 = .ok (.invokevirtual 149, 3) := by decide +kernel
theorem dX5_takeBehindUnit_76 : decode cX5_takeBehindUnit 76 = .ok (.return_, 1) := by decide +kernel
set_option maxRecDepth 20000 in
theorem ggX5_takeBehindClause_X8_rank : GoodIn wsX5_takeBehindClause wsX8_rank := goodIn_r _ [9] (by decide +kernel) (by decide +kernel)
set_option maxRecDepth 20000 in
theorem gX5_takeBehindClause_X8_rank : GoodIn wsX5_takeBehindClause (va_wsS RX5 156 yX8_rank wsX8_rank) := goodIn_app (goodIn_of _ (by decide +kernel)) ggX5_takeBehindClause_X8_rank
set_option maxRecDepth 20000 in
theorem ggX5_takeBehindClause_X5_release : GoodIn wsX5_takeBehindClause wsX5_release := goodIn_r _ [14, 4, 15, 5, 16, 17, 18, 6, 7, 8, 9, 19, 20, 21, 13, 22, 23, 24, 36, 37, 38, 39, 40, 41, 42, 43, 44, 45, 46, 47, 48, 49, 50, 51, 52] (by decide +kernel) (by decide +kernel)
set_option maxRecDepth 20000 in
theorem gX5_takeBehindClause_X5_release : GoodIn wsX5_takeBehindClause (wsV RX5 159 RX5 yX5_release wsX5_release) := goodIn_app (goodIn_of _ (by decide +kernel)) ggX5_takeBehindClause_X5_release
set_option maxRecDepth 20000 in
theorem ggX5_takeBehindClause_X5_push : GoodIn wsX5_takeBehindClause wsX5_push := goodIn_r _ [28, 4, 15, 1, 16, 17, 18, 36, 37, 38, 39, 40, 41, 42, 43, 44, 45, 46, 47, 48, 49, 50, 51, 52] (by decide +kernel) (by decide +kernel)
set_option maxRecDepth 20000 in
theorem gX5_takeBehindClause_X5_push : GoodIn wsX5_takeBehindClause (wsV RX5 153 RX5 yX5_push wsX5_push) := goodIn_app (goodIn_of _ (by decide +kernel)) ggX5_takeBehindClause_X5_push
set_option maxRecDepth 20000 in
theorem ggX5_takeBehindClause_X5_stop : GoodIn wsX5_takeBehindClause wsX5_stop := goodIn_r _ [32, 33, 34, 35, 2, 36, 37, 38, 39, 40, 41, 42, 43, 44, 45, 46, 47, 48, 49, 50, 51, 52] (by decide +kernel) (by decide +kernel)
set_option maxRecDepth 20000 in
theorem gX5_takeBehindClause_X5_stop : GoodIn wsX5_takeBehindClause (wsV RX5 149 RX5 yX5_stop wsX5_stop) := goodIn_app (goodIn_of _ (by decide +kernel)) ggX5_takeBehindClause_X5_stop
theorem dX5_takeBehindClause_0 : decode cX5_takeBehindClause 0 = .ok (.aload_n 0, 1) := by decide +kernel
theorem dX5_takeBehindClause_1 : decode cX5_takeBehindClause 1 = .ok (.getfield 64, 3) := by decide +kernel
theorem dX5_takeBehindClause_4 : decode cX5_takeBehindClause 4 = .ok (.bipush 21, 2) := by decide +kernel
theorem dX5_takeBehindClause_6 : decode cX5_takeBehindClause 6 = .ok (.if_icmp .eq 12, 3) := by decide +kernel
theorem dX5_takeBehindClause_9 : decode cX5_takeBehindClause 9 = .ok (.aload_n 0, 1) := by decide +kernel
theorem dX5_takeBehindClause_10 : decode cX5_takeBehindClause 10 = .ok (.getfield 64, 3) := by decide +kernel
theorem dX5_takeBehindClause_13 : decode cX5_takeBehindClause 13 = .ok (.bipush 22, 2) := by decide +kernel
theorem dX5_takeBehindClause_15 : decode cX5_takeBehindClause 15 = .ok (.if_icmp .ne 26, 3) := by decide +kernel
theorem dX5_takeBehindClause_18 : decode cX5_takeBehindClause 18 = .ok (.aload_n 0, 1) := by decide +kernel
theorem dX5_takeBehindClause_19 : decode cX5_takeBehindClause 19 = .ok (.aload_n 0, 1) := by decide +kernel
theorem dX5_takeBehindClause_20 : decode cX5_takeBehindClause 20 = .ok (.getfield 64, 3) := by decide +kernel
theorem dX5_takeBehindClause_23 : decode cX5_takeBehindClause 23 = .ok (.invokestatic 156, 3) := by decide +kernel
theorem dX5_takeBehindClause_26 : decode cX5_takeBehindClause 26 = .ok (.invokevirtual 159, 3) := by decide +kernel
theorem dX5_takeBehindClause_29 : decode cX5_takeBehindClause 29 = .ok (.aload_n 0, 1) := by decide +kernel
theorem dX5_takeBehindClause_30 : decode cX5_takeBehindClause 30 = .ok (.invokevirtual 153, 3) := by decide +kernel
theorem dX5_takeBehindClause_33 : decode cX5_takeBehindClause 33 = .ok (.aload_n 0, 1) := by decide +kernel
theorem dX5_takeBehindClause_34 : decode cX5_takeBehindClause 34 = .ok (.iconst 0, 1) := by decide +kernel
theorem dX5_takeBehindClause_35 : decode cX5_takeBehindClause 35 = .ok (.putfield 50, 3) := by decide +kernel
theorem dX5_takeBehindClause_38 : decode cX5_takeBehindClause 38 = .ok (.goto 95, 3) := by decide +kernel
theorem dX5_takeBehindClause_41 : decode cX5_takeBehindClause 41 = .ok (.aload_n 0, 1) := by decide +kernel
theorem dX5_takeBehindClause_42 : decode cX5_takeBehindClause 42 = .ok (.getfield 64, 3) := by decide +kernel
theorem dX5_takeBehindClause_45 : decode cX5_takeBehindClause 45 = .ok (.iconst 4, 1) := by decide +kernel
theorem dX5_takeBehindClause_46 : decode cX5_takeBehindClause 46 = .ok (.if_icmp .ne 53, 3) := by decide +kernel
theorem dX5_takeBehindClause_49 : decode cX5_takeBehindClause 49 = .ok (.aload_n 0, 1) := by decide +kernel
theorem dX5_takeBehindClause_50 : decode cX5_takeBehindClause 50 = .ok (.getfield 47, 3) := by decide +kernel
theorem dX5_takeBehindClause_53 : decode cX5_takeBehindClause 53 = .ok (.ifCond .le 46, 3) := by decide +kernel
theorem dX5_takeBehindClause_56 : decode cX5_takeBehindClause 56 = .ok (.aload_n 0, 1) := by decide +kernel
theorem dX5_takeBehindClause_57 : decode cX5_takeBehindClause 57 = .ok (.iconst 1, 1) := by decide +kernel
theorem dX5_takeBehindClause_58 : decode cX5_takeBehindClause 58 = .ok (.invokevirtual 159, 3) := by decide +kernel
theorem dX5_takeBehindClause_61 : decode cX5_takeBehindClause 61 = .ok (.aload_n 0, 1) := by decide +kernel
theorem dX5_takeBehindClause_62 : decode cX5_takeBehindClause 62 = .ok (.dup, 1) := by decide +kernel
theorem dX5_takeBehindClause_63 : decode cX5_takeBehindClause 63 = .ok (.getfield 31, 3) := by decide +kernel
theorem dX5_takeBehindClause_66 : decode cX5_takeBehindClause 66 = .ok (.iconst 1, 1) := by decide +kernel
theorem dX5_takeBehindClause_67 : decode cX5_takeBehindClause 67 = .ok (.isub, 1) := by decide +kernel
theorem dX5_takeBehindClause_68 : decode cX5_takeBehindClause 68 = .ok (.putfield 31, 3) := by decide +kernel
theorem dX5_takeBehindClause_71 : decode cX5_takeBehindClause 71 = .ok (.aload_n 0, 1) := by decide +kernel
theorem dX5_takeBehindClause_72 : decode cX5_takeBehindClause 72 = .ok (.dup, 1) := by decide +kernel
theorem dX5_takeBehindClause_73 : decode cX5_takeBehindClause 73 = .ok (.getfield 44, 3) := by decide +kernel
theorem dX5_takeBehindClause_76 : decode cX5_takeBehindClause 76 = .ok (.iconst 1, 1) := by decide +kernel
theorem dX5_takeBehindClause_77 : decode cX5_takeBehindClause 77 = .ok (.isub, 1) := by decide +kernel
theorem dX5_takeBehindClause_78 : decode cX5_takeBehindClause 78 = .ok (.putfield 44, 3) := by decide +kernel
theorem dX5_takeBehindClause_81 : decode cX5_takeBehindClause 81 = .ok (.aload_n 0, 1) := by decide +kernel
theorem dX5_takeBehindClause_82 : decode cX5_takeBehindClause 82 = .ok (.dup, 1) := by decide +kernel
theorem dX5_takeBehindClause_83 : decode cX5_takeBehindClause 83 = .ok (.getfield 47, 3) := by decide +kernel
theorem dX5_takeBehindClause_86 : decode cX5_takeBehindClause 86 = .ok (.iconst 1, 1) := by decide +kernel
theorem dX5_takeBehindClause_87 : decode cX5_takeBehindClause 87 = .ok (.isub, 1) := by decide +kernel
theorem dX5_takeBehindClause_88 : decode cX5_takeBehindClause 88 = .ok (.putfield 47, 3) := by decide +kernel
theorem dX5_takeBehindClause_91 : decode cX5_takeBehindClause 91 = .ok (.aload_n 0, 1) := by decide +kernel
theorem dX5_takeBehindClause_92 : decode cX5_takeBehindClause 92 = .ok (.iconst 5, 1) := by decide +kernel
theorem dX5_takeBehindClause_93 : decode cX5_takeBehindClause 93 = .ok (.putfield 50, 3) := by decide +kernel
theorem dX5_takeBehindClause_96 : decode cX5_takeBehindClause 96 = .ok (.goto 37, 3) := by decide +kernel
theorem dX5_takeBehindClause_99 : decode cX5_takeBehindClause 99 = .ok (.aload_n 0, 1) := by decide +kernel
theorem dX5_takeBehindClause_100 : decode cX5_takeBehindClause 100 = .ok (.getfield 64, 3) := by decide +kernel
theorem dX5_takeBehindClause_103 : decode cX5_takeBehindClause 103 = .ok (.iconst 2, 1) := by decide +kernel
theorem dX5_takeBehindClause_104 : decode cX5_takeBehindClause 104 = .ok (.if_icmp .ne 24, 3) := by decide +kernel
theorem dX5_takeBehindClause_107 : decode cX5_takeBehindClause 107 = .ok (.aload_n 0, 1) := by decide +kernel
theorem dX5_takeBehindClause_108 : decode cX5_takeBehindClause 108 = .ok (.getfield 47, 3) := by decide +kernel
theorem dX5_takeBehindClause_111 : decode cX5_takeBehindClause 111 = .ok (.ifCond .ne 17, 3) := by decide +kernel
theorem dX5_takeBehindClause_114 : decode cX5_takeBehindClause 114 = .ok (.aload_n 0, 1) := by decide +kernel
theorem dX5_takeBehindClause_115 : decode cX5_takeBehindClause 115 = .ok (.iconst 1, 1) := by decide +kernel
theorem dX5_takeBehindClause_116 : decode cX5_takeBehindClause 116 = .ok (.invokevirtual 159, 3) := by decide +kernel
theorem dX5_takeBehindClause_119 : decode cX5_takeBehindClause 119 = .ok (.aload_n 0, 1) := by decide +kernel
theorem dX5_takeBehindClause_120 : decode cX5_takeBehindClause 120 = .ok (.bipush 6, 2) := by decide +kernel
theorem dX5_takeBehindClause_122 : decode cX5_takeBehindClause 122 = .ok (.putfield 50, 3) := by decide +kernel
theorem dX5_takeBehindClause_125 : decode cX5_takeBehindClause 125 = .ok (.goto 8, 3) := by decide +kernel
theorem dX5_takeBehindClause_128 : decode cX5_takeBehindClause 128 = .ok (.aload_n 0, 1) := by decide +kernel
theorem dX5_takeBehindClause_129 : decode cX5_takeBehindClause 129 = .ok (.iconst 1, 1) := by decide +kernel
theorem dX5_takeBehindClause_130 : decode cX5_takeBehindClause 130 = .ok (.invokevirtual 149, 3) := by decide +kernel
theorem dX5_takeBehindClause_133 : decode cX5_takeBehindClause 133 = .ok (.return_, 1) := by decide +kernel
set_option maxRecDepth 20000 in
theorem ggX5_takeLast_X5_stop : GoodIn wsX5_takeLast wsX5_stop := goodIn_r _ [7, 8, 9, 10, 2, 11, 12, 13, 14, 15, 16, 17, 18, 19, 20, 21, 22, 23, 24, 25, 26, 27] (by decide +kernel) (by decide +kernel)
set_option maxRecDepth 20000 in
theorem gX5_takeLast_X5_stop : GoodIn wsX5_takeLast (wsV RX5 149 RX5 yX5_stop wsX5_stop) := goodIn_app (goodIn_of _ (by decide +kernel)) ggX5_takeLast_X5_stop
theorem dX5_takeLast_0 : decode cX5_takeLast 0 = .ok (.aload_n 0, 1) := by decide +kernel
theorem dX5_takeLast_1 : decode cX5_takeLast 1 = .ok (.getfield 64, 3) := by decide +kernel
theorem dX5_takeLast_4 : decode cX5_takeLast 4 = .ok (.ifCond .ne 12, 3) := by decide +kernel
theorem dX5_takeLast_7 : decode cX5_takeLast 7 = .ok (.aload_n 0, 1) := by decide +kernel
theorem dX5_takeLast_8 : decode cX5_takeLast 8 = .ok (.bipush 8, 2) := by decide +kernel
theorem dX5_takeLast_10 : decode cX5_takeLast 10 = .ok (.putfield 50, 3) := by decide +kernel
theorem dX5_takeLast_13 : decode cX5_takeLast 13 = .ok (.goto 8, 3) := by decide +kernel
theorem dX5_takeLast_16 : decode cX5_takeLast 16 = .ok (.aload_n 0, 1) := by decide +kernel
theorem dX5_takeLast_17 : decode cX5_takeLast 17 = .ok (.iconst 1, 1) := by decide +kernel
theorem dX5_takeLast_18 : decode cX5_takeLast 18 = .ok (.invokevirtual 149, 3) := by decide +kernel
theorem dX5_takeLast_21 : decode cX5_takeLast 21 = .ok (.return_, 1) := by decide +kernel
set_option maxRecDepth 20000 in
theorem ggX5_push_X11_inside : GoodIn wsX5_push wsX11_inside := goodIn_r _ [6] (by decide +kernel) (by decide +kernel)
set_option maxRecDepth 20000 in
theorem gX5_push_X11_inside_n165 : GoodIn wsX5_push (wsX11_inside) := ggX5_push_X11_inside
theorem dX5_push_0 : decode cX5_push 0 = .ok (.aload_n 0, 1) := by decide +kernel
theorem dX5_push_1 : decode cX5_push 1 = .ok (.getfield 31, 3) := by decide +kernel
theorem dX5_push_4 : decode cX5_push 4 = .ok (.bipush 40, 2) := by decide +kernel
theorem dX5_push_6 : decode cX5_push 6 = .ok (.invokestatic 165, 3) := by decide +kernel
theorem dX5_push_9 : decode cX5_push 9 = .ok (.ifCond .eq 26, 3) := by decide +kernel
theorem dX5_push_12 : decode cX5_push 12 = .ok (.aload_n 0, 1) := by decide +kernel
theorem dX5_push_13 : decode cX5_push 13 = .ok (.getfield 18, 3) := by decide +kernel
theorem dX5_push_16 : decode cX5_push 16 = .ok (.aload_n 0, 1) := by decide +kernel
theorem dX5_push_17 : decode cX5_push 17 = .ok (.getfield 31, 3) := by decide +kernel
theorem dX5_push_20 : decode cX5_push 20 = .ok (.aload_n 0, 1) := by decide +kernel
theorem dX5_push_21 : decode cX5_push 21 = .ok (.getfield 64, 3) := by decide +kernel
theorem dX5_push_24 : decode cX5_push 24 = .ok (.iastore, 1) := by decide +kernel
theorem dX5_push_25 : decode cX5_push 25 = .ok (.aload_n 0, 1) := by decide +kernel
theorem dX5_push_26 : decode cX5_push 26 = .ok (.dup, 1) := by decide +kernel
theorem dX5_push_27 : decode cX5_push 27 = .ok (.getfield 31, 3) := by decide +kernel
theorem dX5_push_30 : decode cX5_push 30 = .ok (.iconst 1, 1) := by decide +kernel
theorem dX5_push_31 : decode cX5_push 31 = .ok (.iadd, 1) := by decide +kernel
theorem dX5_push_32 : decode cX5_push 32 = .ok (.putfield 31, 3) := by decide +kernel
theorem dX5_push_35 : decode cX5_push 35 = .ok (.return_, 1) := by decide +kernel
set_option maxRecDepth 20000 in
theorem ggX5_release_X11_inside : GoodIn wsX5_release wsX11_inside := goodIn_r _ [6] (by decide +kernel) (by decide +kernel)
set_option maxRecDepth 20000 in
theorem gX5_release_X11_inside_n165 : GoodIn wsX5_release (wsX11_inside) := ggX5_release_X11_inside
set_option maxRecDepth 20000 in
theorem ggX5_release_X8_rank : GoodIn wsX5_release wsX8_rank := goodIn_r _ [10] (by decide +kernel) (by decide +kernel)
set_option maxRecDepth 20000 in
theorem gX5_release_X8_rank : GoodIn wsX5_release (va_wsS RX5 156 yX8_rank wsX8_rank) := goodIn_app (goodIn_of _ (by decide +kernel)) ggX5_release_X8_rank
set_option maxRecDepth 20000 in
theorem ggX5_release_X5_emit : GoodIn wsX5_release wsX5_emit := goodIn_r _ [15, 16, 17, 4, 5, 6, 18, 19, 20, 21, 22, 23, 24, 25, 26, 27, 28, 29, 30, 31, 32, 33, 34] (by decide +kernel) (by decide +kernel)
set_option maxRecDepth 20000 in
theorem gX5_release_X5_emit : GoodIn wsX5_release (wsV RX5 121 RX5 yX5_emit wsX5_emit) := goodIn_app (goodIn_of _ (by decide +kernel)) ggX5_release_X5_emit
theorem dX5_release_0 : decode cX5_release 0 = .ok (.iconst 0, 1) := by decide +kernel
theorem dX5_release_1 : decode cX5_release 1 = .ok (.istore_n 2, 1) := by decide +kernel
theorem dX5_release_2 : decode cX5_release 2 = .ok (.iload_n 2, 1) := by decide +kernel
theorem dX5_release_3 : decode cX5_release 3 = .ok (.bipush 40, 2) := by decide +kernel
theorem dX5_release_5 : decode cX5_release 5 = .ok (.if_icmp .ge 76, 3) := by decide +kernel
theorem dX5_release_8 : decode cX5_release 8 = .ok (.aload_n 0, 1) := by decide +kernel
theorem dX5_release_9 : decode cX5_release 9 = .ok (.getfield 31, 3) := by decide +kernel
theorem dX5_release_12 : decode cX5_release 12 = .ok (.iconst 1, 1) := by decide +kernel
theorem dX5_release_13 : decode cX5_release 13 = .ok (.isub, 1) := by decide +kernel
theorem dX5_release_14 : decode cX5_release 14 = .ok (.bipush 40, 2) := by decide +kernel
theorem dX5_release_16 : decode cX5_release 16 = .ok (.invokestatic 165, 3) := by decide +kernel
theorem dX5_release_19 : decode cX5_release 19 = .ok (.ifCond .eq 62, 3) := by decide +kernel
theorem dX5_release_22 : decode cX5_release 22 = .ok (.aload_n 0, 1) := by decide +kernel
theorem dX5_release_23 : decode cX5_release 23 = .ok (.getfield 18, 3) := by decide +kernel
theorem dX5_release_26 : decode cX5_release 26 = .ok (.aload_n 0, 1) := by decide +kernel
theorem dX5_release_27 : decode cX5_release 27 = .ok (.getfield 31, 3) := by decide +kernel
theorem dX5_release_30 : decode cX5_release 30 = .ok (.iconst 1, 1) := by decide +kernel
theorem dX5_release_31 : decode cX5_release 31 = .ok (.isub, 1) := by decide +kernel
theorem dX5_release_32 : decode cX5_release 32 = .ok (.iaload, 1) := by decide +kernel
theorem dX5_release_33 : decode cX5_release 33 = .ok (.istore_n 3, 1) := by decide +kernel
theorem dX5_release_34 : decode cX5_release 34 = .ok (.iload_n 3, 1) := by decide +kernel
theorem dX5_release_35 : decode cX5_release 35 = .ok (.invokestatic 156, 3) := by decide +kernel
theorem dX5_release_38 : decode cX5_release 38 = .ok (.iload_n 1, 1) := by decide +kernel
theorem dX5_release_39 : decode cX5_release 39 = .ok (.if_icmp .ge 4, 3) := by decide +kernel
theorem dX5_release_42 : decode cX5_release 42 = .ok (.return_, 1) := by decide +kernel
theorem dX5_release_43 : decode cX5_release 43 = .ok (.aload_n 0, 1) := by decide +kernel
theorem dX5_release_44 : decode cX5_release 44 = .ok (.dup, 1) := by decide +kernel
theorem dX5_release_45 : decode cX5_release 45 = .ok (.getfield 31, 3) := by decide +kernel
theorem dX5_release_48 : decode cX5_release 48 = .ok (.iconst 1, 1) := by decide +kernel
theorem dX5_release_49 : decode cX5_release 49 = .ok (.isub, 1) := by decide +kernel
theorem dX5_release_50 : decode cX5_release 50 = .ok (.putfield 31, 3) := by decide +kernel
theorem dX5_release_53 : decode cX5_release 53 = .ok (.iload_n 3, 1) := by decide +kernel
theorem dX5_release_54 : decode cX5_release 54 = .ok (.bipush 14, 2) := by decide +kernel
theorem dX5_release_56 : decode cX5_release 56 = .ok (.if_icmp .ne 13, 3) := by decide +kernel
theorem dX5_release_59 : decode cX5_release 59 = .ok (.aload_n 0, 1) := by decide +kernel
theorem dX5_release_60 : decode cX5_release 60 = .ok (.dup, 1) := by decide +kernel
theorem dX5_release_61 : decode cX5_release 61 = .ok (.getfield 44, 3) := by decide +kernel
theorem dX5_release_64 : decode cX5_release 64 = .ok (.iconst 1, 1) := by decide +kernel
theorem dX5_release_65 : decode cX5_release 65 = .ok (.isub, 1) := by decide +kernel
theorem dX5_release_66 : decode cX5_release 66 = .ok (.putfield 44, 3) := by decide +kernel
theorem dX5_release_69 : decode cX5_release 69 = .ok (.aload_n 0, 1) := by decide +kernel
theorem dX5_release_70 : decode cX5_release 70 = .ok (.iload_n 3, 1) := by decide +kernel
theorem dX5_release_71 : decode cX5_release 71 = .ok (.iconst 0, 1) := by decide +kernel
theorem dX5_release_72 : decode cX5_release 72 = .ok (.invokevirtual 121, 3) := by decide +kernel
theorem dX5_release_75 : decode cX5_release 75 = .ok (.iinc 2 1, 3) := by decide +kernel
theorem dX5_release_78 : decode cX5_release 78 = .ok (.goto (-76), 3) := by decide +kernel
theorem dX5_release_81 : decode cX5_release 81 = .ok (.return_, 1) := by decide +kernel
set_option maxRecDepth 20000 in
theorem ggX5_emit_X11_inside : GoodIn wsX5_emit wsX11_inside := goodIn_r _ [5] (by decide +kernel) (by decide +kernel)
set_option maxRecDepth 20000 in
theorem gX5_emit_X11_inside_n165 : GoodIn wsX5_emit (wsX11_inside) := ggX5_emit_X11_inside
theorem dX5_emit_0 : decode cX5_emit 0 = .ok (.aload_n 0, 1) := by decide +kernel
theorem dX5_emit_1 : decode cX5_emit 1 = .ok (.getfield 28, 3) := by decide +kernel
theorem dX5_emit_4 : decode cX5_emit 4 = .ok (.sipush 400, 3) := by decide +kernel
theorem dX5_emit_7 : decode cX5_emit 7 = .ok (.invokestatic 165, 3) := by decide +kernel
theorem dX5_emit_10 : decode cX5_emit 10 = .ok (.ifCond .eq 32, 3) := by decide +kernel
theorem dX5_emit_13 : decode cX5_emit 13 = .ok (.aload_n 0, 1) := by decide +kernel
theorem dX5_emit_14 : decode cX5_emit 14 = .ok (.getfield 15, 3) := by decide +kernel
theorem dX5_emit_17 : decode cX5_emit 17 = .ok (.aload_n 0, 1) := by decide +kernel
theorem dX5_emit_18 : decode cX5_emit 18 = .ok (.getfield 28, 3) := by decide +kernel
theorem dX5_emit_21 : decode cX5_emit 21 = .ok (.iload_n 1, 1) := by decide +kernel
theorem dX5_emit_22 : decode cX5_emit 22 = .ok (.bipush 14, 2) := by decide +kernel
theorem dX5_emit_24 : decode cX5_emit 24 = .ok (.ishl, 1) := by decide +kernel
theorem dX5_emit_25 : decode cX5_emit 25 = .ok (.iload_n 2, 1) := by decide +kernel
theorem dX5_emit_26 : decode cX5_emit 26 = .ok (.sipush 16383, 3) := by decide +kernel
theorem dX5_emit_29 : decode cX5_emit 29 = .ok (.iand, 1) := by decide +kernel
theorem dX5_emit_30 : decode cX5_emit 30 = .ok (.ior, 1) := by decide +kernel
theorem dX5_emit_31 : decode cX5_emit 31 = .ok (.iastore, 1) := by decide +kernel
theorem dX5_emit_32 : decode cX5_emit 32 = .ok (.aload_n 0, 1) := by decide +kernel
theorem dX5_emit_33 : decode cX5_emit 33 = .ok (.dup, 1) := by decide +kernel
theorem dX5_emit_34 : decode cX5_emit 34 = .ok (.getfield 28, 3) := by decide +kernel
theorem dX5_emit_37 : decode cX5_emit 37 = .ok (.iconst 1, 1) := by decide +kernel
theorem dX5_emit_38 : decode cX5_emit 38 = .ok (.iadd, 1) := by decide +kernel
theorem dX5_emit_39 : decode cX5_emit 39 = .ok (.putfield 28, 3) := by decide +kernel
theorem dX5_emit_42 : decode cX5_emit 42 = .ok (.return_, 1) := by decide +kernel
theorem dX5_stop_0 : decode cX5_stop 0 = .ok (.aload_n 0, 1) := by decide +kernel
theorem dX5_stop_1 : decode cX5_stop 1 = .ok (.iload_n 1, 1) := by decide +kernel
theorem dX5_stop_2 : decode cX5_stop 2 = .ok (.putfield 34, 3) := by decide +kernel
theorem dX5_stop_5 : decode cX5_stop 5 = .ok (.aload_n 0, 1) := by decide +kernel
theorem dX5_stop_6 : decode cX5_stop 6 = .ok (.aload_n 0, 1) := by decide +kernel
theorem dX5_stop_7 : decode cX5_stop 7 = .ok (.getfield 59, 3) := by decide +kernel
theorem dX5_stop_10 : decode cX5_stop 10 = .ok (.putfield 21, 3) := by decide +kernel
theorem dX5_stop_13 : decode cX5_stop 13 = .ok (.aload_n 0, 1) := by decide +kernel
theorem dX5_stop_14 : decode cX5_stop 14 = .ok (.bipush 8, 2) := by decide +kernel
theorem dX5_stop_16 : decode cX5_stop 16 = .ok (.putfield 50, 3) := by decide +kernel
theorem dX5_stop_19 : decode cX5_stop 19 = .ok (.return_, 1) := by decide +kernel
set_option maxRecDepth 20000 in
theorem ggX6_init_X9_init : GoodIn wsX6_init wsX9_init := goodIn_r _ [12, 13, 2, 3, 4, 14, 15, 20, 21, 22, 23, 24] (by decide +kernel) (by decide +kernel)
set_option maxRecDepth 20000 in
theorem gX6_init_X9_init_n22 : GoodIn wsX6_init (wsX9_init) := ggX6_init_X9_init
theorem dX6_init_0 : decode cX6_init 0 = .ok (.aload_n 0, 1) := by decide +kernel
theorem dX6_init_1 : decode cX6_init 1 = .ok (.invokespecial 5, 3) := by decide +kernel
theorem dX6_init_4 : decode cX6_init 4 = .ok (.aload_n 0, 1) := by decide +kernel
theorem dX6_init_5 : decode cX6_init 5 = .ok (.sipush 400, 3) := by decide +kernel
theorem dX6_init_8 : decode cX6_init 8 = .ok (.newarray .int, 2) := by decide +kernel
theorem dX6_init_10 : decode cX6_init 10 = .ok (.putfield 11, 3) := by decide +kernel
theorem dX6_init_13 : decode cX6_init 13 = .ok (.aload_n 0, 1) := by decide +kernel
theorem dX6_init_14 : decode cX6_init 14 = .ok (.bipush 40, 2) := by decide +kernel
theorem dX6_init_16 : decode cX6_init 16 = .ok (.newarray .int, 2) := by decide +kernel
theorem dX6_init_18 : decode cX6_init 18 = .ok (.putfield 17, 3) := by decide +kernel
theorem dX6_init_21 : decode cX6_init 21 = .ok (.aload_n 0, 1) := by decide +kernel
theorem dX6_init_22 : decode cX6_init 22 = .ok (.new 20, 3) := by decide +kernel
theorem dX6_init_25 : decode cX6_init 25 = .ok (.dup, 1) := by decide +kernel
theorem dX6_init_26 : decode cX6_init 26 = .ok (.invokespecial 22, 3) := by decide +kernel
theorem dX6_init_29 : decode cX6_init 29 = .ok (.putfield 23, 3) := by decide +kernel
theorem dX6_init_32 : decode cX6_init 32 = .ok (.return_, 1) := by decide +kernel
theorem dX6_become_0 : decode cX6_become 0 = .ok (.aload_n 0, 1) := by decide +kernel
theorem dX6_become_1 : decode cX6_become 1 = .ok (.aload_n 1, 1) := by decide +kernel
theorem dX6_become_2 : decode cX6_become 2 = .ok (.getfield 27, 3) := by decide +kernel
theorem dX6_become_5 : decode cX6_become 5 = .ok (.putfield 31, 3) := by decide +kernel
theorem dX6_become_8 : decode cX6_become 8 = .ok (.aload_n 1, 1) := by decide +kernel
theorem dX6_become_9 : decode cX6_become 9 = .ok (.getfield 32, 3) := by decide +kernel
theorem dX6_become_12 : decode cX6_become 12 = .ok (.iconst 0, 1) := by decide +kernel
theorem dX6_become_13 : decode cX6_become 13 = .ok (.aload_n 0, 1) := by decide +kernel
theorem dX6_become_14 : decode cX6_become 14 = .ok (.getfield 11, 3) := by decide +kernel
theorem dX6_become_17 : decode cX6_become 17 = .ok (.iconst 0, 1) := by decide +kernel
theorem dX6_become_18 : decode cX6_become 18 = .ok (.sipush 400, 3) := by decide +kernel
theorem dX6_become_21 : decode cX6_become 21 = .ok (.invokestatic 33, 3) := by decide +kernel
theorem dX6_become_24 : decode cX6_become 24 = .ok (.aload_n 0, 1) := by decide +kernel
theorem dX6_become_25 : decode cX6_become 25 = .ok (.getfield 23, 3) := by decide +kernel
theorem dX6_become_28 : decode cX6_become 28 = .ok (.iconst 0, 1) := by decide +kernel
theorem dX6_become_29 : decode cX6_become 29 = .ok (.putfield 39, 3) := by decide +kernel
theorem dX6_become_32 : decode cX6_become 32 = .ok (.return_, 1) := by decide +kernel
set_option maxRecDepth 20000 in
theorem ggX6_holds_X11_inside : GoodIn wsX6_holds wsX11_inside := goodIn_r _ [6] (by decide +kernel) (by decide +kernel)
set_option maxRecDepth 20000 in
theorem gX6_holds_X11_inside_n45 : GoodIn wsX6_holds (wsX11_inside) := ggX6_holds_X11_inside
set_option maxRecDepth 20000 in
theorem ggX6_holds_X6_ask : GoodIn wsX6_holds wsX6_ask := goodIn_r _ [10, 11, 12, 13, 14, 15, 16, 17, 18, 19, 20, 21, 22, 23, 24, 25, 26, 27, 28, 36, 37, 38, 39] (by decide +kernel) (by decide +kernel)
set_option maxRecDepth 20000 in
theorem gX6_holds_X6_ask : GoodIn wsX6_holds (va_wsS RX6 49 yX6_ask wsX6_ask) := goodIn_app (goodIn_of _ (by decide +kernel)) ggX6_holds_X6_ask
set_option maxRecDepth 20000 in
theorem ggX6_holds_X6_join : GoodIn wsX6_holds wsX6_join := goodIn_r _ [31] (by decide +kernel) (by decide +kernel)
set_option maxRecDepth 20000 in
theorem gX6_holds_X6_join : GoodIn wsX6_holds (va_wsS RX6 53 yX6_join wsX6_join) := goodIn_app (goodIn_of _ (by decide +kernel)) ggX6_holds_X6_join
theorem dX6_holds_0 : decode cX6_holds 0 = .ok (.iconst 0, 1) := by decide +kernel
theorem dX6_holds_1 : decode cX6_holds 1 = .ok (.istore_n 3, 1) := by decide +kernel
theorem dX6_holds_2 : decode cX6_holds 2 = .ok (.iconst 0, 1) := by decide +kernel
theorem dX6_holds_3 : decode cX6_holds 3 = .ok (.istore 4, 2) := by decide +kernel
theorem dX6_holds_5 : decode cX6_holds 5 = .ok (.iload 4, 2) := by decide +kernel
theorem dX6_holds_7 : decode cX6_holds 7 = .ok (.aload_n 0, 1) := by decide +kernel
theorem dX6_holds_8 : decode cX6_holds 8 = .ok (.getfield 31, 3) := by decide +kernel
theorem dX6_holds_11 : decode cX6_holds 11 = .ok (.if_icmp .ge 171, 3) := by decide +kernel
theorem dX6_holds_14 : decode cX6_holds 14 = .ok (.iload 4, 2) := by decide +kernel
theorem dX6_holds_16 : decode cX6_holds 16 = .ok (.sipush 400, 3) := by decide +kernel
theorem dX6_holds_19 : decode cX6_holds 19 = .ok (.if_icmp .ge 163, 3) := by decide +kernel
theorem dX6_holds_22 : decode cX6_holds 22 = .ok (.aload_n 0, 1) := by decide +kernel
theorem dX6_holds_23 : decode cX6_holds 23 = .ok (.getfield 11, 3) := by decide +kernel
theorem dX6_holds_26 : decode cX6_holds 26 = .ok (.iload 4, 2) := by decide +kernel
theorem dX6_holds_28 : decode cX6_holds 28 = .ok (.iaload, 1) := by decide +kernel
theorem dX6_holds_29 : decode cX6_holds 29 = .ok (.bipush 14, 2) := by decide +kernel
theorem dX6_holds_31 : decode cX6_holds 31 = .ok (.ishr, 1) := by decide +kernel
theorem dX6_holds_32 : decode cX6_holds 32 = .ok (.istore 5, 2) := by decide +kernel
theorem dX6_holds_34 : decode cX6_holds 34 = .ok (.iload 5, 2) := by decide +kernel
theorem dX6_holds_36 : decode cX6_holds 36 = .ok (.bipush 14, 2) := by decide +kernel
theorem dX6_holds_38 : decode cX6_holds 38 = .ok (.if_icmp .ge 45, 3) := by decide +kernel
theorem dX6_holds_41 : decode cX6_holds 41 = .ok (.iload_n 3, 1) := by decide +kernel
theorem dX6_holds_42 : decode cX6_holds 42 = .ok (.aload_n 0, 1) := by decide +kernel
theorem dX6_holds_43 : decode cX6_holds 43 = .ok (.getfield 17, 3) := by decide +kernel
theorem dX6_holds_46 : decode cX6_holds 46 = .ok (.arraylength, 1) := by decide +kernel
theorem dX6_holds_47 : decode cX6_holds 47 = .ok (.invokestatic 45, 3) := by decide +kernel
theorem dX6_holds_50 : decode cX6_holds 50 = .ok (.ifCond .eq 126, 3) := by decide +kernel
theorem dX6_holds_53 : decode cX6_holds 53 = .ok (.aload_n 0, 1) := by decide +kernel
theorem dX6_holds_54 : decode cX6_holds 54 = .ok (.getfield 17, 3) := by decide +kernel
theorem dX6_holds_57 : decode cX6_holds 57 = .ok (.iload_n 3, 1) := by decide +kernel
theorem dX6_holds_58 : decode cX6_holds 58 = .ok (.iload 5, 2) := by decide +kernel
theorem dX6_holds_60 : decode cX6_holds 60 = .ok (.aload_n 0, 1) := by decide +kernel
theorem dX6_holds_61 : decode cX6_holds 61 = .ok (.getfield 11, 3) := by decide +kernel
theorem dX6_holds_64 : decode cX6_holds 64 = .ok (.iload 4, 2) := by decide +kernel
theorem dX6_holds_66 : decode cX6_holds 66 = .ok (.iaload, 1) := by decide +kernel
theorem dX6_holds_67 : decode cX6_holds 67 = .ok (.sipush 16383, 3) := by decide +kernel
theorem dX6_holds_70 : decode cX6_holds 70 = .ok (.iand, 1) := by decide +kernel
theorem dX6_holds_71 : decode cX6_holds 71 = .ok (.iload_n 1, 1) := by decide +kernel
theorem dX6_holds_72 : decode cX6_holds 72 = .ok (.aload_n 2, 1) := by decide +kernel
theorem dX6_holds_73 : decode cX6_holds 73 = .ok (.invokestatic 49, 3) := by decide +kernel
theorem dX6_holds_76 : decode cX6_holds 76 = .ok (.iastore, 1) := by decide +kernel
theorem dX6_holds_77 : decode cX6_holds 77 = .ok (.iinc 3 1, 3) := by decide +kernel
theorem dX6_holds_80 : decode cX6_holds 80 = .ok (.goto 96, 3) := by decide +kernel
theorem dX6_holds_83 : decode cX6_holds 83 = .ok (.iload 5, 2) := by decide +kernel
theorem dX6_holds_85 : decode cX6_holds 85 = .ok (.bipush 14, 2) := by decide +kernel
theorem dX6_holds_87 : decode cX6_holds 87 = .ok (.if_icmp .ne 38, 3) := by decide +kernel
theorem dX6_holds_90 : decode cX6_holds 90 = .ok (.iload_n 3, 1) := by decide +kernel
theorem dX6_holds_91 : decode cX6_holds 91 = .ok (.iconst 1, 1) := by decide +kernel
theorem dX6_holds_92 : decode cX6_holds 92 = .ok (.isub, 1) := by decide +kernel
theorem dX6_holds_93 : decode cX6_holds 93 = .ok (.aload_n 0, 1) := by decide +kernel
theorem dX6_holds_94 : decode cX6_holds 94 = .ok (.getfield 17, 3) := by decide +kernel
theorem dX6_holds_97 : decode cX6_holds 97 = .ok (.arraylength, 1) := by decide +kernel
theorem dX6_holds_98 : decode cX6_holds 98 = .ok (.invokestatic 45, 3) := by decide +kernel
theorem dX6_holds_101 : decode cX6_holds 101 = .ok (.ifCond .eq 75, 3) := by decide +kernel
theorem dX6_holds_104 : decode cX6_holds 104 = .ok (.aload_n 0, 1) := by decide +kernel
theorem dX6_holds_105 : decode cX6_holds 105 = .ok (.getfield 17, 3) := by decide +kernel
theorem dX6_holds_108 : decode cX6_holds 108 = .ok (.iload_n 3, 1) := by decide +kernel
theorem dX6_holds_109 : decode cX6_holds 109 = .ok (.iconst 1, 1) := by decide +kernel
theorem dX6_holds_110 : decode cX6_holds 110 = .ok (.isub, 1) := by decide +kernel
theorem dX6_holds_111 : decode cX6_holds 111 = .ok (.iconst 1, 1) := by decide +kernel
theorem dX6_holds_112 : decode cX6_holds 112 = .ok (.aload_n 0, 1) := by decide +kernel
theorem dX6_holds_113 : decode cX6_holds 113 = .ok (.getfield 17, 3) := by decide +kernel
theorem dX6_holds_116 : decode cX6_holds 116 = .ok (.iload_n 3, 1) := by decide +kernel
theorem dX6_holds_117 : decode cX6_holds 117 = .ok (.iconst 1, 1) := by decide +kernel
theorem dX6_holds_118 : decode cX6_holds 118 = .ok (.isub, 1) := by decide +kernel
theorem dX6_holds_119 : decode cX6_holds 119 = .ok (.iaload, 1) := by decide +kernel
theorem dX6_holds_120 : decode cX6_holds 120 = .ok (.isub, 1) := by decide +kernel
theorem dX6_holds_121 : decode cX6_holds 121 = .ok (.iastore, 1) := by decide +kernel
theorem dX6_holds_122 : decode cX6_holds 122 = .ok (.goto 54, 3) := by decide +kernel
theorem dX6_holds_125 : decode cX6_holds 125 = .ok (.iload_n 3, 1) := by decide +kernel
theorem dX6_holds_126 : decode cX6_holds 126 = .ok (.iconst 1, 1) := by decide +kernel
theorem dX6_holds_127 : decode cX6_holds 127 = .ok (.isub, 1) := by decide +kernel
theorem dX6_holds_128 : decode cX6_holds 128 = .ok (.aload_n 0, 1) := by decide +kernel
theorem dX6_holds_129 : decode cX6_holds 129 = .ok (.getfield 17, 3) := by decide +kernel
theorem dX6_holds_132 : decode cX6_holds 132 = .ok (.arraylength, 1) := by decide +kernel
theorem dX6_holds_133 : decode cX6_holds 133 = .ok (.invokestatic 45, 3) := by decide +kernel
theorem dX6_holds_136 : decode cX6_holds 136 = .ok (.ifCond .eq 40, 3) := by decide +kernel
theorem dX6_holds_139 : decode cX6_holds 139 = .ok (.iload_n 3, 1) := by decide +kernel
theorem dX6_holds_140 : decode cX6_holds 140 = .ok (.iconst 1, 1) := by decide +kernel
theorem dX6_holds_141 : decode cX6_holds 141 = .ok (.if_icmp .le 35, 3) := by decide +kernel
theorem dX6_holds_144 : decode cX6_holds 144 = .ok (.aload_n 0, 1) := by decide +kernel
theorem dX6_holds_145 : decode cX6_holds 145 = .ok (.getfield 17, 3) := by decide +kernel
theorem dX6_holds_148 : decode cX6_holds 148 = .ok (.iload_n 3, 1) := by decide +kernel
theorem dX6_holds_149 : decode cX6_holds 149 = .ok (.iconst 2, 1) := by decide +kernel
theorem dX6_holds_150 : decode cX6_holds 150 = .ok (.isub, 1) := by decide +kernel
theorem dX6_holds_151 : decode cX6_holds 151 = .ok (.iload 5, 2) := by decide +kernel
theorem dX6_holds_153 : decode cX6_holds 153 = .ok (.aload_n 0, 1) := by decide +kernel
theorem dX6_holds_154 : decode cX6_holds 154 = .ok (.getfield 17, 3) := by decide +kernel
theorem dX6_holds_157 : decode cX6_holds 157 = .ok (.iload_n 3, 1) := by decide +kernel
theorem dX6_holds_158 : decode cX6_holds 158 = .ok (.iconst 2, 1) := by decide +kernel
theorem dX6_holds_159 : decode cX6_holds 159 = .ok (.isub, 1) := by decide +kernel
theorem dX6_holds_160 : decode cX6_holds 160 = .ok (.iaload, 1) := by decide +kernel
theorem dX6_holds_161 : decode cX6_holds 161 = .ok (.aload_n 0, 1) := by decide +kernel
theorem dX6_holds_162 : decode cX6_holds 162 = .ok (.getfield 17, 3) := by decide +kernel
theorem dX6_holds_165 : decode cX6_holds 165 = .ok (.iload_n 3, 1) := by decide +kernel
theorem dX6_holds_166 : decode cX6_holds 166 = .ok (.iconst 1, 1) := by decide +kernel
theorem dX6_holds_167 : decode cX6_holds 167 = .ok (.isub, 1) := by decide +kernel
theorem dX6_holds_168 : decode cX6_holds 168 = .ok (.iaload, 1) := by decide +kernel
theorem dX6_holds_169 : decode cX6_holds 169 = .ok (.invokestatic 53, 3) := by decide +kernel
theorem dX6_holds_172 : decode cX6_holds 172 = .ok (.iastore, 1) := by decide +kernel
theorem dX6_holds_173 : decode cX6_holds 173 = .ok (.iinc 3 (-1), 3) := by decide +kernel
theorem dX6_holds_176 : decode cX6_holds 176 = .ok (.iinc 4 1, 3) := by decide +kernel
theorem dX6_holds_179 : decode cX6_holds 179 = .ok (.goto (-174), 3) := by decide +kernel
theorem dX6_holds_182 : decode cX6_holds 182 = .ok (.iload_n 3, 1) := by decide +kernel
theorem dX6_holds_183 : decode cX6_holds 183 = .ok (.ifCond .le 16, 3) := by decide +kernel
theorem dX6_holds_186 : decode cX6_holds 186 = .ok (.aload_n 0, 1) := by decide +kernel
theorem dX6_holds_187 : decode cX6_holds 187 = .ok (.getfield 17, 3) := by decide +kernel
theorem dX6_holds_190 : decode cX6_holds 190 = .ok (.iconst 0, 1) := by decide +kernel
theorem dX6_holds_191 : decode cX6_holds 191 = .ok (.iaload, 1) := by decide +kernel
theorem dX6_holds_192 : decode cX6_holds 192 = .ok (.ifCond .eq 7, 3) := by decide +kernel
theorem dX6_holds_195 : decode cX6_holds 195 = .ok (.iconst 1, 1) := by decide +kernel
theorem dX6_holds_196 : decode cX6_holds 196 = .ok (.goto 4, 3) := by decide +kernel
theorem dX6_holds_199 : decode cX6_holds 199 = .ok (.iconst 0, 1) := by decide +kernel
theorem dX6_holds_200 : decode cX6_holds 200 = .ok (.ireturn, 1) := by decide +kernel
set_option maxRecDepth 20000 in
theorem ggX6_ask_J6_bitCount_0f7a4 : GoodIn wsX6_ask wsJ6_bitCount_0f7a4 := goodIn_r _ [4, 5, 6, 7] (by decide +kernel) (by decide +kernel)
set_option maxRecDepth 20000 in
theorem gX6_ask_J6_bitCount_0f7a4 : GoodIn wsX6_ask (va_wsS RX6 57 yJ6_bitCount_0f7a4 wsJ6_bitCount_0f7a4) := goodIn_app (goodIn_of _ (by decide +kernel)) ggX6_ask_J6_bitCount_0f7a4
set_option maxRecDepth 20000 in
theorem ggX6_ask_X7_weightOf : GoodIn wsX6_ask wsX7_weightOf := goodIn_r _ [12, 13, 19, 20, 21, 22] (by decide +kernel) (by decide +kernel)
set_option maxRecDepth 20000 in
theorem gX6_ask_X7_weightOf : GoodIn wsX6_ask (wsV RX6 63 RX7 yX7_weightOf wsX7_weightOf) := goodIn_app (goodIn_of _ (by decide +kernel)) ggX6_ask_X7_weightOf
set_option maxRecDepth 20000 in
theorem ggX6_ask_X7_ofBloc : GoodIn wsX6_ask wsX7_ofBloc := goodIn_r _ [17, 18, 19, 20, 21, 22] (by decide +kernel) (by decide +kernel)
set_option maxRecDepth 20000 in
theorem gX6_ask_X7_ofBloc : GoodIn wsX6_ask (wsV RX6 74 RX7 yX7_ofBloc wsX7_ofBloc) := goodIn_app (goodIn_of _ (by decide +kernel)) ggX6_ask_X7_ofBloc
theorem dX6_ask_0 : decode cX6_ask 0 = .ok (.iload_n 0, 1) := by decide +kernel
theorem dX6_ask_1 : decode cX6_ask 1 = .ok (.tableswitch 96 7 13 #[43, 48, 54, 62, 67, 73, 84], 43) := by decide +kernel
theorem dX6_ask_44 : decode cX6_ask 44 = .ok (.iload_n 2, 1) := by decide +kernel
theorem dX6_ask_45 : decode cX6_ask 45 = .ok (.invokestatic 57, 3) := by decide +kernel
theorem dX6_ask_48 : decode cX6_ask 48 = .ok (.ireturn, 1) := by decide +kernel
theorem dX6_ask_49 : decode cX6_ask 49 = .ok (.aload_n 3, 1) := by decide +kernel
theorem dX6_ask_50 : decode cX6_ask 50 = .ok (.iload_n 2, 1) := by decide +kernel
theorem dX6_ask_51 : decode cX6_ask 51 = .ok (.invokevirtual 63, 3) := by decide +kernel
theorem dX6_ask_54 : decode cX6_ask 54 = .ok (.ireturn, 1) := by decide +kernel
theorem dX6_ask_55 : decode cX6_ask 55 = .ok (.aload_n 3, 1) := by decide +kernel
theorem dX6_ask_56 : decode cX6_ask 56 = .ok (.getfield 68, 3) := by decide +kernel
theorem dX6_ask_59 : decode cX6_ask 59 = .ok (.invokestatic 57, 3) := by decide +kernel
theorem dX6_ask_62 : decode cX6_ask 62 = .ok (.ireturn, 1) := by decide +kernel
theorem dX6_ask_63 : decode cX6_ask 63 = .ok (.aload_n 3, 1) := by decide +kernel
theorem dX6_ask_64 : decode cX6_ask 64 = .ok (.getfield 71, 3) := by decide +kernel
theorem dX6_ask_67 : decode cX6_ask 67 = .ok (.ireturn, 1) := by decide +kernel
theorem dX6_ask_68 : decode cX6_ask 68 = .ok (.iload_n 2, 1) := by decide +kernel
theorem dX6_ask_69 : decode cX6_ask 69 = .ok (.iload_n 1, 1) := by decide +kernel
theorem dX6_ask_70 : decode cX6_ask 70 = .ok (.ishr, 1) := by decide +kernel
theorem dX6_ask_71 : decode cX6_ask 71 = .ok (.iconst 1, 1) := by decide +kernel
theorem dX6_ask_72 : decode cX6_ask 72 = .ok (.iand, 1) := by decide +kernel
theorem dX6_ask_73 : decode cX6_ask 73 = .ok (.ireturn, 1) := by decide +kernel
theorem dX6_ask_74 : decode cX6_ask 74 = .ok (.iload_n 2, 1) := by decide +kernel
theorem dX6_ask_75 : decode cX6_ask 75 = .ok (.aload_n 3, 1) := by decide +kernel
theorem dX6_ask_76 : decode cX6_ask 76 = .ok (.iload_n 1, 1) := by decide +kernel
theorem dX6_ask_77 : decode cX6_ask 77 = .ok (.invokevirtual 74, 3) := by decide +kernel
theorem dX6_ask_80 : decode cX6_ask 80 = .ok (.iand, 1) := by decide +kernel
theorem dX6_ask_81 : decode cX6_ask 81 = .ok (.invokestatic 57, 3) := by decide +kernel
theorem dX6_ask_84 : decode cX6_ask 84 = .ok (.ireturn, 1) := by decide +kernel
theorem dX6_ask_85 : decode cX6_ask 85 = .ok (.aload_n 3, 1) := by decide +kernel
theorem dX6_ask_86 : decode cX6_ask 86 = .ok (.iload_n 2, 1) := by decide +kernel
theorem dX6_ask_87 : decode cX6_ask 87 = .ok (.aload_n 3, 1) := by decide +kernel
theorem dX6_ask_88 : decode cX6_ask 88 = .ok (.iload_n 1, 1) := by decide +kernel
theorem dX6_ask_89 : decode cX6_ask 89 = .ok (.invokevirtual 74, 3) := by decide +kernel
theorem dX6_ask_92 : decode cX6_ask 92 = .ok (.iand, 1) := by decide +kernel
theorem dX6_ask_93 : decode cX6_ask 93 = .ok (.invokevirtual 63, 3) := by decide +kernel
theorem dX6_ask_96 : decode cX6_ask 96 = .ok (.ireturn, 1) := by decide +kernel
theorem dX6_ask_97 : decode cX6_ask 97 = .ok (.iload_n 1, 1) := by decide +kernel
theorem dX6_ask_98 : decode cX6_ask 98 = .ok (.ireturn, 1) := by decide +kernel
theorem dX6_join_0 : decode cX6_join 0 = .ok (.iload_n 0, 1) := by decide +kernel
theorem dX6_join_1 : decode cX6_join 1 = .ok (.tableswitch 92 15 21 #[43, 47, 51, 55, 66, 77, 88], 43) := by decide +kernel
theorem dX6_join_44 : decode cX6_join 44 = .ok (.iload_n 1, 1) := by decide +kernel
theorem dX6_join_45 : decode cX6_join 45 = .ok (.iload_n 2, 1) := by decide +kernel
theorem dX6_join_46 : decode cX6_join 46 = .ok (.iadd, 1) := by decide +kernel
theorem dX6_join_47 : decode cX6_join 47 = .ok (.ireturn, 1) := by decide +kernel
theorem dX6_join_48 : decode cX6_join 48 = .ok (.iload_n 1, 1) := by decide +kernel
theorem dX6_join_49 : decode cX6_join 49 = .ok (.iload_n 2, 1) := by decide +kernel
theorem dX6_join_50 : decode cX6_join 50 = .ok (.isub, 1) := by decide +kernel
theorem dX6_join_51 : decode cX6_join 51 = .ok (.ireturn, 1) := by decide +kernel
theorem dX6_join_52 : decode cX6_join 52 = .ok (.iload_n 1, 1) := by decide +kernel
theorem dX6_join_53 : decode cX6_join 53 = .ok (.iload_n 2, 1) := by decide +kernel
theorem dX6_join_54 : decode cX6_join 54 = .ok (.imul, 1) := by decide +kernel
theorem dX6_join_55 : decode cX6_join 55 = .ok (.ireturn, 1) := by decide +kernel
theorem dX6_join_56 : decode cX6_join 56 = .ok (.iload_n 1, 1) := by decide +kernel
theorem dX6_join_57 : decode cX6_join 57 = .ok (.iload_n 2, 1) := by decide +kernel
theorem dX6_join_58 : decode cX6_join 58 = .ok (.if_icmp .ge 7, 3) := by decide +kernel
theorem dX6_join_61 : decode cX6_join 61 = .ok (.iconst 1, 1) := by decide +kernel
theorem dX6_join_62 : decode cX6_join 62 = .ok (.goto 4, 3) := by decide +kernel
theorem dX6_join_65 : decode cX6_join 65 = .ok (.iconst 0, 1) := by decide +kernel
theorem dX6_join_66 : decode cX6_join 66 = .ok (.ireturn, 1) := by decide +kernel
theorem dX6_join_67 : decode cX6_join 67 = .ok (.iload_n 1, 1) := by decide +kernel
theorem dX6_join_68 : decode cX6_join 68 = .ok (.iload_n 2, 1) := by decide +kernel
theorem dX6_join_69 : decode cX6_join 69 = .ok (.if_icmp .ne 7, 3) := by decide +kernel
theorem dX6_join_72 : decode cX6_join 72 = .ok (.iconst 1, 1) := by decide +kernel
theorem dX6_join_73 : decode cX6_join 73 = .ok (.goto 4, 3) := by decide +kernel
theorem dX6_join_76 : decode cX6_join 76 = .ok (.iconst 0, 1) := by decide +kernel
theorem dX6_join_77 : decode cX6_join 77 = .ok (.ireturn, 1) := by decide +kernel
theorem dX6_join_78 : decode cX6_join 78 = .ok (.iload_n 1, 1) := by decide +kernel
theorem dX6_join_79 : decode cX6_join 79 = .ok (.iload_n 2, 1) := by decide +kernel
theorem dX6_join_80 : decode cX6_join 80 = .ok (.if_icmp .le 7, 3) := by decide +kernel
theorem dX6_join_83 : decode cX6_join 83 = .ok (.iconst 1, 1) := by decide +kernel
theorem dX6_join_84 : decode cX6_join 84 = .ok (.goto 4, 3) := by decide +kernel
theorem dX6_join_87 : decode cX6_join 87 = .ok (.iconst 0, 1) := by decide +kernel
theorem dX6_join_88 : decode cX6_join 88 = .ok (.ireturn, 1) := by decide +kernel
theorem dX6_join_89 : decode cX6_join 89 = .ok (.iload_n 1, 1) := by decide +kernel
theorem dX6_join_90 : decode cX6_join 90 = .ok (.iload_n 2, 1) := by decide +kernel
theorem dX6_join_91 : decode cX6_join 91 = .ok (.iand, 1) := by decide +kernel
theorem dX6_join_92 : decode cX6_join 92 = .ok (.ireturn, 1) := by decide +kernel
theorem dX6_join_93 : decode cX6_join 93 = .ok (.iload_n 1, 1) := by decide +kernel
theorem dX6_join_94 : decode cX6_join 94 = .ok (.iload_n 2, 1) := by decide +kernel
theorem dX6_join_95 : decode cX6_join 95 = .ok (.ior, 1) := by decide +kernel
theorem dX6_join_96 : decode cX6_join 96 = .ok (.ireturn, 1) := by decide +kernel
set_option maxRecDepth 20000 in
theorem ggX6_passes_X9_at : GoodIn wsX6_passes wsX9_at := goodIn_r _ [6, 7, 8, 9, 10, 11, 12, 49, 50, 51, 52, 53] (by decide +kernel) (by decide +kernel)
set_option maxRecDepth 20000 in
theorem gX6_passes_X9_at : GoodIn wsX6_passes (wsV RX6 77 RX9 yX9_at wsX9_at) := goodIn_app (goodIn_of _ (by decide +kernel)) ggX6_passes_X9_at
set_option maxRecDepth 20000 in
theorem ggX6_passes_X6_holds : GoodIn wsX6_passes wsX6_holds := goodIn_r _ [17, 18, 19, 20, 8, 9, 10, 21, 22, 16, 23, 24, 25, 26, 27, 28, 29, 30, 31, 32, 33, 34, 35, 36, 37, 38, 39, 40, 41, 42, 43, 44, 45, 46, 47, 48, 54, 55, 56, 57] (by decide +kernel) (by decide +kernel)
set_option maxRecDepth 20000 in
theorem gX6_passes_X6_holds : GoodIn wsX6_passes (wsV RX6 81 RX6 yX6_holds wsX6_holds) := goodIn_app (goodIn_of _ (by decide +kernel)) ggX6_passes_X6_holds
theorem dX6_passes_0 : decode cX6_passes 0 = .ok (.aload_n 0, 1) := by decide +kernel
theorem dX6_passes_1 : decode cX6_passes 1 = .ok (.getfield 23, 3) := by decide +kernel
theorem dX6_passes_4 : decode cX6_passes 4 = .ok (.getfield 39, 3) := by decide +kernel
theorem dX6_passes_7 : decode cX6_passes 7 = .ok (.ifCond .eq 14, 3) := by decide +kernel
theorem dX6_passes_10 : decode cX6_passes 10 = .ok (.aload_n 0, 1) := by decide +kernel
theorem dX6_passes_11 : decode cX6_passes 11 = .ok (.getfield 23, 3) := by decide +kernel
theorem dX6_passes_14 : decode cX6_passes 14 = .ok (.iload_n 1, 1) := by decide +kernel
theorem dX6_passes_15 : decode cX6_passes 15 = .ok (.invokevirtual 77, 3) := by decide +kernel
theorem dX6_passes_18 : decode cX6_passes 18 = .ok (.goto 9, 3) := by decide +kernel
theorem dX6_passes_21 : decode cX6_passes 21 = .ok (.aload_n 0, 1) := by decide +kernel
theorem dX6_passes_22 : decode cX6_passes 22 = .ok (.iload_n 1, 1) := by decide +kernel
theorem dX6_passes_23 : decode cX6_passes 23 = .ok (.aload_n 2, 1) := by decide +kernel
theorem dX6_passes_24 : decode cX6_passes 24 = .ok (.invokevirtual 81, 3) := by decide +kernel
theorem dX6_passes_27 : decode cX6_passes 27 = .ok (.ireturn, 1) := by decide +kernel
set_option maxRecDepth 20000 in
theorem ggX6_tabulate_X9_clear : GoodIn wsX6_tabulate wsX9_clear := goodIn_r _ [6, 7, 8, 9, 10, 11, 12, 13, 59, 60, 61, 62, 63] (by decide +kernel) (by decide +kernel)
set_option maxRecDepth 20000 in
theorem gX6_tabulate_X9_clear : GoodIn wsX6_tabulate (wsV RX6 85 RX9 yX9_clear wsX9_clear) := goodIn_app (goodIn_of _ (by decide +kernel)) ggX6_tabulate_X9_clear
set_option maxRecDepth 20000 in
theorem ggX6_tabulate_X11_isWithin : GoodIn wsX6_tabulate wsX11_isWithin := goodIn_r _ [16] (by decide +kernel) (by decide +kernel)
set_option maxRecDepth 20000 in
theorem gX6_tabulate_X11_isWithin_n89 : GoodIn wsX6_tabulate (wsX11_isWithin) := ggX6_tabulate_X11_isWithin
set_option maxRecDepth 20000 in
theorem ggX6_tabulate_X6_holds : GoodIn wsX6_tabulate wsX6_holds := goodIn_r _ [21, 22, 23, 24, 25, 15, 26, 27, 28, 20, 29, 30, 31, 32, 33, 34, 35, 36, 37, 38, 39, 40, 41, 42, 43, 44, 45, 46, 47, 48, 49, 50, 55, 56, 57, 58, 64, 65, 66, 67] (by decide +kernel) (by decide +kernel)
set_option maxRecDepth 20000 in
theorem gX6_tabulate_X6_holds : GoodIn wsX6_tabulate (wsV RX6 81 RX6 yX6_holds wsX6_holds) := goodIn_app (goodIn_of _ (by decide +kernel)) ggX6_tabulate_X6_holds
set_option maxRecDepth 20000 in
theorem ggX6_tabulate_X9_mark : GoodIn wsX6_tabulate wsX9_mark := goodIn_r _ [54, 7, 25, 15, 26, 59, 60, 61, 62, 63] (by decide +kernel) (by decide +kernel)
set_option maxRecDepth 20000 in
theorem gX6_tabulate_X9_mark : GoodIn wsX6_tabulate (wsV RX6 92 RX9 yX9_mark wsX9_mark) := goodIn_app (goodIn_of _ (by decide +kernel)) ggX6_tabulate_X9_mark
theorem dX6_tabulate_0 : decode cX6_tabulate 0 = .ok (.aload_n 0, 1) := by decide +kernel
theorem dX6_tabulate_1 : decode cX6_tabulate 1 = .ok (.getfield 23, 3) := by decide +kernel
theorem dX6_tabulate_4 : decode cX6_tabulate 4 = .ok (.getfield 39, 3) := by decide +kernel
theorem dX6_tabulate_7 : decode cX6_tabulate 7 = .ok (.ifCond .eq 4, 3) := by decide +kernel
theorem dX6_tabulate_10 : decode cX6_tabulate 10 = .ok (.return_, 1) := by decide +kernel
theorem dX6_tabulate_11 : decode cX6_tabulate 11 = .ok (.aload_n 0, 1) := by decide +kernel
theorem dX6_tabulate_12 : decode cX6_tabulate 12 = .ok (.getfield 23, 3) := by decide +kernel
theorem dX6_tabulate_15 : decode cX6_tabulate 15 = .ok (.aload_n 1, 1) := by decide +kernel
theorem dX6_tabulate_16 : decode cX6_tabulate 16 = .ok (.getfield 68, 3) := by decide +kernel
theorem dX6_tabulate_19 : decode cX6_tabulate 19 = .ok (.invokevirtual 85, 3) := by decide +kernel
theorem dX6_tabulate_22 : decode cX6_tabulate 22 = .ok (.iconst 0, 1) := by decide +kernel
theorem dX6_tabulate_23 : decode cX6_tabulate 23 = .ok (.istore_n 2, 1) := by decide +kernel
theorem dX6_tabulate_24 : decode cX6_tabulate 24 = .ok (.iload_n 2, 1) := by decide +kernel
theorem dX6_tabulate_25 : decode cX6_tabulate 25 = .ok (.sipush 1024, 3) := by decide +kernel
theorem dX6_tabulate_28 : decode cX6_tabulate 28 = .ok (.if_icmp .ge 37, 3) := by decide +kernel
theorem dX6_tabulate_31 : decode cX6_tabulate 31 = .ok (.iload_n 2, 1) := by decide +kernel
theorem dX6_tabulate_32 : decode cX6_tabulate 32 = .ok (.aload_n 1, 1) := by decide +kernel
theorem dX6_tabulate_33 : decode cX6_tabulate 33 = .ok (.getfield 68, 3) := by decide +kernel
theorem dX6_tabulate_36 : decode cX6_tabulate 36 = .ok (.invokestatic 89, 3) := by decide +kernel
theorem dX6_tabulate_39 : decode cX6_tabulate 39 = .ok (.ifCond .eq 20, 3) := by decide +kernel
theorem dX6_tabulate_42 : decode cX6_tabulate 42 = .ok (.aload_n 0, 1) := by decide +kernel
theorem dX6_tabulate_43 : decode cX6_tabulate 43 = .ok (.iload_n 2, 1) := by decide +kernel
theorem dX6_tabulate_44 : decode cX6_tabulate 44 = .ok (.aload_n 1, 1) := by decide +kernel
theorem dX6_tabulate_45 : decode cX6_tabulate 45 = .ok (.invokevirtual 81, 3) := by decide +kernel
theorem dX6_tabulate_48 : decode cX6_tabulate 48 = .ok (.ifCond .eq 11, 3) := by decide +kernel
theorem dX6_tabulate_51 : decode cX6_tabulate 51 = .ok (.aload_n 0, 1) := by decide +kernel
theorem dX6_tabulate_52 : decode cX6_tabulate 52 = .ok (.getfield 23, 3) := by decide +kernel
theorem dX6_tabulate_55 : decode cX6_tabulate 55 = .ok (.iload_n 2, 1) := by decide +kernel
theorem dX6_tabulate_56 : decode cX6_tabulate 56 = .ok (.invokevirtual 92, 3) := by decide +kernel
theorem dX6_tabulate_59 : decode cX6_tabulate 59 = .ok (.iinc 2 1, 3) := by decide +kernel
theorem dX6_tabulate_62 : decode cX6_tabulate 62 = .ok (.goto (-38), 3) := by decide +kernel
theorem dX6_tabulate_65 : decode cX6_tabulate 65 = .ok (.aload_n 0, 1) := by decide +kernel
theorem dX6_tabulate_66 : decode cX6_tabulate 66 = .ok (.getfield 23, 3) := by decide +kernel
theorem dX6_tabulate_69 : decode cX6_tabulate 69 = .ok (.iconst 1, 1) := by decide +kernel
theorem dX6_tabulate_70 : decode cX6_tabulate 70 = .ok (.putfield 39, 3) := by decide +kernel
theorem dX6_tabulate_73 : decode cX6_tabulate 73 = .ok (.return_, 1) := by decide +kernel
theorem dX7_init_0 : decode cX7_init 0 = .ok (.aload_n 0, 1) := by decide +kernel
theorem dX7_init_1 : decode cX7_init 1 = .ok (.invokespecial 3, 3) := by decide +kernel
theorem dX7_init_4 : decode cX7_init 4 = .ok (.aload_n 0, 1) := by decide +kernel
theorem dX7_init_5 : decode cX7_init 5 = .ok (.bipush 10, 2) := by decide +kernel
theorem dX7_init_7 : decode cX7_init 7 = .ok (.newarray .int, 2) := by decide +kernel
theorem dX7_init_9 : decode cX7_init 9 = .ok (.putfield 9, 3) := by decide +kernel
theorem dX7_init_12 : decode cX7_init 12 = .ok (.aload_n 0, 1) := by decide +kernel
theorem dX7_init_13 : decode cX7_init 13 = .ok (.bipush 6, 2) := by decide +kernel
theorem dX7_init_15 : decode cX7_init 15 = .ok (.newarray .int, 2) := by decide +kernel
theorem dX7_init_17 : decode cX7_init 17 = .ok (.putfield 15, 3) := by decide +kernel
theorem dX7_init_20 : decode cX7_init 20 = .ok (.return_, 1) := by decide +kernel
set_option maxRecDepth 20000 in
theorem ggX7_clear_J7_fill_53178 : GoodIn wsX7_clear wsJ7_fill_53178 := goodIn_r _ [8] (by decide +kernel) (by decide +kernel)
set_option maxRecDepth 20000 in
theorem gX7_clear_J7_fill_53178 : GoodIn wsX7_clear (va_wsS RX7 18 yJ7_fill_53178 wsJ7_fill_53178) := goodIn_app (goodIn_of _ (by decide +kernel)) ggX7_clear_J7_fill_53178
theorem dX7_clear_0 : decode cX7_clear 0 = .ok (.aload_n 0, 1) := by decide +kernel
theorem dX7_clear_1 : decode cX7_clear 1 = .ok (.getfield 9, 3) := by decide +kernel
theorem dX7_clear_4 : decode cX7_clear 4 = .ok (.iconst 0, 1) := by decide +kernel
theorem dX7_clear_5 : decode cX7_clear 5 = .ok (.invokestatic 18, 3) := by decide +kernel
theorem dX7_clear_8 : decode cX7_clear 8 = .ok (.aload_n 0, 1) := by decide +kernel
theorem dX7_clear_9 : decode cX7_clear 9 = .ok (.getfield 15, 3) := by decide +kernel
theorem dX7_clear_12 : decode cX7_clear 12 = .ok (.iconst 0, 1) := by decide +kernel
theorem dX7_clear_13 : decode cX7_clear 13 = .ok (.invokestatic 18, 3) := by decide +kernel
theorem dX7_clear_16 : decode cX7_clear 16 = .ok (.aload_n 0, 1) := by decide +kernel
theorem dX7_clear_17 : decode cX7_clear 17 = .ok (.iconst 0, 1) := by decide +kernel
theorem dX7_clear_18 : decode cX7_clear 18 = .ok (.putfield 24, 3) := by decide +kernel
theorem dX7_clear_21 : decode cX7_clear 21 = .ok (.aload_n 0, 1) := by decide +kernel
theorem dX7_clear_22 : decode cX7_clear 22 = .ok (.iconst 0, 1) := by decide +kernel
theorem dX7_clear_23 : decode cX7_clear 23 = .ok (.putfield 28, 3) := by decide +kernel
theorem dX7_clear_26 : decode cX7_clear 26 = .ok (.return_, 1) := by decide +kernel
set_option maxRecDepth 20000 in
theorem ggX7_put_X11_inside : GoodIn wsX7_put wsX11_inside := goodIn_r _ [7] (by decide +kernel) (by decide +kernel)
set_option maxRecDepth 20000 in
theorem gX7_put_X11_inside_n31 : GoodIn wsX7_put (wsX11_inside) := ggX7_put_X11_inside
theorem dX7_put_0 : decode cX7_put 0 = .ok (.iload_n 1, 1) := by decide +kernel
theorem dX7_put_1 : decode cX7_put 1 = .ok (.bipush 10, 2) := by decide +kernel
theorem dX7_put_3 : decode cX7_put 3 = .ok (.invokestatic 31, 3) := by decide +kernel
theorem dX7_put_6 : decode cX7_put 6 = .ok (.ifCond .eq 53, 3) := by decide +kernel
theorem dX7_put_9 : decode cX7_put 9 = .ok (.iload_n 3, 1) := by decide +kernel
theorem dX7_put_10 : decode cX7_put 10 = .ok (.bipush 6, 2) := by decide +kernel
theorem dX7_put_12 : decode cX7_put 12 = .ok (.invokestatic 31, 3) := by decide +kernel
theorem dX7_put_15 : decode cX7_put 15 = .ok (.ifCond .eq 44, 3) := by decide +kernel
theorem dX7_put_18 : decode cX7_put 18 = .ok (.aload_n 0, 1) := by decide +kernel
theorem dX7_put_19 : decode cX7_put 19 = .ok (.getfield 9, 3) := by decide +kernel
theorem dX7_put_22 : decode cX7_put 22 = .ok (.iload_n 1, 1) := by decide +kernel
theorem dX7_put_23 : decode cX7_put 23 = .ok (.iload_n 2, 1) := by decide +kernel
theorem dX7_put_24 : decode cX7_put 24 = .ok (.iastore, 1) := by decide +kernel
theorem dX7_put_25 : decode cX7_put 25 = .ok (.aload_n 0, 1) := by decide +kernel
theorem dX7_put_26 : decode cX7_put 26 = .ok (.getfield 15, 3) := by decide +kernel
theorem dX7_put_29 : decode cX7_put 29 = .ok (.iload_n 3, 1) := by decide +kernel
theorem dX7_put_30 : decode cX7_put 30 = .ok (.dup2, 1) := by decide +kernel
theorem dX7_put_31 : decode cX7_put 31 = .ok (.iaload, 1) := by decide +kernel
theorem dX7_put_32 : decode cX7_put 32 = .ok (.iconst 1, 1) := by decide +kernel
theorem dX7_put_33 : decode cX7_put 33 = .ok (.iload_n 1, 1) := by decide +kernel
theorem dX7_put_34 : decode cX7_put 34 = .ok (.ishl, 1) := by decide +kernel
theorem dX7_put_35 : decode cX7_put 35 = .ok (.ior, 1) := by decide +kernel
theorem dX7_put_36 : decode cX7_put 36 = .ok (.iastore, 1) := by decide +kernel
theorem dX7_put_37 : decode cX7_put 37 = .ok (.aload_n 0, 1) := by decide +kernel
theorem dX7_put_38 : decode cX7_put 38 = .ok (.dup, 1) := by decide +kernel
theorem dX7_put_39 : decode cX7_put 39 = .ok (.getfield 24, 3) := by decide +kernel
theorem dX7_put_42 : decode cX7_put 42 = .ok (.iconst 1, 1) := by decide +kernel
theorem dX7_put_43 : decode cX7_put 43 = .ok (.iload_n 1, 1) := by decide +kernel
theorem dX7_put_44 : decode cX7_put 44 = .ok (.ishl, 1) := by decide +kernel
theorem dX7_put_45 : decode cX7_put 45 = .ok (.ior, 1) := by decide +kernel
theorem dX7_put_46 : decode cX7_put 46 = .ok (.putfield 24, 3) := by decide +kernel
theorem dX7_put_49 : decode cX7_put 49 = .ok (.aload_n 0, 1) := by decide +kernel
theorem dX7_put_50 : decode cX7_put 50 = .ok (.dup, 1) := by decide +kernel
theorem dX7_put_51 : decode cX7_put 51 = .ok (.getfield 28, 3) := by decide +kernel
theorem dX7_put_54 : decode cX7_put 54 = .ok (.iload_n 2, 1) := by decide +kernel
theorem dX7_put_55 : decode cX7_put 55 = .ok (.iadd, 1) := by decide +kernel
theorem dX7_put_56 : decode cX7_put 56 = .ok (.putfield 28, 3) := by decide +kernel
theorem dX7_put_59 : decode cX7_put 59 = .ok (.return_, 1) := by decide +kernel
theorem dX7_ofBloc_0 : decode cX7_ofBloc 0 = .ok (.iload_n 1, 1) := by decide +kernel
theorem dX7_ofBloc_1 : decode cX7_ofBloc 1 = .ok (.ifCond .lt 18, 3) := by decide +kernel
theorem dX7_ofBloc_4 : decode cX7_ofBloc 4 = .ok (.iload_n 1, 1) := by decide +kernel
theorem dX7_ofBloc_5 : decode cX7_ofBloc 5 = .ok (.bipush 6, 2) := by decide +kernel
theorem dX7_ofBloc_7 : decode cX7_ofBloc 7 = .ok (.if_icmp .ge 12, 3) := by decide +kernel
theorem dX7_ofBloc_10 : decode cX7_ofBloc 10 = .ok (.aload_n 0, 1) := by decide +kernel
theorem dX7_ofBloc_11 : decode cX7_ofBloc 11 = .ok (.getfield 15, 3) := by decide +kernel
theorem dX7_ofBloc_14 : decode cX7_ofBloc 14 = .ok (.iload_n 1, 1) := by decide +kernel
theorem dX7_ofBloc_15 : decode cX7_ofBloc 15 = .ok (.iaload, 1) := by decide +kernel
theorem dX7_ofBloc_16 : decode cX7_ofBloc 16 = .ok (.goto 4, 3) := by decide +kernel
theorem dX7_ofBloc_19 : decode cX7_ofBloc 19 = .ok (.iconst 0, 1) := by decide +kernel
theorem dX7_ofBloc_20 : decode cX7_ofBloc 20 = .ok (.ireturn, 1) := by decide +kernel
set_option maxRecDepth 20000 in
theorem ggX7_blocOf_X11_has : GoodIn wsX7_blocOf wsX11_has := goodIn_r _ [4] (by decide +kernel) (by decide +kernel)
set_option maxRecDepth 20000 in
theorem gX7_blocOf_X11_has_n35 : GoodIn wsX7_blocOf (wsX11_has) := ggX7_blocOf_X11_has
theorem dX7_blocOf_0 : decode cX7_blocOf 0 = .ok (.iconst 0, 1) := by decide +kernel
theorem dX7_blocOf_1 : decode cX7_blocOf 1 = .ok (.istore_n 2, 1) := by decide +kernel
theorem dX7_blocOf_2 : decode cX7_blocOf 2 = .ok (.iload_n 2, 1) := by decide +kernel
theorem dX7_blocOf_3 : decode cX7_blocOf 3 = .ok (.bipush 6, 2) := by decide +kernel
theorem dX7_blocOf_5 : decode cX7_blocOf 5 = .ok (.if_icmp .ge 24, 3) := by decide +kernel
theorem dX7_blocOf_8 : decode cX7_blocOf 8 = .ok (.aload_n 0, 1) := by decide +kernel
theorem dX7_blocOf_9 : decode cX7_blocOf 9 = .ok (.getfield 15, 3) := by decide +kernel
theorem dX7_blocOf_12 : decode cX7_blocOf 12 = .ok (.iload_n 2, 1) := by decide +kernel
theorem dX7_blocOf_13 : decode cX7_blocOf 13 = .ok (.iaload, 1) := by decide +kernel
theorem dX7_blocOf_14 : decode cX7_blocOf 14 = .ok (.iload_n 1, 1) := by decide +kernel
theorem dX7_blocOf_15 : decode cX7_blocOf 15 = .ok (.invokestatic 35, 3) := by decide +kernel
theorem dX7_blocOf_18 : decode cX7_blocOf 18 = .ok (.ifCond .eq 5, 3) := by decide +kernel
theorem dX7_blocOf_21 : decode cX7_blocOf 21 = .ok (.iload_n 2, 1) := by decide +kernel
theorem dX7_blocOf_22 : decode cX7_blocOf 22 = .ok (.ireturn, 1) := by decide +kernel
theorem dX7_blocOf_23 : decode cX7_blocOf 23 = .ok (.iinc 2 1, 3) := by decide +kernel
theorem dX7_blocOf_26 : decode cX7_blocOf 26 = .ok (.goto (-24), 3) := by decide +kernel
theorem dX7_blocOf_29 : decode cX7_blocOf 29 = .ok (.iconst (-1), 1) := by decide +kernel
theorem dX7_blocOf_30 : decode cX7_blocOf 30 = .ok (.ireturn, 1) := by decide +kernel
theorem dX7_blocs_0 : decode cX7_blocs 0 = .ok (.iconst 0, 1) := by decide +kernel
theorem dX7_blocs_1 : decode cX7_blocs 1 = .ok (.istore_n 1, 1) := by decide +kernel
theorem dX7_blocs_2 : decode cX7_blocs 2 = .ok (.iconst 0, 1) := by decide +kernel
theorem dX7_blocs_3 : decode cX7_blocs 3 = .ok (.istore_n 2, 1) := by decide +kernel
theorem dX7_blocs_4 : decode cX7_blocs 4 = .ok (.iload_n 2, 1) := by decide +kernel
theorem dX7_blocs_5 : decode cX7_blocs 5 = .ok (.bipush 6, 2) := by decide +kernel
theorem dX7_blocs_7 : decode cX7_blocs 7 = .ok (.if_icmp .ge 24, 3) := by decide +kernel
theorem dX7_blocs_10 : decode cX7_blocs 10 = .ok (.aload_n 0, 1) := by decide +kernel
theorem dX7_blocs_11 : decode cX7_blocs 11 = .ok (.getfield 15, 3) := by decide +kernel
theorem dX7_blocs_14 : decode cX7_blocs 14 = .ok (.iload_n 2, 1) := by decide +kernel
theorem dX7_blocs_15 : decode cX7_blocs 15 = .ok (.iaload, 1) := by decide +kernel
theorem dX7_blocs_16 : decode cX7_blocs 16 = .ok (.ifCond .eq 9, 3) := by decide +kernel
theorem dX7_blocs_19 : decode cX7_blocs 19 = .ok (.iload_n 1, 1) := by decide +kernel
theorem dX7_blocs_20 : decode cX7_blocs 20 = .ok (.iconst 1, 1) := by decide +kernel
theorem dX7_blocs_21 : decode cX7_blocs 21 = .ok (.iload_n 2, 1) := by decide +kernel
theorem dX7_blocs_22 : decode cX7_blocs 22 = .ok (.ishl, 1) := by decide +kernel
theorem dX7_blocs_23 : decode cX7_blocs 23 = .ok (.ior, 1) := by decide +kernel
theorem dX7_blocs_24 : decode cX7_blocs 24 = .ok (.istore_n 1, 1) := by decide +kernel
theorem dX7_blocs_25 : decode cX7_blocs 25 = .ok (.iinc 2 1, 3) := by decide +kernel
theorem dX7_blocs_28 : decode cX7_blocs 28 = .ok (.goto (-24), 3) := by decide +kernel
theorem dX7_blocs_31 : decode cX7_blocs 31 = .ok (.iload_n 1, 1) := by decide +kernel
theorem dX7_blocs_32 : decode cX7_blocs 32 = .ok (.ireturn, 1) := by decide +kernel
set_option maxRecDepth 20000 in
theorem ggX7_ofBlocs_X11_has : GoodIn wsX7_ofBlocs wsX11_has := goodIn_r _ [4] (by decide +kernel) (by decide +kernel)
set_option maxRecDepth 20000 in
theorem gX7_ofBlocs_X11_has_n35 : GoodIn wsX7_ofBlocs (wsX11_has) := ggX7_ofBlocs_X11_has
theorem dX7_ofBlocs_0 : decode cX7_ofBlocs 0 = .ok (.iconst 0, 1) := by decide +kernel
theorem dX7_ofBlocs_1 : decode cX7_ofBlocs 1 = .ok (.istore_n 2, 1) := by decide +kernel
theorem dX7_ofBlocs_2 : decode cX7_ofBlocs 2 = .ok (.iconst 0, 1) := by decide +kernel
theorem dX7_ofBlocs_3 : decode cX7_ofBlocs 3 = .ok (.istore_n 3, 1) := by decide +kernel
theorem dX7_ofBlocs_4 : decode cX7_ofBlocs 4 = .ok (.iload_n 3, 1) := by decide +kernel
theorem dX7_ofBlocs_5 : decode cX7_ofBlocs 5 = .ok (.bipush 6, 2) := by decide +kernel
theorem dX7_ofBlocs_7 : decode cX7_ofBlocs 7 = .ok (.if_icmp .ge 26, 3) := by decide +kernel
theorem dX7_ofBlocs_10 : decode cX7_ofBlocs 10 = .ok (.iload_n 1, 1) := by decide +kernel
theorem dX7_ofBlocs_11 : decode cX7_ofBlocs 11 = .ok (.iload_n 3, 1) := by decide +kernel
theorem dX7_ofBlocs_12 : decode cX7_ofBlocs 12 = .ok (.invokestatic 35, 3) := by decide +kernel
theorem dX7_ofBlocs_15 : decode cX7_ofBlocs 15 = .ok (.ifCond .eq 12, 3) := by decide +kernel
theorem dX7_ofBlocs_18 : decode cX7_ofBlocs 18 = .ok (.iload_n 2, 1) := by decide +kernel
theorem dX7_ofBlocs_19 : decode cX7_ofBlocs 19 = .ok (.aload_n 0, 1) := by decide +kernel
theorem dX7_ofBlocs_20 : decode cX7_ofBlocs 20 = .ok (.getfield 15, 3) := by decide +kernel
theorem dX7_ofBlocs_23 : decode cX7_ofBlocs 23 = .ok (.iload_n 3, 1) := by decide +kernel
theorem dX7_ofBlocs_24 : decode cX7_ofBlocs 24 = .ok (.iaload, 1) := by decide +kernel
theorem dX7_ofBlocs_25 : decode cX7_ofBlocs 25 = .ok (.ior, 1) := by decide +kernel
theorem dX7_ofBlocs_26 : decode cX7_ofBlocs 26 = .ok (.istore_n 2, 1) := by decide +kernel
theorem dX7_ofBlocs_27 : decode cX7_ofBlocs 27 = .ok (.iinc 3 1, 3) := by decide +kernel
theorem dX7_ofBlocs_30 : decode cX7_ofBlocs 30 = .ok (.goto (-26), 3) := by decide +kernel
theorem dX7_ofBlocs_33 : decode cX7_ofBlocs 33 = .ok (.iload_n 2, 1) := by decide +kernel
theorem dX7_ofBlocs_34 : decode cX7_ofBlocs 34 = .ok (.ireturn, 1) := by decide +kernel
theorem dX7_weightOf_0 : decode cX7_weightOf 0 = .ok (.iconst 0, 1) := by decide +kernel
theorem dX7_weightOf_1 : decode cX7_weightOf 1 = .ok (.istore_n 2, 1) := by decide +kernel
theorem dX7_weightOf_2 : decode cX7_weightOf 2 = .ok (.iconst 0, 1) := by decide +kernel
theorem dX7_weightOf_3 : decode cX7_weightOf 3 = .ok (.istore_n 3, 1) := by decide +kernel
theorem dX7_weightOf_4 : decode cX7_weightOf 4 = .ok (.iload_n 3, 1) := by decide +kernel
theorem dX7_weightOf_5 : decode cX7_weightOf 5 = .ok (.bipush 10, 2) := by decide +kernel
theorem dX7_weightOf_7 : decode cX7_weightOf 7 = .ok (.if_icmp .ge 26, 3) := by decide +kernel
theorem dX7_weightOf_10 : decode cX7_weightOf 10 = .ok (.iload_n 1, 1) := by decide +kernel
theorem dX7_weightOf_11 : decode cX7_weightOf 11 = .ok (.iload_n 3, 1) := by decide +kernel
theorem dX7_weightOf_12 : decode cX7_weightOf 12 = .ok (.ishr, 1) := by decide +kernel
theorem dX7_weightOf_13 : decode cX7_weightOf 13 = .ok (.iconst 1, 1) := by decide +kernel
theorem dX7_weightOf_14 : decode cX7_weightOf 14 = .ok (.iand, 1) := by decide +kernel
theorem dX7_weightOf_15 : decode cX7_weightOf 15 = .ok (.ifCond .eq 12, 3) := by decide +kernel
theorem dX7_weightOf_18 : decode cX7_weightOf 18 = .ok (.iload_n 2, 1) := by decide +kernel
theorem dX7_weightOf_19 : decode cX7_weightOf 19 = .ok (.aload_n 0, 1) := by decide +kernel
theorem dX7_weightOf_20 : decode cX7_weightOf 20 = .ok (.getfield 9, 3) := by decide +kernel
theorem dX7_weightOf_23 : decode cX7_weightOf 23 = .ok (.iload_n 3, 1) := by decide +kernel
theorem dX7_weightOf_24 : decode cX7_weightOf 24 = .ok (.iaload, 1) := by decide +kernel
theorem dX7_weightOf_25 : decode cX7_weightOf 25 = .ok (.iadd, 1) := by decide +kernel
theorem dX7_weightOf_26 : decode cX7_weightOf 26 = .ok (.istore_n 2, 1) := by decide +kernel
theorem dX7_weightOf_27 : decode cX7_weightOf 27 = .ok (.iinc 3 1, 3) := by decide +kernel
theorem dX7_weightOf_30 : decode cX7_weightOf 30 = .ok (.goto (-26), 3) := by decide +kernel
theorem dX7_weightOf_33 : decode cX7_weightOf 33 = .ok (.iload_n 2, 1) := by decide +kernel
theorem dX7_weightOf_34 : decode cX7_weightOf 34 = .ok (.ireturn, 1) := by decide +kernel
theorem dX8_isSum_0 : decode cX8_isSum 0 = .ok (.iload_n 0, 1) := by decide +kernel
theorem dX8_isSum_1 : decode cX8_isSum 1 = .ok (.bipush 15, 2) := by decide +kernel
theorem dX8_isSum_3 : decode cX8_isSum 3 = .ok (.if_icmp .eq 15, 3) := by decide +kernel
theorem dX8_isSum_6 : decode cX8_isSum 6 = .ok (.iload_n 0, 1) := by decide +kernel
theorem dX8_isSum_7 : decode cX8_isSum 7 = .ok (.bipush 16, 2) := by decide +kernel
theorem dX8_isSum_9 : decode cX8_isSum 9 = .ok (.if_icmp .eq 9, 3) := by decide +kernel
theorem dX8_isSum_12 : decode cX8_isSum 12 = .ok (.iload_n 0, 1) := by decide +kernel
theorem dX8_isSum_13 : decode cX8_isSum 13 = .ok (.bipush 17, 2) := by decide +kernel
theorem dX8_isSum_15 : decode cX8_isSum 15 = .ok (.if_icmp .ne 7, 3) := by decide +kernel
theorem dX8_isSum_18 : decode cX8_isSum 18 = .ok (.iconst 1, 1) := by decide +kernel
theorem dX8_isSum_19 : decode cX8_isSum 19 = .ok (.goto 4, 3) := by decide +kernel
theorem dX8_isSum_22 : decode cX8_isSum 22 = .ok (.iconst 0, 1) := by decide +kernel
theorem dX8_isSum_23 : decode cX8_isSum 23 = .ok (.ireturn, 1) := by decide +kernel
theorem dX8_isComparison_0 : decode cX8_isComparison 0 = .ok (.iload_n 0, 1) := by decide +kernel
theorem dX8_isComparison_1 : decode cX8_isComparison 1 = .ok (.bipush 18, 2) := by decide +kernel
theorem dX8_isComparison_3 : decode cX8_isComparison 3 = .ok (.if_icmp .eq 15, 3) := by decide +kernel
theorem dX8_isComparison_6 : decode cX8_isComparison 6 = .ok (.iload_n 0, 1) := by decide +kernel
theorem dX8_isComparison_7 : decode cX8_isComparison 7 = .ok (.bipush 19, 2) := by decide +kernel
theorem dX8_isComparison_9 : decode cX8_isComparison 9 = .ok (.if_icmp .eq 9, 3) := by decide +kernel
theorem dX8_isComparison_12 : decode cX8_isComparison 12 = .ok (.iload_n 0, 1) := by decide +kernel
theorem dX8_isComparison_13 : decode cX8_isComparison 13 = .ok (.bipush 20, 2) := by decide +kernel
theorem dX8_isComparison_15 : decode cX8_isComparison 15 = .ok (.if_icmp .ne 7, 3) := by decide +kernel
theorem dX8_isComparison_18 : decode cX8_isComparison 18 = .ok (.iconst 1, 1) := by decide +kernel
theorem dX8_isComparison_19 : decode cX8_isComparison 19 = .ok (.goto 4, 3) := by decide +kernel
theorem dX8_isComparison_22 : decode cX8_isComparison 22 = .ok (.iconst 0, 1) := by decide +kernel
theorem dX8_isComparison_23 : decode cX8_isComparison 23 = .ok (.ireturn, 1) := by decide +kernel
theorem dX8_rank_0 : decode cX8_rank 0 = .ok (.iload_n 0, 1) := by decide +kernel
theorem dX8_rank_1 : decode cX8_rank 1 = .ok (.tableswitch 64 14 22 #[55, 59, 59, 61, 57, 57, 57, 53, 51], 51) := by decide +kernel
theorem dX8_rank_52 : decode cX8_rank 52 = .ok (.iconst 1, 1) := by decide +kernel
theorem dX8_rank_53 : decode cX8_rank 53 = .ok (.ireturn, 1) := by decide +kernel
theorem dX8_rank_54 : decode cX8_rank 54 = .ok (.iconst 2, 1) := by decide +kernel
theorem dX8_rank_55 : decode cX8_rank 55 = .ok (.ireturn, 1) := by decide +kernel
theorem dX8_rank_56 : decode cX8_rank 56 = .ok (.iconst 3, 1) := by decide +kernel
theorem dX8_rank_57 : decode cX8_rank 57 = .ok (.ireturn, 1) := by decide +kernel
theorem dX8_rank_58 : decode cX8_rank 58 = .ok (.iconst 4, 1) := by decide +kernel
theorem dX8_rank_59 : decode cX8_rank 59 = .ok (.ireturn, 1) := by decide +kernel
theorem dX8_rank_60 : decode cX8_rank 60 = .ok (.iconst 5, 1) := by decide +kernel
theorem dX8_rank_61 : decode cX8_rank 61 = .ok (.ireturn, 1) := by decide +kernel
theorem dX8_rank_62 : decode cX8_rank 62 = .ok (.bipush 6, 2) := by decide +kernel
theorem dX8_rank_64 : decode cX8_rank 64 = .ok (.ireturn, 1) := by decide +kernel
theorem dX8_rank_65 : decode cX8_rank 65 = .ok (.iconst 0, 1) := by decide +kernel
theorem dX8_rank_66 : decode cX8_rank 66 = .ok (.ireturn, 1) := by decide +kernel
theorem dX8_ofMark_0 : decode cX8_ofMark 0 = .ok (.iload_n 0, 1) := by decide +kernel
theorem dX8_ofMark_1 : decode cX8_ofMark 1 = .ok (.tableswitch 131 40 62 #[118, 120, 115, 109, 131, 112, 131, 131, 131, 131, 131, 131, 131, 131, 131, 131, 131, 131, 131, 107, 122, 125, 128], 107) := by decide +kernel
theorem dX8_ofMark_108 : decode cX8_ofMark 108 = .ok (.iconst 2, 1) := by decide +kernel
theorem dX8_ofMark_109 : decode cX8_ofMark 109 = .ok (.ireturn, 1) := by decide +kernel
theorem dX8_ofMark_110 : decode cX8_ofMark 110 = .ok (.bipush 15, 2) := by decide +kernel
theorem dX8_ofMark_112 : decode cX8_ofMark 112 = .ok (.ireturn, 1) := by decide +kernel
theorem dX8_ofMark_113 : decode cX8_ofMark 113 = .ok (.bipush 16, 2) := by decide +kernel
theorem dX8_ofMark_115 : decode cX8_ofMark 115 = .ok (.ireturn, 1) := by decide +kernel
theorem dX8_ofMark_116 : decode cX8_ofMark 116 = .ok (.bipush 17, 2) := by decide +kernel
theorem dX8_ofMark_118 : decode cX8_ofMark 118 = .ok (.ireturn, 1) := by decide +kernel
theorem dX8_ofMark_119 : decode cX8_ofMark 119 = .ok (.iconst 3, 1) := by decide +kernel
theorem dX8_ofMark_120 : decode cX8_ofMark 120 = .ok (.ireturn, 1) := by decide +kernel
theorem dX8_ofMark_121 : decode cX8_ofMark 121 = .ok (.iconst 4, 1) := by decide +kernel
theorem dX8_ofMark_122 : decode cX8_ofMark 122 = .ok (.ireturn, 1) := by decide +kernel
theorem dX8_ofMark_123 : decode cX8_ofMark 123 = .ok (.bipush 18, 2) := by decide +kernel
theorem dX8_ofMark_125 : decode cX8_ofMark 125 = .ok (.ireturn, 1) := by decide +kernel
theorem dX8_ofMark_126 : decode cX8_ofMark 126 = .ok (.bipush 19, 2) := by decide +kernel
theorem dX8_ofMark_128 : decode cX8_ofMark 128 = .ok (.ireturn, 1) := by decide +kernel
theorem dX8_ofMark_129 : decode cX8_ofMark 129 = .ok (.bipush 20, 2) := by decide +kernel
theorem dX8_ofMark_131 : decode cX8_ofMark 131 = .ok (.ireturn, 1) := by decide +kernel
theorem dX8_ofMark_132 : decode cX8_ofMark 132 = .ok (.iconst 1, 1) := by decide +kernel
theorem dX8_ofMark_133 : decode cX8_ofMark 133 = .ok (.ireturn, 1) := by decide +kernel
theorem dX9_init_0 : decode cX9_init 0 = .ok (.aload_n 0, 1) := by decide +kernel
theorem dX9_init_1 : decode cX9_init 1 = .ok (.invokespecial 3, 3) := by decide +kernel
theorem dX9_init_4 : decode cX9_init 4 = .ok (.aload_n 0, 1) := by decide +kernel
theorem dX9_init_5 : decode cX9_init 5 = .ok (.bipush 32, 2) := by decide +kernel
theorem dX9_init_7 : decode cX9_init 7 = .ok (.newarray .int, 2) := by decide +kernel
theorem dX9_init_9 : decode cX9_init 9 = .ok (.putfield 9, 3) := by decide +kernel
theorem dX9_init_12 : decode cX9_init 12 = .ok (.aload_n 0, 1) := by decide +kernel
theorem dX9_init_13 : decode cX9_init 13 = .ok (.iconst 4, 1) := by decide +kernel
theorem dX9_init_14 : decode cX9_init 14 = .ok (.newarray .int, 2) := by decide +kernel
theorem dX9_init_16 : decode cX9_init 16 = .ok (.putfield 15, 3) := by decide +kernel
theorem dX9_init_19 : decode cX9_init 19 = .ok (.return_, 1) := by decide +kernel
set_option maxRecDepth 20000 in
theorem ggX9_clear_J7_fill_53178 : GoodIn wsX9_clear wsJ7_fill_53178 := goodIn_r _ [7] (by decide +kernel) (by decide +kernel)
set_option maxRecDepth 20000 in
theorem gX9_clear_J7_fill_53178 : GoodIn wsX9_clear (va_wsS RX9 18 yJ7_fill_53178 wsJ7_fill_53178) := goodIn_app (goodIn_of _ (by decide +kernel)) ggX9_clear_J7_fill_53178
theorem dX9_clear_0 : decode cX9_clear 0 = .ok (.aload_n 0, 1) := by decide +kernel
theorem dX9_clear_1 : decode cX9_clear 1 = .ok (.getfield 9, 3) := by decide +kernel
theorem dX9_clear_4 : decode cX9_clear 4 = .ok (.iconst 0, 1) := by decide +kernel
theorem dX9_clear_5 : decode cX9_clear 5 = .ok (.invokestatic 18, 3) := by decide +kernel
theorem dX9_clear_8 : decode cX9_clear 8 = .ok (.aload_n 0, 1) := by decide +kernel
theorem dX9_clear_9 : decode cX9_clear 9 = .ok (.iload_n 1, 1) := by decide +kernel
theorem dX9_clear_10 : decode cX9_clear 10 = .ok (.putfield 24, 3) := by decide +kernel
theorem dX9_clear_13 : decode cX9_clear 13 = .ok (.aload_n 0, 1) := by decide +kernel
theorem dX9_clear_14 : decode cX9_clear 14 = .ok (.iconst 0, 1) := by decide +kernel
theorem dX9_clear_15 : decode cX9_clear 15 = .ok (.putfield 28, 3) := by decide +kernel
theorem dX9_clear_18 : decode cX9_clear 18 = .ok (.return_, 1) := by decide +kernel
set_option maxRecDepth 20000 in
theorem ggX9_mark_X11_inside : GoodIn wsX9_mark wsX11_inside := goodIn_r _ [4] (by decide +kernel) (by decide +kernel)
set_option maxRecDepth 20000 in
theorem gX9_mark_X11_inside_n32 : GoodIn wsX9_mark (wsX11_inside) := ggX9_mark_X11_inside
theorem dX9_mark_0 : decode cX9_mark 0 = .ok (.iload_n 1, 1) := by decide +kernel
theorem dX9_mark_1 : decode cX9_mark 1 = .ok (.sipush 1024, 3) := by decide +kernel
theorem dX9_mark_4 : decode cX9_mark 4 = .ok (.invokestatic 32, 3) := by decide +kernel
theorem dX9_mark_7 : decode cX9_mark 7 = .ok (.ifCond .eq 20, 3) := by decide +kernel
theorem dX9_mark_10 : decode cX9_mark 10 = .ok (.aload_n 0, 1) := by decide +kernel
theorem dX9_mark_11 : decode cX9_mark 11 = .ok (.getfield 9, 3) := by decide +kernel
theorem dX9_mark_14 : decode cX9_mark 14 = .ok (.iload_n 1, 1) := by decide +kernel
theorem dX9_mark_15 : decode cX9_mark 15 = .ok (.iconst 5, 1) := by decide +kernel
theorem dX9_mark_16 : decode cX9_mark 16 = .ok (.ishr, 1) := by decide +kernel
theorem dX9_mark_17 : decode cX9_mark 17 = .ok (.dup2, 1) := by decide +kernel
theorem dX9_mark_18 : decode cX9_mark 18 = .ok (.iaload, 1) := by decide +kernel
theorem dX9_mark_19 : decode cX9_mark 19 = .ok (.iconst 1, 1) := by decide +kernel
theorem dX9_mark_20 : decode cX9_mark 20 = .ok (.iload_n 1, 1) := by decide +kernel
theorem dX9_mark_21 : decode cX9_mark 21 = .ok (.bipush 31, 2) := by decide +kernel
theorem dX9_mark_23 : decode cX9_mark 23 = .ok (.iand, 1) := by decide +kernel
theorem dX9_mark_24 : decode cX9_mark 24 = .ok (.ishl, 1) := by decide +kernel
theorem dX9_mark_25 : decode cX9_mark 25 = .ok (.ior, 1) := by decide +kernel
theorem dX9_mark_26 : decode cX9_mark 26 = .ok (.iastore, 1) := by decide +kernel
theorem dX9_mark_27 : decode cX9_mark 27 = .ok (.return_, 1) := by decide +kernel
set_option maxRecDepth 20000 in
theorem ggX9_at_X11_inside : GoodIn wsX9_at wsX11_inside := goodIn_r _ [4] (by decide +kernel) (by decide +kernel)
set_option maxRecDepth 20000 in
theorem gX9_at_X11_inside_n32 : GoodIn wsX9_at (wsX11_inside) := ggX9_at_X11_inside
set_option maxRecDepth 20000 in
theorem ggX9_at_X11_has : GoodIn wsX9_at wsX11_has := goodIn_r _ [6] (by decide +kernel) (by decide +kernel)
set_option maxRecDepth 20000 in
theorem gX9_at_X11_has_n36 : GoodIn wsX9_at (wsX11_has) := ggX9_at_X11_has
theorem dX9_at_0 : decode cX9_at 0 = .ok (.iload_n 1, 1) := by decide +kernel
theorem dX9_at_1 : decode cX9_at 1 = .ok (.sipush 1024, 3) := by decide +kernel
theorem dX9_at_4 : decode cX9_at 4 = .ok (.invokestatic 32, 3) := by decide +kernel
theorem dX9_at_7 : decode cX9_at 7 = .ok (.ifCond .eq 25, 3) := by decide +kernel
theorem dX9_at_10 : decode cX9_at 10 = .ok (.aload_n 0, 1) := by decide +kernel
theorem dX9_at_11 : decode cX9_at 11 = .ok (.getfield 9, 3) := by decide +kernel
theorem dX9_at_14 : decode cX9_at 14 = .ok (.iload_n 1, 1) := by decide +kernel
theorem dX9_at_15 : decode cX9_at 15 = .ok (.iconst 5, 1) := by decide +kernel
theorem dX9_at_16 : decode cX9_at 16 = .ok (.ishr, 1) := by decide +kernel
theorem dX9_at_17 : decode cX9_at 17 = .ok (.iaload, 1) := by decide +kernel
theorem dX9_at_18 : decode cX9_at 18 = .ok (.iload_n 1, 1) := by decide +kernel
theorem dX9_at_19 : decode cX9_at 19 = .ok (.bipush 31, 2) := by decide +kernel
theorem dX9_at_21 : decode cX9_at 21 = .ok (.iand, 1) := by decide +kernel
theorem dX9_at_22 : decode cX9_at 22 = .ok (.invokestatic 36, 3) := by decide +kernel
theorem dX9_at_25 : decode cX9_at 25 = .ok (.ifCond .eq 7, 3) := by decide +kernel
theorem dX9_at_28 : decode cX9_at 28 = .ok (.iconst 1, 1) := by decide +kernel
theorem dX9_at_29 : decode cX9_at 29 = .ok (.goto 4, 3) := by decide +kernel
theorem dX9_at_32 : decode cX9_at 32 = .ok (.iconst 0, 1) := by decide +kernel
theorem dX9_at_33 : decode cX9_at 33 = .ok (.ireturn, 1) := by decide +kernel
set_option maxRecDepth 20000 in
theorem ggX9_isSwing_X11_isWithin : GoodIn wsX9_isSwing wsX11_isWithin := goodIn_r _ [4] (by decide +kernel) (by decide +kernel)
set_option maxRecDepth 20000 in
theorem gX9_isSwing_X11_isWithin_n39 : GoodIn wsX9_isSwing (wsX11_isWithin) := ggX9_isSwing_X11_isWithin
set_option maxRecDepth 20000 in
theorem ggX9_isSwing_X9_at : GoodIn wsX9_isSwing wsX9_at := goodIn_r _ [9, 10, 11, 3, 12, 13, 14, 15, 16, 17, 18, 19] (by decide +kernel) (by decide +kernel)
set_option maxRecDepth 20000 in
theorem gX9_isSwing_X9_at : GoodIn wsX9_isSwing (wsV RX9 42 RX9 yX9_at wsX9_at) := goodIn_app (goodIn_of _ (by decide +kernel)) ggX9_isSwing_X9_at
theorem dX9_isSwing_0 : decode cX9_isSwing 0 = .ok (.iload_n 1, 1) := by decide +kernel
theorem dX9_isSwing_1 : decode cX9_isSwing 1 = .ok (.aload_n 0, 1) := by decide +kernel
theorem dX9_isSwing_2 : decode cX9_isSwing 2 = .ok (.getfield 24, 3) := by decide +kernel
theorem dX9_isSwing_5 : decode cX9_isSwing 5 = .ok (.iload_n 2, 1) := by decide +kernel
theorem dX9_isSwing_6 : decode cX9_isSwing 6 = .ok (.iconst (-1), 1) := by decide +kernel
theorem dX9_isSwing_7 : decode cX9_isSwing 7 = .ok (.ixor, 1) := by decide +kernel
theorem dX9_isSwing_8 : decode cX9_isSwing 8 = .ok (.iand, 1) := by decide +kernel
theorem dX9_isSwing_9 : decode cX9_isSwing 9 = .ok (.invokestatic 39, 3) := by decide +kernel
theorem dX9_isSwing_12 : decode cX9_isSwing 12 = .ok (.ifCond .eq 25, 3) := by decide +kernel
theorem dX9_isSwing_15 : decode cX9_isSwing 15 = .ok (.aload_n 0, 1) := by decide +kernel
theorem dX9_isSwing_16 : decode cX9_isSwing 16 = .ok (.iload_n 1, 1) := by decide +kernel
theorem dX9_isSwing_17 : decode cX9_isSwing 17 = .ok (.invokevirtual 42, 3) := by decide +kernel
theorem dX9_isSwing_20 : decode cX9_isSwing 20 = .ok (.ifCond .ne 17, 3) := by decide +kernel
theorem dX9_isSwing_23 : decode cX9_isSwing 23 = .ok (.aload_n 0, 1) := by decide +kernel
theorem dX9_isSwing_24 : decode cX9_isSwing 24 = .ok (.iload_n 1, 1) := by decide +kernel
theorem dX9_isSwing_25 : decode cX9_isSwing 25 = .ok (.iload_n 2, 1) := by decide +kernel
theorem dX9_isSwing_26 : decode cX9_isSwing 26 = .ok (.ior, 1) := by decide +kernel
theorem dX9_isSwing_27 : decode cX9_isSwing 27 = .ok (.invokevirtual 42, 3) := by decide +kernel
theorem dX9_isSwing_30 : decode cX9_isSwing 30 = .ok (.ifCond .eq 7, 3) := by decide +kernel
theorem dX9_isSwing_33 : decode cX9_isSwing 33 = .ok (.iconst 1, 1) := by decide +kernel
theorem dX9_isSwing_34 : decode cX9_isSwing 34 = .ok (.goto 4, 3) := by decide +kernel
theorem dX9_isSwing_37 : decode cX9_isSwing 37 = .ok (.iconst 0, 1) := by decide +kernel
theorem dX9_isSwing_38 : decode cX9_isSwing 38 = .ok (.ireturn, 1) := by decide +kernel
set_option maxRecDepth 20000 in
theorem ggX9_swings_X9_isSwing : GoodIn wsX9_swings wsX9_isSwing := goodIn_r _ [6, 1, 7, 8, 9, 10, 11, 12, 5, 13, 14, 15, 16, 17, 18, 19, 20, 21, 22, 23] (by decide +kernel) (by decide +kernel)
set_option maxRecDepth 20000 in
theorem gX9_swings_X9_isSwing : GoodIn wsX9_swings (wsV RX9 46 RX9 yX9_isSwing wsX9_isSwing) := goodIn_app (goodIn_of _ (by decide +kernel)) ggX9_swings_X9_isSwing
theorem dX9_swings_0 : decode cX9_swings 0 = .ok (.iconst 1, 1) := by decide +kernel
theorem dX9_swings_1 : decode cX9_swings 1 = .ok (.iload_n 1, 1) := by decide +kernel
theorem dX9_swings_2 : decode cX9_swings 2 = .ok (.ishl, 1) := by decide +kernel
theorem dX9_swings_3 : decode cX9_swings 3 = .ok (.istore_n 2, 1) := by decide +kernel
theorem dX9_swings_4 : decode cX9_swings 4 = .ok (.lconst 0, 1) := by decide +kernel
theorem dX9_swings_5 : decode cX9_swings 5 = .ok (.lstore_n 3, 1) := by decide +kernel
theorem dX9_swings_6 : decode cX9_swings 6 = .ok (.iconst 0, 1) := by decide +kernel
theorem dX9_swings_7 : decode cX9_swings 7 = .ok (.istore 5, 2) := by decide +kernel
theorem dX9_swings_9 : decode cX9_swings 9 = .ok (.iload 5, 2) := by decide +kernel
theorem dX9_swings_11 : decode cX9_swings 11 = .ok (.aload_n 0, 1) := by decide +kernel
theorem dX9_swings_12 : decode cX9_swings 12 = .ok (.getfield 24, 3) := by decide +kernel
theorem dX9_swings_15 : decode cX9_swings 15 = .ok (.if_icmp .gt 23, 3) := by decide +kernel
theorem dX9_swings_18 : decode cX9_swings 18 = .ok (.aload_n 0, 1) := by decide +kernel
theorem dX9_swings_19 : decode cX9_swings 19 = .ok (.iload 5, 2) := by decide +kernel
theorem dX9_swings_21 : decode cX9_swings 21 = .ok (.iload_n 2, 1) := by decide +kernel
theorem dX9_swings_22 : decode cX9_swings 22 = .ok (.invokevirtual 46, 3) := by decide +kernel
theorem dX9_swings_25 : decode cX9_swings 25 = .ok (.ifCond .eq 7, 3) := by decide +kernel
theorem dX9_swings_28 : decode cX9_swings 28 = .ok (.lload_n 3, 1) := by decide +kernel
theorem dX9_swings_29 : decode cX9_swings 29 = .ok (.lconst 1, 1) := by decide +kernel
theorem dX9_swings_30 : decode cX9_swings 30 = .ok (.ladd, 1) := by decide +kernel
theorem dX9_swings_31 : decode cX9_swings 31 = .ok (.lstore_n 3, 1) := by decide +kernel
theorem dX9_swings_32 : decode cX9_swings 32 = .ok (.iinc 5 1, 3) := by decide +kernel
theorem dX9_swings_35 : decode cX9_swings 35 = .ok (.goto (-26), 3) := by decide +kernel
theorem dX9_swings_38 : decode cX9_swings 38 = .ok (.lload_n 3, 1) := by decide +kernel
theorem dX9_swings_39 : decode cX9_swings 39 = .ok (.lreturn, 1) := by decide +kernel
set_option maxRecDepth 20000 in
theorem ggX9_setsWithoutOne_J6_bitCount_0f7a4 : GoodIn wsX9_setsWithoutOne wsJ6_bitCount_0f7a4 := goodIn_r _ [9, 10, 11, 12] (by decide +kernel) (by decide +kernel)
set_option maxRecDepth 20000 in
theorem gX9_setsWithoutOne_J6_bitCount_0f7a4 : GoodIn wsX9_setsWithoutOne (va_wsS RX9 49 yJ6_bitCount_0f7a4 wsJ6_bitCount_0f7a4) := goodIn_app (goodIn_of _ (by decide +kernel)) ggX9_setsWithoutOne_J6_bitCount_0f7a4
theorem dX9_setsWithoutOne_0 : decode cX9_setsWithoutOne 0 = .ok (.lconst 1, 1) := by decide +kernel
theorem dX9_setsWithoutOne_1 : decode cX9_setsWithoutOne 1 = .ok (.aload_n 0, 1) := by decide +kernel
theorem dX9_setsWithoutOne_2 : decode cX9_setsWithoutOne 2 = .ok (.getfield 24, 3) := by decide +kernel
theorem dX9_setsWithoutOne_5 : decode cX9_setsWithoutOne 5 = .ok (.invokestatic 49, 3) := by decide +kernel
theorem dX9_setsWithoutOne_8 : decode cX9_setsWithoutOne 8 = .ok (.iconst 1, 1) := by decide +kernel
theorem dX9_setsWithoutOne_9 : decode cX9_setsWithoutOne 9 = .ok (.isub, 1) := by decide +kernel
theorem dX9_setsWithoutOne_10 : decode cX9_setsWithoutOne 10 = .ok (.iconst 0, 1) := by decide +kernel
theorem dX9_setsWithoutOne_11 : decode cX9_setsWithoutOne 11 = .ok (.invokestatic 55, 3) := by decide +kernel
theorem dX9_setsWithoutOne_14 : decode cX9_setsWithoutOne 14 = .ok (.lshl, 1) := by decide +kernel
theorem dX9_setsWithoutOne_15 : decode cX9_setsWithoutOne 15 = .ok (.lreturn, 1) := by decide +kernel
set_option maxRecDepth 20000 in
theorem ggX9_turns_J6_bitCount_0f7a4 : GoodIn wsX9_turns wsJ6_bitCount_0f7a4 := goodIn_r _ [5, 6, 7, 8] (by decide +kernel) (by decide +kernel)
set_option maxRecDepth 20000 in
theorem gX9_turns_J6_bitCount_0f7a4 : GoodIn wsX9_turns (va_wsS RX9 49 yJ6_bitCount_0f7a4 wsJ6_bitCount_0f7a4) := goodIn_app (goodIn_of _ (by decide +kernel)) ggX9_turns_J6_bitCount_0f7a4
set_option maxRecDepth 20000 in
theorem ggX9_turns_X9_isSwing : GoodIn wsX9_turns wsX9_isSwing := goodIn_r _ [13, 1, 14, 15, 16, 17, 18, 19, 12, 20, 21, 22, 23, 24, 25, 29, 30, 31, 32, 33] (by decide +kernel) (by decide +kernel)
set_option maxRecDepth 20000 in
theorem gX9_turns_X9_isSwing : GoodIn wsX9_turns (wsV RX9 46 RX9 yX9_isSwing wsX9_isSwing) := goodIn_app (goodIn_of _ (by decide +kernel)) ggX9_turns_X9_isSwing
set_option maxRecDepth 20000 in
theorem ggX9_turns_X9_factorial : GoodIn wsX9_turns wsX9_factorial := goodIn_r _ [28] (by decide +kernel) (by decide +kernel)
set_option maxRecDepth 20000 in
theorem gX9_turns_X9_factorial : GoodIn wsX9_turns (va_wsS RX9 61 yX9_factorial wsX9_factorial) := goodIn_app (goodIn_of _ (by decide +kernel)) ggX9_turns_X9_factorial
theorem dX9_turns_0 : decode cX9_turns 0 = .ok (.iconst 1, 1) := by decide +kernel
theorem dX9_turns_1 : decode cX9_turns 1 = .ok (.iload_n 1, 1) := by decide +kernel
theorem dX9_turns_2 : decode cX9_turns 2 = .ok (.ishl, 1) := by decide +kernel
theorem dX9_turns_3 : decode cX9_turns 3 = .ok (.istore_n 2, 1) := by decide +kernel
theorem dX9_turns_4 : decode cX9_turns 4 = .ok (.aload_n 0, 1) := by decide +kernel
theorem dX9_turns_5 : decode cX9_turns 5 = .ok (.getfield 24, 3) := by decide +kernel
theorem dX9_turns_8 : decode cX9_turns 8 = .ok (.invokestatic 49, 3) := by decide +kernel
theorem dX9_turns_11 : decode cX9_turns 11 = .ok (.iconst 1, 1) := by decide +kernel
theorem dX9_turns_12 : decode cX9_turns 12 = .ok (.isub, 1) := by decide +kernel
theorem dX9_turns_13 : decode cX9_turns 13 = .ok (.istore_n 3, 1) := by decide +kernel
theorem dX9_turns_14 : decode cX9_turns 14 = .ok (.lconst 0, 1) := by decide +kernel
theorem dX9_turns_15 : decode cX9_turns 15 = .ok (.lstore 4, 2) := by decide +kernel
theorem dX9_turns_17 : decode cX9_turns 17 = .ok (.iconst 0, 1) := by decide +kernel
theorem dX9_turns_18 : decode cX9_turns 18 = .ok (.istore 6, 2) := by decide +kernel
theorem dX9_turns_20 : decode cX9_turns 20 = .ok (.iload 6, 2) := by decide +kernel
theorem dX9_turns_22 : decode cX9_turns 22 = .ok (.aload_n 0, 1) := by decide +kernel
theorem dX9_turns_23 : decode cX9_turns 23 = .ok (.getfield 24, 3) := by decide +kernel
theorem dX9_turns_26 : decode cX9_turns 26 = .ok (.if_icmp .gt 44, 3) := by decide +kernel
theorem dX9_turns_29 : decode cX9_turns 29 = .ok (.aload_n 0, 1) := by decide +kernel
theorem dX9_turns_30 : decode cX9_turns 30 = .ok (.iload 6, 2) := by decide +kernel
theorem dX9_turns_32 : decode cX9_turns 32 = .ok (.iload_n 2, 1) := by decide +kernel
theorem dX9_turns_33 : decode cX9_turns 33 = .ok (.invokevirtual 46, 3) := by decide +kernel
theorem dX9_turns_36 : decode cX9_turns 36 = .ok (.ifCond .eq 28, 3) := by decide +kernel
theorem dX9_turns_39 : decode cX9_turns 39 = .ok (.iload 6, 2) := by decide +kernel
theorem dX9_turns_41 : decode cX9_turns 41 = .ok (.invokestatic 49, 3) := by decide +kernel
theorem dX9_turns_44 : decode cX9_turns 44 = .ok (.istore 7, 2) := by decide +kernel
theorem dX9_turns_46 : decode cX9_turns 46 = .ok (.lload 4, 2) := by decide +kernel
theorem dX9_turns_48 : decode cX9_turns 48 = .ok (.iload 7, 2) := by decide +kernel
theorem dX9_turns_50 : decode cX9_turns 50 = .ok (.invokestatic 61, 3) := by decide +kernel
theorem dX9_turns_53 : decode cX9_turns 53 = .ok (.iload_n 3, 1) := by decide +kernel
theorem dX9_turns_54 : decode cX9_turns 54 = .ok (.iload 7, 2) := by decide +kernel
theorem dX9_turns_56 : decode cX9_turns 56 = .ok (.isub, 1) := by decide +kernel
theorem dX9_turns_57 : decode cX9_turns 57 = .ok (.invokestatic 61, 3) := by decide +kernel
theorem dX9_turns_60 : decode cX9_turns 60 = .ok (.lmul, 1) := by decide +kernel
theorem dX9_turns_61 : decode cX9_turns 61 = .ok (.ladd, 1) := by decide +kernel
theorem dX9_turns_62 : decode cX9_turns 62 = .ok (.lstore 4, 2) := by decide +kernel
theorem dX9_turns_64 : decode cX9_turns 64 = .ok (.iinc 6 1, 3) := by decide +kernel
theorem dX9_turns_67 : decode cX9_turns 67 = .ok (.goto (-47), 3) := by decide +kernel
theorem dX9_turns_70 : decode cX9_turns 70 = .ok (.lload 4, 2) := by decide +kernel
theorem dX9_turns_72 : decode cX9_turns 72 = .ok (.lreturn, 1) := by decide +kernel
set_option maxRecDepth 20000 in
theorem ggX9_orders_J6_bitCount_0f7a4 : GoodIn wsX9_orders wsJ6_bitCount_0f7a4 := goodIn_r _ [5, 6, 7, 8] (by decide +kernel) (by decide +kernel)
set_option maxRecDepth 20000 in
theorem gX9_orders_J6_bitCount_0f7a4 : GoodIn wsX9_orders (va_wsS RX9 49 yJ6_bitCount_0f7a4 wsJ6_bitCount_0f7a4) := goodIn_app (goodIn_of _ (by decide +kernel)) ggX9_orders_J6_bitCount_0f7a4
set_option maxRecDepth 20000 in
theorem ggX9_orders_X9_factorial : GoodIn wsX9_orders wsX9_factorial := goodIn_r _ [12] (by decide +kernel) (by decide +kernel)
set_option maxRecDepth 20000 in
theorem gX9_orders_X9_factorial : GoodIn wsX9_orders (va_wsS RX9 61 yX9_factorial wsX9_factorial) := goodIn_app (goodIn_of _ (by decide +kernel)) ggX9_orders_X9_factorial
theorem dX9_orders_0 : decode cX9_orders 0 = .ok (.aload_n 0, 1) := by decide +kernel
theorem dX9_orders_1 : decode cX9_orders 1 = .ok (.getfield 24, 3) := by decide +kernel
theorem dX9_orders_4 : decode cX9_orders 4 = .ok (.invokestatic 49, 3) := by decide +kernel
theorem dX9_orders_7 : decode cX9_orders 7 = .ok (.invokestatic 61, 3) := by decide +kernel
theorem dX9_orders_10 : decode cX9_orders 10 = .ok (.lreturn, 1) := by decide +kernel
theorem dX9_factorial_0 : decode cX9_factorial 0 = .ok (.lconst 1, 1) := by decide +kernel
theorem dX9_factorial_1 : decode cX9_factorial 1 = .ok (.lstore_n 1, 1) := by decide +kernel
theorem dX9_factorial_2 : decode cX9_factorial 2 = .ok (.iconst 2, 1) := by decide +kernel
theorem dX9_factorial_3 : decode cX9_factorial 3 = .ok (.istore_n 3, 1) := by decide +kernel
theorem dX9_factorial_4 : decode cX9_factorial 4 = .ok (.iload_n 3, 1) := by decide +kernel
theorem dX9_factorial_5 : decode cX9_factorial 5 = .ok (.iload_n 0, 1) := by decide +kernel
theorem dX9_factorial_6 : decode cX9_factorial 6 = .ok (.if_icmp .gt 14, 3) := by decide +kernel
theorem dX9_factorial_9 : decode cX9_factorial 9 = .ok (.lload_n 1, 1) := by decide +kernel
theorem dX9_factorial_10 : decode cX9_factorial 10 = .ok (.iload_n 3, 1) := by decide +kernel
theorem dX9_factorial_11 : decode cX9_factorial 11 = .ok (.i2l, 1) := by decide +kernel
theorem dX9_factorial_12 : decode cX9_factorial 12 = .ok (.lmul, 1) := by decide +kernel
theorem dX9_factorial_13 : decode cX9_factorial 13 = .ok (.lstore_n 1, 1) := by decide +kernel
theorem dX9_factorial_14 : decode cX9_factorial 14 = .ok (.iinc 3 1, 3) := by decide +kernel
theorem dX9_factorial_17 : decode cX9_factorial 17 = .ok (.goto (-13), 3) := by decide +kernel
theorem dX9_factorial_20 : decode cX9_factorial 20 = .ok (.lload_n 1, 1) := by decide +kernel
theorem dX9_factorial_21 : decode cX9_factorial 21 = .ok (.lreturn, 1) := by decide +kernel
set_option maxRecDepth 20000 in
theorem ggX9_oddSet_X11_isWithin : GoodIn wsX9_oddSet wsX11_isWithin := goodIn_r _ [4] (by decide +kernel) (by decide +kernel)
set_option maxRecDepth 20000 in
theorem gX9_oddSet_X11_isWithin_n39 : GoodIn wsX9_oddSet (wsX11_isWithin) := ggX9_oddSet_X11_isWithin
set_option maxRecDepth 20000 in
theorem ggX9_oddSet_X9_at : GoodIn wsX9_oddSet wsX9_at := goodIn_r _ [9, 10, 11, 3, 12, 13, 14, 19, 20, 21, 22, 23] (by decide +kernel) (by decide +kernel)
set_option maxRecDepth 20000 in
theorem gX9_oddSet_X9_at : GoodIn wsX9_oddSet (wsV RX9 42 RX9 yX9_at wsX9_at) := goodIn_app (goodIn_of _ (by decide +kernel)) ggX9_oddSet_X9_at
set_option maxRecDepth 20000 in
theorem ggX9_oddSet_X9_spoiler : GoodIn wsX9_oddSet wsX9_spoiler := goodIn_r _ [18, 1, 13, 3, 14, 5, 6, 7, 8, 9, 10, 11, 12, 19, 20, 21, 22, 23] (by decide +kernel) (by decide +kernel)
set_option maxRecDepth 20000 in
theorem gX9_oddSet_X9_spoiler : GoodIn wsX9_oddSet (wsV RX9 65 RX9 yX9_spoiler wsX9_spoiler) := goodIn_app (goodIn_of _ (by decide +kernel)) ggX9_oddSet_X9_spoiler
theorem dX9_oddSet_0 : decode cX9_oddSet 0 = .ok (.iconst 0, 1) := by decide +kernel
theorem dX9_oddSet_1 : decode cX9_oddSet 1 = .ok (.istore_n 1, 1) := by decide +kernel
theorem dX9_oddSet_2 : decode cX9_oddSet 2 = .ok (.iload_n 1, 1) := by decide +kernel
theorem dX9_oddSet_3 : decode cX9_oddSet 3 = .ok (.aload_n 0, 1) := by decide +kernel
theorem dX9_oddSet_4 : decode cX9_oddSet 4 = .ok (.getfield 24, 3) := by decide +kernel
theorem dX9_oddSet_7 : decode cX9_oddSet 7 = .ok (.if_icmp .gt 39, 3) := by decide +kernel
theorem dX9_oddSet_10 : decode cX9_oddSet 10 = .ok (.iload_n 1, 1) := by decide +kernel
theorem dX9_oddSet_11 : decode cX9_oddSet 11 = .ok (.aload_n 0, 1) := by decide +kernel
theorem dX9_oddSet_12 : decode cX9_oddSet 12 = .ok (.getfield 24, 3) := by decide +kernel
theorem dX9_oddSet_15 : decode cX9_oddSet 15 = .ok (.invokestatic 39, 3) := by decide +kernel
theorem dX9_oddSet_18 : decode cX9_oddSet 18 = .ok (.ifCond .eq 22, 3) := by decide +kernel
theorem dX9_oddSet_21 : decode cX9_oddSet 21 = .ok (.aload_n 0, 1) := by decide +kernel
theorem dX9_oddSet_22 : decode cX9_oddSet 22 = .ok (.iload_n 1, 1) := by decide +kernel
theorem dX9_oddSet_23 : decode cX9_oddSet 23 = .ok (.invokevirtual 42, 3) := by decide +kernel
theorem dX9_oddSet_26 : decode cX9_oddSet 26 = .ok (.ifCond .eq 14, 3) := by decide +kernel
theorem dX9_oddSet_29 : decode cX9_oddSet 29 = .ok (.aload_n 0, 1) := by decide +kernel
theorem dX9_oddSet_30 : decode cX9_oddSet 30 = .ok (.iload_n 1, 1) := by decide +kernel
theorem dX9_oddSet_31 : decode cX9_oddSet 31 = .ok (.invokevirtual 65, 3) := by decide +kernel
theorem dX9_oddSet_34 : decode cX9_oddSet 34 = .ok (.iconst (-1), 1) := by decide +kernel
theorem dX9_oddSet_35 : decode cX9_oddSet 35 = .ok (.if_icmp .eq 5, 3) := by decide +kernel
theorem dX9_oddSet_38 : decode cX9_oddSet 38 = .ok (.iload_n 1, 1) := by decide +kernel
theorem dX9_oddSet_39 : decode cX9_oddSet 39 = .ok (.ireturn, 1) := by decide +kernel
theorem dX9_oddSet_40 : decode cX9_oddSet 40 = .ok (.iinc 1 1, 3) := by decide +kernel
theorem dX9_oddSet_43 : decode cX9_oddSet 43 = .ok (.goto (-41), 3) := by decide +kernel
theorem dX9_oddSet_46 : decode cX9_oddSet 46 = .ok (.iconst (-1), 1) := by decide +kernel
theorem dX9_oddSet_47 : decode cX9_oddSet 47 = .ok (.ireturn, 1) := by decide +kernel
set_option maxRecDepth 20000 in
theorem ggX9_spoiler_X11_has : GoodIn wsX9_spoiler wsX11_has := goodIn_r _ [4] (by decide +kernel) (by decide +kernel)
set_option maxRecDepth 20000 in
theorem gX9_spoiler_X11_has_n36 : GoodIn wsX9_spoiler (wsX11_has) := ggX9_spoiler_X11_has
set_option maxRecDepth 20000 in
theorem ggX9_spoiler_X9_at : GoodIn wsX9_spoiler wsX9_at := goodIn_r _ [9, 10, 11, 3, 12, 2, 4, 13, 14, 15, 16, 17] (by decide +kernel) (by decide +kernel)
set_option maxRecDepth 20000 in
theorem gX9_spoiler_X9_at : GoodIn wsX9_spoiler (wsV RX9 42 RX9 yX9_at wsX9_at) := goodIn_app (goodIn_of _ (by decide +kernel)) ggX9_spoiler_X9_at
theorem dX9_spoiler_0 : decode cX9_spoiler 0 = .ok (.aload_n 0, 1) := by decide +kernel
theorem dX9_spoiler_1 : decode cX9_spoiler 1 = .ok (.getfield 24, 3) := by decide +kernel
theorem dX9_spoiler_4 : decode cX9_spoiler 4 = .ok (.iload_n 1, 1) := by decide +kernel
theorem dX9_spoiler_5 : decode cX9_spoiler 5 = .ok (.iconst (-1), 1) := by decide +kernel
theorem dX9_spoiler_6 : decode cX9_spoiler 6 = .ok (.ixor, 1) := by decide +kernel
theorem dX9_spoiler_7 : decode cX9_spoiler 7 = .ok (.iand, 1) := by decide +kernel
theorem dX9_spoiler_8 : decode cX9_spoiler 8 = .ok (.istore_n 2, 1) := by decide +kernel
theorem dX9_spoiler_9 : decode cX9_spoiler 9 = .ok (.iconst 0, 1) := by decide +kernel
theorem dX9_spoiler_10 : decode cX9_spoiler 10 = .ok (.istore_n 3, 1) := by decide +kernel
theorem dX9_spoiler_11 : decode cX9_spoiler 11 = .ok (.iload_n 3, 1) := by decide +kernel
theorem dX9_spoiler_12 : decode cX9_spoiler 12 = .ok (.bipush 10, 2) := by decide +kernel
theorem dX9_spoiler_14 : decode cX9_spoiler 14 = .ok (.if_icmp .ge 31, 3) := by decide +kernel
theorem dX9_spoiler_17 : decode cX9_spoiler 17 = .ok (.iload_n 2, 1) := by decide +kernel
theorem dX9_spoiler_18 : decode cX9_spoiler 18 = .ok (.iload_n 3, 1) := by decide +kernel
theorem dX9_spoiler_19 : decode cX9_spoiler 19 = .ok (.invokestatic 36, 3) := by decide +kernel
theorem dX9_spoiler_22 : decode cX9_spoiler 22 = .ok (.ifCond .eq 17, 3) := by decide +kernel
theorem dX9_spoiler_25 : decode cX9_spoiler 25 = .ok (.aload_n 0, 1) := by decide +kernel
theorem dX9_spoiler_26 : decode cX9_spoiler 26 = .ok (.iload_n 1, 1) := by decide +kernel
theorem dX9_spoiler_27 : decode cX9_spoiler 27 = .ok (.iconst 1, 1) := by decide +kernel
theorem dX9_spoiler_28 : decode cX9_spoiler 28 = .ok (.iload_n 3, 1) := by decide +kernel
