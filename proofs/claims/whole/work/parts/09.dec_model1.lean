set_option maxRecDepth 20000 in
theorem gX12_readUnit_X12_next : GoodIn wsX12_readUnit (wsV RX12 207 RX12 yX12_next wsX12_next) := goodIn_app (goodIn_of _ (by decide +kernel)) ggX12_readUnit_X12_next
set_option maxRecDepth 20000 in
theorem ggX12_readUnit_X12_isWord : GoodIn wsX12_readUnit wsX12_isWord := goodIn_r _ [46, 1, 2, 58, 59, 60, 61, 62, 63, 64, 65, 66, 67, 68, 69, 70, 71, 72, 73, 74, 75, 76, 77, 78, 79, 80, 81, 82, 83, 84, 85, 86, 87, 88, 89, 90, 91, 92, 93, 94, 95, 96, 97, 98, 99, 100, 101, 102, 103, 104, 105, 106, 107, 108, 109] (by decide +kernel) (by decide +kernel)
set_option maxRecDepth 20000 in
theorem gX12_readUnit_X12_isWord : GoodIn wsX12_readUnit (wsV RX12 210 RX12 yX12_isWord wsX12_isWord) := goodIn_app (goodIn_of _ (by decide +kernel)) ggX12_readUnit_X12_isWord
set_option maxRecDepth 20000 in
theorem ggX12_readUnit_X12_readNumber : GoodIn wsX12_readUnit wsX12_readNumber := goodIn_r _ [50, 1, 2, 3, 4, 5, 6, 7, 8, 9, 10, 11, 12, 13, 14, 15, 16, 17, 18, 19, 20, 21, 22, 23, 24, 25, 26, 27, 28, 29, 30, 31, 32, 33, 34, 35, 36, 37, 38, 39, 40, 41, 42, 58, 59, 60, 61, 62, 63, 64, 65, 66, 67, 68, 69, 70, 71, 72, 73, 74, 75, 76, 77, 78, 79, 80, 81, 82, 83, 84, 85, 86, 87, 88, 89, 90, 91, 92, 93, 94, 95, 96, 97, 98, 99, 100, 101, 102, 103, 104, 105, 106, 107, 108, 109] (by decide +kernel) (by decide +kernel)
set_option maxRecDepth 20000 in
theorem gX12_readUnit_X12_readNumber : GoodIn wsX12_readUnit (wsV RX12 213 RX12 yX12_readNumber wsX12_readNumber) := goodIn_app (goodIn_of _ (by decide +kernel)) ggX12_readUnit_X12_readNumber
set_option maxRecDepth 20000 in
theorem ggX12_readUnit_X12_emits : GoodIn wsX12_readUnit wsX12_emits := goodIn_r _ [54, 55, 56, 57, 58, 59, 60, 61, 62, 63, 64, 65, 66, 67, 68, 69, 70, 71, 72, 73, 74, 75, 76, 77, 78, 79, 80, 81, 82, 83, 84, 85, 86, 87, 88, 89, 90, 91, 92, 93, 94, 95, 96, 97, 98, 99, 100, 101, 102, 103, 104, 105, 106, 107, 108, 109] (by decide +kernel) (by decide +kernel)
set_option maxRecDepth 20000 in
theorem gX12_readUnit_X12_emits : GoodIn wsX12_readUnit (wsV RX12 216 RX12 yX12_emits wsX12_emits) := goodIn_app (goodIn_of _ (by decide +kernel)) ggX12_readUnit_X12_emits
theorem dX12_readUnit_0 : decode cX12_readUnit 0 = .ok (.aload_n 0, 1) := by decide +kernel
theorem dX12_readUnit_1 : decode cX12_readUnit 1 = .ok (.getfield 176, 3) := by decide +kernel
theorem dX12_readUnit_4 : decode cX12_readUnit 4 = .ok (.iconst 2, 1) := by decide +kernel
theorem dX12_readUnit_5 : decode cX12_readUnit 5 = .ok (.if_icmp .ne 15, 3) := by decide +kernel
theorem dX12_readUnit_8 : decode cX12_readUnit 8 = .ok (.aload_n 0, 1) := by decide +kernel
theorem dX12_readUnit_9 : decode cX12_readUnit 9 = .ok (.getfield 179, 3) := by decide +kernel
theorem dX12_readUnit_12 : decode cX12_readUnit 12 = .ok (.iconst 3, 1) := by decide +kernel
theorem dX12_readUnit_13 : decode cX12_readUnit 13 = .ok (.if_icmp .gt 7, 3) := by decide +kernel
theorem dX12_readUnit_16 : decode cX12_readUnit 16 = .ok (.iconst 1, 1) := by decide +kernel
theorem dX12_readUnit_17 : decode cX12_readUnit 17 = .ok (.goto 4, 3) := by decide +kernel
theorem dX12_readUnit_20 : decode cX12_readUnit 20 = .ok (.iconst 0, 1) := by decide +kernel
theorem dX12_readUnit_21 : decode cX12_readUnit 21 = .ok (.istore_n 1, 1) := by decide +kernel
theorem dX12_readUnit_22 : decode cX12_readUnit 22 = .ok (.iload_n 1, 1) := by decide +kernel
theorem dX12_readUnit_23 : decode cX12_readUnit 23 = .ok (.ifCond .ne 17, 3) := by decide +kernel
theorem dX12_readUnit_26 : decode cX12_readUnit 26 = .ok (.aload_n 0, 1) := by decide +kernel
theorem dX12_readUnit_27 : decode cX12_readUnit 27 = .ok (.getfield 176, 3) := by decide +kernel
theorem dX12_readUnit_30 : decode cX12_readUnit 30 = .ok (.iconst 3, 1) := by decide +kernel
theorem dX12_readUnit_31 : decode cX12_readUnit 31 = .ok (.if_icmp .eq 9, 3) := by decide +kernel
theorem dX12_readUnit_34 : decode cX12_readUnit 34 = .ok (.aload_n 0, 1) := by decide +kernel
theorem dX12_readUnit_35 : decode cX12_readUnit 35 = .ok (.iconst 1, 1) := by decide +kernel
theorem dX12_readUnit_36 : decode cX12_readUnit 36 = .ok (.invokevirtual 204, 3) := by decide +kernel
theorem dX12_readUnit_39 : decode cX12_readUnit 39 = .ok (.ireturn, 1) := by decide +kernel
theorem dX12_readUnit_40 : decode cX12_readUnit 40 = .ok (.aload_n 0, 1) := by decide +kernel
theorem dX12_readUnit_41 : decode cX12_readUnit 41 = .ok (.getfield 179, 3) := by decide +kernel
theorem dX12_readUnit_44 : decode cX12_readUnit 44 = .ok (.istore_n 2, 1) := by decide +kernel
theorem dX12_readUnit_45 : decode cX12_readUnit 45 = .ok (.aload_n 0, 1) := by decide +kernel
theorem dX12_readUnit_46 : decode cX12_readUnit 46 = .ok (.invokevirtual 207, 3) := by decide +kernel
theorem dX12_readUnit_49 : decode cX12_readUnit 49 = .ok (.iload_n 1, 1) := by decide +kernel
theorem dX12_readUnit_50 : decode cX12_readUnit 50 = .ok (.ifCond .eq 46, 3) := by decide +kernel
theorem dX12_readUnit_53 : decode cX12_readUnit 53 = .ok (.iload_n 2, 1) := by decide +kernel
theorem dX12_readUnit_54 : decode cX12_readUnit 54 = .ok (.iconst 1, 1) := by decide +kernel
theorem dX12_readUnit_55 : decode cX12_readUnit 55 = .ok (.if_icmp .gt 41, 3) := by decide +kernel
theorem dX12_readUnit_58 : decode cX12_readUnit 58 = .ok (.aload_n 0, 1) := by decide +kernel
theorem dX12_readUnit_59 : decode cX12_readUnit 59 = .ok (.iconst 4, 1) := by decide +kernel
theorem dX12_readUnit_60 : decode cX12_readUnit 60 = .ok (.invokevirtual 210, 3) := by decide +kernel
theorem dX12_readUnit_63 : decode cX12_readUnit 63 = .ok (.ifCond .eq 33, 3) := by decide +kernel
theorem dX12_readUnit_66 : decode cX12_readUnit 66 = .ok (.aload_n 0, 1) := by decide +kernel
theorem dX12_readUnit_67 : decode cX12_readUnit 67 = .ok (.invokevirtual 207, 3) := by decide +kernel
theorem dX12_readUnit_70 : decode cX12_readUnit 70 = .ok (.aload_n 0, 1) := by decide +kernel
theorem dX12_readUnit_71 : decode cX12_readUnit 71 = .ok (.iconst 5, 1) := by decide +kernel
theorem dX12_readUnit_72 : decode cX12_readUnit 72 = .ok (.invokevirtual 213, 3) := by decide +kernel
theorem dX12_readUnit_75 : decode cX12_readUnit 75 = .ok (.istore_n 3, 1) := by decide +kernel
theorem dX12_readUnit_76 : decode cX12_readUnit 76 = .ok (.iload_n 3, 1) := by decide +kernel
theorem dX12_readUnit_77 : decode cX12_readUnit 77 = .ok (.iconst (-1), 1) := by decide +kernel
theorem dX12_readUnit_78 : decode cX12_readUnit 78 = .ok (.if_icmp .ne 5, 3) := by decide +kernel
theorem dX12_readUnit_81 : decode cX12_readUnit 81 = .ok (.iconst (-1), 1) := by decide +kernel
theorem dX12_readUnit_82 : decode cX12_readUnit 82 = .ok (.ireturn, 1) := by decide +kernel
theorem dX12_readUnit_83 : decode cX12_readUnit 83 = .ok (.aload_n 0, 1) := by decide +kernel
theorem dX12_readUnit_84 : decode cX12_readUnit 84 = .ok (.iconst 2, 1) := by decide +kernel
theorem dX12_readUnit_85 : decode cX12_readUnit 85 = .ok (.bipush 6, 2) := by decide +kernel
theorem dX12_readUnit_87 : decode cX12_readUnit 87 = .ok (.iload_n 2, 1) := by decide +kernel
theorem dX12_readUnit_88 : decode cX12_readUnit 88 = .ok (.imul, 1) := by decide +kernel
theorem dX12_readUnit_89 : decode cX12_readUnit 89 = .ok (.iload_n 3, 1) := by decide +kernel
theorem dX12_readUnit_90 : decode cX12_readUnit 90 = .ok (.iadd, 1) := by decide +kernel
theorem dX12_readUnit_91 : decode cX12_readUnit 91 = .ok (.invokevirtual 216, 3) := by decide +kernel
theorem dX12_readUnit_94 : decode cX12_readUnit 94 = .ok (.iconst 0, 1) := by decide +kernel
theorem dX12_readUnit_95 : decode cX12_readUnit 95 = .ok (.ireturn, 1) := by decide +kernel
theorem dX12_readUnit_96 : decode cX12_readUnit 96 = .ok (.aload_n 0, 1) := by decide +kernel
theorem dX12_readUnit_97 : decode cX12_readUnit 97 = .ok (.iload_n 1, 1) := by decide +kernel
theorem dX12_readUnit_98 : decode cX12_readUnit 98 = .ok (.ifCond .eq 7, 3) := by decide +kernel
theorem dX12_readUnit_101 : decode cX12_readUnit 101 = .ok (.iconst 1, 1) := by decide +kernel
theorem dX12_readUnit_102 : decode cX12_readUnit 102 = .ok (.goto 4, 3) := by decide +kernel
theorem dX12_readUnit_105 : decode cX12_readUnit 105 = .ok (.iconst 0, 1) := by decide +kernel
theorem dX12_readUnit_106 : decode cX12_readUnit 106 = .ok (.iload_n 2, 1) := by decide +kernel
theorem dX12_readUnit_107 : decode cX12_readUnit 107 = .ok (.invokevirtual 216, 3) := by decide +kernel
theorem dX12_readUnit_110 : decode cX12_readUnit 110 = .ok (.iconst 0, 1) := by decide +kernel
theorem dX12_readUnit_111 : decode cX12_readUnit 111 = .ok (.ireturn, 1) := by decide +kernel
set_option maxRecDepth 20000 in
theorem ggX12_readProduct_X12_readUnit : GoodIn wsX12_readProduct wsX12_readUnit := goodIn_r _ [5, 6, 7, 8, 9, 10, 4, 11, 12, 13, 14, 15, 16, 17, 18, 19, 20, 21, 22, 23, 24, 25, 26, 27, 28, 29, 30, 31, 32, 33, 34, 35, 36, 37, 38, 39, 40, 41, 42, 43, 44, 45, 46, 47, 48, 49, 50, 51, 52, 53, 54, 55, 56, 57, 58, 59, 60, 61, 66, 67, 68, 69, 70, 71, 72, 73, 74, 75, 76, 77, 78, 79, 80, 81, 82, 83, 84, 85, 86, 87, 88, 89, 90, 91, 92, 93, 94, 95, 96, 97, 98, 99, 100, 101, 102, 103, 104, 105, 106, 107, 108, 109, 110, 111, 112, 113, 114, 115, 116, 117] (by decide +kernel) (by decide +kernel)
set_option maxRecDepth 20000 in
theorem gX12_readProduct_X12_readUnit : GoodIn wsX12_readProduct (wsV RX12 219 RX12 yX12_readUnit wsX12_readUnit) := goodIn_app (goodIn_of _ (by decide +kernel)) ggX12_readProduct_X12_readUnit
set_option maxRecDepth 20000 in
theorem ggX12_readProduct_X12_isSign : GoodIn wsX12_readProduct wsX12_isSign := goodIn_r _ [65, 6, 7, 66, 67, 68, 69, 70, 71, 72, 73, 74, 75, 76, 77, 78, 79, 80, 81, 82, 83, 84, 85, 86, 87, 88, 89, 90, 91, 92, 93, 94, 95, 96, 97, 98, 99, 100, 101, 102, 103, 104, 105, 106, 107, 108, 109, 110, 111, 112, 113, 114, 115, 116, 117] (by decide +kernel) (by decide +kernel)
set_option maxRecDepth 20000 in
theorem gX12_readProduct_X12_isSign : GoodIn wsX12_readProduct (wsV RX12 222 RX12 yX12_isSign wsX12_isSign) := goodIn_app (goodIn_of _ (by decide +kernel)) ggX12_readProduct_X12_isSign
set_option maxRecDepth 20000 in
theorem ggX12_readProduct_X12_next : GoodIn wsX12_readProduct wsX12_next := goodIn_r _ [18, 19, 13, 6, 7, 20, 21, 22, 4, 23, 24, 25, 26, 27, 28, 29, 30, 31, 32, 33, 34, 35, 36, 37, 38, 39, 40, 41, 42, 43, 44, 45, 46, 66, 67, 68, 69, 70, 71, 72, 73, 74, 75, 76, 77, 78, 79, 80, 81, 82, 83, 84, 85, 86, 87, 88, 89, 90, 91, 92, 93, 94, 95, 96, 97, 98, 99, 100, 101, 102, 103, 104, 105, 106, 107, 108, 109, 110, 111, 112, 113, 114, 115, 116, 117] (by decide +kernel) (by decide +kernel)
set_option maxRecDepth 20000 in
theorem gX12_readProduct_X12_next : GoodIn wsX12_readProduct (wsV RX12 207 RX12 yX12_next wsX12_next) := goodIn_app (goodIn_of _ (by decide +kernel)) ggX12_readProduct_X12_next
set_option maxRecDepth 20000 in
theorem ggX12_readProduct_X12_emits : GoodIn wsX12_readProduct wsX12_emits := goodIn_r _ [58, 59, 60, 61, 66, 67, 68, 69, 70, 71, 72, 73, 74, 75, 76, 77, 78, 79, 80, 81, 82, 83, 84, 85, 86, 87, 88, 89, 90, 91, 92, 93, 94, 95, 96, 97, 98, 99, 100, 101, 102, 103, 104, 105, 106, 107, 108, 109, 110, 111, 112, 113, 114, 115, 116, 117] (by decide +kernel) (by decide +kernel)
set_option maxRecDepth 20000 in
theorem gX12_readProduct_X12_emits : GoodIn wsX12_readProduct (wsV RX12 216 RX12 yX12_emits wsX12_emits) := goodIn_app (goodIn_of _ (by decide +kernel)) ggX12_readProduct_X12_emits
theorem dX12_readProduct_0 : decode cX12_readProduct 0 = .ok (.aload_n 0, 1) := by decide +kernel
theorem dX12_readProduct_1 : decode cX12_readProduct 1 = .ok (.invokevirtual 219, 3) := by decide +kernel
theorem dX12_readProduct_4 : decode cX12_readProduct 4 = .ok (.iconst (-1), 1) := by decide +kernel
theorem dX12_readProduct_5 : decode cX12_readProduct 5 = .ok (.if_icmp .ne 5, 3) := by decide +kernel
theorem dX12_readProduct_8 : decode cX12_readProduct 8 = .ok (.iconst (-1), 1) := by decide +kernel
theorem dX12_readProduct_9 : decode cX12_readProduct 9 = .ok (.ireturn, 1) := by decide +kernel
theorem dX12_readProduct_10 : decode cX12_readProduct 10 = .ok (.aload_n 0, 1) := by decide +kernel
theorem dX12_readProduct_11 : decode cX12_readProduct 11 = .ok (.bipush 42, 2) := by decide +kernel
theorem dX12_readProduct_13 : decode cX12_readProduct 13 = .ok (.invokevirtual 222, 3) := by decide +kernel
theorem dX12_readProduct_16 : decode cX12_readProduct 16 = .ok (.ifCond .eq 27, 3) := by decide +kernel
theorem dX12_readProduct_19 : decode cX12_readProduct 19 = .ok (.aload_n 0, 1) := by decide +kernel
theorem dX12_readProduct_20 : decode cX12_readProduct 20 = .ok (.invokevirtual 207, 3) := by decide +kernel
theorem dX12_readProduct_23 : decode cX12_readProduct 23 = .ok (.aload_n 0, 1) := by decide +kernel
theorem dX12_readProduct_24 : decode cX12_readProduct 24 = .ok (.invokevirtual 219, 3) := by decide +kernel
theorem dX12_readProduct_27 : decode cX12_readProduct 27 = .ok (.iconst (-1), 1) := by decide +kernel
theorem dX12_readProduct_28 : decode cX12_readProduct 28 = .ok (.if_icmp .ne 5, 3) := by decide +kernel
theorem dX12_readProduct_31 : decode cX12_readProduct 31 = .ok (.iconst (-1), 1) := by decide +kernel
theorem dX12_readProduct_32 : decode cX12_readProduct 32 = .ok (.ireturn, 1) := by decide +kernel
theorem dX12_readProduct_33 : decode cX12_readProduct 33 = .ok (.aload_n 0, 1) := by decide +kernel
theorem dX12_readProduct_34 : decode cX12_readProduct 34 = .ok (.bipush 6, 2) := by decide +kernel
theorem dX12_readProduct_36 : decode cX12_readProduct 36 = .ok (.iconst 0, 1) := by decide +kernel
theorem dX12_readProduct_37 : decode cX12_readProduct 37 = .ok (.invokevirtual 216, 3) := by decide +kernel
theorem dX12_readProduct_40 : decode cX12_readProduct 40 = .ok (.goto (-30), 3) := by decide +kernel
theorem dX12_readProduct_43 : decode cX12_readProduct 43 = .ok (.iconst 0, 1) := by decide +kernel
theorem dX12_readProduct_44 : decode cX12_readProduct 44 = .ok (.ireturn, 1) := by decide +kernel
set_option maxRecDepth 20000 in
theorem ggX12_readSum_X12_readProduct : GoodIn wsX12_readSum wsX12_readProduct := goodIn_r _ [6, 7, 8, 9, 5, 10, 11, 1, 12, 13, 14, 15, 16, 17, 18, 19, 20, 21, 22, 23, 24, 25, 26, 27, 28, 29, 30, 31, 32, 33, 34, 35, 36, 37, 38, 39, 40, 41, 42, 43, 44, 45, 46, 47, 48, 49, 50, 51, 52, 53, 54, 55, 56, 57, 58, 59, 60, 61, 62, 63, 64, 65, 66, 67, 68, 69, 70, 71, 72, 73, 74, 75, 76, 77, 78, 79, 80, 81, 82, 83, 84, 85, 86, 87, 88, 89, 90, 91, 92, 93, 94, 95, 96, 97, 98, 99, 100, 101, 102, 103, 104, 105, 106, 107, 108, 109, 110, 111, 112, 113, 114, 115, 116, 117, 118, 119, 120, 121] (by decide +kernel) (by decide +kernel)
set_option maxRecDepth 20000 in
theorem gX12_readSum_X12_readProduct : GoodIn wsX12_readSum (wsV RX12 225 RX12 yX12_readProduct wsX12_readProduct) := goodIn_app (goodIn_of _ (by decide +kernel)) ggX12_readSum_X12_readProduct
set_option maxRecDepth 20000 in
theorem ggX12_readSum_X12_isSign : GoodIn wsX12_readSum wsX12_isSign := goodIn_r _ [69, 11, 1, 70, 71, 72, 73, 74, 75, 76, 77, 78, 79, 80, 81, 82, 83, 84, 85, 86, 87, 88, 89, 90, 91, 92, 93, 94, 95, 96, 97, 98, 99, 100, 101, 102, 103, 104, 105, 106, 107, 108, 109, 110, 111, 112, 113, 114, 115, 116, 117, 118, 119, 120, 121] (by decide +kernel) (by decide +kernel)
set_option maxRecDepth 20000 in
theorem gX12_readSum_X12_isSign : GoodIn wsX12_readSum (wsV RX12 222 RX12 yX12_isSign wsX12_isSign) := goodIn_app (goodIn_of _ (by decide +kernel)) ggX12_readSum_X12_isSign
set_option maxRecDepth 20000 in
theorem ggX12_readSum_X12_next : GoodIn wsX12_readSum wsX12_next := goodIn_r _ [22, 23, 17, 11, 1, 24, 25, 26, 5, 27, 28, 29, 30, 31, 32, 33, 34, 35, 36, 37, 38, 39, 40, 41, 42, 43, 44, 45, 46, 47, 48, 49, 50, 70, 71, 72, 73, 74, 75, 76, 77, 78, 79, 80, 81, 82, 83, 84, 85, 86, 87, 88, 89, 90, 91, 92, 93, 94, 95, 96, 97, 98, 99, 100, 101, 102, 103, 104, 105, 106, 107, 108, 109, 110, 111, 112, 113, 114, 115, 116, 117, 118, 119, 120, 121] (by decide +kernel) (by decide +kernel)
set_option maxRecDepth 20000 in
theorem gX12_readSum_X12_next : GoodIn wsX12_readSum (wsV RX12 207 RX12 yX12_next wsX12_next) := goodIn_app (goodIn_of _ (by decide +kernel)) ggX12_readSum_X12_next
set_option maxRecDepth 20000 in
theorem ggX12_readSum_X12_emits : GoodIn wsX12_readSum wsX12_emits := goodIn_r _ [62, 63, 64, 65, 70, 71, 72, 73, 74, 75, 76, 77, 78, 79, 80, 81, 82, 83, 84, 85, 86, 87, 88, 89, 90, 91, 92, 93, 94, 95, 96, 97, 98, 99, 100, 101, 102, 103, 104, 105, 106, 107, 108, 109, 110, 111, 112, 113, 114, 115, 116, 117, 118, 119, 120, 121] (by decide +kernel) (by decide +kernel)
set_option maxRecDepth 20000 in
theorem gX12_readSum_X12_emits : GoodIn wsX12_readSum (wsV RX12 216 RX12 yX12_emits wsX12_emits) := goodIn_app (goodIn_of _ (by decide +kernel)) ggX12_readSum_X12_emits
theorem dX12_readSum_0 : decode cX12_readSum 0 = .ok (.aload_n 0, 1) := by decide +kernel
theorem dX12_readSum_1 : decode cX12_readSum 1 = .ok (.invokevirtual 225, 3) := by decide +kernel
theorem dX12_readSum_4 : decode cX12_readSum 4 = .ok (.iconst (-1), 1) := by decide +kernel
theorem dX12_readSum_5 : decode cX12_readSum 5 = .ok (.if_icmp .ne 5, 3) := by decide +kernel
theorem dX12_readSum_8 : decode cX12_readSum 8 = .ok (.iconst (-1), 1) := by decide +kernel
theorem dX12_readSum_9 : decode cX12_readSum 9 = .ok (.ireturn, 1) := by decide +kernel
theorem dX12_readSum_10 : decode cX12_readSum 10 = .ok (.aload_n 0, 1) := by decide +kernel
theorem dX12_readSum_11 : decode cX12_readSum 11 = .ok (.bipush 43, 2) := by decide +kernel
theorem dX12_readSum_13 : decode cX12_readSum 13 = .ok (.invokevirtual 222, 3) := by decide +kernel
theorem dX12_readSum_16 : decode cX12_readSum 16 = .ok (.ifCond .ne 12, 3) := by decide +kernel
theorem dX12_readSum_19 : decode cX12_readSum 19 = .ok (.aload_n 0, 1) := by decide +kernel
theorem dX12_readSum_20 : decode cX12_readSum 20 = .ok (.bipush 45, 2) := by decide +kernel
theorem dX12_readSum_22 : decode cX12_readSum 22 = .ok (.invokevirtual 222, 3) := by decide +kernel
theorem dX12_readSum_25 : decode cX12_readSum 25 = .ok (.ifCond .eq 41, 3) := by decide +kernel
theorem dX12_readSum_28 : decode cX12_readSum 28 = .ok (.aload_n 0, 1) := by decide +kernel
theorem dX12_readSum_29 : decode cX12_readSum 29 = .ok (.getfield 179, 3) := by decide +kernel
theorem dX12_readSum_32 : decode cX12_readSum 32 = .ok (.bipush 43, 2) := by decide +kernel
theorem dX12_readSum_34 : decode cX12_readSum 34 = .ok (.if_icmp .ne 7, 3) := by decide +kernel
theorem dX12_readSum_37 : decode cX12_readSum 37 = .ok (.iconst 4, 1) := by decide +kernel
theorem dX12_readSum_38 : decode cX12_readSum 38 = .ok (.goto 4, 3) := by decide +kernel
theorem dX12_readSum_41 : decode cX12_readSum 41 = .ok (.iconst 5, 1) := by decide +kernel
theorem dX12_readSum_42 : decode cX12_readSum 42 = .ok (.istore_n 1, 1) := by decide +kernel
theorem dX12_readSum_43 : decode cX12_readSum 43 = .ok (.aload_n 0, 1) := by decide +kernel
theorem dX12_readSum_44 : decode cX12_readSum 44 = .ok (.invokevirtual 207, 3) := by decide +kernel
theorem dX12_readSum_47 : decode cX12_readSum 47 = .ok (.aload_n 0, 1) := by decide +kernel
theorem dX12_readSum_48 : decode cX12_readSum 48 = .ok (.invokevirtual 225, 3) := by decide +kernel
theorem dX12_readSum_51 : decode cX12_readSum 51 = .ok (.iconst (-1), 1) := by decide +kernel
theorem dX12_readSum_52 : decode cX12_readSum 52 = .ok (.if_icmp .ne 5, 3) := by decide +kernel
theorem dX12_readSum_55 : decode cX12_readSum 55 = .ok (.iconst (-1), 1) := by decide +kernel
theorem dX12_readSum_56 : decode cX12_readSum 56 = .ok (.ireturn, 1) := by decide +kernel
theorem dX12_readSum_57 : decode cX12_readSum 57 = .ok (.aload_n 0, 1) := by decide +kernel
theorem dX12_readSum_58 : decode cX12_readSum 58 = .ok (.iload_n 1, 1) := by decide +kernel
theorem dX12_readSum_59 : decode cX12_readSum 59 = .ok (.iconst 0, 1) := by decide +kernel
theorem dX12_readSum_60 : decode cX12_readSum 60 = .ok (.invokevirtual 216, 3) := by decide +kernel
theorem dX12_readSum_63 : decode cX12_readSum 63 = .ok (.goto (-53), 3) := by decide +kernel
theorem dX12_readSum_66 : decode cX12_readSum 66 = .ok (.iconst 0, 1) := by decide +kernel
theorem dX12_readSum_67 : decode cX12_readSum 67 = .ok (.ireturn, 1) := by decide +kernel
set_option maxRecDepth 20000 in
theorem ggX12_readCompared_X12_isWord : GoodIn wsX12_readCompared wsX12_isWord := goodIn_r _ [6, 7, 1, 74, 75, 76, 77, 78, 79, 80, 81, 82, 83, 84, 85, 86, 87, 88, 89, 90, 91, 92, 93, 94, 95, 96, 97, 98, 99, 100, 101, 102, 103, 104, 105, 106, 107, 108, 109, 110, 111, 112, 113, 114, 115, 116, 117, 118, 119, 120, 121, 122, 123, 124, 125] (by decide +kernel) (by decide +kernel)
set_option maxRecDepth 20000 in
theorem gX12_readCompared_X12_isWord : GoodIn wsX12_readCompared (wsV RX12 210 RX12 yX12_isWord wsX12_isWord) := goodIn_app (goodIn_of _ (by decide +kernel)) ggX12_readCompared_X12_isWord
set_option maxRecDepth 20000 in
theorem ggX12_readCompared_X12_next : GoodIn wsX12_readCompared wsX12_next := goodIn_r _ [11, 12, 13, 7, 1, 14, 15, 16, 5, 17, 18, 19, 20, 21, 22, 23, 24, 25, 26, 27, 28, 29, 30, 31, 32, 33, 34, 35, 36, 37, 38, 39, 40, 74, 75, 76, 77, 78, 79, 80, 81, 82, 83, 84, 85, 86, 87, 88, 89, 90, 91, 92, 93, 94, 95, 96, 97, 98, 99, 100, 101, 102, 103, 104, 105, 106, 107, 108, 109, 110, 111, 112, 113, 114, 115, 116, 117, 118, 119, 120, 121, 122, 123, 124, 125] (by decide +kernel) (by decide +kernel)
set_option maxRecDepth 20000 in
theorem gX12_readCompared_X12_next : GoodIn wsX12_readCompared (wsV RX12 207 RX12 yX12_next wsX12_next) := goodIn_app (goodIn_of _ (by decide +kernel)) ggX12_readCompared_X12_next
set_option maxRecDepth 20000 in
theorem ggX12_readCompared_X12_readNumber : GoodIn wsX12_readCompared wsX12_readNumber := goodIn_r _ [44, 7, 1, 45, 46, 47, 5, 48, 49, 13, 50, 8, 9, 10, 11, 12, 14, 15, 16, 17, 18, 19, 20, 21, 22, 23, 24, 25, 26, 27, 28, 29, 30, 31, 32, 33, 34, 35, 36, 37, 38, 39, 40, 74, 75, 76, 77, 78, 79, 80, 81, 82, 83, 84, 85, 86, 87, 88, 89, 90, 91, 92, 93, 94, 95, 96, 97, 98, 99, 100, 101, 102, 103, 104, 105, 106, 107, 108, 109, 110, 111, 112, 113, 114, 115, 116, 117, 118, 119, 120, 121, 122, 123, 124, 125] (by decide +kernel) (by decide +kernel)
set_option maxRecDepth 20000 in
theorem gX12_readCompared_X12_readNumber : GoodIn wsX12_readCompared (wsV RX12 213 RX12 yX12_readNumber wsX12_readNumber) := goodIn_app (goodIn_of _ (by decide +kernel)) ggX12_readCompared_X12_readNumber
set_option maxRecDepth 20000 in
theorem ggX12_readCompared_X12_emits : GoodIn wsX12_readCompared wsX12_emits := goodIn_r _ [54, 55, 56, 57, 74, 75, 76, 77, 78, 79, 80, 81, 82, 83, 84, 85, 86, 87, 88, 89, 90, 91, 92, 93, 94, 95, 96, 97, 98, 99, 100, 101, 102, 103, 104, 105, 106, 107, 108, 109, 110, 111, 112, 113, 114, 115, 116, 117, 118, 119, 120, 121, 122, 123, 124, 125] (by decide +kernel) (by decide +kernel)
set_option maxRecDepth 20000 in
theorem gX12_readCompared_X12_emits : GoodIn wsX12_readCompared (wsV RX12 216 RX12 yX12_emits wsX12_emits) := goodIn_app (goodIn_of _ (by decide +kernel)) ggX12_readCompared_X12_emits
set_option maxRecDepth 20000 in
theorem ggX12_readCompared_X12_readSum : GoodIn wsX12_readCompared wsX12_readSum := goodIn_r _ [61, 1, 62, 63, 64, 5, 65, 66, 67, 68, 69, 7, 45, 46, 47, 48, 49, 13, 50, 8, 9, 10, 11, 12, 14, 15, 16, 17, 18, 19, 20, 21, 22, 23, 24, 25, 26, 27, 28, 29, 30, 31, 32, 33, 34, 35, 36, 37, 38, 39, 40, 2, 3, 4, 6, 41, 42, 43, 44, 51, 52, 53, 54, 55, 56, 57, 70, 71, 72, 73, 74, 75, 76, 77, 78, 79, 80, 81, 82, 83, 84, 85, 86, 87, 88, 89, 90, 91, 92, 93, 94, 95, 96, 97, 98, 99, 100, 101, 102, 103, 104, 105, 106, 107, 108, 109, 110, 111, 112, 113, 114, 115, 116, 117, 118, 119, 120, 121, 122, 123, 124, 125] (by decide +kernel) (by decide +kernel)
set_option maxRecDepth 20000 in
theorem gX12_readCompared_X12_readSum : GoodIn wsX12_readCompared (wsV RX12 228 RX12 yX12_readSum wsX12_readSum) := goodIn_app (goodIn_of _ (by decide +kernel)) ggX12_readCompared_X12_readSum
set_option maxRecDepth 20000 in
theorem ggX12_readCompared_X12_isSign : GoodIn wsX12_readCompared wsX12_isSign := goodIn_r _ [73, 7, 1, 74, 75, 76, 77, 78, 79, 80, 81, 82, 83, 84, 85, 86, 87, 88, 89, 90, 91, 92, 93, 94, 95, 96, 97, 98, 99, 100, 101, 102, 103, 104, 105, 106, 107, 108, 109, 110, 111, 112, 113, 114, 115, 116, 117, 118, 119, 120, 121, 122, 123, 124, 125] (by decide +kernel) (by decide +kernel)
set_option maxRecDepth 20000 in
theorem gX12_readCompared_X12_isSign : GoodIn wsX12_readCompared (wsV RX12 222 RX12 yX12_isSign wsX12_isSign) := goodIn_app (goodIn_of _ (by decide +kernel)) ggX12_readCompared_X12_isSign
set_option maxRecDepth 20000 in
theorem ggX12_readCompared_X12_fails : GoodIn wsX12_readCompared wsX12_fails := goodIn_r _ [48, 49, 13, 50, 74, 75, 76, 77, 78, 79, 80, 81, 82, 83, 84, 85, 86, 87, 88, 89, 90, 91, 92, 93, 94, 95, 96, 97, 98, 99, 100, 101, 102, 103, 104, 105, 106, 107, 108, 109, 110, 111, 112, 113, 114, 115, 116, 117, 118, 119, 120, 121, 122, 123, 124, 125] (by decide +kernel) (by decide +kernel)
set_option maxRecDepth 20000 in
theorem gX12_readCompared_X12_fails : GoodIn wsX12_readCompared (wsV RX12 204 RX12 yX12_fails wsX12_fails) := goodIn_app (goodIn_of _ (by decide +kernel)) ggX12_readCompared_X12_fails
theorem dX12_readCompared_0 : decode cX12_readCompared 0 = .ok (.aload_n 0, 1) := by decide +kernel
theorem dX12_readCompared_1 : decode cX12_readCompared 1 = .ok (.iconst 5, 1) := by decide +kernel
theorem dX12_readCompared_2 : decode cX12_readCompared 2 = .ok (.invokevirtual 210, 3) := by decide +kernel
theorem dX12_readCompared_5 : decode cX12_readCompared 5 = .ok (.ifCond .eq 29, 3) := by decide +kernel
theorem dX12_readCompared_8 : decode cX12_readCompared 8 = .ok (.aload_n 0, 1) := by decide +kernel
theorem dX12_readCompared_9 : decode cX12_readCompared 9 = .ok (.invokevirtual 207, 3) := by decide +kernel
theorem dX12_readCompared_12 : decode cX12_readCompared 12 = .ok (.aload_n 0, 1) := by decide +kernel
theorem dX12_readCompared_13 : decode cX12_readCompared 13 = .ok (.bipush 9, 2) := by decide +kernel
theorem dX12_readCompared_15 : decode cX12_readCompared 15 = .ok (.invokevirtual 213, 3) := by decide +kernel
theorem dX12_readCompared_18 : decode cX12_readCompared 18 = .ok (.istore_n 1, 1) := by decide +kernel
theorem dX12_readCompared_19 : decode cX12_readCompared 19 = .ok (.iload_n 1, 1) := by decide +kernel
theorem dX12_readCompared_20 : decode cX12_readCompared 20 = .ok (.iconst (-1), 1) := by decide +kernel
theorem dX12_readCompared_21 : decode cX12_readCompared 21 = .ok (.if_icmp .ne 5, 3) := by decide +kernel
theorem dX12_readCompared_24 : decode cX12_readCompared 24 = .ok (.iconst (-1), 1) := by decide +kernel
theorem dX12_readCompared_25 : decode cX12_readCompared 25 = .ok (.ireturn, 1) := by decide +kernel
theorem dX12_readCompared_26 : decode cX12_readCompared 26 = .ok (.aload_n 0, 1) := by decide +kernel
theorem dX12_readCompared_27 : decode cX12_readCompared 27 = .ok (.iconst 3, 1) := by decide +kernel
theorem dX12_readCompared_28 : decode cX12_readCompared 28 = .ok (.iload_n 1, 1) := by decide +kernel
theorem dX12_readCompared_29 : decode cX12_readCompared 29 = .ok (.invokevirtual 216, 3) := by decide +kernel
theorem dX12_readCompared_32 : decode cX12_readCompared 32 = .ok (.iconst 0, 1) := by decide +kernel
theorem dX12_readCompared_33 : decode cX12_readCompared 33 = .ok (.ireturn, 1) := by decide +kernel
theorem dX12_readCompared_34 : decode cX12_readCompared 34 = .ok (.aload_n 0, 1) := by decide +kernel
theorem dX12_readCompared_35 : decode cX12_readCompared 35 = .ok (.invokevirtual 228, 3) := by decide +kernel
theorem dX12_readCompared_38 : decode cX12_readCompared 38 = .ok (.iconst (-1), 1) := by decide +kernel
theorem dX12_readCompared_39 : decode cX12_readCompared 39 = .ok (.if_icmp .ne 5, 3) := by decide +kernel
theorem dX12_readCompared_42 : decode cX12_readCompared 42 = .ok (.iconst (-1), 1) := by decide +kernel
theorem dX12_readCompared_43 : decode cX12_readCompared 43 = .ok (.ireturn, 1) := by decide +kernel
theorem dX12_readCompared_44 : decode cX12_readCompared 44 = .ok (.aload_n 0, 1) := by decide +kernel
theorem dX12_readCompared_45 : decode cX12_readCompared 45 = .ok (.bipush 60, 2) := by decide +kernel
theorem dX12_readCompared_47 : decode cX12_readCompared 47 = .ok (.invokevirtual 222, 3) := by decide +kernel
theorem dX12_readCompared_50 : decode cX12_readCompared 50 = .ok (.ifCond .ne 27, 3) := by decide +kernel
theorem dX12_readCompared_53 : decode cX12_readCompared 53 = .ok (.aload_n 0, 1) := by decide +kernel
theorem dX12_readCompared_54 : decode cX12_readCompared 54 = .ok (.bipush 61, 2) := by decide +kernel
theorem dX12_readCompared_56 : decode cX12_readCompared 56 = .ok (.invokevirtual 222, 3) := by decide +kernel
theorem dX12_readCompared_59 : decode cX12_readCompared 59 = .ok (.ifCond .ne 18, 3) := by decide +kernel
theorem dX12_readCompared_62 : decode cX12_readCompared 62 = .ok (.aload_n 0, 1) := by decide +kernel
theorem dX12_readCompared_63 : decode cX12_readCompared 63 = .ok (.bipush 62, 2) := by decide +kernel
theorem dX12_readCompared_65 : decode cX12_readCompared 65 = .ok (.invokevirtual 222, 3) := by decide +kernel
theorem dX12_readCompared_68 : decode cX12_readCompared 68 = .ok (.ifCond .ne 9, 3) := by decide +kernel
theorem dX12_readCompared_71 : decode cX12_readCompared 71 = .ok (.aload_n 0, 1) := by decide +kernel
theorem dX12_readCompared_72 : decode cX12_readCompared 72 = .ok (.iconst 1, 1) := by decide +kernel
theorem dX12_readCompared_73 : decode cX12_readCompared 73 = .ok (.invokevirtual 204, 3) := by decide +kernel
theorem dX12_readCompared_76 : decode cX12_readCompared 76 = .ok (.ireturn, 1) := by decide +kernel
theorem dX12_readCompared_77 : decode cX12_readCompared 77 = .ok (.aload_n 0, 1) := by decide +kernel
theorem dX12_readCompared_78 : decode cX12_readCompared 78 = .ok (.getfield 179, 3) := by decide +kernel
theorem dX12_readCompared_81 : decode cX12_readCompared 81 = .ok (.bipush 60, 2) := by decide +kernel
theorem dX12_readCompared_83 : decode cX12_readCompared 83 = .ok (.if_icmp .ne 8, 3) := by decide +kernel
theorem dX12_readCompared_86 : decode cX12_readCompared 86 = .ok (.bipush 7, 2) := by decide +kernel
theorem dX12_readCompared_88 : decode cX12_readCompared 88 = .ok (.goto 19, 3) := by decide +kernel
theorem dX12_readCompared_91 : decode cX12_readCompared 91 = .ok (.aload_n 0, 1) := by decide +kernel
theorem dX12_readCompared_92 : decode cX12_readCompared 92 = .ok (.getfield 179, 3) := by decide +kernel
theorem dX12_readCompared_95 : decode cX12_readCompared 95 = .ok (.bipush 61, 2) := by decide +kernel
theorem dX12_readCompared_97 : decode cX12_readCompared 97 = .ok (.if_icmp .ne 8, 3) := by decide +kernel
theorem dX12_readCompared_100 : decode cX12_readCompared 100 = .ok (.bipush 8, 2) := by decide +kernel
theorem dX12_readCompared_102 : decode cX12_readCompared 102 = .ok (.goto 5, 3) := by decide +kernel
theorem dX12_readCompared_105 : decode cX12_readCompared 105 = .ok (.bipush 9, 2) := by decide +kernel
theorem dX12_readCompared_107 : decode cX12_readCompared 107 = .ok (.istore_n 1, 1) := by decide +kernel
theorem dX12_readCompared_108 : decode cX12_readCompared 108 = .ok (.aload_n 0, 1) := by decide +kernel
theorem dX12_readCompared_109 : decode cX12_readCompared 109 = .ok (.invokevirtual 207, 3) := by decide +kernel
theorem dX12_readCompared_112 : decode cX12_readCompared 112 = .ok (.aload_n 0, 1) := by decide +kernel
theorem dX12_readCompared_113 : decode cX12_readCompared 113 = .ok (.invokevirtual 228, 3) := by decide +kernel
theorem dX12_readCompared_116 : decode cX12_readCompared 116 = .ok (.iconst (-1), 1) := by decide +kernel
theorem dX12_readCompared_117 : decode cX12_readCompared 117 = .ok (.if_icmp .ne 5, 3) := by decide +kernel
theorem dX12_readCompared_120 : decode cX12_readCompared 120 = .ok (.iconst (-1), 1) := by decide +kernel
theorem dX12_readCompared_121 : decode cX12_readCompared 121 = .ok (.ireturn, 1) := by decide +kernel
theorem dX12_readCompared_122 : decode cX12_readCompared 122 = .ok (.aload_n 0, 1) := by decide +kernel
theorem dX12_readCompared_123 : decode cX12_readCompared 123 = .ok (.iload_n 1, 1) := by decide +kernel
theorem dX12_readCompared_124 : decode cX12_readCompared 124 = .ok (.iconst 0, 1) := by decide +kernel
theorem dX12_readCompared_125 : decode cX12_readCompared 125 = .ok (.invokevirtual 216, 3) := by decide +kernel
theorem dX12_readCompared_128 : decode cX12_readCompared 128 = .ok (.iconst 0, 1) := by decide +kernel
theorem dX12_readCompared_129 : decode cX12_readCompared 129 = .ok (.ireturn, 1) := by decide +kernel
theorem dX12_waits_0 : decode cX12_waits 0 = .ok (.aload_n 0, 1) := by decide +kernel
theorem dX12_waits_1 : decode cX12_waits 1 = .ok (.getfield 60, 3) := by decide +kernel
theorem dX12_waits_4 : decode cX12_waits 4 = .ok (.aload_n 0, 1) := by decide +kernel
theorem dX12_waits_5 : decode cX12_waits 5 = .ok (.getfield 231, 3) := by decide +kernel
theorem dX12_waits_8 : decode cX12_waits 8 = .ok (.iload_n 1, 1) := by decide +kernel
theorem dX12_waits_9 : decode cX12_waits 9 = .ok (.iastore, 1) := by decide +kernel
theorem dX12_waits_10 : decode cX12_waits 10 = .ok (.aload_n 0, 1) := by decide +kernel
theorem dX12_waits_11 : decode cX12_waits 11 = .ok (.aload_n 0, 1) := by decide +kernel
theorem dX12_waits_12 : decode cX12_waits 12 = .ok (.getfield 231, 3) := by decide +kernel
theorem dX12_waits_15 : decode cX12_waits 15 = .ok (.iconst 1, 1) := by decide +kernel
theorem dX12_waits_16 : decode cX12_waits 16 = .ok (.iadd, 1) := by decide +kernel
theorem dX12_waits_17 : decode cX12_waits 17 = .ok (.putfield 231, 3) := by decide +kernel
theorem dX12_waits_20 : decode cX12_waits 20 = .ok (.return_, 1) := by decide +kernel
set_option maxRecDepth 20000 in
theorem ggX12_settles_X12_emits : GoodIn wsX12_settles wsX12_emits := goodIn_r _ [8, 9, 10, 11, 12, 13, 14, 15, 16, 17, 18, 19, 20, 21, 22, 23, 24, 25, 26, 27, 28, 29, 30, 31, 32, 33, 34, 35, 36, 37, 38, 39, 40, 41, 42, 43, 44, 45, 46, 47, 48, 49, 50, 51, 52, 53, 54, 55, 56, 57, 58, 59, 60, 61, 62, 63] (by decide +kernel) (by decide +kernel)
set_option maxRecDepth 20000 in
theorem gX12_settles_X12_emits : GoodIn wsX12_settles (wsV RX12 216 RX12 yX12_emits wsX12_emits) := goodIn_app (goodIn_of _ (by decide +kernel)) ggX12_settles_X12_emits
theorem dX12_settles_0 : decode cX12_settles 0 = .ok (.aload_n 0, 1) := by decide +kernel
theorem dX12_settles_1 : decode cX12_settles 1 = .ok (.getfield 231, 3) := by decide +kernel
theorem dX12_settles_4 : decode cX12_settles 4 = .ok (.ifCond .le 53, 3) := by decide +kernel
theorem dX12_settles_7 : decode cX12_settles 7 = .ok (.aload_n 0, 1) := by decide +kernel
theorem dX12_settles_8 : decode cX12_settles 8 = .ok (.getfield 60, 3) := by decide +kernel
theorem dX12_settles_11 : decode cX12_settles 11 = .ok (.aload_n 0, 1) := by decide +kernel
theorem dX12_settles_12 : decode cX12_settles 12 = .ok (.getfield 231, 3) := by decide +kernel
theorem dX12_settles_15 : decode cX12_settles 15 = .ok (.iconst 1, 1) := by decide +kernel
theorem dX12_settles_16 : decode cX12_settles 16 = .ok (.isub, 1) := by decide +kernel
theorem dX12_settles_17 : decode cX12_settles 17 = .ok (.iaload, 1) := by decide +kernel
theorem dX12_settles_18 : decode cX12_settles 18 = .ok (.iload_n 1, 1) := by decide +kernel
theorem dX12_settles_19 : decode cX12_settles 19 = .ok (.if_icmp .ne 38, 3) := by decide +kernel
theorem dX12_settles_22 : decode cX12_settles 22 = .ok (.aload_n 0, 1) := by decide +kernel
theorem dX12_settles_23 : decode cX12_settles 23 = .ok (.aload_n 0, 1) := by decide +kernel
theorem dX12_settles_24 : decode cX12_settles 24 = .ok (.getfield 231, 3) := by decide +kernel
theorem dX12_settles_27 : decode cX12_settles 27 = .ok (.iconst 1, 1) := by decide +kernel
theorem dX12_settles_28 : decode cX12_settles 28 = .ok (.isub, 1) := by decide +kernel
theorem dX12_settles_29 : decode cX12_settles 29 = .ok (.putfield 231, 3) := by decide +kernel
theorem dX12_settles_32 : decode cX12_settles 32 = .ok (.aload_n 0, 1) := by decide +kernel
theorem dX12_settles_33 : decode cX12_settles 33 = .ok (.iload_n 1, 1) := by decide +kernel
theorem dX12_settles_34 : decode cX12_settles 34 = .ok (.iconst 0, 1) := by decide +kernel
theorem dX12_settles_35 : decode cX12_settles 35 = .ok (.invokevirtual 216, 3) := by decide +kernel
theorem dX12_settles_38 : decode cX12_settles 38 = .ok (.iload_n 1, 1) := by decide +kernel
theorem dX12_settles_39 : decode cX12_settles 39 = .ok (.bipush 10, 2) := by decide +kernel
theorem dX12_settles_41 : decode cX12_settles 41 = .ok (.if_icmp .ne (-41), 3) := by decide +kernel
theorem dX12_settles_44 : decode cX12_settles 44 = .ok (.aload_n 0, 1) := by decide +kernel
theorem dX12_settles_45 : decode cX12_settles 45 = .ok (.aload_n 0, 1) := by decide +kernel
theorem dX12_settles_46 : decode cX12_settles 46 = .ok (.getfield 234, 3) := by decide +kernel
theorem dX12_settles_49 : decode cX12_settles 49 = .ok (.iconst 1, 1) := by decide +kernel
theorem dX12_settles_50 : decode cX12_settles 50 = .ok (.isub, 1) := by decide +kernel
theorem dX12_settles_51 : decode cX12_settles 51 = .ok (.putfield 234, 3) := by decide +kernel
theorem dX12_settles_54 : decode cX12_settles 54 = .ok (.goto (-54), 3) := by decide +kernel
theorem dX12_settles_57 : decode cX12_settles 57 = .ok (.return_, 1) := by decide +kernel
set_option maxRecDepth 20000 in
theorem ggX12_readAny_X12_isWord : GoodIn wsX12_readAny wsX12_isWord := goodIn_r _ [7, 8, 9, 89, 90, 91, 92, 93, 94, 95, 96, 97, 98, 99, 100, 101, 102, 103, 104, 105, 106, 107, 108, 109, 110, 111, 112, 113, 114, 115, 116, 117, 118, 119, 120, 121, 122, 123, 124, 125, 126, 127, 128, 129, 130, 131, 132, 133, 134, 135, 136, 137, 138, 139, 140] (by decide +kernel) (by decide +kernel)
set_option maxRecDepth 20000 in
theorem gX12_readAny_X12_isWord : GoodIn wsX12_readAny (wsV RX12 210 RX12 yX12_isWord wsX12_isWord) := goodIn_app (goodIn_of _ (by decide +kernel)) ggX12_readAny_X12_isWord
set_option maxRecDepth 20000 in
theorem ggX12_readAny_X12_isSign : GoodIn wsX12_readAny wsX12_isSign := goodIn_r _ [13, 8, 9, 89, 90, 91, 92, 93, 94, 95, 96, 97, 98, 99, 100, 101, 102, 103, 104, 105, 106, 107, 108, 109, 110, 111, 112, 113, 114, 115, 116, 117, 118, 119, 120, 121, 122, 123, 124, 125, 126, 127, 128, 129, 130, 131, 132, 133, 134, 135, 136, 137, 138, 139, 140] (by decide +kernel) (by decide +kernel)
set_option maxRecDepth 20000 in
theorem gX12_readAny_X12_isSign : GoodIn wsX12_readAny (wsV RX12 222 RX12 yX12_isSign wsX12_isSign) := goodIn_app (goodIn_of _ (by decide +kernel)) ggX12_readAny_X12_isSign
set_option maxRecDepth 20000 in
theorem ggX12_readAny_X12_fails : GoodIn wsX12_readAny wsX12_fails := goodIn_r _ [17, 18, 19, 20, 89, 90, 91, 92, 93, 94, 95, 96, 97, 98, 99, 100, 101, 102, 103, 104, 105, 106, 107, 108, 109, 110, 111, 112, 113, 114, 115, 116, 117, 118, 119, 120, 121, 122, 123, 124, 125, 126, 127, 128, 129, 130, 131, 132, 133, 134, 135, 136, 137, 138, 139, 140] (by decide +kernel) (by decide +kernel)
set_option maxRecDepth 20000 in
theorem gX12_readAny_X12_fails : GoodIn wsX12_readAny (wsV RX12 204 RX12 yX12_fails wsX12_fails) := goodIn_app (goodIn_of _ (by decide +kernel)) ggX12_readAny_X12_fails
set_option maxRecDepth 20000 in
theorem ggX12_readAny_X12_waits : GoodIn wsX12_readAny wsX12_waits := goodIn_r _ [24, 25, 1, 89, 90, 91, 92, 93, 94, 95, 96, 97, 98, 99, 100, 101, 102, 103, 104, 105, 106, 107, 108, 109, 110, 111, 112, 113, 114, 115, 116, 117, 118, 119, 120, 121, 122, 123, 124, 125, 126, 127, 128, 129, 130, 131, 132, 133, 134, 135, 136, 137, 138, 139, 140] (by decide +kernel) (by decide +kernel)
set_option maxRecDepth 20000 in
theorem gX12_readAny_X12_waits : GoodIn wsX12_readAny (wsV RX12 237 RX12 yX12_waits wsX12_waits) := goodIn_app (goodIn_of _ (by decide +kernel)) ggX12_readAny_X12_waits
set_option maxRecDepth 20000 in
theorem ggX12_readAny_X12_next : GoodIn wsX12_readAny wsX12_next := goodIn_r _ [29, 30, 19, 8, 9, 31, 32, 33, 6, 34, 35, 36, 37, 38, 39, 40, 41, 42, 43, 44, 45, 46, 47, 48, 49, 50, 51, 52, 53, 54, 55, 56, 57, 89, 90, 91, 92, 93, 94, 95, 96, 97, 98, 99, 100, 101, 102, 103, 104, 105, 106, 107, 108, 109, 110, 111, 112, 113, 114, 115, 116, 117, 118, 119, 120, 121, 122, 123, 124, 125, 126, 127, 128, 129, 130, 131, 132, 133, 134, 135, 136, 137, 138, 139, 140] (by decide +kernel) (by decide +kernel)
set_option maxRecDepth 20000 in
theorem gX12_readAny_X12_next : GoodIn wsX12_readAny (wsV RX12 207 RX12 yX12_next wsX12_next) := goodIn_app (goodIn_of _ (by decide +kernel)) ggX12_readAny_X12_next
set_option maxRecDepth 20000 in
theorem ggX12_readAny_X12_readCompared : GoodIn wsX12_readAny wsX12_readCompared := goodIn_r _ [61, 9, 3, 4, 5, 6, 7, 8, 26, 27, 28, 29, 30, 19, 31, 32, 33, 34, 35, 36, 37, 38, 39, 40, 41, 42, 43, 44, 45, 46, 47, 48, 49, 50, 51, 52, 53, 54, 55, 56, 57, 62, 63, 64, 65, 14, 15, 16, 17, 18, 20, 66, 67, 68, 69, 70, 71, 72, 73, 74, 75, 76, 77, 78, 79, 80, 81, 82, 83, 84, 10, 11, 12, 13, 89, 90, 91, 92, 93, 94, 95, 96, 97, 98, 99, 100, 101, 102, 103, 104, 105, 106, 107, 108, 109, 110, 111, 112, 113, 114, 115, 116, 117, 118, 119, 120, 121, 122, 123, 124, 125, 126, 127, 128, 129, 130, 131, 132, 133, 134, 135, 136, 137, 138, 139, 140] (by decide +kernel) (by decide +kernel)
set_option maxRecDepth 20000 in
theorem gX12_readAny_X12_readCompared : GoodIn wsX12_readAny (wsV RX12 240 RX12 yX12_readCompared wsX12_readCompared) := goodIn_app (goodIn_of _ (by decide +kernel)) ggX12_readAny_X12_readCompared
set_option maxRecDepth 20000 in
theorem ggX12_readAny_X12_settles : GoodIn wsX12_readAny wsX12_settles := goodIn_r _ [88, 1, 25, 2, 66, 67, 68, 6, 69, 70, 71, 72, 89, 90, 91, 92, 93, 94, 95, 96, 97, 98, 99, 100, 101, 102, 103, 104, 105, 106, 107, 108, 109, 110, 111, 112, 113, 114, 115, 116, 117, 118, 119, 120, 121, 122, 123, 124, 125, 126, 127, 128, 129, 130, 131, 132, 133, 134, 135, 136, 137, 138, 139, 140] (by decide +kernel) (by decide +kernel)
set_option maxRecDepth 20000 in
theorem gX12_readAny_X12_settles : GoodIn wsX12_readAny (wsV RX12 243 RX12 yX12_settles wsX12_settles) := goodIn_app (goodIn_of _ (by decide +kernel)) ggX12_readAny_X12_settles
theorem dX12_readAny_0 : decode cX12_readAny 0 = .ok (.iconst 0, 1) := by decide +kernel
theorem dX12_readAny_1 : decode cX12_readAny 1 = .ok (.istore_n 1, 1) := by decide +kernel
theorem dX12_readAny_2 : decode cX12_readAny 2 = .ok (.aload_n 0, 1) := by decide +kernel
theorem dX12_readAny_3 : decode cX12_readAny 3 = .ok (.iconst 0, 1) := by decide +kernel
theorem dX12_readAny_4 : decode cX12_readAny 4 = .ok (.putfield 231, 3) := by decide +kernel
theorem dX12_readAny_7 : decode cX12_readAny 7 = .ok (.iconst 1, 1) := by decide +kernel
theorem dX12_readAny_8 : decode cX12_readAny 8 = .ok (.istore_n 2, 1) := by decide +kernel
theorem dX12_readAny_9 : decode cX12_readAny 9 = .ok (.iload_n 2, 1) := by decide +kernel
theorem dX12_readAny_10 : decode cX12_readAny 10 = .ok (.ifCond .eq 99, 3) := by decide +kernel
theorem dX12_readAny_13 : decode cX12_readAny 13 = .ok (.aload_n 0, 1) := by decide +kernel
theorem dX12_readAny_14 : decode cX12_readAny 14 = .ok (.bipush 8, 2) := by decide +kernel
theorem dX12_readAny_16 : decode cX12_readAny 16 = .ok (.invokevirtual 210, 3) := by decide +kernel
theorem dX12_readAny_19 : decode cX12_readAny 19 = .ok (.istore_n 3, 1) := by decide +kernel
theorem dX12_readAny_20 : decode cX12_readAny 20 = .ok (.iload_n 3, 1) := by decide +kernel
theorem dX12_readAny_21 : decode cX12_readAny 21 = .ok (.ifCond .ne 12, 3) := by decide +kernel
theorem dX12_readAny_24 : decode cX12_readAny 24 = .ok (.aload_n 0, 1) := by decide +kernel
theorem dX12_readAny_25 : decode cX12_readAny 25 = .ok (.bipush 40, 2) := by decide +kernel
theorem dX12_readAny_27 : decode cX12_readAny 27 = .ok (.invokevirtual 222, 3) := by decide +kernel
theorem dX12_readAny_30 : decode cX12_readAny 30 = .ok (.ifCond .eq 58, 3) := by decide +kernel
theorem dX12_readAny_33 : decode cX12_readAny 33 = .ok (.aload_n 0, 1) := by decide +kernel
theorem dX12_readAny_34 : decode cX12_readAny 34 = .ok (.getfield 234, 3) := by decide +kernel
theorem dX12_readAny_37 : decode cX12_readAny 37 = .ok (.bipush 8, 2) := by decide +kernel
theorem dX12_readAny_39 : decode cX12_readAny 39 = .ok (.if_icmp .ne 9, 3) := by decide +kernel
theorem dX12_readAny_42 : decode cX12_readAny 42 = .ok (.aload_n 0, 1) := by decide +kernel
theorem dX12_readAny_43 : decode cX12_readAny 43 = .ok (.iconst 3, 1) := by decide +kernel
theorem dX12_readAny_44 : decode cX12_readAny 44 = .ok (.invokevirtual 204, 3) := by decide +kernel
theorem dX12_readAny_47 : decode cX12_readAny 47 = .ok (.ireturn, 1) := by decide +kernel
theorem dX12_readAny_48 : decode cX12_readAny 48 = .ok (.aload_n 0, 1) := by decide +kernel
theorem dX12_readAny_49 : decode cX12_readAny 49 = .ok (.aload_n 0, 1) := by decide +kernel
theorem dX12_readAny_50 : decode cX12_readAny 50 = .ok (.getfield 234, 3) := by decide +kernel
theorem dX12_readAny_53 : decode cX12_readAny 53 = .ok (.iconst 1, 1) := by decide +kernel
theorem dX12_readAny_54 : decode cX12_readAny 54 = .ok (.iadd, 1) := by decide +kernel
theorem dX12_readAny_55 : decode cX12_readAny 55 = .ok (.putfield 234, 3) := by decide +kernel
theorem dX12_readAny_58 : decode cX12_readAny 58 = .ok (.iload_n 3, 1) := by decide +kernel
theorem dX12_readAny_59 : decode cX12_readAny 59 = .ok (.ifCond .ne 7, 3) := by decide +kernel
theorem dX12_readAny_62 : decode cX12_readAny 62 = .ok (.iload_n 1, 1) := by decide +kernel
theorem dX12_readAny_63 : decode cX12_readAny 63 = .ok (.iconst 1, 1) := by decide +kernel
theorem dX12_readAny_64 : decode cX12_readAny 64 = .ok (.iadd, 1) := by decide +kernel
theorem dX12_readAny_65 : decode cX12_readAny 65 = .ok (.istore_n 1, 1) := by decide +kernel
theorem dX12_readAny_66 : decode cX12_readAny 66 = .ok (.aload_n 0, 1) := by decide +kernel
theorem dX12_readAny_67 : decode cX12_readAny 67 = .ok (.iload_n 3, 1) := by decide +kernel
theorem dX12_readAny_68 : decode cX12_readAny 68 = .ok (.ifCond .eq 8, 3) := by decide +kernel
theorem dX12_readAny_71 : decode cX12_readAny 71 = .ok (.bipush 10, 2) := by decide +kernel
theorem dX12_readAny_73 : decode cX12_readAny 73 = .ok (.goto 5, 3) := by decide +kernel
theorem dX12_readAny_76 : decode cX12_readAny 76 = .ok (.bipush 13, 2) := by decide +kernel
theorem dX12_readAny_78 : decode cX12_readAny 78 = .ok (.invokevirtual 237, 3) := by decide +kernel
theorem dX12_readAny_81 : decode cX12_readAny 81 = .ok (.aload_n 0, 1) := by decide +kernel
theorem dX12_readAny_82 : decode cX12_readAny 82 = .ok (.invokevirtual 207, 3) := by decide +kernel
theorem dX12_readAny_85 : decode cX12_readAny 85 = .ok (.goto (-76), 3) := by decide +kernel
theorem dX12_readAny_88 : decode cX12_readAny 88 = .ok (.aload_n 0, 1) := by decide +kernel
theorem dX12_readAny_89 : decode cX12_readAny 89 = .ok (.invokevirtual 240, 3) := by decide +kernel
theorem dX12_readAny_92 : decode cX12_readAny 92 = .ok (.iconst (-1), 1) := by decide +kernel
theorem dX12_readAny_93 : decode cX12_readAny 93 = .ok (.if_icmp .ne 5, 3) := by decide +kernel
theorem dX12_readAny_96 : decode cX12_readAny 96 = .ok (.iconst (-1), 1) := by decide +kernel
theorem dX12_readAny_97 : decode cX12_readAny 97 = .ok (.ireturn, 1) := by decide +kernel
theorem dX12_readAny_98 : decode cX12_readAny 98 = .ok (.aload_n 0, 1) := by decide +kernel
theorem dX12_readAny_99 : decode cX12_readAny 99 = .ok (.bipush 10, 2) := by decide +kernel
theorem dX12_readAny_101 : decode cX12_readAny 101 = .ok (.invokevirtual 243, 3) := by decide +kernel
theorem dX12_readAny_104 : decode cX12_readAny 104 = .ok (.iconst 0, 1) := by decide +kernel
theorem dX12_readAny_105 : decode cX12_readAny 105 = .ok (.istore_n 2, 1) := by decide +kernel
theorem dX12_readAny_106 : decode cX12_readAny 106 = .ok (.goto (-97), 3) := by decide +kernel
theorem dX12_readAny_109 : decode cX12_readAny 109 = .ok (.aload_n 0, 1) := by decide +kernel
theorem dX12_readAny_110 : decode cX12_readAny 110 = .ok (.bipush 7, 2) := by decide +kernel
theorem dX12_readAny_112 : decode cX12_readAny 112 = .ok (.invokevirtual 210, 3) := by decide +kernel
theorem dX12_readAny_115 : decode cX12_readAny 115 = .ok (.ifCond .eq 24, 3) := by decide +kernel
theorem dX12_readAny_118 : decode cX12_readAny 118 = .ok (.aload_n 0, 1) := by decide +kernel
theorem dX12_readAny_119 : decode cX12_readAny 119 = .ok (.bipush 11, 2) := by decide +kernel
theorem dX12_readAny_121 : decode cX12_readAny 121 = .ok (.invokevirtual 243, 3) := by decide +kernel
theorem dX12_readAny_124 : decode cX12_readAny 124 = .ok (.aload_n 0, 1) := by decide +kernel
theorem dX12_readAny_125 : decode cX12_readAny 125 = .ok (.bipush 11, 2) := by decide +kernel
theorem dX12_readAny_127 : decode cX12_readAny 127 = .ok (.invokevirtual 237, 3) := by decide +kernel
theorem dX12_readAny_130 : decode cX12_readAny 130 = .ok (.aload_n 0, 1) := by decide +kernel
theorem dX12_readAny_131 : decode cX12_readAny 131 = .ok (.invokevirtual 207, 3) := by decide +kernel
theorem dX12_readAny_134 : decode cX12_readAny 134 = .ok (.iconst 1, 1) := by decide +kernel
theorem dX12_readAny_135 : decode cX12_readAny 135 = .ok (.istore_n 2, 1) := by decide +kernel
theorem dX12_readAny_136 : decode cX12_readAny 136 = .ok (.goto (-127), 3) := by decide +kernel
theorem dX12_readAny_139 : decode cX12_readAny 139 = .ok (.aload_n 0, 1) := by decide +kernel
theorem dX12_readAny_140 : decode cX12_readAny 140 = .ok (.bipush 6, 2) := by decide +kernel
theorem dX12_readAny_142 : decode cX12_readAny 142 = .ok (.invokevirtual 210, 3) := by decide +kernel
theorem dX12_readAny_145 : decode cX12_readAny 145 = .ok (.ifCond .eq 30, 3) := by decide +kernel
theorem dX12_readAny_148 : decode cX12_readAny 148 = .ok (.aload_n 0, 1) := by decide +kernel
theorem dX12_readAny_149 : decode cX12_readAny 149 = .ok (.bipush 11, 2) := by decide +kernel
theorem dX12_readAny_151 : decode cX12_readAny 151 = .ok (.invokevirtual 243, 3) := by decide +kernel
theorem dX12_readAny_154 : decode cX12_readAny 154 = .ok (.aload_n 0, 1) := by decide +kernel
theorem dX12_readAny_155 : decode cX12_readAny 155 = .ok (.bipush 12, 2) := by decide +kernel
theorem dX12_readAny_157 : decode cX12_readAny 157 = .ok (.invokevirtual 243, 3) := by decide +kernel
theorem dX12_readAny_160 : decode cX12_readAny 160 = .ok (.aload_n 0, 1) := by decide +kernel
theorem dX12_readAny_161 : decode cX12_readAny 161 = .ok (.bipush 12, 2) := by decide +kernel
theorem dX12_readAny_163 : decode cX12_readAny 163 = .ok (.invokevirtual 237, 3) := by decide +kernel
theorem dX12_readAny_166 : decode cX12_readAny 166 = .ok (.aload_n 0, 1) := by decide +kernel
theorem dX12_readAny_167 : decode cX12_readAny 167 = .ok (.invokevirtual 207, 3) := by decide +kernel
theorem dX12_readAny_170 : decode cX12_readAny 170 = .ok (.iconst 1, 1) := by decide +kernel
theorem dX12_readAny_171 : decode cX12_readAny 171 = .ok (.istore_n 2, 1) := by decide +kernel
theorem dX12_readAny_172 : decode cX12_readAny 172 = .ok (.goto (-163), 3) := by decide +kernel
theorem dX12_readAny_175 : decode cX12_readAny 175 = .ok (.aload_n 0, 1) := by decide +kernel
theorem dX12_readAny_176 : decode cX12_readAny 176 = .ok (.bipush 11, 2) := by decide +kernel
theorem dX12_readAny_178 : decode cX12_readAny 178 = .ok (.invokevirtual 243, 3) := by decide +kernel
theorem dX12_readAny_181 : decode cX12_readAny 181 = .ok (.aload_n 0, 1) := by decide +kernel
theorem dX12_readAny_182 : decode cX12_readAny 182 = .ok (.bipush 12, 2) := by decide +kernel
theorem dX12_readAny_184 : decode cX12_readAny 184 = .ok (.invokevirtual 243, 3) := by decide +kernel
theorem dX12_readAny_187 : decode cX12_readAny 187 = .ok (.iload_n 1, 1) := by decide +kernel
theorem dX12_readAny_188 : decode cX12_readAny 188 = .ok (.ifCond .ne 5, 3) := by decide +kernel
theorem dX12_readAny_191 : decode cX12_readAny 191 = .ok (.iconst 0, 1) := by decide +kernel
theorem dX12_readAny_192 : decode cX12_readAny 192 = .ok (.ireturn, 1) := by decide +kernel
theorem dX12_readAny_193 : decode cX12_readAny 193 = .ok (.aload_n 0, 1) := by decide +kernel
theorem dX12_readAny_194 : decode cX12_readAny 194 = .ok (.bipush 41, 2) := by decide +kernel
theorem dX12_readAny_196 : decode cX12_readAny 196 = .ok (.invokevirtual 222, 3) := by decide +kernel
theorem dX12_readAny_199 : decode cX12_readAny 199 = .ok (.ifCond .ne 9, 3) := by decide +kernel
theorem dX12_readAny_202 : decode cX12_readAny 202 = .ok (.aload_n 0, 1) := by decide +kernel
theorem dX12_readAny_203 : decode cX12_readAny 203 = .ok (.iconst 1, 1) := by decide +kernel
theorem dX12_readAny_204 : decode cX12_readAny 204 = .ok (.invokevirtual 204, 3) := by decide +kernel
theorem dX12_readAny_207 : decode cX12_readAny 207 = .ok (.ireturn, 1) := by decide +kernel
theorem dX12_readAny_208 : decode cX12_readAny 208 = .ok (.aload_n 0, 1) := by decide +kernel
theorem dX12_readAny_209 : decode cX12_readAny 209 = .ok (.aload_n 0, 1) := by decide +kernel
theorem dX12_readAny_210 : decode cX12_readAny 210 = .ok (.getfield 231, 3) := by decide +kernel
theorem dX12_readAny_213 : decode cX12_readAny 213 = .ok (.iconst 1, 1) := by decide +kernel
theorem dX12_readAny_214 : decode cX12_readAny 214 = .ok (.isub, 1) := by decide +kernel
theorem dX12_readAny_215 : decode cX12_readAny 215 = .ok (.putfield 231, 3) := by decide +kernel
theorem dX12_readAny_218 : decode cX12_readAny 218 = .ok (.iload_n 1, 1) := by decide +kernel
theorem dX12_readAny_219 : decode cX12_readAny 219 = .ok (.iconst 1, 1) := by decide +kernel
theorem dX12_readAny_220 : decode cX12_readAny 220 = .ok (.isub, 1) := by decide +kernel
theorem dX12_readAny_221 : decode cX12_readAny 221 = .ok (.istore_n 1, 1) := by decide +kernel
theorem dX12_readAny_222 : decode cX12_readAny 222 = .ok (.aload_n 0, 1) := by decide +kernel
theorem dX12_readAny_223 : decode cX12_readAny 223 = .ok (.aload_n 0, 1) := by decide +kernel
theorem dX12_readAny_224 : decode cX12_readAny 224 = .ok (.getfield 234, 3) := by decide +kernel
theorem dX12_readAny_227 : decode cX12_readAny 227 = .ok (.iconst 1, 1) := by decide +kernel
theorem dX12_readAny_228 : decode cX12_readAny 228 = .ok (.isub, 1) := by decide +kernel
theorem dX12_readAny_229 : decode cX12_readAny 229 = .ok (.putfield 234, 3) := by decide +kernel
theorem dX12_readAny_232 : decode cX12_readAny 232 = .ok (.aload_n 0, 1) := by decide +kernel
theorem dX12_readAny_233 : decode cX12_readAny 233 = .ok (.bipush 10, 2) := by decide +kernel
theorem dX12_readAny_235 : decode cX12_readAny 235 = .ok (.invokevirtual 243, 3) := by decide +kernel
theorem dX12_readAny_238 : decode cX12_readAny 238 = .ok (.aload_n 0, 1) := by decide +kernel
theorem dX12_readAny_239 : decode cX12_readAny 239 = .ok (.invokevirtual 207, 3) := by decide +kernel
theorem dX12_readAny_242 : decode cX12_readAny 242 = .ok (.goto (-233), 3) := by decide +kernel
set_option maxRecDepth 20000 in
theorem ggX12_reads_X12_next : GoodIn wsX12_reads wsX12_next := goodIn_r _ [9, 1, 10, 4, 11, 12, 13, 14, 8, 15, 16, 17, 18, 19, 20, 21, 22, 23, 24, 25, 26, 27, 28, 29, 30, 31, 32, 33, 34, 35, 36, 37, 38, 93, 94, 95, 96, 97, 98, 99, 100, 101, 102, 103, 104, 105, 106, 107, 108, 109, 110, 111, 112, 113, 114, 115, 116, 117, 118, 119, 120, 121, 122, 123, 124, 125, 126, 127, 128, 129, 130, 131, 132, 133, 134, 135, 136, 137, 138, 139, 140, 141, 142, 143, 144] (by decide +kernel) (by decide +kernel)
set_option maxRecDepth 20000 in
theorem gX12_reads_X12_next : GoodIn wsX12_reads (wsV RX12 207 RX12 yX12_next wsX12_next) := goodIn_app (goodIn_of _ (by decide +kernel)) ggX12_reads_X12_next
set_option maxRecDepth 20000 in
theorem ggX12_reads_X12_readAny : GoodIn wsX12_reads wsX12_readAny := goodIn_r _ [42, 43, 3, 44, 45, 46, 8, 47, 4, 11, 48, 49, 50, 51, 52, 53, 54, 55, 56, 10, 57, 58, 59, 60, 61, 62, 5, 6, 7, 9, 1, 12, 13, 14, 15, 16, 17, 18, 19, 20, 21, 22, 23, 24, 25, 26, 27, 28, 29, 30, 31, 32, 33, 34, 35, 36, 37, 38, 63, 64, 65, 66, 67, 68, 69, 70, 71, 72, 73, 74, 75, 2, 76, 77, 78, 79, 80, 81, 82, 83, 84, 85, 86, 87, 88, 89, 90, 91, 92, 93, 94, 95, 96, 97, 98, 99, 100, 101, 102, 103, 104, 105, 106, 107, 108, 109, 110, 111, 112, 113, 114, 115, 116, 117, 118, 119, 120, 121, 122, 123, 124, 125, 126, 127, 128, 129, 130, 131, 132, 133, 134, 135, 136, 137, 138, 139, 140, 141, 142, 143, 144] (by decide +kernel) (by decide +kernel)
set_option maxRecDepth 20000 in
theorem gX12_reads_X12_readAny : GoodIn wsX12_reads (wsV RX12 246 RX12 yX12_readAny wsX12_readAny) := goodIn_app (goodIn_of _ (by decide +kernel)) ggX12_reads_X12_readAny
set_option maxRecDepth 20000 in
theorem ggX12_reads_X12_isSign : GoodIn wsX12_reads wsX12_isSign := goodIn_r _ [51, 4, 11, 93, 94, 95, 96, 97, 98, 99, 100, 101, 102, 103, 104, 105, 106, 107, 108, 109, 110, 111, 112, 113, 114, 115, 116, 117, 118, 119, 120, 121, 122, 123, 124, 125, 126, 127, 128, 129, 130, 131, 132, 133, 134, 135, 136, 137, 138, 139, 140, 141, 142, 143, 144] (by decide +kernel) (by decide +kernel)
set_option maxRecDepth 20000 in
theorem gX12_reads_X12_isSign : GoodIn wsX12_reads (wsV RX12 222 RX12 yX12_isSign wsX12_isSign) := goodIn_app (goodIn_of _ (by decide +kernel)) ggX12_reads_X12_isSign
set_option maxRecDepth 20000 in
theorem ggX12_reads_X12_fails : GoodIn wsX12_reads wsX12_fails := goodIn_r _ [55, 56, 10, 57, 93, 94, 95, 96, 97, 98, 99, 100, 101, 102, 103, 104, 105, 106, 107, 108, 109, 110, 111, 112, 113, 114, 115, 116, 117, 118, 119, 120, 121, 122, 123, 124, 125, 126, 127, 128, 129, 130, 131, 132, 133, 134, 135, 136, 137, 138, 139, 140, 141, 142, 143, 144] (by decide +kernel) (by decide +kernel)
set_option maxRecDepth 20000 in
theorem gX12_reads_X12_fails : GoodIn wsX12_reads (wsV RX12 204 RX12 yX12_fails wsX12_fails) := goodIn_app (goodIn_of _ (by decide +kernel)) ggX12_reads_X12_fails
theorem dX12_reads_0 : decode cX12_reads 0 = .ok (.aload_n 0, 1) := by decide +kernel
theorem dX12_reads_1 : decode cX12_reads 1 = .ok (.iconst 0, 1) := by decide +kernel
theorem dX12_reads_2 : decode cX12_reads 2 = .ok (.putfield 166, 3) := by decide +kernel
theorem dX12_reads_5 : decode cX12_reads 5 = .ok (.aload_n 0, 1) := by decide +kernel
theorem dX12_reads_6 : decode cX12_reads 6 = .ok (.iconst 0, 1) := by decide +kernel
theorem dX12_reads_7 : decode cX12_reads 7 = .ok (.putfield 201, 3) := by decide +kernel
theorem dX12_reads_10 : decode cX12_reads 10 = .ok (.aload_n 0, 1) := by decide +kernel
theorem dX12_reads_11 : decode cX12_reads 11 = .ok (.iconst 0, 1) := by decide +kernel
theorem dX12_reads_12 : decode cX12_reads 12 = .ok (.putfield 234, 3) := by decide +kernel
theorem dX12_reads_15 : decode cX12_reads 15 = .ok (.aload_n 0, 1) := by decide +kernel
theorem dX12_reads_16 : decode cX12_reads 16 = .ok (.invokevirtual 207, 3) := by decide +kernel
theorem dX12_reads_19 : decode cX12_reads 19 = .ok (.aload_n 0, 1) := by decide +kernel
theorem dX12_reads_20 : decode cX12_reads 20 = .ok (.getfield 176, 3) := by decide +kernel
theorem dX12_reads_23 : decode cX12_reads 23 = .ok (.ifCond .ne 5, 3) := by decide +kernel
theorem dX12_reads_26 : decode cX12_reads 26 = .ok (.iconst 0, 1) := by decide +kernel
theorem dX12_reads_27 : decode cX12_reads 27 = .ok (.ireturn, 1) := by decide +kernel
theorem dX12_reads_28 : decode cX12_reads 28 = .ok (.aload_n 0, 1) := by decide +kernel
theorem dX12_reads_29 : decode cX12_reads 29 = .ok (.invokevirtual 246, 3) := by decide +kernel
theorem dX12_reads_32 : decode cX12_reads 32 = .ok (.iconst (-1), 1) := by decide +kernel
theorem dX12_reads_33 : decode cX12_reads 33 = .ok (.if_icmp .ne 5, 3) := by decide +kernel
theorem dX12_reads_36 : decode cX12_reads 36 = .ok (.iconst (-1), 1) := by decide +kernel
theorem dX12_reads_37 : decode cX12_reads 37 = .ok (.ireturn, 1) := by decide +kernel
theorem dX12_reads_38 : decode cX12_reads 38 = .ok (.aload_n 0, 1) := by decide +kernel
theorem dX12_reads_39 : decode cX12_reads 39 = .ok (.bipush 59, 2) := by decide +kernel
theorem dX12_reads_41 : decode cX12_reads 41 = .ok (.invokevirtual 222, 3) := by decide +kernel
theorem dX12_reads_44 : decode cX12_reads 44 = .ok (.ifCond .ne 9, 3) := by decide +kernel
theorem dX12_reads_47 : decode cX12_reads 47 = .ok (.aload_n 0, 1) := by decide +kernel
theorem dX12_reads_48 : decode cX12_reads 48 = .ok (.iconst 1, 1) := by decide +kernel
theorem dX12_reads_49 : decode cX12_reads 49 = .ok (.invokevirtual 204, 3) := by decide +kernel
theorem dX12_reads_52 : decode cX12_reads 52 = .ok (.ireturn, 1) := by decide +kernel
theorem dX12_reads_53 : decode cX12_reads 53 = .ok (.aload_n 0, 1) := by decide +kernel
theorem dX12_reads_54 : decode cX12_reads 54 = .ok (.invokevirtual 207, 3) := by decide +kernel
theorem dX12_reads_57 : decode cX12_reads 57 = .ok (.aload_n 0, 1) := by decide +kernel
theorem dX12_reads_58 : decode cX12_reads 58 = .ok (.getfield 176, 3) := by decide +kernel
theorem dX12_reads_61 : decode cX12_reads 61 = .ok (.ifCond .ne 7, 3) := by decide +kernel
theorem dX12_reads_64 : decode cX12_reads 64 = .ok (.iconst 0, 1) := by decide +kernel
theorem dX12_reads_65 : decode cX12_reads 65 = .ok (.goto 8, 3) := by decide +kernel
theorem dX12_reads_68 : decode cX12_reads 68 = .ok (.aload_n 0, 1) := by decide +kernel
theorem dX12_reads_69 : decode cX12_reads 69 = .ok (.iconst 1, 1) := by decide +kernel
theorem dX12_reads_70 : decode cX12_reads 70 = .ok (.invokevirtual 204, 3) := by decide +kernel
theorem dX12_reads_73 : decode cX12_reads 73 = .ok (.ireturn, 1) := by decide +kernel
set_option maxRecDepth 20000 in
theorem ggX12_isRule_X12_isIn : GoodIn wsX12_isRule wsX12_isIn := goodIn_r _ [5] (by decide +kernel) (by decide +kernel)
set_option maxRecDepth 20000 in
theorem gX12_isRule_X12_isIn : GoodIn wsX12_isRule (wsV RX12 121 RX12 yX12_isIn wsX12_isIn) := goodIn_app (goodIn_of _ (by decide +kernel)) ggX12_isRule_X12_isIn
theorem dX12_isRule_0 : decode cX12_isRule 0 = .ok (.aload_n 0, 1) := by decide +kernel
theorem dX12_isRule_1 : decode cX12_isRule 1 = .ok (.iload_n 1, 1) := by decide +kernel
theorem dX12_isRule_2 : decode cX12_isRule 2 = .ok (.iconst 0, 1) := by decide +kernel
theorem dX12_isRule_3 : decode cX12_isRule 3 = .ok (.iconst 3, 1) := by decide +kernel
theorem dX12_isRule_4 : decode cX12_isRule 4 = .ok (.invokevirtual 121, 3) := by decide +kernel
theorem dX12_isRule_7 : decode cX12_isRule 7 = .ok (.ireturn, 1) := by decide +kernel
set_option maxRecDepth 20000 in
theorem ggX12_rule_X12_isRule : GoodIn wsX12_rule wsX12_isRule := goodIn_r _ [15, 16, 17, 18, 14, 19] (by decide +kernel) (by decide +kernel)
set_option maxRecDepth 20000 in
theorem gX12_rule_X12_isRule : GoodIn wsX12_rule (wsV RX12 249 RX12 yX12_isRule wsX12_isRule) := goodIn_app (goodIn_of _ (by decide +kernel)) ggX12_rule_X12_isRule
set_option maxRecDepth 20000 in
theorem ggX12_rule_X12_reads : GoodIn wsX12_rule wsX12_reads := goodIn_r _ [23, 24, 8, 25, 26, 27, 28, 29, 14, 30, 31, 32, 33, 34, 35, 36, 2, 37, 38, 39, 40, 41, 16, 17, 18, 19, 42, 43, 44, 45, 46, 47, 48, 49, 50, 51, 52, 53, 54, 55, 56, 57, 58, 59, 60, 61, 62, 63, 64, 65, 66, 67, 68, 69, 70, 71, 3, 5, 72, 73, 74, 75, 76, 77, 78, 79, 80, 81, 82, 83, 84, 85, 86, 87, 88, 9, 10, 89, 90, 91, 92, 93, 94, 95, 96, 97, 98, 99, 100, 101, 102, 103, 104, 105, 106, 107, 108, 109, 110, 111, 112, 113, 114, 115, 116, 117, 118, 119, 120, 121, 122, 123, 124, 125, 126, 127, 128, 129, 130, 131, 132, 133, 134, 135, 136, 137, 138, 139, 140, 141, 142, 143, 144, 145, 146, 147, 148, 149, 150, 151, 152, 153, 154, 155, 156] (by decide +kernel) (by decide +kernel)
set_option maxRecDepth 20000 in
theorem gX12_rule_X12_reads : GoodIn wsX12_rule (wsV RX12 252 RX12 yX12_reads wsX12_reads) := goodIn_app (goodIn_of _ (by decide +kernel)) ggX12_rule_X12_reads
theorem dX12_rule_0 : decode cX12_rule 0 = .ok (.aload_n 0, 1) := by decide +kernel
theorem dX12_rule_1 : decode cX12_rule 1 = .ok (.iconst 0, 1) := by decide +kernel
theorem dX12_rule_2 : decode cX12_rule 2 = .ok (.putfield 115, 3) := by decide +kernel
theorem dX12_rule_5 : decode cX12_rule 5 = .ok (.aload_n 0, 1) := by decide +kernel
theorem dX12_rule_6 : decode cX12_rule 6 = .ok (.iload_n 1, 1) := by decide +kernel
theorem dX12_rule_7 : decode cX12_rule 7 = .ok (.invokevirtual 249, 3) := by decide +kernel
theorem dX12_rule_10 : decode cX12_rule 10 = .ok (.ifCond .ne 10, 3) := by decide +kernel
theorem dX12_rule_13 : decode cX12_rule 13 = .ok (.aload_n 0, 1) := by decide +kernel
theorem dX12_rule_14 : decode cX12_rule 14 = .ok (.iconst 0, 1) := by decide +kernel
theorem dX12_rule_15 : decode cX12_rule 15 = .ok (.putfield 159, 3) := by decide +kernel
theorem dX12_rule_18 : decode cX12_rule 18 = .ok (.iconst 0, 1) := by decide +kernel
theorem dX12_rule_19 : decode cX12_rule 19 = .ok (.ireturn, 1) := by decide +kernel
theorem dX12_rule_20 : decode cX12_rule 20 = .ok (.aload_n 0, 1) := by decide +kernel
theorem dX12_rule_21 : decode cX12_rule 21 = .ok (.invokevirtual 252, 3) := by decide +kernel
theorem dX12_rule_24 : decode cX12_rule 24 = .ok (.istore_n 2, 1) := by decide +kernel
theorem dX12_rule_25 : decode cX12_rule 25 = .ok (.aload_n 0, 1) := by decide +kernel
theorem dX12_rule_26 : decode cX12_rule 26 = .ok (.iconst 0, 1) := by decide +kernel
theorem dX12_rule_27 : decode cX12_rule 27 = .ok (.putfield 159, 3) := by decide +kernel
theorem dX12_rule_30 : decode cX12_rule 30 = .ok (.aload_n 0, 1) := by decide +kernel
theorem dX12_rule_31 : decode cX12_rule 31 = .ok (.iload_n 2, 1) := by decide +kernel
theorem dX12_rule_32 : decode cX12_rule 32 = .ok (.iconst (-1), 1) := by decide +kernel
theorem dX12_rule_33 : decode cX12_rule 33 = .ok (.if_icmp .ne 10, 3) := by decide +kernel
theorem dX12_rule_36 : decode cX12_rule 36 = .ok (.aload_n 0, 1) := by decide +kernel
theorem dX12_rule_37 : decode cX12_rule 37 = .ok (.getfield 195, 3) := by decide +kernel
theorem dX12_rule_40 : decode cX12_rule 40 = .ok (.goto 4, 3) := by decide +kernel
theorem dX12_rule_43 : decode cX12_rule 43 = .ok (.iconst 0, 1) := by decide +kernel
theorem dX12_rule_44 : decode cX12_rule 44 = .ok (.putfield 255, 3) := by decide +kernel
theorem dX12_rule_47 : decode cX12_rule 47 = .ok (.aload_n 0, 1) := by decide +kernel
theorem dX12_rule_48 : decode cX12_rule 48 = .ok (.iload_n 2, 1) := by decide +kernel
theorem dX12_rule_49 : decode cX12_rule 49 = .ok (.iconst (-1), 1) := by decide +kernel
theorem dX12_rule_50 : decode cX12_rule 50 = .ok (.if_icmp .ne 10, 3) := by decide +kernel
theorem dX12_rule_53 : decode cX12_rule 53 = .ok (.aload_n 0, 1) := by decide +kernel
theorem dX12_rule_54 : decode cX12_rule 54 = .ok (.getfield 198, 3) := by decide +kernel
theorem dX12_rule_57 : decode cX12_rule 57 = .ok (.goto 4, 3) := by decide +kernel
theorem dX12_rule_60 : decode cX12_rule 60 = .ok (.iconst (-1), 1) := by decide +kernel
theorem dX12_rule_61 : decode cX12_rule 61 = .ok (.putfield 63, 3) := by decide +kernel
theorem dX12_rule_64 : decode cX12_rule 64 = .ok (.iload_n 2, 1) := by decide +kernel
theorem dX12_rule_65 : decode cX12_rule 65 = .ok (.iconst (-1), 1) := by decide +kernel
theorem dX12_rule_66 : decode cX12_rule 66 = .ok (.if_icmp .ne 5, 3) := by decide +kernel
theorem dX12_rule_69 : decode cX12_rule 69 = .ok (.iconst 0, 1) := by decide +kernel
theorem dX12_rule_70 : decode cX12_rule 70 = .ok (.ireturn, 1) := by decide +kernel
theorem dX12_rule_71 : decode cX12_rule 71 = .ok (.aload_n 0, 1) := by decide +kernel
theorem dX12_rule_72 : decode cX12_rule 72 = .ok (.getfield 51, 3) := by decide +kernel
theorem dX12_rule_75 : decode cX12_rule 75 = .ok (.iload_n 1, 1) := by decide +kernel
theorem dX12_rule_76 : decode cX12_rule 76 = .ok (.aload_n 0, 1) := by decide +kernel
theorem dX12_rule_77 : decode cX12_rule 77 = .ok (.getfield 201, 3) := by decide +kernel
theorem dX12_rule_80 : decode cX12_rule 80 = .ok (.iastore, 1) := by decide +kernel
theorem dX12_rule_81 : decode cX12_rule 81 = .ok (.iconst 0, 1) := by decide +kernel
theorem dX12_rule_82 : decode cX12_rule 82 = .ok (.istore_n 3, 1) := by decide +kernel
theorem dX12_rule_83 : decode cX12_rule 83 = .ok (.iload_n 3, 1) := by decide +kernel
theorem dX12_rule_84 : decode cX12_rule 84 = .ok (.aload_n 0, 1) := by decide +kernel
theorem dX12_rule_85 : decode cX12_rule 85 = .ok (.getfield 201, 3) := by decide +kernel
theorem dX12_rule_88 : decode cX12_rule 88 = .ok (.if_icmp .ge 53, 3) := by decide +kernel
theorem dX12_rule_91 : decode cX12_rule 91 = .ok (.aload_n 0, 1) := by decide +kernel
theorem dX12_rule_92 : decode cX12_rule 92 = .ok (.getfield 54, 3) := by decide +kernel
theorem dX12_rule_95 : decode cX12_rule 95 = .ok (.sipush 500, 3) := by decide +kernel
theorem dX12_rule_98 : decode cX12_rule 98 = .ok (.iload_n 1, 1) := by decide +kernel
theorem dX12_rule_99 : decode cX12_rule 99 = .ok (.imul, 1) := by decide +kernel
theorem dX12_rule_100 : decode cX12_rule 100 = .ok (.iload_n 3, 1) := by decide +kernel
theorem dX12_rule_101 : decode cX12_rule 101 = .ok (.iadd, 1) := by decide +kernel
theorem dX12_rule_102 : decode cX12_rule 102 = .ok (.aload_n 0, 1) := by decide +kernel
theorem dX12_rule_103 : decode cX12_rule 103 = .ok (.getfield 54, 3) := by decide +kernel
theorem dX12_rule_106 : decode cX12_rule 106 = .ok (.sipush 2000, 3) := by decide +kernel
theorem dX12_rule_109 : decode cX12_rule 109 = .ok (.iload_n 3, 1) := by decide +kernel
theorem dX12_rule_110 : decode cX12_rule 110 = .ok (.iadd, 1) := by decide +kernel
theorem dX12_rule_111 : decode cX12_rule 111 = .ok (.iaload, 1) := by decide +kernel
theorem dX12_rule_112 : decode cX12_rule 112 = .ok (.iastore, 1) := by decide +kernel
theorem dX12_rule_113 : decode cX12_rule 113 = .ok (.aload_n 0, 1) := by decide +kernel
theorem dX12_rule_114 : decode cX12_rule 114 = .ok (.getfield 57, 3) := by decide +kernel
theorem dX12_rule_117 : decode cX12_rule 117 = .ok (.sipush 500, 3) := by decide +kernel
theorem dX12_rule_120 : decode cX12_rule 120 = .ok (.iload_n 1, 1) := by decide +kernel
theorem dX12_rule_121 : decode cX12_rule 121 = .ok (.imul, 1) := by decide +kernel
theorem dX12_rule_122 : decode cX12_rule 122 = .ok (.iload_n 3, 1) := by decide +kernel
theorem dX12_rule_123 : decode cX12_rule 123 = .ok (.iadd, 1) := by decide +kernel
theorem dX12_rule_124 : decode cX12_rule 124 = .ok (.aload_n 0, 1) := by decide +kernel
theorem dX12_rule_125 : decode cX12_rule 125 = .ok (.getfield 57, 3) := by decide +kernel
theorem dX12_rule_128 : decode cX12_rule 128 = .ok (.sipush 2000, 3) := by decide +kernel
theorem dX12_rule_131 : decode cX12_rule 131 = .ok (.iload_n 3, 1) := by decide +kernel
theorem dX12_rule_132 : decode cX12_rule 132 = .ok (.iadd, 1) := by decide +kernel
theorem dX12_rule_133 : decode cX12_rule 133 = .ok (.iaload, 1) := by decide +kernel
theorem dX12_rule_134 : decode cX12_rule 134 = .ok (.iastore, 1) := by decide +kernel
theorem dX12_rule_135 : decode cX12_rule 135 = .ok (.iinc 3 1, 3) := by decide +kernel
theorem dX12_rule_138 : decode cX12_rule 138 = .ok (.goto (-55), 3) := by decide +kernel
theorem dX12_rule_141 : decode cX12_rule 141 = .ok (.iconst 1, 1) := by decide +kernel
theorem dX12_rule_142 : decode cX12_rule 142 = .ok (.ireturn, 1) := by decide +kernel
theorem dX12_fault_0 : decode cX12_fault 0 = .ok (.aload_n 0, 1) := by decide +kernel
theorem dX12_fault_1 : decode cX12_fault 1 = .ok (.iconst 0, 1) := by decide +kernel
theorem dX12_fault_2 : decode cX12_fault 2 = .ok (.putfield 115, 3) := by decide +kernel
theorem dX12_fault_5 : decode cX12_fault 5 = .ok (.iload_n 1, 1) := by decide +kernel
theorem dX12_fault_6 : decode cX12_fault 6 = .ok (.ifCond .ne 10, 3) := by decide +kernel
theorem dX12_fault_9 : decode cX12_fault 9 = .ok (.aload_n 0, 1) := by decide +kernel
theorem dX12_fault_10 : decode cX12_fault 10 = .ok (.getfield 255, 3) := by decide +kernel
theorem dX12_fault_13 : decode cX12_fault 13 = .ok (.goto 16, 3) := by decide +kernel
theorem dX12_fault_16 : decode cX12_fault 16 = .ok (.iload_n 1, 1) := by decide +kernel
theorem dX12_fault_17 : decode cX12_fault 17 = .ok (.iconst 1, 1) := by decide +kernel
theorem dX12_fault_18 : decode cX12_fault 18 = .ok (.if_icmp .ne 10, 3) := by decide +kernel
theorem dX12_fault_21 : decode cX12_fault 21 = .ok (.aload_n 0, 1) := by decide +kernel
theorem dX12_fault_22 : decode cX12_fault 22 = .ok (.getfield 63, 3) := by decide +kernel
theorem dX12_fault_25 : decode cX12_fault 25 = .ok (.goto 4, 3) := by decide +kernel
theorem dX12_fault_28 : decode cX12_fault 28 = .ok (.iconst (-1), 1) := by decide +kernel
theorem dX12_fault_29 : decode cX12_fault 29 = .ok (.ireturn, 1) := by decide +kernel
set_option maxRecDepth 20000 in
theorem ggX12_headsOf_X12_isOf : GoodIn wsX12_headsOf wsX12_isOf := goodIn_r _ [7] (by decide +kernel) (by decide +kernel)
set_option maxRecDepth 20000 in
theorem gX12_headsOf_X12_isOf : GoodIn wsX12_headsOf (wsV RX12 151 RX12 yX12_isOf wsX12_isOf) := goodIn_app (goodIn_of _ (by decide +kernel)) ggX12_headsOf_X12_isOf
theorem dX12_headsOf_0 : decode cX12_headsOf 0 = .ok (.iconst 0, 1) := by decide +kernel
theorem dX12_headsOf_1 : decode cX12_headsOf 1 = .ok (.istore_n 3, 1) := by decide +kernel
theorem dX12_headsOf_2 : decode cX12_headsOf 2 = .ok (.iconst 0, 1) := by decide +kernel
theorem dX12_headsOf_3 : decode cX12_headsOf 3 = .ok (.istore 4, 2) := by decide +kernel
theorem dX12_headsOf_5 : decode cX12_headsOf 5 = .ok (.iload 4, 2) := by decide +kernel
theorem dX12_headsOf_7 : decode cX12_headsOf 7 = .ok (.aload_n 0, 1) := by decide +kernel
theorem dX12_headsOf_8 : decode cX12_headsOf 8 = .ok (.getfield 118, 3) := by decide +kernel
theorem dX12_headsOf_11 : decode cX12_headsOf 11 = .ok (.if_icmp .ge 39, 3) := by decide +kernel
theorem dX12_headsOf_14 : decode cX12_headsOf 14 = .ok (.aload_n 0, 1) := by decide +kernel
theorem dX12_headsOf_15 : decode cX12_headsOf 15 = .ok (.iload_n 1, 1) := by decide +kernel
theorem dX12_headsOf_16 : decode cX12_headsOf 16 = .ok (.iload 4, 2) := by decide +kernel
theorem dX12_headsOf_18 : decode cX12_headsOf 18 = .ok (.invokevirtual 151, 3) := by decide +kernel
theorem dX12_headsOf_21 : decode cX12_headsOf 21 = .ok (.ifCond .eq 23, 3) := by decide +kernel
theorem dX12_headsOf_24 : decode cX12_headsOf 24 = .ok (.iload_n 2, 1) := by decide +kernel
theorem dX12_headsOf_25 : decode cX12_headsOf 25 = .ok (.iconst (-1), 1) := by decide +kernel
theorem dX12_headsOf_26 : decode cX12_headsOf 26 = .ok (.if_icmp .eq 14, 3) := by decide +kernel
theorem dX12_headsOf_29 : decode cX12_headsOf 29 = .ok (.aload_n 0, 1) := by decide +kernel
theorem dX12_headsOf_30 : decode cX12_headsOf 30 = .ok (.getfield 42, 3) := by decide +kernel
theorem dX12_headsOf_33 : decode cX12_headsOf 33 = .ok (.iload 4, 2) := by decide +kernel
theorem dX12_headsOf_35 : decode cX12_headsOf 35 = .ok (.iaload, 1) := by decide +kernel
theorem dX12_headsOf_36 : decode cX12_headsOf 36 = .ok (.iload_n 2, 1) := by decide +kernel
theorem dX12_headsOf_37 : decode cX12_headsOf 37 = .ok (.if_icmp .ne 7, 3) := by decide +kernel
theorem dX12_headsOf_40 : decode cX12_headsOf 40 = .ok (.iload_n 3, 1) := by decide +kernel
theorem dX12_headsOf_41 : decode cX12_headsOf 41 = .ok (.iconst 1, 1) := by decide +kernel
theorem dX12_headsOf_42 : decode cX12_headsOf 42 = .ok (.iadd, 1) := by decide +kernel
theorem dX12_headsOf_43 : decode cX12_headsOf 43 = .ok (.istore_n 3, 1) := by decide +kernel
theorem dX12_headsOf_44 : decode cX12_headsOf 44 = .ok (.iinc 4 1, 3) := by decide +kernel
theorem dX12_headsOf_47 : decode cX12_headsOf 47 = .ok (.goto (-42), 3) := by decide +kernel
theorem dX12_headsOf_50 : decode cX12_headsOf 50 = .ok (.iload_n 3, 1) := by decide +kernel
theorem dX12_headsOf_51 : decode cX12_headsOf 51 = .ok (.ireturn, 1) := by decide +kernel
set_option maxRecDepth 20000 in
theorem ggX12_weightOf_X12_isOf : GoodIn wsX12_weightOf wsX12_isOf := goodIn_r _ [8] (by decide +kernel) (by decide +kernel)
set_option maxRecDepth 20000 in
theorem gX12_weightOf_X12_isOf : GoodIn wsX12_weightOf (wsV RX12 151 RX12 yX12_isOf wsX12_isOf) := goodIn_app (goodIn_of _ (by decide +kernel)) ggX12_weightOf_X12_isOf
theorem dX12_weightOf_0 : decode cX12_weightOf 0 = .ok (.iconst 0, 1) := by decide +kernel
theorem dX12_weightOf_1 : decode cX12_weightOf 1 = .ok (.istore_n 3, 1) := by decide +kernel
theorem dX12_weightOf_2 : decode cX12_weightOf 2 = .ok (.iconst 0, 1) := by decide +kernel
theorem dX12_weightOf_3 : decode cX12_weightOf 3 = .ok (.istore 4, 2) := by decide +kernel
theorem dX12_weightOf_5 : decode cX12_weightOf 5 = .ok (.iload 4, 2) := by decide +kernel
theorem dX12_weightOf_7 : decode cX12_weightOf 7 = .ok (.aload_n 0, 1) := by decide +kernel
theorem dX12_weightOf_8 : decode cX12_weightOf 8 = .ok (.getfield 118, 3) := by decide +kernel
theorem dX12_weightOf_11 : decode cX12_weightOf 11 = .ok (.if_icmp .ge 45, 3) := by decide +kernel
theorem dX12_weightOf_14 : decode cX12_weightOf 14 = .ok (.aload_n 0, 1) := by decide +kernel
theorem dX12_weightOf_15 : decode cX12_weightOf 15 = .ok (.iload_n 1, 1) := by decide +kernel
theorem dX12_weightOf_16 : decode cX12_weightOf 16 = .ok (.iload 4, 2) := by decide +kernel
theorem dX12_weightOf_18 : decode cX12_weightOf 18 = .ok (.invokevirtual 151, 3) := by decide +kernel
theorem dX12_weightOf_21 : decode cX12_weightOf 21 = .ok (.ifCond .eq 29, 3) := by decide +kernel
theorem dX12_weightOf_24 : decode cX12_weightOf 24 = .ok (.iload_n 2, 1) := by decide +kernel
theorem dX12_weightOf_25 : decode cX12_weightOf 25 = .ok (.iconst (-1), 1) := by decide +kernel
theorem dX12_weightOf_26 : decode cX12_weightOf 26 = .ok (.if_icmp .eq 14, 3) := by decide +kernel
theorem dX12_weightOf_29 : decode cX12_weightOf 29 = .ok (.aload_n 0, 1) := by decide +kernel
theorem dX12_weightOf_30 : decode cX12_weightOf 30 = .ok (.getfield 42, 3) := by decide +kernel
theorem dX12_weightOf_33 : decode cX12_weightOf 33 = .ok (.iload 4, 2) := by decide +kernel
theorem dX12_weightOf_35 : decode cX12_weightOf 35 = .ok (.iaload, 1) := by decide +kernel
theorem dX12_weightOf_36 : decode cX12_weightOf 36 = .ok (.iload_n 2, 1) := by decide +kernel
theorem dX12_weightOf_37 : decode cX12_weightOf 37 = .ok (.if_icmp .ne 13, 3) := by decide +kernel
theorem dX12_weightOf_40 : decode cX12_weightOf 40 = .ok (.iload_n 3, 1) := by decide +kernel
theorem dX12_weightOf_41 : decode cX12_weightOf 41 = .ok (.aload_n 0, 1) := by decide +kernel
theorem dX12_weightOf_42 : decode cX12_weightOf 42 = .ok (.getfield 39, 3) := by decide +kernel
theorem dX12_weightOf_45 : decode cX12_weightOf 45 = .ok (.iload 4, 2) := by decide +kernel
theorem dX12_weightOf_47 : decode cX12_weightOf 47 = .ok (.iaload, 1) := by decide +kernel
theorem dX12_weightOf_48 : decode cX12_weightOf 48 = .ok (.iadd, 1) := by decide +kernel
theorem dX12_weightOf_49 : decode cX12_weightOf 49 = .ok (.istore_n 3, 1) := by decide +kernel
theorem dX12_weightOf_50 : decode cX12_weightOf 50 = .ok (.iinc 4 1, 3) := by decide +kernel
theorem dX12_weightOf_53 : decode cX12_weightOf 53 = .ok (.goto (-48), 3) := by decide +kernel
theorem dX12_weightOf_56 : decode cX12_weightOf 56 = .ok (.iload_n 3, 1) := by decide +kernel
theorem dX12_weightOf_57 : decode cX12_weightOf 57 = .ok (.ireturn, 1) := by decide +kernel
set_option maxRecDepth 20000 in
theorem ggX12_askedOf_X12_headsOf : GoodIn wsX12_askedOf wsX12_headsOf := goodIn_r _ [7, 8, 9, 10, 11, 12, 6, 13, 19, 20, 21, 22, 23, 24, 25, 26, 27, 28, 29, 30, 31, 32, 33, 34, 35, 36, 37, 38, 39, 40, 41, 42, 43, 44, 45, 46, 47, 48, 49, 50, 51, 52, 53, 54, 55, 56, 57, 58, 59, 60, 61, 62, 63, 64, 65, 66, 67, 68, 69, 70] (by decide +kernel) (by decide +kernel)
set_option maxRecDepth 20000 in
theorem gX12_askedOf_X12_headsOf : GoodIn wsX12_askedOf (wsV RX12 258 RX12 yX12_headsOf wsX12_headsOf) := goodIn_app (goodIn_of _ (by decide +kernel)) ggX12_askedOf_X12_headsOf
set_option maxRecDepth 20000 in
theorem ggX12_askedOf_X12_weightOf : GoodIn wsX12_askedOf wsX12_weightOf := goodIn_r _ [17, 8, 9, 18, 10, 11, 12, 6, 13, 19, 20, 21, 22, 23, 24, 25, 26, 27, 28, 29, 30, 31, 32, 33, 34, 35, 36, 37, 38, 39, 40, 41, 42, 43, 44, 45, 46, 47, 48, 49, 50, 51, 52, 53, 54, 55, 56, 57, 58, 59, 60, 61, 62, 63, 64, 65, 66, 67, 68, 69, 70] (by decide +kernel) (by decide +kernel)
set_option maxRecDepth 20000 in
theorem gX12_askedOf_X12_weightOf : GoodIn wsX12_askedOf (wsV RX12 261 RX12 yX12_weightOf wsX12_weightOf) := goodIn_app (goodIn_of _ (by decide +kernel)) ggX12_askedOf_X12_weightOf
theorem dX12_askedOf_0 : decode cX12_askedOf 0 = .ok (.iload_n 1, 1) := by decide +kernel
theorem dX12_askedOf_1 : decode cX12_askedOf 1 = .ok (.ifCond .ne 10, 3) := by decide +kernel
theorem dX12_askedOf_4 : decode cX12_askedOf 4 = .ok (.aload_n 0, 1) := by decide +kernel
theorem dX12_askedOf_5 : decode cX12_askedOf 5 = .ok (.iload_n 2, 1) := by decide +kernel
theorem dX12_askedOf_6 : decode cX12_askedOf 6 = .ok (.iconst (-1), 1) := by decide +kernel
theorem dX12_askedOf_7 : decode cX12_askedOf 7 = .ok (.invokevirtual 258, 3) := by decide +kernel
theorem dX12_askedOf_10 : decode cX12_askedOf 10 = .ok (.ireturn, 1) := by decide +kernel
theorem dX12_askedOf_11 : decode cX12_askedOf 11 = .ok (.iload_n 1, 1) := by decide +kernel
theorem dX12_askedOf_12 : decode cX12_askedOf 12 = .ok (.iconst 1, 1) := by decide +kernel
theorem dX12_askedOf_13 : decode cX12_askedOf 13 = .ok (.if_icmp .ne 10, 3) := by decide +kernel
theorem dX12_askedOf_16 : decode cX12_askedOf 16 = .ok (.aload_n 0, 1) := by decide +kernel
theorem dX12_askedOf_17 : decode cX12_askedOf 17 = .ok (.iload_n 2, 1) := by decide +kernel
theorem dX12_askedOf_18 : decode cX12_askedOf 18 = .ok (.iconst (-1), 1) := by decide +kernel
theorem dX12_askedOf_19 : decode cX12_askedOf 19 = .ok (.invokevirtual 261, 3) := by decide +kernel
theorem dX12_askedOf_22 : decode cX12_askedOf 22 = .ok (.ireturn, 1) := by decide +kernel
theorem dX12_askedOf_23 : decode cX12_askedOf 23 = .ok (.iload_n 1, 1) := by decide +kernel
theorem dX12_askedOf_24 : decode cX12_askedOf 24 = .ok (.iconst 2, 1) := by decide +kernel
theorem dX12_askedOf_25 : decode cX12_askedOf 25 = .ok (.if_icmp .ne 10, 3) := by decide +kernel
theorem dX12_askedOf_28 : decode cX12_askedOf 28 = .ok (.aload_n 0, 1) := by decide +kernel
theorem dX12_askedOf_29 : decode cX12_askedOf 29 = .ok (.getfield 138, 3) := by decide +kernel
theorem dX12_askedOf_32 : decode cX12_askedOf 32 = .ok (.goto 7, 3) := by decide +kernel
theorem dX12_askedOf_35 : decode cX12_askedOf 35 = .ok (.aload_n 0, 1) := by decide +kernel
theorem dX12_askedOf_36 : decode cX12_askedOf 36 = .ok (.getfield 141, 3) := by decide +kernel
theorem dX12_askedOf_39 : decode cX12_askedOf 39 = .ok (.ireturn, 1) := by decide +kernel
set_option maxRecDepth 20000 in
theorem ggX12_leafOf_X12_askedOf : GoodIn wsX12_leafOf wsX12_askedOf := goodIn_r _ [7, 8, 9, 10, 11, 12, 6, 13, 14, 15, 16, 17, 18, 19, 20, 21, 22, 23, 24, 25, 26, 27, 28, 29, 30, 31, 32, 33, 34, 35, 36, 37, 38, 39, 40, 41, 42, 43, 44, 45, 46, 47, 48, 49, 50, 51, 52, 53, 54, 55, 56, 57, 58, 59, 60, 61, 62, 63, 64, 65, 66, 67, 68, 69, 70, 71, 72, 73, 74, 75, 76] (by decide +kernel) (by decide +kernel)
set_option maxRecDepth 20000 in
theorem gX12_leafOf_X12_askedOf : GoodIn wsX12_leafOf (wsV RX12 264 RX12 yX12_askedOf wsX12_askedOf) := goodIn_app (goodIn_of _ (by decide +kernel)) ggX12_leafOf_X12_askedOf
set_option maxRecDepth 20000 in
theorem ggX12_leafOf_X12_isOf : GoodIn wsX12_leafOf wsX12_isOf := goodIn_r _ [19] (by decide +kernel) (by decide +kernel)
set_option maxRecDepth 20000 in
theorem gX12_leafOf_X12_isOf : GoodIn wsX12_leafOf (wsV RX12 151 RX12 yX12_isOf wsX12_isOf) := goodIn_app (goodIn_of _ (by decide +kernel)) ggX12_leafOf_X12_isOf
set_option maxRecDepth 20000 in
theorem ggX12_leafOf_X12_headsOf : GoodIn wsX12_leafOf wsX12_headsOf := goodIn_r _ [13, 14, 15, 16, 17, 18, 6, 19, 25, 26, 27, 28, 29, 30, 31, 32, 33, 34, 35, 36, 37, 38, 39, 40, 41, 42, 43, 44, 45, 46, 47, 48, 49, 50, 51, 52, 53, 54, 55, 56, 57, 58, 59, 60, 61, 62, 63, 64, 65, 66, 67, 68, 69, 70, 71, 72, 73, 74, 75, 76] (by decide +kernel) (by decide +kernel)
set_option maxRecDepth 20000 in
theorem gX12_leafOf_X12_headsOf : GoodIn wsX12_leafOf (wsV RX12 258 RX12 yX12_headsOf wsX12_headsOf) := goodIn_app (goodIn_of _ (by decide +kernel)) ggX12_leafOf_X12_headsOf
set_option maxRecDepth 20000 in
theorem ggX12_leafOf_X12_weightOf : GoodIn wsX12_leafOf wsX12_weightOf := goodIn_r _ [23, 14, 15, 24, 16, 17, 18, 6, 19, 25, 26, 27, 28, 29, 30, 31, 32, 33, 34, 35, 36, 37, 38, 39, 40, 41, 42, 43, 44, 45, 46, 47, 48, 49, 50, 51, 52, 53, 54, 55, 56, 57, 58, 59, 60, 61, 62, 63, 64, 65, 66, 67, 68, 69, 70, 71, 72, 73, 74, 75, 76] (by decide +kernel) (by decide +kernel)
set_option maxRecDepth 20000 in
theorem gX12_leafOf_X12_weightOf : GoodIn wsX12_leafOf (wsV RX12 261 RX12 yX12_weightOf wsX12_weightOf) := goodIn_app (goodIn_of _ (by decide +kernel)) ggX12_leafOf_X12_weightOf
theorem dX12_leafOf_0 : decode cX12_leafOf 0 = .ok (.aload_n 0, 1) := by decide +kernel
theorem dX12_leafOf_1 : decode cX12_leafOf 1 = .ok (.getfield 57, 3) := by decide +kernel
theorem dX12_leafOf_4 : decode cX12_leafOf 4 = .ok (.iload_n 1, 1) := by decide +kernel
theorem dX12_leafOf_5 : decode cX12_leafOf 5 = .ok (.iaload, 1) := by decide +kernel
theorem dX12_leafOf_6 : decode cX12_leafOf 6 = .ok (.istore_n 3, 1) := by decide +kernel
theorem dX12_leafOf_7 : decode cX12_leafOf 7 = .ok (.aload_n 0, 1) := by decide +kernel
theorem dX12_leafOf_8 : decode cX12_leafOf 8 = .ok (.getfield 54, 3) := by decide +kernel
theorem dX12_leafOf_11 : decode cX12_leafOf 11 = .ok (.iload_n 1, 1) := by decide +kernel
theorem dX12_leafOf_12 : decode cX12_leafOf 12 = .ok (.iaload, 1) := by decide +kernel
theorem dX12_leafOf_13 : decode cX12_leafOf 13 = .ok (.ifCond .ne 5, 3) := by decide +kernel
theorem dX12_leafOf_16 : decode cX12_leafOf 16 = .ok (.iload_n 3, 1) := by decide +kernel
theorem dX12_leafOf_17 : decode cX12_leafOf 17 = .ok (.ireturn, 1) := by decide +kernel
theorem dX12_leafOf_18 : decode cX12_leafOf 18 = .ok (.aload_n 0, 1) := by decide +kernel
theorem dX12_leafOf_19 : decode cX12_leafOf 19 = .ok (.getfield 54, 3) := by decide +kernel
theorem dX12_leafOf_22 : decode cX12_leafOf 22 = .ok (.iload_n 1, 1) := by decide +kernel
theorem dX12_leafOf_23 : decode cX12_leafOf 23 = .ok (.iaload, 1) := by decide +kernel
theorem dX12_leafOf_24 : decode cX12_leafOf 24 = .ok (.iconst 1, 1) := by decide +kernel
theorem dX12_leafOf_25 : decode cX12_leafOf 25 = .ok (.if_icmp .ne 10, 3) := by decide +kernel
theorem dX12_leafOf_28 : decode cX12_leafOf 28 = .ok (.aload_n 0, 1) := by decide +kernel
theorem dX12_leafOf_29 : decode cX12_leafOf 29 = .ok (.iload_n 3, 1) := by decide +kernel
theorem dX12_leafOf_30 : decode cX12_leafOf 30 = .ok (.iload_n 2, 1) := by decide +kernel
theorem dX12_leafOf_31 : decode cX12_leafOf 31 = .ok (.invokevirtual 264, 3) := by decide +kernel
theorem dX12_leafOf_34 : decode cX12_leafOf 34 = .ok (.ireturn, 1) := by decide +kernel
theorem dX12_leafOf_35 : decode cX12_leafOf 35 = .ok (.aload_n 0, 1) := by decide +kernel
theorem dX12_leafOf_36 : decode cX12_leafOf 36 = .ok (.getfield 54, 3) := by decide +kernel
theorem dX12_leafOf_39 : decode cX12_leafOf 39 = .ok (.iload_n 1, 1) := by decide +kernel
theorem dX12_leafOf_40 : decode cX12_leafOf 40 = .ok (.iaload, 1) := by decide +kernel
theorem dX12_leafOf_41 : decode cX12_leafOf 41 = .ok (.iconst 3, 1) := by decide +kernel
theorem dX12_leafOf_42 : decode cX12_leafOf 42 = .ok (.if_icmp .ne 18, 3) := by decide +kernel
theorem dX12_leafOf_45 : decode cX12_leafOf 45 = .ok (.aload_n 0, 1) := by decide +kernel
theorem dX12_leafOf_46 : decode cX12_leafOf 46 = .ok (.iload_n 2, 1) := by decide +kernel
theorem dX12_leafOf_47 : decode cX12_leafOf 47 = .ok (.iload_n 3, 1) := by decide +kernel
theorem dX12_leafOf_48 : decode cX12_leafOf 48 = .ok (.invokevirtual 151, 3) := by decide +kernel
theorem dX12_leafOf_51 : decode cX12_leafOf 51 = .ok (.ifCond .eq 7, 3) := by decide +kernel
theorem dX12_leafOf_54 : decode cX12_leafOf 54 = .ok (.iconst 1, 1) := by decide +kernel
theorem dX12_leafOf_55 : decode cX12_leafOf 55 = .ok (.goto 4, 3) := by decide +kernel
theorem dX12_leafOf_58 : decode cX12_leafOf 58 = .ok (.iconst 0, 1) := by decide +kernel
theorem dX12_leafOf_59 : decode cX12_leafOf 59 = .ok (.ireturn, 1) := by decide +kernel
theorem dX12_leafOf_60 : decode cX12_leafOf 60 = .ok (.iload_n 3, 1) := by decide +kernel
theorem dX12_leafOf_61 : decode cX12_leafOf 61 = .ok (.bipush 6, 2) := by decide +kernel
theorem dX12_leafOf_63 : decode cX12_leafOf 63 = .ok (.if_icmp .ge 12, 3) := by decide +kernel
theorem dX12_leafOf_66 : decode cX12_leafOf 66 = .ok (.aload_n 0, 1) := by decide +kernel
theorem dX12_leafOf_67 : decode cX12_leafOf 67 = .ok (.iload_n 2, 1) := by decide +kernel
theorem dX12_leafOf_68 : decode cX12_leafOf 68 = .ok (.iload_n 3, 1) := by decide +kernel
theorem dX12_leafOf_69 : decode cX12_leafOf 69 = .ok (.invokevirtual 258, 3) := by decide +kernel
theorem dX12_leafOf_72 : decode cX12_leafOf 72 = .ok (.goto 12, 3) := by decide +kernel
theorem dX12_leafOf_75 : decode cX12_leafOf 75 = .ok (.aload_n 0, 1) := by decide +kernel
theorem dX12_leafOf_76 : decode cX12_leafOf 76 = .ok (.iload_n 2, 1) := by decide +kernel
theorem dX12_leafOf_77 : decode cX12_leafOf 77 = .ok (.iload_n 3, 1) := by decide +kernel
theorem dX12_leafOf_78 : decode cX12_leafOf 78 = .ok (.bipush 6, 2) := by decide +kernel
theorem dX12_leafOf_80 : decode cX12_leafOf 80 = .ok (.isub, 1) := by decide +kernel
theorem dX12_leafOf_81 : decode cX12_leafOf 81 = .ok (.invokevirtual 261, 3) := by decide +kernel
theorem dX12_leafOf_84 : decode cX12_leafOf 84 = .ok (.ireturn, 1) := by decide +kernel
theorem dX12_twoOf_0 : decode cX12_twoOf 0 = .ok (.iload_n 1, 1) := by decide +kernel
theorem dX12_twoOf_1 : decode cX12_twoOf 1 = .ok (.iconst 4, 1) := by decide +kernel
theorem dX12_twoOf_2 : decode cX12_twoOf 2 = .ok (.if_icmp .ne 7, 3) := by decide +kernel
theorem dX12_twoOf_5 : decode cX12_twoOf 5 = .ok (.iload_n 2, 1) := by decide +kernel
theorem dX12_twoOf_6 : decode cX12_twoOf 6 = .ok (.iload_n 3, 1) := by decide +kernel
theorem dX12_twoOf_7 : decode cX12_twoOf 7 = .ok (.iadd, 1) := by decide +kernel
theorem dX12_twoOf_8 : decode cX12_twoOf 8 = .ok (.ireturn, 1) := by decide +kernel
theorem dX12_twoOf_9 : decode cX12_twoOf 9 = .ok (.iload_n 1, 1) := by decide +kernel
theorem dX12_twoOf_10 : decode cX12_twoOf 10 = .ok (.iconst 5, 1) := by decide +kernel
theorem dX12_twoOf_11 : decode cX12_twoOf 11 = .ok (.if_icmp .ne 7, 3) := by decide +kernel
theorem dX12_twoOf_14 : decode cX12_twoOf 14 = .ok (.iload_n 2, 1) := by decide +kernel
theorem dX12_twoOf_15 : decode cX12_twoOf 15 = .ok (.iload_n 3, 1) := by decide +kernel
theorem dX12_twoOf_16 : decode cX12_twoOf 16 = .ok (.isub, 1) := by decide +kernel
theorem dX12_twoOf_17 : decode cX12_twoOf 17 = .ok (.ireturn, 1) := by decide +kernel
theorem dX12_twoOf_18 : decode cX12_twoOf 18 = .ok (.iload_n 1, 1) := by decide +kernel
theorem dX12_twoOf_19 : decode cX12_twoOf 19 = .ok (.bipush 6, 2) := by decide +kernel
theorem dX12_twoOf_21 : decode cX12_twoOf 21 = .ok (.if_icmp .ne 7, 3) := by decide +kernel
theorem dX12_twoOf_24 : decode cX12_twoOf 24 = .ok (.iload_n 2, 1) := by decide +kernel
theorem dX12_twoOf_25 : decode cX12_twoOf 25 = .ok (.iload_n 3, 1) := by decide +kernel
theorem dX12_twoOf_26 : decode cX12_twoOf 26 = .ok (.imul, 1) := by decide +kernel
theorem dX12_twoOf_27 : decode cX12_twoOf 27 = .ok (.ireturn, 1) := by decide +kernel
theorem dX12_twoOf_28 : decode cX12_twoOf 28 = .ok (.iload_n 1, 1) := by decide +kernel
theorem dX12_twoOf_29 : decode cX12_twoOf 29 = .ok (.bipush 7, 2) := by decide +kernel
theorem dX12_twoOf_31 : decode cX12_twoOf 31 = .ok (.if_icmp .ne 14, 3) := by decide +kernel
theorem dX12_twoOf_34 : decode cX12_twoOf 34 = .ok (.iload_n 2, 1) := by decide +kernel
theorem dX12_twoOf_35 : decode cX12_twoOf 35 = .ok (.iload_n 3, 1) := by decide +kernel
theorem dX12_twoOf_36 : decode cX12_twoOf 36 = .ok (.if_icmp .ge 7, 3) := by decide +kernel
theorem dX12_twoOf_39 : decode cX12_twoOf 39 = .ok (.iconst 1, 1) := by decide +kernel
theorem dX12_twoOf_40 : decode cX12_twoOf 40 = .ok (.goto 4, 3) := by decide +kernel
theorem dX12_twoOf_43 : decode cX12_twoOf 43 = .ok (.iconst 0, 1) := by decide +kernel
theorem dX12_twoOf_44 : decode cX12_twoOf 44 = .ok (.ireturn, 1) := by decide +kernel
theorem dX12_twoOf_45 : decode cX12_twoOf 45 = .ok (.iload_n 1, 1) := by decide +kernel
theorem dX12_twoOf_46 : decode cX12_twoOf 46 = .ok (.bipush 8, 2) := by decide +kernel
theorem dX12_twoOf_48 : decode cX12_twoOf 48 = .ok (.if_icmp .ne 14, 3) := by decide +kernel
theorem dX12_twoOf_51 : decode cX12_twoOf 51 = .ok (.iload_n 2, 1) := by decide +kernel
theorem dX12_twoOf_52 : decode cX12_twoOf 52 = .ok (.iload_n 3, 1) := by decide +kernel
theorem dX12_twoOf_53 : decode cX12_twoOf 53 = .ok (.if_icmp .ne 7, 3) := by decide +kernel
theorem dX12_twoOf_56 : decode cX12_twoOf 56 = .ok (.iconst 1, 1) := by decide +kernel
theorem dX12_twoOf_57 : decode cX12_twoOf 57 = .ok (.goto 4, 3) := by decide +kernel
theorem dX12_twoOf_60 : decode cX12_twoOf 60 = .ok (.iconst 0, 1) := by decide +kernel
theorem dX12_twoOf_61 : decode cX12_twoOf 61 = .ok (.ireturn, 1) := by decide +kernel
theorem dX12_twoOf_62 : decode cX12_twoOf 62 = .ok (.iload_n 1, 1) := by decide +kernel
theorem dX12_twoOf_63 : decode cX12_twoOf 63 = .ok (.bipush 9, 2) := by decide +kernel
theorem dX12_twoOf_65 : decode cX12_twoOf 65 = .ok (.if_icmp .ne 14, 3) := by decide +kernel
theorem dX12_twoOf_68 : decode cX12_twoOf 68 = .ok (.iload_n 2, 1) := by decide +kernel
theorem dX12_twoOf_69 : decode cX12_twoOf 69 = .ok (.iload_n 3, 1) := by decide +kernel
theorem dX12_twoOf_70 : decode cX12_twoOf 70 = .ok (.if_icmp .le 7, 3) := by decide +kernel
theorem dX12_twoOf_73 : decode cX12_twoOf 73 = .ok (.iconst 1, 1) := by decide +kernel
theorem dX12_twoOf_74 : decode cX12_twoOf 74 = .ok (.goto 4, 3) := by decide +kernel
theorem dX12_twoOf_77 : decode cX12_twoOf 77 = .ok (.iconst 0, 1) := by decide +kernel
theorem dX12_twoOf_78 : decode cX12_twoOf 78 = .ok (.ireturn, 1) := by decide +kernel
theorem dX12_twoOf_79 : decode cX12_twoOf 79 = .ok (.iload_n 1, 1) := by decide +kernel
theorem dX12_twoOf_80 : decode cX12_twoOf 80 = .ok (.bipush 11, 2) := by decide +kernel
theorem dX12_twoOf_82 : decode cX12_twoOf 82 = .ok (.if_icmp .ne 9, 3) := by decide +kernel
theorem dX12_twoOf_85 : decode cX12_twoOf 85 = .ok (.iload_n 2, 1) := by decide +kernel
theorem dX12_twoOf_86 : decode cX12_twoOf 86 = .ok (.iload_n 3, 1) := by decide +kernel
theorem dX12_twoOf_87 : decode cX12_twoOf 87 = .ok (.imul, 1) := by decide +kernel
theorem dX12_twoOf_88 : decode cX12_twoOf 88 = .ok (.goto 14, 3) := by decide +kernel
theorem dX12_twoOf_91 : decode cX12_twoOf 91 = .ok (.iload_n 2, 1) := by decide +kernel
theorem dX12_twoOf_92 : decode cX12_twoOf 92 = .ok (.iload_n 3, 1) := by decide +kernel
theorem dX12_twoOf_93 : decode cX12_twoOf 93 = .ok (.iadd, 1) := by decide +kernel
theorem dX12_twoOf_94 : decode cX12_twoOf 94 = .ok (.ifCond .le 7, 3) := by decide +kernel
theorem dX12_twoOf_97 : decode cX12_twoOf 97 = .ok (.iconst 1, 1) := by decide +kernel
theorem dX12_twoOf_98 : decode cX12_twoOf 98 = .ok (.goto 4, 3) := by decide +kernel
theorem dX12_twoOf_101 : decode cX12_twoOf 101 = .ok (.iconst 0, 1) := by decide +kernel
theorem dX12_twoOf_102 : decode cX12_twoOf 102 = .ok (.ireturn, 1) := by decide +kernel
set_option maxRecDepth 20000 in
theorem ggX12_carriesBy_X12_leafOf : GoodIn wsX12_carriesBy wsX12_leafOf := goodIn_r _ [8, 9, 2, 10, 11, 12, 7, 13, 14, 15, 16, 17, 18, 19, 20, 21, 22, 23, 24, 25, 26, 27, 28, 29, 30, 35, 36, 37, 38, 39, 40, 41, 42, 43, 44, 45, 46, 47, 48, 49, 50, 51, 52, 53, 54, 55, 56, 57, 58, 59, 60, 61, 62, 63, 64, 65, 66, 67, 68, 69, 70, 71, 72, 73, 74, 75, 76, 77, 78, 79, 80, 81, 82, 83, 84, 85, 86] (by decide +kernel) (by decide +kernel)
set_option maxRecDepth 20000 in
theorem gX12_carriesBy_X12_leafOf : GoodIn wsX12_carriesBy (wsV RX12 267 RX12 yX12_leafOf wsX12_leafOf) := goodIn_app (goodIn_of _ (by decide +kernel)) ggX12_carriesBy_X12_leafOf
set_option maxRecDepth 20000 in
theorem ggX12_carriesBy_X12_twoOf : GoodIn wsX12_carriesBy wsX12_twoOf := goodIn_r _ [34] (by decide +kernel) (by decide +kernel)
set_option maxRecDepth 20000 in
theorem gX12_carriesBy_X12_twoOf : GoodIn wsX12_carriesBy (wsV RX12 270 RX12 yX12_twoOf wsX12_twoOf) := goodIn_app (goodIn_of _ (by decide +kernel)) ggX12_carriesBy_X12_twoOf
theorem dX12_carriesBy_0 : decode cX12_carriesBy 0 = .ok (.aload_n 0, 1) := by decide +kernel
theorem dX12_carriesBy_1 : decode cX12_carriesBy 1 = .ok (.getfield 51, 3) := by decide +kernel
theorem dX12_carriesBy_4 : decode cX12_carriesBy 4 = .ok (.iload_n 1, 1) := by decide +kernel
theorem dX12_carriesBy_5 : decode cX12_carriesBy 5 = .ok (.iaload, 1) := by decide +kernel
theorem dX12_carriesBy_6 : decode cX12_carriesBy 6 = .ok (.ifCond .ne 5, 3) := by decide +kernel
theorem dX12_carriesBy_9 : decode cX12_carriesBy 9 = .ok (.iconst 0, 1) := by decide +kernel
theorem dX12_carriesBy_10 : decode cX12_carriesBy 10 = .ok (.ireturn, 1) := by decide +kernel
theorem dX12_carriesBy_11 : decode cX12_carriesBy 11 = .ok (.iconst 0, 1) := by decide +kernel
theorem dX12_carriesBy_12 : decode cX12_carriesBy 12 = .ok (.istore_n 3, 1) := by decide +kernel
theorem dX12_carriesBy_13 : decode cX12_carriesBy 13 = .ok (.sipush 500, 3) := by decide +kernel
theorem dX12_carriesBy_16 : decode cX12_carriesBy 16 = .ok (.iload_n 1, 1) := by decide +kernel
theorem dX12_carriesBy_17 : decode cX12_carriesBy 17 = .ok (.imul, 1) := by decide +kernel
theorem dX12_carriesBy_18 : decode cX12_carriesBy 18 = .ok (.istore 4, 2) := by decide +kernel
theorem dX12_carriesBy_20 : decode cX12_carriesBy 20 = .ok (.iload 4, 2) := by decide +kernel
theorem dX12_carriesBy_22 : decode cX12_carriesBy 22 = .ok (.sipush 500, 3) := by decide +kernel
theorem dX12_carriesBy_25 : decode cX12_carriesBy 25 = .ok (.iload_n 1, 1) := by decide +kernel
theorem dX12_carriesBy_26 : decode cX12_carriesBy 26 = .ok (.imul, 1) := by decide +kernel
theorem dX12_carriesBy_27 : decode cX12_carriesBy 27 = .ok (.aload_n 0, 1) := by decide +kernel
theorem dX12_carriesBy_28 : decode cX12_carriesBy 28 = .ok (.getfield 51, 3) := by decide +kernel
theorem dX12_carriesBy_31 : decode cX12_carriesBy 31 = .ok (.iload_n 1, 1) := by decide +kernel
theorem dX12_carriesBy_32 : decode cX12_carriesBy 32 = .ok (.iaload, 1) := by decide +kernel
theorem dX12_carriesBy_33 : decode cX12_carriesBy 33 = .ok (.iadd, 1) := by decide +kernel
theorem dX12_carriesBy_34 : decode cX12_carriesBy 34 = .ok (.if_icmp .ge 110, 3) := by decide +kernel
theorem dX12_carriesBy_37 : decode cX12_carriesBy 37 = .ok (.aload_n 0, 1) := by decide +kernel
theorem dX12_carriesBy_38 : decode cX12_carriesBy 38 = .ok (.getfield 54, 3) := by decide +kernel
theorem dX12_carriesBy_41 : decode cX12_carriesBy 41 = .ok (.iload 4, 2) := by decide +kernel
theorem dX12_carriesBy_43 : decode cX12_carriesBy 43 = .ok (.iaload, 1) := by decide +kernel
theorem dX12_carriesBy_44 : decode cX12_carriesBy 44 = .ok (.iconst 3, 1) := by decide +kernel
theorem dX12_carriesBy_45 : decode cX12_carriesBy 45 = .ok (.if_icmp .gt 23, 3) := by decide +kernel
theorem dX12_carriesBy_48 : decode cX12_carriesBy 48 = .ok (.aload_n 0, 1) := by decide +kernel
theorem dX12_carriesBy_49 : decode cX12_carriesBy 49 = .ok (.getfield 66, 3) := by decide +kernel
theorem dX12_carriesBy_52 : decode cX12_carriesBy 52 = .ok (.iload_n 3, 1) := by decide +kernel
theorem dX12_carriesBy_53 : decode cX12_carriesBy 53 = .ok (.aload_n 0, 1) := by decide +kernel
theorem dX12_carriesBy_54 : decode cX12_carriesBy 54 = .ok (.iload 4, 2) := by decide +kernel
theorem dX12_carriesBy_56 : decode cX12_carriesBy 56 = .ok (.iload_n 2, 1) := by decide +kernel
theorem dX12_carriesBy_57 : decode cX12_carriesBy 57 = .ok (.invokevirtual 267, 3) := by decide +kernel
theorem dX12_carriesBy_60 : decode cX12_carriesBy 60 = .ok (.iastore, 1) := by decide +kernel
theorem dX12_carriesBy_61 : decode cX12_carriesBy 61 = .ok (.iload_n 3, 1) := by decide +kernel
theorem dX12_carriesBy_62 : decode cX12_carriesBy 62 = .ok (.iconst 1, 1) := by decide +kernel
theorem dX12_carriesBy_63 : decode cX12_carriesBy 63 = .ok (.iadd, 1) := by decide +kernel
theorem dX12_carriesBy_64 : decode cX12_carriesBy 64 = .ok (.istore_n 3, 1) := by decide +kernel
theorem dX12_carriesBy_65 : decode cX12_carriesBy 65 = .ok (.goto 73, 3) := by decide +kernel
theorem dX12_carriesBy_68 : decode cX12_carriesBy 68 = .ok (.aload_n 0, 1) := by decide +kernel
theorem dX12_carriesBy_69 : decode cX12_carriesBy 69 = .ok (.getfield 54, 3) := by decide +kernel
theorem dX12_carriesBy_72 : decode cX12_carriesBy 72 = .ok (.iload 4, 2) := by decide +kernel
theorem dX12_carriesBy_74 : decode cX12_carriesBy 74 = .ok (.iaload, 1) := by decide +kernel
theorem dX12_carriesBy_75 : decode cX12_carriesBy 75 = .ok (.bipush 10, 2) := by decide +kernel
theorem dX12_carriesBy_77 : decode cX12_carriesBy 77 = .ok (.if_icmp .ne 24, 3) := by decide +kernel
theorem dX12_carriesBy_80 : decode cX12_carriesBy 80 = .ok (.aload_n 0, 1) := by decide +kernel
theorem dX12_carriesBy_81 : decode cX12_carriesBy 81 = .ok (.getfield 66, 3) := by decide +kernel
theorem dX12_carriesBy_84 : decode cX12_carriesBy 84 = .ok (.iload_n 3, 1) := by decide +kernel
theorem dX12_carriesBy_85 : decode cX12_carriesBy 85 = .ok (.iconst 1, 1) := by decide +kernel
theorem dX12_carriesBy_86 : decode cX12_carriesBy 86 = .ok (.isub, 1) := by decide +kernel
theorem dX12_carriesBy_87 : decode cX12_carriesBy 87 = .ok (.iconst 1, 1) := by decide +kernel
theorem dX12_carriesBy_88 : decode cX12_carriesBy 88 = .ok (.aload_n 0, 1) := by decide +kernel
theorem dX12_carriesBy_89 : decode cX12_carriesBy 89 = .ok (.getfield 66, 3) := by decide +kernel
theorem dX12_carriesBy_92 : decode cX12_carriesBy 92 = .ok (.iload_n 3, 1) := by decide +kernel
theorem dX12_carriesBy_93 : decode cX12_carriesBy 93 = .ok (.iconst 1, 1) := by decide +kernel
theorem dX12_carriesBy_94 : decode cX12_carriesBy 94 = .ok (.isub, 1) := by decide +kernel
theorem dX12_carriesBy_95 : decode cX12_carriesBy 95 = .ok (.iaload, 1) := by decide +kernel
theorem dX12_carriesBy_96 : decode cX12_carriesBy 96 = .ok (.isub, 1) := by decide +kernel
theorem dX12_carriesBy_97 : decode cX12_carriesBy 97 = .ok (.iastore, 1) := by decide +kernel
theorem dX12_carriesBy_98 : decode cX12_carriesBy 98 = .ok (.goto 40, 3) := by decide +kernel
theorem dX12_carriesBy_101 : decode cX12_carriesBy 101 = .ok (.iload_n 3, 1) := by decide +kernel
theorem dX12_carriesBy_102 : decode cX12_carriesBy 102 = .ok (.iconst 1, 1) := by decide +kernel
theorem dX12_carriesBy_103 : decode cX12_carriesBy 103 = .ok (.isub, 1) := by decide +kernel
theorem dX12_carriesBy_104 : decode cX12_carriesBy 104 = .ok (.istore_n 3, 1) := by decide +kernel
theorem dX12_carriesBy_105 : decode cX12_carriesBy 105 = .ok (.aload_n 0, 1) := by decide +kernel
theorem dX12_carriesBy_106 : decode cX12_carriesBy 106 = .ok (.getfield 66, 3) := by decide +kernel
theorem dX12_carriesBy_109 : decode cX12_carriesBy 109 = .ok (.iload_n 3, 1) := by decide +kernel
theorem dX12_carriesBy_110 : decode cX12_carriesBy 110 = .ok (.iconst 1, 1) := by decide +kernel
theorem dX12_carriesBy_111 : decode cX12_carriesBy 111 = .ok (.isub, 1) := by decide +kernel
theorem dX12_carriesBy_112 : decode cX12_carriesBy 112 = .ok (.aload_n 0, 1) := by decide +kernel
theorem dX12_carriesBy_113 : decode cX12_carriesBy 113 = .ok (.aload_n 0, 1) := by decide +kernel
theorem dX12_carriesBy_114 : decode cX12_carriesBy 114 = .ok (.getfield 54, 3) := by decide +kernel
theorem dX12_carriesBy_117 : decode cX12_carriesBy 117 = .ok (.iload 4, 2) := by decide +kernel
theorem dX12_carriesBy_119 : decode cX12_carriesBy 119 = .ok (.iaload, 1) := by decide +kernel
theorem dX12_carriesBy_120 : decode cX12_carriesBy 120 = .ok (.aload_n 0, 1) := by decide +kernel
theorem dX12_carriesBy_121 : decode cX12_carriesBy 121 = .ok (.getfield 66, 3) := by decide +kernel
theorem dX12_carriesBy_124 : decode cX12_carriesBy 124 = .ok (.iload_n 3, 1) := by decide +kernel
theorem dX12_carriesBy_125 : decode cX12_carriesBy 125 = .ok (.iconst 1, 1) := by decide +kernel
theorem dX12_carriesBy_126 : decode cX12_carriesBy 126 = .ok (.isub, 1) := by decide +kernel
theorem dX12_carriesBy_127 : decode cX12_carriesBy 127 = .ok (.iaload, 1) := by decide +kernel
theorem dX12_carriesBy_128 : decode cX12_carriesBy 128 = .ok (.aload_n 0, 1) := by decide +kernel
theorem dX12_carriesBy_129 : decode cX12_carriesBy 129 = .ok (.getfield 66, 3) := by decide +kernel
theorem dX12_carriesBy_132 : decode cX12_carriesBy 132 = .ok (.iload_n 3, 1) := by decide +kernel
theorem dX12_carriesBy_133 : decode cX12_carriesBy 133 = .ok (.iaload, 1) := by decide +kernel
theorem dX12_carriesBy_134 : decode cX12_carriesBy 134 = .ok (.invokevirtual 270, 3) := by decide +kernel
theorem dX12_carriesBy_137 : decode cX12_carriesBy 137 = .ok (.iastore, 1) := by decide +kernel
theorem dX12_carriesBy_138 : decode cX12_carriesBy 138 = .ok (.iinc 4 1, 3) := by decide +kernel
theorem dX12_carriesBy_141 : decode cX12_carriesBy 141 = .ok (.goto (-121), 3) := by decide +kernel
theorem dX12_carriesBy_144 : decode cX12_carriesBy 144 = .ok (.aload_n 0, 1) := by decide +kernel
theorem dX12_carriesBy_145 : decode cX12_carriesBy 145 = .ok (.getfield 66, 3) := by decide +kernel
theorem dX12_carriesBy_148 : decode cX12_carriesBy 148 = .ok (.iconst 0, 1) := by decide +kernel
theorem dX12_carriesBy_149 : decode cX12_carriesBy 149 = .ok (.iaload, 1) := by decide +kernel
theorem dX12_carriesBy_150 : decode cX12_carriesBy 150 = .ok (.ifCond .eq 7, 3) := by decide +kernel
theorem dX12_carriesBy_153 : decode cX12_carriesBy 153 = .ok (.iconst 1, 1) := by decide +kernel
theorem dX12_carriesBy_154 : decode cX12_carriesBy 154 = .ok (.goto 4, 3) := by decide +kernel
theorem dX12_carriesBy_157 : decode cX12_carriesBy 157 = .ok (.iconst 0, 1) := by decide +kernel
theorem dX12_carriesBy_158 : decode cX12_carriesBy 158 = .ok (.ireturn, 1) := by decide +kernel
set_option maxRecDepth 20000 in
theorem ggX12_findCarry_X12_findsView : GoodIn wsX12_findCarry wsX12_findsView := goodIn_r _ [7, 8, 9, 10, 11, 12, 6, 13, 2, 14, 15, 16, 17, 18, 19, 20, 21, 22, 23, 24, 57, 58, 59, 60, 61, 62, 63, 64, 65, 66, 67, 68, 69, 70, 71, 72, 73, 74, 75, 76, 77, 78, 79, 80, 81, 82, 83, 84, 85, 86, 87, 88, 89, 90, 91, 92, 93, 94, 95, 96, 97, 98, 99, 100, 101, 102, 103, 104, 105, 106, 107, 108] (by decide +kernel) (by decide +kernel)
set_option maxRecDepth 20000 in
theorem gX12_findCarry_X12_findsView : GoodIn wsX12_findCarry (wsV RX12 148 RX12 yX12_findsView wsX12_findsView) := goodIn_app (goodIn_of _ (by decide +kernel)) ggX12_findCarry_X12_findsView
set_option maxRecDepth 20000 in
theorem ggX12_findCarry_X12_carriesBy : GoodIn wsX12_findCarry wsX12_carriesBy := goodIn_r _ [28, 29, 30, 31, 32, 33, 34, 6, 35, 36, 37, 38, 39, 40, 14, 15, 41, 42, 43, 44, 16, 21, 45, 46, 47, 48, 49, 50, 51, 52, 23, 53, 54, 55, 56, 57, 58, 59, 60, 61, 62, 63, 64, 65, 66, 67, 68, 69, 70, 71, 72, 73, 74, 75, 76, 77, 78, 79, 80, 81, 82, 83, 84, 85, 86, 87, 88, 89, 90, 91, 92, 93, 94, 95, 96, 97, 98, 99, 100, 101, 102, 103, 104, 105, 106, 107, 108] (by decide +kernel) (by decide +kernel)
set_option maxRecDepth 20000 in
theorem gX12_findCarry_X12_carriesBy : GoodIn wsX12_findCarry (wsV RX12 274 RX12 yX12_carriesBy wsX12_carriesBy) := goodIn_app (goodIn_of _ (by decide +kernel)) ggX12_findCarry_X12_carriesBy
theorem dX12_findCarry_0 : decode cX12_findCarry 0 = .ok (.aload_n 0, 1) := by decide +kernel
theorem dX12_findCarry_1 : decode cX12_findCarry 1 = .ok (.invokevirtual 148, 3) := by decide +kernel
theorem dX12_findCarry_4 : decode cX12_findCarry 4 = .ok (.iconst 0, 1) := by decide +kernel
theorem dX12_findCarry_5 : decode cX12_findCarry 5 = .ok (.istore_n 2, 1) := by decide +kernel
theorem dX12_findCarry_6 : decode cX12_findCarry 6 = .ok (.iload_n 2, 1) := by decide +kernel
theorem dX12_findCarry_7 : decode cX12_findCarry 7 = .ok (.sipush 1024, 3) := by decide +kernel
theorem dX12_findCarry_10 : decode cX12_findCarry 10 = .ok (.if_icmp .ge 40, 3) := by decide +kernel
theorem dX12_findCarry_13 : decode cX12_findCarry 13 = .ok (.aload_n 0, 1) := by decide +kernel
theorem dX12_findCarry_14 : decode cX12_findCarry 14 = .ok (.getfield 69, 3) := by decide +kernel
theorem dX12_findCarry_17 : decode cX12_findCarry 17 = .ok (.iload_n 2, 1) := by decide +kernel
theorem dX12_findCarry_18 : decode cX12_findCarry 18 = .ok (.iload_n 2, 1) := by decide +kernel
theorem dX12_findCarry_19 : decode cX12_findCarry 19 = .ok (.aload_n 0, 1) := by decide +kernel
theorem dX12_findCarry_20 : decode cX12_findCarry 20 = .ok (.getfield 135, 3) := by decide +kernel
theorem dX12_findCarry_23 : decode cX12_findCarry 23 = .ok (.iconst (-1), 1) := by decide +kernel
theorem dX12_findCarry_24 : decode cX12_findCarry 24 = .ok (.ixor, 1) := by decide +kernel
theorem dX12_findCarry_25 : decode cX12_findCarry 25 = .ok (.iand, 1) := by decide +kernel
theorem dX12_findCarry_26 : decode cX12_findCarry 26 = .ok (.ifCond .ne 16, 3) := by decide +kernel
theorem dX12_findCarry_29 : decode cX12_findCarry 29 = .ok (.aload_n 0, 1) := by decide +kernel
theorem dX12_findCarry_30 : decode cX12_findCarry 30 = .ok (.iload_n 1, 1) := by decide +kernel
theorem dX12_findCarry_31 : decode cX12_findCarry 31 = .ok (.iload_n 2, 1) := by decide +kernel
theorem dX12_findCarry_32 : decode cX12_findCarry 32 = .ok (.invokevirtual 274, 3) := by decide +kernel
theorem dX12_findCarry_35 : decode cX12_findCarry 35 = .ok (.ifCond .eq 7, 3) := by decide +kernel
theorem dX12_findCarry_38 : decode cX12_findCarry 38 = .ok (.iconst 1, 1) := by decide +kernel
theorem dX12_findCarry_39 : decode cX12_findCarry 39 = .ok (.goto 4, 3) := by decide +kernel
theorem dX12_findCarry_42 : decode cX12_findCarry 42 = .ok (.iconst 0, 1) := by decide +kernel
theorem dX12_findCarry_43 : decode cX12_findCarry 43 = .ok (.bastore, 1) := by decide +kernel
theorem dX12_findCarry_44 : decode cX12_findCarry 44 = .ok (.iinc 2 1, 3) := by decide +kernel
theorem dX12_findCarry_47 : decode cX12_findCarry 47 = .ok (.goto (-41), 3) := by decide +kernel
theorem dX12_findCarry_50 : decode cX12_findCarry 50 = .ok (.return_, 1) := by decide +kernel
theorem dX12_isSet_0 : decode cX12_isSet 0 = .ok (.iload_n 1, 1) := by decide +kernel
theorem dX12_isSet_1 : decode cX12_isSet 1 = .ok (.ifCond .lt 18, 3) := by decide +kernel
theorem dX12_isSet_4 : decode cX12_isSet 4 = .ok (.iload_n 1, 1) := by decide +kernel
theorem dX12_isSet_5 : decode cX12_isSet 5 = .ok (.aload_n 0, 1) := by decide +kernel
theorem dX12_isSet_6 : decode cX12_isSet 6 = .ok (.getfield 135, 3) := by decide +kernel
theorem dX12_isSet_9 : decode cX12_isSet 9 = .ok (.iconst (-1), 1) := by decide +kernel
theorem dX12_isSet_10 : decode cX12_isSet 10 = .ok (.ixor, 1) := by decide +kernel
theorem dX12_isSet_11 : decode cX12_isSet 11 = .ok (.iand, 1) := by decide +kernel
theorem dX12_isSet_12 : decode cX12_isSet 12 = .ok (.ifCond .ne 7, 3) := by decide +kernel
theorem dX12_isSet_15 : decode cX12_isSet 15 = .ok (.iconst 1, 1) := by decide +kernel
theorem dX12_isSet_16 : decode cX12_isSet 16 = .ok (.goto 4, 3) := by decide +kernel
theorem dX12_isSet_19 : decode cX12_isSet 19 = .ok (.iconst 0, 1) := by decide +kernel
theorem dX12_isSet_20 : decode cX12_isSet 20 = .ok (.ireturn, 1) := by decide +kernel
set_option maxRecDepth 20000 in
theorem ggX12_carries_X12_findsView : GoodIn wsX12_carries wsX12_findsView := goodIn_r _ [6, 7, 8, 9, 10, 11, 5, 12, 13, 14, 15, 16, 17, 18, 19, 20, 21, 22, 23, 24, 69, 70, 71, 72, 73, 74, 75, 76, 77, 78, 79, 80, 81, 82, 83, 84, 85, 86, 87, 88, 89, 90, 91, 92, 93, 94, 95, 96, 97, 98, 99, 100, 101, 102, 103, 104, 105, 106, 107, 108, 109, 110, 111, 112, 113, 114, 115, 116, 117, 118, 119, 120] (by decide +kernel) (by decide +kernel)
set_option maxRecDepth 20000 in
theorem gX12_carries_X12_findsView : GoodIn wsX12_carries (wsV RX12 148 RX12 yX12_findsView wsX12_findsView) := goodIn_app (goodIn_of _ (by decide +kernel)) ggX12_carries_X12_findsView
set_option maxRecDepth 20000 in
theorem ggX12_carries_X12_isRule : GoodIn wsX12_carries wsX12_isRule := goodIn_r _ [28, 29, 30, 31, 5, 32] (by decide +kernel) (by decide +kernel)
set_option maxRecDepth 20000 in
theorem gX12_carries_X12_isRule : GoodIn wsX12_carries (wsV RX12 249 RX12 yX12_isRule wsX12_isRule) := goodIn_app (goodIn_of _ (by decide +kernel)) ggX12_carries_X12_isRule
set_option maxRecDepth 20000 in
theorem ggX12_carries_X12_isSet : GoodIn wsX12_carries wsX12_isSet := goodIn_r _ [36, 13, 69, 70, 71, 72, 73, 74, 75, 76, 77, 78, 79, 80, 81, 82, 83, 84, 85, 86, 87, 88, 89, 90, 91, 92, 93, 94, 95, 96, 97, 98, 99, 100, 101, 102, 103, 104, 105, 106, 107, 108, 109, 110, 111, 112, 113, 114, 115, 116, 117, 118, 119, 120] (by decide +kernel) (by decide +kernel)
set_option maxRecDepth 20000 in
theorem gX12_carries_X12_isSet : GoodIn wsX12_carries (wsV RX12 277 RX12 yX12_isSet wsX12_isSet) := goodIn_app (goodIn_of _ (by decide +kernel)) ggX12_carries_X12_isSet
set_option maxRecDepth 20000 in
theorem ggX12_carries_X12_carriesBy : GoodIn wsX12_carries wsX12_carriesBy := goodIn_r _ [40, 41, 42, 43, 44, 45, 46, 5, 47, 48, 49, 50, 51, 52, 14, 15, 53, 54, 55, 56, 16, 21, 57, 58, 59, 60, 61, 62, 63, 64, 23, 65, 66, 67, 68, 69, 70, 71, 72, 73, 74, 75, 76, 77, 78, 79, 80, 81, 82, 83, 84, 85, 86, 87, 88, 89, 90, 91, 92, 93, 94, 95, 96, 97, 98, 99, 100, 101, 102, 103, 104, 105, 106, 107, 108, 109, 110, 111, 112, 113, 114, 115, 116, 117, 118, 119, 120] (by decide +kernel) (by decide +kernel)
set_option maxRecDepth 20000 in
theorem gX12_carries_X12_carriesBy : GoodIn wsX12_carries (wsV RX12 274 RX12 yX12_carriesBy wsX12_carriesBy) := goodIn_app (goodIn_of _ (by decide +kernel)) ggX12_carries_X12_carriesBy
theorem dX12_carries_0 : decode cX12_carries 0 = .ok (.aload_n 0, 1) := by decide +kernel
theorem dX12_carries_1 : decode cX12_carries 1 = .ok (.iconst 0, 1) := by decide +kernel
theorem dX12_carries_2 : decode cX12_carries 2 = .ok (.putfield 115, 3) := by decide +kernel
theorem dX12_carries_5 : decode cX12_carries 5 = .ok (.aload_n 0, 1) := by decide +kernel
theorem dX12_carries_6 : decode cX12_carries 6 = .ok (.invokevirtual 148, 3) := by decide +kernel
theorem dX12_carries_9 : decode cX12_carries 9 = .ok (.aload_n 0, 1) := by decide +kernel
theorem dX12_carries_10 : decode cX12_carries 10 = .ok (.iload_n 1, 1) := by decide +kernel
theorem dX12_carries_11 : decode cX12_carries 11 = .ok (.invokevirtual 249, 3) := by decide +kernel
theorem dX12_carries_14 : decode cX12_carries 14 = .ok (.ifCond .eq 11, 3) := by decide +kernel
theorem dX12_carries_17 : decode cX12_carries 17 = .ok (.aload_n 0, 1) := by decide +kernel
theorem dX12_carries_18 : decode cX12_carries 18 = .ok (.iload_n 2, 1) := by decide +kernel
theorem dX12_carries_19 : decode cX12_carries 19 = .ok (.invokevirtual 277, 3) := by decide +kernel
theorem dX12_carries_22 : decode cX12_carries 22 = .ok (.ifCond .ne 5, 3) := by decide +kernel
theorem dX12_carries_25 : decode cX12_carries 25 = .ok (.iconst (-1), 1) := by decide +kernel
theorem dX12_carries_26 : decode cX12_carries 26 = .ok (.ireturn, 1) := by decide +kernel
theorem dX12_carries_27 : decode cX12_carries 27 = .ok (.aload_n 0, 1) := by decide +kernel
theorem dX12_carries_28 : decode cX12_carries 28 = .ok (.iload_n 1, 1) := by decide +kernel
theorem dX12_carries_29 : decode cX12_carries 29 = .ok (.iload_n 2, 1) := by decide +kernel
theorem dX12_carries_30 : decode cX12_carries 30 = .ok (.invokevirtual 274, 3) := by decide +kernel
theorem dX12_carries_33 : decode cX12_carries 33 = .ok (.ifCond .eq 7, 3) := by decide +kernel
theorem dX12_carries_36 : decode cX12_carries 36 = .ok (.iconst 1, 1) := by decide +kernel
theorem dX12_carries_37 : decode cX12_carries 37 = .ok (.goto 4, 3) := by decide +kernel
theorem dX12_carries_40 : decode cX12_carries 40 = .ok (.iconst 0, 1) := by decide +kernel
theorem dX12_carries_41 : decode cX12_carries 41 = .ok (.ireturn, 1) := by decide +kernel
theorem dX12_does_0 : decode cX12_does 0 = .ok (.iload_n 1, 1) := by decide +kernel
theorem dX12_does_1 : decode cX12_does 1 = .ok (.ifCond .ne 12, 3) := by decide +kernel
theorem dX12_does_4 : decode cX12_does 4 = .ok (.aload_n 0, 1) := by decide +kernel
theorem dX12_does_5 : decode cX12_does 5 = .ok (.getfield 69, 3) := by decide +kernel
theorem dX12_does_8 : decode cX12_does 8 = .ok (.iload_n 2, 1) := by decide +kernel
theorem dX12_does_9 : decode cX12_does 9 = .ok (.baload, 1) := by decide +kernel
theorem dX12_does_10 : decode cX12_does 10 = .ok (.goto 24, 3) := by decide +kernel
theorem dX12_does_13 : decode cX12_does 13 = .ok (.aload_n 0, 1) := by decide +kernel
theorem dX12_does_14 : decode cX12_does 14 = .ok (.getfield 69, 3) := by decide +kernel
theorem dX12_does_17 : decode cX12_does 17 = .ok (.aload_n 0, 1) := by decide +kernel
theorem dX12_does_18 : decode cX12_does 18 = .ok (.getfield 135, 3) := by decide +kernel
theorem dX12_does_21 : decode cX12_does 21 = .ok (.iload_n 2, 1) := by decide +kernel
theorem dX12_does_22 : decode cX12_does 22 = .ok (.iconst (-1), 1) := by decide +kernel
theorem dX12_does_23 : decode cX12_does 23 = .ok (.ixor, 1) := by decide +kernel
theorem dX12_does_24 : decode cX12_does 24 = .ok (.iand, 1) := by decide +kernel
theorem dX12_does_25 : decode cX12_does 25 = .ok (.baload, 1) := by decide +kernel
theorem dX12_does_26 : decode cX12_does 26 = .ok (.ifCond .ne 7, 3) := by decide +kernel
theorem dX12_does_29 : decode cX12_does 29 = .ok (.iconst 1, 1) := by decide +kernel
theorem dX12_does_30 : decode cX12_does 30 = .ok (.goto 4, 3) := by decide +kernel
theorem dX12_does_33 : decode cX12_does 33 = .ok (.iconst 0, 1) := by decide +kernel
theorem dX12_does_34 : decode cX12_does 34 = .ok (.ireturn, 1) := by decide +kernel
set_option maxRecDepth 20000 in
theorem ggX12_isLeast_X12_does : GoodIn wsX12_isLeast wsX12_does := goodIn_r _ [5, 6, 7, 8, 9, 10, 11, 12, 13, 14, 15, 16, 17, 18, 19, 20, 21, 22, 23, 24, 25, 26, 27, 28, 29, 30, 31, 32, 33, 34, 35, 36, 37, 38, 39, 40, 41, 42, 43, 44, 45, 46, 47, 48, 49, 50, 51, 52, 53, 54, 55, 56, 57, 58, 59] (by decide +kernel) (by decide +kernel)
set_option maxRecDepth 20000 in
theorem gX12_isLeast_X12_does : GoodIn wsX12_isLeast (wsV RX12 280 RX12 yX12_does wsX12_does) := goodIn_app (goodIn_of _ (by decide +kernel)) ggX12_isLeast_X12_does
theorem dX12_isLeast_0 : decode cX12_isLeast 0 = .ok (.aload_n 0, 1) := by decide +kernel
theorem dX12_isLeast_1 : decode cX12_isLeast 1 = .ok (.iload_n 1, 1) := by decide +kernel
theorem dX12_isLeast_2 : decode cX12_isLeast 2 = .ok (.iload_n 2, 1) := by decide +kernel
theorem dX12_isLeast_3 : decode cX12_isLeast 3 = .ok (.invokevirtual 280, 3) := by decide +kernel
theorem dX12_isLeast_6 : decode cX12_isLeast 6 = .ok (.ifCond .ne 5, 3) := by decide +kernel
theorem dX12_isLeast_9 : decode cX12_isLeast 9 = .ok (.iconst 0, 1) := by decide +kernel
theorem dX12_isLeast_10 : decode cX12_isLeast 10 = .ok (.ireturn, 1) := by decide +kernel
theorem dX12_isLeast_11 : decode cX12_isLeast 11 = .ok (.iload_n 2, 1) := by decide +kernel
theorem dX12_isLeast_12 : decode cX12_isLeast 12 = .ok (.istore_n 3, 1) := by decide +kernel
theorem dX12_isLeast_13 : decode cX12_isLeast 13 = .ok (.iload_n 3, 1) := by decide +kernel
theorem dX12_isLeast_14 : decode cX12_isLeast 14 = .ok (.ifCond .eq 20, 3) := by decide +kernel
theorem dX12_isLeast_17 : decode cX12_isLeast 17 = .ok (.iload_n 3, 1) := by decide +kernel
theorem dX12_isLeast_18 : decode cX12_isLeast 18 = .ok (.iconst 1, 1) := by decide +kernel
theorem dX12_isLeast_19 : decode cX12_isLeast 19 = .ok (.isub, 1) := by decide +kernel
theorem dX12_isLeast_20 : decode cX12_isLeast 20 = .ok (.iload_n 2, 1) := by decide +kernel
theorem dX12_isLeast_21 : decode cX12_isLeast 21 = .ok (.iand, 1) := by decide +kernel
theorem dX12_isLeast_22 : decode cX12_isLeast 22 = .ok (.istore_n 3, 1) := by decide +kernel
theorem dX12_isLeast_23 : decode cX12_isLeast 23 = .ok (.aload_n 0, 1) := by decide +kernel
theorem dX12_isLeast_24 : decode cX12_isLeast 24 = .ok (.iload_n 1, 1) := by decide +kernel
theorem dX12_isLeast_25 : decode cX12_isLeast 25 = .ok (.iload_n 3, 1) := by decide +kernel
theorem dX12_isLeast_26 : decode cX12_isLeast 26 = .ok (.invokevirtual 280, 3) := by decide +kernel
theorem dX12_isLeast_29 : decode cX12_isLeast 29 = .ok (.ifCond .eq (-16), 3) := by decide +kernel
theorem dX12_isLeast_32 : decode cX12_isLeast 32 = .ok (.iconst 0, 1) := by decide +kernel
theorem dX12_isLeast_33 : decode cX12_isLeast 33 = .ok (.ireturn, 1) := by decide +kernel
theorem dX12_isLeast_34 : decode cX12_isLeast 34 = .ok (.iconst 1, 1) := by decide +kernel
theorem dX12_isLeast_35 : decode cX12_isLeast 35 = .ok (.ireturn, 1) := by decide +kernel
set_option maxRecDepth 20000 in
theorem ggX12_leasts_X12_isRule : GoodIn wsX12_leasts wsX12_isRule := goodIn_r _ [6, 7, 8, 9, 5, 10] (by decide +kernel) (by decide +kernel)
set_option maxRecDepth 20000 in
theorem gX12_leasts_X12_isRule : GoodIn wsX12_leasts (wsV RX12 249 RX12 yX12_isRule wsX12_isRule) := goodIn_app (goodIn_of _ (by decide +kernel)) ggX12_leasts_X12_isRule
set_option maxRecDepth 20000 in
theorem ggX12_leasts_X12_isIn : GoodIn wsX12_leasts wsX12_isIn := goodIn_r _ [10] (by decide +kernel) (by decide +kernel)
set_option maxRecDepth 20000 in
theorem gX12_leasts_X12_isIn : GoodIn wsX12_leasts (wsV RX12 121 RX12 yX12_isIn wsX12_isIn) := goodIn_app (goodIn_of _ (by decide +kernel)) ggX12_leasts_X12_isIn
set_option maxRecDepth 20000 in
theorem ggX12_leasts_X12_findCarry : GoodIn wsX12_leasts wsX12_findCarry := goodIn_r _ [14, 15, 16, 17, 18, 19, 5, 20, 21, 22, 23, 24, 25, 26, 27, 28, 29, 30, 31, 32, 33, 34, 35, 36, 37, 38, 39, 40, 41, 42, 43, 44, 45, 46, 47, 48, 49, 50, 51, 52, 53, 54, 55, 56, 57, 58, 59, 60, 61, 62, 63, 64, 65, 66, 67, 68, 69, 82, 83, 84, 85, 86, 87, 88, 89, 90, 91, 92, 93, 94, 95, 96, 97, 98, 99, 100, 101, 102, 103, 104, 105, 106, 107, 108, 109, 110, 111, 112, 113, 114, 115, 116, 117, 118, 119, 120, 121, 122, 123, 124, 125, 126, 127, 128, 129, 130, 131, 132, 133] (by decide +kernel) (by decide +kernel)
set_option maxRecDepth 20000 in
theorem gX12_leasts_X12_findCarry : GoodIn wsX12_leasts (wsV RX12 283 RX12 yX12_findCarry wsX12_findCarry) := goodIn_app (goodIn_of _ (by decide +kernel)) ggX12_leasts_X12_findCarry
set_option maxRecDepth 20000 in
theorem ggX12_leasts_X12_isSet : GoodIn wsX12_leasts wsX12_isSet := goodIn_r _ [73, 16, 82, 83, 84, 85, 86, 87, 88, 89, 90, 91, 92, 93, 94, 95, 96, 97, 98, 99, 100, 101, 102, 103, 104, 105, 106, 107, 108, 109, 110, 111, 112, 113, 114, 115, 116, 117, 118, 119, 120, 121, 122, 123, 124, 125, 126, 127, 128, 129, 130, 131, 132, 133] (by decide +kernel) (by decide +kernel)
set_option maxRecDepth 20000 in
theorem gX12_leasts_X12_isSet : GoodIn wsX12_leasts (wsV RX12 277 RX12 yX12_isSet wsX12_isSet) := goodIn_app (goodIn_of _ (by decide +kernel)) ggX12_leasts_X12_isSet
set_option maxRecDepth 20000 in
theorem ggX12_leasts_X12_isLeast : GoodIn wsX12_leasts wsX12_isLeast := goodIn_r _ [77, 78, 79, 80, 5, 81, 15, 16, 82, 83, 84, 85, 86, 87, 88, 89, 90, 91, 92, 93, 94, 95, 96, 97, 98, 99, 100, 101, 102, 103, 104, 105, 106, 107, 108, 109, 110, 111, 112, 113, 114, 115, 116, 117, 118, 119, 120, 121, 122, 123, 124, 125, 126, 127, 128, 129, 130, 131, 132, 133] (by decide +kernel) (by decide +kernel)
set_option maxRecDepth 20000 in
theorem gX12_leasts_X12_isLeast : GoodIn wsX12_leasts (wsV RX12 286 RX12 yX12_isLeast wsX12_isLeast) := goodIn_app (goodIn_of _ (by decide +kernel)) ggX12_leasts_X12_isLeast
theorem dX12_leasts_0 : decode cX12_leasts 0 = .ok (.aload_n 0, 1) := by decide +kernel
theorem dX12_leasts_1 : decode cX12_leasts 1 = .ok (.iconst 0, 1) := by decide +kernel
theorem dX12_leasts_2 : decode cX12_leasts 2 = .ok (.putfield 115, 3) := by decide +kernel
theorem dX12_leasts_5 : decode cX12_leasts 5 = .ok (.aload_n 0, 1) := by decide +kernel
theorem dX12_leasts_6 : decode cX12_leasts 6 = .ok (.iload_n 1, 1) := by decide +kernel
theorem dX12_leasts_7 : decode cX12_leasts 7 = .ok (.invokevirtual 249, 3) := by decide +kernel
theorem dX12_leasts_10 : decode cX12_leasts 10 = .ok (.ifCond .eq 13, 3) := by decide +kernel
theorem dX12_leasts_13 : decode cX12_leasts 13 = .ok (.aload_n 0, 1) := by decide +kernel
theorem dX12_leasts_14 : decode cX12_leasts 14 = .ok (.iload_n 2, 1) := by decide +kernel
theorem dX12_leasts_15 : decode cX12_leasts 15 = .ok (.iconst 0, 1) := by decide +kernel
theorem dX12_leasts_16 : decode cX12_leasts 16 = .ok (.iconst 1, 1) := by decide +kernel
theorem dX12_leasts_17 : decode cX12_leasts 17 = .ok (.invokevirtual 121, 3) := by decide +kernel
theorem dX12_leasts_20 : decode cX12_leasts 20 = .ok (.ifCond .ne 5, 3) := by decide +kernel
theorem dX12_leasts_23 : decode cX12_leasts 23 = .ok (.iconst (-1), 1) := by decide +kernel
theorem dX12_leasts_24 : decode cX12_leasts 24 = .ok (.ireturn, 1) := by decide +kernel
theorem dX12_leasts_25 : decode cX12_leasts 25 = .ok (.aload_n 0, 1) := by decide +kernel
theorem dX12_leasts_26 : decode cX12_leasts 26 = .ok (.iload_n 1, 1) := by decide +kernel
theorem dX12_leasts_27 : decode cX12_leasts 27 = .ok (.invokevirtual 283, 3) := by decide +kernel
theorem dX12_leasts_30 : decode cX12_leasts 30 = .ok (.iconst 0, 1) := by decide +kernel
theorem dX12_leasts_31 : decode cX12_leasts 31 = .ok (.istore_n 3, 1) := by decide +kernel
theorem dX12_leasts_32 : decode cX12_leasts 32 = .ok (.iconst 0, 1) := by decide +kernel
theorem dX12_leasts_33 : decode cX12_leasts 33 = .ok (.istore 4, 2) := by decide +kernel
theorem dX12_leasts_35 : decode cX12_leasts 35 = .ok (.iload 4, 2) := by decide +kernel
theorem dX12_leasts_37 : decode cX12_leasts 37 = .ok (.sipush 1024, 3) := by decide +kernel
theorem dX12_leasts_40 : decode cX12_leasts 40 = .ok (.if_icmp .ge 32, 3) := by decide +kernel
theorem dX12_leasts_43 : decode cX12_leasts 43 = .ok (.aload_n 0, 1) := by decide +kernel
theorem dX12_leasts_44 : decode cX12_leasts 44 = .ok (.iload 4, 2) := by decide +kernel
theorem dX12_leasts_46 : decode cX12_leasts 46 = .ok (.invokevirtual 277, 3) := by decide +kernel
theorem dX12_leasts_49 : decode cX12_leasts 49 = .ok (.ifCond .eq 17, 3) := by decide +kernel
theorem dX12_leasts_52 : decode cX12_leasts 52 = .ok (.aload_n 0, 1) := by decide +kernel
theorem dX12_leasts_53 : decode cX12_leasts 53 = .ok (.iload_n 2, 1) := by decide +kernel
theorem dX12_leasts_54 : decode cX12_leasts 54 = .ok (.iload 4, 2) := by decide +kernel
theorem dX12_leasts_56 : decode cX12_leasts 56 = .ok (.invokevirtual 286, 3) := by decide +kernel
theorem dX12_leasts_59 : decode cX12_leasts 59 = .ok (.ifCond .eq 7, 3) := by decide +kernel
theorem dX12_leasts_62 : decode cX12_leasts 62 = .ok (.iload_n 3, 1) := by decide +kernel
theorem dX12_leasts_63 : decode cX12_leasts 63 = .ok (.iconst 1, 1) := by decide +kernel
theorem dX12_leasts_64 : decode cX12_leasts 64 = .ok (.iadd, 1) := by decide +kernel
theorem dX12_leasts_65 : decode cX12_leasts 65 = .ok (.istore_n 3, 1) := by decide +kernel
theorem dX12_leasts_66 : decode cX12_leasts 66 = .ok (.iinc 4 1, 3) := by decide +kernel
theorem dX12_leasts_69 : decode cX12_leasts 69 = .ok (.goto (-34), 3) := by decide +kernel
theorem dX12_leasts_72 : decode cX12_leasts 72 = .ok (.iload_n 3, 1) := by decide +kernel
theorem dX12_leasts_73 : decode cX12_leasts 73 = .ok (.ireturn, 1) := by decide +kernel
set_option maxRecDepth 20000 in
theorem ggX12_least_X12_isRule : GoodIn wsX12_least wsX12_isRule := goodIn_r _ [6, 7, 8, 9, 5, 10] (by decide +kernel) (by decide +kernel)
set_option maxRecDepth 20000 in
theorem gX12_least_X12_isRule : GoodIn wsX12_least (wsV RX12 249 RX12 yX12_isRule wsX12_isRule) := goodIn_app (goodIn_of _ (by decide +kernel)) ggX12_least_X12_isRule
set_option maxRecDepth 20000 in
theorem ggX12_least_X12_isIn : GoodIn wsX12_least wsX12_isIn := goodIn_r _ [10] (by decide +kernel) (by decide +kernel)
set_option maxRecDepth 20000 in
theorem gX12_least_X12_isIn : GoodIn wsX12_least (wsV RX12 121 RX12 yX12_isIn wsX12_isIn) := goodIn_app (goodIn_of _ (by decide +kernel)) ggX12_least_X12_isIn
set_option maxRecDepth 20000 in
theorem ggX12_least_X12_findCarry : GoodIn wsX12_least wsX12_findCarry := goodIn_r _ [14, 15, 16, 17, 18, 19, 5, 20, 21, 22, 23, 24, 25, 26, 27, 28, 29, 30, 31, 32, 33, 34, 35, 36, 37, 38, 39, 40, 41, 42, 43, 44, 45, 46, 47, 48, 49, 50, 51, 52, 53, 54, 55, 56, 57, 58, 59, 60, 61, 62, 63, 64, 65, 66, 67, 68, 69, 82, 83, 84, 85, 86, 87, 88, 89, 90, 91, 92, 93, 94, 95, 96, 97, 98, 99, 100, 101, 102, 103, 104, 105, 106, 107, 108, 109, 110, 111, 112, 113, 114, 115, 116, 117, 118, 119, 120, 121, 122, 123, 124, 125, 126, 127, 128, 129, 130, 131, 132, 133] (by decide +kernel) (by decide +kernel)
set_option maxRecDepth 20000 in
theorem gX12_least_X12_findCarry : GoodIn wsX12_least (wsV RX12 283 RX12 yX12_findCarry wsX12_findCarry) := goodIn_app (goodIn_of _ (by decide +kernel)) ggX12_least_X12_findCarry
set_option maxRecDepth 20000 in
theorem ggX12_least_X12_isSet : GoodIn wsX12_least wsX12_isSet := goodIn_r _ [73, 16, 82, 83, 84, 85, 86, 87, 88, 89, 90, 91, 92, 93, 94, 95, 96, 97, 98, 99, 100, 101, 102, 103, 104, 105, 106, 107, 108, 109, 110, 111, 112, 113, 114, 115, 116, 117, 118, 119, 120, 121, 122, 123, 124, 125, 126, 127, 128, 129, 130, 131, 132, 133] (by decide +kernel) (by decide +kernel)
set_option maxRecDepth 20000 in
theorem gX12_least_X12_isSet : GoodIn wsX12_least (wsV RX12 277 RX12 yX12_isSet wsX12_isSet) := goodIn_app (goodIn_of _ (by decide +kernel)) ggX12_least_X12_isSet
set_option maxRecDepth 20000 in
theorem ggX12_least_X12_isLeast : GoodIn wsX12_least wsX12_isLeast := goodIn_r _ [77, 78, 79, 80, 5, 81, 15, 16, 82, 83, 84, 85, 86, 87, 88, 89, 90, 91, 92, 93, 94, 95, 96, 97, 98, 99, 100, 101, 102, 103, 104, 105, 106, 107, 108, 109, 110, 111, 112, 113, 114, 115, 116, 117, 118, 119, 120, 121, 122, 123, 124, 125, 126, 127, 128, 129, 130, 131, 132, 133] (by decide +kernel) (by decide +kernel)
set_option maxRecDepth 20000 in
theorem gX12_least_X12_isLeast : GoodIn wsX12_least (wsV RX12 286 RX12 yX12_isLeast wsX12_isLeast) := goodIn_app (goodIn_of _ (by decide +kernel)) ggX12_least_X12_isLeast
theorem dX12_least_0 : decode cX12_least 0 = .ok (.aload_n 0, 1) := by decide +kernel
theorem dX12_least_1 : decode cX12_least 1 = .ok (.iconst 0, 1) := by decide +kernel
theorem dX12_least_2 : decode cX12_least 2 = .ok (.putfield 115, 3) := by decide +kernel
theorem dX12_least_5 : decode cX12_least 5 = .ok (.aload_n 0, 1) := by decide +kernel
theorem dX12_least_6 : decode cX12_least 6 = .ok (.iload_n 1, 1) := by decide +kernel
theorem dX12_least_7 : decode cX12_least 7 = .ok (.invokevirtual 249, 3) := by decide +kernel
theorem dX12_least_10 : decode cX12_least 10 = .ok (.ifCond .eq 17, 3) := by decide +kernel
theorem dX12_least_13 : decode cX12_least 13 = .ok (.aload_n 0, 1) := by decide +kernel
theorem dX12_least_14 : decode cX12_least 14 = .ok (.iload_n 2, 1) := by decide +kernel
theorem dX12_least_15 : decode cX12_least 15 = .ok (.iconst 0, 1) := by decide +kernel
theorem dX12_least_16 : decode cX12_least 16 = .ok (.iconst 1, 1) := by decide +kernel
theorem dX12_least_17 : decode cX12_least 17 = .ok (.invokevirtual 121, 3) := by decide +kernel
theorem dX12_least_20 : decode cX12_least 20 = .ok (.ifCond .eq 7, 3) := by decide +kernel
theorem dX12_least_23 : decode cX12_least 23 = .ok (.iload_n 3, 1) := by decide +kernel
theorem dX12_least_24 : decode cX12_least 24 = .ok (.ifCond .ge 5, 3) := by decide +kernel
theorem dX12_least_27 : decode cX12_least 27 = .ok (.iconst (-1), 1) := by decide +kernel
theorem dX12_least_28 : decode cX12_least 28 = .ok (.ireturn, 1) := by decide +kernel
theorem dX12_least_29 : decode cX12_least 29 = .ok (.aload_n 0, 1) := by decide +kernel
theorem dX12_least_30 : decode cX12_least 30 = .ok (.iload_n 1, 1) := by decide +kernel
theorem dX12_least_31 : decode cX12_least 31 = .ok (.invokevirtual 283, 3) := by decide +kernel
theorem dX12_least_34 : decode cX12_least 34 = .ok (.iconst 0, 1) := by decide +kernel
theorem dX12_least_35 : decode cX12_least 35 = .ok (.istore 4, 2) := by decide +kernel
theorem dX12_least_37 : decode cX12_least 37 = .ok (.iconst 0, 1) := by decide +kernel
theorem dX12_least_38 : decode cX12_least 38 = .ok (.istore 5, 2) := by decide +kernel
theorem dX12_least_40 : decode cX12_least 40 = .ok (.iload 5, 2) := by decide +kernel
theorem dX12_least_42 : decode cX12_least 42 = .ok (.sipush 1024, 3) := by decide +kernel
theorem dX12_least_45 : decode cX12_least 45 = .ok (.if_icmp .ge 46, 3) := by decide +kernel
theorem dX12_least_48 : decode cX12_least 48 = .ok (.aload_n 0, 1) := by decide +kernel
theorem dX12_least_49 : decode cX12_least 49 = .ok (.iload 5, 2) := by decide +kernel
theorem dX12_least_51 : decode cX12_least 51 = .ok (.invokevirtual 277, 3) := by decide +kernel
theorem dX12_least_54 : decode cX12_least 54 = .ok (.ifCond .eq 31, 3) := by decide +kernel
theorem dX12_least_57 : decode cX12_least 57 = .ok (.aload_n 0, 1) := by decide +kernel
theorem dX12_least_58 : decode cX12_least 58 = .ok (.iload_n 2, 1) := by decide +kernel
theorem dX12_least_59 : decode cX12_least 59 = .ok (.iload 5, 2) := by decide +kernel
theorem dX12_least_61 : decode cX12_least 61 = .ok (.invokevirtual 286, 3) := by decide +kernel
theorem dX12_least_64 : decode cX12_least 64 = .ok (.ifCond .ne 6, 3) := by decide +kernel
theorem dX12_least_67 : decode cX12_least 67 = .ok (.goto 18, 3) := by decide +kernel
theorem dX12_least_70 : decode cX12_least 70 = .ok (.iload 4, 2) := by decide +kernel
theorem dX12_least_72 : decode cX12_least 72 = .ok (.iload_n 3, 1) := by decide +kernel
theorem dX12_least_73 : decode cX12_least 73 = .ok (.if_icmp .ne 6, 3) := by decide +kernel
theorem dX12_least_76 : decode cX12_least 76 = .ok (.iload 5, 2) := by decide +kernel
theorem dX12_least_78 : decode cX12_least 78 = .ok (.ireturn, 1) := by decide +kernel
theorem dX12_least_79 : decode cX12_least 79 = .ok (.iload 4, 2) := by decide +kernel
theorem dX12_least_81 : decode cX12_least 81 = .ok (.iconst 1, 1) := by decide +kernel
theorem dX12_least_82 : decode cX12_least 82 = .ok (.iadd, 1) := by decide +kernel
theorem dX12_least_83 : decode cX12_least 83 = .ok (.istore 4, 2) := by decide +kernel
theorem dX12_least_85 : decode cX12_least 85 = .ok (.iinc 5 1, 3) := by decide +kernel
theorem dX12_least_88 : decode cX12_least 88 = .ok (.goto (-48), 3) := by decide +kernel
theorem dX12_least_91 : decode cX12_least 91 = .ok (.iconst (-1), 1) := by decide +kernel
theorem dX12_least_92 : decode cX12_least 92 = .ok (.ireturn, 1) := by decide +kernel
theorem dX12_ones_0 : decode cX12_ones 0 = .ok (.iconst 0, 1) := by decide +kernel
theorem dX12_ones_1 : decode cX12_ones 1 = .ok (.istore_n 2, 1) := by decide +kernel
theorem dX12_ones_2 : decode cX12_ones 2 = .ok (.iload_n 1, 1) := by decide +kernel
theorem dX12_ones_3 : decode cX12_ones 3 = .ok (.istore_n 3, 1) := by decide +kernel
theorem dX12_ones_4 : decode cX12_ones 4 = .ok (.iload_n 3, 1) := by decide +kernel
theorem dX12_ones_5 : decode cX12_ones 5 = .ok (.ifCond .eq 16, 3) := by decide +kernel
theorem dX12_ones_8 : decode cX12_ones 8 = .ok (.iload_n 2, 1) := by decide +kernel
theorem dX12_ones_9 : decode cX12_ones 9 = .ok (.iconst 1, 1) := by decide +kernel
theorem dX12_ones_10 : decode cX12_ones 10 = .ok (.iadd, 1) := by decide +kernel
theorem dX12_ones_11 : decode cX12_ones 11 = .ok (.istore_n 2, 1) := by decide +kernel
theorem dX12_ones_12 : decode cX12_ones 12 = .ok (.iload_n 3, 1) := by decide +kernel
theorem dX12_ones_13 : decode cX12_ones 13 = .ok (.iload_n 3, 1) := by decide +kernel
theorem dX12_ones_14 : decode cX12_ones 14 = .ok (.iconst 1, 1) := by decide +kernel
theorem dX12_ones_15 : decode cX12_ones 15 = .ok (.isub, 1) := by decide +kernel
theorem dX12_ones_16 : decode cX12_ones 16 = .ok (.iand, 1) := by decide +kernel
theorem dX12_ones_17 : decode cX12_ones 17 = .ok (.istore_n 3, 1) := by decide +kernel
theorem dX12_ones_18 : decode cX12_ones 18 = .ok (.goto (-14), 3) := by decide +kernel
theorem dX12_ones_21 : decode cX12_ones 21 = .ok (.iload_n 2, 1) := by decide +kernel
theorem dX12_ones_22 : decode cX12_ones 22 = .ok (.ireturn, 1) := by decide +kernel
theorem dX12_orders_0 : decode cX12_orders 0 = .ok (.lconst 1, 1) := by decide +kernel
theorem dX12_orders_1 : decode cX12_orders 1 = .ok (.lstore_n 2, 1) := by decide +kernel
theorem dX12_orders_2 : decode cX12_orders 2 = .ok (.iconst 2, 1) := by decide +kernel
theorem dX12_orders_3 : decode cX12_orders 3 = .ok (.istore 4, 2) := by decide +kernel
theorem dX12_orders_5 : decode cX12_orders 5 = .ok (.iload 4, 2) := by decide +kernel
theorem dX12_orders_7 : decode cX12_orders 7 = .ok (.iload_n 1, 1) := by decide +kernel
theorem dX12_orders_8 : decode cX12_orders 8 = .ok (.if_icmp .gt 15, 3) := by decide +kernel
theorem dX12_orders_11 : decode cX12_orders 11 = .ok (.lload_n 2, 1) := by decide +kernel
theorem dX12_orders_12 : decode cX12_orders 12 = .ok (.iload 4, 2) := by decide +kernel
theorem dX12_orders_14 : decode cX12_orders 14 = .ok (.i2l, 1) := by decide +kernel
theorem dX12_orders_15 : decode cX12_orders 15 = .ok (.lmul, 1) := by decide +kernel
theorem dX12_orders_16 : decode cX12_orders 16 = .ok (.lstore_n 2, 1) := by decide +kernel
theorem dX12_orders_17 : decode cX12_orders 17 = .ok (.iinc 4 1, 3) := by decide +kernel
theorem dX12_orders_20 : decode cX12_orders 20 = .ok (.goto (-15), 3) := by decide +kernel
theorem dX12_orders_23 : decode cX12_orders 23 = .ok (.lload_n 2, 1) := by decide +kernel
theorem dX12_orders_24 : decode cX12_orders 24 = .ok (.lreturn, 1) := by decide +kernel
theorem dX12_common_0 : decode cX12_common 0 = .ok (.lload_n 1, 1) := by decide +kernel
theorem dX12_common_1 : decode cX12_common 1 = .ok (.lstore 5, 2) := by decide +kernel
theorem dX12_common_3 : decode cX12_common 3 = .ok (.lload_n 3, 1) := by decide +kernel
theorem dX12_common_4 : decode cX12_common 4 = .ok (.lstore 7, 2) := by decide +kernel
theorem dX12_common_6 : decode cX12_common 6 = .ok (.lload 7, 2) := by decide +kernel
