theorem dX12_nextRow_113 : decode cX12_nextRow 113 = .ok (.if_icmp .ge 48, 3) := by decide +kernel
theorem dX12_nextRow_116 : decode cX12_nextRow 116 = .ok (.aload_n 0, 1) := by decide +kernel
theorem dX12_nextRow_117 : decode cX12_nextRow 117 = .ok (.getfield 82, 3) := by decide +kernel
theorem dX12_nextRow_120 : decode cX12_nextRow 120 = .ok (.iload 4, 2) := by decide +kernel
theorem dX12_nextRow_122 : decode cX12_nextRow 122 = .ok (.iaload, 1) := by decide +kernel
theorem dX12_nextRow_123 : decode cX12_nextRow 123 = .ok (.istore_n 3, 1) := by decide +kernel
theorem dX12_nextRow_124 : decode cX12_nextRow 124 = .ok (.aload_n 0, 1) := by decide +kernel
theorem dX12_nextRow_125 : decode cX12_nextRow 125 = .ok (.getfield 82, 3) := by decide +kernel
theorem dX12_nextRow_128 : decode cX12_nextRow 128 = .ok (.iload 4, 2) := by decide +kernel
theorem dX12_nextRow_130 : decode cX12_nextRow 130 = .ok (.aload_n 0, 1) := by decide +kernel
theorem dX12_nextRow_131 : decode cX12_nextRow 131 = .ok (.getfield 82, 3) := by decide +kernel
theorem dX12_nextRow_134 : decode cX12_nextRow 134 = .ok (.iload 5, 2) := by decide +kernel
theorem dX12_nextRow_136 : decode cX12_nextRow 136 = .ok (.iaload, 1) := by decide +kernel
theorem dX12_nextRow_137 : decode cX12_nextRow 137 = .ok (.iastore, 1) := by decide +kernel
theorem dX12_nextRow_138 : decode cX12_nextRow 138 = .ok (.aload_n 0, 1) := by decide +kernel
theorem dX12_nextRow_139 : decode cX12_nextRow 139 = .ok (.getfield 82, 3) := by decide +kernel
theorem dX12_nextRow_142 : decode cX12_nextRow 142 = .ok (.iload 5, 2) := by decide +kernel
theorem dX12_nextRow_144 : decode cX12_nextRow 144 = .ok (.iload_n 3, 1) := by decide +kernel
theorem dX12_nextRow_145 : decode cX12_nextRow 145 = .ok (.iastore, 1) := by decide +kernel
theorem dX12_nextRow_146 : decode cX12_nextRow 146 = .ok (.iload 4, 2) := by decide +kernel
theorem dX12_nextRow_148 : decode cX12_nextRow 148 = .ok (.iconst 1, 1) := by decide +kernel
theorem dX12_nextRow_149 : decode cX12_nextRow 149 = .ok (.iadd, 1) := by decide +kernel
theorem dX12_nextRow_150 : decode cX12_nextRow 150 = .ok (.istore 4, 2) := by decide +kernel
theorem dX12_nextRow_152 : decode cX12_nextRow 152 = .ok (.iload 5, 2) := by decide +kernel
theorem dX12_nextRow_154 : decode cX12_nextRow 154 = .ok (.iconst 1, 1) := by decide +kernel
theorem dX12_nextRow_155 : decode cX12_nextRow 155 = .ok (.isub, 1) := by decide +kernel
theorem dX12_nextRow_156 : decode cX12_nextRow 156 = .ok (.istore 5, 2) := by decide +kernel
theorem dX12_nextRow_158 : decode cX12_nextRow 158 = .ok (.goto (-49), 3) := by decide +kernel
theorem dX12_nextRow_161 : decode cX12_nextRow 161 = .ok (.iconst 1, 1) := by decide +kernel
theorem dX12_nextRow_162 : decode cX12_nextRow 162 = .ok (.ireturn, 1) := by decide +kernel
theorem dX12_digits_0 : decode cX12_digits 0 = .ok (.bipush 9, 2) := by decide +kernel
theorem dX12_digits_2 : decode cX12_digits 2 = .ok (.istore_n 1, 1) := by decide +kernel
theorem dX12_digits_3 : decode cX12_digits 3 = .ok (.iconst 0, 1) := by decide +kernel
theorem dX12_digits_4 : decode cX12_digits 4 = .ok (.istore_n 2, 1) := by decide +kernel
theorem dX12_digits_5 : decode cX12_digits 5 = .ok (.iload_n 2, 1) := by decide +kernel
theorem dX12_digits_6 : decode cX12_digits 6 = .ok (.aload_n 0, 1) := by decide +kernel
theorem dX12_digits_7 : decode cX12_digits 7 = .ok (.getfield 321, 3) := by decide +kernel
theorem dX12_digits_10 : decode cX12_digits 10 = .ok (.if_icmp .ge 21, 3) := by decide +kernel
theorem dX12_digits_13 : decode cX12_digits 13 = .ok (.bipush 10, 2) := by decide +kernel
theorem dX12_digits_15 : decode cX12_digits 15 = .ok (.iload_n 1, 1) := by decide +kernel
theorem dX12_digits_16 : decode cX12_digits 16 = .ok (.imul, 1) := by decide +kernel
theorem dX12_digits_17 : decode cX12_digits 17 = .ok (.aload_n 0, 1) := by decide +kernel
theorem dX12_digits_18 : decode cX12_digits 18 = .ok (.getfield 82, 3) := by decide +kernel
theorem dX12_digits_21 : decode cX12_digits 21 = .ok (.iload_n 2, 1) := by decide +kernel
theorem dX12_digits_22 : decode cX12_digits 22 = .ok (.iaload, 1) := by decide +kernel
theorem dX12_digits_23 : decode cX12_digits 23 = .ok (.iadd, 1) := by decide +kernel
theorem dX12_digits_24 : decode cX12_digits 24 = .ok (.istore_n 1, 1) := by decide +kernel
theorem dX12_digits_25 : decode cX12_digits 25 = .ok (.iinc 2 1, 3) := by decide +kernel
theorem dX12_digits_28 : decode cX12_digits 28 = .ok (.goto (-23), 3) := by decide +kernel
theorem dX12_digits_31 : decode cX12_digits 31 = .ok (.iload_n 1, 1) := by decide +kernel
theorem dX12_digits_32 : decode cX12_digits 32 = .ok (.ireturn, 1) := by decide +kernel
set_option maxRecDepth 20000 in
theorem ggX12_through_X12_isRule : GoodIn wsX12_through wsX12_isRule := goodIn_r _ [8, 9, 10, 11, 7, 12] (by decide +kernel) (by decide +kernel)
set_option maxRecDepth 20000 in
theorem gX12_through_X12_isRule : GoodIn wsX12_through (wsV RX12 249 RX12 yX12_isRule wsX12_isRule) := goodIn_app (goodIn_of _ (by decide +kernel)) ggX12_through_X12_isRule
set_option maxRecDepth 20000 in
theorem ggX12_through_X12_isIn : GoodIn wsX12_through wsX12_isIn := goodIn_r _ [12] (by decide +kernel) (by decide +kernel)
set_option maxRecDepth 20000 in
theorem gX12_through_X12_isIn : GoodIn wsX12_through (wsV RX12 121 RX12 yX12_isIn wsX12_isIn) := goodIn_app (goodIn_of _ (by decide +kernel)) ggX12_through_X12_isIn
set_option maxRecDepth 20000 in
theorem ggX12_through_X12_isMotion : GoodIn wsX12_through wsX12_isMotion := goodIn_r _ [16, 9, 10, 11, 7, 12] (by decide +kernel) (by decide +kernel)
set_option maxRecDepth 20000 in
theorem gX12_through_X12_isMotion : GoodIn wsX12_through (wsV RX12 315 RX12 yX12_isMotion wsX12_isMotion) := goodIn_app (goodIn_of _ (by decide +kernel)) ggX12_through_X12_isMotion
set_option maxRecDepth 20000 in
theorem ggX12_through_X12_isOf : GoodIn wsX12_through wsX12_isOf := goodIn_r _ [20] (by decide +kernel) (by decide +kernel)
set_option maxRecDepth 20000 in
theorem gX12_through_X12_isOf : GoodIn wsX12_through (wsV RX12 151 RX12 yX12_isOf wsX12_isOf) := goodIn_app (goodIn_of _ (by decide +kernel)) ggX12_through_X12_isOf
set_option maxRecDepth 20000 in
theorem ggX12_through_X12_findBeats : GoodIn wsX12_through wsX12_findBeats := goodIn_r _ [24, 25, 26, 27, 28, 7, 29, 30, 31, 32, 33, 34, 35, 36, 37, 38, 39, 40, 41, 42, 43, 44, 45, 46, 47, 48, 49, 50, 51, 52, 17, 18, 19, 20, 53, 54, 55, 56, 57, 58, 59, 60, 61, 62, 63, 64, 65, 66, 67, 68, 69, 70, 71, 72, 73, 74, 75, 76, 77, 78, 79, 80, 81, 82, 83, 84, 85, 99, 100, 101, 102, 103, 104, 105, 106, 107, 108, 109, 110, 111, 112, 113, 114, 115, 116, 117, 118, 119, 120, 121, 122, 123, 124, 125, 126, 127, 128, 129, 130, 131, 132, 133, 134, 135, 136, 137, 138, 139, 140, 141, 142, 143, 144, 145, 146, 147, 148, 149, 150] (by decide +kernel) (by decide +kernel)
set_option maxRecDepth 20000 in
theorem gX12_through_X12_findBeats : GoodIn wsX12_through (wsV RX12 327 RX12 yX12_findBeats wsX12_findBeats) := goodIn_app (goodIn_of _ (by decide +kernel)) ggX12_through_X12_findBeats
set_option maxRecDepth 20000 in
theorem ggX12_through_X12_ends : GoodIn wsX12_through wsX12_ends := goodIn_r _ [89, 3, 2, 25, 90, 99, 100, 101, 102, 103, 104, 105, 106, 107, 108, 109, 110, 111, 112, 113, 114, 115, 116, 117, 118, 119, 120, 121, 122, 123, 124, 125, 126, 127, 128, 129, 130, 131, 132, 133, 134, 135, 136, 137, 138, 139, 140, 141, 142, 143, 144, 145, 146, 147, 148, 149, 150] (by decide +kernel) (by decide +kernel)
set_option maxRecDepth 20000 in
theorem gX12_through_X12_ends : GoodIn wsX12_through (wsV RX12 330 RX12 yX12_ends wsX12_ends) := goodIn_app (goodIn_of _ (by decide +kernel)) ggX12_through_X12_ends
set_option maxRecDepth 20000 in
theorem ggX12_through_X12_digits : GoodIn wsX12_through wsX12_digits := goodIn_r _ [94, 2, 3, 99, 100, 101, 102, 103, 104, 105, 106, 107, 108, 109, 110, 111, 112, 113, 114, 115, 116, 117, 118, 119, 120, 121, 122, 123, 124, 125, 126, 127, 128, 129, 130, 131, 132, 133, 134, 135, 136, 137, 138, 139, 140, 141, 142, 143, 144, 145, 146, 147, 148, 149, 150] (by decide +kernel) (by decide +kernel)
set_option maxRecDepth 20000 in
theorem gX12_through_X12_digits : GoodIn wsX12_through (wsV RX12 334 RX12 yX12_digits wsX12_digits) := goodIn_app (goodIn_of _ (by decide +kernel)) ggX12_through_X12_digits
set_option maxRecDepth 20000 in
theorem ggX12_through_X12_nextRow : GoodIn wsX12_through wsX12_nextRow := goodIn_r _ [98, 2, 3, 99, 100, 101, 102, 103, 104, 105, 106, 107, 108, 109, 110, 111, 112, 113, 114, 115, 116, 117, 118, 119, 120, 121, 122, 123, 124, 125, 126, 127, 128, 129, 130, 131, 132, 133, 134, 135, 136, 137, 138, 139, 140, 141, 142, 143, 144, 145, 146, 147, 148, 149, 150] (by decide +kernel) (by decide +kernel)
set_option maxRecDepth 20000 in
theorem gX12_through_X12_nextRow : GoodIn wsX12_through (wsV RX12 337 RX12 yX12_nextRow wsX12_nextRow) := goodIn_app (goodIn_of _ (by decide +kernel)) ggX12_through_X12_nextRow
theorem dX12_through_0 : decode cX12_through 0 = .ok (.aload_n 0, 1) := by decide +kernel
theorem dX12_through_1 : decode cX12_through 1 = .ok (.iconst 0, 1) := by decide +kernel
theorem dX12_through_2 : decode cX12_through 2 = .ok (.putfield 115, 3) := by decide +kernel
theorem dX12_through_5 : decode cX12_through 5 = .ok (.aload_n 0, 1) := by decide +kernel
theorem dX12_through_6 : decode cX12_through 6 = .ok (.iload_n 1, 1) := by decide +kernel
theorem dX12_through_7 : decode cX12_through 7 = .ok (.invokevirtual 249, 3) := by decide +kernel
theorem dX12_through_10 : decode cX12_through 10 = .ok (.ifCond .eq 42, 3) := by decide +kernel
theorem dX12_through_13 : decode cX12_through 13 = .ok (.aload_n 0, 1) := by decide +kernel
theorem dX12_through_14 : decode cX12_through 14 = .ok (.iload_n 2, 1) := by decide +kernel
theorem dX12_through_15 : decode cX12_through 15 = .ok (.iconst 1, 1) := by decide +kernel
theorem dX12_through_16 : decode cX12_through 16 = .ok (.bipush 63, 2) := by decide +kernel
theorem dX12_through_18 : decode cX12_through 18 = .ok (.invokevirtual 121, 3) := by decide +kernel
theorem dX12_through_21 : decode cX12_through 21 = .ok (.ifCond .eq 31, 3) := by decide +kernel
theorem dX12_through_24 : decode cX12_through 24 = .ok (.aload_n 0, 1) := by decide +kernel
theorem dX12_through_25 : decode cX12_through 25 = .ok (.iload_n 3, 1) := by decide +kernel
theorem dX12_through_26 : decode cX12_through 26 = .ok (.invokevirtual 315, 3) := by decide +kernel
theorem dX12_through_29 : decode cX12_through 29 = .ok (.ifCond .eq 23, 3) := by decide +kernel
theorem dX12_through_32 : decode cX12_through 32 = .ok (.aload_n 0, 1) := by decide +kernel
theorem dX12_through_33 : decode cX12_through 33 = .ok (.iload_n 2, 1) := by decide +kernel
theorem dX12_through_34 : decode cX12_through 34 = .ok (.iload_n 3, 1) := by decide +kernel
theorem dX12_through_35 : decode cX12_through 35 = .ok (.invokevirtual 151, 3) := by decide +kernel
theorem dX12_through_38 : decode cX12_through 38 = .ok (.ifCond .eq 14, 3) := by decide +kernel
theorem dX12_through_41 : decode cX12_through 41 = .ok (.aload_n 0, 1) := by decide +kernel
theorem dX12_through_42 : decode cX12_through 42 = .ok (.iload 5, 2) := by decide +kernel
theorem dX12_through_44 : decode cX12_through 44 = .ok (.iconst 0, 1) := by decide +kernel
theorem dX12_through_45 : decode cX12_through 45 = .ok (.iconst 1, 1) := by decide +kernel
theorem dX12_through_46 : decode cX12_through 46 = .ok (.invokevirtual 121, 3) := by decide +kernel
theorem dX12_through_49 : decode cX12_through 49 = .ok (.ifCond .ne 5, 3) := by decide +kernel
theorem dX12_through_52 : decode cX12_through 52 = .ok (.iconst (-1), 1) := by decide +kernel
theorem dX12_through_53 : decode cX12_through 53 = .ok (.ireturn, 1) := by decide +kernel
theorem dX12_through_54 : decode cX12_through 54 = .ok (.aload_n 0, 1) := by decide +kernel
theorem dX12_through_55 : decode cX12_through 55 = .ok (.iload_n 1, 1) := by decide +kernel
theorem dX12_through_56 : decode cX12_through 56 = .ok (.invokevirtual 327, 3) := by decide +kernel
theorem dX12_through_59 : decode cX12_through 59 = .ok (.aload_n 0, 1) := by decide +kernel
theorem dX12_through_60 : decode cX12_through 60 = .ok (.iconst 0, 1) := by decide +kernel
theorem dX12_through_61 : decode cX12_through 61 = .ok (.putfield 321, 3) := by decide +kernel
theorem dX12_through_64 : decode cX12_through 64 = .ok (.iconst 0, 1) := by decide +kernel
theorem dX12_through_65 : decode cX12_through 65 = .ok (.istore 6, 2) := by decide +kernel
theorem dX12_through_67 : decode cX12_through 67 = .ok (.iload 6, 2) := by decide +kernel
theorem dX12_through_69 : decode cX12_through 69 = .ok (.bipush 6, 2) := by decide +kernel
theorem dX12_through_71 : decode cX12_through 71 = .ok (.if_icmp .ge 43, 3) := by decide +kernel
theorem dX12_through_74 : decode cX12_through 74 = .ok (.aload_n 0, 1) := by decide +kernel
theorem dX12_through_75 : decode cX12_through 75 = .ok (.iload_n 2, 1) := by decide +kernel
theorem dX12_through_76 : decode cX12_through 76 = .ok (.iload 6, 2) := by decide +kernel
theorem dX12_through_78 : decode cX12_through 78 = .ok (.invokevirtual 151, 3) := by decide +kernel
theorem dX12_through_81 : decode cX12_through 81 = .ok (.ifCond .ne 6, 3) := by decide +kernel
theorem dX12_through_84 : decode cX12_through 84 = .ok (.goto 24, 3) := by decide +kernel
theorem dX12_through_87 : decode cX12_through 87 = .ok (.aload_n 0, 1) := by decide +kernel
theorem dX12_through_88 : decode cX12_through 88 = .ok (.getfield 82, 3) := by decide +kernel
theorem dX12_through_91 : decode cX12_through 91 = .ok (.aload_n 0, 1) := by decide +kernel
theorem dX12_through_92 : decode cX12_through 92 = .ok (.getfield 321, 3) := by decide +kernel
theorem dX12_through_95 : decode cX12_through 95 = .ok (.iload 6, 2) := by decide +kernel
theorem dX12_through_97 : decode cX12_through 97 = .ok (.iastore, 1) := by decide +kernel
theorem dX12_through_98 : decode cX12_through 98 = .ok (.aload_n 0, 1) := by decide +kernel
theorem dX12_through_99 : decode cX12_through 99 = .ok (.aload_n 0, 1) := by decide +kernel
theorem dX12_through_100 : decode cX12_through 100 = .ok (.getfield 321, 3) := by decide +kernel
theorem dX12_through_103 : decode cX12_through 103 = .ok (.iconst 1, 1) := by decide +kernel
theorem dX12_through_104 : decode cX12_through 104 = .ok (.iadd, 1) := by decide +kernel
theorem dX12_through_105 : decode cX12_through 105 = .ok (.putfield 321, 3) := by decide +kernel
theorem dX12_through_108 : decode cX12_through 108 = .ok (.iinc 6 1, 3) := by decide +kernel
theorem dX12_through_111 : decode cX12_through 111 = .ok (.goto (-44), 3) := by decide +kernel
theorem dX12_through_114 : decode cX12_through 114 = .ok (.iconst 0, 1) := by decide +kernel
theorem dX12_through_115 : decode cX12_through 115 = .ok (.istore 6, 2) := by decide +kernel
theorem dX12_through_117 : decode cX12_through 117 = .ok (.iconst (-1), 1) := by decide +kernel
theorem dX12_through_118 : decode cX12_through 118 = .ok (.istore 7, 2) := by decide +kernel
theorem dX12_through_120 : decode cX12_through 120 = .ok (.iconst 1, 1) := by decide +kernel
theorem dX12_through_121 : decode cX12_through 121 = .ok (.istore 8, 2) := by decide +kernel
theorem dX12_through_123 : decode cX12_through 123 = .ok (.iload 8, 2) := by decide +kernel
theorem dX12_through_125 : decode cX12_through 125 = .ok (.ifCond .eq 39, 3) := by decide +kernel
theorem dX12_through_128 : decode cX12_through 128 = .ok (.aload_n 0, 1) := by decide +kernel
theorem dX12_through_129 : decode cX12_through 129 = .ok (.iload 4, 2) := by decide +kernel
theorem dX12_through_131 : decode cX12_through 131 = .ok (.invokevirtual 330, 3) := by decide +kernel
theorem dX12_through_134 : decode cX12_through 134 = .ok (.iload_n 3, 1) := by decide +kernel
theorem dX12_through_135 : decode cX12_through 135 = .ok (.if_icmp .ne 20, 3) := by decide +kernel
theorem dX12_through_138 : decode cX12_through 138 = .ok (.iload 6, 2) := by decide +kernel
theorem dX12_through_140 : decode cX12_through 140 = .ok (.ifCond .ne 9, 3) := by decide +kernel
theorem dX12_through_143 : decode cX12_through 143 = .ok (.aload_n 0, 1) := by decide +kernel
theorem dX12_through_144 : decode cX12_through 144 = .ok (.invokevirtual 334, 3) := by decide +kernel
theorem dX12_through_147 : decode cX12_through 147 = .ok (.istore 7, 2) := by decide +kernel
theorem dX12_through_149 : decode cX12_through 149 = .ok (.iload 6, 2) := by decide +kernel
theorem dX12_through_151 : decode cX12_through 151 = .ok (.iconst 1, 1) := by decide +kernel
theorem dX12_through_152 : decode cX12_through 152 = .ok (.iadd, 1) := by decide +kernel
theorem dX12_through_153 : decode cX12_through 153 = .ok (.istore 6, 2) := by decide +kernel
theorem dX12_through_155 : decode cX12_through 155 = .ok (.aload_n 0, 1) := by decide +kernel
theorem dX12_through_156 : decode cX12_through 156 = .ok (.invokevirtual 337, 3) := by decide +kernel
theorem dX12_through_159 : decode cX12_through 159 = .ok (.istore 8, 2) := by decide +kernel
theorem dX12_through_161 : decode cX12_through 161 = .ok (.goto (-38), 3) := by decide +kernel
theorem dX12_through_164 : decode cX12_through 164 = .ok (.iload 5, 2) := by decide +kernel
theorem dX12_through_166 : decode cX12_through 166 = .ok (.ifCond .ne 8, 3) := by decide +kernel
theorem dX12_through_169 : decode cX12_through 169 = .ok (.iload 6, 2) := by decide +kernel
theorem dX12_through_171 : decode cX12_through 171 = .ok (.goto 5, 3) := by decide +kernel
theorem dX12_through_174 : decode cX12_through 174 = .ok (.iload 7, 2) := by decide +kernel
theorem dX12_through_176 : decode cX12_through 176 = .ok (.ireturn, 1) := by decide +kernel
set_option maxRecDepth 20000 in
theorem ggX12_best_X12_isRule : GoodIn wsX12_best wsX12_isRule := goodIn_r _ [7, 8, 9, 10, 6, 11] (by decide +kernel) (by decide +kernel)
set_option maxRecDepth 20000 in
theorem gX12_best_X12_isRule : GoodIn wsX12_best (wsV RX12 249 RX12 yX12_isRule wsX12_isRule) := goodIn_app (goodIn_of _ (by decide +kernel)) ggX12_best_X12_isRule
set_option maxRecDepth 20000 in
theorem ggX12_best_X12_isIn : GoodIn wsX12_best wsX12_isIn := goodIn_r _ [11] (by decide +kernel) (by decide +kernel)
set_option maxRecDepth 20000 in
theorem gX12_best_X12_isIn : GoodIn wsX12_best (wsV RX12 121 RX12 yX12_isIn wsX12_isIn) := goodIn_app (goodIn_of _ (by decide +kernel)) ggX12_best_X12_isIn
set_option maxRecDepth 20000 in
theorem ggX12_best_X12_findBeats : GoodIn wsX12_best wsX12_findBeats := goodIn_r _ [15, 2, 16, 17, 18, 6, 19, 20, 21, 22, 23, 24, 25, 26, 27, 28, 29, 30, 31, 32, 33, 34, 35, 36, 37, 38, 39, 40, 41, 42, 43, 44, 45, 46, 47, 48, 49, 50, 51, 52, 53, 54, 55, 56, 57, 58, 59, 60, 61, 62, 63, 64, 65, 66, 67, 68, 69, 70, 71, 72, 73, 74, 75, 76, 77, 78, 79, 80, 81, 82, 83, 84, 85, 86, 87, 88, 89, 90, 91, 92, 93, 94, 95, 96, 97, 98, 99, 100, 101, 102, 103, 104, 105, 106, 107, 108, 109, 110, 111, 112, 113, 114, 115, 116, 117, 118, 119, 120, 121, 122, 123, 124, 125, 126, 127, 128, 129, 130, 131] (by decide +kernel) (by decide +kernel)
set_option maxRecDepth 20000 in
theorem gX12_best_X12_findBeats : GoodIn wsX12_best (wsV RX12 327 RX12 yX12_findBeats wsX12_findBeats) := goodIn_app (goodIn_of _ (by decide +kernel)) ggX12_best_X12_findBeats
set_option maxRecDepth 20000 in
theorem ggX12_best_X12_isOf : GoodIn wsX12_best wsX12_isOf := goodIn_r _ [46] (by decide +kernel) (by decide +kernel)
set_option maxRecDepth 20000 in
theorem gX12_best_X12_isOf : GoodIn wsX12_best (wsV RX12 151 RX12 yX12_isOf wsX12_isOf) := goodIn_app (goodIn_of _ (by decide +kernel)) ggX12_best_X12_isOf
theorem dX12_best_0 : decode cX12_best 0 = .ok (.aload_n 0, 1) := by decide +kernel
theorem dX12_best_1 : decode cX12_best 1 = .ok (.iconst 0, 1) := by decide +kernel
theorem dX12_best_2 : decode cX12_best 2 = .ok (.putfield 115, 3) := by decide +kernel
theorem dX12_best_5 : decode cX12_best 5 = .ok (.aload_n 0, 1) := by decide +kernel
theorem dX12_best_6 : decode cX12_best 6 = .ok (.iload_n 1, 1) := by decide +kernel
theorem dX12_best_7 : decode cX12_best 7 = .ok (.invokevirtual 249, 3) := by decide +kernel
theorem dX12_best_10 : decode cX12_best 10 = .ok (.ifCond .eq 14, 3) := by decide +kernel
theorem dX12_best_13 : decode cX12_best 13 = .ok (.aload_n 0, 1) := by decide +kernel
theorem dX12_best_14 : decode cX12_best 14 = .ok (.iload_n 2, 1) := by decide +kernel
theorem dX12_best_15 : decode cX12_best 15 = .ok (.iconst 1, 1) := by decide +kernel
theorem dX12_best_16 : decode cX12_best 16 = .ok (.bipush 63, 2) := by decide +kernel
theorem dX12_best_18 : decode cX12_best 18 = .ok (.invokevirtual 121, 3) := by decide +kernel
theorem dX12_best_21 : decode cX12_best 21 = .ok (.ifCond .ne 5, 3) := by decide +kernel
theorem dX12_best_24 : decode cX12_best 24 = .ok (.iconst (-1), 1) := by decide +kernel
theorem dX12_best_25 : decode cX12_best 25 = .ok (.ireturn, 1) := by decide +kernel
theorem dX12_best_26 : decode cX12_best 26 = .ok (.aload_n 0, 1) := by decide +kernel
theorem dX12_best_27 : decode cX12_best 27 = .ok (.iload_n 1, 1) := by decide +kernel
theorem dX12_best_28 : decode cX12_best 28 = .ok (.invokevirtual 327, 3) := by decide +kernel
theorem dX12_best_31 : decode cX12_best 31 = .ok (.iconst 0, 1) := by decide +kernel
theorem dX12_best_32 : decode cX12_best 32 = .ok (.istore_n 3, 1) := by decide +kernel
theorem dX12_best_33 : decode cX12_best 33 = .ok (.iload_n 3, 1) := by decide +kernel
theorem dX12_best_34 : decode cX12_best 34 = .ok (.bipush 6, 2) := by decide +kernel
theorem dX12_best_36 : decode cX12_best 36 = .ok (.if_icmp .ge 79, 3) := by decide +kernel
theorem dX12_best_39 : decode cX12_best 39 = .ok (.aload_n 0, 1) := by decide +kernel
theorem dX12_best_40 : decode cX12_best 40 = .ok (.iload_n 2, 1) := by decide +kernel
theorem dX12_best_41 : decode cX12_best 41 = .ok (.iload_n 3, 1) := by decide +kernel
theorem dX12_best_42 : decode cX12_best 42 = .ok (.invokevirtual 151, 3) := by decide +kernel
theorem dX12_best_45 : decode cX12_best 45 = .ok (.istore 4, 2) := by decide +kernel
theorem dX12_best_47 : decode cX12_best 47 = .ok (.iconst 0, 1) := by decide +kernel
theorem dX12_best_48 : decode cX12_best 48 = .ok (.istore 5, 2) := by decide +kernel
theorem dX12_best_50 : decode cX12_best 50 = .ok (.iload 5, 2) := by decide +kernel
theorem dX12_best_52 : decode cX12_best 52 = .ok (.bipush 6, 2) := by decide +kernel
theorem dX12_best_54 : decode cX12_best 54 = .ok (.if_icmp .ge 48, 3) := by decide +kernel
theorem dX12_best_57 : decode cX12_best 57 = .ok (.iload 4, 2) := by decide +kernel
theorem dX12_best_59 : decode cX12_best 59 = .ok (.ifCond .eq 43, 3) := by decide +kernel
theorem dX12_best_62 : decode cX12_best 62 = .ok (.iload 5, 2) := by decide +kernel
theorem dX12_best_64 : decode cX12_best 64 = .ok (.iload_n 3, 1) := by decide +kernel
theorem dX12_best_65 : decode cX12_best 65 = .ok (.if_icmp .eq 31, 3) := by decide +kernel
theorem dX12_best_68 : decode cX12_best 68 = .ok (.aload_n 0, 1) := by decide +kernel
theorem dX12_best_69 : decode cX12_best 69 = .ok (.iload_n 2, 1) := by decide +kernel
theorem dX12_best_70 : decode cX12_best 70 = .ok (.iload 5, 2) := by decide +kernel
theorem dX12_best_72 : decode cX12_best 72 = .ok (.invokevirtual 151, 3) := by decide +kernel
theorem dX12_best_75 : decode cX12_best 75 = .ok (.ifCond .eq 21, 3) := by decide +kernel
theorem dX12_best_78 : decode cX12_best 78 = .ok (.aload_n 0, 1) := by decide +kernel
theorem dX12_best_79 : decode cX12_best 79 = .ok (.getfield 79, 3) := by decide +kernel
theorem dX12_best_82 : decode cX12_best 82 = .ok (.bipush 6, 2) := by decide +kernel
theorem dX12_best_84 : decode cX12_best 84 = .ok (.iload_n 3, 1) := by decide +kernel
theorem dX12_best_85 : decode cX12_best 85 = .ok (.imul, 1) := by decide +kernel
theorem dX12_best_86 : decode cX12_best 86 = .ok (.iload 5, 2) := by decide +kernel
theorem dX12_best_88 : decode cX12_best 88 = .ok (.iadd, 1) := by decide +kernel
theorem dX12_best_89 : decode cX12_best 89 = .ok (.baload, 1) := by decide +kernel
theorem dX12_best_90 : decode cX12_best 90 = .ok (.ifCond .ne 6, 3) := by decide +kernel
theorem dX12_best_93 : decode cX12_best 93 = .ok (.iconst 0, 1) := by decide +kernel
theorem dX12_best_94 : decode cX12_best 94 = .ok (.istore 4, 2) := by decide +kernel
theorem dX12_best_96 : decode cX12_best 96 = .ok (.iinc 5 1, 3) := by decide +kernel
theorem dX12_best_99 : decode cX12_best 99 = .ok (.goto (-49), 3) := by decide +kernel
theorem dX12_best_102 : decode cX12_best 102 = .ok (.iload 4, 2) := by decide +kernel
theorem dX12_best_104 : decode cX12_best 104 = .ok (.ifCond .eq 5, 3) := by decide +kernel
theorem dX12_best_107 : decode cX12_best 107 = .ok (.iload_n 3, 1) := by decide +kernel
theorem dX12_best_108 : decode cX12_best 108 = .ok (.ireturn, 1) := by decide +kernel
theorem dX12_best_109 : decode cX12_best 109 = .ok (.iinc 3 1, 3) := by decide +kernel
theorem dX12_best_112 : decode cX12_best 112 = .ok (.goto (-79), 3) := by decide +kernel
theorem dX12_best_115 : decode cX12_best 115 = .ok (.iconst (-1), 1) := by decide +kernel
theorem dX12_best_116 : decode cX12_best 116 = .ok (.ireturn, 1) := by decide +kernel
set_option maxRecDepth 20000 in
theorem ggX12_line_X12_isIn : GoodIn wsX12_line wsX12_isIn := goodIn_r _ [7] (by decide +kernel) (by decide +kernel)
set_option maxRecDepth 20000 in
theorem gX12_line_X12_isIn : GoodIn wsX12_line (wsV RX12 121 RX12 yX12_isIn wsX12_isIn) := goodIn_app (goodIn_of _ (by decide +kernel)) ggX12_line_X12_isIn
theorem dX12_line_0 : decode cX12_line 0 = .ok (.aload_n 0, 1) := by decide +kernel
theorem dX12_line_1 : decode cX12_line 1 = .ok (.iconst 0, 1) := by decide +kernel
theorem dX12_line_2 : decode cX12_line 2 = .ok (.putfield 115, 3) := by decide +kernel
theorem dX12_line_5 : decode cX12_line 5 = .ok (.aload_n 0, 1) := by decide +kernel
theorem dX12_line_6 : decode cX12_line 6 = .ok (.iload_n 1, 1) := by decide +kernel
theorem dX12_line_7 : decode cX12_line 7 = .ok (.iconst 0, 1) := by decide +kernel
theorem dX12_line_8 : decode cX12_line 8 = .ok (.iconst 5, 1) := by decide +kernel
theorem dX12_line_9 : decode cX12_line 9 = .ok (.invokevirtual 121, 3) := by decide +kernel
theorem dX12_line_12 : decode cX12_line 12 = .ok (.ifCond .eq 14, 3) := by decide +kernel
theorem dX12_line_15 : decode cX12_line 15 = .ok (.aload_n 0, 1) := by decide +kernel
theorem dX12_line_16 : decode cX12_line 16 = .ok (.iload_n 2, 1) := by decide +kernel
theorem dX12_line_17 : decode cX12_line 17 = .ok (.iconst 0, 1) := by decide +kernel
theorem dX12_line_18 : decode cX12_line 18 = .ok (.bipush 99, 2) := by decide +kernel
theorem dX12_line_20 : decode cX12_line 20 = .ok (.invokevirtual 121, 3) := by decide +kernel
theorem dX12_line_23 : decode cX12_line 23 = .ok (.ifCond .ne 5, 3) := by decide +kernel
theorem dX12_line_26 : decode cX12_line 26 = .ok (.iconst 0, 1) := by decide +kernel
theorem dX12_line_27 : decode cX12_line 27 = .ok (.ireturn, 1) := by decide +kernel
theorem dX12_line_28 : decode cX12_line 28 = .ok (.aload_n 0, 1) := by decide +kernel
theorem dX12_line_29 : decode cX12_line 29 = .ok (.getfield 88, 3) := by decide +kernel
theorem dX12_line_32 : decode cX12_line 32 = .ok (.iload_n 1, 1) := by decide +kernel
theorem dX12_line_33 : decode cX12_line 33 = .ok (.iload_n 2, 1) := by decide +kernel
theorem dX12_line_34 : decode cX12_line 34 = .ok (.iastore, 1) := by decide +kernel
theorem dX12_line_35 : decode cX12_line 35 = .ok (.iconst 1, 1) := by decide +kernel
theorem dX12_line_36 : decode cX12_line 36 = .ok (.ireturn, 1) := by decide +kernel
set_option maxRecDepth 20000 in
theorem ggX12_membersOf_X12_isOf : GoodIn wsX12_membersOf wsX12_isOf := goodIn_r _ [8] (by decide +kernel) (by decide +kernel)
set_option maxRecDepth 20000 in
theorem gX12_membersOf_X12_isOf : GoodIn wsX12_membersOf (wsV RX12 151 RX12 yX12_isOf wsX12_isOf) := goodIn_app (goodIn_of _ (by decide +kernel)) ggX12_membersOf_X12_isOf
theorem dX12_membersOf_0 : decode cX12_membersOf 0 = .ok (.iconst 0, 1) := by decide +kernel
theorem dX12_membersOf_1 : decode cX12_membersOf 1 = .ok (.istore_n 2, 1) := by decide +kernel
theorem dX12_membersOf_2 : decode cX12_membersOf 2 = .ok (.iconst 0, 1) := by decide +kernel
theorem dX12_membersOf_3 : decode cX12_membersOf 3 = .ok (.istore_n 3, 1) := by decide +kernel
theorem dX12_membersOf_4 : decode cX12_membersOf 4 = .ok (.iload_n 3, 1) := by decide +kernel
theorem dX12_membersOf_5 : decode cX12_membersOf 5 = .ok (.aload_n 0, 1) := by decide +kernel
theorem dX12_membersOf_6 : decode cX12_membersOf 6 = .ok (.getfield 118, 3) := by decide +kernel
theorem dX12_membersOf_9 : decode cX12_membersOf 9 = .ok (.if_icmp .ge 41, 3) := by decide +kernel
theorem dX12_membersOf_12 : decode cX12_membersOf 12 = .ok (.aload_n 0, 1) := by decide +kernel
theorem dX12_membersOf_13 : decode cX12_membersOf 13 = .ok (.aload_n 0, 1) := by decide +kernel
theorem dX12_membersOf_14 : decode cX12_membersOf 14 = .ok (.getfield 135, 3) := by decide +kernel
theorem dX12_membersOf_17 : decode cX12_membersOf 17 = .ok (.iload_n 3, 1) := by decide +kernel
theorem dX12_membersOf_18 : decode cX12_membersOf 18 = .ok (.invokevirtual 151, 3) := by decide +kernel
theorem dX12_membersOf_21 : decode cX12_membersOf 21 = .ok (.ifCond .eq 23, 3) := by decide +kernel
theorem dX12_membersOf_24 : decode cX12_membersOf 24 = .ok (.aload_n 0, 1) := by decide +kernel
theorem dX12_membersOf_25 : decode cX12_membersOf 25 = .ok (.iload_n 1, 1) := by decide +kernel
theorem dX12_membersOf_26 : decode cX12_membersOf 26 = .ok (.aload_n 0, 1) := by decide +kernel
theorem dX12_membersOf_27 : decode cX12_membersOf 27 = .ok (.getfield 42, 3) := by decide +kernel
theorem dX12_membersOf_30 : decode cX12_membersOf 30 = .ok (.iload_n 3, 1) := by decide +kernel
theorem dX12_membersOf_31 : decode cX12_membersOf 31 = .ok (.iaload, 1) := by decide +kernel
theorem dX12_membersOf_32 : decode cX12_membersOf 32 = .ok (.invokevirtual 151, 3) := by decide +kernel
theorem dX12_membersOf_35 : decode cX12_membersOf 35 = .ok (.ifCond .eq 9, 3) := by decide +kernel
theorem dX12_membersOf_38 : decode cX12_membersOf 38 = .ok (.iload_n 2, 1) := by decide +kernel
theorem dX12_membersOf_39 : decode cX12_membersOf 39 = .ok (.iconst 1, 1) := by decide +kernel
theorem dX12_membersOf_40 : decode cX12_membersOf 40 = .ok (.iload_n 3, 1) := by decide +kernel
theorem dX12_membersOf_41 : decode cX12_membersOf 41 = .ok (.ishl, 1) := by decide +kernel
theorem dX12_membersOf_42 : decode cX12_membersOf 42 = .ok (.ior, 1) := by decide +kernel
theorem dX12_membersOf_43 : decode cX12_membersOf 43 = .ok (.istore_n 2, 1) := by decide +kernel
theorem dX12_membersOf_44 : decode cX12_membersOf 44 = .ok (.iinc 3 1, 3) := by decide +kernel
theorem dX12_membersOf_47 : decode cX12_membersOf 47 = .ok (.goto (-43), 3) := by decide +kernel
theorem dX12_membersOf_50 : decode cX12_membersOf 50 = .ok (.iload_n 2, 1) := by decide +kernel
theorem dX12_membersOf_51 : decode cX12_membersOf 51 = .ok (.ireturn, 1) := by decide +kernel
set_option maxRecDepth 20000 in
theorem ggX12_span_X12_isOf : GoodIn wsX12_span wsX12_isOf := goodIn_r _ [6] (by decide +kernel) (by decide +kernel)
set_option maxRecDepth 20000 in
theorem gX12_span_X12_isOf : GoodIn wsX12_span (wsV RX12 151 RX12 yX12_isOf wsX12_isOf) := goodIn_app (goodIn_of _ (by decide +kernel)) ggX12_span_X12_isOf
theorem dX12_span_0 : decode cX12_span 0 = .ok (.bipush 100, 2) := by decide +kernel
theorem dX12_span_2 : decode cX12_span 2 = .ok (.istore_n 2, 1) := by decide +kernel
theorem dX12_span_3 : decode cX12_span 3 = .ok (.iconst 0, 1) := by decide +kernel
theorem dX12_span_4 : decode cX12_span 4 = .ok (.istore_n 3, 1) := by decide +kernel
theorem dX12_span_5 : decode cX12_span 5 = .ok (.iconst 0, 1) := by decide +kernel
theorem dX12_span_6 : decode cX12_span 6 = .ok (.istore 4, 2) := by decide +kernel
theorem dX12_span_8 : decode cX12_span 8 = .ok (.iload 4, 2) := by decide +kernel
theorem dX12_span_10 : decode cX12_span 10 = .ok (.bipush 6, 2) := by decide +kernel
theorem dX12_span_12 : decode cX12_span 12 = .ok (.if_icmp .ge 60, 3) := by decide +kernel
theorem dX12_span_15 : decode cX12_span 15 = .ok (.aload_n 0, 1) := by decide +kernel
theorem dX12_span_16 : decode cX12_span 16 = .ok (.iload_n 1, 1) := by decide +kernel
theorem dX12_span_17 : decode cX12_span 17 = .ok (.iload 4, 2) := by decide +kernel
theorem dX12_span_19 : decode cX12_span 19 = .ok (.invokevirtual 151, 3) := by decide +kernel
theorem dX12_span_22 : decode cX12_span 22 = .ok (.ifCond .ne 6, 3) := by decide +kernel
theorem dX12_span_25 : decode cX12_span 25 = .ok (.goto 41, 3) := by decide +kernel
theorem dX12_span_28 : decode cX12_span 28 = .ok (.aload_n 0, 1) := by decide +kernel
theorem dX12_span_29 : decode cX12_span 29 = .ok (.getfield 88, 3) := by decide +kernel
theorem dX12_span_32 : decode cX12_span 32 = .ok (.iload 4, 2) := by decide +kernel
theorem dX12_span_34 : decode cX12_span 34 = .ok (.iaload, 1) := by decide +kernel
theorem dX12_span_35 : decode cX12_span 35 = .ok (.iload_n 2, 1) := by decide +kernel
theorem dX12_span_36 : decode cX12_span 36 = .ok (.if_icmp .ge 11, 3) := by decide +kernel
theorem dX12_span_39 : decode cX12_span 39 = .ok (.aload_n 0, 1) := by decide +kernel
theorem dX12_span_40 : decode cX12_span 40 = .ok (.getfield 88, 3) := by decide +kernel
theorem dX12_span_43 : decode cX12_span 43 = .ok (.iload 4, 2) := by decide +kernel
theorem dX12_span_45 : decode cX12_span 45 = .ok (.iaload, 1) := by decide +kernel
theorem dX12_span_46 : decode cX12_span 46 = .ok (.istore_n 2, 1) := by decide +kernel
theorem dX12_span_47 : decode cX12_span 47 = .ok (.aload_n 0, 1) := by decide +kernel
theorem dX12_span_48 : decode cX12_span 48 = .ok (.getfield 88, 3) := by decide +kernel
theorem dX12_span_51 : decode cX12_span 51 = .ok (.iload 4, 2) := by decide +kernel
theorem dX12_span_53 : decode cX12_span 53 = .ok (.iaload, 1) := by decide +kernel
theorem dX12_span_54 : decode cX12_span 54 = .ok (.iload_n 3, 1) := by decide +kernel
theorem dX12_span_55 : decode cX12_span 55 = .ok (.if_icmp .le 11, 3) := by decide +kernel
theorem dX12_span_58 : decode cX12_span 58 = .ok (.aload_n 0, 1) := by decide +kernel
theorem dX12_span_59 : decode cX12_span 59 = .ok (.getfield 88, 3) := by decide +kernel
theorem dX12_span_62 : decode cX12_span 62 = .ok (.iload 4, 2) := by decide +kernel
theorem dX12_span_64 : decode cX12_span 64 = .ok (.iaload, 1) := by decide +kernel
theorem dX12_span_65 : decode cX12_span 65 = .ok (.istore_n 3, 1) := by decide +kernel
theorem dX12_span_66 : decode cX12_span 66 = .ok (.iinc 4 1, 3) := by decide +kernel
theorem dX12_span_69 : decode cX12_span 69 = .ok (.goto (-61), 3) := by decide +kernel
theorem dX12_span_72 : decode cX12_span 72 = .ok (.iload_n 3, 1) := by decide +kernel
theorem dX12_span_73 : decode cX12_span 73 = .ok (.iload_n 2, 1) := by decide +kernel
theorem dX12_span_74 : decode cX12_span 74 = .ok (.isub, 1) := by decide +kernel
theorem dX12_span_75 : decode cX12_span 75 = .ok (.ireturn, 1) := by decide +kernel
set_option maxRecDepth 20000 in
theorem ggX12_hangs_X12_isOf : GoodIn wsX12_hangs wsX12_isOf := goodIn_r _ [6] (by decide +kernel) (by decide +kernel)
set_option maxRecDepth 20000 in
theorem gX12_hangs_X12_isOf : GoodIn wsX12_hangs (wsV RX12 151 RX12 yX12_isOf wsX12_isOf) := goodIn_app (goodIn_of _ (by decide +kernel)) ggX12_hangs_X12_isOf
theorem dX12_hangs_0 : decode cX12_hangs 0 = .ok (.bipush 100, 2) := by decide +kernel
theorem dX12_hangs_2 : decode cX12_hangs 2 = .ok (.istore_n 3, 1) := by decide +kernel
theorem dX12_hangs_3 : decode cX12_hangs 3 = .ok (.iconst 0, 1) := by decide +kernel
theorem dX12_hangs_4 : decode cX12_hangs 4 = .ok (.istore 4, 2) := by decide +kernel
theorem dX12_hangs_6 : decode cX12_hangs 6 = .ok (.iconst 0, 1) := by decide +kernel
theorem dX12_hangs_7 : decode cX12_hangs 7 = .ok (.istore 5, 2) := by decide +kernel
theorem dX12_hangs_9 : decode cX12_hangs 9 = .ok (.iload 5, 2) := by decide +kernel
theorem dX12_hangs_11 : decode cX12_hangs 11 = .ok (.bipush 6, 2) := by decide +kernel
theorem dX12_hangs_13 : decode cX12_hangs 13 = .ok (.if_icmp .ge 62, 3) := by decide +kernel
theorem dX12_hangs_16 : decode cX12_hangs 16 = .ok (.aload_n 0, 1) := by decide +kernel
theorem dX12_hangs_17 : decode cX12_hangs 17 = .ok (.iload_n 1, 1) := by decide +kernel
theorem dX12_hangs_18 : decode cX12_hangs 18 = .ok (.iload 5, 2) := by decide +kernel
theorem dX12_hangs_20 : decode cX12_hangs 20 = .ok (.invokevirtual 151, 3) := by decide +kernel
theorem dX12_hangs_23 : decode cX12_hangs 23 = .ok (.ifCond .ne 6, 3) := by decide +kernel
theorem dX12_hangs_26 : decode cX12_hangs 26 = .ok (.goto 43, 3) := by decide +kernel
theorem dX12_hangs_29 : decode cX12_hangs 29 = .ok (.aload_n 0, 1) := by decide +kernel
theorem dX12_hangs_30 : decode cX12_hangs 30 = .ok (.getfield 88, 3) := by decide +kernel
theorem dX12_hangs_33 : decode cX12_hangs 33 = .ok (.iload 5, 2) := by decide +kernel
theorem dX12_hangs_35 : decode cX12_hangs 35 = .ok (.iaload, 1) := by decide +kernel
theorem dX12_hangs_36 : decode cX12_hangs 36 = .ok (.iload_n 3, 1) := by decide +kernel
theorem dX12_hangs_37 : decode cX12_hangs 37 = .ok (.if_icmp .ge 11, 3) := by decide +kernel
theorem dX12_hangs_40 : decode cX12_hangs 40 = .ok (.aload_n 0, 1) := by decide +kernel
theorem dX12_hangs_41 : decode cX12_hangs 41 = .ok (.getfield 88, 3) := by decide +kernel
theorem dX12_hangs_44 : decode cX12_hangs 44 = .ok (.iload 5, 2) := by decide +kernel
theorem dX12_hangs_46 : decode cX12_hangs 46 = .ok (.iaload, 1) := by decide +kernel
theorem dX12_hangs_47 : decode cX12_hangs 47 = .ok (.istore_n 3, 1) := by decide +kernel
theorem dX12_hangs_48 : decode cX12_hangs 48 = .ok (.aload_n 0, 1) := by decide +kernel
theorem dX12_hangs_49 : decode cX12_hangs 49 = .ok (.getfield 88, 3) := by decide +kernel
theorem dX12_hangs_52 : decode cX12_hangs 52 = .ok (.iload 5, 2) := by decide +kernel
theorem dX12_hangs_54 : decode cX12_hangs 54 = .ok (.iaload, 1) := by decide +kernel
theorem dX12_hangs_55 : decode cX12_hangs 55 = .ok (.iload 4, 2) := by decide +kernel
theorem dX12_hangs_57 : decode cX12_hangs 57 = .ok (.if_icmp .le 12, 3) := by decide +kernel
theorem dX12_hangs_60 : decode cX12_hangs 60 = .ok (.aload_n 0, 1) := by decide +kernel
theorem dX12_hangs_61 : decode cX12_hangs 61 = .ok (.getfield 88, 3) := by decide +kernel
theorem dX12_hangs_64 : decode cX12_hangs 64 = .ok (.iload 5, 2) := by decide +kernel
theorem dX12_hangs_66 : decode cX12_hangs 66 = .ok (.iaload, 1) := by decide +kernel
theorem dX12_hangs_67 : decode cX12_hangs 67 = .ok (.istore 4, 2) := by decide +kernel
theorem dX12_hangs_69 : decode cX12_hangs 69 = .ok (.iinc 5 1, 3) := by decide +kernel
theorem dX12_hangs_72 : decode cX12_hangs 72 = .ok (.goto (-63), 3) := by decide +kernel
theorem dX12_hangs_75 : decode cX12_hangs 75 = .ok (.iconst 0, 1) := by decide +kernel
theorem dX12_hangs_76 : decode cX12_hangs 76 = .ok (.istore 5, 2) := by decide +kernel
theorem dX12_hangs_78 : decode cX12_hangs 78 = .ok (.iload 5, 2) := by decide +kernel
theorem dX12_hangs_80 : decode cX12_hangs 80 = .ok (.bipush 6, 2) := by decide +kernel
theorem dX12_hangs_82 : decode cX12_hangs 82 = .ok (.if_icmp .ge 54, 3) := by decide +kernel
theorem dX12_hangs_85 : decode cX12_hangs 85 = .ok (.aload_n 0, 1) := by decide +kernel
theorem dX12_hangs_86 : decode cX12_hangs 86 = .ok (.iload_n 2, 1) := by decide +kernel
theorem dX12_hangs_87 : decode cX12_hangs 87 = .ok (.iload 5, 2) := by decide +kernel
theorem dX12_hangs_89 : decode cX12_hangs 89 = .ok (.invokevirtual 151, 3) := by decide +kernel
theorem dX12_hangs_92 : decode cX12_hangs 92 = .ok (.ifCond .eq 38, 3) := by decide +kernel
theorem dX12_hangs_95 : decode cX12_hangs 95 = .ok (.aload_n 0, 1) := by decide +kernel
theorem dX12_hangs_96 : decode cX12_hangs 96 = .ok (.iload_n 1, 1) := by decide +kernel
theorem dX12_hangs_97 : decode cX12_hangs 97 = .ok (.iload 5, 2) := by decide +kernel
theorem dX12_hangs_99 : decode cX12_hangs 99 = .ok (.invokevirtual 151, 3) := by decide +kernel
theorem dX12_hangs_102 : decode cX12_hangs 102 = .ok (.ifCond .ne 28, 3) := by decide +kernel
theorem dX12_hangs_105 : decode cX12_hangs 105 = .ok (.aload_n 0, 1) := by decide +kernel
theorem dX12_hangs_106 : decode cX12_hangs 106 = .ok (.getfield 88, 3) := by decide +kernel
theorem dX12_hangs_109 : decode cX12_hangs 109 = .ok (.iload 5, 2) := by decide +kernel
theorem dX12_hangs_111 : decode cX12_hangs 111 = .ok (.iaload, 1) := by decide +kernel
theorem dX12_hangs_112 : decode cX12_hangs 112 = .ok (.iload_n 3, 1) := by decide +kernel
theorem dX12_hangs_113 : decode cX12_hangs 113 = .ok (.if_icmp .le 17, 3) := by decide +kernel
theorem dX12_hangs_116 : decode cX12_hangs 116 = .ok (.aload_n 0, 1) := by decide +kernel
theorem dX12_hangs_117 : decode cX12_hangs 117 = .ok (.getfield 88, 3) := by decide +kernel
theorem dX12_hangs_120 : decode cX12_hangs 120 = .ok (.iload 5, 2) := by decide +kernel
theorem dX12_hangs_122 : decode cX12_hangs 122 = .ok (.iaload, 1) := by decide +kernel
theorem dX12_hangs_123 : decode cX12_hangs 123 = .ok (.iload 4, 2) := by decide +kernel
theorem dX12_hangs_125 : decode cX12_hangs 125 = .ok (.if_icmp .ge 5, 3) := by decide +kernel
theorem dX12_hangs_128 : decode cX12_hangs 128 = .ok (.iconst 0, 1) := by decide +kernel
theorem dX12_hangs_129 : decode cX12_hangs 129 = .ok (.ireturn, 1) := by decide +kernel
theorem dX12_hangs_130 : decode cX12_hangs 130 = .ok (.iinc 5 1, 3) := by decide +kernel
theorem dX12_hangs_133 : decode cX12_hangs 133 = .ok (.goto (-55), 3) := by decide +kernel
theorem dX12_hangs_136 : decode cX12_hangs 136 = .ok (.iconst 1, 1) := by decide +kernel
theorem dX12_hangs_137 : decode cX12_hangs 137 = .ok (.ireturn, 1) := by decide +kernel
set_option maxRecDepth 20000 in
theorem ggX12_coalition_X12_isRule : GoodIn wsX12_coalition wsX12_isRule := goodIn_r _ [6, 7, 8, 9, 5, 10] (by decide +kernel) (by decide +kernel)
set_option maxRecDepth 20000 in
theorem gX12_coalition_X12_isRule : GoodIn wsX12_coalition (wsV RX12 249 RX12 yX12_isRule wsX12_isRule) := goodIn_app (goodIn_of _ (by decide +kernel)) ggX12_coalition_X12_isRule
set_option maxRecDepth 20000 in
theorem ggX12_coalition_X12_isIn : GoodIn wsX12_coalition wsX12_isIn := goodIn_r _ [10] (by decide +kernel) (by decide +kernel)
set_option maxRecDepth 20000 in
theorem gX12_coalition_X12_isIn : GoodIn wsX12_coalition (wsV RX12 121 RX12 yX12_isIn wsX12_isIn) := goodIn_app (goodIn_of _ (by decide +kernel)) ggX12_coalition_X12_isIn
set_option maxRecDepth 20000 in
theorem ggX12_coalition_X12_findsView : GoodIn wsX12_coalition wsX12_findsView := goodIn_r _ [14, 15, 16, 17, 18, 19, 5, 20, 21, 22, 23, 24, 25, 26, 27, 28, 29, 30, 31, 32, 82, 83, 84, 85, 86, 87, 88, 89, 90, 91, 92, 93, 94, 95, 96, 97, 98, 99, 100, 101, 102, 103, 104, 105, 106, 107, 108, 109, 110, 111, 112, 113, 114, 115, 116, 117, 118, 119, 120, 121, 122, 123, 124, 125, 126, 127, 128, 129, 130, 131, 132, 133] (by decide +kernel) (by decide +kernel)
set_option maxRecDepth 20000 in
theorem gX12_coalition_X12_findsView : GoodIn wsX12_coalition (wsV RX12 148 RX12 yX12_findsView wsX12_findsView) := goodIn_app (goodIn_of _ (by decide +kernel)) ggX12_coalition_X12_findsView
set_option maxRecDepth 20000 in
theorem ggX12_coalition_X12_blocsIn : GoodIn wsX12_coalition wsX12_blocsIn := goodIn_r _ [36, 24, 21, 29, 37, 38, 39, 5, 40, 82, 83, 84, 85, 86, 87, 88, 89, 90, 91, 92, 93, 94, 95, 96, 97, 98, 99, 100, 101, 102, 103, 104, 105, 106, 107, 108, 109, 110, 111, 112, 113, 114, 115, 116, 117, 118, 119, 120, 121, 122, 123, 124, 125, 126, 127, 128, 129, 130, 131, 132, 133] (by decide +kernel) (by decide +kernel)
set_option maxRecDepth 20000 in
theorem gX12_coalition_X12_blocsIn : GoodIn wsX12_coalition (wsV RX12 155 RX12 yX12_blocsIn wsX12_blocsIn) := goodIn_app (goodIn_of _ (by decide +kernel)) ggX12_coalition_X12_blocsIn
set_option maxRecDepth 20000 in
theorem ggX12_coalition_X12_hangs : GoodIn wsX12_coalition wsX12_hangs := goodIn_r _ [44, 45, 37, 38, 39, 5, 40, 82, 83, 84, 85, 86, 87, 88, 89, 90, 91, 92, 93, 94, 95, 96, 97, 98, 99, 100, 101, 102, 103, 104, 105, 106, 107, 108, 109, 110, 111, 112, 113, 114, 115, 116, 117, 118, 119, 120, 121, 122, 123, 124, 125, 126, 127, 128, 129, 130, 131, 132, 133] (by decide +kernel) (by decide +kernel)
set_option maxRecDepth 20000 in
theorem gX12_coalition_X12_hangs : GoodIn wsX12_coalition (wsV RX12 341 RX12 yX12_hangs wsX12_hangs) := goodIn_app (goodIn_of _ (by decide +kernel)) ggX12_coalition_X12_hangs
set_option maxRecDepth 20000 in
theorem ggX12_coalition_X12_membersOf : GoodIn wsX12_coalition wsX12_membersOf := goodIn_r _ [49, 24, 21, 29, 37, 38, 39, 5, 40, 82, 83, 84, 85, 86, 87, 88, 89, 90, 91, 92, 93, 94, 95, 96, 97, 98, 99, 100, 101, 102, 103, 104, 105, 106, 107, 108, 109, 110, 111, 112, 113, 114, 115, 116, 117, 118, 119, 120, 121, 122, 123, 124, 125, 126, 127, 128, 129, 130, 131, 132, 133] (by decide +kernel) (by decide +kernel)
set_option maxRecDepth 20000 in
theorem gX12_coalition_X12_membersOf : GoodIn wsX12_coalition (wsV RX12 344 RX12 yX12_membersOf wsX12_membersOf) := goodIn_app (goodIn_of _ (by decide +kernel)) ggX12_coalition_X12_membersOf
set_option maxRecDepth 20000 in
theorem ggX12_coalition_X12_carriesBy : GoodIn wsX12_coalition wsX12_carriesBy := goodIn_r _ [53, 54, 55, 56, 57, 58, 59, 5, 60, 61, 62, 63, 64, 65, 22, 23, 66, 67, 68, 69, 24, 29, 37, 38, 39, 40, 70, 71, 72, 73, 31, 74, 75, 76, 77, 82, 83, 84, 85, 86, 87, 88, 89, 90, 91, 92, 93, 94, 95, 96, 97, 98, 99, 100, 101, 102, 103, 104, 105, 106, 107, 108, 109, 110, 111, 112, 113, 114, 115, 116, 117, 118, 119, 120, 121, 122, 123, 124, 125, 126, 127, 128, 129, 130, 131, 132, 133] (by decide +kernel) (by decide +kernel)
set_option maxRecDepth 20000 in
theorem gX12_coalition_X12_carriesBy : GoodIn wsX12_coalition (wsV RX12 274 RX12 yX12_carriesBy wsX12_carriesBy) := goodIn_app (goodIn_of _ (by decide +kernel)) ggX12_coalition_X12_carriesBy
set_option maxRecDepth 20000 in
theorem ggX12_coalition_X12_span : GoodIn wsX12_coalition wsX12_span := goodIn_r _ [81, 45, 37, 38, 39, 5, 40, 82, 83, 84, 85, 86, 87, 88, 89, 90, 91, 92, 93, 94, 95, 96, 97, 98, 99, 100, 101, 102, 103, 104, 105, 106, 107, 108, 109, 110, 111, 112, 113, 114, 115, 116, 117, 118, 119, 120, 121, 122, 123, 124, 125, 126, 127, 128, 129, 130, 131, 132, 133] (by decide +kernel) (by decide +kernel)
set_option maxRecDepth 20000 in
theorem gX12_coalition_X12_span : GoodIn wsX12_coalition (wsV RX12 347 RX12 yX12_span wsX12_span) := goodIn_app (goodIn_of _ (by decide +kernel)) ggX12_coalition_X12_span
set_option maxRecDepth 20000 in
theorem ggX12_coalition_X12_weightOf : GoodIn wsX12_coalition wsX12_weightOf := goodIn_r _ [73, 24, 29, 31, 37, 38, 39, 5, 40, 82, 83, 84, 85, 86, 87, 88, 89, 90, 91, 92, 93, 94, 95, 96, 97, 98, 99, 100, 101, 102, 103, 104, 105, 106, 107, 108, 109, 110, 111, 112, 113, 114, 115, 116, 117, 118, 119, 120, 121, 122, 123, 124, 125, 126, 127, 128, 129, 130, 131, 132, 133] (by decide +kernel) (by decide +kernel)
set_option maxRecDepth 20000 in
theorem gX12_coalition_X12_weightOf : GoodIn wsX12_coalition (wsV RX12 261 RX12 yX12_weightOf wsX12_weightOf) := goodIn_app (goodIn_of _ (by decide +kernel)) ggX12_coalition_X12_weightOf
theorem dX12_coalition_0 : decode cX12_coalition 0 = .ok (.aload_n 0, 1) := by decide +kernel
theorem dX12_coalition_1 : decode cX12_coalition 1 = .ok (.iconst 0, 1) := by decide +kernel
theorem dX12_coalition_2 : decode cX12_coalition 2 = .ok (.putfield 115, 3) := by decide +kernel
theorem dX12_coalition_5 : decode cX12_coalition 5 = .ok (.aload_n 0, 1) := by decide +kernel
theorem dX12_coalition_6 : decode cX12_coalition 6 = .ok (.iload_n 1, 1) := by decide +kernel
theorem dX12_coalition_7 : decode cX12_coalition 7 = .ok (.invokevirtual 249, 3) := by decide +kernel
theorem dX12_coalition_10 : decode cX12_coalition 10 = .ok (.ifCond .eq 13, 3) := by decide +kernel
theorem dX12_coalition_13 : decode cX12_coalition 13 = .ok (.aload_n 0, 1) := by decide +kernel
theorem dX12_coalition_14 : decode cX12_coalition 14 = .ok (.iload_n 2, 1) := by decide +kernel
theorem dX12_coalition_15 : decode cX12_coalition 15 = .ok (.iconst 0, 1) := by decide +kernel
theorem dX12_coalition_16 : decode cX12_coalition 16 = .ok (.iconst 3, 1) := by decide +kernel
theorem dX12_coalition_17 : decode cX12_coalition 17 = .ok (.invokevirtual 121, 3) := by decide +kernel
theorem dX12_coalition_20 : decode cX12_coalition 20 = .ok (.ifCond .ne 5, 3) := by decide +kernel
theorem dX12_coalition_23 : decode cX12_coalition 23 = .ok (.iconst (-1), 1) := by decide +kernel
theorem dX12_coalition_24 : decode cX12_coalition 24 = .ok (.ireturn, 1) := by decide +kernel
theorem dX12_coalition_25 : decode cX12_coalition 25 = .ok (.aload_n 0, 1) := by decide +kernel
theorem dX12_coalition_26 : decode cX12_coalition 26 = .ok (.invokevirtual 148, 3) := by decide +kernel
theorem dX12_coalition_29 : decode cX12_coalition 29 = .ok (.aload_n 0, 1) := by decide +kernel
theorem dX12_coalition_30 : decode cX12_coalition 30 = .ok (.invokevirtual 155, 3) := by decide +kernel
theorem dX12_coalition_33 : decode cX12_coalition 33 = .ok (.istore_n 3, 1) := by decide +kernel
theorem dX12_coalition_34 : decode cX12_coalition 34 = .ok (.iconst (-1), 1) := by decide +kernel
theorem dX12_coalition_35 : decode cX12_coalition 35 = .ok (.istore 4, 2) := by decide +kernel
theorem dX12_coalition_37 : decode cX12_coalition 37 = .ok (.iconst 0, 1) := by decide +kernel
theorem dX12_coalition_38 : decode cX12_coalition 38 = .ok (.istore 5, 2) := by decide +kernel
theorem dX12_coalition_40 : decode cX12_coalition 40 = .ok (.iconst 1, 1) := by decide +kernel
theorem dX12_coalition_41 : decode cX12_coalition 41 = .ok (.istore 6, 2) := by decide +kernel
theorem dX12_coalition_43 : decode cX12_coalition 43 = .ok (.iload 6, 2) := by decide +kernel
theorem dX12_coalition_45 : decode cX12_coalition 45 = .ok (.bipush 64, 2) := by decide +kernel
theorem dX12_coalition_47 : decode cX12_coalition 47 = .ok (.if_icmp .ge 128, 3) := by decide +kernel
theorem dX12_coalition_50 : decode cX12_coalition 50 = .ok (.iload 6, 2) := by decide +kernel
theorem dX12_coalition_52 : decode cX12_coalition 52 = .ok (.iload_n 3, 1) := by decide +kernel
theorem dX12_coalition_53 : decode cX12_coalition 53 = .ok (.iconst (-1), 1) := by decide +kernel
theorem dX12_coalition_54 : decode cX12_coalition 54 = .ok (.ixor, 1) := by decide +kernel
theorem dX12_coalition_55 : decode cX12_coalition 55 = .ok (.iand, 1) := by decide +kernel
theorem dX12_coalition_56 : decode cX12_coalition 56 = .ok (.ifCond .ne 113, 3) := by decide +kernel
theorem dX12_coalition_59 : decode cX12_coalition 59 = .ok (.aload_n 0, 1) := by decide +kernel
theorem dX12_coalition_60 : decode cX12_coalition 60 = .ok (.iload 6, 2) := by decide +kernel
theorem dX12_coalition_62 : decode cX12_coalition 62 = .ok (.iload_n 3, 1) := by decide +kernel
theorem dX12_coalition_63 : decode cX12_coalition 63 = .ok (.invokevirtual 341, 3) := by decide +kernel
theorem dX12_coalition_66 : decode cX12_coalition 66 = .ok (.ifCond .eq 103, 3) := by decide +kernel
theorem dX12_coalition_69 : decode cX12_coalition 69 = .ok (.aload_n 0, 1) := by decide +kernel
theorem dX12_coalition_70 : decode cX12_coalition 70 = .ok (.iload_n 1, 1) := by decide +kernel
theorem dX12_coalition_71 : decode cX12_coalition 71 = .ok (.aload_n 0, 1) := by decide +kernel
theorem dX12_coalition_72 : decode cX12_coalition 72 = .ok (.iload 6, 2) := by decide +kernel
theorem dX12_coalition_74 : decode cX12_coalition 74 = .ok (.invokevirtual 344, 3) := by decide +kernel
theorem dX12_coalition_77 : decode cX12_coalition 77 = .ok (.invokevirtual 274, 3) := by decide +kernel
theorem dX12_coalition_80 : decode cX12_coalition 80 = .ok (.ifCond .ne 6, 3) := by decide +kernel
theorem dX12_coalition_83 : decode cX12_coalition 83 = .ok (.goto 86, 3) := by decide +kernel
theorem dX12_coalition_86 : decode cX12_coalition 86 = .ok (.iload 5, 2) := by decide +kernel
theorem dX12_coalition_88 : decode cX12_coalition 88 = .ok (.iconst 1, 1) := by decide +kernel
theorem dX12_coalition_89 : decode cX12_coalition 89 = .ok (.iadd, 1) := by decide +kernel
theorem dX12_coalition_90 : decode cX12_coalition 90 = .ok (.istore 5, 2) := by decide +kernel
theorem dX12_coalition_92 : decode cX12_coalition 92 = .ok (.iload 4, 2) := by decide +kernel
theorem dX12_coalition_94 : decode cX12_coalition 94 = .ok (.iconst (-1), 1) := by decide +kernel
theorem dX12_coalition_95 : decode cX12_coalition 95 = .ok (.if_icmp .eq 21, 3) := by decide +kernel
theorem dX12_coalition_98 : decode cX12_coalition 98 = .ok (.aload_n 0, 1) := by decide +kernel
theorem dX12_coalition_99 : decode cX12_coalition 99 = .ok (.iload 6, 2) := by decide +kernel
theorem dX12_coalition_101 : decode cX12_coalition 101 = .ok (.invokevirtual 347, 3) := by decide +kernel
theorem dX12_coalition_104 : decode cX12_coalition 104 = .ok (.aload_n 0, 1) := by decide +kernel
theorem dX12_coalition_105 : decode cX12_coalition 105 = .ok (.iload 4, 2) := by decide +kernel
theorem dX12_coalition_107 : decode cX12_coalition 107 = .ok (.invokevirtual 347, 3) := by decide +kernel
theorem dX12_coalition_110 : decode cX12_coalition 110 = .ok (.if_icmp .le 6, 3) := by decide +kernel
theorem dX12_coalition_113 : decode cX12_coalition 113 = .ok (.goto 56, 3) := by decide +kernel
theorem dX12_coalition_116 : decode cX12_coalition 116 = .ok (.iload 4, 2) := by decide +kernel
theorem dX12_coalition_118 : decode cX12_coalition 118 = .ok (.iconst (-1), 1) := by decide +kernel
theorem dX12_coalition_119 : decode cX12_coalition 119 = .ok (.if_icmp .eq 46, 3) := by decide +kernel
theorem dX12_coalition_122 : decode cX12_coalition 122 = .ok (.aload_n 0, 1) := by decide +kernel
theorem dX12_coalition_123 : decode cX12_coalition 123 = .ok (.iload 6, 2) := by decide +kernel
theorem dX12_coalition_125 : decode cX12_coalition 125 = .ok (.invokevirtual 347, 3) := by decide +kernel
theorem dX12_coalition_128 : decode cX12_coalition 128 = .ok (.aload_n 0, 1) := by decide +kernel
theorem dX12_coalition_129 : decode cX12_coalition 129 = .ok (.iload 4, 2) := by decide +kernel
theorem dX12_coalition_131 : decode cX12_coalition 131 = .ok (.invokevirtual 347, 3) := by decide +kernel
theorem dX12_coalition_134 : decode cX12_coalition 134 = .ok (.if_icmp .ne 31, 3) := by decide +kernel
theorem dX12_coalition_137 : decode cX12_coalition 137 = .ok (.aload_n 0, 1) := by decide +kernel
theorem dX12_coalition_138 : decode cX12_coalition 138 = .ok (.aload_n 0, 1) := by decide +kernel
theorem dX12_coalition_139 : decode cX12_coalition 139 = .ok (.iload 6, 2) := by decide +kernel
theorem dX12_coalition_141 : decode cX12_coalition 141 = .ok (.invokevirtual 344, 3) := by decide +kernel
theorem dX12_coalition_144 : decode cX12_coalition 144 = .ok (.iconst (-1), 1) := by decide +kernel
theorem dX12_coalition_145 : decode cX12_coalition 145 = .ok (.invokevirtual 261, 3) := by decide +kernel
theorem dX12_coalition_148 : decode cX12_coalition 148 = .ok (.aload_n 0, 1) := by decide +kernel
theorem dX12_coalition_149 : decode cX12_coalition 149 = .ok (.aload_n 0, 1) := by decide +kernel
theorem dX12_coalition_150 : decode cX12_coalition 150 = .ok (.iload 4, 2) := by decide +kernel
theorem dX12_coalition_152 : decode cX12_coalition 152 = .ok (.invokevirtual 344, 3) := by decide +kernel
theorem dX12_coalition_155 : decode cX12_coalition 155 = .ok (.iconst (-1), 1) := by decide +kernel
theorem dX12_coalition_156 : decode cX12_coalition 156 = .ok (.invokevirtual 261, 3) := by decide +kernel
theorem dX12_coalition_159 : decode cX12_coalition 159 = .ok (.if_icmp .lt 6, 3) := by decide +kernel
theorem dX12_coalition_162 : decode cX12_coalition 162 = .ok (.goto 7, 3) := by decide +kernel
theorem dX12_coalition_165 : decode cX12_coalition 165 = .ok (.iload 6, 2) := by decide +kernel
theorem dX12_coalition_167 : decode cX12_coalition 167 = .ok (.istore 4, 2) := by decide +kernel
theorem dX12_coalition_169 : decode cX12_coalition 169 = .ok (.iinc 6 1, 3) := by decide +kernel
theorem dX12_coalition_172 : decode cX12_coalition 172 = .ok (.goto (-129), 3) := by decide +kernel
theorem dX12_coalition_175 : decode cX12_coalition 175 = .ok (.iload_n 2, 1) := by decide +kernel
theorem dX12_coalition_176 : decode cX12_coalition 176 = .ok (.iconst 3, 1) := by decide +kernel
theorem dX12_coalition_177 : decode cX12_coalition 177 = .ok (.if_icmp .ne 6, 3) := by decide +kernel
theorem dX12_coalition_180 : decode cX12_coalition 180 = .ok (.iload 5, 2) := by decide +kernel
theorem dX12_coalition_182 : decode cX12_coalition 182 = .ok (.ireturn, 1) := by decide +kernel
theorem dX12_coalition_183 : decode cX12_coalition 183 = .ok (.iload 4, 2) := by decide +kernel
theorem dX12_coalition_185 : decode cX12_coalition 185 = .ok (.iconst (-1), 1) := by decide +kernel
theorem dX12_coalition_186 : decode cX12_coalition 186 = .ok (.if_icmp .ne 5, 3) := by decide +kernel
theorem dX12_coalition_189 : decode cX12_coalition 189 = .ok (.iconst (-1), 1) := by decide +kernel
theorem dX12_coalition_190 : decode cX12_coalition 190 = .ok (.ireturn, 1) := by decide +kernel
theorem dX12_coalition_191 : decode cX12_coalition 191 = .ok (.iload_n 2, 1) := by decide +kernel
theorem dX12_coalition_192 : decode cX12_coalition 192 = .ok (.ifCond .ne 8, 3) := by decide +kernel
theorem dX12_coalition_195 : decode cX12_coalition 195 = .ok (.iload 4, 2) := by decide +kernel
theorem dX12_coalition_197 : decode cX12_coalition 197 = .ok (.goto 28, 3) := by decide +kernel
theorem dX12_coalition_200 : decode cX12_coalition 200 = .ok (.iload_n 2, 1) := by decide +kernel
theorem dX12_coalition_201 : decode cX12_coalition 201 = .ok (.iconst 1, 1) := by decide +kernel
theorem dX12_coalition_202 : decode cX12_coalition 202 = .ok (.if_icmp .ne 12, 3) := by decide +kernel
theorem dX12_coalition_205 : decode cX12_coalition 205 = .ok (.aload_n 0, 1) := by decide +kernel
theorem dX12_coalition_206 : decode cX12_coalition 206 = .ok (.iload 4, 2) := by decide +kernel
theorem dX12_coalition_208 : decode cX12_coalition 208 = .ok (.invokevirtual 347, 3) := by decide +kernel
theorem dX12_coalition_211 : decode cX12_coalition 211 = .ok (.goto 14, 3) := by decide +kernel
theorem dX12_coalition_214 : decode cX12_coalition 214 = .ok (.aload_n 0, 1) := by decide +kernel
theorem dX12_coalition_215 : decode cX12_coalition 215 = .ok (.aload_n 0, 1) := by decide +kernel
theorem dX12_coalition_216 : decode cX12_coalition 216 = .ok (.iload 4, 2) := by decide +kernel
theorem dX12_coalition_218 : decode cX12_coalition 218 = .ok (.invokevirtual 344, 3) := by decide +kernel
theorem dX12_coalition_221 : decode cX12_coalition 221 = .ok (.iconst (-1), 1) := by decide +kernel
theorem dX12_coalition_222 : decode cX12_coalition 222 = .ok (.invokevirtual 261, 3) := by decide +kernel
theorem dX12_coalition_225 : decode cX12_coalition 225 = .ok (.ireturn, 1) := by decide +kernel
set_option maxRecDepth 20000 in
theorem ggX12_value_X12_isIn : GoodIn wsX12_value wsX12_isIn := goodIn_r _ [7] (by decide +kernel) (by decide +kernel)
set_option maxRecDepth 20000 in
theorem gX12_value_X12_isIn : GoodIn wsX12_value (wsV RX12 121 RX12 yX12_isIn wsX12_isIn) := goodIn_app (goodIn_of _ (by decide +kernel)) ggX12_value_X12_isIn
theorem dX12_value_0 : decode cX12_value 0 = .ok (.aload_n 0, 1) := by decide +kernel
theorem dX12_value_1 : decode cX12_value 1 = .ok (.iconst 0, 1) := by decide +kernel
theorem dX12_value_2 : decode cX12_value 2 = .ok (.putfield 115, 3) := by decide +kernel
theorem dX12_value_5 : decode cX12_value 5 = .ok (.aload_n 0, 1) := by decide +kernel
theorem dX12_value_6 : decode cX12_value 6 = .ok (.iload_n 1, 1) := by decide +kernel
theorem dX12_value_7 : decode cX12_value 7 = .ok (.iconst 0, 1) := by decide +kernel
theorem dX12_value_8 : decode cX12_value 8 = .ok (.bipush 7, 2) := by decide +kernel
theorem dX12_value_10 : decode cX12_value 10 = .ok (.invokevirtual 121, 3) := by decide +kernel
theorem dX12_value_13 : decode cX12_value 13 = .ok (.ifCond .eq 24, 3) := by decide +kernel
theorem dX12_value_16 : decode cX12_value 16 = .ok (.aload_n 0, 1) := by decide +kernel
theorem dX12_value_17 : decode cX12_value 17 = .ok (.iload_n 2, 1) := by decide +kernel
theorem dX12_value_18 : decode cX12_value 18 = .ok (.iconst 0, 1) := by decide +kernel
theorem dX12_value_19 : decode cX12_value 19 = .ok (.iconst 5, 1) := by decide +kernel
theorem dX12_value_20 : decode cX12_value 20 = .ok (.invokevirtual 121, 3) := by decide +kernel
theorem dX12_value_23 : decode cX12_value 23 = .ok (.ifCond .eq 14, 3) := by decide +kernel
theorem dX12_value_26 : decode cX12_value 26 = .ok (.aload_n 0, 1) := by decide +kernel
theorem dX12_value_27 : decode cX12_value 27 = .ok (.iload_n 3, 1) := by decide +kernel
theorem dX12_value_28 : decode cX12_value 28 = .ok (.iconst 0, 1) := by decide +kernel
theorem dX12_value_29 : decode cX12_value 29 = .ok (.bipush 99, 2) := by decide +kernel
theorem dX12_value_31 : decode cX12_value 31 = .ok (.invokevirtual 121, 3) := by decide +kernel
theorem dX12_value_34 : decode cX12_value 34 = .ok (.ifCond .ne 5, 3) := by decide +kernel
theorem dX12_value_37 : decode cX12_value 37 = .ok (.iconst 0, 1) := by decide +kernel
theorem dX12_value_38 : decode cX12_value 38 = .ok (.ireturn, 1) := by decide +kernel
theorem dX12_value_39 : decode cX12_value 39 = .ok (.aload_n 0, 1) := by decide +kernel
theorem dX12_value_40 : decode cX12_value 40 = .ok (.getfield 94, 3) := by decide +kernel
theorem dX12_value_43 : decode cX12_value 43 = .ok (.bipush 6, 2) := by decide +kernel
theorem dX12_value_45 : decode cX12_value 45 = .ok (.iload_n 1, 1) := by decide +kernel
theorem dX12_value_46 : decode cX12_value 46 = .ok (.imul, 1) := by decide +kernel
theorem dX12_value_47 : decode cX12_value 47 = .ok (.iload_n 2, 1) := by decide +kernel
theorem dX12_value_48 : decode cX12_value 48 = .ok (.iadd, 1) := by decide +kernel
theorem dX12_value_49 : decode cX12_value 49 = .ok (.iload_n 3, 1) := by decide +kernel
theorem dX12_value_50 : decode cX12_value 50 = .ok (.iastore, 1) := by decide +kernel
theorem dX12_value_51 : decode cX12_value 51 = .ok (.iconst 1, 1) := by decide +kernel
theorem dX12_value_52 : decode cX12_value 52 = .ok (.ireturn, 1) := by decide +kernel
set_option maxRecDepth 20000 in
theorem ggX12_findChoosers_X12_membersOf : GoodIn wsX12_findChoosers wsX12_membersOf := goodIn_r _ [8, 9, 10, 11, 12, 13, 14, 7, 15, 21, 22, 23, 24, 25, 26, 27, 28, 29, 30, 31, 32, 33, 34, 35, 36, 37, 38, 39, 40, 41, 42, 43, 44, 45, 46, 47, 48, 49, 50, 51, 52, 53, 54, 55, 56, 57, 58, 59, 60, 61, 62, 63, 64, 65, 66, 67, 68, 69, 70, 71, 72] (by decide +kernel) (by decide +kernel)
set_option maxRecDepth 20000 in
theorem gX12_findChoosers_X12_membersOf : GoodIn wsX12_findChoosers (wsV RX12 344 RX12 yX12_membersOf wsX12_membersOf) := goodIn_app (goodIn_of _ (by decide +kernel)) ggX12_findChoosers_X12_membersOf
set_option maxRecDepth 20000 in
theorem ggX12_findChoosers_X12_weightOf : GoodIn wsX12_findChoosers wsX12_weightOf := goodIn_r _ [19, 9, 11, 20, 12, 13, 14, 7, 15, 21, 22, 23, 24, 25, 26, 27, 28, 29, 30, 31, 32, 33, 34, 35, 36, 37, 38, 39, 40, 41, 42, 43, 44, 45, 46, 47, 48, 49, 50, 51, 52, 53, 54, 55, 56, 57, 58, 59, 60, 61, 62, 63, 64, 65, 66, 67, 68, 69, 70, 71, 72] (by decide +kernel) (by decide +kernel)
set_option maxRecDepth 20000 in
theorem gX12_findChoosers_X12_weightOf : GoodIn wsX12_findChoosers (wsV RX12 261 RX12 yX12_weightOf wsX12_weightOf) := goodIn_app (goodIn_of _ (by decide +kernel)) ggX12_findChoosers_X12_weightOf
set_option maxRecDepth 20000 in
theorem ggX12_findChoosers_X12_isOf : GoodIn wsX12_findChoosers wsX12_isOf := goodIn_r _ [15] (by decide +kernel) (by decide +kernel)
set_option maxRecDepth 20000 in
theorem gX12_findChoosers_X12_isOf : GoodIn wsX12_findChoosers (wsV RX12 151 RX12 yX12_isOf wsX12_isOf) := goodIn_app (goodIn_of _ (by decide +kernel)) ggX12_findChoosers_X12_isOf
theorem dX12_findChoosers_0 : decode cX12_findChoosers 0 = .ok (.iconst 0, 1) := by decide +kernel
theorem dX12_findChoosers_1 : decode cX12_findChoosers 1 = .ok (.istore 4, 2) := by decide +kernel
theorem dX12_findChoosers_3 : decode cX12_findChoosers 3 = .ok (.iload 4, 2) := by decide +kernel
theorem dX12_findChoosers_5 : decode cX12_findChoosers 5 = .ok (.bipush 6, 2) := by decide +kernel
theorem dX12_findChoosers_7 : decode cX12_findChoosers 7 = .ok (.if_icmp .ge 37, 3) := by decide +kernel
theorem dX12_findChoosers_10 : decode cX12_findChoosers 10 = .ok (.aload_n 0, 1) := by decide +kernel
theorem dX12_findChoosers_11 : decode cX12_findChoosers 11 = .ok (.getfield 100, 3) := by decide +kernel
theorem dX12_findChoosers_14 : decode cX12_findChoosers 14 = .ok (.iload 4, 2) := by decide +kernel
theorem dX12_findChoosers_16 : decode cX12_findChoosers 16 = .ok (.iconst 0, 1) := by decide +kernel
theorem dX12_findChoosers_17 : decode cX12_findChoosers 17 = .ok (.iastore, 1) := by decide +kernel
theorem dX12_findChoosers_18 : decode cX12_findChoosers 18 = .ok (.aload_n 0, 1) := by decide +kernel
theorem dX12_findChoosers_19 : decode cX12_findChoosers 19 = .ok (.getfield 91, 3) := by decide +kernel
theorem dX12_findChoosers_22 : decode cX12_findChoosers 22 = .ok (.iload 4, 2) := by decide +kernel
theorem dX12_findChoosers_24 : decode cX12_findChoosers 24 = .ok (.aload_n 0, 1) := by decide +kernel
theorem dX12_findChoosers_25 : decode cX12_findChoosers 25 = .ok (.aload_n 0, 1) := by decide +kernel
theorem dX12_findChoosers_26 : decode cX12_findChoosers 26 = .ok (.iconst 1, 1) := by decide +kernel
theorem dX12_findChoosers_27 : decode cX12_findChoosers 27 = .ok (.iload 4, 2) := by decide +kernel
theorem dX12_findChoosers_29 : decode cX12_findChoosers 29 = .ok (.ishl, 1) := by decide +kernel
theorem dX12_findChoosers_30 : decode cX12_findChoosers 30 = .ok (.invokevirtual 344, 3) := by decide +kernel
theorem dX12_findChoosers_33 : decode cX12_findChoosers 33 = .ok (.iconst (-1), 1) := by decide +kernel
theorem dX12_findChoosers_34 : decode cX12_findChoosers 34 = .ok (.invokevirtual 261, 3) := by decide +kernel
theorem dX12_findChoosers_37 : decode cX12_findChoosers 37 = .ok (.iastore, 1) := by decide +kernel
theorem dX12_findChoosers_38 : decode cX12_findChoosers 38 = .ok (.iinc 4 1, 3) := by decide +kernel
theorem dX12_findChoosers_41 : decode cX12_findChoosers 41 = .ok (.goto (-38), 3) := by decide +kernel
theorem dX12_findChoosers_44 : decode cX12_findChoosers 44 = .ok (.iconst 0, 1) := by decide +kernel
theorem dX12_findChoosers_45 : decode cX12_findChoosers 45 = .ok (.istore 4, 2) := by decide +kernel
theorem dX12_findChoosers_47 : decode cX12_findChoosers 47 = .ok (.iload 4, 2) := by decide +kernel
theorem dX12_findChoosers_49 : decode cX12_findChoosers 49 = .ok (.iload_n 2, 1) := by decide +kernel
theorem dX12_findChoosers_50 : decode cX12_findChoosers 50 = .ok (.if_icmp .ge 188, 3) := by decide +kernel
theorem dX12_findChoosers_53 : decode cX12_findChoosers 53 = .ok (.iconst (-1), 1) := by decide +kernel
theorem dX12_findChoosers_54 : decode cX12_findChoosers 54 = .ok (.istore 5, 2) := by decide +kernel
theorem dX12_findChoosers_56 : decode cX12_findChoosers 56 = .ok (.iconst 0, 1) := by decide +kernel
theorem dX12_findChoosers_57 : decode cX12_findChoosers 57 = .ok (.istore 6, 2) := by decide +kernel
theorem dX12_findChoosers_59 : decode cX12_findChoosers 59 = .ok (.iload 6, 2) := by decide +kernel
theorem dX12_findChoosers_61 : decode cX12_findChoosers 61 = .ok (.bipush 6, 2) := by decide +kernel
theorem dX12_findChoosers_63 : decode cX12_findChoosers 63 = .ok (.if_icmp .ge 144, 3) := by decide +kernel
theorem dX12_findChoosers_66 : decode cX12_findChoosers 66 = .ok (.aload_n 0, 1) := by decide +kernel
theorem dX12_findChoosers_67 : decode cX12_findChoosers 67 = .ok (.iload_n 1, 1) := by decide +kernel
theorem dX12_findChoosers_68 : decode cX12_findChoosers 68 = .ok (.iload 6, 2) := by decide +kernel
theorem dX12_findChoosers_70 : decode cX12_findChoosers 70 = .ok (.invokevirtual 151, 3) := by decide +kernel
theorem dX12_findChoosers_73 : decode cX12_findChoosers 73 = .ok (.ifCond .ne 6, 3) := by decide +kernel
theorem dX12_findChoosers_76 : decode cX12_findChoosers 76 = .ok (.goto 125, 3) := by decide +kernel
theorem dX12_findChoosers_79 : decode cX12_findChoosers 79 = .ok (.iload 5, 2) := by decide +kernel
theorem dX12_findChoosers_81 : decode cX12_findChoosers 81 = .ok (.iconst (-1), 1) := by decide +kernel
theorem dX12_findChoosers_82 : decode cX12_findChoosers 82 = .ok (.if_icmp .ne 10, 3) := by decide +kernel
theorem dX12_findChoosers_85 : decode cX12_findChoosers 85 = .ok (.iload 6, 2) := by decide +kernel
theorem dX12_findChoosers_87 : decode cX12_findChoosers 87 = .ok (.istore 5, 2) := by decide +kernel
theorem dX12_findChoosers_89 : decode cX12_findChoosers 89 = .ok (.goto 112, 3) := by decide +kernel
theorem dX12_findChoosers_92 : decode cX12_findChoosers 92 = .ok (.aload_n 0, 1) := by decide +kernel
theorem dX12_findChoosers_93 : decode cX12_findChoosers 93 = .ok (.getfield 91, 3) := by decide +kernel
theorem dX12_findChoosers_96 : decode cX12_findChoosers 96 = .ok (.iload 6, 2) := by decide +kernel
theorem dX12_findChoosers_98 : decode cX12_findChoosers 98 = .ok (.iaload, 1) := by decide +kernel
theorem dX12_findChoosers_99 : decode cX12_findChoosers 99 = .ok (.iload_n 3, 1) := by decide +kernel
theorem dX12_findChoosers_100 : decode cX12_findChoosers 100 = .ok (.ifCond .ne 15, 3) := by decide +kernel
theorem dX12_findChoosers_103 : decode cX12_findChoosers 103 = .ok (.aload_n 0, 1) := by decide +kernel
theorem dX12_findChoosers_104 : decode cX12_findChoosers 104 = .ok (.getfield 100, 3) := by decide +kernel
theorem dX12_findChoosers_107 : decode cX12_findChoosers 107 = .ok (.iload 5, 2) := by decide +kernel
theorem dX12_findChoosers_109 : decode cX12_findChoosers 109 = .ok (.iaload, 1) := by decide +kernel
theorem dX12_findChoosers_110 : decode cX12_findChoosers 110 = .ok (.iconst 1, 1) := by decide +kernel
theorem dX12_findChoosers_111 : decode cX12_findChoosers 111 = .ok (.iadd, 1) := by decide +kernel
theorem dX12_findChoosers_112 : decode cX12_findChoosers 112 = .ok (.goto 14, 3) := by decide +kernel
theorem dX12_findChoosers_115 : decode cX12_findChoosers 115 = .ok (.iconst 2, 1) := by decide +kernel
theorem dX12_findChoosers_116 : decode cX12_findChoosers 116 = .ok (.aload_n 0, 1) := by decide +kernel
theorem dX12_findChoosers_117 : decode cX12_findChoosers 117 = .ok (.getfield 100, 3) := by decide +kernel
theorem dX12_findChoosers_120 : decode cX12_findChoosers 120 = .ok (.iload 5, 2) := by decide +kernel
theorem dX12_findChoosers_122 : decode cX12_findChoosers 122 = .ok (.iaload, 1) := by decide +kernel
theorem dX12_findChoosers_123 : decode cX12_findChoosers 123 = .ok (.imul, 1) := by decide +kernel
theorem dX12_findChoosers_124 : decode cX12_findChoosers 124 = .ok (.iconst 1, 1) := by decide +kernel
theorem dX12_findChoosers_125 : decode cX12_findChoosers 125 = .ok (.iadd, 1) := by decide +kernel
theorem dX12_findChoosers_126 : decode cX12_findChoosers 126 = .ok (.imul, 1) := by decide +kernel
theorem dX12_findChoosers_127 : decode cX12_findChoosers 127 = .ok (.istore 7, 2) := by decide +kernel
theorem dX12_findChoosers_129 : decode cX12_findChoosers 129 = .ok (.aload_n 0, 1) := by decide +kernel
theorem dX12_findChoosers_130 : decode cX12_findChoosers 130 = .ok (.getfield 91, 3) := by decide +kernel
theorem dX12_findChoosers_133 : decode cX12_findChoosers 133 = .ok (.iload 5, 2) := by decide +kernel
theorem dX12_findChoosers_135 : decode cX12_findChoosers 135 = .ok (.iaload, 1) := by decide +kernel
theorem dX12_findChoosers_136 : decode cX12_findChoosers 136 = .ok (.iload_n 3, 1) := by decide +kernel
theorem dX12_findChoosers_137 : decode cX12_findChoosers 137 = .ok (.ifCond .ne 15, 3) := by decide +kernel
theorem dX12_findChoosers_140 : decode cX12_findChoosers 140 = .ok (.aload_n 0, 1) := by decide +kernel
theorem dX12_findChoosers_141 : decode cX12_findChoosers 141 = .ok (.getfield 100, 3) := by decide +kernel
theorem dX12_findChoosers_144 : decode cX12_findChoosers 144 = .ok (.iload 6, 2) := by decide +kernel
theorem dX12_findChoosers_146 : decode cX12_findChoosers 146 = .ok (.iaload, 1) := by decide +kernel
theorem dX12_findChoosers_147 : decode cX12_findChoosers 147 = .ok (.iconst 1, 1) := by decide +kernel
theorem dX12_findChoosers_148 : decode cX12_findChoosers 148 = .ok (.iadd, 1) := by decide +kernel
theorem dX12_findChoosers_149 : decode cX12_findChoosers 149 = .ok (.goto 14, 3) := by decide +kernel
theorem dX12_findChoosers_152 : decode cX12_findChoosers 152 = .ok (.iconst 2, 1) := by decide +kernel
theorem dX12_findChoosers_153 : decode cX12_findChoosers 153 = .ok (.aload_n 0, 1) := by decide +kernel
theorem dX12_findChoosers_154 : decode cX12_findChoosers 154 = .ok (.getfield 100, 3) := by decide +kernel
theorem dX12_findChoosers_157 : decode cX12_findChoosers 157 = .ok (.iload 6, 2) := by decide +kernel
theorem dX12_findChoosers_159 : decode cX12_findChoosers 159 = .ok (.iaload, 1) := by decide +kernel
theorem dX12_findChoosers_160 : decode cX12_findChoosers 160 = .ok (.imul, 1) := by decide +kernel
theorem dX12_findChoosers_161 : decode cX12_findChoosers 161 = .ok (.iconst 1, 1) := by decide +kernel
theorem dX12_findChoosers_162 : decode cX12_findChoosers 162 = .ok (.iadd, 1) := by decide +kernel
theorem dX12_findChoosers_163 : decode cX12_findChoosers 163 = .ok (.imul, 1) := by decide +kernel
theorem dX12_findChoosers_164 : decode cX12_findChoosers 164 = .ok (.istore 8, 2) := by decide +kernel
theorem dX12_findChoosers_166 : decode cX12_findChoosers 166 = .ok (.iload 7, 2) := by decide +kernel
theorem dX12_findChoosers_168 : decode cX12_findChoosers 168 = .ok (.iload 8, 2) := by decide +kernel
theorem dX12_findChoosers_170 : decode cX12_findChoosers 170 = .ok (.if_icmp .gt 27, 3) := by decide +kernel
theorem dX12_findChoosers_173 : decode cX12_findChoosers 173 = .ok (.iload 7, 2) := by decide +kernel
theorem dX12_findChoosers_175 : decode cX12_findChoosers 175 = .ok (.iload 8, 2) := by decide +kernel
theorem dX12_findChoosers_177 : decode cX12_findChoosers 177 = .ok (.if_icmp .ne 24, 3) := by decide +kernel
theorem dX12_findChoosers_180 : decode cX12_findChoosers 180 = .ok (.aload_n 0, 1) := by decide +kernel
theorem dX12_findChoosers_181 : decode cX12_findChoosers 181 = .ok (.getfield 91, 3) := by decide +kernel
theorem dX12_findChoosers_184 : decode cX12_findChoosers 184 = .ok (.iload 6, 2) := by decide +kernel
theorem dX12_findChoosers_186 : decode cX12_findChoosers 186 = .ok (.iaload, 1) := by decide +kernel
theorem dX12_findChoosers_187 : decode cX12_findChoosers 187 = .ok (.aload_n 0, 1) := by decide +kernel
theorem dX12_findChoosers_188 : decode cX12_findChoosers 188 = .ok (.getfield 91, 3) := by decide +kernel
theorem dX12_findChoosers_191 : decode cX12_findChoosers 191 = .ok (.iload 5, 2) := by decide +kernel
theorem dX12_findChoosers_193 : decode cX12_findChoosers 193 = .ok (.iaload, 1) := by decide +kernel
theorem dX12_findChoosers_194 : decode cX12_findChoosers 194 = .ok (.if_icmp .le 7, 3) := by decide +kernel
theorem dX12_findChoosers_197 : decode cX12_findChoosers 197 = .ok (.iload 6, 2) := by decide +kernel
theorem dX12_findChoosers_199 : decode cX12_findChoosers 199 = .ok (.istore 5, 2) := by decide +kernel
theorem dX12_findChoosers_201 : decode cX12_findChoosers 201 = .ok (.iinc 6 1, 3) := by decide +kernel
theorem dX12_findChoosers_204 : decode cX12_findChoosers 204 = .ok (.goto (-145), 3) := by decide +kernel
theorem dX12_findChoosers_207 : decode cX12_findChoosers 207 = .ok (.aload_n 0, 1) := by decide +kernel
theorem dX12_findChoosers_208 : decode cX12_findChoosers 208 = .ok (.getfield 97, 3) := by decide +kernel
theorem dX12_findChoosers_211 : decode cX12_findChoosers 211 = .ok (.iload 4, 2) := by decide +kernel
theorem dX12_findChoosers_213 : decode cX12_findChoosers 213 = .ok (.iload 5, 2) := by decide +kernel
theorem dX12_findChoosers_215 : decode cX12_findChoosers 215 = .ok (.iastore, 1) := by decide +kernel
theorem dX12_findChoosers_216 : decode cX12_findChoosers 216 = .ok (.aload_n 0, 1) := by decide +kernel
theorem dX12_findChoosers_217 : decode cX12_findChoosers 217 = .ok (.getfield 100, 3) := by decide +kernel
theorem dX12_findChoosers_220 : decode cX12_findChoosers 220 = .ok (.iload 5, 2) := by decide +kernel
theorem dX12_findChoosers_222 : decode cX12_findChoosers 222 = .ok (.aload_n 0, 1) := by decide +kernel
theorem dX12_findChoosers_223 : decode cX12_findChoosers 223 = .ok (.getfield 100, 3) := by decide +kernel
theorem dX12_findChoosers_226 : decode cX12_findChoosers 226 = .ok (.iload 5, 2) := by decide +kernel
theorem dX12_findChoosers_228 : decode cX12_findChoosers 228 = .ok (.iaload, 1) := by decide +kernel
theorem dX12_findChoosers_229 : decode cX12_findChoosers 229 = .ok (.iconst 1, 1) := by decide +kernel
theorem dX12_findChoosers_230 : decode cX12_findChoosers 230 = .ok (.iadd, 1) := by decide +kernel
theorem dX12_findChoosers_231 : decode cX12_findChoosers 231 = .ok (.iastore, 1) := by decide +kernel
theorem dX12_findChoosers_232 : decode cX12_findChoosers 232 = .ok (.iinc 4 1, 3) := by decide +kernel
theorem dX12_findChoosers_235 : decode cX12_findChoosers 235 = .ok (.goto (-188), 3) := by decide +kernel
theorem dX12_findChoosers_238 : decode cX12_findChoosers 238 = .ok (.return_, 1) := by decide +kernel
set_option maxRecDepth 20000 in
theorem ggX12_findGets_X12_ones : GoodIn wsX12_findGets wsX12_ones := goodIn_r _ [9] (by decide +kernel) (by decide +kernel)
set_option maxRecDepth 20000 in
theorem gX12_findGets_X12_ones : GoodIn wsX12_findGets (wsV RX12 291 RX12 yX12_ones wsX12_ones) := goodIn_app (goodIn_of _ (by decide +kernel)) ggX12_findGets_X12_ones
set_option maxRecDepth 20000 in
theorem ggX12_findGets_X12_isOf : GoodIn wsX12_findGets wsX12_isOf := goodIn_r _ [13] (by decide +kernel) (by decide +kernel)
set_option maxRecDepth 20000 in
theorem gX12_findGets_X12_isOf : GoodIn wsX12_findGets (wsV RX12 151 RX12 yX12_isOf wsX12_isOf) := goodIn_app (goodIn_of _ (by decide +kernel)) ggX12_findGets_X12_isOf
theorem dX12_findGets_0 : decode cX12_findGets 0 = .ok (.iconst 0, 1) := by decide +kernel
theorem dX12_findGets_1 : decode cX12_findGets 1 = .ok (.istore_n 3, 1) := by decide +kernel
theorem dX12_findGets_2 : decode cX12_findGets 2 = .ok (.iload_n 3, 1) := by decide +kernel
theorem dX12_findGets_3 : decode cX12_findGets 3 = .ok (.iload_n 1, 1) := by decide +kernel
theorem dX12_findGets_4 : decode cX12_findGets 4 = .ok (.if_icmp .gt 231, 3) := by decide +kernel
theorem dX12_findGets_7 : decode cX12_findGets 7 = .ok (.iload_n 3, 1) := by decide +kernel
theorem dX12_findGets_8 : decode cX12_findGets 8 = .ok (.iload_n 1, 1) := by decide +kernel
theorem dX12_findGets_9 : decode cX12_findGets 9 = .ok (.iconst (-1), 1) := by decide +kernel
theorem dX12_findGets_10 : decode cX12_findGets 10 = .ok (.ixor, 1) := by decide +kernel
theorem dX12_findGets_11 : decode cX12_findGets 11 = .ok (.iand, 1) := by decide +kernel
theorem dX12_findGets_12 : decode cX12_findGets 12 = .ok (.ifCond .eq 6, 3) := by decide +kernel
theorem dX12_findGets_15 : decode cX12_findGets 15 = .ok (.goto 214, 3) := by decide +kernel
theorem dX12_findGets_18 : decode cX12_findGets 18 = .ok (.iconst 0, 1) := by decide +kernel
theorem dX12_findGets_19 : decode cX12_findGets 19 = .ok (.istore 4, 2) := by decide +kernel
theorem dX12_findGets_21 : decode cX12_findGets 21 = .ok (.iload 4, 2) := by decide +kernel
theorem dX12_findGets_23 : decode cX12_findGets 23 = .ok (.bipush 6, 2) := by decide +kernel
theorem dX12_findGets_25 : decode cX12_findGets 25 = .ok (.if_icmp .ge 22, 3) := by decide +kernel
theorem dX12_findGets_28 : decode cX12_findGets 28 = .ok (.aload_n 0, 1) := by decide +kernel
theorem dX12_findGets_29 : decode cX12_findGets 29 = .ok (.getfield 103, 3) := by decide +kernel
theorem dX12_findGets_32 : decode cX12_findGets 32 = .ok (.bipush 6, 2) := by decide +kernel
theorem dX12_findGets_34 : decode cX12_findGets 34 = .ok (.iload_n 3, 1) := by decide +kernel
theorem dX12_findGets_35 : decode cX12_findGets 35 = .ok (.imul, 1) := by decide +kernel
theorem dX12_findGets_36 : decode cX12_findGets 36 = .ok (.iload 4, 2) := by decide +kernel
theorem dX12_findGets_38 : decode cX12_findGets 38 = .ok (.iadd, 1) := by decide +kernel
theorem dX12_findGets_39 : decode cX12_findGets 39 = .ok (.iconst 0, 1) := by decide +kernel
theorem dX12_findGets_40 : decode cX12_findGets 40 = .ok (.iastore, 1) := by decide +kernel
theorem dX12_findGets_41 : decode cX12_findGets 41 = .ok (.iinc 4 1, 3) := by decide +kernel
theorem dX12_findGets_44 : decode cX12_findGets 44 = .ok (.goto (-23), 3) := by decide +kernel
theorem dX12_findGets_47 : decode cX12_findGets 47 = .ok (.aload_n 0, 1) := by decide +kernel
theorem dX12_findGets_48 : decode cX12_findGets 48 = .ok (.getfield 106, 3) := by decide +kernel
theorem dX12_findGets_51 : decode cX12_findGets 51 = .ok (.iload_n 3, 1) := by decide +kernel
theorem dX12_findGets_52 : decode cX12_findGets 52 = .ok (.iconst (-1), 1) := by decide +kernel
theorem dX12_findGets_53 : decode cX12_findGets 53 = .ok (.iastore, 1) := by decide +kernel
theorem dX12_findGets_54 : decode cX12_findGets 54 = .ok (.iload_n 3, 1) := by decide +kernel
theorem dX12_findGets_55 : decode cX12_findGets 55 = .ok (.ifCond .ne 6, 3) := by decide +kernel
theorem dX12_findGets_58 : decode cX12_findGets 58 = .ok (.goto 171, 3) := by decide +kernel
theorem dX12_findGets_61 : decode cX12_findGets 61 = .ok (.aload_n 0, 1) := by decide +kernel
theorem dX12_findGets_62 : decode cX12_findGets 62 = .ok (.getfield 97, 3) := by decide +kernel
theorem dX12_findGets_65 : decode cX12_findGets 65 = .ok (.iload_n 2, 1) := by decide +kernel
theorem dX12_findGets_66 : decode cX12_findGets 66 = .ok (.aload_n 0, 1) := by decide +kernel
theorem dX12_findGets_67 : decode cX12_findGets 67 = .ok (.iload_n 3, 1) := by decide +kernel
theorem dX12_findGets_68 : decode cX12_findGets 68 = .ok (.invokevirtual 291, 3) := by decide +kernel
theorem dX12_findGets_71 : decode cX12_findGets 71 = .ok (.isub, 1) := by decide +kernel
theorem dX12_findGets_72 : decode cX12_findGets 72 = .ok (.iaload, 1) := by decide +kernel
theorem dX12_findGets_73 : decode cX12_findGets 73 = .ok (.istore 4, 2) := by decide +kernel
theorem dX12_findGets_75 : decode cX12_findGets 75 = .ok (.iconst (-1), 1) := by decide +kernel
theorem dX12_findGets_76 : decode cX12_findGets 76 = .ok (.istore 5, 2) := by decide +kernel
theorem dX12_findGets_78 : decode cX12_findGets 78 = .ok (.iconst 0, 1) := by decide +kernel
theorem dX12_findGets_79 : decode cX12_findGets 79 = .ok (.istore 6, 2) := by decide +kernel
theorem dX12_findGets_81 : decode cX12_findGets 81 = .ok (.iload 6, 2) := by decide +kernel
theorem dX12_findGets_83 : decode cX12_findGets 83 = .ok (.bipush 8, 2) := by decide +kernel
theorem dX12_findGets_85 : decode cX12_findGets 85 = .ok (.if_icmp .ge 79, 3) := by decide +kernel
theorem dX12_findGets_88 : decode cX12_findGets 88 = .ok (.aload_n 0, 1) := by decide +kernel
theorem dX12_findGets_89 : decode cX12_findGets 89 = .ok (.iload_n 3, 1) := by decide +kernel
theorem dX12_findGets_90 : decode cX12_findGets 90 = .ok (.iload 6, 2) := by decide +kernel
theorem dX12_findGets_92 : decode cX12_findGets 92 = .ok (.invokevirtual 151, 3) := by decide +kernel
theorem dX12_findGets_95 : decode cX12_findGets 95 = .ok (.ifCond .ne 6, 3) := by decide +kernel
theorem dX12_findGets_98 : decode cX12_findGets 98 = .ok (.goto 60, 3) := by decide +kernel
theorem dX12_findGets_101 : decode cX12_findGets 101 = .ok (.aload_n 0, 1) := by decide +kernel
theorem dX12_findGets_102 : decode cX12_findGets 102 = .ok (.getfield 94, 3) := by decide +kernel
theorem dX12_findGets_105 : decode cX12_findGets 105 = .ok (.bipush 6, 2) := by decide +kernel
theorem dX12_findGets_107 : decode cX12_findGets 107 = .ok (.iload 6, 2) := by decide +kernel
theorem dX12_findGets_109 : decode cX12_findGets 109 = .ok (.imul, 1) := by decide +kernel
theorem dX12_findGets_110 : decode cX12_findGets 110 = .ok (.iload 4, 2) := by decide +kernel
theorem dX12_findGets_112 : decode cX12_findGets 112 = .ok (.iadd, 1) := by decide +kernel
theorem dX12_findGets_113 : decode cX12_findGets 113 = .ok (.iaload, 1) := by decide +kernel
theorem dX12_findGets_114 : decode cX12_findGets 114 = .ok (.aload_n 0, 1) := by decide +kernel
theorem dX12_findGets_115 : decode cX12_findGets 115 = .ok (.getfield 103, 3) := by decide +kernel
theorem dX12_findGets_118 : decode cX12_findGets 118 = .ok (.bipush 6, 2) := by decide +kernel
theorem dX12_findGets_120 : decode cX12_findGets 120 = .ok (.iload_n 3, 1) := by decide +kernel
theorem dX12_findGets_121 : decode cX12_findGets 121 = .ok (.iconst 1, 1) := by decide +kernel
theorem dX12_findGets_122 : decode cX12_findGets 122 = .ok (.iload 6, 2) := by decide +kernel
theorem dX12_findGets_124 : decode cX12_findGets 124 = .ok (.ishl, 1) := by decide +kernel
theorem dX12_findGets_125 : decode cX12_findGets 125 = .ok (.iconst (-1), 1) := by decide +kernel
theorem dX12_findGets_126 : decode cX12_findGets 126 = .ok (.ixor, 1) := by decide +kernel
theorem dX12_findGets_127 : decode cX12_findGets 127 = .ok (.iand, 1) := by decide +kernel
theorem dX12_findGets_128 : decode cX12_findGets 128 = .ok (.imul, 1) := by decide +kernel
theorem dX12_findGets_129 : decode cX12_findGets 129 = .ok (.iload 4, 2) := by decide +kernel
theorem dX12_findGets_131 : decode cX12_findGets 131 = .ok (.iadd, 1) := by decide +kernel
theorem dX12_findGets_132 : decode cX12_findGets 132 = .ok (.iaload, 1) := by decide +kernel
theorem dX12_findGets_133 : decode cX12_findGets 133 = .ok (.iadd, 1) := by decide +kernel
theorem dX12_findGets_134 : decode cX12_findGets 134 = .ok (.istore 7, 2) := by decide +kernel
theorem dX12_findGets_136 : decode cX12_findGets 136 = .ok (.iload 7, 2) := by decide +kernel
theorem dX12_findGets_138 : decode cX12_findGets 138 = .ok (.iload 5, 2) := by decide +kernel
theorem dX12_findGets_140 : decode cX12_findGets 140 = .ok (.if_icmp .gt 6, 3) := by decide +kernel
theorem dX12_findGets_143 : decode cX12_findGets 143 = .ok (.goto 15, 3) := by decide +kernel
theorem dX12_findGets_146 : decode cX12_findGets 146 = .ok (.iload 7, 2) := by decide +kernel
theorem dX12_findGets_148 : decode cX12_findGets 148 = .ok (.istore 5, 2) := by decide +kernel
theorem dX12_findGets_150 : decode cX12_findGets 150 = .ok (.aload_n 0, 1) := by decide +kernel
theorem dX12_findGets_151 : decode cX12_findGets 151 = .ok (.getfield 106, 3) := by decide +kernel
theorem dX12_findGets_154 : decode cX12_findGets 154 = .ok (.iload_n 3, 1) := by decide +kernel
theorem dX12_findGets_155 : decode cX12_findGets 155 = .ok (.iload 6, 2) := by decide +kernel
theorem dX12_findGets_157 : decode cX12_findGets 157 = .ok (.iastore, 1) := by decide +kernel
theorem dX12_findGets_158 : decode cX12_findGets 158 = .ok (.iinc 6 1, 3) := by decide +kernel
theorem dX12_findGets_161 : decode cX12_findGets 161 = .ok (.goto (-80), 3) := by decide +kernel
theorem dX12_findGets_164 : decode cX12_findGets 164 = .ok (.iconst 0, 1) := by decide +kernel
theorem dX12_findGets_165 : decode cX12_findGets 165 = .ok (.istore 6, 2) := by decide +kernel
theorem dX12_findGets_167 : decode cX12_findGets 167 = .ok (.iload 6, 2) := by decide +kernel
theorem dX12_findGets_169 : decode cX12_findGets 169 = .ok (.bipush 6, 2) := by decide +kernel
theorem dX12_findGets_171 : decode cX12_findGets 171 = .ok (.if_icmp .ge 44, 3) := by decide +kernel
theorem dX12_findGets_174 : decode cX12_findGets 174 = .ok (.aload_n 0, 1) := by decide +kernel
theorem dX12_findGets_175 : decode cX12_findGets 175 = .ok (.getfield 103, 3) := by decide +kernel
theorem dX12_findGets_178 : decode cX12_findGets 178 = .ok (.bipush 6, 2) := by decide +kernel
theorem dX12_findGets_180 : decode cX12_findGets 180 = .ok (.iload_n 3, 1) := by decide +kernel
theorem dX12_findGets_181 : decode cX12_findGets 181 = .ok (.imul, 1) := by decide +kernel
theorem dX12_findGets_182 : decode cX12_findGets 182 = .ok (.iload 6, 2) := by decide +kernel
theorem dX12_findGets_184 : decode cX12_findGets 184 = .ok (.iadd, 1) := by decide +kernel
theorem dX12_findGets_185 : decode cX12_findGets 185 = .ok (.aload_n 0, 1) := by decide +kernel
theorem dX12_findGets_186 : decode cX12_findGets 186 = .ok (.getfield 103, 3) := by decide +kernel
theorem dX12_findGets_189 : decode cX12_findGets 189 = .ok (.bipush 6, 2) := by decide +kernel
theorem dX12_findGets_191 : decode cX12_findGets 191 = .ok (.iload_n 3, 1) := by decide +kernel
theorem dX12_findGets_192 : decode cX12_findGets 192 = .ok (.iconst 1, 1) := by decide +kernel
theorem dX12_findGets_193 : decode cX12_findGets 193 = .ok (.aload_n 0, 1) := by decide +kernel
theorem dX12_findGets_194 : decode cX12_findGets 194 = .ok (.getfield 106, 3) := by decide +kernel
theorem dX12_findGets_197 : decode cX12_findGets 197 = .ok (.iload_n 3, 1) := by decide +kernel
theorem dX12_findGets_198 : decode cX12_findGets 198 = .ok (.iaload, 1) := by decide +kernel
theorem dX12_findGets_199 : decode cX12_findGets 199 = .ok (.ishl, 1) := by decide +kernel
theorem dX12_findGets_200 : decode cX12_findGets 200 = .ok (.iconst (-1), 1) := by decide +kernel
theorem dX12_findGets_201 : decode cX12_findGets 201 = .ok (.ixor, 1) := by decide +kernel
theorem dX12_findGets_202 : decode cX12_findGets 202 = .ok (.iand, 1) := by decide +kernel
theorem dX12_findGets_203 : decode cX12_findGets 203 = .ok (.imul, 1) := by decide +kernel
theorem dX12_findGets_204 : decode cX12_findGets 204 = .ok (.iload 6, 2) := by decide +kernel
theorem dX12_findGets_206 : decode cX12_findGets 206 = .ok (.iadd, 1) := by decide +kernel
theorem dX12_findGets_207 : decode cX12_findGets 207 = .ok (.iaload, 1) := by decide +kernel
theorem dX12_findGets_208 : decode cX12_findGets 208 = .ok (.iastore, 1) := by decide +kernel
theorem dX12_findGets_209 : decode cX12_findGets 209 = .ok (.iinc 6 1, 3) := by decide +kernel
theorem dX12_findGets_212 : decode cX12_findGets 212 = .ok (.goto (-45), 3) := by decide +kernel
theorem dX12_findGets_215 : decode cX12_findGets 215 = .ok (.aload_n 0, 1) := by decide +kernel
theorem dX12_findGets_216 : decode cX12_findGets 216 = .ok (.getfield 103, 3) := by decide +kernel
theorem dX12_findGets_219 : decode cX12_findGets 219 = .ok (.bipush 6, 2) := by decide +kernel
theorem dX12_findGets_221 : decode cX12_findGets 221 = .ok (.iload_n 3, 1) := by decide +kernel
theorem dX12_findGets_222 : decode cX12_findGets 222 = .ok (.imul, 1) := by decide +kernel
theorem dX12_findGets_223 : decode cX12_findGets 223 = .ok (.iload 4, 2) := by decide +kernel
theorem dX12_findGets_225 : decode cX12_findGets 225 = .ok (.iadd, 1) := by decide +kernel
theorem dX12_findGets_226 : decode cX12_findGets 226 = .ok (.iload 5, 2) := by decide +kernel
theorem dX12_findGets_228 : decode cX12_findGets 228 = .ok (.iastore, 1) := by decide +kernel
theorem dX12_findGets_229 : decode cX12_findGets 229 = .ok (.iinc 3 1, 3) := by decide +kernel
theorem dX12_findGets_232 : decode cX12_findGets 232 = .ok (.goto (-230), 3) := by decide +kernel
theorem dX12_findGets_235 : decode cX12_findGets 235 = .ok (.return_, 1) := by decide +kernel
set_option maxRecDepth 20000 in
theorem ggX12_bestOf_X12_isOf : GoodIn wsX12_bestOf wsX12_isOf := goodIn_r _ [6] (by decide +kernel) (by decide +kernel)
set_option maxRecDepth 20000 in
theorem gX12_bestOf_X12_isOf : GoodIn wsX12_bestOf (wsV RX12 151 RX12 yX12_isOf wsX12_isOf) := goodIn_app (goodIn_of _ (by decide +kernel)) ggX12_bestOf_X12_isOf
theorem dX12_bestOf_0 : decode cX12_bestOf 0 = .ok (.iconst (-1), 1) := by decide +kernel
theorem dX12_bestOf_1 : decode cX12_bestOf 1 = .ok (.istore_n 3, 1) := by decide +kernel
theorem dX12_bestOf_2 : decode cX12_bestOf 2 = .ok (.iconst 0, 1) := by decide +kernel
theorem dX12_bestOf_3 : decode cX12_bestOf 3 = .ok (.istore 4, 2) := by decide +kernel
theorem dX12_bestOf_5 : decode cX12_bestOf 5 = .ok (.iload 4, 2) := by decide +kernel
theorem dX12_bestOf_7 : decode cX12_bestOf 7 = .ok (.bipush 8, 2) := by decide +kernel
theorem dX12_bestOf_9 : decode cX12_bestOf 9 = .ok (.if_icmp .ge 53, 3) := by decide +kernel
theorem dX12_bestOf_12 : decode cX12_bestOf 12 = .ok (.aload_n 0, 1) := by decide +kernel
theorem dX12_bestOf_13 : decode cX12_bestOf 13 = .ok (.iload_n 1, 1) := by decide +kernel
theorem dX12_bestOf_14 : decode cX12_bestOf 14 = .ok (.iload 4, 2) := by decide +kernel
theorem dX12_bestOf_16 : decode cX12_bestOf 16 = .ok (.invokevirtual 151, 3) := by decide +kernel
theorem dX12_bestOf_19 : decode cX12_bestOf 19 = .ok (.ifCond .eq 37, 3) := by decide +kernel
theorem dX12_bestOf_22 : decode cX12_bestOf 22 = .ok (.iload_n 3, 1) := by decide +kernel
theorem dX12_bestOf_23 : decode cX12_bestOf 23 = .ok (.iconst (-1), 1) := by decide +kernel
theorem dX12_bestOf_24 : decode cX12_bestOf 24 = .ok (.if_icmp .eq 29, 3) := by decide +kernel
theorem dX12_bestOf_27 : decode cX12_bestOf 27 = .ok (.aload_n 0, 1) := by decide +kernel
theorem dX12_bestOf_28 : decode cX12_bestOf 28 = .ok (.getfield 94, 3) := by decide +kernel
theorem dX12_bestOf_31 : decode cX12_bestOf 31 = .ok (.bipush 6, 2) := by decide +kernel
theorem dX12_bestOf_33 : decode cX12_bestOf 33 = .ok (.iload 4, 2) := by decide +kernel
theorem dX12_bestOf_35 : decode cX12_bestOf 35 = .ok (.imul, 1) := by decide +kernel
theorem dX12_bestOf_36 : decode cX12_bestOf 36 = .ok (.iload_n 2, 1) := by decide +kernel
theorem dX12_bestOf_37 : decode cX12_bestOf 37 = .ok (.iadd, 1) := by decide +kernel
theorem dX12_bestOf_38 : decode cX12_bestOf 38 = .ok (.iaload, 1) := by decide +kernel
theorem dX12_bestOf_39 : decode cX12_bestOf 39 = .ok (.aload_n 0, 1) := by decide +kernel
theorem dX12_bestOf_40 : decode cX12_bestOf 40 = .ok (.getfield 94, 3) := by decide +kernel
theorem dX12_bestOf_43 : decode cX12_bestOf 43 = .ok (.bipush 6, 2) := by decide +kernel
theorem dX12_bestOf_45 : decode cX12_bestOf 45 = .ok (.iload_n 3, 1) := by decide +kernel
theorem dX12_bestOf_46 : decode cX12_bestOf 46 = .ok (.imul, 1) := by decide +kernel
theorem dX12_bestOf_47 : decode cX12_bestOf 47 = .ok (.iload_n 2, 1) := by decide +kernel
theorem dX12_bestOf_48 : decode cX12_bestOf 48 = .ok (.iadd, 1) := by decide +kernel
theorem dX12_bestOf_49 : decode cX12_bestOf 49 = .ok (.iaload, 1) := by decide +kernel
theorem dX12_bestOf_50 : decode cX12_bestOf 50 = .ok (.if_icmp .le 6, 3) := by decide +kernel
theorem dX12_bestOf_53 : decode cX12_bestOf 53 = .ok (.iload 4, 2) := by decide +kernel
theorem dX12_bestOf_55 : decode cX12_bestOf 55 = .ok (.istore_n 3, 1) := by decide +kernel
theorem dX12_bestOf_56 : decode cX12_bestOf 56 = .ok (.iinc 4 1, 3) := by decide +kernel
theorem dX12_bestOf_59 : decode cX12_bestOf 59 = .ok (.goto (-54), 3) := by decide +kernel
theorem dX12_bestOf_62 : decode cX12_bestOf 62 = .ok (.iload_n 3, 1) := by decide +kernel
theorem dX12_bestOf_63 : decode cX12_bestOf 63 = .ok (.ireturn, 1) := by decide +kernel
set_option maxRecDepth 20000 in
theorem ggX12_deal_X12_isIn : GoodIn wsX12_deal wsX12_isIn := goodIn_r _ [12] (by decide +kernel) (by decide +kernel)
set_option maxRecDepth 20000 in
theorem gX12_deal_X12_isIn : GoodIn wsX12_deal (wsV RX12 121 RX12 yX12_isIn wsX12_isIn) := goodIn_app (goodIn_of _ (by decide +kernel)) ggX12_deal_X12_isIn
set_option maxRecDepth 20000 in
theorem ggX12_deal_X12_findsView : GoodIn wsX12_deal wsX12_findsView := goodIn_r _ [16, 17, 18, 19, 20, 21, 11, 22, 23, 24, 25, 26, 27, 28, 29, 30, 31, 32, 33, 34, 65, 66, 67, 68, 69, 70, 71, 72, 73, 74, 75, 76, 77, 78, 79, 80, 81, 82, 83, 84, 85, 86, 87, 88, 89, 90, 91, 92, 93, 94, 95, 96, 97, 98, 99, 100, 101, 102, 103, 104, 105, 106, 107, 108, 109, 110, 111, 112, 113, 114, 115, 116] (by decide +kernel) (by decide +kernel)
set_option maxRecDepth 20000 in
theorem gX12_deal_X12_findsView : GoodIn wsX12_deal (wsV RX12 148 RX12 yX12_findsView wsX12_findsView) := goodIn_app (goodIn_of _ (by decide +kernel)) ggX12_deal_X12_findsView
set_option maxRecDepth 20000 in
theorem ggX12_deal_X12_ones : GoodIn wsX12_deal wsX12_ones := goodIn_r _ [38] (by decide +kernel) (by decide +kernel)
set_option maxRecDepth 20000 in
theorem gX12_deal_X12_ones : GoodIn wsX12_deal (wsV RX12 291 RX12 yX12_ones wsX12_ones) := goodIn_app (goodIn_of _ (by decide +kernel)) ggX12_deal_X12_ones
set_option maxRecDepth 20000 in
theorem ggX12_deal_X12_findChoosers : GoodIn wsX12_deal wsX12_findChoosers := goodIn_r _ [42, 43, 2, 5, 44, 45, 46, 11, 47, 26, 23, 31, 48, 49, 50, 51, 52, 53, 54, 55, 33, 65, 66, 67, 68, 69, 70, 71, 72, 73, 74, 75, 76, 77, 78, 79, 80, 81, 82, 83, 84, 85, 86, 87, 88, 89, 90, 91, 92, 93, 94, 95, 96, 97, 98, 99, 100, 101, 102, 103, 104, 105, 106, 107, 108, 109, 110, 111, 112, 113, 114, 115, 116] (by decide +kernel) (by decide +kernel)
set_option maxRecDepth 20000 in
theorem gX12_deal_X12_findChoosers : GoodIn wsX12_deal (wsV RX12 350 RX12 yX12_findChoosers wsX12_findChoosers) := goodIn_app (goodIn_of _ (by decide +kernel)) ggX12_deal_X12_findChoosers
set_option maxRecDepth 20000 in
theorem ggX12_deal_X12_isOf : GoodIn wsX12_deal wsX12_isOf := goodIn_r _ [51] (by decide +kernel) (by decide +kernel)
set_option maxRecDepth 20000 in
theorem gX12_deal_X12_isOf : GoodIn wsX12_deal (wsV RX12 151 RX12 yX12_isOf wsX12_isOf) := goodIn_app (goodIn_of _ (by decide +kernel)) ggX12_deal_X12_isOf
set_option maxRecDepth 20000 in
theorem ggX12_deal_X12_findGets : GoodIn wsX12_deal wsX12_findGets := goodIn_r _ [59, 60, 6, 5, 7, 35, 36, 37, 11, 38, 48, 49, 50, 51, 65, 66, 67, 68, 69, 70, 71, 72, 73, 74, 75, 76, 77, 78, 79, 80, 81, 82, 83, 84, 85, 86, 87, 88, 89, 90, 91, 92, 93, 94, 95, 96, 97, 98, 99, 100, 101, 102, 103, 104, 105, 106, 107, 108, 109, 110, 111, 112, 113, 114, 115, 116] (by decide +kernel) (by decide +kernel)
set_option maxRecDepth 20000 in
theorem gX12_deal_X12_findGets : GoodIn wsX12_deal (wsV RX12 354 RX12 yX12_findGets wsX12_findGets) := goodIn_app (goodIn_of _ (by decide +kernel)) ggX12_deal_X12_findGets
set_option maxRecDepth 20000 in
theorem ggX12_deal_X12_bestOf : GoodIn wsX12_deal wsX12_bestOf := goodIn_r _ [64, 7, 48, 49, 50, 11, 51, 65, 66, 67, 68, 69, 70, 71, 72, 73, 74, 75, 76, 77, 78, 79, 80, 81, 82, 83, 84, 85, 86, 87, 88, 89, 90, 91, 92, 93, 94, 95, 96, 97, 98, 99, 100, 101, 102, 103, 104, 105, 106, 107, 108, 109, 110, 111, 112, 113, 114, 115, 116] (by decide +kernel) (by decide +kernel)
set_option maxRecDepth 20000 in
theorem gX12_deal_X12_bestOf : GoodIn wsX12_deal (wsV RX12 357 RX12 yX12_bestOf wsX12_bestOf) := goodIn_app (goodIn_of _ (by decide +kernel)) ggX12_deal_X12_bestOf
theorem dX12_deal_0 : decode cX12_deal 0 = .ok (.aload_n 0, 1) := by decide +kernel
theorem dX12_deal_1 : decode cX12_deal 1 = .ok (.iconst 0, 1) := by decide +kernel
theorem dX12_deal_2 : decode cX12_deal 2 = .ok (.putfield 115, 3) := by decide +kernel
theorem dX12_deal_5 : decode cX12_deal 5 = .ok (.aload_n 0, 1) := by decide +kernel
theorem dX12_deal_6 : decode cX12_deal 6 = .ok (.iload_n 1, 1) := by decide +kernel
theorem dX12_deal_7 : decode cX12_deal 7 = .ok (.iconst 1, 1) := by decide +kernel
theorem dX12_deal_8 : decode cX12_deal 8 = .ok (.bipush 63, 2) := by decide +kernel
theorem dX12_deal_10 : decode cX12_deal 10 = .ok (.invokevirtual 121, 3) := by decide +kernel
theorem dX12_deal_13 : decode cX12_deal 13 = .ok (.ifCond .eq 25, 3) := by decide +kernel
theorem dX12_deal_16 : decode cX12_deal 16 = .ok (.aload_n 0, 1) := by decide +kernel
theorem dX12_deal_17 : decode cX12_deal 17 = .ok (.iload_n 2, 1) := by decide +kernel
theorem dX12_deal_18 : decode cX12_deal 18 = .ok (.iconst 0, 1) := by decide +kernel
theorem dX12_deal_19 : decode cX12_deal 19 = .ok (.sipush 255, 3) := by decide +kernel
theorem dX12_deal_22 : decode cX12_deal 22 = .ok (.invokevirtual 121, 3) := by decide +kernel
theorem dX12_deal_25 : decode cX12_deal 25 = .ok (.ifCond .eq 13, 3) := by decide +kernel
theorem dX12_deal_28 : decode cX12_deal 28 = .ok (.aload_n 0, 1) := by decide +kernel
theorem dX12_deal_29 : decode cX12_deal 29 = .ok (.iload_n 3, 1) := by decide +kernel
theorem dX12_deal_30 : decode cX12_deal 30 = .ok (.iconst 0, 1) := by decide +kernel
theorem dX12_deal_31 : decode cX12_deal 31 = .ok (.iconst 1, 1) := by decide +kernel
theorem dX12_deal_32 : decode cX12_deal 32 = .ok (.invokevirtual 121, 3) := by decide +kernel
theorem dX12_deal_35 : decode cX12_deal 35 = .ok (.ifCond .ne 5, 3) := by decide +kernel
theorem dX12_deal_38 : decode cX12_deal 38 = .ok (.iconst (-1), 1) := by decide +kernel
theorem dX12_deal_39 : decode cX12_deal 39 = .ok (.ireturn, 1) := by decide +kernel
theorem dX12_deal_40 : decode cX12_deal 40 = .ok (.aload_n 0, 1) := by decide +kernel
theorem dX12_deal_41 : decode cX12_deal 41 = .ok (.invokevirtual 148, 3) := by decide +kernel
theorem dX12_deal_44 : decode cX12_deal 44 = .ok (.aload_n 0, 1) := by decide +kernel
theorem dX12_deal_45 : decode cX12_deal 45 = .ok (.iload_n 2, 1) := by decide +kernel
theorem dX12_deal_46 : decode cX12_deal 46 = .ok (.invokevirtual 291, 3) := by decide +kernel
theorem dX12_deal_49 : decode cX12_deal 49 = .ok (.istore 6, 2) := by decide +kernel
theorem dX12_deal_51 : decode cX12_deal 51 = .ok (.aload_n 0, 1) := by decide +kernel
theorem dX12_deal_52 : decode cX12_deal 52 = .ok (.iload_n 1, 1) := by decide +kernel
theorem dX12_deal_53 : decode cX12_deal 53 = .ok (.iload 6, 2) := by decide +kernel
theorem dX12_deal_55 : decode cX12_deal 55 = .ok (.iload_n 3, 1) := by decide +kernel
theorem dX12_deal_56 : decode cX12_deal 56 = .ok (.invokevirtual 350, 3) := by decide +kernel
theorem dX12_deal_59 : decode cX12_deal 59 = .ok (.iconst 0, 1) := by decide +kernel
theorem dX12_deal_60 : decode cX12_deal 60 = .ok (.istore 7, 2) := by decide +kernel
theorem dX12_deal_62 : decode cX12_deal 62 = .ok (.iload 7, 2) := by decide +kernel
theorem dX12_deal_64 : decode cX12_deal 64 = .ok (.bipush 6, 2) := by decide +kernel
theorem dX12_deal_66 : decode cX12_deal 66 = .ok (.if_icmp .ge 31, 3) := by decide +kernel
theorem dX12_deal_69 : decode cX12_deal 69 = .ok (.aload_n 0, 1) := by decide +kernel
theorem dX12_deal_70 : decode cX12_deal 70 = .ok (.iload_n 1, 1) := by decide +kernel
theorem dX12_deal_71 : decode cX12_deal 71 = .ok (.iload 7, 2) := by decide +kernel
theorem dX12_deal_73 : decode cX12_deal 73 = .ok (.invokevirtual 151, 3) := by decide +kernel
theorem dX12_deal_76 : decode cX12_deal 76 = .ok (.ifCond .eq 15, 3) := by decide +kernel
theorem dX12_deal_79 : decode cX12_deal 79 = .ok (.aload_n 0, 1) := by decide +kernel
theorem dX12_deal_80 : decode cX12_deal 80 = .ok (.getfield 91, 3) := by decide +kernel
theorem dX12_deal_83 : decode cX12_deal 83 = .ok (.iload 7, 2) := by decide +kernel
theorem dX12_deal_85 : decode cX12_deal 85 = .ok (.iaload, 1) := by decide +kernel
theorem dX12_deal_86 : decode cX12_deal 86 = .ok (.ifCond .ne 5, 3) := by decide +kernel
theorem dX12_deal_89 : decode cX12_deal 89 = .ok (.iconst (-1), 1) := by decide +kernel
theorem dX12_deal_90 : decode cX12_deal 90 = .ok (.ireturn, 1) := by decide +kernel
theorem dX12_deal_91 : decode cX12_deal 91 = .ok (.iinc 7 1, 3) := by decide +kernel
theorem dX12_deal_94 : decode cX12_deal 94 = .ok (.goto (-32), 3) := by decide +kernel
theorem dX12_deal_97 : decode cX12_deal 97 = .ok (.aload_n 0, 1) := by decide +kernel
theorem dX12_deal_98 : decode cX12_deal 98 = .ok (.iload_n 2, 1) := by decide +kernel
theorem dX12_deal_99 : decode cX12_deal 99 = .ok (.iload 6, 2) := by decide +kernel
theorem dX12_deal_101 : decode cX12_deal 101 = .ok (.invokevirtual 354, 3) := by decide +kernel
theorem dX12_deal_104 : decode cX12_deal 104 = .ok (.iconst 0, 1) := by decide +kernel
theorem dX12_deal_105 : decode cX12_deal 105 = .ok (.istore 7, 2) := by decide +kernel
theorem dX12_deal_107 : decode cX12_deal 107 = .ok (.iload 7, 2) := by decide +kernel
theorem dX12_deal_109 : decode cX12_deal 109 = .ok (.bipush 6, 2) := by decide +kernel
theorem dX12_deal_111 : decode cX12_deal 111 = .ok (.if_icmp .ge 17, 3) := by decide +kernel
theorem dX12_deal_114 : decode cX12_deal 114 = .ok (.aload_n 0, 1) := by decide +kernel
theorem dX12_deal_115 : decode cX12_deal 115 = .ok (.getfield 112, 3) := by decide +kernel
theorem dX12_deal_118 : decode cX12_deal 118 = .ok (.iload 7, 2) := by decide +kernel
theorem dX12_deal_120 : decode cX12_deal 120 = .ok (.iconst 0, 1) := by decide +kernel
theorem dX12_deal_121 : decode cX12_deal 121 = .ok (.iastore, 1) := by decide +kernel
theorem dX12_deal_122 : decode cX12_deal 122 = .ok (.iinc 7 1, 3) := by decide +kernel
theorem dX12_deal_125 : decode cX12_deal 125 = .ok (.goto (-18), 3) := by decide +kernel
theorem dX12_deal_128 : decode cX12_deal 128 = .ok (.iconst 0, 1) := by decide +kernel
theorem dX12_deal_129 : decode cX12_deal 129 = .ok (.istore 7, 2) := by decide +kernel
theorem dX12_deal_131 : decode cX12_deal 131 = .ok (.iload 7, 2) := by decide +kernel
theorem dX12_deal_133 : decode cX12_deal 133 = .ok (.bipush 8, 2) := by decide +kernel
theorem dX12_deal_135 : decode cX12_deal 135 = .ok (.if_icmp .ge 17, 3) := by decide +kernel
theorem dX12_deal_138 : decode cX12_deal 138 = .ok (.aload_n 0, 1) := by decide +kernel
theorem dX12_deal_139 : decode cX12_deal 139 = .ok (.getfield 109, 3) := by decide +kernel
theorem dX12_deal_142 : decode cX12_deal 142 = .ok (.iload 7, 2) := by decide +kernel
theorem dX12_deal_144 : decode cX12_deal 144 = .ok (.iconst (-1), 1) := by decide +kernel
theorem dX12_deal_145 : decode cX12_deal 145 = .ok (.iastore, 1) := by decide +kernel
theorem dX12_deal_146 : decode cX12_deal 146 = .ok (.iinc 7 1, 3) := by decide +kernel
theorem dX12_deal_149 : decode cX12_deal 149 = .ok (.goto (-18), 3) := by decide +kernel
theorem dX12_deal_152 : decode cX12_deal 152 = .ok (.iload_n 2, 1) := by decide +kernel
theorem dX12_deal_153 : decode cX12_deal 153 = .ok (.istore 7, 2) := by decide +kernel
theorem dX12_deal_155 : decode cX12_deal 155 = .ok (.iconst 0, 1) := by decide +kernel
theorem dX12_deal_156 : decode cX12_deal 156 = .ok (.istore 8, 2) := by decide +kernel
theorem dX12_deal_158 : decode cX12_deal 158 = .ok (.iload 8, 2) := by decide +kernel
theorem dX12_deal_160 : decode cX12_deal 160 = .ok (.iload 6, 2) := by decide +kernel
theorem dX12_deal_162 : decode cX12_deal 162 = .ok (.if_icmp .ge 91, 3) := by decide +kernel
theorem dX12_deal_165 : decode cX12_deal 165 = .ok (.aload_n 0, 1) := by decide +kernel
theorem dX12_deal_166 : decode cX12_deal 166 = .ok (.getfield 97, 3) := by decide +kernel
theorem dX12_deal_169 : decode cX12_deal 169 = .ok (.iload 8, 2) := by decide +kernel
theorem dX12_deal_171 : decode cX12_deal 171 = .ok (.iaload, 1) := by decide +kernel
theorem dX12_deal_172 : decode cX12_deal 172 = .ok (.istore 9, 2) := by decide +kernel
theorem dX12_deal_174 : decode cX12_deal 174 = .ok (.iload 4, 2) := by decide +kernel
theorem dX12_deal_176 : decode cX12_deal 176 = .ok (.ifCond .eq 13, 3) := by decide +kernel
theorem dX12_deal_179 : decode cX12_deal 179 = .ok (.aload_n 0, 1) := by decide +kernel
theorem dX12_deal_180 : decode cX12_deal 180 = .ok (.getfield 106, 3) := by decide +kernel
theorem dX12_deal_183 : decode cX12_deal 183 = .ok (.iload 7, 2) := by decide +kernel
theorem dX12_deal_185 : decode cX12_deal 185 = .ok (.iaload, 1) := by decide +kernel
theorem dX12_deal_186 : decode cX12_deal 186 = .ok (.goto 11, 3) := by decide +kernel
theorem dX12_deal_189 : decode cX12_deal 189 = .ok (.aload_n 0, 1) := by decide +kernel
theorem dX12_deal_190 : decode cX12_deal 190 = .ok (.iload 7, 2) := by decide +kernel
theorem dX12_deal_192 : decode cX12_deal 192 = .ok (.iload 9, 2) := by decide +kernel
theorem dX12_deal_194 : decode cX12_deal 194 = .ok (.invokevirtual 357, 3) := by decide +kernel
theorem dX12_deal_197 : decode cX12_deal 197 = .ok (.istore 10, 2) := by decide +kernel
theorem dX12_deal_199 : decode cX12_deal 199 = .ok (.aload_n 0, 1) := by decide +kernel
theorem dX12_deal_200 : decode cX12_deal 200 = .ok (.getfield 109, 3) := by decide +kernel
theorem dX12_deal_203 : decode cX12_deal 203 = .ok (.iload 10, 2) := by decide +kernel
theorem dX12_deal_205 : decode cX12_deal 205 = .ok (.iload 9, 2) := by decide +kernel
theorem dX12_deal_207 : decode cX12_deal 207 = .ok (.iastore, 1) := by decide +kernel
theorem dX12_deal_208 : decode cX12_deal 208 = .ok (.aload_n 0, 1) := by decide +kernel
theorem dX12_deal_209 : decode cX12_deal 209 = .ok (.getfield 112, 3) := by decide +kernel
theorem dX12_deal_212 : decode cX12_deal 212 = .ok (.iload 9, 2) := by decide +kernel
theorem dX12_deal_214 : decode cX12_deal 214 = .ok (.aload_n 0, 1) := by decide +kernel
theorem dX12_deal_215 : decode cX12_deal 215 = .ok (.getfield 112, 3) := by decide +kernel
theorem dX12_deal_218 : decode cX12_deal 218 = .ok (.iload 9, 2) := by decide +kernel
theorem dX12_deal_220 : decode cX12_deal 220 = .ok (.iaload, 1) := by decide +kernel
theorem dX12_deal_221 : decode cX12_deal 221 = .ok (.aload_n 0, 1) := by decide +kernel
theorem dX12_deal_222 : decode cX12_deal 222 = .ok (.getfield 94, 3) := by decide +kernel
theorem dX12_deal_225 : decode cX12_deal 225 = .ok (.bipush 6, 2) := by decide +kernel
theorem dX12_deal_227 : decode cX12_deal 227 = .ok (.iload 10, 2) := by decide +kernel
theorem dX12_deal_229 : decode cX12_deal 229 = .ok (.imul, 1) := by decide +kernel
theorem dX12_deal_230 : decode cX12_deal 230 = .ok (.iload 9, 2) := by decide +kernel
theorem dX12_deal_232 : decode cX12_deal 232 = .ok (.iadd, 1) := by decide +kernel
theorem dX12_deal_233 : decode cX12_deal 233 = .ok (.iaload, 1) := by decide +kernel
theorem dX12_deal_234 : decode cX12_deal 234 = .ok (.iadd, 1) := by decide +kernel
theorem dX12_deal_235 : decode cX12_deal 235 = .ok (.iastore, 1) := by decide +kernel
theorem dX12_deal_236 : decode cX12_deal 236 = .ok (.iload 7, 2) := by decide +kernel
theorem dX12_deal_238 : decode cX12_deal 238 = .ok (.iconst 1, 1) := by decide +kernel
theorem dX12_deal_239 : decode cX12_deal 239 = .ok (.iload 10, 2) := by decide +kernel
theorem dX12_deal_241 : decode cX12_deal 241 = .ok (.ishl, 1) := by decide +kernel
theorem dX12_deal_242 : decode cX12_deal 242 = .ok (.iconst (-1), 1) := by decide +kernel
theorem dX12_deal_243 : decode cX12_deal 243 = .ok (.ixor, 1) := by decide +kernel
theorem dX12_deal_244 : decode cX12_deal 244 = .ok (.iand, 1) := by decide +kernel
theorem dX12_deal_245 : decode cX12_deal 245 = .ok (.istore 7, 2) := by decide +kernel
theorem dX12_deal_247 : decode cX12_deal 247 = .ok (.iinc 8 1, 3) := by decide +kernel
theorem dX12_deal_250 : decode cX12_deal 250 = .ok (.goto (-92), 3) := by decide +kernel
theorem dX12_deal_253 : decode cX12_deal 253 = .ok (.aload_n 0, 1) := by decide +kernel
theorem dX12_deal_254 : decode cX12_deal 254 = .ok (.iload 5, 2) := by decide +kernel
theorem dX12_deal_256 : decode cX12_deal 256 = .ok (.iconst 0, 1) := by decide +kernel
theorem dX12_deal_257 : decode cX12_deal 257 = .ok (.bipush 7, 2) := by decide +kernel
theorem dX12_deal_259 : decode cX12_deal 259 = .ok (.invokevirtual 121, 3) := by decide +kernel
theorem dX12_deal_262 : decode cX12_deal 262 = .ok (.ifCond .eq 11, 3) := by decide +kernel
theorem dX12_deal_265 : decode cX12_deal 265 = .ok (.aload_n 0, 1) := by decide +kernel
theorem dX12_deal_266 : decode cX12_deal 266 = .ok (.getfield 109, 3) := by decide +kernel
theorem dX12_deal_269 : decode cX12_deal 269 = .ok (.iload 5, 2) := by decide +kernel
theorem dX12_deal_271 : decode cX12_deal 271 = .ok (.iaload, 1) := by decide +kernel
theorem dX12_deal_272 : decode cX12_deal 272 = .ok (.ireturn, 1) := by decide +kernel
theorem dX12_deal_273 : decode cX12_deal 273 = .ok (.aload_n 0, 1) := by decide +kernel
theorem dX12_deal_274 : decode cX12_deal 274 = .ok (.iload 5, 2) := by decide +kernel
theorem dX12_deal_276 : decode cX12_deal 276 = .ok (.bipush 10, 2) := by decide +kernel
theorem dX12_deal_278 : decode cX12_deal 278 = .ok (.bipush 15, 2) := by decide +kernel
theorem dX12_deal_280 : decode cX12_deal 280 = .ok (.invokevirtual 121, 3) := by decide +kernel
theorem dX12_deal_283 : decode cX12_deal 283 = .ok (.ifCond .eq 31, 3) := by decide +kernel
theorem dX12_deal_286 : decode cX12_deal 286 = .ok (.aload_n 0, 1) := by decide +kernel
theorem dX12_deal_287 : decode cX12_deal 287 = .ok (.iload_n 1, 1) := by decide +kernel
theorem dX12_deal_288 : decode cX12_deal 288 = .ok (.iload 5, 2) := by decide +kernel
theorem dX12_deal_290 : decode cX12_deal 290 = .ok (.bipush 10, 2) := by decide +kernel
theorem dX12_deal_292 : decode cX12_deal 292 = .ok (.isub, 1) := by decide +kernel
theorem dX12_deal_293 : decode cX12_deal 293 = .ok (.invokevirtual 151, 3) := by decide +kernel
theorem dX12_deal_296 : decode cX12_deal 296 = .ok (.ifCond .eq 16, 3) := by decide +kernel
theorem dX12_deal_299 : decode cX12_deal 299 = .ok (.aload_n 0, 1) := by decide +kernel
theorem dX12_deal_300 : decode cX12_deal 300 = .ok (.getfield 112, 3) := by decide +kernel
theorem dX12_deal_303 : decode cX12_deal 303 = .ok (.iload 5, 2) := by decide +kernel
theorem dX12_deal_305 : decode cX12_deal 305 = .ok (.bipush 10, 2) := by decide +kernel
theorem dX12_deal_307 : decode cX12_deal 307 = .ok (.isub, 1) := by decide +kernel
theorem dX12_deal_308 : decode cX12_deal 308 = .ok (.iaload, 1) := by decide +kernel
theorem dX12_deal_309 : decode cX12_deal 309 = .ok (.goto 4, 3) := by decide +kernel
theorem dX12_deal_312 : decode cX12_deal 312 = .ok (.iconst (-1), 1) := by decide +kernel
theorem dX12_deal_313 : decode cX12_deal 313 = .ok (.ireturn, 1) := by decide +kernel
theorem dX12_deal_314 : decode cX12_deal 314 = .ok (.aload_n 0, 1) := by decide +kernel
theorem dX12_deal_315 : decode cX12_deal 315 = .ok (.iload 5, 2) := by decide +kernel
theorem dX12_deal_317 : decode cX12_deal 317 = .ok (.bipush 20, 2) := by decide +kernel
theorem dX12_deal_319 : decode cX12_deal 319 = .ok (.bipush 19, 2) := by decide +kernel
theorem dX12_deal_321 : decode cX12_deal 321 = .ok (.iload 6, 2) := by decide +kernel
theorem dX12_deal_323 : decode cX12_deal 323 = .ok (.iadd, 1) := by decide +kernel
theorem dX12_deal_324 : decode cX12_deal 324 = .ok (.invokevirtual 121, 3) := by decide +kernel
theorem dX12_deal_327 : decode cX12_deal 327 = .ok (.ifCond .eq 16, 3) := by decide +kernel
theorem dX12_deal_330 : decode cX12_deal 330 = .ok (.aload_n 0, 1) := by decide +kernel
theorem dX12_deal_331 : decode cX12_deal 331 = .ok (.getfield 97, 3) := by decide +kernel
theorem dX12_deal_334 : decode cX12_deal 334 = .ok (.iload 5, 2) := by decide +kernel
theorem dX12_deal_336 : decode cX12_deal 336 = .ok (.bipush 20, 2) := by decide +kernel
theorem dX12_deal_338 : decode cX12_deal 338 = .ok (.isub, 1) := by decide +kernel
theorem dX12_deal_339 : decode cX12_deal 339 = .ok (.iaload, 1) := by decide +kernel
theorem dX12_deal_340 : decode cX12_deal 340 = .ok (.goto 4, 3) := by decide +kernel
theorem dX12_deal_343 : decode cX12_deal 343 = .ok (.iconst (-1), 1) := by decide +kernel
theorem dX12_deal_344 : decode cX12_deal 344 = .ok (.ireturn, 1) := by decide +kernel
