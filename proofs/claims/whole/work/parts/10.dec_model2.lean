theorem dX12_common_8 : decode cX12_common 8 = .ok (.lconst 0, 1) := by decide +kernel
theorem dX12_common_9 : decode cX12_common 9 = .ok (.lcmp, 1) := by decide +kernel
theorem dX12_common_10 : decode cX12_common 10 = .ok (.ifCond .eq 21, 3) := by decide +kernel
theorem dX12_common_13 : decode cX12_common 13 = .ok (.lload 5, 2) := by decide +kernel
theorem dX12_common_15 : decode cX12_common 15 = .ok (.lload 7, 2) := by decide +kernel
theorem dX12_common_17 : decode cX12_common 17 = .ok (.lrem, 1) := by decide +kernel
theorem dX12_common_18 : decode cX12_common 18 = .ok (.lstore 9, 2) := by decide +kernel
theorem dX12_common_20 : decode cX12_common 20 = .ok (.lload 7, 2) := by decide +kernel
theorem dX12_common_22 : decode cX12_common 22 = .ok (.lstore 5, 2) := by decide +kernel
theorem dX12_common_24 : decode cX12_common 24 = .ok (.lload 9, 2) := by decide +kernel
theorem dX12_common_26 : decode cX12_common 26 = .ok (.lstore 7, 2) := by decide +kernel
theorem dX12_common_28 : decode cX12_common 28 = .ok (.goto (-22), 3) := by decide +kernel
theorem dX12_common_31 : decode cX12_common 31 = .ok (.lload 5, 2) := by decide +kernel
theorem dX12_common_33 : decode cX12_common 33 = .ok (.lreturn, 1) := by decide +kernel
set_option maxRecDepth 20000 in
theorem ggX12_power_X12_isRule : GoodIn wsX12_power wsX12_isRule := goodIn_r _ [10, 11, 12, 13, 9, 14] (by decide +kernel) (by decide +kernel)
set_option maxRecDepth 20000 in
theorem gX12_power_X12_isRule : GoodIn wsX12_power (wsV RX12 249 RX12 yX12_isRule wsX12_isRule) := goodIn_app (goodIn_of _ (by decide +kernel)) ggX12_power_X12_isRule
set_option maxRecDepth 20000 in
theorem ggX12_power_X12_isMember : GoodIn wsX12_power wsX12_isMember := goodIn_r _ [18, 19, 91, 92, 93, 94, 95, 96, 97, 98, 99, 100, 101, 102, 103, 104, 105, 106, 107, 108, 109, 110, 111, 112, 113, 114, 115, 116, 117, 118, 119, 120, 121, 122, 123, 124, 125, 126, 127, 128, 129, 130, 131, 132, 133, 134, 135, 136, 137, 138, 139, 140, 141, 142] (by decide +kernel) (by decide +kernel)
set_option maxRecDepth 20000 in
theorem gX12_power_X12_isMember : GoodIn wsX12_power (wsV RX12 125 RX12 yX12_isMember wsX12_isMember) := goodIn_app (goodIn_of _ (by decide +kernel)) ggX12_power_X12_isMember
set_option maxRecDepth 20000 in
theorem ggX12_power_X12_isIn : GoodIn wsX12_power wsX12_isIn := goodIn_r _ [14] (by decide +kernel) (by decide +kernel)
set_option maxRecDepth 20000 in
theorem gX12_power_X12_isIn : GoodIn wsX12_power (wsV RX12 121 RX12 yX12_isIn wsX12_isIn) := goodIn_app (goodIn_of _ (by decide +kernel)) ggX12_power_X12_isIn
set_option maxRecDepth 20000 in
theorem ggX12_power_X12_findCarry : GoodIn wsX12_power wsX12_findCarry := goodIn_r _ [23, 4, 3, 24, 25, 26, 9, 27, 28, 29, 30, 31, 32, 33, 5, 34, 19, 35, 36, 37, 38, 39, 40, 41, 42, 43, 44, 45, 46, 47, 48, 49, 50, 51, 52, 53, 54, 55, 56, 57, 58, 59, 60, 61, 62, 63, 64, 65, 66, 67, 68, 69, 70, 71, 72, 73, 74, 91, 92, 93, 94, 95, 96, 97, 98, 99, 100, 101, 102, 103, 104, 105, 106, 107, 108, 109, 110, 111, 112, 113, 114, 115, 116, 117, 118, 119, 120, 121, 122, 123, 124, 125, 126, 127, 128, 129, 130, 131, 132, 133, 134, 135, 136, 137, 138, 139, 140, 141, 142] (by decide +kernel) (by decide +kernel)
set_option maxRecDepth 20000 in
theorem gX12_power_X12_findCarry : GoodIn wsX12_power (wsV RX12 283 RX12 yX12_findCarry wsX12_findCarry) := goodIn_app (goodIn_of _ (by decide +kernel)) ggX12_power_X12_findCarry
set_option maxRecDepth 20000 in
theorem ggX12_power_X12_isOf : GoodIn wsX12_power wsX12_isOf := goodIn_r _ [66] (by decide +kernel) (by decide +kernel)
set_option maxRecDepth 20000 in
theorem gX12_power_X12_isOf : GoodIn wsX12_power (wsV RX12 151 RX12 yX12_isOf wsX12_isOf) := goodIn_app (goodIn_of _ (by decide +kernel)) ggX12_power_X12_isOf
set_option maxRecDepth 20000 in
theorem ggX12_power_X12_isSet : GoodIn wsX12_power wsX12_isSet := goodIn_r _ [78, 3, 91, 92, 93, 94, 95, 96, 97, 98, 99, 100, 101, 102, 103, 104, 105, 106, 107, 108, 109, 110, 111, 112, 113, 114, 115, 116, 117, 118, 119, 120, 121, 122, 123, 124, 125, 126, 127, 128, 129, 130, 131, 132, 133, 134, 135, 136, 137, 138, 139, 140, 141, 142] (by decide +kernel) (by decide +kernel)
set_option maxRecDepth 20000 in
theorem gX12_power_X12_isSet : GoodIn wsX12_power (wsV RX12 277 RX12 yX12_isSet wsX12_isSet) := goodIn_app (goodIn_of _ (by decide +kernel)) ggX12_power_X12_isSet
set_option maxRecDepth 20000 in
theorem ggX12_power_X12_ones : GoodIn wsX12_power wsX12_ones := goodIn_r _ [82] (by decide +kernel) (by decide +kernel)
set_option maxRecDepth 20000 in
theorem gX12_power_X12_ones : GoodIn wsX12_power (wsV RX12 291 RX12 yX12_ones wsX12_ones) := goodIn_app (goodIn_of _ (by decide +kernel)) ggX12_power_X12_ones
set_option maxRecDepth 20000 in
theorem ggX12_power_X12_orders : GoodIn wsX12_power wsX12_orders := goodIn_r _ [86] (by decide +kernel) (by decide +kernel)
set_option maxRecDepth 20000 in
theorem gX12_power_X12_orders : GoodIn wsX12_power (wsV RX12 294 RX12 yX12_orders wsX12_orders) := goodIn_app (goodIn_of _ (by decide +kernel)) ggX12_power_X12_orders
set_option maxRecDepth 20000 in
theorem ggX12_power_X12_common : GoodIn wsX12_power wsX12_common := goodIn_r _ [90] (by decide +kernel) (by decide +kernel)
set_option maxRecDepth 20000 in
theorem gX12_power_X12_common : GoodIn wsX12_power (wsV RX12 298 RX12 yX12_common wsX12_common) := goodIn_app (goodIn_of _ (by decide +kernel)) ggX12_power_X12_common
theorem dX12_power_0 : decode cX12_power 0 = .ok (.aload_n 0, 1) := by decide +kernel
theorem dX12_power_1 : decode cX12_power 1 = .ok (.iconst 0, 1) := by decide +kernel
theorem dX12_power_2 : decode cX12_power 2 = .ok (.putfield 115, 3) := by decide +kernel
theorem dX12_power_5 : decode cX12_power 5 = .ok (.aload_n 0, 1) := by decide +kernel
theorem dX12_power_6 : decode cX12_power 6 = .ok (.iload_n 1, 1) := by decide +kernel
theorem dX12_power_7 : decode cX12_power 7 = .ok (.invokevirtual 249, 3) := by decide +kernel
theorem dX12_power_10 : decode cX12_power 10 = .ok (.ifCond .eq 21, 3) := by decide +kernel
theorem dX12_power_13 : decode cX12_power 13 = .ok (.aload_n 0, 1) := by decide +kernel
theorem dX12_power_14 : decode cX12_power 14 = .ok (.iload_n 2, 1) := by decide +kernel
theorem dX12_power_15 : decode cX12_power 15 = .ok (.invokevirtual 125, 3) := by decide +kernel
theorem dX12_power_18 : decode cX12_power 18 = .ok (.ifCond .eq 13, 3) := by decide +kernel
theorem dX12_power_21 : decode cX12_power 21 = .ok (.aload_n 0, 1) := by decide +kernel
theorem dX12_power_22 : decode cX12_power 22 = .ok (.iload_n 3, 1) := by decide +kernel
theorem dX12_power_23 : decode cX12_power 23 = .ok (.iconst 0, 1) := by decide +kernel
theorem dX12_power_24 : decode cX12_power 24 = .ok (.iconst 4, 1) := by decide +kernel
theorem dX12_power_25 : decode cX12_power 25 = .ok (.invokevirtual 121, 3) := by decide +kernel
theorem dX12_power_28 : decode cX12_power 28 = .ok (.ifCond .ne 7, 3) := by decide +kernel
theorem dX12_power_31 : decode cX12_power 31 = .ok (.ldc2_w 289, 3) := by decide +kernel
theorem dX12_power_34 : decode cX12_power 34 = .ok (.lreturn, 1) := by decide +kernel
theorem dX12_power_35 : decode cX12_power 35 = .ok (.aload_n 0, 1) := by decide +kernel
theorem dX12_power_36 : decode cX12_power 36 = .ok (.iload_n 1, 1) := by decide +kernel
theorem dX12_power_37 : decode cX12_power 37 = .ok (.invokevirtual 283, 3) := by decide +kernel
theorem dX12_power_40 : decode cX12_power 40 = .ok (.aload_n 0, 1) := by decide +kernel
theorem dX12_power_41 : decode cX12_power 41 = .ok (.aload_n 0, 1) := by decide +kernel
theorem dX12_power_42 : decode cX12_power 42 = .ok (.getfield 135, 3) := by decide +kernel
theorem dX12_power_45 : decode cX12_power 45 = .ok (.iload_n 2, 1) := by decide +kernel
theorem dX12_power_46 : decode cX12_power 46 = .ok (.invokevirtual 151, 3) := by decide +kernel
theorem dX12_power_49 : decode cX12_power 49 = .ok (.ifCond .ne 7, 3) := by decide +kernel
theorem dX12_power_52 : decode cX12_power 52 = .ok (.ldc2_w 289, 3) := by decide +kernel
theorem dX12_power_55 : decode cX12_power 55 = .ok (.lreturn, 1) := by decide +kernel
theorem dX12_power_56 : decode cX12_power 56 = .ok (.lconst 0, 1) := by decide +kernel
theorem dX12_power_57 : decode cX12_power 57 = .ok (.lstore 4, 2) := by decide +kernel
theorem dX12_power_59 : decode cX12_power 59 = .ok (.lconst 0, 1) := by decide +kernel
theorem dX12_power_60 : decode cX12_power 60 = .ok (.lstore 6, 2) := by decide +kernel
theorem dX12_power_62 : decode cX12_power 62 = .ok (.iconst 0, 1) := by decide +kernel
theorem dX12_power_63 : decode cX12_power 63 = .ok (.istore 8, 2) := by decide +kernel
theorem dX12_power_65 : decode cX12_power 65 = .ok (.iload 8, 2) := by decide +kernel
theorem dX12_power_67 : decode cX12_power 67 = .ok (.sipush 1024, 3) := by decide +kernel
theorem dX12_power_70 : decode cX12_power 70 = .ok (.if_icmp .ge 94, 3) := by decide +kernel
theorem dX12_power_73 : decode cX12_power 73 = .ok (.aload_n 0, 1) := by decide +kernel
theorem dX12_power_74 : decode cX12_power 74 = .ok (.iload 8, 2) := by decide +kernel
theorem dX12_power_76 : decode cX12_power 76 = .ok (.invokevirtual 277, 3) := by decide +kernel
theorem dX12_power_79 : decode cX12_power 79 = .ok (.ifCond .eq 79, 3) := by decide +kernel
theorem dX12_power_82 : decode cX12_power 82 = .ok (.aload_n 0, 1) := by decide +kernel
theorem dX12_power_83 : decode cX12_power 83 = .ok (.iload 8, 2) := by decide +kernel
theorem dX12_power_85 : decode cX12_power 85 = .ok (.iload_n 2, 1) := by decide +kernel
theorem dX12_power_86 : decode cX12_power 86 = .ok (.invokevirtual 151, 3) := by decide +kernel
theorem dX12_power_89 : decode cX12_power 89 = .ok (.ifCond .ne 69, 3) := by decide +kernel
theorem dX12_power_92 : decode cX12_power 92 = .ok (.aload_n 0, 1) := by decide +kernel
theorem dX12_power_93 : decode cX12_power 93 = .ok (.getfield 69, 3) := by decide +kernel
theorem dX12_power_96 : decode cX12_power 96 = .ok (.iload 8, 2) := by decide +kernel
theorem dX12_power_98 : decode cX12_power 98 = .ok (.baload, 1) := by decide +kernel
theorem dX12_power_99 : decode cX12_power 99 = .ok (.ifCond .ne 59, 3) := by decide +kernel
theorem dX12_power_102 : decode cX12_power 102 = .ok (.aload_n 0, 1) := by decide +kernel
theorem dX12_power_103 : decode cX12_power 103 = .ok (.getfield 69, 3) := by decide +kernel
theorem dX12_power_106 : decode cX12_power 106 = .ok (.iload 8, 2) := by decide +kernel
theorem dX12_power_108 : decode cX12_power 108 = .ok (.iconst 1, 1) := by decide +kernel
theorem dX12_power_109 : decode cX12_power 109 = .ok (.iload_n 2, 1) := by decide +kernel
theorem dX12_power_110 : decode cX12_power 110 = .ok (.ishl, 1) := by decide +kernel
theorem dX12_power_111 : decode cX12_power 111 = .ok (.ior, 1) := by decide +kernel
theorem dX12_power_112 : decode cX12_power 112 = .ok (.baload, 1) := by decide +kernel
theorem dX12_power_113 : decode cX12_power 113 = .ok (.ifCond .ne 6, 3) := by decide +kernel
theorem dX12_power_116 : decode cX12_power 116 = .ok (.goto 42, 3) := by decide +kernel
theorem dX12_power_119 : decode cX12_power 119 = .ok (.lload 4, 2) := by decide +kernel
theorem dX12_power_121 : decode cX12_power 121 = .ok (.lconst 1, 1) := by decide +kernel
theorem dX12_power_122 : decode cX12_power 122 = .ok (.ladd, 1) := by decide +kernel
theorem dX12_power_123 : decode cX12_power 123 = .ok (.lstore 4, 2) := by decide +kernel
theorem dX12_power_125 : decode cX12_power 125 = .ok (.lload 6, 2) := by decide +kernel
theorem dX12_power_127 : decode cX12_power 127 = .ok (.aload_n 0, 1) := by decide +kernel
theorem dX12_power_128 : decode cX12_power 128 = .ok (.aload_n 0, 1) := by decide +kernel
theorem dX12_power_129 : decode cX12_power 129 = .ok (.iload 8, 2) := by decide +kernel
theorem dX12_power_131 : decode cX12_power 131 = .ok (.invokevirtual 291, 3) := by decide +kernel
theorem dX12_power_134 : decode cX12_power 134 = .ok (.invokevirtual 294, 3) := by decide +kernel
theorem dX12_power_137 : decode cX12_power 137 = .ok (.aload_n 0, 1) := by decide +kernel
theorem dX12_power_138 : decode cX12_power 138 = .ok (.aload_n 0, 1) := by decide +kernel
theorem dX12_power_139 : decode cX12_power 139 = .ok (.getfield 138, 3) := by decide +kernel
theorem dX12_power_142 : decode cX12_power 142 = .ok (.aload_n 0, 1) := by decide +kernel
theorem dX12_power_143 : decode cX12_power 143 = .ok (.iload 8, 2) := by decide +kernel
theorem dX12_power_145 : decode cX12_power 145 = .ok (.invokevirtual 291, 3) := by decide +kernel
theorem dX12_power_148 : decode cX12_power 148 = .ok (.isub, 1) := by decide +kernel
theorem dX12_power_149 : decode cX12_power 149 = .ok (.iconst 1, 1) := by decide +kernel
theorem dX12_power_150 : decode cX12_power 150 = .ok (.isub, 1) := by decide +kernel
theorem dX12_power_151 : decode cX12_power 151 = .ok (.invokevirtual 294, 3) := by decide +kernel
theorem dX12_power_154 : decode cX12_power 154 = .ok (.lmul, 1) := by decide +kernel
theorem dX12_power_155 : decode cX12_power 155 = .ok (.ladd, 1) := by decide +kernel
theorem dX12_power_156 : decode cX12_power 156 = .ok (.lstore 6, 2) := by decide +kernel
theorem dX12_power_158 : decode cX12_power 158 = .ok (.iinc 8 1, 3) := by decide +kernel
theorem dX12_power_161 : decode cX12_power 161 = .ok (.goto (-96), 3) := by decide +kernel
theorem dX12_power_164 : decode cX12_power 164 = .ok (.iload_n 3, 1) := by decide +kernel
theorem dX12_power_165 : decode cX12_power 165 = .ok (.ifCond .ne 6, 3) := by decide +kernel
theorem dX12_power_168 : decode cX12_power 168 = .ok (.lload 4, 2) := by decide +kernel
theorem dX12_power_170 : decode cX12_power 170 = .ok (.lreturn, 1) := by decide +kernel
theorem dX12_power_171 : decode cX12_power 171 = .ok (.iload_n 3, 1) := by decide +kernel
theorem dX12_power_172 : decode cX12_power 172 = .ok (.iconst 3, 1) := by decide +kernel
theorem dX12_power_173 : decode cX12_power 173 = .ok (.if_icmp .ge 8, 3) := by decide +kernel
theorem dX12_power_176 : decode cX12_power 176 = .ok (.lload 4, 2) := by decide +kernel
theorem dX12_power_178 : decode cX12_power 178 = .ok (.goto 5, 3) := by decide +kernel
theorem dX12_power_181 : decode cX12_power 181 = .ok (.lload 6, 2) := by decide +kernel
theorem dX12_power_183 : decode cX12_power 183 = .ok (.lstore 8, 2) := by decide +kernel
theorem dX12_power_185 : decode cX12_power 185 = .ok (.iload_n 3, 1) := by decide +kernel
theorem dX12_power_186 : decode cX12_power 186 = .ok (.iconst 3, 1) := by decide +kernel
theorem dX12_power_187 : decode cX12_power 187 = .ok (.if_icmp .ge 14, 3) := by decide +kernel
theorem dX12_power_190 : decode cX12_power 190 = .ok (.lconst 1, 1) := by decide +kernel
theorem dX12_power_191 : decode cX12_power 191 = .ok (.aload_n 0, 1) := by decide +kernel
theorem dX12_power_192 : decode cX12_power 192 = .ok (.getfield 138, 3) := by decide +kernel
theorem dX12_power_195 : decode cX12_power 195 = .ok (.iconst 1, 1) := by decide +kernel
theorem dX12_power_196 : decode cX12_power 196 = .ok (.isub, 1) := by decide +kernel
theorem dX12_power_197 : decode cX12_power 197 = .ok (.lshl, 1) := by decide +kernel
theorem dX12_power_198 : decode cX12_power 198 = .ok (.goto 11, 3) := by decide +kernel
theorem dX12_power_201 : decode cX12_power 201 = .ok (.aload_n 0, 1) := by decide +kernel
theorem dX12_power_202 : decode cX12_power 202 = .ok (.aload_n 0, 1) := by decide +kernel
theorem dX12_power_203 : decode cX12_power 203 = .ok (.getfield 138, 3) := by decide +kernel
theorem dX12_power_206 : decode cX12_power 206 = .ok (.invokevirtual 294, 3) := by decide +kernel
theorem dX12_power_209 : decode cX12_power 209 = .ok (.lstore 10, 2) := by decide +kernel
theorem dX12_power_211 : decode cX12_power 211 = .ok (.iload_n 3, 1) := by decide +kernel
theorem dX12_power_212 : decode cX12_power 212 = .ok (.iconst 2, 1) := by decide +kernel
theorem dX12_power_213 : decode cX12_power 213 = .ok (.irem, 1) := by decide +kernel
theorem dX12_power_214 : decode cX12_power 214 = .ok (.iconst 1, 1) := by decide +kernel
theorem dX12_power_215 : decode cX12_power 215 = .ok (.if_icmp .ne 8, 3) := by decide +kernel
theorem dX12_power_218 : decode cX12_power 218 = .ok (.lload 8, 2) := by decide +kernel
theorem dX12_power_220 : decode cX12_power 220 = .ok (.goto 5, 3) := by decide +kernel
theorem dX12_power_223 : decode cX12_power 223 = .ok (.lload 10, 2) := by decide +kernel
theorem dX12_power_225 : decode cX12_power 225 = .ok (.aload_n 0, 1) := by decide +kernel
theorem dX12_power_226 : decode cX12_power 226 = .ok (.lload 8, 2) := by decide +kernel
theorem dX12_power_228 : decode cX12_power 228 = .ok (.lload 10, 2) := by decide +kernel
theorem dX12_power_230 : decode cX12_power 230 = .ok (.invokevirtual 298, 3) := by decide +kernel
theorem dX12_power_233 : decode cX12_power 233 = .ok (.ldiv, 1) := by decide +kernel
theorem dX12_power_234 : decode cX12_power 234 = .ok (.lreturn, 1) := by decide +kernel
set_option maxRecDepth 20000 in
theorem ggX12_odd_X12_isRule : GoodIn wsX12_odd wsX12_isRule := goodIn_r _ [9, 10, 11, 12, 8, 13] (by decide +kernel) (by decide +kernel)
set_option maxRecDepth 20000 in
theorem gX12_odd_X12_isRule : GoodIn wsX12_odd (wsV RX12 249 RX12 yX12_isRule wsX12_isRule) := goodIn_app (goodIn_of _ (by decide +kernel)) ggX12_odd_X12_isRule
set_option maxRecDepth 20000 in
theorem ggX12_odd_X12_isIn : GoodIn wsX12_odd wsX12_isIn := goodIn_r _ [13] (by decide +kernel) (by decide +kernel)
set_option maxRecDepth 20000 in
theorem gX12_odd_X12_isIn : GoodIn wsX12_odd (wsV RX12 121 RX12 yX12_isIn wsX12_isIn) := goodIn_app (goodIn_of _ (by decide +kernel)) ggX12_odd_X12_isIn
set_option maxRecDepth 20000 in
theorem ggX12_odd_X12_findCarry : GoodIn wsX12_odd wsX12_findCarry := goodIn_r _ [17, 3, 4, 18, 19, 20, 8, 21, 22, 23, 24, 25, 26, 27, 28, 29, 2, 30, 31, 32, 33, 34, 35, 36, 37, 38, 39, 40, 41, 42, 43, 44, 45, 46, 47, 48, 49, 50, 51, 52, 53, 54, 55, 56, 57, 58, 59, 60, 61, 62, 63, 64, 65, 66, 67, 68, 69, 70, 71, 72, 73, 74, 75, 76, 77, 78, 79, 80, 81, 82, 83, 84, 85, 86, 87, 88, 89, 90, 91, 92, 93, 94, 95, 96, 97, 98, 99, 100, 101, 102, 103, 104, 105, 106, 107, 108, 109, 110, 111, 112, 113, 114, 115, 116, 117, 118, 119, 120, 121] (by decide +kernel) (by decide +kernel)
set_option maxRecDepth 20000 in
theorem gX12_odd_X12_findCarry : GoodIn wsX12_odd (wsV RX12 283 RX12 yX12_findCarry wsX12_findCarry) := goodIn_app (goodIn_of _ (by decide +kernel)) ggX12_odd_X12_findCarry
set_option maxRecDepth 20000 in
theorem ggX12_odd_X12_isOf : GoodIn wsX12_odd wsX12_isOf := goodIn_r _ [61] (by decide +kernel) (by decide +kernel)
set_option maxRecDepth 20000 in
theorem gX12_odd_X12_isOf : GoodIn wsX12_odd (wsV RX12 151 RX12 yX12_isOf wsX12_isOf) := goodIn_app (goodIn_of _ (by decide +kernel)) ggX12_odd_X12_isOf
theorem dX12_odd_0 : decode cX12_odd 0 = .ok (.aload_n 0, 1) := by decide +kernel
theorem dX12_odd_1 : decode cX12_odd 1 = .ok (.iconst 0, 1) := by decide +kernel
theorem dX12_odd_2 : decode cX12_odd 2 = .ok (.putfield 115, 3) := by decide +kernel
theorem dX12_odd_5 : decode cX12_odd 5 = .ok (.aload_n 0, 1) := by decide +kernel
theorem dX12_odd_6 : decode cX12_odd 6 = .ok (.iload_n 1, 1) := by decide +kernel
theorem dX12_odd_7 : decode cX12_odd 7 = .ok (.invokevirtual 249, 3) := by decide +kernel
theorem dX12_odd_10 : decode cX12_odd 10 = .ok (.ifCond .eq 13, 3) := by decide +kernel
theorem dX12_odd_13 : decode cX12_odd 13 = .ok (.aload_n 0, 1) := by decide +kernel
theorem dX12_odd_14 : decode cX12_odd 14 = .ok (.iload_n 2, 1) := by decide +kernel
theorem dX12_odd_15 : decode cX12_odd 15 = .ok (.iconst 0, 1) := by decide +kernel
theorem dX12_odd_16 : decode cX12_odd 16 = .ok (.iconst 1, 1) := by decide +kernel
theorem dX12_odd_17 : decode cX12_odd 17 = .ok (.invokevirtual 121, 3) := by decide +kernel
theorem dX12_odd_20 : decode cX12_odd 20 = .ok (.ifCond .ne 5, 3) := by decide +kernel
theorem dX12_odd_23 : decode cX12_odd 23 = .ok (.iconst (-1), 1) := by decide +kernel
theorem dX12_odd_24 : decode cX12_odd 24 = .ok (.ireturn, 1) := by decide +kernel
theorem dX12_odd_25 : decode cX12_odd 25 = .ok (.aload_n 0, 1) := by decide +kernel
theorem dX12_odd_26 : decode cX12_odd 26 = .ok (.iload_n 1, 1) := by decide +kernel
theorem dX12_odd_27 : decode cX12_odd 27 = .ok (.invokevirtual 283, 3) := by decide +kernel
theorem dX12_odd_30 : decode cX12_odd 30 = .ok (.iconst 0, 1) := by decide +kernel
theorem dX12_odd_31 : decode cX12_odd 31 = .ok (.istore_n 3, 1) := by decide +kernel
theorem dX12_odd_32 : decode cX12_odd 32 = .ok (.iload_n 3, 1) := by decide +kernel
theorem dX12_odd_33 : decode cX12_odd 33 = .ok (.sipush 1024, 3) := by decide +kernel
theorem dX12_odd_36 : decode cX12_odd 36 = .ok (.if_icmp .ge 84, 3) := by decide +kernel
theorem dX12_odd_39 : decode cX12_odd 39 = .ok (.iconst 0, 1) := by decide +kernel
theorem dX12_odd_40 : decode cX12_odd 40 = .ok (.istore 4, 2) := by decide +kernel
theorem dX12_odd_42 : decode cX12_odd 42 = .ok (.iload 4, 2) := by decide +kernel
theorem dX12_odd_44 : decode cX12_odd 44 = .ok (.aload_n 0, 1) := by decide +kernel
theorem dX12_odd_45 : decode cX12_odd 45 = .ok (.getfield 118, 3) := by decide +kernel
theorem dX12_odd_48 : decode cX12_odd 48 = .ok (.if_icmp .ge 66, 3) := by decide +kernel
theorem dX12_odd_51 : decode cX12_odd 51 = .ok (.aload_n 0, 1) := by decide +kernel
theorem dX12_odd_52 : decode cX12_odd 52 = .ok (.getfield 69, 3) := by decide +kernel
theorem dX12_odd_55 : decode cX12_odd 55 = .ok (.iload_n 3, 1) := by decide +kernel
theorem dX12_odd_56 : decode cX12_odd 56 = .ok (.baload, 1) := by decide +kernel
theorem dX12_odd_57 : decode cX12_odd 57 = .ok (.ifCond .eq 57, 3) := by decide +kernel
theorem dX12_odd_60 : decode cX12_odd 60 = .ok (.aload_n 0, 1) := by decide +kernel
theorem dX12_odd_61 : decode cX12_odd 61 = .ok (.aload_n 0, 1) := by decide +kernel
theorem dX12_odd_62 : decode cX12_odd 62 = .ok (.getfield 135, 3) := by decide +kernel
theorem dX12_odd_65 : decode cX12_odd 65 = .ok (.iload 4, 2) := by decide +kernel
theorem dX12_odd_67 : decode cX12_odd 67 = .ok (.invokevirtual 151, 3) := by decide +kernel
theorem dX12_odd_70 : decode cX12_odd 70 = .ok (.ifCond .eq 38, 3) := by decide +kernel
theorem dX12_odd_73 : decode cX12_odd 73 = .ok (.aload_n 0, 1) := by decide +kernel
theorem dX12_odd_74 : decode cX12_odd 74 = .ok (.iload_n 3, 1) := by decide +kernel
theorem dX12_odd_75 : decode cX12_odd 75 = .ok (.iload 4, 2) := by decide +kernel
theorem dX12_odd_77 : decode cX12_odd 77 = .ok (.invokevirtual 151, 3) := by decide +kernel
theorem dX12_odd_80 : decode cX12_odd 80 = .ok (.ifCond .ne 28, 3) := by decide +kernel
theorem dX12_odd_83 : decode cX12_odd 83 = .ok (.aload_n 0, 1) := by decide +kernel
theorem dX12_odd_84 : decode cX12_odd 84 = .ok (.getfield 69, 3) := by decide +kernel
theorem dX12_odd_87 : decode cX12_odd 87 = .ok (.iload_n 3, 1) := by decide +kernel
theorem dX12_odd_88 : decode cX12_odd 88 = .ok (.iconst 1, 1) := by decide +kernel
theorem dX12_odd_89 : decode cX12_odd 89 = .ok (.iload 4, 2) := by decide +kernel
theorem dX12_odd_91 : decode cX12_odd 91 = .ok (.ishl, 1) := by decide +kernel
theorem dX12_odd_92 : decode cX12_odd 92 = .ok (.ior, 1) := by decide +kernel
theorem dX12_odd_93 : decode cX12_odd 93 = .ok (.baload, 1) := by decide +kernel
theorem dX12_odd_94 : decode cX12_odd 94 = .ok (.ifCond .ne 14, 3) := by decide +kernel
theorem dX12_odd_97 : decode cX12_odd 97 = .ok (.iload_n 2, 1) := by decide +kernel
theorem dX12_odd_98 : decode cX12_odd 98 = .ok (.ifCond .ne 7, 3) := by decide +kernel
theorem dX12_odd_101 : decode cX12_odd 101 = .ok (.iload_n 3, 1) := by decide +kernel
theorem dX12_odd_102 : decode cX12_odd 102 = .ok (.goto 5, 3) := by decide +kernel
theorem dX12_odd_105 : decode cX12_odd 105 = .ok (.iload 4, 2) := by decide +kernel
theorem dX12_odd_107 : decode cX12_odd 107 = .ok (.ireturn, 1) := by decide +kernel
theorem dX12_odd_108 : decode cX12_odd 108 = .ok (.iinc 4 1, 3) := by decide +kernel
theorem dX12_odd_111 : decode cX12_odd 111 = .ok (.goto (-69), 3) := by decide +kernel
theorem dX12_odd_114 : decode cX12_odd 114 = .ok (.iinc 3 1, 3) := by decide +kernel
theorem dX12_odd_117 : decode cX12_odd 117 = .ok (.goto (-85), 3) := by decide +kernel
theorem dX12_odd_120 : decode cX12_odd 120 = .ok (.iconst (-1), 1) := by decide +kernel
theorem dX12_odd_121 : decode cX12_odd 121 = .ok (.ireturn, 1) := by decide +kernel
set_option maxRecDepth 20000 in
theorem ggX12_isWorth_X12_isSet : GoodIn wsX12_isWorth wsX12_isSet := goodIn_r _ [6, 7, 12, 13, 14, 15, 16, 17, 18, 19, 20, 21, 22, 23, 24, 25, 26, 27, 28, 29, 30, 31, 32, 33, 34, 35, 36, 37, 38, 39, 40, 41, 42, 43, 44, 45, 46, 47, 48, 49, 50, 51, 52, 53, 54, 55, 56, 57, 58, 59, 60, 61, 62, 63] (by decide +kernel) (by decide +kernel)
set_option maxRecDepth 20000 in
theorem gX12_isWorth_X12_isSet : GoodIn wsX12_isWorth (wsV RX12 277 RX12 yX12_isSet wsX12_isSet) := goodIn_app (goodIn_of _ (by decide +kernel)) ggX12_isWorth_X12_isSet
set_option maxRecDepth 20000 in
theorem ggX12_isWorth_X12_isOf : GoodIn wsX12_isWorth wsX12_isOf := goodIn_r _ [11] (by decide +kernel) (by decide +kernel)
set_option maxRecDepth 20000 in
theorem gX12_isWorth_X12_isOf : GoodIn wsX12_isWorth (wsV RX12 151 RX12 yX12_isOf wsX12_isOf) := goodIn_app (goodIn_of _ (by decide +kernel)) ggX12_isWorth_X12_isOf
theorem dX12_isWorth_0 : decode cX12_isWorth 0 = .ok (.iconst 0, 1) := by decide +kernel
theorem dX12_isWorth_1 : decode cX12_isWorth 1 = .ok (.istore_n 3, 1) := by decide +kernel
theorem dX12_isWorth_2 : decode cX12_isWorth 2 = .ok (.iload_n 3, 1) := by decide +kernel
theorem dX12_isWorth_3 : decode cX12_isWorth 3 = .ok (.sipush 1024, 3) := by decide +kernel
theorem dX12_isWorth_6 : decode cX12_isWorth 6 = .ok (.if_icmp .ge 63, 3) := by decide +kernel
theorem dX12_isWorth_9 : decode cX12_isWorth 9 = .ok (.aload_n 0, 1) := by decide +kernel
theorem dX12_isWorth_10 : decode cX12_isWorth 10 = .ok (.iload_n 3, 1) := by decide +kernel
theorem dX12_isWorth_11 : decode cX12_isWorth 11 = .ok (.invokevirtual 277, 3) := by decide +kernel
theorem dX12_isWorth_14 : decode cX12_isWorth 14 = .ok (.ifCond .eq 49, 3) := by decide +kernel
theorem dX12_isWorth_17 : decode cX12_isWorth 17 = .ok (.aload_n 0, 1) := by decide +kernel
theorem dX12_isWorth_18 : decode cX12_isWorth 18 = .ok (.iload_n 3, 1) := by decide +kernel
theorem dX12_isWorth_19 : decode cX12_isWorth 19 = .ok (.iload_n 1, 1) := by decide +kernel
theorem dX12_isWorth_20 : decode cX12_isWorth 20 = .ok (.invokevirtual 151, 3) := by decide +kernel
theorem dX12_isWorth_23 : decode cX12_isWorth 23 = .ok (.ifCond .ne 40, 3) := by decide +kernel
theorem dX12_isWorth_26 : decode cX12_isWorth 26 = .ok (.aload_n 0, 1) := by decide +kernel
theorem dX12_isWorth_27 : decode cX12_isWorth 27 = .ok (.iload_n 3, 1) := by decide +kernel
theorem dX12_isWorth_28 : decode cX12_isWorth 28 = .ok (.iload_n 2, 1) := by decide +kernel
theorem dX12_isWorth_29 : decode cX12_isWorth 29 = .ok (.invokevirtual 151, 3) := by decide +kernel
theorem dX12_isWorth_32 : decode cX12_isWorth 32 = .ok (.ifCond .ne 31, 3) := by decide +kernel
theorem dX12_isWorth_35 : decode cX12_isWorth 35 = .ok (.aload_n 0, 1) := by decide +kernel
theorem dX12_isWorth_36 : decode cX12_isWorth 36 = .ok (.getfield 69, 3) := by decide +kernel
theorem dX12_isWorth_39 : decode cX12_isWorth 39 = .ok (.iload_n 3, 1) := by decide +kernel
theorem dX12_isWorth_40 : decode cX12_isWorth 40 = .ok (.iconst 1, 1) := by decide +kernel
theorem dX12_isWorth_41 : decode cX12_isWorth 41 = .ok (.iload_n 2, 1) := by decide +kernel
theorem dX12_isWorth_42 : decode cX12_isWorth 42 = .ok (.ishl, 1) := by decide +kernel
theorem dX12_isWorth_43 : decode cX12_isWorth 43 = .ok (.ior, 1) := by decide +kernel
theorem dX12_isWorth_44 : decode cX12_isWorth 44 = .ok (.baload, 1) := by decide +kernel
theorem dX12_isWorth_45 : decode cX12_isWorth 45 = .ok (.ifCond .eq 18, 3) := by decide +kernel
theorem dX12_isWorth_48 : decode cX12_isWorth 48 = .ok (.aload_n 0, 1) := by decide +kernel
theorem dX12_isWorth_49 : decode cX12_isWorth 49 = .ok (.getfield 69, 3) := by decide +kernel
theorem dX12_isWorth_52 : decode cX12_isWorth 52 = .ok (.iload_n 3, 1) := by decide +kernel
theorem dX12_isWorth_53 : decode cX12_isWorth 53 = .ok (.iconst 1, 1) := by decide +kernel
theorem dX12_isWorth_54 : decode cX12_isWorth 54 = .ok (.iload_n 1, 1) := by decide +kernel
theorem dX12_isWorth_55 : decode cX12_isWorth 55 = .ok (.ishl, 1) := by decide +kernel
theorem dX12_isWorth_56 : decode cX12_isWorth 56 = .ok (.ior, 1) := by decide +kernel
theorem dX12_isWorth_57 : decode cX12_isWorth 57 = .ok (.baload, 1) := by decide +kernel
theorem dX12_isWorth_58 : decode cX12_isWorth 58 = .ok (.ifCond .ne 5, 3) := by decide +kernel
theorem dX12_isWorth_61 : decode cX12_isWorth 61 = .ok (.iconst 0, 1) := by decide +kernel
theorem dX12_isWorth_62 : decode cX12_isWorth 62 = .ok (.ireturn, 1) := by decide +kernel
theorem dX12_isWorth_63 : decode cX12_isWorth 63 = .ok (.iinc 3 1, 3) := by decide +kernel
theorem dX12_isWorth_66 : decode cX12_isWorth 66 = .ok (.goto (-64), 3) := by decide +kernel
theorem dX12_isWorth_69 : decode cX12_isWorth 69 = .ok (.iconst 1, 1) := by decide +kernel
theorem dX12_isWorth_70 : decode cX12_isWorth 70 = .ok (.ireturn, 1) := by decide +kernel
set_option maxRecDepth 20000 in
theorem ggX12_worth_X12_isRule : GoodIn wsX12_worth wsX12_isRule := goodIn_r _ [7, 8, 9, 10, 6, 11] (by decide +kernel) (by decide +kernel)
set_option maxRecDepth 20000 in
theorem gX12_worth_X12_isRule : GoodIn wsX12_worth (wsV RX12 249 RX12 yX12_isRule wsX12_isRule) := goodIn_app (goodIn_of _ (by decide +kernel)) ggX12_worth_X12_isRule
set_option maxRecDepth 20000 in
theorem ggX12_worth_X12_isMember : GoodIn wsX12_worth wsX12_isMember := goodIn_r _ [15, 16, 82, 83, 84, 85, 86, 87, 88, 89, 90, 91, 92, 93, 94, 95, 96, 97, 98, 99, 100, 101, 102, 103, 104, 105, 106, 107, 108, 109, 110, 111, 112, 113, 114, 115, 116, 117, 118, 119, 120, 121, 122, 123, 124, 125, 126, 127, 128, 129, 130, 131, 132, 133] (by decide +kernel) (by decide +kernel)
set_option maxRecDepth 20000 in
theorem gX12_worth_X12_isMember : GoodIn wsX12_worth (wsV RX12 125 RX12 yX12_isMember wsX12_isMember) := goodIn_app (goodIn_of _ (by decide +kernel)) ggX12_worth_X12_isMember
set_option maxRecDepth 20000 in
theorem ggX12_worth_X12_findCarry : GoodIn wsX12_worth wsX12_findCarry := goodIn_r _ [20, 21, 2, 22, 23, 24, 6, 25, 26, 27, 28, 29, 30, 31, 32, 33, 16, 34, 35, 36, 37, 38, 39, 40, 41, 42, 43, 44, 45, 46, 47, 48, 49, 50, 51, 52, 53, 54, 55, 56, 57, 58, 59, 60, 61, 62, 63, 64, 65, 66, 67, 68, 69, 70, 71, 72, 73, 82, 83, 84, 85, 86, 87, 88, 89, 90, 91, 92, 93, 94, 95, 96, 97, 98, 99, 100, 101, 102, 103, 104, 105, 106, 107, 108, 109, 110, 111, 112, 113, 114, 115, 116, 117, 118, 119, 120, 121, 122, 123, 124, 125, 126, 127, 128, 129, 130, 131, 132, 133] (by decide +kernel) (by decide +kernel)
set_option maxRecDepth 20000 in
theorem gX12_worth_X12_findCarry : GoodIn wsX12_worth (wsV RX12 283 RX12 yX12_findCarry wsX12_findCarry) := goodIn_app (goodIn_of _ (by decide +kernel)) ggX12_worth_X12_findCarry
set_option maxRecDepth 20000 in
theorem ggX12_worth_X12_isOf : GoodIn wsX12_worth wsX12_isOf := goodIn_r _ [65] (by decide +kernel) (by decide +kernel)
set_option maxRecDepth 20000 in
theorem gX12_worth_X12_isOf : GoodIn wsX12_worth (wsV RX12 151 RX12 yX12_isOf wsX12_isOf) := goodIn_app (goodIn_of _ (by decide +kernel)) ggX12_worth_X12_isOf
set_option maxRecDepth 20000 in
theorem ggX12_worth_X12_isWorth : GoodIn wsX12_worth wsX12_isWorth := goodIn_r _ [77, 21, 78, 79, 80, 6, 81, 2, 62, 63, 64, 65, 82, 83, 84, 85, 86, 87, 88, 89, 90, 91, 92, 93, 94, 95, 96, 97, 98, 99, 100, 101, 102, 103, 104, 105, 106, 107, 108, 109, 110, 111, 112, 113, 114, 115, 116, 117, 118, 119, 120, 121, 122, 123, 124, 125, 126, 127, 128, 129, 130, 131, 132, 133] (by decide +kernel) (by decide +kernel)
set_option maxRecDepth 20000 in
theorem gX12_worth_X12_isWorth : GoodIn wsX12_worth (wsV RX12 302 RX12 yX12_isWorth wsX12_isWorth) := goodIn_app (goodIn_of _ (by decide +kernel)) ggX12_worth_X12_isWorth
theorem dX12_worth_0 : decode cX12_worth 0 = .ok (.aload_n 0, 1) := by decide +kernel
theorem dX12_worth_1 : decode cX12_worth 1 = .ok (.iconst 0, 1) := by decide +kernel
theorem dX12_worth_2 : decode cX12_worth 2 = .ok (.putfield 115, 3) := by decide +kernel
theorem dX12_worth_5 : decode cX12_worth 5 = .ok (.aload_n 0, 1) := by decide +kernel
theorem dX12_worth_6 : decode cX12_worth 6 = .ok (.iload_n 1, 1) := by decide +kernel
theorem dX12_worth_7 : decode cX12_worth 7 = .ok (.invokevirtual 249, 3) := by decide +kernel
theorem dX12_worth_10 : decode cX12_worth 10 = .ok (.ifCond .eq 24, 3) := by decide +kernel
theorem dX12_worth_13 : decode cX12_worth 13 = .ok (.aload_n 0, 1) := by decide +kernel
theorem dX12_worth_14 : decode cX12_worth 14 = .ok (.iload_n 2, 1) := by decide +kernel
theorem dX12_worth_15 : decode cX12_worth 15 = .ok (.invokevirtual 125, 3) := by decide +kernel
theorem dX12_worth_18 : decode cX12_worth 18 = .ok (.ifCond .eq 16, 3) := by decide +kernel
theorem dX12_worth_21 : decode cX12_worth 21 = .ok (.aload_n 0, 1) := by decide +kernel
theorem dX12_worth_22 : decode cX12_worth 22 = .ok (.iload_n 3, 1) := by decide +kernel
theorem dX12_worth_23 : decode cX12_worth 23 = .ok (.invokevirtual 125, 3) := by decide +kernel
theorem dX12_worth_26 : decode cX12_worth 26 = .ok (.ifCond .eq 8, 3) := by decide +kernel
theorem dX12_worth_29 : decode cX12_worth 29 = .ok (.iload_n 2, 1) := by decide +kernel
theorem dX12_worth_30 : decode cX12_worth 30 = .ok (.iload_n 3, 1) := by decide +kernel
theorem dX12_worth_31 : decode cX12_worth 31 = .ok (.if_icmp .ne 5, 3) := by decide +kernel
theorem dX12_worth_34 : decode cX12_worth 34 = .ok (.iconst (-1), 1) := by decide +kernel
theorem dX12_worth_35 : decode cX12_worth 35 = .ok (.ireturn, 1) := by decide +kernel
theorem dX12_worth_36 : decode cX12_worth 36 = .ok (.aload_n 0, 1) := by decide +kernel
theorem dX12_worth_37 : decode cX12_worth 37 = .ok (.iload_n 1, 1) := by decide +kernel
theorem dX12_worth_38 : decode cX12_worth 38 = .ok (.invokevirtual 283, 3) := by decide +kernel
theorem dX12_worth_41 : decode cX12_worth 41 = .ok (.aload_n 0, 1) := by decide +kernel
theorem dX12_worth_42 : decode cX12_worth 42 = .ok (.aload_n 0, 1) := by decide +kernel
theorem dX12_worth_43 : decode cX12_worth 43 = .ok (.getfield 135, 3) := by decide +kernel
theorem dX12_worth_46 : decode cX12_worth 46 = .ok (.iload_n 2, 1) := by decide +kernel
theorem dX12_worth_47 : decode cX12_worth 47 = .ok (.invokevirtual 151, 3) := by decide +kernel
theorem dX12_worth_50 : decode cX12_worth 50 = .ok (.ifCond .eq 15, 3) := by decide +kernel
theorem dX12_worth_53 : decode cX12_worth 53 = .ok (.aload_n 0, 1) := by decide +kernel
theorem dX12_worth_54 : decode cX12_worth 54 = .ok (.aload_n 0, 1) := by decide +kernel
theorem dX12_worth_55 : decode cX12_worth 55 = .ok (.getfield 135, 3) := by decide +kernel
theorem dX12_worth_58 : decode cX12_worth 58 = .ok (.iload_n 3, 1) := by decide +kernel
theorem dX12_worth_59 : decode cX12_worth 59 = .ok (.invokevirtual 151, 3) := by decide +kernel
theorem dX12_worth_62 : decode cX12_worth 62 = .ok (.ifCond .ne 5, 3) := by decide +kernel
theorem dX12_worth_65 : decode cX12_worth 65 = .ok (.iconst (-1), 1) := by decide +kernel
theorem dX12_worth_66 : decode cX12_worth 66 = .ok (.ireturn, 1) := by decide +kernel
theorem dX12_worth_67 : decode cX12_worth 67 = .ok (.aload_n 0, 1) := by decide +kernel
theorem dX12_worth_68 : decode cX12_worth 68 = .ok (.iload_n 2, 1) := by decide +kernel
theorem dX12_worth_69 : decode cX12_worth 69 = .ok (.iload_n 3, 1) := by decide +kernel
theorem dX12_worth_70 : decode cX12_worth 70 = .ok (.invokevirtual 302, 3) := by decide +kernel
theorem dX12_worth_73 : decode cX12_worth 73 = .ok (.ifCond .eq 7, 3) := by decide +kernel
theorem dX12_worth_76 : decode cX12_worth 76 = .ok (.iconst 1, 1) := by decide +kernel
theorem dX12_worth_77 : decode cX12_worth 77 = .ok (.goto 4, 3) := by decide +kernel
theorem dX12_worth_80 : decode cX12_worth 80 = .ok (.iconst 0, 1) := by decide +kernel
theorem dX12_worth_81 : decode cX12_worth 81 = .ok (.aload_n 0, 1) := by decide +kernel
theorem dX12_worth_82 : decode cX12_worth 82 = .ok (.iload_n 3, 1) := by decide +kernel
theorem dX12_worth_83 : decode cX12_worth 83 = .ok (.iload_n 2, 1) := by decide +kernel
theorem dX12_worth_84 : decode cX12_worth 84 = .ok (.invokevirtual 302, 3) := by decide +kernel
theorem dX12_worth_87 : decode cX12_worth 87 = .ok (.ifCond .eq 7, 3) := by decide +kernel
theorem dX12_worth_90 : decode cX12_worth 90 = .ok (.iconst 2, 1) := by decide +kernel
theorem dX12_worth_91 : decode cX12_worth 91 = .ok (.goto 4, 3) := by decide +kernel
theorem dX12_worth_94 : decode cX12_worth 94 = .ok (.iconst 0, 1) := by decide +kernel
theorem dX12_worth_95 : decode cX12_worth 95 = .ok (.iadd, 1) := by decide +kernel
theorem dX12_worth_96 : decode cX12_worth 96 = .ok (.ireturn, 1) := by decide +kernel
set_option maxRecDepth 20000 in
theorem ggX12_findThrees_X12_isOf : GoodIn wsX12_findThrees wsX12_isOf := goodIn_r _ [6] (by decide +kernel) (by decide +kernel)
set_option maxRecDepth 20000 in
theorem gX12_findThrees_X12_isOf : GoodIn wsX12_findThrees (wsV RX12 151 RX12 yX12_isOf wsX12_isOf) := goodIn_app (goodIn_of _ (by decide +kernel)) ggX12_findThrees_X12_isOf
theorem dX12_findThrees_0 : decode cX12_findThrees 0 = .ok (.iconst 0, 1) := by decide +kernel
theorem dX12_findThrees_1 : decode cX12_findThrees 1 = .ok (.istore_n 1, 1) := by decide +kernel
theorem dX12_findThrees_2 : decode cX12_findThrees 2 = .ok (.iload_n 1, 1) := by decide +kernel
theorem dX12_findThrees_3 : decode cX12_findThrees 3 = .ok (.sipush 1024, 3) := by decide +kernel
theorem dX12_findThrees_6 : decode cX12_findThrees 6 = .ok (.if_icmp .ge 59, 3) := by decide +kernel
theorem dX12_findThrees_9 : decode cX12_findThrees 9 = .ok (.aload_n 0, 1) := by decide +kernel
theorem dX12_findThrees_10 : decode cX12_findThrees 10 = .ok (.getfield 76, 3) := by decide +kernel
theorem dX12_findThrees_13 : decode cX12_findThrees 13 = .ok (.iload_n 1, 1) := by decide +kernel
theorem dX12_findThrees_14 : decode cX12_findThrees 14 = .ok (.iconst 0, 1) := by decide +kernel
theorem dX12_findThrees_15 : decode cX12_findThrees 15 = .ok (.iastore, 1) := by decide +kernel
theorem dX12_findThrees_16 : decode cX12_findThrees 16 = .ok (.iconst 1, 1) := by decide +kernel
theorem dX12_findThrees_17 : decode cX12_findThrees 17 = .ok (.istore_n 2, 1) := by decide +kernel
theorem dX12_findThrees_18 : decode cX12_findThrees 18 = .ok (.iconst 0, 1) := by decide +kernel
theorem dX12_findThrees_19 : decode cX12_findThrees 19 = .ok (.istore_n 3, 1) := by decide +kernel
theorem dX12_findThrees_20 : decode cX12_findThrees 20 = .ok (.iload_n 3, 1) := by decide +kernel
theorem dX12_findThrees_21 : decode cX12_findThrees 21 = .ok (.bipush 10, 2) := by decide +kernel
theorem dX12_findThrees_23 : decode cX12_findThrees 23 = .ok (.if_icmp .ge 36, 3) := by decide +kernel
theorem dX12_findThrees_26 : decode cX12_findThrees 26 = .ok (.aload_n 0, 1) := by decide +kernel
theorem dX12_findThrees_27 : decode cX12_findThrees 27 = .ok (.iload_n 1, 1) := by decide +kernel
theorem dX12_findThrees_28 : decode cX12_findThrees 28 = .ok (.iload_n 3, 1) := by decide +kernel
theorem dX12_findThrees_29 : decode cX12_findThrees 29 = .ok (.invokevirtual 151, 3) := by decide +kernel
theorem dX12_findThrees_32 : decode cX12_findThrees 32 = .ok (.ifCond .eq 17, 3) := by decide +kernel
theorem dX12_findThrees_35 : decode cX12_findThrees 35 = .ok (.aload_n 0, 1) := by decide +kernel
theorem dX12_findThrees_36 : decode cX12_findThrees 36 = .ok (.getfield 76, 3) := by decide +kernel
theorem dX12_findThrees_39 : decode cX12_findThrees 39 = .ok (.iload_n 1, 1) := by decide +kernel
theorem dX12_findThrees_40 : decode cX12_findThrees 40 = .ok (.aload_n 0, 1) := by decide +kernel
theorem dX12_findThrees_41 : decode cX12_findThrees 41 = .ok (.getfield 76, 3) := by decide +kernel
theorem dX12_findThrees_44 : decode cX12_findThrees 44 = .ok (.iload_n 1, 1) := by decide +kernel
theorem dX12_findThrees_45 : decode cX12_findThrees 45 = .ok (.iaload, 1) := by decide +kernel
theorem dX12_findThrees_46 : decode cX12_findThrees 46 = .ok (.iload_n 2, 1) := by decide +kernel
theorem dX12_findThrees_47 : decode cX12_findThrees 47 = .ok (.iadd, 1) := by decide +kernel
theorem dX12_findThrees_48 : decode cX12_findThrees 48 = .ok (.iastore, 1) := by decide +kernel
theorem dX12_findThrees_49 : decode cX12_findThrees 49 = .ok (.iconst 3, 1) := by decide +kernel
theorem dX12_findThrees_50 : decode cX12_findThrees 50 = .ok (.iload_n 2, 1) := by decide +kernel
theorem dX12_findThrees_51 : decode cX12_findThrees 51 = .ok (.imul, 1) := by decide +kernel
theorem dX12_findThrees_52 : decode cX12_findThrees 52 = .ok (.istore_n 2, 1) := by decide +kernel
theorem dX12_findThrees_53 : decode cX12_findThrees 53 = .ok (.iinc 3 1, 3) := by decide +kernel
theorem dX12_findThrees_56 : decode cX12_findThrees 56 = .ok (.goto (-36), 3) := by decide +kernel
theorem dX12_findThrees_59 : decode cX12_findThrees 59 = .ok (.iinc 1 1, 3) := by decide +kernel
theorem dX12_findThrees_62 : decode cX12_findThrees 62 = .ok (.goto (-60), 3) := by decide +kernel
theorem dX12_findThrees_65 : decode cX12_findThrees 65 = .ok (.return_, 1) := by decide +kernel
set_option maxRecDepth 20000 in
theorem ggX12_findLosing_X12_findThrees : GoodIn wsX12_findLosing wsX12_findThrees := goodIn_r _ [9, 4, 10, 11, 12, 8, 13, 19, 20, 21, 22, 23, 24, 25, 26, 27, 28, 29, 30, 31, 32, 33, 34, 35, 36, 37, 38, 39, 40, 41, 42, 43, 44, 45, 46, 47, 48, 49, 50, 51, 52, 53, 54, 55, 56, 57, 58, 59, 60, 61, 62, 63, 64, 65, 66, 67, 68, 69, 70] (by decide +kernel) (by decide +kernel)
set_option maxRecDepth 20000 in
theorem gX12_findLosing_X12_findThrees : GoodIn wsX12_findLosing (wsV RX12 305 RX12 yX12_findThrees wsX12_findThrees) := goodIn_app (goodIn_of _ (by decide +kernel)) ggX12_findLosing_X12_findThrees
set_option maxRecDepth 20000 in
theorem ggX12_findLosing_X12_isSet : GoodIn wsX12_findLosing wsX12_isSet := goodIn_r _ [17, 18, 19, 20, 21, 22, 23, 24, 25, 26, 27, 28, 29, 30, 31, 32, 33, 34, 35, 36, 37, 38, 39, 40, 41, 42, 43, 44, 45, 46, 47, 48, 49, 50, 51, 52, 53, 54, 55, 56, 57, 58, 59, 60, 61, 62, 63, 64, 65, 66, 67, 68, 69, 70] (by decide +kernel) (by decide +kernel)
set_option maxRecDepth 20000 in
theorem gX12_findLosing_X12_isSet : GoodIn wsX12_findLosing (wsV RX12 277 RX12 yX12_isSet wsX12_isSet) := goodIn_app (goodIn_of _ (by decide +kernel)) ggX12_findLosing_X12_isSet
theorem dX12_findLosing_0 : decode cX12_findLosing 0 = .ok (.aload_n 0, 1) := by decide +kernel
theorem dX12_findLosing_1 : decode cX12_findLosing 1 = .ok (.invokevirtual 305, 3) := by decide +kernel
theorem dX12_findLosing_4 : decode cX12_findLosing 4 = .ok (.iconst 0, 1) := by decide +kernel
theorem dX12_findLosing_5 : decode cX12_findLosing 5 = .ok (.istore_n 1, 1) := by decide +kernel
theorem dX12_findLosing_6 : decode cX12_findLosing 6 = .ok (.iload_n 1, 1) := by decide +kernel
theorem dX12_findLosing_7 : decode cX12_findLosing 7 = .ok (.ldc 72, 2) := by decide +kernel
theorem dX12_findLosing_9 : decode cX12_findLosing 9 = .ok (.if_icmp .ge 16, 3) := by decide +kernel
theorem dX12_findLosing_12 : decode cX12_findLosing 12 = .ok (.aload_n 0, 1) := by decide +kernel
theorem dX12_findLosing_13 : decode cX12_findLosing 13 = .ok (.getfield 73, 3) := by decide +kernel
theorem dX12_findLosing_16 : decode cX12_findLosing 16 = .ok (.iload_n 1, 1) := by decide +kernel
theorem dX12_findLosing_17 : decode cX12_findLosing 17 = .ok (.iconst (-1), 1) := by decide +kernel
theorem dX12_findLosing_18 : decode cX12_findLosing 18 = .ok (.iastore, 1) := by decide +kernel
theorem dX12_findLosing_19 : decode cX12_findLosing 19 = .ok (.iinc 1 1, 3) := by decide +kernel
theorem dX12_findLosing_22 : decode cX12_findLosing 22 = .ok (.goto (-16), 3) := by decide +kernel
theorem dX12_findLosing_25 : decode cX12_findLosing 25 = .ok (.iconst 0, 1) := by decide +kernel
theorem dX12_findLosing_26 : decode cX12_findLosing 26 = .ok (.istore_n 1, 1) := by decide +kernel
theorem dX12_findLosing_27 : decode cX12_findLosing 27 = .ok (.iload_n 1, 1) := by decide +kernel
theorem dX12_findLosing_28 : decode cX12_findLosing 28 = .ok (.sipush 1024, 3) := by decide +kernel
theorem dX12_findLosing_31 : decode cX12_findLosing 31 = .ok (.if_icmp .ge 97, 3) := by decide +kernel
theorem dX12_findLosing_34 : decode cX12_findLosing 34 = .ok (.aload_n 0, 1) := by decide +kernel
theorem dX12_findLosing_35 : decode cX12_findLosing 35 = .ok (.iload_n 1, 1) := by decide +kernel
theorem dX12_findLosing_36 : decode cX12_findLosing 36 = .ok (.invokevirtual 277, 3) := by decide +kernel
theorem dX12_findLosing_39 : decode cX12_findLosing 39 = .ok (.ifCond .eq 83, 3) := by decide +kernel
theorem dX12_findLosing_42 : decode cX12_findLosing 42 = .ok (.aload_n 0, 1) := by decide +kernel
theorem dX12_findLosing_43 : decode cX12_findLosing 43 = .ok (.getfield 69, 3) := by decide +kernel
theorem dX12_findLosing_46 : decode cX12_findLosing 46 = .ok (.iload_n 1, 1) := by decide +kernel
theorem dX12_findLosing_47 : decode cX12_findLosing 47 = .ok (.baload, 1) := by decide +kernel
theorem dX12_findLosing_48 : decode cX12_findLosing 48 = .ok (.ifCond .eq 6, 3) := by decide +kernel
theorem dX12_findLosing_51 : decode cX12_findLosing 51 = .ok (.goto 71, 3) := by decide +kernel
theorem dX12_findLosing_54 : decode cX12_findLosing 54 = .ok (.iload_n 1, 1) := by decide +kernel
theorem dX12_findLosing_55 : decode cX12_findLosing 55 = .ok (.iconst 1, 1) := by decide +kernel
theorem dX12_findLosing_56 : decode cX12_findLosing 56 = .ok (.iadd, 1) := by decide +kernel
theorem dX12_findLosing_57 : decode cX12_findLosing 57 = .ok (.istore_n 2, 1) := by decide +kernel
theorem dX12_findLosing_58 : decode cX12_findLosing 58 = .ok (.iload_n 2, 1) := by decide +kernel
theorem dX12_findLosing_59 : decode cX12_findLosing 59 = .ok (.sipush 1024, 3) := by decide +kernel
theorem dX12_findLosing_62 : decode cX12_findLosing 62 = .ok (.if_icmp .ge 60, 3) := by decide +kernel
theorem dX12_findLosing_65 : decode cX12_findLosing 65 = .ok (.aload_n 0, 1) := by decide +kernel
theorem dX12_findLosing_66 : decode cX12_findLosing 66 = .ok (.iload_n 2, 1) := by decide +kernel
theorem dX12_findLosing_67 : decode cX12_findLosing 67 = .ok (.invokevirtual 277, 3) := by decide +kernel
theorem dX12_findLosing_70 : decode cX12_findLosing 70 = .ok (.ifCond .eq 46, 3) := by decide +kernel
theorem dX12_findLosing_73 : decode cX12_findLosing 73 = .ok (.aload_n 0, 1) := by decide +kernel
theorem dX12_findLosing_74 : decode cX12_findLosing 74 = .ok (.getfield 69, 3) := by decide +kernel
theorem dX12_findLosing_77 : decode cX12_findLosing 77 = .ok (.iload_n 2, 1) := by decide +kernel
theorem dX12_findLosing_78 : decode cX12_findLosing 78 = .ok (.baload, 1) := by decide +kernel
theorem dX12_findLosing_79 : decode cX12_findLosing 79 = .ok (.ifCond .eq 6, 3) := by decide +kernel
theorem dX12_findLosing_82 : decode cX12_findLosing 82 = .ok (.goto 34, 3) := by decide +kernel
theorem dX12_findLosing_85 : decode cX12_findLosing 85 = .ok (.aload_n 0, 1) := by decide +kernel
theorem dX12_findLosing_86 : decode cX12_findLosing 86 = .ok (.getfield 76, 3) := by decide +kernel
theorem dX12_findLosing_89 : decode cX12_findLosing 89 = .ok (.iload_n 1, 1) := by decide +kernel
theorem dX12_findLosing_90 : decode cX12_findLosing 90 = .ok (.iaload, 1) := by decide +kernel
theorem dX12_findLosing_91 : decode cX12_findLosing 91 = .ok (.aload_n 0, 1) := by decide +kernel
theorem dX12_findLosing_92 : decode cX12_findLosing 92 = .ok (.getfield 76, 3) := by decide +kernel
theorem dX12_findLosing_95 : decode cX12_findLosing 95 = .ok (.iload_n 2, 1) := by decide +kernel
theorem dX12_findLosing_96 : decode cX12_findLosing 96 = .ok (.iaload, 1) := by decide +kernel
theorem dX12_findLosing_97 : decode cX12_findLosing 97 = .ok (.iadd, 1) := by decide +kernel
theorem dX12_findLosing_98 : decode cX12_findLosing 98 = .ok (.istore_n 3, 1) := by decide +kernel
theorem dX12_findLosing_99 : decode cX12_findLosing 99 = .ok (.aload_n 0, 1) := by decide +kernel
theorem dX12_findLosing_100 : decode cX12_findLosing 100 = .ok (.getfield 73, 3) := by decide +kernel
theorem dX12_findLosing_103 : decode cX12_findLosing 103 = .ok (.iload_n 3, 1) := by decide +kernel
theorem dX12_findLosing_104 : decode cX12_findLosing 104 = .ok (.iaload, 1) := by decide +kernel
theorem dX12_findLosing_105 : decode cX12_findLosing 105 = .ok (.iconst (-1), 1) := by decide +kernel
theorem dX12_findLosing_106 : decode cX12_findLosing 106 = .ok (.if_icmp .ne 10, 3) := by decide +kernel
theorem dX12_findLosing_109 : decode cX12_findLosing 109 = .ok (.aload_n 0, 1) := by decide +kernel
theorem dX12_findLosing_110 : decode cX12_findLosing 110 = .ok (.getfield 73, 3) := by decide +kernel
theorem dX12_findLosing_113 : decode cX12_findLosing 113 = .ok (.iload_n 3, 1) := by decide +kernel
theorem dX12_findLosing_114 : decode cX12_findLosing 114 = .ok (.iload_n 1, 1) := by decide +kernel
theorem dX12_findLosing_115 : decode cX12_findLosing 115 = .ok (.iastore, 1) := by decide +kernel
theorem dX12_findLosing_116 : decode cX12_findLosing 116 = .ok (.iinc 2 1, 3) := by decide +kernel
theorem dX12_findLosing_119 : decode cX12_findLosing 119 = .ok (.goto (-61), 3) := by decide +kernel
theorem dX12_findLosing_122 : decode cX12_findLosing 122 = .ok (.iinc 1 1, 3) := by decide +kernel
theorem dX12_findLosing_125 : decode cX12_findLosing 125 = .ok (.goto (-98), 3) := by decide +kernel
theorem dX12_findLosing_128 : decode cX12_findLosing 128 = .ok (.return_, 1) := by decide +kernel
set_option maxRecDepth 20000 in
theorem ggX12_trade_X12_isRule : GoodIn wsX12_trade wsX12_isRule := goodIn_r _ [9, 10, 11, 12, 8, 13] (by decide +kernel) (by decide +kernel)
set_option maxRecDepth 20000 in
theorem gX12_trade_X12_isRule : GoodIn wsX12_trade (wsV RX12 249 RX12 yX12_isRule wsX12_isRule) := goodIn_app (goodIn_of _ (by decide +kernel)) ggX12_trade_X12_isRule
set_option maxRecDepth 20000 in
theorem ggX12_trade_X12_isIn : GoodIn wsX12_trade wsX12_isIn := goodIn_r _ [13] (by decide +kernel) (by decide +kernel)
set_option maxRecDepth 20000 in
theorem gX12_trade_X12_isIn : GoodIn wsX12_trade (wsV RX12 121 RX12 yX12_isIn wsX12_isIn) := goodIn_app (goodIn_of _ (by decide +kernel)) ggX12_trade_X12_isIn
set_option maxRecDepth 20000 in
theorem ggX12_trade_X12_findCarry : GoodIn wsX12_trade wsX12_findCarry := goodIn_r _ [17, 2, 18, 19, 20, 21, 8, 22, 23, 24, 25, 26, 27, 28, 29, 30, 31, 32, 33, 34, 35, 36, 37, 38, 39, 40, 41, 42, 43, 44, 45, 46, 47, 48, 49, 50, 51, 52, 53, 54, 55, 56, 57, 58, 59, 60, 61, 62, 63, 64, 65, 66, 67, 68, 69, 70, 71, 85, 86, 87, 88, 89, 90, 91, 92, 93, 94, 95, 96, 97, 98, 99, 100, 101, 102, 103, 104, 105, 106, 107, 108, 109, 110, 111, 112, 113, 114, 115, 116, 117, 118, 119, 120, 121, 122, 123, 124, 125, 126, 127, 128, 129, 130, 131, 132, 133, 134, 135, 136] (by decide +kernel) (by decide +kernel)
set_option maxRecDepth 20000 in
theorem gX12_trade_X12_findCarry : GoodIn wsX12_trade (wsV RX12 283 RX12 yX12_findCarry wsX12_findCarry) := goodIn_app (goodIn_of _ (by decide +kernel)) ggX12_trade_X12_findCarry
set_option maxRecDepth 20000 in
theorem ggX12_trade_X12_findLosing : GoodIn wsX12_trade wsX12_findLosing := goodIn_r _ [75, 76, 3, 2, 4, 77, 78, 79, 8, 80, 60, 61, 62, 63, 81, 82, 83, 84, 18, 85, 86, 87, 88, 89, 90, 91, 92, 93, 94, 95, 96, 97, 98, 99, 100, 101, 102, 103, 104, 105, 106, 107, 108, 109, 110, 111, 112, 113, 114, 115, 116, 117, 118, 119, 120, 121, 122, 123, 124, 125, 126, 127, 128, 129, 130, 131, 132, 133, 134, 135, 136] (by decide +kernel) (by decide +kernel)
set_option maxRecDepth 20000 in
theorem gX12_trade_X12_findLosing : GoodIn wsX12_trade (wsV RX12 308 RX12 yX12_findLosing wsX12_findLosing) := goodIn_app (goodIn_of _ (by decide +kernel)) ggX12_trade_X12_findLosing
theorem dX12_trade_0 : decode cX12_trade 0 = .ok (.aload_n 0, 1) := by decide +kernel
theorem dX12_trade_1 : decode cX12_trade 1 = .ok (.iconst 0, 1) := by decide +kernel
theorem dX12_trade_2 : decode cX12_trade 2 = .ok (.putfield 115, 3) := by decide +kernel
theorem dX12_trade_5 : decode cX12_trade 5 = .ok (.aload_n 0, 1) := by decide +kernel
theorem dX12_trade_6 : decode cX12_trade 6 = .ok (.iload_n 1, 1) := by decide +kernel
theorem dX12_trade_7 : decode cX12_trade 7 = .ok (.invokevirtual 249, 3) := by decide +kernel
theorem dX12_trade_10 : decode cX12_trade 10 = .ok (.ifCond .eq 13, 3) := by decide +kernel
theorem dX12_trade_13 : decode cX12_trade 13 = .ok (.aload_n 0, 1) := by decide +kernel
theorem dX12_trade_14 : decode cX12_trade 14 = .ok (.iload_n 2, 1) := by decide +kernel
theorem dX12_trade_15 : decode cX12_trade 15 = .ok (.iconst 0, 1) := by decide +kernel
theorem dX12_trade_16 : decode cX12_trade 16 = .ok (.iconst 3, 1) := by decide +kernel
theorem dX12_trade_17 : decode cX12_trade 17 = .ok (.invokevirtual 121, 3) := by decide +kernel
theorem dX12_trade_20 : decode cX12_trade 20 = .ok (.ifCond .ne 5, 3) := by decide +kernel
theorem dX12_trade_23 : decode cX12_trade 23 = .ok (.iconst (-1), 1) := by decide +kernel
theorem dX12_trade_24 : decode cX12_trade 24 = .ok (.ireturn, 1) := by decide +kernel
theorem dX12_trade_25 : decode cX12_trade 25 = .ok (.aload_n 0, 1) := by decide +kernel
theorem dX12_trade_26 : decode cX12_trade 26 = .ok (.iload_n 1, 1) := by decide +kernel
theorem dX12_trade_27 : decode cX12_trade 27 = .ok (.invokevirtual 283, 3) := by decide +kernel
theorem dX12_trade_30 : decode cX12_trade 30 = .ok (.aload_n 0, 1) := by decide +kernel
theorem dX12_trade_31 : decode cX12_trade 31 = .ok (.invokevirtual 308, 3) := by decide +kernel
theorem dX12_trade_34 : decode cX12_trade 34 = .ok (.iconst 0, 1) := by decide +kernel
theorem dX12_trade_35 : decode cX12_trade 35 = .ok (.istore_n 3, 1) := by decide +kernel
theorem dX12_trade_36 : decode cX12_trade 36 = .ok (.iload_n 3, 1) := by decide +kernel
theorem dX12_trade_37 : decode cX12_trade 37 = .ok (.sipush 1024, 3) := by decide +kernel
theorem dX12_trade_40 : decode cX12_trade 40 = .ok (.if_icmp .ge 133, 3) := by decide +kernel
theorem dX12_trade_43 : decode cX12_trade 43 = .ok (.iload_n 3, 1) := by decide +kernel
theorem dX12_trade_44 : decode cX12_trade 44 = .ok (.iconst 1, 1) := by decide +kernel
theorem dX12_trade_45 : decode cX12_trade 45 = .ok (.iadd, 1) := by decide +kernel
theorem dX12_trade_46 : decode cX12_trade 46 = .ok (.istore 4, 2) := by decide +kernel
theorem dX12_trade_48 : decode cX12_trade 48 = .ok (.iload 4, 2) := by decide +kernel
theorem dX12_trade_50 : decode cX12_trade 50 = .ok (.sipush 1024, 3) := by decide +kernel
theorem dX12_trade_53 : decode cX12_trade 53 = .ok (.if_icmp .ge 114, 3) := by decide +kernel
theorem dX12_trade_56 : decode cX12_trade 56 = .ok (.aload_n 0, 1) := by decide +kernel
theorem dX12_trade_57 : decode cX12_trade 57 = .ok (.getfield 69, 3) := by decide +kernel
theorem dX12_trade_60 : decode cX12_trade 60 = .ok (.iload_n 3, 1) := by decide +kernel
theorem dX12_trade_61 : decode cX12_trade 61 = .ok (.baload, 1) := by decide +kernel
theorem dX12_trade_62 : decode cX12_trade 62 = .ok (.ifCond .eq 105, 3) := by decide +kernel
theorem dX12_trade_65 : decode cX12_trade 65 = .ok (.aload_n 0, 1) := by decide +kernel
theorem dX12_trade_66 : decode cX12_trade 66 = .ok (.getfield 69, 3) := by decide +kernel
theorem dX12_trade_69 : decode cX12_trade 69 = .ok (.iload 4, 2) := by decide +kernel
theorem dX12_trade_71 : decode cX12_trade 71 = .ok (.baload, 1) := by decide +kernel
theorem dX12_trade_72 : decode cX12_trade 72 = .ok (.ifCond .eq 89, 3) := by decide +kernel
theorem dX12_trade_75 : decode cX12_trade 75 = .ok (.aload_n 0, 1) := by decide +kernel
theorem dX12_trade_76 : decode cX12_trade 76 = .ok (.getfield 73, 3) := by decide +kernel
theorem dX12_trade_79 : decode cX12_trade 79 = .ok (.aload_n 0, 1) := by decide +kernel
theorem dX12_trade_80 : decode cX12_trade 80 = .ok (.getfield 76, 3) := by decide +kernel
theorem dX12_trade_83 : decode cX12_trade 83 = .ok (.iload_n 3, 1) := by decide +kernel
theorem dX12_trade_84 : decode cX12_trade 84 = .ok (.iaload, 1) := by decide +kernel
theorem dX12_trade_85 : decode cX12_trade 85 = .ok (.aload_n 0, 1) := by decide +kernel
theorem dX12_trade_86 : decode cX12_trade 86 = .ok (.getfield 76, 3) := by decide +kernel
theorem dX12_trade_89 : decode cX12_trade 89 = .ok (.iload 4, 2) := by decide +kernel
theorem dX12_trade_91 : decode cX12_trade 91 = .ok (.iaload, 1) := by decide +kernel
theorem dX12_trade_92 : decode cX12_trade 92 = .ok (.iadd, 1) := by decide +kernel
theorem dX12_trade_93 : decode cX12_trade 93 = .ok (.iaload, 1) := by decide +kernel
theorem dX12_trade_94 : decode cX12_trade 94 = .ok (.iconst (-1), 1) := by decide +kernel
theorem dX12_trade_95 : decode cX12_trade 95 = .ok (.if_icmp .ne 6, 3) := by decide +kernel
theorem dX12_trade_98 : decode cX12_trade 98 = .ok (.goto 63, 3) := by decide +kernel
theorem dX12_trade_101 : decode cX12_trade 101 = .ok (.aload_n 0, 1) := by decide +kernel
theorem dX12_trade_102 : decode cX12_trade 102 = .ok (.getfield 73, 3) := by decide +kernel
theorem dX12_trade_105 : decode cX12_trade 105 = .ok (.aload_n 0, 1) := by decide +kernel
theorem dX12_trade_106 : decode cX12_trade 106 = .ok (.getfield 76, 3) := by decide +kernel
theorem dX12_trade_109 : decode cX12_trade 109 = .ok (.iload_n 3, 1) := by decide +kernel
theorem dX12_trade_110 : decode cX12_trade 110 = .ok (.iaload, 1) := by decide +kernel
theorem dX12_trade_111 : decode cX12_trade 111 = .ok (.aload_n 0, 1) := by decide +kernel
theorem dX12_trade_112 : decode cX12_trade 112 = .ok (.getfield 76, 3) := by decide +kernel
theorem dX12_trade_115 : decode cX12_trade 115 = .ok (.iload 4, 2) := by decide +kernel
theorem dX12_trade_117 : decode cX12_trade 117 = .ok (.iaload, 1) := by decide +kernel
theorem dX12_trade_118 : decode cX12_trade 118 = .ok (.iadd, 1) := by decide +kernel
theorem dX12_trade_119 : decode cX12_trade 119 = .ok (.iaload, 1) := by decide +kernel
theorem dX12_trade_120 : decode cX12_trade 120 = .ok (.istore 5, 2) := by decide +kernel
theorem dX12_trade_122 : decode cX12_trade 122 = .ok (.iload_n 2, 1) := by decide +kernel
theorem dX12_trade_123 : decode cX12_trade 123 = .ok (.ifCond .ne 5, 3) := by decide +kernel
theorem dX12_trade_126 : decode cX12_trade 126 = .ok (.iload_n 3, 1) := by decide +kernel
theorem dX12_trade_127 : decode cX12_trade 127 = .ok (.ireturn, 1) := by decide +kernel
theorem dX12_trade_128 : decode cX12_trade 128 = .ok (.iload_n 2, 1) := by decide +kernel
theorem dX12_trade_129 : decode cX12_trade 129 = .ok (.iconst 1, 1) := by decide +kernel
theorem dX12_trade_130 : decode cX12_trade 130 = .ok (.if_icmp .ne 6, 3) := by decide +kernel
theorem dX12_trade_133 : decode cX12_trade 133 = .ok (.iload 4, 2) := by decide +kernel
theorem dX12_trade_135 : decode cX12_trade 135 = .ok (.ireturn, 1) := by decide +kernel
theorem dX12_trade_136 : decode cX12_trade 136 = .ok (.iload_n 2, 1) := by decide +kernel
theorem dX12_trade_137 : decode cX12_trade 137 = .ok (.iconst 2, 1) := by decide +kernel
theorem dX12_trade_138 : decode cX12_trade 138 = .ok (.if_icmp .ne 8, 3) := by decide +kernel
theorem dX12_trade_141 : decode cX12_trade 141 = .ok (.iload 5, 2) := by decide +kernel
theorem dX12_trade_143 : decode cX12_trade 143 = .ok (.goto 17, 3) := by decide +kernel
theorem dX12_trade_146 : decode cX12_trade 146 = .ok (.iload_n 3, 1) := by decide +kernel
theorem dX12_trade_147 : decode cX12_trade 147 = .ok (.iload 4, 2) := by decide +kernel
theorem dX12_trade_149 : decode cX12_trade 149 = .ok (.iand, 1) := by decide +kernel
theorem dX12_trade_150 : decode cX12_trade 150 = .ok (.iload_n 3, 1) := by decide +kernel
theorem dX12_trade_151 : decode cX12_trade 151 = .ok (.iload 4, 2) := by decide +kernel
theorem dX12_trade_153 : decode cX12_trade 153 = .ok (.ior, 1) := by decide +kernel
theorem dX12_trade_154 : decode cX12_trade 154 = .ok (.iload 5, 2) := by decide +kernel
theorem dX12_trade_156 : decode cX12_trade 156 = .ok (.iconst (-1), 1) := by decide +kernel
theorem dX12_trade_157 : decode cX12_trade 157 = .ok (.ixor, 1) := by decide +kernel
theorem dX12_trade_158 : decode cX12_trade 158 = .ok (.iand, 1) := by decide +kernel
theorem dX12_trade_159 : decode cX12_trade 159 = .ok (.ior, 1) := by decide +kernel
theorem dX12_trade_160 : decode cX12_trade 160 = .ok (.ireturn, 1) := by decide +kernel
theorem dX12_trade_161 : decode cX12_trade 161 = .ok (.iinc 4 1, 3) := by decide +kernel
theorem dX12_trade_164 : decode cX12_trade 164 = .ok (.goto (-116), 3) := by decide +kernel
theorem dX12_trade_167 : decode cX12_trade 167 = .ok (.iinc 3 1, 3) := by decide +kernel
theorem dX12_trade_170 : decode cX12_trade 170 = .ok (.goto (-134), 3) := by decide +kernel
theorem dX12_trade_173 : decode cX12_trade 173 = .ok (.iconst (-1), 1) := by decide +kernel
theorem dX12_trade_174 : decode cX12_trade 174 = .ok (.ireturn, 1) := by decide +kernel
set_option maxRecDepth 20000 in
theorem ggX12_days_X12_isRule : GoodIn wsX12_days wsX12_isRule := goodIn_r _ [8, 9, 10, 11, 7, 12] (by decide +kernel) (by decide +kernel)
set_option maxRecDepth 20000 in
theorem gX12_days_X12_isRule : GoodIn wsX12_days (wsV RX12 249 RX12 yX12_isRule wsX12_isRule) := goodIn_app (goodIn_of _ (by decide +kernel)) ggX12_days_X12_isRule
set_option maxRecDepth 20000 in
theorem ggX12_days_X12_isDay : GoodIn wsX12_days wsX12_isDay := goodIn_r _ [16, 9, 10, 11, 7, 12] (by decide +kernel) (by decide +kernel)
set_option maxRecDepth 20000 in
theorem gX12_days_X12_isDay : GoodIn wsX12_days (wsV RX12 129 RX12 yX12_isDay wsX12_isDay) := goodIn_app (goodIn_of _ (by decide +kernel)) ggX12_days_X12_isDay
set_option maxRecDepth 20000 in
theorem ggX12_days_X12_isIn : GoodIn wsX12_days wsX12_isIn := goodIn_r _ [12] (by decide +kernel) (by decide +kernel)
set_option maxRecDepth 20000 in
theorem gX12_days_X12_isIn : GoodIn wsX12_days (wsV RX12 121 RX12 yX12_isIn wsX12_isIn) := goodIn_app (goodIn_of _ (by decide +kernel)) ggX12_days_X12_isIn
set_option maxRecDepth 20000 in
theorem ggX12_days_X12_finds : GoodIn wsX12_days wsX12_finds := goodIn_r _ [20, 3, 21, 22, 2, 23, 24, 25, 26, 27, 28, 29, 30, 63, 64, 65, 66, 67, 68, 69, 70, 71, 72, 73, 74, 75, 76, 77, 78, 79, 80, 81, 82, 83, 84, 85, 86, 87, 88, 89, 90, 91, 92, 93, 94, 95, 96, 97, 98, 99, 100, 101, 102, 103, 104, 105, 106, 107, 108, 109, 110, 111, 112, 113, 114] (by decide +kernel) (by decide +kernel)
set_option maxRecDepth 20000 in
theorem gX12_days_X12_finds : GoodIn wsX12_days (wsV RX12 144 RX12 yX12_finds wsX12_finds) := goodIn_app (goodIn_of _ (by decide +kernel)) ggX12_days_X12_finds
set_option maxRecDepth 20000 in
theorem ggX12_days_X12_carriesBy : GoodIn wsX12_days wsX12_carriesBy := goodIn_r _ [34, 35, 36, 37, 38, 39, 40, 7, 41, 42, 43, 44, 45, 46, 21, 22, 47, 48, 49, 50, 2, 27, 51, 52, 53, 54, 55, 56, 57, 58, 29, 59, 60, 61, 62, 63, 64, 65, 66, 67, 68, 69, 70, 71, 72, 73, 74, 75, 76, 77, 78, 79, 80, 81, 82, 83, 84, 85, 86, 87, 88, 89, 90, 91, 92, 93, 94, 95, 96, 97, 98, 99, 100, 101, 102, 103, 104, 105, 106, 107, 108, 109, 110, 111, 112, 113, 114] (by decide +kernel) (by decide +kernel)
set_option maxRecDepth 20000 in
theorem gX12_days_X12_carriesBy : GoodIn wsX12_days (wsV RX12 274 RX12 yX12_carriesBy wsX12_carriesBy) := goodIn_app (goodIn_of _ (by decide +kernel)) ggX12_days_X12_carriesBy
theorem dX12_days_0 : decode cX12_days 0 = .ok (.aload_n 0, 1) := by decide +kernel
theorem dX12_days_1 : decode cX12_days 1 = .ok (.iconst 0, 1) := by decide +kernel
theorem dX12_days_2 : decode cX12_days 2 = .ok (.putfield 115, 3) := by decide +kernel
theorem dX12_days_5 : decode cX12_days 5 = .ok (.aload_n 0, 1) := by decide +kernel
theorem dX12_days_6 : decode cX12_days 6 = .ok (.iload_n 1, 1) := by decide +kernel
theorem dX12_days_7 : decode cX12_days 7 = .ok (.invokevirtual 249, 3) := by decide +kernel
theorem dX12_days_10 : decode cX12_days 10 = .ok (.ifCond .eq 47, 3) := by decide +kernel
theorem dX12_days_13 : decode cX12_days 13 = .ok (.iload_n 2, 1) := by decide +kernel
theorem dX12_days_14 : decode cX12_days 14 = .ok (.ifCond .lt 43, 3) := by decide +kernel
theorem dX12_days_17 : decode cX12_days 17 = .ok (.iload_n 2, 1) := by decide +kernel
theorem dX12_days_18 : decode cX12_days 18 = .ok (.iconst 1, 1) := by decide +kernel
theorem dX12_days_19 : decode cX12_days 19 = .ok (.aload_n 0, 1) := by decide +kernel
theorem dX12_days_20 : decode cX12_days 20 = .ok (.getfield 118, 3) := by decide +kernel
theorem dX12_days_23 : decode cX12_days 23 = .ok (.ishl, 1) := by decide +kernel
theorem dX12_days_24 : decode cX12_days 24 = .ok (.if_icmp .ge 33, 3) := by decide +kernel
theorem dX12_days_27 : decode cX12_days 27 = .ok (.aload_n 0, 1) := by decide +kernel
theorem dX12_days_28 : decode cX12_days 28 = .ok (.iload_n 3, 1) := by decide +kernel
theorem dX12_days_29 : decode cX12_days 29 = .ok (.invokevirtual 129, 3) := by decide +kernel
theorem dX12_days_32 : decode cX12_days 32 = .ok (.ifCond .eq 25, 3) := by decide +kernel
theorem dX12_days_35 : decode cX12_days 35 = .ok (.aload_n 0, 1) := by decide +kernel
theorem dX12_days_36 : decode cX12_days 36 = .ok (.iload 4, 2) := by decide +kernel
theorem dX12_days_38 : decode cX12_days 38 = .ok (.iload_n 3, 1) := by decide +kernel
theorem dX12_days_39 : decode cX12_days 39 = .ok (.sipush 999, 3) := by decide +kernel
theorem dX12_days_42 : decode cX12_days 42 = .ok (.invokevirtual 121, 3) := by decide +kernel
theorem dX12_days_45 : decode cX12_days 45 = .ok (.ifCond .eq 12, 3) := by decide +kernel
theorem dX12_days_48 : decode cX12_days 48 = .ok (.aload_n 0, 1) := by decide +kernel
theorem dX12_days_49 : decode cX12_days 49 = .ok (.iload 5, 2) := by decide +kernel
theorem dX12_days_51 : decode cX12_days 51 = .ok (.invokevirtual 129, 3) := by decide +kernel
theorem dX12_days_54 : decode cX12_days 54 = .ok (.ifCond .ne 5, 3) := by decide +kernel
theorem dX12_days_57 : decode cX12_days 57 = .ok (.iconst (-1), 1) := by decide +kernel
theorem dX12_days_58 : decode cX12_days 58 = .ok (.ireturn, 1) := by decide +kernel
theorem dX12_days_59 : decode cX12_days 59 = .ok (.iconst 0, 1) := by decide +kernel
theorem dX12_days_60 : decode cX12_days 60 = .ok (.istore 6, 2) := by decide +kernel
theorem dX12_days_62 : decode cX12_days 62 = .ok (.iload_n 3, 1) := by decide +kernel
theorem dX12_days_63 : decode cX12_days 63 = .ok (.istore 7, 2) := by decide +kernel
theorem dX12_days_65 : decode cX12_days 65 = .ok (.iload 7, 2) := by decide +kernel
theorem dX12_days_67 : decode cX12_days 67 = .ok (.iload 4, 2) := by decide +kernel
theorem dX12_days_69 : decode cX12_days 69 = .ok (.if_icmp .gt 37, 3) := by decide +kernel
theorem dX12_days_72 : decode cX12_days 72 = .ok (.aload_n 0, 1) := by decide +kernel
theorem dX12_days_73 : decode cX12_days 73 = .ok (.iload 7, 2) := by decide +kernel
theorem dX12_days_75 : decode cX12_days 75 = .ok (.iload 5, 2) := by decide +kernel
theorem dX12_days_77 : decode cX12_days 77 = .ok (.invokevirtual 144, 3) := by decide +kernel
theorem dX12_days_80 : decode cX12_days 80 = .ok (.aload_n 0, 1) := by decide +kernel
theorem dX12_days_81 : decode cX12_days 81 = .ok (.iload_n 1, 1) := by decide +kernel
theorem dX12_days_82 : decode cX12_days 82 = .ok (.iload_n 2, 1) := by decide +kernel
theorem dX12_days_83 : decode cX12_days 83 = .ok (.aload_n 0, 1) := by decide +kernel
theorem dX12_days_84 : decode cX12_days 84 = .ok (.getfield 135, 3) := by decide +kernel
theorem dX12_days_87 : decode cX12_days 87 = .ok (.iand, 1) := by decide +kernel
theorem dX12_days_88 : decode cX12_days 88 = .ok (.invokevirtual 274, 3) := by decide +kernel
theorem dX12_days_91 : decode cX12_days 91 = .ok (.ifCond .eq 9, 3) := by decide +kernel
theorem dX12_days_94 : decode cX12_days 94 = .ok (.iload 6, 2) := by decide +kernel
theorem dX12_days_96 : decode cX12_days 96 = .ok (.iconst 1, 1) := by decide +kernel
theorem dX12_days_97 : decode cX12_days 97 = .ok (.iadd, 1) := by decide +kernel
theorem dX12_days_98 : decode cX12_days 98 = .ok (.istore 6, 2) := by decide +kernel
theorem dX12_days_100 : decode cX12_days 100 = .ok (.iinc 7 1, 3) := by decide +kernel
theorem dX12_days_103 : decode cX12_days 103 = .ok (.goto (-38), 3) := by decide +kernel
theorem dX12_days_106 : decode cX12_days 106 = .ok (.iload 6, 2) := by decide +kernel
theorem dX12_days_108 : decode cX12_days 108 = .ok (.ireturn, 1) := by decide +kernel
set_option maxRecDepth 20000 in
theorem ggX12_wish_X12_isMember : GoodIn wsX12_wish wsX12_isMember := goodIn_r _ [9, 10, 15, 16, 17, 18, 19, 20, 21, 22, 23, 24, 25, 26, 27, 28, 29, 30, 31, 32, 33, 34, 35, 36, 37, 38, 39, 40, 41, 42, 43, 44, 45, 46, 47, 48, 49, 50, 51, 52, 53, 54, 55, 56, 57, 58, 59, 60, 61, 62, 63, 64, 65, 66] (by decide +kernel) (by decide +kernel)
set_option maxRecDepth 20000 in
theorem gX12_wish_X12_isMember : GoodIn wsX12_wish (wsV RX12 125 RX12 yX12_isMember wsX12_isMember) := goodIn_app (goodIn_of _ (by decide +kernel)) ggX12_wish_X12_isMember
set_option maxRecDepth 20000 in
theorem ggX12_wish_X12_isIn : GoodIn wsX12_wish wsX12_isIn := goodIn_r _ [14] (by decide +kernel) (by decide +kernel)
set_option maxRecDepth 20000 in
theorem gX12_wish_X12_isIn : GoodIn wsX12_wish (wsV RX12 121 RX12 yX12_isIn wsX12_isIn) := goodIn_app (goodIn_of _ (by decide +kernel)) ggX12_wish_X12_isIn
theorem dX12_wish_0 : decode cX12_wish 0 = .ok (.aload_n 0, 1) := by decide +kernel
theorem dX12_wish_1 : decode cX12_wish 1 = .ok (.iconst 0, 1) := by decide +kernel
theorem dX12_wish_2 : decode cX12_wish 2 = .ok (.putfield 115, 3) := by decide +kernel
theorem dX12_wish_5 : decode cX12_wish 5 = .ok (.aload_n 0, 1) := by decide +kernel
theorem dX12_wish_6 : decode cX12_wish 6 = .ok (.iload_n 1, 1) := by decide +kernel
theorem dX12_wish_7 : decode cX12_wish 7 = .ok (.invokevirtual 125, 3) := by decide +kernel
theorem dX12_wish_10 : decode cX12_wish 10 = .ok (.ifCond .eq 15, 3) := by decide +kernel
theorem dX12_wish_13 : decode cX12_wish 13 = .ok (.aload_n 0, 1) := by decide +kernel
theorem dX12_wish_14 : decode cX12_wish 14 = .ok (.iload_n 2, 1) := by decide +kernel
theorem dX12_wish_15 : decode cX12_wish 15 = .ok (.iconst (-1), 1) := by decide +kernel
theorem dX12_wish_16 : decode cX12_wish 16 = .ok (.ldc_w 311, 3) := by decide +kernel
theorem dX12_wish_19 : decode cX12_wish 19 = .ok (.invokevirtual 121, 3) := by decide +kernel
theorem dX12_wish_22 : decode cX12_wish 22 = .ok (.ifCond .ne 5, 3) := by decide +kernel
theorem dX12_wish_25 : decode cX12_wish 25 = .ok (.iconst 0, 1) := by decide +kernel
theorem dX12_wish_26 : decode cX12_wish 26 = .ok (.ireturn, 1) := by decide +kernel
theorem dX12_wish_27 : decode cX12_wish 27 = .ok (.iload_n 2, 1) := by decide +kernel
theorem dX12_wish_28 : decode cX12_wish 28 = .ok (.iconst (-1), 1) := by decide +kernel
theorem dX12_wish_29 : decode cX12_wish 29 = .ok (.if_icmp .ne 12, 3) := by decide +kernel
theorem dX12_wish_32 : decode cX12_wish 32 = .ok (.aload_n 0, 1) := by decide +kernel
theorem dX12_wish_33 : decode cX12_wish 33 = .ok (.getfield 35, 3) := by decide +kernel
theorem dX12_wish_36 : decode cX12_wish 36 = .ok (.iload_n 1, 1) := by decide +kernel
theorem dX12_wish_37 : decode cX12_wish 37 = .ok (.iconst 0, 1) := by decide +kernel
theorem dX12_wish_38 : decode cX12_wish 38 = .ok (.bastore, 1) := by decide +kernel
theorem dX12_wish_39 : decode cX12_wish 39 = .ok (.iconst 1, 1) := by decide +kernel
theorem dX12_wish_40 : decode cX12_wish 40 = .ok (.ireturn, 1) := by decide +kernel
theorem dX12_wish_41 : decode cX12_wish 41 = .ok (.iconst 0, 1) := by decide +kernel
theorem dX12_wish_42 : decode cX12_wish 42 = .ok (.istore_n 3, 1) := by decide +kernel
theorem dX12_wish_43 : decode cX12_wish 43 = .ok (.iload_n 2, 1) := by decide +kernel
theorem dX12_wish_44 : decode cX12_wish 44 = .ok (.istore 4, 2) := by decide +kernel
theorem dX12_wish_46 : decode cX12_wish 46 = .ok (.iconst 0, 1) := by decide +kernel
theorem dX12_wish_47 : decode cX12_wish 47 = .ok (.istore 5, 2) := by decide +kernel
theorem dX12_wish_49 : decode cX12_wish 49 = .ok (.iload 5, 2) := by decide +kernel
theorem dX12_wish_51 : decode cX12_wish 51 = .ok (.bipush 6, 2) := by decide +kernel
theorem dX12_wish_53 : decode cX12_wish 53 = .ok (.if_icmp .ge 36, 3) := by decide +kernel
theorem dX12_wish_56 : decode cX12_wish 56 = .ok (.iload 4, 2) := by decide +kernel
theorem dX12_wish_58 : decode cX12_wish 58 = .ok (.bipush 10, 2) := by decide +kernel
theorem dX12_wish_60 : decode cX12_wish 60 = .ok (.irem, 1) := by decide +kernel
theorem dX12_wish_61 : decode cX12_wish 61 = .ok (.bipush 6, 2) := by decide +kernel
theorem dX12_wish_63 : decode cX12_wish 63 = .ok (.if_icmp .ge 13, 3) := by decide +kernel
theorem dX12_wish_66 : decode cX12_wish 66 = .ok (.iload_n 3, 1) := by decide +kernel
theorem dX12_wish_67 : decode cX12_wish 67 = .ok (.iconst 1, 1) := by decide +kernel
theorem dX12_wish_68 : decode cX12_wish 68 = .ok (.iload 4, 2) := by decide +kernel
theorem dX12_wish_70 : decode cX12_wish 70 = .ok (.bipush 10, 2) := by decide +kernel
theorem dX12_wish_72 : decode cX12_wish 72 = .ok (.irem, 1) := by decide +kernel
theorem dX12_wish_73 : decode cX12_wish 73 = .ok (.ishl, 1) := by decide +kernel
theorem dX12_wish_74 : decode cX12_wish 74 = .ok (.ior, 1) := by decide +kernel
theorem dX12_wish_75 : decode cX12_wish 75 = .ok (.istore_n 3, 1) := by decide +kernel
theorem dX12_wish_76 : decode cX12_wish 76 = .ok (.iload 4, 2) := by decide +kernel
theorem dX12_wish_78 : decode cX12_wish 78 = .ok (.bipush 10, 2) := by decide +kernel
theorem dX12_wish_80 : decode cX12_wish 80 = .ok (.idiv, 1) := by decide +kernel
theorem dX12_wish_81 : decode cX12_wish 81 = .ok (.istore 4, 2) := by decide +kernel
theorem dX12_wish_83 : decode cX12_wish 83 = .ok (.iinc 5 1, 3) := by decide +kernel
theorem dX12_wish_86 : decode cX12_wish 86 = .ok (.goto (-37), 3) := by decide +kernel
theorem dX12_wish_89 : decode cX12_wish 89 = .ok (.iload_n 3, 1) := by decide +kernel
theorem dX12_wish_90 : decode cX12_wish 90 = .ok (.bipush 63, 2) := by decide +kernel
theorem dX12_wish_92 : decode cX12_wish 92 = .ok (.if_icmp .eq 5, 3) := by decide +kernel
theorem dX12_wish_95 : decode cX12_wish 95 = .ok (.iconst 0, 1) := by decide +kernel
theorem dX12_wish_96 : decode cX12_wish 96 = .ok (.ireturn, 1) := by decide +kernel
theorem dX12_wish_97 : decode cX12_wish 97 = .ok (.iload_n 2, 1) := by decide +kernel
theorem dX12_wish_98 : decode cX12_wish 98 = .ok (.istore 4, 2) := by decide +kernel
theorem dX12_wish_100 : decode cX12_wish 100 = .ok (.iconst 5, 1) := by decide +kernel
theorem dX12_wish_101 : decode cX12_wish 101 = .ok (.istore 5, 2) := by decide +kernel
theorem dX12_wish_103 : decode cX12_wish 103 = .ok (.iload 5, 2) := by decide +kernel
theorem dX12_wish_105 : decode cX12_wish 105 = .ok (.ifCond .lt 33, 3) := by decide +kernel
theorem dX12_wish_108 : decode cX12_wish 108 = .ok (.aload_n 0, 1) := by decide +kernel
theorem dX12_wish_109 : decode cX12_wish 109 = .ok (.getfield 32, 3) := by decide +kernel
theorem dX12_wish_112 : decode cX12_wish 112 = .ok (.bipush 6, 2) := by decide +kernel
theorem dX12_wish_114 : decode cX12_wish 114 = .ok (.iload_n 1, 1) := by decide +kernel
theorem dX12_wish_115 : decode cX12_wish 115 = .ok (.imul, 1) := by decide +kernel
theorem dX12_wish_116 : decode cX12_wish 116 = .ok (.iload 5, 2) := by decide +kernel
theorem dX12_wish_118 : decode cX12_wish 118 = .ok (.iadd, 1) := by decide +kernel
theorem dX12_wish_119 : decode cX12_wish 119 = .ok (.iload 4, 2) := by decide +kernel
theorem dX12_wish_121 : decode cX12_wish 121 = .ok (.bipush 10, 2) := by decide +kernel
theorem dX12_wish_123 : decode cX12_wish 123 = .ok (.irem, 1) := by decide +kernel
theorem dX12_wish_124 : decode cX12_wish 124 = .ok (.iastore, 1) := by decide +kernel
theorem dX12_wish_125 : decode cX12_wish 125 = .ok (.iload 4, 2) := by decide +kernel
theorem dX12_wish_127 : decode cX12_wish 127 = .ok (.bipush 10, 2) := by decide +kernel
theorem dX12_wish_129 : decode cX12_wish 129 = .ok (.idiv, 1) := by decide +kernel
theorem dX12_wish_130 : decode cX12_wish 130 = .ok (.istore 4, 2) := by decide +kernel
theorem dX12_wish_132 : decode cX12_wish 132 = .ok (.iinc 5 (-1), 3) := by decide +kernel
theorem dX12_wish_135 : decode cX12_wish 135 = .ok (.goto (-32), 3) := by decide +kernel
theorem dX12_wish_138 : decode cX12_wish 138 = .ok (.aload_n 0, 1) := by decide +kernel
theorem dX12_wish_139 : decode cX12_wish 139 = .ok (.getfield 35, 3) := by decide +kernel
theorem dX12_wish_142 : decode cX12_wish 142 = .ok (.iload_n 1, 1) := by decide +kernel
theorem dX12_wish_143 : decode cX12_wish 143 = .ok (.iconst 1, 1) := by decide +kernel
theorem dX12_wish_144 : decode cX12_wish 144 = .ok (.bastore, 1) := by decide +kernel
theorem dX12_wish_145 : decode cX12_wish 145 = .ok (.iconst 1, 1) := by decide +kernel
theorem dX12_wish_146 : decode cX12_wish 146 = .ok (.ireturn, 1) := by decide +kernel
theorem dX12_rankOf_0 : decode cX12_rankOf 0 = .ok (.iconst 0, 1) := by decide +kernel
theorem dX12_rankOf_1 : decode cX12_rankOf 1 = .ok (.istore_n 3, 1) := by decide +kernel
theorem dX12_rankOf_2 : decode cX12_rankOf 2 = .ok (.aload_n 0, 1) := by decide +kernel
theorem dX12_rankOf_3 : decode cX12_rankOf 3 = .ok (.getfield 32, 3) := by decide +kernel
theorem dX12_rankOf_6 : decode cX12_rankOf 6 = .ok (.bipush 6, 2) := by decide +kernel
theorem dX12_rankOf_8 : decode cX12_rankOf 8 = .ok (.iload_n 1, 1) := by decide +kernel
theorem dX12_rankOf_9 : decode cX12_rankOf 9 = .ok (.imul, 1) := by decide +kernel
theorem dX12_rankOf_10 : decode cX12_rankOf 10 = .ok (.iload_n 3, 1) := by decide +kernel
theorem dX12_rankOf_11 : decode cX12_rankOf 11 = .ok (.iadd, 1) := by decide +kernel
theorem dX12_rankOf_12 : decode cX12_rankOf 12 = .ok (.iaload, 1) := by decide +kernel
theorem dX12_rankOf_13 : decode cX12_rankOf 13 = .ok (.iload_n 2, 1) := by decide +kernel
theorem dX12_rankOf_14 : decode cX12_rankOf 14 = .ok (.if_icmp .eq 10, 3) := by decide +kernel
theorem dX12_rankOf_17 : decode cX12_rankOf 17 = .ok (.iload_n 3, 1) := by decide +kernel
theorem dX12_rankOf_18 : decode cX12_rankOf 18 = .ok (.iconst 1, 1) := by decide +kernel
theorem dX12_rankOf_19 : decode cX12_rankOf 19 = .ok (.iadd, 1) := by decide +kernel
theorem dX12_rankOf_20 : decode cX12_rankOf 20 = .ok (.istore_n 3, 1) := by decide +kernel
theorem dX12_rankOf_21 : decode cX12_rankOf 21 = .ok (.goto (-19), 3) := by decide +kernel
theorem dX12_rankOf_24 : decode cX12_rankOf 24 = .ok (.iload_n 3, 1) := by decide +kernel
theorem dX12_rankOf_25 : decode cX12_rankOf 25 = .ok (.ireturn, 1) := by decide +kernel
set_option maxRecDepth 20000 in
theorem ggX12_supportOf_X12_isOf : GoodIn wsX12_supportOf wsX12_isOf := goodIn_r _ [8] (by decide +kernel) (by decide +kernel)
set_option maxRecDepth 20000 in
theorem gX12_supportOf_X12_isOf : GoodIn wsX12_supportOf (wsV RX12 151 RX12 yX12_isOf wsX12_isOf) := goodIn_app (goodIn_of _ (by decide +kernel)) ggX12_supportOf_X12_isOf
set_option maxRecDepth 20000 in
theorem ggX12_supportOf_X12_rankOf : GoodIn wsX12_supportOf wsX12_rankOf := goodIn_r _ [12, 13, 14, 15, 16, 17, 18, 19, 20, 21, 22, 23, 24, 25, 26, 27, 28, 29, 30, 31, 32, 33, 34, 35, 36, 37, 38, 39, 40, 41, 42, 43, 44, 45, 46, 47, 48, 49, 50, 51, 52, 53, 54, 55, 56, 57, 58, 59, 60, 61, 62, 63, 64, 65] (by decide +kernel) (by decide +kernel)
set_option maxRecDepth 20000 in
theorem gX12_supportOf_X12_rankOf : GoodIn wsX12_supportOf (wsV RX12 312 RX12 yX12_rankOf wsX12_rankOf) := goodIn_app (goodIn_of _ (by decide +kernel)) ggX12_supportOf_X12_rankOf
theorem dX12_supportOf_0 : decode cX12_supportOf 0 = .ok (.iconst 0, 1) := by decide +kernel
theorem dX12_supportOf_1 : decode cX12_supportOf 1 = .ok (.istore_n 3, 1) := by decide +kernel
theorem dX12_supportOf_2 : decode cX12_supportOf 2 = .ok (.iconst 0, 1) := by decide +kernel
theorem dX12_supportOf_3 : decode cX12_supportOf 3 = .ok (.istore 4, 2) := by decide +kernel
theorem dX12_supportOf_5 : decode cX12_supportOf 5 = .ok (.iload 4, 2) := by decide +kernel
theorem dX12_supportOf_7 : decode cX12_supportOf 7 = .ok (.aload_n 0, 1) := by decide +kernel
theorem dX12_supportOf_8 : decode cX12_supportOf 8 = .ok (.getfield 118, 3) := by decide +kernel
theorem dX12_supportOf_11 : decode cX12_supportOf 11 = .ok (.if_icmp .ge 56, 3) := by decide +kernel
theorem dX12_supportOf_14 : decode cX12_supportOf 14 = .ok (.aload_n 0, 1) := by decide +kernel
theorem dX12_supportOf_15 : decode cX12_supportOf 15 = .ok (.aload_n 0, 1) := by decide +kernel
theorem dX12_supportOf_16 : decode cX12_supportOf 16 = .ok (.getfield 135, 3) := by decide +kernel
theorem dX12_supportOf_19 : decode cX12_supportOf 19 = .ok (.iload 4, 2) := by decide +kernel
theorem dX12_supportOf_21 : decode cX12_supportOf 21 = .ok (.invokevirtual 151, 3) := by decide +kernel
theorem dX12_supportOf_24 : decode cX12_supportOf 24 = .ok (.ifCond .eq 37, 3) := by decide +kernel
theorem dX12_supportOf_27 : decode cX12_supportOf 27 = .ok (.aload_n 0, 1) := by decide +kernel
theorem dX12_supportOf_28 : decode cX12_supportOf 28 = .ok (.getfield 35, 3) := by decide +kernel
theorem dX12_supportOf_31 : decode cX12_supportOf 31 = .ok (.iload 4, 2) := by decide +kernel
theorem dX12_supportOf_33 : decode cX12_supportOf 33 = .ok (.baload, 1) := by decide +kernel
theorem dX12_supportOf_34 : decode cX12_supportOf 34 = .ok (.ifCond .eq 27, 3) := by decide +kernel
theorem dX12_supportOf_37 : decode cX12_supportOf 37 = .ok (.aload_n 0, 1) := by decide +kernel
theorem dX12_supportOf_38 : decode cX12_supportOf 38 = .ok (.iload 4, 2) := by decide +kernel
theorem dX12_supportOf_40 : decode cX12_supportOf 40 = .ok (.iload_n 1, 1) := by decide +kernel
theorem dX12_supportOf_41 : decode cX12_supportOf 41 = .ok (.invokevirtual 312, 3) := by decide +kernel
theorem dX12_supportOf_44 : decode cX12_supportOf 44 = .ok (.aload_n 0, 1) := by decide +kernel
theorem dX12_supportOf_45 : decode cX12_supportOf 45 = .ok (.iload 4, 2) := by decide +kernel
theorem dX12_supportOf_47 : decode cX12_supportOf 47 = .ok (.iload_n 2, 1) := by decide +kernel
theorem dX12_supportOf_48 : decode cX12_supportOf 48 = .ok (.invokevirtual 312, 3) := by decide +kernel
theorem dX12_supportOf_51 : decode cX12_supportOf 51 = .ok (.if_icmp .ge 10, 3) := by decide +kernel
theorem dX12_supportOf_54 : decode cX12_supportOf 54 = .ok (.iload_n 3, 1) := by decide +kernel
theorem dX12_supportOf_55 : decode cX12_supportOf 55 = .ok (.iconst 1, 1) := by decide +kernel
theorem dX12_supportOf_56 : decode cX12_supportOf 56 = .ok (.iload 4, 2) := by decide +kernel
theorem dX12_supportOf_58 : decode cX12_supportOf 58 = .ok (.ishl, 1) := by decide +kernel
theorem dX12_supportOf_59 : decode cX12_supportOf 59 = .ok (.ior, 1) := by decide +kernel
theorem dX12_supportOf_60 : decode cX12_supportOf 60 = .ok (.istore_n 3, 1) := by decide +kernel
theorem dX12_supportOf_61 : decode cX12_supportOf 61 = .ok (.iinc 4 1, 3) := by decide +kernel
theorem dX12_supportOf_64 : decode cX12_supportOf 64 = .ok (.goto (-59), 3) := by decide +kernel
theorem dX12_supportOf_67 : decode cX12_supportOf 67 = .ok (.iload_n 3, 1) := by decide +kernel
theorem dX12_supportOf_68 : decode cX12_supportOf 68 = .ok (.ireturn, 1) := by decide +kernel
set_option maxRecDepth 20000 in
theorem ggX12_isMotion_X12_isIn : GoodIn wsX12_isMotion wsX12_isIn := goodIn_r _ [5] (by decide +kernel) (by decide +kernel)
set_option maxRecDepth 20000 in
theorem gX12_isMotion_X12_isIn : GoodIn wsX12_isMotion (wsV RX12 121 RX12 yX12_isIn wsX12_isIn) := goodIn_app (goodIn_of _ (by decide +kernel)) ggX12_isMotion_X12_isIn
theorem dX12_isMotion_0 : decode cX12_isMotion 0 = .ok (.aload_n 0, 1) := by decide +kernel
theorem dX12_isMotion_1 : decode cX12_isMotion 1 = .ok (.iload_n 1, 1) := by decide +kernel
theorem dX12_isMotion_2 : decode cX12_isMotion 2 = .ok (.iconst 0, 1) := by decide +kernel
theorem dX12_isMotion_3 : decode cX12_isMotion 3 = .ok (.iconst 5, 1) := by decide +kernel
theorem dX12_isMotion_4 : decode cX12_isMotion 4 = .ok (.invokevirtual 121, 3) := by decide +kernel
theorem dX12_isMotion_7 : decode cX12_isMotion 7 = .ok (.ireturn, 1) := by decide +kernel
set_option maxRecDepth 20000 in
theorem ggX12_support_X12_isMotion : GoodIn wsX12_support wsX12_isMotion := goodIn_r _ [6, 7, 8, 9, 5, 10] (by decide +kernel) (by decide +kernel)
set_option maxRecDepth 20000 in
theorem gX12_support_X12_isMotion : GoodIn wsX12_support (wsV RX12 315 RX12 yX12_isMotion wsX12_isMotion) := goodIn_app (goodIn_of _ (by decide +kernel)) ggX12_support_X12_isMotion
set_option maxRecDepth 20000 in
theorem ggX12_support_X12_findsView : GoodIn wsX12_support wsX12_findsView := goodIn_r _ [14, 15, 16, 17, 18, 19, 5, 20, 21, 22, 23, 24, 25, 26, 27, 28, 29, 30, 31, 32, 47, 48, 49, 50, 51, 52, 53, 54, 55, 56, 57, 58, 59, 60, 61, 62, 63, 64, 65, 66, 67, 68, 69, 70, 71, 72, 73, 74, 75, 76, 77, 78, 79, 80, 81, 82, 83, 84, 85, 86, 87, 88, 89, 90, 91, 92, 93, 94, 95, 96, 97, 98] (by decide +kernel) (by decide +kernel)
set_option maxRecDepth 20000 in
theorem gX12_support_X12_findsView : GoodIn wsX12_support (wsV RX12 148 RX12 yX12_findsView wsX12_findsView) := goodIn_app (goodIn_of _ (by decide +kernel)) ggX12_support_X12_findsView
set_option maxRecDepth 20000 in
theorem ggX12_support_X12_supportOf : GoodIn wsX12_support wsX12_supportOf := goodIn_r _ [36, 24, 21, 37, 38, 39, 40, 5, 41, 42, 43, 44, 45, 46, 47, 48, 49, 50, 51, 52, 53, 54, 55, 56, 57, 58, 59, 60, 61, 62, 63, 64, 65, 66, 67, 68, 69, 70, 71, 72, 73, 74, 75, 76, 77, 78, 79, 80, 81, 82, 83, 84, 85, 86, 87, 88, 89, 90, 91, 92, 93, 94, 95, 96, 97, 98] (by decide +kernel) (by decide +kernel)
set_option maxRecDepth 20000 in
theorem gX12_support_X12_supportOf : GoodIn wsX12_support (wsV RX12 318 RX12 yX12_supportOf wsX12_supportOf) := goodIn_app (goodIn_of _ (by decide +kernel)) ggX12_support_X12_supportOf
theorem dX12_support_0 : decode cX12_support 0 = .ok (.aload_n 0, 1) := by decide +kernel
theorem dX12_support_1 : decode cX12_support 1 = .ok (.iconst 0, 1) := by decide +kernel
theorem dX12_support_2 : decode cX12_support 2 = .ok (.putfield 115, 3) := by decide +kernel
theorem dX12_support_5 : decode cX12_support 5 = .ok (.aload_n 0, 1) := by decide +kernel
theorem dX12_support_6 : decode cX12_support 6 = .ok (.iload_n 1, 1) := by decide +kernel
theorem dX12_support_7 : decode cX12_support 7 = .ok (.invokevirtual 315, 3) := by decide +kernel
theorem dX12_support_10 : decode cX12_support 10 = .ok (.ifCond .eq 16, 3) := by decide +kernel
theorem dX12_support_13 : decode cX12_support 13 = .ok (.aload_n 0, 1) := by decide +kernel
theorem dX12_support_14 : decode cX12_support 14 = .ok (.iload_n 2, 1) := by decide +kernel
theorem dX12_support_15 : decode cX12_support 15 = .ok (.invokevirtual 315, 3) := by decide +kernel
theorem dX12_support_18 : decode cX12_support 18 = .ok (.ifCond .eq 8, 3) := by decide +kernel
theorem dX12_support_21 : decode cX12_support 21 = .ok (.iload_n 1, 1) := by decide +kernel
theorem dX12_support_22 : decode cX12_support 22 = .ok (.iload_n 2, 1) := by decide +kernel
theorem dX12_support_23 : decode cX12_support 23 = .ok (.if_icmp .ne 5, 3) := by decide +kernel
theorem dX12_support_26 : decode cX12_support 26 = .ok (.iconst (-1), 1) := by decide +kernel
theorem dX12_support_27 : decode cX12_support 27 = .ok (.ireturn, 1) := by decide +kernel
theorem dX12_support_28 : decode cX12_support 28 = .ok (.aload_n 0, 1) := by decide +kernel
theorem dX12_support_29 : decode cX12_support 29 = .ok (.invokevirtual 148, 3) := by decide +kernel
theorem dX12_support_32 : decode cX12_support 32 = .ok (.aload_n 0, 1) := by decide +kernel
theorem dX12_support_33 : decode cX12_support 33 = .ok (.iload_n 1, 1) := by decide +kernel
theorem dX12_support_34 : decode cX12_support 34 = .ok (.iload_n 2, 1) := by decide +kernel
theorem dX12_support_35 : decode cX12_support 35 = .ok (.invokevirtual 318, 3) := by decide +kernel
theorem dX12_support_38 : decode cX12_support 38 = .ok (.ireturn, 1) := by decide +kernel
set_option maxRecDepth 20000 in
theorem ggX12_findBeats_X12_findsView : GoodIn wsX12_findBeats wsX12_findsView := goodIn_r _ [6, 7, 8, 9, 10, 11, 5, 12, 13, 14, 15, 16, 17, 18, 19, 20, 21, 22, 23, 24, 67, 68, 69, 70, 71, 72, 73, 74, 75, 76, 77, 78, 79, 80, 81, 82, 83, 84, 85, 86, 87, 88, 89, 90, 91, 92, 93, 94, 95, 96, 97, 98, 99, 100, 101, 102, 103, 104, 105, 106, 107, 108, 109, 110, 111, 112, 113, 114, 115, 116, 117, 118] (by decide +kernel) (by decide +kernel)
set_option maxRecDepth 20000 in
theorem gX12_findBeats_X12_findsView : GoodIn wsX12_findBeats (wsV RX12 148 RX12 yX12_findsView wsX12_findsView) := goodIn_app (goodIn_of _ (by decide +kernel)) ggX12_findBeats_X12_findsView
set_option maxRecDepth 20000 in
theorem ggX12_findBeats_X12_supportOf : GoodIn wsX12_findBeats wsX12_supportOf := goodIn_r _ [28, 16, 13, 29, 30, 31, 32, 5, 33, 34, 35, 36, 37, 38, 67, 68, 69, 70, 71, 72, 73, 74, 75, 76, 77, 78, 79, 80, 81, 82, 83, 84, 85, 86, 87, 88, 89, 90, 91, 92, 93, 94, 95, 96, 97, 98, 99, 100, 101, 102, 103, 104, 105, 106, 107, 108, 109, 110, 111, 112, 113, 114, 115, 116, 117, 118] (by decide +kernel) (by decide +kernel)
set_option maxRecDepth 20000 in
theorem gX12_findBeats_X12_supportOf : GoodIn wsX12_findBeats (wsV RX12 318 RX12 yX12_supportOf wsX12_supportOf) := goodIn_app (goodIn_of _ (by decide +kernel)) ggX12_findBeats_X12_supportOf
set_option maxRecDepth 20000 in
theorem ggX12_findBeats_X12_carriesBy : GoodIn wsX12_findBeats wsX12_carriesBy := goodIn_r _ [42, 43, 44, 45, 46, 47, 48, 5, 49, 50, 51, 52, 53, 54, 14, 15, 55, 56, 57, 58, 16, 21, 30, 31, 32, 33, 59, 60, 61, 62, 23, 63, 64, 65, 66, 67, 68, 69, 70, 71, 72, 73, 74, 75, 76, 77, 78, 79, 80, 81, 82, 83, 84, 85, 86, 87, 88, 89, 90, 91, 92, 93, 94, 95, 96, 97, 98, 99, 100, 101, 102, 103, 104, 105, 106, 107, 108, 109, 110, 111, 112, 113, 114, 115, 116, 117, 118] (by decide +kernel) (by decide +kernel)
set_option maxRecDepth 20000 in
theorem gX12_findBeats_X12_carriesBy : GoodIn wsX12_findBeats (wsV RX12 274 RX12 yX12_carriesBy wsX12_carriesBy) := goodIn_app (goodIn_of _ (by decide +kernel)) ggX12_findBeats_X12_carriesBy
theorem dX12_findBeats_0 : decode cX12_findBeats 0 = .ok (.aload_n 0, 1) := by decide +kernel
theorem dX12_findBeats_1 : decode cX12_findBeats 1 = .ok (.invokevirtual 148, 3) := by decide +kernel
theorem dX12_findBeats_4 : decode cX12_findBeats 4 = .ok (.iconst 0, 1) := by decide +kernel
theorem dX12_findBeats_5 : decode cX12_findBeats 5 = .ok (.istore_n 2, 1) := by decide +kernel
theorem dX12_findBeats_6 : decode cX12_findBeats 6 = .ok (.iload_n 2, 1) := by decide +kernel
theorem dX12_findBeats_7 : decode cX12_findBeats 7 = .ok (.bipush 6, 2) := by decide +kernel
theorem dX12_findBeats_9 : decode cX12_findBeats 9 = .ok (.if_icmp .ge 58, 3) := by decide +kernel
theorem dX12_findBeats_12 : decode cX12_findBeats 12 = .ok (.iconst 0, 1) := by decide +kernel
theorem dX12_findBeats_13 : decode cX12_findBeats 13 = .ok (.istore_n 3, 1) := by decide +kernel
theorem dX12_findBeats_14 : decode cX12_findBeats 14 = .ok (.iload_n 3, 1) := by decide +kernel
theorem dX12_findBeats_15 : decode cX12_findBeats 15 = .ok (.bipush 6, 2) := by decide +kernel
theorem dX12_findBeats_17 : decode cX12_findBeats 17 = .ok (.if_icmp .ge 44, 3) := by decide +kernel
theorem dX12_findBeats_20 : decode cX12_findBeats 20 = .ok (.aload_n 0, 1) := by decide +kernel
theorem dX12_findBeats_21 : decode cX12_findBeats 21 = .ok (.getfield 79, 3) := by decide +kernel
theorem dX12_findBeats_24 : decode cX12_findBeats 24 = .ok (.bipush 6, 2) := by decide +kernel
theorem dX12_findBeats_26 : decode cX12_findBeats 26 = .ok (.iload_n 2, 1) := by decide +kernel
theorem dX12_findBeats_27 : decode cX12_findBeats 27 = .ok (.imul, 1) := by decide +kernel
theorem dX12_findBeats_28 : decode cX12_findBeats 28 = .ok (.iload_n 3, 1) := by decide +kernel
theorem dX12_findBeats_29 : decode cX12_findBeats 29 = .ok (.iadd, 1) := by decide +kernel
theorem dX12_findBeats_30 : decode cX12_findBeats 30 = .ok (.iload_n 2, 1) := by decide +kernel
theorem dX12_findBeats_31 : decode cX12_findBeats 31 = .ok (.iload_n 3, 1) := by decide +kernel
theorem dX12_findBeats_32 : decode cX12_findBeats 32 = .ok (.if_icmp .eq 21, 3) := by decide +kernel
theorem dX12_findBeats_35 : decode cX12_findBeats 35 = .ok (.aload_n 0, 1) := by decide +kernel
theorem dX12_findBeats_36 : decode cX12_findBeats 36 = .ok (.iload_n 1, 1) := by decide +kernel
theorem dX12_findBeats_37 : decode cX12_findBeats 37 = .ok (.aload_n 0, 1) := by decide +kernel
theorem dX12_findBeats_38 : decode cX12_findBeats 38 = .ok (.iload_n 2, 1) := by decide +kernel
theorem dX12_findBeats_39 : decode cX12_findBeats 39 = .ok (.iload_n 3, 1) := by decide +kernel
theorem dX12_findBeats_40 : decode cX12_findBeats 40 = .ok (.invokevirtual 318, 3) := by decide +kernel
theorem dX12_findBeats_43 : decode cX12_findBeats 43 = .ok (.invokevirtual 274, 3) := by decide +kernel
theorem dX12_findBeats_46 : decode cX12_findBeats 46 = .ok (.ifCond .eq 7, 3) := by decide +kernel
theorem dX12_findBeats_49 : decode cX12_findBeats 49 = .ok (.iconst 1, 1) := by decide +kernel
theorem dX12_findBeats_50 : decode cX12_findBeats 50 = .ok (.goto 4, 3) := by decide +kernel
theorem dX12_findBeats_53 : decode cX12_findBeats 53 = .ok (.iconst 0, 1) := by decide +kernel
theorem dX12_findBeats_54 : decode cX12_findBeats 54 = .ok (.bastore, 1) := by decide +kernel
theorem dX12_findBeats_55 : decode cX12_findBeats 55 = .ok (.iinc 3 1, 3) := by decide +kernel
theorem dX12_findBeats_58 : decode cX12_findBeats 58 = .ok (.goto (-44), 3) := by decide +kernel
theorem dX12_findBeats_61 : decode cX12_findBeats 61 = .ok (.iinc 2 1, 3) := by decide +kernel
theorem dX12_findBeats_64 : decode cX12_findBeats 64 = .ok (.goto (-58), 3) := by decide +kernel
theorem dX12_findBeats_67 : decode cX12_findBeats 67 = .ok (.return_, 1) := by decide +kernel
theorem dX12_ends_0 : decode cX12_ends 0 = .ok (.iload_n 1, 1) := by decide +kernel
theorem dX12_ends_1 : decode cX12_ends 1 = .ok (.ifCond .ne 54, 3) := by decide +kernel
theorem dX12_ends_4 : decode cX12_ends 4 = .ok (.aload_n 0, 1) := by decide +kernel
theorem dX12_ends_5 : decode cX12_ends 5 = .ok (.getfield 82, 3) := by decide +kernel
theorem dX12_ends_8 : decode cX12_ends 8 = .ok (.iconst 0, 1) := by decide +kernel
theorem dX12_ends_9 : decode cX12_ends 9 = .ok (.iaload, 1) := by decide +kernel
theorem dX12_ends_10 : decode cX12_ends 10 = .ok (.istore_n 2, 1) := by decide +kernel
theorem dX12_ends_11 : decode cX12_ends 11 = .ok (.iconst 1, 1) := by decide +kernel
theorem dX12_ends_12 : decode cX12_ends 12 = .ok (.istore_n 3, 1) := by decide +kernel
theorem dX12_ends_13 : decode cX12_ends 13 = .ok (.iload_n 3, 1) := by decide +kernel
theorem dX12_ends_14 : decode cX12_ends 14 = .ok (.aload_n 0, 1) := by decide +kernel
theorem dX12_ends_15 : decode cX12_ends 15 = .ok (.getfield 321, 3) := by decide +kernel
theorem dX12_ends_18 : decode cX12_ends 18 = .ok (.if_icmp .ge 35, 3) := by decide +kernel
theorem dX12_ends_21 : decode cX12_ends 21 = .ok (.aload_n 0, 1) := by decide +kernel
theorem dX12_ends_22 : decode cX12_ends 22 = .ok (.getfield 79, 3) := by decide +kernel
theorem dX12_ends_25 : decode cX12_ends 25 = .ok (.bipush 6, 2) := by decide +kernel
theorem dX12_ends_27 : decode cX12_ends 27 = .ok (.aload_n 0, 1) := by decide +kernel
theorem dX12_ends_28 : decode cX12_ends 28 = .ok (.getfield 82, 3) := by decide +kernel
theorem dX12_ends_31 : decode cX12_ends 31 = .ok (.iload_n 3, 1) := by decide +kernel
theorem dX12_ends_32 : decode cX12_ends 32 = .ok (.iaload, 1) := by decide +kernel
theorem dX12_ends_33 : decode cX12_ends 33 = .ok (.imul, 1) := by decide +kernel
theorem dX12_ends_34 : decode cX12_ends 34 = .ok (.iload_n 2, 1) := by decide +kernel
theorem dX12_ends_35 : decode cX12_ends 35 = .ok (.iadd, 1) := by decide +kernel
theorem dX12_ends_36 : decode cX12_ends 36 = .ok (.baload, 1) := by decide +kernel
theorem dX12_ends_37 : decode cX12_ends 37 = .ok (.ifCond .eq 10, 3) := by decide +kernel
theorem dX12_ends_40 : decode cX12_ends 40 = .ok (.aload_n 0, 1) := by decide +kernel
theorem dX12_ends_41 : decode cX12_ends 41 = .ok (.getfield 82, 3) := by decide +kernel
theorem dX12_ends_44 : decode cX12_ends 44 = .ok (.iload_n 3, 1) := by decide +kernel
theorem dX12_ends_45 : decode cX12_ends 45 = .ok (.iaload, 1) := by decide +kernel
theorem dX12_ends_46 : decode cX12_ends 46 = .ok (.istore_n 2, 1) := by decide +kernel
theorem dX12_ends_47 : decode cX12_ends 47 = .ok (.iinc 3 1, 3) := by decide +kernel
theorem dX12_ends_50 : decode cX12_ends 50 = .ok (.goto (-37), 3) := by decide +kernel
theorem dX12_ends_53 : decode cX12_ends 53 = .ok (.iload_n 2, 1) := by decide +kernel
theorem dX12_ends_54 : decode cX12_ends 54 = .ok (.ireturn, 1) := by decide +kernel
theorem dX12_ends_55 : decode cX12_ends 55 = .ok (.iconst 0, 1) := by decide +kernel
theorem dX12_ends_56 : decode cX12_ends 56 = .ok (.istore_n 2, 1) := by decide +kernel
theorem dX12_ends_57 : decode cX12_ends 57 = .ok (.iload_n 2, 1) := by decide +kernel
theorem dX12_ends_58 : decode cX12_ends 58 = .ok (.bipush 6, 2) := by decide +kernel
theorem dX12_ends_60 : decode cX12_ends 60 = .ok (.if_icmp .ge 24, 3) := by decide +kernel
theorem dX12_ends_63 : decode cX12_ends 63 = .ok (.aload_n 0, 1) := by decide +kernel
theorem dX12_ends_64 : decode cX12_ends 64 = .ok (.getfield 85, 3) := by decide +kernel
theorem dX12_ends_67 : decode cX12_ends 67 = .ok (.bipush 6, 2) := by decide +kernel
theorem dX12_ends_69 : decode cX12_ends 69 = .ok (.aload_n 0, 1) := by decide +kernel
theorem dX12_ends_70 : decode cX12_ends 70 = .ok (.getfield 321, 3) := by decide +kernel
theorem dX12_ends_73 : decode cX12_ends 73 = .ok (.imul, 1) := by decide +kernel
theorem dX12_ends_74 : decode cX12_ends 74 = .ok (.iload_n 2, 1) := by decide +kernel
theorem dX12_ends_75 : decode cX12_ends 75 = .ok (.iadd, 1) := by decide +kernel
theorem dX12_ends_76 : decode cX12_ends 76 = .ok (.iload_n 2, 1) := by decide +kernel
theorem dX12_ends_77 : decode cX12_ends 77 = .ok (.iastore, 1) := by decide +kernel
theorem dX12_ends_78 : decode cX12_ends 78 = .ok (.iinc 2 1, 3) := by decide +kernel
theorem dX12_ends_81 : decode cX12_ends 81 = .ok (.goto (-24), 3) := by decide +kernel
theorem dX12_ends_84 : decode cX12_ends 84 = .ok (.aload_n 0, 1) := by decide +kernel
theorem dX12_ends_85 : decode cX12_ends 85 = .ok (.getfield 321, 3) := by decide +kernel
theorem dX12_ends_88 : decode cX12_ends 88 = .ok (.iconst 1, 1) := by decide +kernel
theorem dX12_ends_89 : decode cX12_ends 89 = .ok (.isub, 1) := by decide +kernel
theorem dX12_ends_90 : decode cX12_ends 90 = .ok (.istore_n 2, 1) := by decide +kernel
theorem dX12_ends_91 : decode cX12_ends 91 = .ok (.iload_n 2, 1) := by decide +kernel
theorem dX12_ends_92 : decode cX12_ends 92 = .ok (.ifCond .le 99, 3) := by decide +kernel
theorem dX12_ends_95 : decode cX12_ends 95 = .ok (.aload_n 0, 1) := by decide +kernel
theorem dX12_ends_96 : decode cX12_ends 96 = .ok (.getfield 85, 3) := by decide +kernel
theorem dX12_ends_99 : decode cX12_ends 99 = .ok (.bipush 6, 2) := by decide +kernel
theorem dX12_ends_101 : decode cX12_ends 101 = .ok (.iload_n 2, 1) := by decide +kernel
theorem dX12_ends_102 : decode cX12_ends 102 = .ok (.iconst 1, 1) := by decide +kernel
theorem dX12_ends_103 : decode cX12_ends 103 = .ok (.iadd, 1) := by decide +kernel
theorem dX12_ends_104 : decode cX12_ends 104 = .ok (.imul, 1) := by decide +kernel
theorem dX12_ends_105 : decode cX12_ends 105 = .ok (.aload_n 0, 1) := by decide +kernel
theorem dX12_ends_106 : decode cX12_ends 106 = .ok (.getfield 82, 3) := by decide +kernel
theorem dX12_ends_109 : decode cX12_ends 109 = .ok (.iload_n 2, 1) := by decide +kernel
theorem dX12_ends_110 : decode cX12_ends 110 = .ok (.iaload, 1) := by decide +kernel
theorem dX12_ends_111 : decode cX12_ends 111 = .ok (.iadd, 1) := by decide +kernel
theorem dX12_ends_112 : decode cX12_ends 112 = .ok (.iaload, 1) := by decide +kernel
theorem dX12_ends_113 : decode cX12_ends 113 = .ok (.istore_n 3, 1) := by decide +kernel
theorem dX12_ends_114 : decode cX12_ends 114 = .ok (.iconst 0, 1) := by decide +kernel
theorem dX12_ends_115 : decode cX12_ends 115 = .ok (.istore 4, 2) := by decide +kernel
theorem dX12_ends_117 : decode cX12_ends 117 = .ok (.iload 4, 2) := by decide +kernel
theorem dX12_ends_119 : decode cX12_ends 119 = .ok (.bipush 6, 2) := by decide +kernel
theorem dX12_ends_121 : decode cX12_ends 121 = .ok (.if_icmp .ge 64, 3) := by decide +kernel
theorem dX12_ends_124 : decode cX12_ends 124 = .ok (.aload_n 0, 1) := by decide +kernel
theorem dX12_ends_125 : decode cX12_ends 125 = .ok (.getfield 85, 3) := by decide +kernel
theorem dX12_ends_128 : decode cX12_ends 128 = .ok (.bipush 6, 2) := by decide +kernel
theorem dX12_ends_130 : decode cX12_ends 130 = .ok (.iload_n 2, 1) := by decide +kernel
theorem dX12_ends_131 : decode cX12_ends 131 = .ok (.iconst 1, 1) := by decide +kernel
theorem dX12_ends_132 : decode cX12_ends 132 = .ok (.iadd, 1) := by decide +kernel
theorem dX12_ends_133 : decode cX12_ends 133 = .ok (.imul, 1) := by decide +kernel
theorem dX12_ends_134 : decode cX12_ends 134 = .ok (.iload 4, 2) := by decide +kernel
theorem dX12_ends_136 : decode cX12_ends 136 = .ok (.iadd, 1) := by decide +kernel
theorem dX12_ends_137 : decode cX12_ends 137 = .ok (.iaload, 1) := by decide +kernel
theorem dX12_ends_138 : decode cX12_ends 138 = .ok (.istore 5, 2) := by decide +kernel
theorem dX12_ends_140 : decode cX12_ends 140 = .ok (.aload_n 0, 1) := by decide +kernel
theorem dX12_ends_141 : decode cX12_ends 141 = .ok (.getfield 85, 3) := by decide +kernel
theorem dX12_ends_144 : decode cX12_ends 144 = .ok (.bipush 6, 2) := by decide +kernel
theorem dX12_ends_146 : decode cX12_ends 146 = .ok (.iload_n 2, 1) := by decide +kernel
theorem dX12_ends_147 : decode cX12_ends 147 = .ok (.imul, 1) := by decide +kernel
theorem dX12_ends_148 : decode cX12_ends 148 = .ok (.iload 4, 2) := by decide +kernel
theorem dX12_ends_150 : decode cX12_ends 150 = .ok (.iadd, 1) := by decide +kernel
theorem dX12_ends_151 : decode cX12_ends 151 = .ok (.iload_n 3, 1) := by decide +kernel
theorem dX12_ends_152 : decode cX12_ends 152 = .ok (.iload 5, 2) := by decide +kernel
theorem dX12_ends_154 : decode cX12_ends 154 = .ok (.if_icmp .eq 22, 3) := by decide +kernel
theorem dX12_ends_157 : decode cX12_ends 157 = .ok (.aload_n 0, 1) := by decide +kernel
theorem dX12_ends_158 : decode cX12_ends 158 = .ok (.getfield 79, 3) := by decide +kernel
theorem dX12_ends_161 : decode cX12_ends 161 = .ok (.bipush 6, 2) := by decide +kernel
theorem dX12_ends_163 : decode cX12_ends 163 = .ok (.iload_n 3, 1) := by decide +kernel
theorem dX12_ends_164 : decode cX12_ends 164 = .ok (.imul, 1) := by decide +kernel
theorem dX12_ends_165 : decode cX12_ends 165 = .ok (.iload 5, 2) := by decide +kernel
theorem dX12_ends_167 : decode cX12_ends 167 = .ok (.iadd, 1) := by decide +kernel
theorem dX12_ends_168 : decode cX12_ends 168 = .ok (.baload, 1) := by decide +kernel
theorem dX12_ends_169 : decode cX12_ends 169 = .ok (.ifCond .eq 7, 3) := by decide +kernel
theorem dX12_ends_172 : decode cX12_ends 172 = .ok (.iload_n 3, 1) := by decide +kernel
theorem dX12_ends_173 : decode cX12_ends 173 = .ok (.goto 5, 3) := by decide +kernel
theorem dX12_ends_176 : decode cX12_ends 176 = .ok (.iload 5, 2) := by decide +kernel
theorem dX12_ends_178 : decode cX12_ends 178 = .ok (.iastore, 1) := by decide +kernel
theorem dX12_ends_179 : decode cX12_ends 179 = .ok (.iinc 4 1, 3) := by decide +kernel
theorem dX12_ends_182 : decode cX12_ends 182 = .ok (.goto (-65), 3) := by decide +kernel
theorem dX12_ends_185 : decode cX12_ends 185 = .ok (.iinc 2 (-1), 3) := by decide +kernel
theorem dX12_ends_188 : decode cX12_ends 188 = .ok (.goto (-97), 3) := by decide +kernel
theorem dX12_ends_191 : decode cX12_ends 191 = .ok (.aload_n 0, 1) := by decide +kernel
theorem dX12_ends_192 : decode cX12_ends 192 = .ok (.getfield 85, 3) := by decide +kernel
theorem dX12_ends_195 : decode cX12_ends 195 = .ok (.bipush 6, 2) := by decide +kernel
theorem dX12_ends_197 : decode cX12_ends 197 = .ok (.aload_n 0, 1) := by decide +kernel
theorem dX12_ends_198 : decode cX12_ends 198 = .ok (.getfield 82, 3) := by decide +kernel
theorem dX12_ends_201 : decode cX12_ends 201 = .ok (.iconst 0, 1) := by decide +kernel
theorem dX12_ends_202 : decode cX12_ends 202 = .ok (.iaload, 1) := by decide +kernel
theorem dX12_ends_203 : decode cX12_ends 203 = .ok (.iadd, 1) := by decide +kernel
theorem dX12_ends_204 : decode cX12_ends 204 = .ok (.iaload, 1) := by decide +kernel
theorem dX12_ends_205 : decode cX12_ends 205 = .ok (.ireturn, 1) := by decide +kernel
theorem dX12_readRow_0 : decode cX12_readRow 0 = .ok (.iconst 1, 1) := by decide +kernel
theorem dX12_readRow_1 : decode cX12_readRow 1 = .ok (.istore_n 2, 1) := by decide +kernel
theorem dX12_readRow_2 : decode cX12_readRow 2 = .ok (.aload_n 0, 1) := by decide +kernel
theorem dX12_readRow_3 : decode cX12_readRow 3 = .ok (.iconst 0, 1) := by decide +kernel
theorem dX12_readRow_4 : decode cX12_readRow 4 = .ok (.putfield 321, 3) := by decide +kernel
theorem dX12_readRow_7 : decode cX12_readRow 7 = .ok (.iload_n 1, 1) := by decide +kernel
theorem dX12_readRow_8 : decode cX12_readRow 8 = .ok (.iload_n 2, 1) := by decide +kernel
theorem dX12_readRow_9 : decode cX12_readRow 9 = .ok (.idiv, 1) := by decide +kernel
theorem dX12_readRow_10 : decode cX12_readRow 10 = .ok (.bipush 9, 2) := by decide +kernel
theorem dX12_readRow_12 : decode cX12_readRow 12 = .ok (.if_icmp .le 30, 3) := by decide +kernel
theorem dX12_readRow_15 : decode cX12_readRow 15 = .ok (.aload_n 0, 1) := by decide +kernel
theorem dX12_readRow_16 : decode cX12_readRow 16 = .ok (.getfield 321, 3) := by decide +kernel
theorem dX12_readRow_19 : decode cX12_readRow 19 = .ok (.bipush 7, 2) := by decide +kernel
theorem dX12_readRow_21 : decode cX12_readRow 21 = .ok (.if_icmp .ge 21, 3) := by decide +kernel
theorem dX12_readRow_24 : decode cX12_readRow 24 = .ok (.bipush 10, 2) := by decide +kernel
theorem dX12_readRow_26 : decode cX12_readRow 26 = .ok (.iload_n 2, 1) := by decide +kernel
theorem dX12_readRow_27 : decode cX12_readRow 27 = .ok (.imul, 1) := by decide +kernel
theorem dX12_readRow_28 : decode cX12_readRow 28 = .ok (.istore_n 2, 1) := by decide +kernel
theorem dX12_readRow_29 : decode cX12_readRow 29 = .ok (.aload_n 0, 1) := by decide +kernel
theorem dX12_readRow_30 : decode cX12_readRow 30 = .ok (.aload_n 0, 1) := by decide +kernel
theorem dX12_readRow_31 : decode cX12_readRow 31 = .ok (.getfield 321, 3) := by decide +kernel
theorem dX12_readRow_34 : decode cX12_readRow 34 = .ok (.iconst 1, 1) := by decide +kernel
theorem dX12_readRow_35 : decode cX12_readRow 35 = .ok (.iadd, 1) := by decide +kernel
theorem dX12_readRow_36 : decode cX12_readRow 36 = .ok (.putfield 321, 3) := by decide +kernel
theorem dX12_readRow_39 : decode cX12_readRow 39 = .ok (.goto (-32), 3) := by decide +kernel
theorem dX12_readRow_42 : decode cX12_readRow 42 = .ok (.iload_n 1, 1) := by decide +kernel
theorem dX12_readRow_43 : decode cX12_readRow 43 = .ok (.bipush 90, 2) := by decide +kernel
theorem dX12_readRow_45 : decode cX12_readRow 45 = .ok (.if_icmp .lt 20, 3) := by decide +kernel
theorem dX12_readRow_48 : decode cX12_readRow 48 = .ok (.iload_n 1, 1) := by decide +kernel
theorem dX12_readRow_49 : decode cX12_readRow 49 = .ok (.iload_n 2, 1) := by decide +kernel
theorem dX12_readRow_50 : decode cX12_readRow 50 = .ok (.idiv, 1) := by decide +kernel
theorem dX12_readRow_51 : decode cX12_readRow 51 = .ok (.bipush 9, 2) := by decide +kernel
theorem dX12_readRow_53 : decode cX12_readRow 53 = .ok (.if_icmp .ne 12, 3) := by decide +kernel
theorem dX12_readRow_56 : decode cX12_readRow 56 = .ok (.aload_n 0, 1) := by decide +kernel
theorem dX12_readRow_57 : decode cX12_readRow 57 = .ok (.getfield 321, 3) := by decide +kernel
theorem dX12_readRow_60 : decode cX12_readRow 60 = .ok (.bipush 6, 2) := by decide +kernel
theorem dX12_readRow_62 : decode cX12_readRow 62 = .ok (.if_icmp .le 5, 3) := by decide +kernel
theorem dX12_readRow_65 : decode cX12_readRow 65 = .ok (.iconst 0, 1) := by decide +kernel
theorem dX12_readRow_66 : decode cX12_readRow 66 = .ok (.ireturn, 1) := by decide +kernel
theorem dX12_readRow_67 : decode cX12_readRow 67 = .ok (.iconst 0, 1) := by decide +kernel
theorem dX12_readRow_68 : decode cX12_readRow 68 = .ok (.istore_n 3, 1) := by decide +kernel
theorem dX12_readRow_69 : decode cX12_readRow 69 = .ok (.iload_n 1, 1) := by decide +kernel
theorem dX12_readRow_70 : decode cX12_readRow 70 = .ok (.iload_n 2, 1) := by decide +kernel
theorem dX12_readRow_71 : decode cX12_readRow 71 = .ok (.irem, 1) := by decide +kernel
theorem dX12_readRow_72 : decode cX12_readRow 72 = .ok (.istore 4, 2) := by decide +kernel
theorem dX12_readRow_74 : decode cX12_readRow 74 = .ok (.aload_n 0, 1) := by decide +kernel
theorem dX12_readRow_75 : decode cX12_readRow 75 = .ok (.getfield 321, 3) := by decide +kernel
theorem dX12_readRow_78 : decode cX12_readRow 78 = .ok (.iconst 1, 1) := by decide +kernel
theorem dX12_readRow_79 : decode cX12_readRow 79 = .ok (.isub, 1) := by decide +kernel
theorem dX12_readRow_80 : decode cX12_readRow 80 = .ok (.istore 5, 2) := by decide +kernel
theorem dX12_readRow_82 : decode cX12_readRow 82 = .ok (.iload 5, 2) := by decide +kernel
theorem dX12_readRow_84 : decode cX12_readRow 84 = .ok (.ifCond .lt 69, 3) := by decide +kernel
theorem dX12_readRow_87 : decode cX12_readRow 87 = .ok (.aload_n 0, 1) := by decide +kernel
theorem dX12_readRow_88 : decode cX12_readRow 88 = .ok (.getfield 82, 3) := by decide +kernel
theorem dX12_readRow_91 : decode cX12_readRow 91 = .ok (.iload 5, 2) := by decide +kernel
theorem dX12_readRow_93 : decode cX12_readRow 93 = .ok (.iload 4, 2) := by decide +kernel
theorem dX12_readRow_95 : decode cX12_readRow 95 = .ok (.bipush 10, 2) := by decide +kernel
theorem dX12_readRow_97 : decode cX12_readRow 97 = .ok (.irem, 1) := by decide +kernel
theorem dX12_readRow_98 : decode cX12_readRow 98 = .ok (.iastore, 1) := by decide +kernel
theorem dX12_readRow_99 : decode cX12_readRow 99 = .ok (.iload 4, 2) := by decide +kernel
theorem dX12_readRow_101 : decode cX12_readRow 101 = .ok (.bipush 10, 2) := by decide +kernel
theorem dX12_readRow_103 : decode cX12_readRow 103 = .ok (.idiv, 1) := by decide +kernel
theorem dX12_readRow_104 : decode cX12_readRow 104 = .ok (.istore 4, 2) := by decide +kernel
theorem dX12_readRow_106 : decode cX12_readRow 106 = .ok (.aload_n 0, 1) := by decide +kernel
theorem dX12_readRow_107 : decode cX12_readRow 107 = .ok (.getfield 82, 3) := by decide +kernel
theorem dX12_readRow_110 : decode cX12_readRow 110 = .ok (.iload 5, 2) := by decide +kernel
theorem dX12_readRow_112 : decode cX12_readRow 112 = .ok (.iaload, 1) := by decide +kernel
theorem dX12_readRow_113 : decode cX12_readRow 113 = .ok (.bipush 6, 2) := by decide +kernel
theorem dX12_readRow_115 : decode cX12_readRow 115 = .ok (.if_icmp .ge 18, 3) := by decide +kernel
theorem dX12_readRow_118 : decode cX12_readRow 118 = .ok (.iload_n 3, 1) := by decide +kernel
theorem dX12_readRow_119 : decode cX12_readRow 119 = .ok (.aload_n 0, 1) := by decide +kernel
theorem dX12_readRow_120 : decode cX12_readRow 120 = .ok (.getfield 82, 3) := by decide +kernel
theorem dX12_readRow_123 : decode cX12_readRow 123 = .ok (.iload 5, 2) := by decide +kernel
theorem dX12_readRow_125 : decode cX12_readRow 125 = .ok (.iaload, 1) := by decide +kernel
theorem dX12_readRow_126 : decode cX12_readRow 126 = .ok (.ishr, 1) := by decide +kernel
theorem dX12_readRow_127 : decode cX12_readRow 127 = .ok (.iconst 1, 1) := by decide +kernel
theorem dX12_readRow_128 : decode cX12_readRow 128 = .ok (.iand, 1) := by decide +kernel
theorem dX12_readRow_129 : decode cX12_readRow 129 = .ok (.iconst 1, 1) := by decide +kernel
theorem dX12_readRow_130 : decode cX12_readRow 130 = .ok (.if_icmp .ne 5, 3) := by decide +kernel
theorem dX12_readRow_133 : decode cX12_readRow 133 = .ok (.iconst 0, 1) := by decide +kernel
theorem dX12_readRow_134 : decode cX12_readRow 134 = .ok (.ireturn, 1) := by decide +kernel
theorem dX12_readRow_135 : decode cX12_readRow 135 = .ok (.iload_n 3, 1) := by decide +kernel
theorem dX12_readRow_136 : decode cX12_readRow 136 = .ok (.iconst 1, 1) := by decide +kernel
theorem dX12_readRow_137 : decode cX12_readRow 137 = .ok (.aload_n 0, 1) := by decide +kernel
theorem dX12_readRow_138 : decode cX12_readRow 138 = .ok (.getfield 82, 3) := by decide +kernel
theorem dX12_readRow_141 : decode cX12_readRow 141 = .ok (.iload 5, 2) := by decide +kernel
theorem dX12_readRow_143 : decode cX12_readRow 143 = .ok (.iaload, 1) := by decide +kernel
theorem dX12_readRow_144 : decode cX12_readRow 144 = .ok (.ishl, 1) := by decide +kernel
theorem dX12_readRow_145 : decode cX12_readRow 145 = .ok (.ior, 1) := by decide +kernel
theorem dX12_readRow_146 : decode cX12_readRow 146 = .ok (.istore_n 3, 1) := by decide +kernel
theorem dX12_readRow_147 : decode cX12_readRow 147 = .ok (.iinc 5 (-1), 3) := by decide +kernel
theorem dX12_readRow_150 : decode cX12_readRow 150 = .ok (.goto (-68), 3) := by decide +kernel
theorem dX12_readRow_153 : decode cX12_readRow 153 = .ok (.iconst 1, 1) := by decide +kernel
theorem dX12_readRow_154 : decode cX12_readRow 154 = .ok (.ireturn, 1) := by decide +kernel
set_option maxRecDepth 20000 in
theorem ggX12_agenda_X12_isRule : GoodIn wsX12_agenda wsX12_isRule := goodIn_r _ [6, 7, 8, 9, 5, 10] (by decide +kernel) (by decide +kernel)
set_option maxRecDepth 20000 in
theorem gX12_agenda_X12_isRule : GoodIn wsX12_agenda (wsV RX12 249 RX12 yX12_isRule wsX12_isRule) := goodIn_app (goodIn_of _ (by decide +kernel)) ggX12_agenda_X12_isRule
set_option maxRecDepth 20000 in
theorem ggX12_agenda_X12_readRow : GoodIn wsX12_agenda wsX12_readRow := goodIn_r _ [14, 15, 16, 91, 92, 93, 94, 95, 96, 97, 98, 99, 100, 101, 102, 103, 104, 105, 106, 107, 108, 109, 110, 111, 112, 113, 114, 115, 116, 117, 118, 119, 120, 121, 122, 123, 124, 125, 126, 127, 128, 129, 130, 131, 132, 133, 134, 135, 136, 137, 138, 139, 140, 141, 142] (by decide +kernel) (by decide +kernel)
set_option maxRecDepth 20000 in
theorem gX12_agenda_X12_readRow : GoodIn wsX12_agenda (wsV RX12 324 RX12 yX12_readRow wsX12_readRow) := goodIn_app (goodIn_of _ (by decide +kernel)) ggX12_agenda_X12_readRow
set_option maxRecDepth 20000 in
theorem ggX12_agenda_X12_findBeats : GoodIn wsX12_agenda wsX12_findBeats := goodIn_r _ [20, 21, 22, 23, 24, 5, 25, 26, 27, 28, 29, 30, 31, 32, 33, 34, 35, 36, 37, 38, 39, 40, 41, 42, 43, 44, 45, 46, 47, 48, 49, 50, 51, 52, 53, 54, 55, 56, 57, 58, 59, 60, 61, 62, 63, 64, 65, 66, 67, 68, 69, 70, 71, 72, 73, 74, 75, 76, 77, 78, 79, 80, 81, 82, 83, 84, 85, 91, 92, 93, 94, 95, 96, 97, 98, 99, 100, 101, 102, 103, 104, 105, 106, 107, 108, 109, 110, 111, 112, 113, 114, 115, 116, 117, 118, 119, 120, 121, 122, 123, 124, 125, 126, 127, 128, 129, 130, 131, 132, 133, 134, 135, 136, 137, 138, 139, 140, 141, 142] (by decide +kernel) (by decide +kernel)
set_option maxRecDepth 20000 in
theorem gX12_agenda_X12_findBeats : GoodIn wsX12_agenda (wsV RX12 327 RX12 yX12_findBeats wsX12_findBeats) := goodIn_app (goodIn_of _ (by decide +kernel)) ggX12_agenda_X12_findBeats
set_option maxRecDepth 20000 in
theorem ggX12_agenda_X12_ends : GoodIn wsX12_agenda wsX12_ends := goodIn_r _ [89, 16, 15, 21, 90, 91, 92, 93, 94, 95, 96, 97, 98, 99, 100, 101, 102, 103, 104, 105, 106, 107, 108, 109, 110, 111, 112, 113, 114, 115, 116, 117, 118, 119, 120, 121, 122, 123, 124, 125, 126, 127, 128, 129, 130, 131, 132, 133, 134, 135, 136, 137, 138, 139, 140, 141, 142] (by decide +kernel) (by decide +kernel)
set_option maxRecDepth 20000 in
theorem gX12_agenda_X12_ends : GoodIn wsX12_agenda (wsV RX12 330 RX12 yX12_ends wsX12_ends) := goodIn_app (goodIn_of _ (by decide +kernel)) ggX12_agenda_X12_ends
theorem dX12_agenda_0 : decode cX12_agenda 0 = .ok (.aload_n 0, 1) := by decide +kernel
theorem dX12_agenda_1 : decode cX12_agenda 1 = .ok (.iconst 0, 1) := by decide +kernel
theorem dX12_agenda_2 : decode cX12_agenda 2 = .ok (.putfield 115, 3) := by decide +kernel
theorem dX12_agenda_5 : decode cX12_agenda 5 = .ok (.aload_n 0, 1) := by decide +kernel
theorem dX12_agenda_6 : decode cX12_agenda 6 = .ok (.iload_n 1, 1) := by decide +kernel
theorem dX12_agenda_7 : decode cX12_agenda 7 = .ok (.invokevirtual 249, 3) := by decide +kernel
theorem dX12_agenda_10 : decode cX12_agenda 10 = .ok (.ifCond .eq 11, 3) := by decide +kernel
theorem dX12_agenda_13 : decode cX12_agenda 13 = .ok (.aload_n 0, 1) := by decide +kernel
theorem dX12_agenda_14 : decode cX12_agenda 14 = .ok (.iload_n 2, 1) := by decide +kernel
theorem dX12_agenda_15 : decode cX12_agenda 15 = .ok (.invokevirtual 324, 3) := by decide +kernel
theorem dX12_agenda_18 : decode cX12_agenda 18 = .ok (.ifCond .ne 5, 3) := by decide +kernel
theorem dX12_agenda_21 : decode cX12_agenda 21 = .ok (.iconst (-1), 1) := by decide +kernel
theorem dX12_agenda_22 : decode cX12_agenda 22 = .ok (.ireturn, 1) := by decide +kernel
theorem dX12_agenda_23 : decode cX12_agenda 23 = .ok (.aload_n 0, 1) := by decide +kernel
theorem dX12_agenda_24 : decode cX12_agenda 24 = .ok (.iload_n 1, 1) := by decide +kernel
theorem dX12_agenda_25 : decode cX12_agenda 25 = .ok (.invokevirtual 327, 3) := by decide +kernel
theorem dX12_agenda_28 : decode cX12_agenda 28 = .ok (.aload_n 0, 1) := by decide +kernel
theorem dX12_agenda_29 : decode cX12_agenda 29 = .ok (.iload_n 3, 1) := by decide +kernel
theorem dX12_agenda_30 : decode cX12_agenda 30 = .ok (.invokevirtual 330, 3) := by decide +kernel
theorem dX12_agenda_33 : decode cX12_agenda 33 = .ok (.ireturn, 1) := by decide +kernel
theorem dX12_nextRow_0 : decode cX12_nextRow 0 = .ok (.aload_n 0, 1) := by decide +kernel
theorem dX12_nextRow_1 : decode cX12_nextRow 1 = .ok (.getfield 321, 3) := by decide +kernel
theorem dX12_nextRow_4 : decode cX12_nextRow 4 = .ok (.iconst 2, 1) := by decide +kernel
theorem dX12_nextRow_5 : decode cX12_nextRow 5 = .ok (.isub, 1) := by decide +kernel
theorem dX12_nextRow_6 : decode cX12_nextRow 6 = .ok (.istore_n 1, 1) := by decide +kernel
theorem dX12_nextRow_7 : decode cX12_nextRow 7 = .ok (.iload_n 1, 1) := by decide +kernel
theorem dX12_nextRow_8 : decode cX12_nextRow 8 = .ok (.ifCond .lt 27, 3) := by decide +kernel
theorem dX12_nextRow_11 : decode cX12_nextRow 11 = .ok (.aload_n 0, 1) := by decide +kernel
theorem dX12_nextRow_12 : decode cX12_nextRow 12 = .ok (.getfield 82, 3) := by decide +kernel
theorem dX12_nextRow_15 : decode cX12_nextRow 15 = .ok (.iload_n 1, 1) := by decide +kernel
theorem dX12_nextRow_16 : decode cX12_nextRow 16 = .ok (.iaload, 1) := by decide +kernel
theorem dX12_nextRow_17 : decode cX12_nextRow 17 = .ok (.aload_n 0, 1) := by decide +kernel
theorem dX12_nextRow_18 : decode cX12_nextRow 18 = .ok (.getfield 82, 3) := by decide +kernel
theorem dX12_nextRow_21 : decode cX12_nextRow 21 = .ok (.iload_n 1, 1) := by decide +kernel
theorem dX12_nextRow_22 : decode cX12_nextRow 22 = .ok (.iconst 1, 1) := by decide +kernel
theorem dX12_nextRow_23 : decode cX12_nextRow 23 = .ok (.iadd, 1) := by decide +kernel
theorem dX12_nextRow_24 : decode cX12_nextRow 24 = .ok (.iaload, 1) := by decide +kernel
theorem dX12_nextRow_25 : decode cX12_nextRow 25 = .ok (.if_icmp .le 10, 3) := by decide +kernel
theorem dX12_nextRow_28 : decode cX12_nextRow 28 = .ok (.iload_n 1, 1) := by decide +kernel
theorem dX12_nextRow_29 : decode cX12_nextRow 29 = .ok (.iconst 1, 1) := by decide +kernel
theorem dX12_nextRow_30 : decode cX12_nextRow 30 = .ok (.isub, 1) := by decide +kernel
theorem dX12_nextRow_31 : decode cX12_nextRow 31 = .ok (.istore_n 1, 1) := by decide +kernel
theorem dX12_nextRow_32 : decode cX12_nextRow 32 = .ok (.goto (-25), 3) := by decide +kernel
theorem dX12_nextRow_35 : decode cX12_nextRow 35 = .ok (.iload_n 1, 1) := by decide +kernel
theorem dX12_nextRow_36 : decode cX12_nextRow 36 = .ok (.ifCond .ge 5, 3) := by decide +kernel
theorem dX12_nextRow_39 : decode cX12_nextRow 39 = .ok (.iconst 0, 1) := by decide +kernel
theorem dX12_nextRow_40 : decode cX12_nextRow 40 = .ok (.ireturn, 1) := by decide +kernel
theorem dX12_nextRow_41 : decode cX12_nextRow 41 = .ok (.aload_n 0, 1) := by decide +kernel
theorem dX12_nextRow_42 : decode cX12_nextRow 42 = .ok (.getfield 321, 3) := by decide +kernel
theorem dX12_nextRow_45 : decode cX12_nextRow 45 = .ok (.iconst 1, 1) := by decide +kernel
theorem dX12_nextRow_46 : decode cX12_nextRow 46 = .ok (.isub, 1) := by decide +kernel
theorem dX12_nextRow_47 : decode cX12_nextRow 47 = .ok (.istore_n 2, 1) := by decide +kernel
theorem dX12_nextRow_48 : decode cX12_nextRow 48 = .ok (.aload_n 0, 1) := by decide +kernel
theorem dX12_nextRow_49 : decode cX12_nextRow 49 = .ok (.getfield 82, 3) := by decide +kernel
theorem dX12_nextRow_52 : decode cX12_nextRow 52 = .ok (.iload_n 2, 1) := by decide +kernel
theorem dX12_nextRow_53 : decode cX12_nextRow 53 = .ok (.iaload, 1) := by decide +kernel
theorem dX12_nextRow_54 : decode cX12_nextRow 54 = .ok (.aload_n 0, 1) := by decide +kernel
theorem dX12_nextRow_55 : decode cX12_nextRow 55 = .ok (.getfield 82, 3) := by decide +kernel
theorem dX12_nextRow_58 : decode cX12_nextRow 58 = .ok (.iload_n 1, 1) := by decide +kernel
theorem dX12_nextRow_59 : decode cX12_nextRow 59 = .ok (.iaload, 1) := by decide +kernel
theorem dX12_nextRow_60 : decode cX12_nextRow 60 = .ok (.if_icmp .ge 10, 3) := by decide +kernel
theorem dX12_nextRow_63 : decode cX12_nextRow 63 = .ok (.iload_n 2, 1) := by decide +kernel
theorem dX12_nextRow_64 : decode cX12_nextRow 64 = .ok (.iconst 1, 1) := by decide +kernel
theorem dX12_nextRow_65 : decode cX12_nextRow 65 = .ok (.isub, 1) := by decide +kernel
theorem dX12_nextRow_66 : decode cX12_nextRow 66 = .ok (.istore_n 2, 1) := by decide +kernel
theorem dX12_nextRow_67 : decode cX12_nextRow 67 = .ok (.goto (-19), 3) := by decide +kernel
theorem dX12_nextRow_70 : decode cX12_nextRow 70 = .ok (.aload_n 0, 1) := by decide +kernel
theorem dX12_nextRow_71 : decode cX12_nextRow 71 = .ok (.getfield 82, 3) := by decide +kernel
theorem dX12_nextRow_74 : decode cX12_nextRow 74 = .ok (.iload_n 1, 1) := by decide +kernel
theorem dX12_nextRow_75 : decode cX12_nextRow 75 = .ok (.iaload, 1) := by decide +kernel
theorem dX12_nextRow_76 : decode cX12_nextRow 76 = .ok (.istore_n 3, 1) := by decide +kernel
theorem dX12_nextRow_77 : decode cX12_nextRow 77 = .ok (.aload_n 0, 1) := by decide +kernel
theorem dX12_nextRow_78 : decode cX12_nextRow 78 = .ok (.getfield 82, 3) := by decide +kernel
theorem dX12_nextRow_81 : decode cX12_nextRow 81 = .ok (.iload_n 1, 1) := by decide +kernel
theorem dX12_nextRow_82 : decode cX12_nextRow 82 = .ok (.aload_n 0, 1) := by decide +kernel
theorem dX12_nextRow_83 : decode cX12_nextRow 83 = .ok (.getfield 82, 3) := by decide +kernel
theorem dX12_nextRow_86 : decode cX12_nextRow 86 = .ok (.iload_n 2, 1) := by decide +kernel
theorem dX12_nextRow_87 : decode cX12_nextRow 87 = .ok (.iaload, 1) := by decide +kernel
theorem dX12_nextRow_88 : decode cX12_nextRow 88 = .ok (.iastore, 1) := by decide +kernel
theorem dX12_nextRow_89 : decode cX12_nextRow 89 = .ok (.aload_n 0, 1) := by decide +kernel
theorem dX12_nextRow_90 : decode cX12_nextRow 90 = .ok (.getfield 82, 3) := by decide +kernel
theorem dX12_nextRow_93 : decode cX12_nextRow 93 = .ok (.iload_n 2, 1) := by decide +kernel
theorem dX12_nextRow_94 : decode cX12_nextRow 94 = .ok (.iload_n 3, 1) := by decide +kernel
theorem dX12_nextRow_95 : decode cX12_nextRow 95 = .ok (.iastore, 1) := by decide +kernel
theorem dX12_nextRow_96 : decode cX12_nextRow 96 = .ok (.iload_n 1, 1) := by decide +kernel
theorem dX12_nextRow_97 : decode cX12_nextRow 97 = .ok (.iconst 1, 1) := by decide +kernel
theorem dX12_nextRow_98 : decode cX12_nextRow 98 = .ok (.iadd, 1) := by decide +kernel
theorem dX12_nextRow_99 : decode cX12_nextRow 99 = .ok (.istore 4, 2) := by decide +kernel
theorem dX12_nextRow_101 : decode cX12_nextRow 101 = .ok (.aload_n 0, 1) := by decide +kernel
theorem dX12_nextRow_102 : decode cX12_nextRow 102 = .ok (.getfield 321, 3) := by decide +kernel
theorem dX12_nextRow_105 : decode cX12_nextRow 105 = .ok (.iconst 1, 1) := by decide +kernel
theorem dX12_nextRow_106 : decode cX12_nextRow 106 = .ok (.isub, 1) := by decide +kernel
theorem dX12_nextRow_107 : decode cX12_nextRow 107 = .ok (.istore 5, 2) := by decide +kernel
theorem dX12_nextRow_109 : decode cX12_nextRow 109 = .ok (.iload 4, 2) := by decide +kernel
theorem dX12_nextRow_111 : decode cX12_nextRow 111 = .ok (.iload 5, 2) := by decide +kernel
