theorem dX6_worth_185 : decode cX6_worth 185 = .ok (.aload_n 0, 1) := by decide +kernel
theorem dX6_worth_186 : decode cX6_worth 186 = .ok (.getfield 85, 3) := by decide +kernel
theorem dX6_worth_189 : decode cX6_worth 189 = .ok (.iload_n 2, 1) := by decide +kernel
theorem dX6_worth_190 : decode cX6_worth 190 = .ok (.iconst 1, 1) := by decide +kernel
theorem dX6_worth_191 : decode cX6_worth 191 = .ok (.isub, 1) := by decide +kernel
theorem dX6_worth_192 : decode cX6_worth 192 = .ok (.baload, 1) := by decide +kernel
theorem dX6_worth_193 : decode cX6_worth 193 = .ok (.ifCond .ne 12, 3) := by decide +kernel
theorem dX6_worth_196 : decode cX6_worth 196 = .ok (.aload_n 0, 1) := by decide +kernel
theorem dX6_worth_197 : decode cX6_worth 197 = .ok (.getfield 85, 3) := by decide +kernel
theorem dX6_worth_200 : decode cX6_worth 200 = .ok (.iload_n 2, 1) := by decide +kernel
theorem dX6_worth_201 : decode cX6_worth 201 = .ok (.baload, 1) := by decide +kernel
theorem dX6_worth_202 : decode cX6_worth 202 = .ok (.ifCond .eq 7, 3) := by decide +kernel
theorem dX6_worth_205 : decode cX6_worth 205 = .ok (.iconst 1, 1) := by decide +kernel
theorem dX6_worth_206 : decode cX6_worth 206 = .ok (.goto 4, 3) := by decide +kernel
theorem dX6_worth_209 : decode cX6_worth 209 = .ok (.iconst 0, 1) := by decide +kernel
theorem dX6_worth_210 : decode cX6_worth 210 = .ok (.bastore, 1) := by decide +kernel
theorem dX6_worth_211 : decode cX6_worth 211 = .ok (.iinc 3 (-1), 3) := by decide +kernel
theorem dX6_worth_214 : decode cX6_worth 214 = .ok (.goto (-194), 3) := by decide +kernel
theorem dX6_worth_217 : decode cX6_worth 217 = .ok (.aload_n 0, 1) := by decide +kernel
theorem dX6_worth_218 : decode cX6_worth 218 = .ok (.getfield 85, 3) := by decide +kernel
theorem dX6_worth_221 : decode cX6_worth 221 = .ok (.iconst 0, 1) := by decide +kernel
theorem dX6_worth_222 : decode cX6_worth 222 = .ok (.baload, 1) := by decide +kernel
theorem dX6_worth_223 : decode cX6_worth 223 = .ok (.ifCond .eq 12, 3) := by decide +kernel
theorem dX6_worth_226 : decode cX6_worth 226 = .ok (.aload_n 0, 1) := by decide +kernel
theorem dX6_worth_227 : decode cX6_worth 227 = .ok (.getfield 82, 3) := by decide +kernel
theorem dX6_worth_230 : decode cX6_worth 230 = .ok (.iconst 0, 1) := by decide +kernel
theorem dX6_worth_231 : decode cX6_worth 231 = .ok (.iaload, 1) := by decide +kernel
theorem dX6_worth_232 : decode cX6_worth 232 = .ok (.goto 4, 3) := by decide +kernel
theorem dX6_worth_235 : decode cX6_worth 235 = .ok (.iconst (-1), 1) := by decide +kernel
theorem dX6_worth_236 : decode cX6_worth 236 = .ok (.ireturn, 1) := by decide +kernel
set_option maxRecDepth 20000 in
theorem ggX6_keyOf_X6_worth : GoodIn wsX6_keyOf wsX6_worth := goodIn_r _ [6, 7, 8, 9, 10, 1, 11, 12, 13, 14, 5, 15, 16, 17, 18, 19, 20, 21, 22, 23, 24, 25, 26, 27, 28, 29, 30, 31, 32, 33, 34, 35, 36, 37, 38, 39, 40, 41, 42, 43, 44, 45, 46, 47, 48, 49, 50, 51, 52, 53, 54, 55, 56, 57, 58, 59] (by decide +kernel) (by decide +kernel)
set_option maxRecDepth 20000 in
theorem gX6_keyOf_X6_worth : GoodIn wsX6_keyOf (wsV RX6 201 RX6 yX6_worth wsX6_worth) := goodIn_app (goodIn_of _ (by decide +kernel)) ggX6_keyOf_X6_worth
theorem dX6_keyOf_0 : decode cX6_keyOf 0 = .ok (.iload_n 1, 1) := by decide +kernel
theorem dX6_keyOf_1 : decode cX6_keyOf 1 = .ok (.ifCond .ne 11, 3) := by decide +kernel
theorem dX6_keyOf_4 : decode cX6_keyOf 4 = .ok (.aload_n 0, 1) := by decide +kernel
theorem dX6_keyOf_5 : decode cX6_keyOf 5 = .ok (.iload_n 2, 1) := by decide +kernel
theorem dX6_keyOf_6 : decode cX6_keyOf 6 = .ok (.invokevirtual 201, 3) := by decide +kernel
theorem dX6_keyOf_9 : decode cX6_keyOf 9 = .ok (.goto 10, 3) := by decide +kernel
theorem dX6_keyOf_12 : decode cX6_keyOf 12 = .ok (.aload_n 0, 1) := by decide +kernel
theorem dX6_keyOf_13 : decode cX6_keyOf 13 = .ok (.getfield 38, 3) := by decide +kernel
theorem dX6_keyOf_16 : decode cX6_keyOf 16 = .ok (.iload_n 2, 1) := by decide +kernel
theorem dX6_keyOf_17 : decode cX6_keyOf 17 = .ok (.laload, 1) := by decide +kernel
theorem dX6_keyOf_18 : decode cX6_keyOf 18 = .ok (.l2i, 1) := by decide +kernel
theorem dX6_keyOf_19 : decode cX6_keyOf 19 = .ok (.ireturn, 1) := by decide +kernel
theorem dX6_before_0 : decode cX6_before 0 = .ok (.iload_n 1, 1) := by decide +kernel
theorem dX6_before_1 : decode cX6_before 1 = .ok (.iload_n 3, 1) := by decide +kernel
theorem dX6_before_2 : decode cX6_before 2 = .ok (.if_icmp .ne 15, 3) := by decide +kernel
theorem dX6_before_5 : decode cX6_before 5 = .ok (.iload_n 2, 1) := by decide +kernel
theorem dX6_before_6 : decode cX6_before 6 = .ok (.iload 4, 2) := by decide +kernel
theorem dX6_before_8 : decode cX6_before 8 = .ok (.if_icmp .ge 7, 3) := by decide +kernel
theorem dX6_before_11 : decode cX6_before 11 = .ok (.iconst 1, 1) := by decide +kernel
theorem dX6_before_12 : decode cX6_before 12 = .ok (.goto 4, 3) := by decide +kernel
theorem dX6_before_15 : decode cX6_before 15 = .ok (.iconst 0, 1) := by decide +kernel
theorem dX6_before_16 : decode cX6_before 16 = .ok (.ireturn, 1) := by decide +kernel
theorem dX6_before_17 : decode cX6_before 17 = .ok (.iload_n 0, 1) := by decide +kernel
theorem dX6_before_18 : decode cX6_before 18 = .ok (.iconst 1, 1) := by decide +kernel
theorem dX6_before_19 : decode cX6_before 19 = .ok (.if_icmp .ne 16, 3) := by decide +kernel
theorem dX6_before_22 : decode cX6_before 22 = .ok (.iload_n 1, 1) := by decide +kernel
theorem dX6_before_23 : decode cX6_before 23 = .ok (.iload_n 3, 1) := by decide +kernel
theorem dX6_before_24 : decode cX6_before 24 = .ok (.if_icmp .ge 7, 3) := by decide +kernel
theorem dX6_before_27 : decode cX6_before 27 = .ok (.iconst 1, 1) := by decide +kernel
theorem dX6_before_28 : decode cX6_before 28 = .ok (.goto 17, 3) := by decide +kernel
theorem dX6_before_31 : decode cX6_before 31 = .ok (.iconst 0, 1) := by decide +kernel
theorem dX6_before_32 : decode cX6_before 32 = .ok (.goto 13, 3) := by decide +kernel
theorem dX6_before_35 : decode cX6_before 35 = .ok (.iload_n 1, 1) := by decide +kernel
theorem dX6_before_36 : decode cX6_before 36 = .ok (.iload_n 3, 1) := by decide +kernel
theorem dX6_before_37 : decode cX6_before 37 = .ok (.if_icmp .le 7, 3) := by decide +kernel
theorem dX6_before_40 : decode cX6_before 40 = .ok (.iconst 1, 1) := by decide +kernel
theorem dX6_before_41 : decode cX6_before 41 = .ok (.goto 4, 3) := by decide +kernel
theorem dX6_before_44 : decode cX6_before 44 = .ok (.iconst 0, 1) := by decide +kernel
theorem dX6_before_45 : decode cX6_before 45 = .ok (.ireturn, 1) := by decide +kernel
set_option maxRecDepth 20000 in
theorem ggX6_isBad_X6_in : GoodIn wsX6_isBad wsX6_in := goodIn_r _ [4] (by decide +kernel) (by decide +kernel)
set_option maxRecDepth 20000 in
theorem gX6_isBad_X6_in : GoodIn wsX6_isBad (va_wsS RX6 108 yX6_in wsX6_in) := goodIn_app (goodIn_of _ (by decide +kernel)) ggX6_isBad_X6_in
set_option maxRecDepth 20000 in
theorem ggX6_isBad_X6_isQuery : GoodIn wsX6_isBad wsX6_isQuery := goodIn_r _ [8, 9, 10, 11, 12, 13, 14, 15, 16, 17, 18, 19, 20, 21, 22, 23, 24, 25, 26, 27, 28, 29, 30, 31, 32, 33, 34, 35, 36, 37, 38, 39, 40, 41, 42, 43, 44, 45, 46] (by decide +kernel) (by decide +kernel)
set_option maxRecDepth 20000 in
theorem gX6_isBad_X6_isQuery : GoodIn wsX6_isBad (wsV RX6 204 RX6 yX6_isQuery wsX6_isQuery) := goodIn_app (goodIn_of _ (by decide +kernel)) ggX6_isBad_X6_isQuery
theorem dX6_isBad_0 : decode cX6_isBad 0 = .ok (.iload_n 1, 1) := by decide +kernel
theorem dX6_isBad_1 : decode cX6_isBad 1 = .ok (.iconst 0, 1) := by decide +kernel
theorem dX6_isBad_2 : decode cX6_isBad 2 = .ok (.iconst 2, 1) := by decide +kernel
theorem dX6_isBad_3 : decode cX6_isBad 3 = .ok (.invokestatic 108, 3) := by decide +kernel
theorem dX6_isBad_6 : decode cX6_isBad 6 = .ok (.ifCond .eq 10, 3) := by decide +kernel
theorem dX6_isBad_9 : decode cX6_isBad 9 = .ok (.aload_n 0, 1) := by decide +kernel
theorem dX6_isBad_10 : decode cX6_isBad 10 = .ok (.invokevirtual 204, 3) := by decide +kernel
theorem dX6_isBad_13 : decode cX6_isBad 13 = .ok (.ifCond .ne 7, 3) := by decide +kernel
theorem dX6_isBad_16 : decode cX6_isBad 16 = .ok (.iconst 1, 1) := by decide +kernel
theorem dX6_isBad_17 : decode cX6_isBad 17 = .ok (.goto 4, 3) := by decide +kernel
theorem dX6_isBad_20 : decode cX6_isBad 20 = .ok (.iconst 0, 1) := by decide +kernel
theorem dX6_isBad_21 : decode cX6_isBad 21 = .ok (.ireturn, 1) := by decide +kernel
set_option maxRecDepth 20000 in
theorem ggX6_hit_X6_isBad : GoodIn wsX6_hit wsX6_isBad := goodIn_r _ [6, 7, 8, 5, 9, 10, 11, 12, 13, 14, 15, 43, 44, 45, 46, 47, 48, 49, 50, 51, 52, 53, 54, 55, 56, 57, 58, 59, 60, 61, 62, 63, 64, 65, 66, 67, 68, 69, 70, 71, 72, 73, 74, 75, 76, 77, 78] (by decide +kernel) (by decide +kernel)
set_option maxRecDepth 20000 in
theorem gX6_hit_X6_isBad : GoodIn wsX6_hit (wsV RX6 208 RX6 yX6_isBad wsX6_isBad) := goodIn_app (goodIn_of _ (by decide +kernel)) ggX6_hit_X6_isBad
set_option maxRecDepth 20000 in
theorem ggX6_hit_X6_worth : GoodIn wsX6_hit wsX6_worth := goodIn_r _ [19, 20, 14, 15, 21, 22, 23, 24, 25, 26, 5, 27, 28, 29, 30, 31, 32, 33, 34, 35, 43, 44, 45, 46, 47, 48, 49, 50, 51, 52, 53, 54, 55, 56, 57, 58, 59, 60, 61, 62, 63, 64, 65, 66, 67, 68, 69, 70, 71, 72, 73, 74, 75, 76, 77, 78] (by decide +kernel) (by decide +kernel)
set_option maxRecDepth 20000 in
theorem gX6_hit_X6_worth : GoodIn wsX6_hit (wsV RX6 201 RX6 yX6_worth wsX6_worth) := goodIn_app (goodIn_of _ (by decide +kernel)) ggX6_hit_X6_worth
set_option maxRecDepth 20000 in
theorem ggX6_hit_X6_keyOf : GoodIn wsX6_hit wsX6_keyOf := goodIn_r _ [39, 22, 16, 17, 18, 5, 19, 20, 14, 15, 21, 23, 24, 25, 26, 27, 28, 29, 30, 31, 32, 33, 34, 35, 43, 44, 45, 46, 47, 48, 49, 50, 51, 52, 53, 54, 55, 56, 57, 58, 59, 60, 61, 62, 63, 64, 65, 66, 67, 68, 69, 70, 71, 72, 73, 74, 75, 76, 77, 78] (by decide +kernel) (by decide +kernel)
set_option maxRecDepth 20000 in
theorem gX6_hit_X6_keyOf : GoodIn wsX6_hit (wsV RX6 211 RX6 yX6_keyOf wsX6_keyOf) := goodIn_app (goodIn_of _ (by decide +kernel)) ggX6_hit_X6_keyOf
set_option maxRecDepth 20000 in
theorem ggX6_hit_X6_before : GoodIn wsX6_hit wsX6_before := goodIn_r _ [42] (by decide +kernel) (by decide +kernel)
set_option maxRecDepth 20000 in
theorem gX6_hit_X6_before : GoodIn wsX6_hit (va_wsS RX6 214 yX6_before wsX6_before) := goodIn_app (goodIn_of _ (by decide +kernel)) ggX6_hit_X6_before
theorem dX6_hit_0 : decode cX6_hit 0 = .ok (.aload_n 0, 1) := by decide +kernel
theorem dX6_hit_1 : decode cX6_hit 1 = .ok (.getfield 132, 3) := by decide +kernel
theorem dX6_hit_4 : decode cX6_hit 4 = .ok (.ifCond .eq 6, 3) := by decide +kernel
theorem dX6_hit_7 : decode cX6_hit 7 = .ok (.bipush (-4), 2) := by decide +kernel
theorem dX6_hit_9 : decode cX6_hit 9 = .ok (.ireturn, 1) := by decide +kernel
theorem dX6_hit_10 : decode cX6_hit 10 = .ok (.aload_n 0, 1) := by decide +kernel
theorem dX6_hit_11 : decode cX6_hit 11 = .ok (.iload_n 1, 1) := by decide +kernel
theorem dX6_hit_12 : decode cX6_hit 12 = .ok (.invokevirtual 208, 3) := by decide +kernel
theorem dX6_hit_15 : decode cX6_hit 15 = .ok (.ifCond .eq 5, 3) := by decide +kernel
theorem dX6_hit_18 : decode cX6_hit 18 = .ok (.iconst (-1), 1) := by decide +kernel
theorem dX6_hit_19 : decode cX6_hit 19 = .ok (.ireturn, 1) := by decide +kernel
theorem dX6_hit_20 : decode cX6_hit 20 = .ok (.iconst 0, 1) := by decide +kernel
theorem dX6_hit_21 : decode cX6_hit 21 = .ok (.istore_n 3, 1) := by decide +kernel
theorem dX6_hit_22 : decode cX6_hit 22 = .ok (.iconst (-1), 1) := by decide +kernel
theorem dX6_hit_23 : decode cX6_hit 23 = .ok (.istore 4, 2) := by decide +kernel
theorem dX6_hit_25 : decode cX6_hit 25 = .ok (.iconst 0, 1) := by decide +kernel
theorem dX6_hit_26 : decode cX6_hit 26 = .ok (.istore 5, 2) := by decide +kernel
theorem dX6_hit_28 : decode cX6_hit 28 = .ok (.iload 5, 2) := by decide +kernel
theorem dX6_hit_30 : decode cX6_hit 30 = .ok (.bipush 16, 2) := by decide +kernel
theorem dX6_hit_32 : decode cX6_hit 32 = .ok (.if_icmp .ge 115, 3) := by decide +kernel
theorem dX6_hit_35 : decode cX6_hit 35 = .ok (.aload_n 0, 1) := by decide +kernel
theorem dX6_hit_36 : decode cX6_hit 36 = .ok (.iload 5, 2) := by decide +kernel
theorem dX6_hit_38 : decode cX6_hit 38 = .ok (.invokevirtual 201, 3) := by decide +kernel
theorem dX6_hit_41 : decode cX6_hit 41 = .ok (.istore 6, 2) := by decide +kernel
theorem dX6_hit_43 : decode cX6_hit 43 = .ok (.iload 6, 2) := by decide +kernel
theorem dX6_hit_45 : decode cX6_hit 45 = .ok (.ifCond .ge 6, 3) := by decide +kernel
theorem dX6_hit_48 : decode cX6_hit 48 = .ok (.goto 93, 3) := by decide +kernel
theorem dX6_hit_51 : decode cX6_hit 51 = .ok (.iinc 3 1, 3) := by decide +kernel
theorem dX6_hit_54 : decode cX6_hit 54 = .ok (.aload_n 0, 1) := by decide +kernel
theorem dX6_hit_55 : decode cX6_hit 55 = .ok (.iload_n 1, 1) := by decide +kernel
theorem dX6_hit_56 : decode cX6_hit 56 = .ok (.iload 5, 2) := by decide +kernel
theorem dX6_hit_58 : decode cX6_hit 58 = .ok (.invokevirtual 211, 3) := by decide +kernel
theorem dX6_hit_61 : decode cX6_hit 61 = .ok (.istore 7, 2) := by decide +kernel
theorem dX6_hit_63 : decode cX6_hit 63 = .ok (.iconst 0, 1) := by decide +kernel
theorem dX6_hit_64 : decode cX6_hit 64 = .ok (.istore 8, 2) := by decide +kernel
theorem dX6_hit_66 : decode cX6_hit 66 = .ok (.iconst 0, 1) := by decide +kernel
theorem dX6_hit_67 : decode cX6_hit 67 = .ok (.istore 9, 2) := by decide +kernel
theorem dX6_hit_69 : decode cX6_hit 69 = .ok (.iload 9, 2) := by decide +kernel
theorem dX6_hit_71 : decode cX6_hit 71 = .ok (.bipush 16, 2) := by decide +kernel
theorem dX6_hit_73 : decode cX6_hit 73 = .ok (.if_icmp .ge 58, 3) := by decide +kernel
theorem dX6_hit_76 : decode cX6_hit 76 = .ok (.aload_n 0, 1) := by decide +kernel
theorem dX6_hit_77 : decode cX6_hit 77 = .ok (.iload 9, 2) := by decide +kernel
theorem dX6_hit_79 : decode cX6_hit 79 = .ok (.invokevirtual 201, 3) := by decide +kernel
theorem dX6_hit_82 : decode cX6_hit 82 = .ok (.istore 10, 2) := by decide +kernel
theorem dX6_hit_84 : decode cX6_hit 84 = .ok (.iload 10, 2) := by decide +kernel
theorem dX6_hit_86 : decode cX6_hit 86 = .ok (.ifCond .ge 7, 3) := by decide +kernel
theorem dX6_hit_89 : decode cX6_hit 89 = .ok (.iconst 0, 1) := by decide +kernel
theorem dX6_hit_90 : decode cX6_hit 90 = .ok (.goto 10, 3) := by decide +kernel
theorem dX6_hit_93 : decode cX6_hit 93 = .ok (.aload_n 0, 1) := by decide +kernel
theorem dX6_hit_94 : decode cX6_hit 94 = .ok (.iload_n 1, 1) := by decide +kernel
theorem dX6_hit_95 : decode cX6_hit 95 = .ok (.iload 9, 2) := by decide +kernel
theorem dX6_hit_97 : decode cX6_hit 97 = .ok (.invokevirtual 211, 3) := by decide +kernel
theorem dX6_hit_100 : decode cX6_hit 100 = .ok (.istore 11, 2) := by decide +kernel
theorem dX6_hit_102 : decode cX6_hit 102 = .ok (.iload 10, 2) := by decide +kernel
theorem dX6_hit_104 : decode cX6_hit 104 = .ok (.ifCond .lt 21, 3) := by decide +kernel
theorem dX6_hit_107 : decode cX6_hit 107 = .ok (.iload_n 1, 1) := by decide +kernel
theorem dX6_hit_108 : decode cX6_hit 108 = .ok (.iload 11, 2) := by decide +kernel
theorem dX6_hit_110 : decode cX6_hit 110 = .ok (.iload 9, 2) := by decide +kernel
theorem dX6_hit_112 : decode cX6_hit 112 = .ok (.iload 7, 2) := by decide +kernel
theorem dX6_hit_114 : decode cX6_hit 114 = .ok (.iload 5, 2) := by decide +kernel
theorem dX6_hit_116 : decode cX6_hit 116 = .ok (.invokestatic 214, 3) := by decide +kernel
theorem dX6_hit_119 : decode cX6_hit 119 = .ok (.ifCond .eq 6, 3) := by decide +kernel
theorem dX6_hit_122 : decode cX6_hit 122 = .ok (.iinc 8 1, 3) := by decide +kernel
theorem dX6_hit_125 : decode cX6_hit 125 = .ok (.iinc 9 1, 3) := by decide +kernel
theorem dX6_hit_128 : decode cX6_hit 128 = .ok (.goto (-59), 3) := by decide +kernel
theorem dX6_hit_131 : decode cX6_hit 131 = .ok (.iload 8, 2) := by decide +kernel
theorem dX6_hit_133 : decode cX6_hit 133 = .ok (.iload_n 2, 1) := by decide +kernel
theorem dX6_hit_134 : decode cX6_hit 134 = .ok (.if_icmp .ne 7, 3) := by decide +kernel
theorem dX6_hit_137 : decode cX6_hit 137 = .ok (.iload 5, 2) := by decide +kernel
theorem dX6_hit_139 : decode cX6_hit 139 = .ok (.istore 4, 2) := by decide +kernel
theorem dX6_hit_141 : decode cX6_hit 141 = .ok (.iinc 5 1, 3) := by decide +kernel
theorem dX6_hit_144 : decode cX6_hit 144 = .ok (.goto (-116), 3) := by decide +kernel
theorem dX6_hit_147 : decode cX6_hit 147 = .ok (.iload_n 2, 1) := by decide +kernel
theorem dX6_hit_148 : decode cX6_hit 148 = .ok (.iconst (-1), 1) := by decide +kernel
theorem dX6_hit_149 : decode cX6_hit 149 = .ok (.if_icmp .ne 7, 3) := by decide +kernel
theorem dX6_hit_152 : decode cX6_hit 152 = .ok (.iload_n 3, 1) := by decide +kernel
theorem dX6_hit_153 : decode cX6_hit 153 = .ok (.goto 5, 3) := by decide +kernel
theorem dX6_hit_156 : decode cX6_hit 156 = .ok (.iload 4, 2) := by decide +kernel
theorem dX6_hit_158 : decode cX6_hit 158 = .ok (.ireturn, 1) := by decide +kernel
set_option maxRecDepth 20000 in
theorem ggX6_after_X6_isBad : GoodIn wsX6_after wsX6_isBad := goodIn_r _ [6, 7, 8, 5, 9, 10, 11, 12, 13, 14, 15, 43, 44, 45, 46, 47, 48, 49, 50, 51, 52, 53, 54, 55, 56, 57, 58, 59, 60, 61, 62, 63, 64, 65, 66, 67, 68, 69, 70, 71, 72, 73, 74, 75, 76, 77, 78] (by decide +kernel) (by decide +kernel)
set_option maxRecDepth 20000 in
theorem gX6_after_X6_isBad : GoodIn wsX6_after (wsV RX6 208 RX6 yX6_isBad wsX6_isBad) := goodIn_app (goodIn_of _ (by decide +kernel)) ggX6_after_X6_isBad
set_option maxRecDepth 20000 in
theorem ggX6_after_X6_worth : GoodIn wsX6_after wsX6_worth := goodIn_r _ [19, 20, 14, 15, 21, 22, 23, 24, 25, 26, 5, 27, 28, 29, 30, 31, 32, 33, 34, 35, 43, 44, 45, 46, 47, 48, 49, 50, 51, 52, 53, 54, 55, 56, 57, 58, 59, 60, 61, 62, 63, 64, 65, 66, 67, 68, 69, 70, 71, 72, 73, 74, 75, 76, 77, 78] (by decide +kernel) (by decide +kernel)
set_option maxRecDepth 20000 in
theorem gX6_after_X6_worth : GoodIn wsX6_after (wsV RX6 201 RX6 yX6_worth wsX6_worth) := goodIn_app (goodIn_of _ (by decide +kernel)) ggX6_after_X6_worth
set_option maxRecDepth 20000 in
theorem ggX6_after_X6_keyOf : GoodIn wsX6_after wsX6_keyOf := goodIn_r _ [39, 22, 16, 17, 18, 5, 19, 20, 14, 15, 21, 23, 24, 25, 26, 27, 28, 29, 30, 31, 32, 33, 34, 35, 43, 44, 45, 46, 47, 48, 49, 50, 51, 52, 53, 54, 55, 56, 57, 58, 59, 60, 61, 62, 63, 64, 65, 66, 67, 68, 69, 70, 71, 72, 73, 74, 75, 76, 77, 78] (by decide +kernel) (by decide +kernel)
set_option maxRecDepth 20000 in
theorem gX6_after_X6_keyOf : GoodIn wsX6_after (wsV RX6 211 RX6 yX6_keyOf wsX6_keyOf) := goodIn_app (goodIn_of _ (by decide +kernel)) ggX6_after_X6_keyOf
set_option maxRecDepth 20000 in
theorem ggX6_after_X6_before : GoodIn wsX6_after wsX6_before := goodIn_r _ [42] (by decide +kernel) (by decide +kernel)
set_option maxRecDepth 20000 in
theorem gX6_after_X6_before : GoodIn wsX6_after (va_wsS RX6 214 yX6_before wsX6_before) := goodIn_app (goodIn_of _ (by decide +kernel)) ggX6_after_X6_before
theorem dX6_after_0 : decode cX6_after 0 = .ok (.aload_n 0, 1) := by decide +kernel
theorem dX6_after_1 : decode cX6_after 1 = .ok (.getfield 132, 3) := by decide +kernel
theorem dX6_after_4 : decode cX6_after 4 = .ok (.ifCond .eq 6, 3) := by decide +kernel
theorem dX6_after_7 : decode cX6_after 7 = .ok (.bipush (-4), 2) := by decide +kernel
theorem dX6_after_9 : decode cX6_after 9 = .ok (.ireturn, 1) := by decide +kernel
theorem dX6_after_10 : decode cX6_after 10 = .ok (.aload_n 0, 1) := by decide +kernel
theorem dX6_after_11 : decode cX6_after 11 = .ok (.iload_n 1, 1) := by decide +kernel
theorem dX6_after_12 : decode cX6_after 12 = .ok (.invokevirtual 208, 3) := by decide +kernel
theorem dX6_after_15 : decode cX6_after 15 = .ok (.ifCond .eq 5, 3) := by decide +kernel
theorem dX6_after_18 : decode cX6_after 18 = .ok (.iconst (-1), 1) := by decide +kernel
theorem dX6_after_19 : decode cX6_after 19 = .ok (.ireturn, 1) := by decide +kernel
theorem dX6_after_20 : decode cX6_after 20 = .ok (.iconst (-1), 1) := by decide +kernel
theorem dX6_after_21 : decode cX6_after 21 = .ok (.istore 4, 2) := by decide +kernel
theorem dX6_after_23 : decode cX6_after 23 = .ok (.iconst 0, 1) := by decide +kernel
theorem dX6_after_24 : decode cX6_after 24 = .ok (.istore 5, 2) := by decide +kernel
theorem dX6_after_26 : decode cX6_after 26 = .ok (.iconst 0, 1) := by decide +kernel
theorem dX6_after_27 : decode cX6_after 27 = .ok (.istore 6, 2) := by decide +kernel
theorem dX6_after_29 : decode cX6_after 29 = .ok (.iload 6, 2) := by decide +kernel
theorem dX6_after_31 : decode cX6_after 31 = .ok (.bipush 16, 2) := by decide +kernel
theorem dX6_after_33 : decode cX6_after 33 = .ok (.if_icmp .ge 78, 3) := by decide +kernel
theorem dX6_after_36 : decode cX6_after 36 = .ok (.aload_n 0, 1) := by decide +kernel
theorem dX6_after_37 : decode cX6_after 37 = .ok (.iload 6, 2) := by decide +kernel
theorem dX6_after_39 : decode cX6_after 39 = .ok (.invokevirtual 201, 3) := by decide +kernel
theorem dX6_after_42 : decode cX6_after 42 = .ok (.istore 7, 2) := by decide +kernel
theorem dX6_after_44 : decode cX6_after 44 = .ok (.iload 7, 2) := by decide +kernel
theorem dX6_after_46 : decode cX6_after 46 = .ok (.ifCond .ge 6, 3) := by decide +kernel
theorem dX6_after_49 : decode cX6_after 49 = .ok (.goto 56, 3) := by decide +kernel
theorem dX6_after_52 : decode cX6_after 52 = .ok (.aload_n 0, 1) := by decide +kernel
theorem dX6_after_53 : decode cX6_after 53 = .ok (.iload_n 1, 1) := by decide +kernel
theorem dX6_after_54 : decode cX6_after 54 = .ok (.iload 6, 2) := by decide +kernel
theorem dX6_after_56 : decode cX6_after 56 = .ok (.invokevirtual 211, 3) := by decide +kernel
theorem dX6_after_59 : decode cX6_after 59 = .ok (.istore 8, 2) := by decide +kernel
theorem dX6_after_61 : decode cX6_after 61 = .ok (.iload_n 1, 1) := by decide +kernel
theorem dX6_after_62 : decode cX6_after 62 = .ok (.iload_n 2, 1) := by decide +kernel
theorem dX6_after_63 : decode cX6_after 63 = .ok (.iload_n 3, 1) := by decide +kernel
theorem dX6_after_64 : decode cX6_after 64 = .ok (.iload 8, 2) := by decide +kernel
theorem dX6_after_66 : decode cX6_after 66 = .ok (.iload 6, 2) := by decide +kernel
theorem dX6_after_68 : decode cX6_after 68 = .ok (.invokestatic 214, 3) := by decide +kernel
theorem dX6_after_71 : decode cX6_after 71 = .ok (.ifCond .ne 6, 3) := by decide +kernel
theorem dX6_after_74 : decode cX6_after 74 = .ok (.goto 31, 3) := by decide +kernel
theorem dX6_after_77 : decode cX6_after 77 = .ok (.iload 4, 2) := by decide +kernel
theorem dX6_after_79 : decode cX6_after 79 = .ok (.ifCond .lt 18, 3) := by decide +kernel
theorem dX6_after_82 : decode cX6_after 82 = .ok (.iload_n 1, 1) := by decide +kernel
theorem dX6_after_83 : decode cX6_after 83 = .ok (.iload 8, 2) := by decide +kernel
theorem dX6_after_85 : decode cX6_after 85 = .ok (.iload 6, 2) := by decide +kernel
theorem dX6_after_87 : decode cX6_after 87 = .ok (.iload 5, 2) := by decide +kernel
theorem dX6_after_89 : decode cX6_after 89 = .ok (.iload 4, 2) := by decide +kernel
theorem dX6_after_91 : decode cX6_after 91 = .ok (.invokestatic 214, 3) := by decide +kernel
theorem dX6_after_94 : decode cX6_after 94 = .ok (.ifCond .eq 11, 3) := by decide +kernel
theorem dX6_after_97 : decode cX6_after 97 = .ok (.iload 6, 2) := by decide +kernel
theorem dX6_after_99 : decode cX6_after 99 = .ok (.istore 4, 2) := by decide +kernel
theorem dX6_after_101 : decode cX6_after 101 = .ok (.iload 8, 2) := by decide +kernel
theorem dX6_after_103 : decode cX6_after 103 = .ok (.istore 5, 2) := by decide +kernel
theorem dX6_after_105 : decode cX6_after 105 = .ok (.iinc 6 1, 3) := by decide +kernel
theorem dX6_after_108 : decode cX6_after 108 = .ok (.goto (-79), 3) := by decide +kernel
theorem dX6_after_111 : decode cX6_after 111 = .ok (.iload 4, 2) := by decide +kernel
theorem dX6_after_113 : decode cX6_after 113 = .ok (.ireturn, 1) := by decide +kernel
set_option maxRecDepth 20000 in
theorem ggX6_score_X6_in : GoodIn wsX6_score wsX6_in := goodIn_r _ [5] (by decide +kernel) (by decide +kernel)
set_option maxRecDepth 20000 in
theorem gX6_score_X6_in : GoodIn wsX6_score (va_wsS RX6 108 yX6_in wsX6_in) := goodIn_app (goodIn_of _ (by decide +kernel)) ggX6_score_X6_in
set_option maxRecDepth 20000 in
theorem ggX6_score_X6_isQuery : GoodIn wsX6_score wsX6_isQuery := goodIn_r _ [9, 10, 11, 32, 33, 34, 35, 36, 37, 38, 39, 40, 41, 42, 43, 44, 45, 46, 47, 48, 49, 50, 51, 52, 53, 54, 55, 56, 57, 58, 59, 60, 61, 62, 63, 64, 65, 66, 67] (by decide +kernel) (by decide +kernel)
set_option maxRecDepth 20000 in
theorem gX6_score_X6_isQuery : GoodIn wsX6_score (wsV RX6 204 RX6 yX6_isQuery wsX6_isQuery) := goodIn_app (goodIn_of _ (by decide +kernel)) ggX6_score_X6_isQuery
set_option maxRecDepth 20000 in
theorem ggX6_score_X6_worth : GoodIn wsX6_score wsX6_worth := goodIn_r _ [15, 16, 10, 11, 17, 18, 19, 20, 21, 22, 4, 23, 24, 25, 26, 27, 28, 29, 30, 31, 32, 33, 34, 35, 36, 37, 38, 39, 40, 41, 42, 43, 44, 45, 46, 47, 48, 49, 50, 51, 52, 53, 54, 55, 56, 57, 58, 59, 60, 61, 62, 63, 64, 65, 66, 67] (by decide +kernel) (by decide +kernel)
set_option maxRecDepth 20000 in
theorem gX6_score_X6_worth : GoodIn wsX6_score (wsV RX6 201 RX6 yX6_worth wsX6_worth) := goodIn_app (goodIn_of _ (by decide +kernel)) ggX6_score_X6_worth
theorem dX6_score_0 : decode cX6_score 0 = .ok (.aload_n 0, 1) := by decide +kernel
theorem dX6_score_1 : decode cX6_score 1 = .ok (.getfield 132, 3) := by decide +kernel
theorem dX6_score_4 : decode cX6_score 4 = .ok (.ifCond .eq 6, 3) := by decide +kernel
theorem dX6_score_7 : decode cX6_score 7 = .ok (.bipush (-4), 2) := by decide +kernel
theorem dX6_score_9 : decode cX6_score 9 = .ok (.ireturn, 1) := by decide +kernel
theorem dX6_score_10 : decode cX6_score 10 = .ok (.iload_n 1, 1) := by decide +kernel
theorem dX6_score_11 : decode cX6_score 11 = .ok (.iconst 0, 1) := by decide +kernel
theorem dX6_score_12 : decode cX6_score 12 = .ok (.bipush 15, 2) := by decide +kernel
theorem dX6_score_14 : decode cX6_score 14 = .ok (.invokestatic 108, 3) := by decide +kernel
theorem dX6_score_17 : decode cX6_score 17 = .ok (.ifCond .eq 10, 3) := by decide +kernel
theorem dX6_score_20 : decode cX6_score 20 = .ok (.aload_n 0, 1) := by decide +kernel
theorem dX6_score_21 : decode cX6_score 21 = .ok (.invokevirtual 204, 3) := by decide +kernel
theorem dX6_score_24 : decode cX6_score 24 = .ok (.ifCond .ne 5, 3) := by decide +kernel
theorem dX6_score_27 : decode cX6_score 27 = .ok (.iconst (-1), 1) := by decide +kernel
theorem dX6_score_28 : decode cX6_score 28 = .ok (.ireturn, 1) := by decide +kernel
theorem dX6_score_29 : decode cX6_score 29 = .ok (.aload_n 0, 1) := by decide +kernel
theorem dX6_score_30 : decode cX6_score 30 = .ok (.iload_n 1, 1) := by decide +kernel
theorem dX6_score_31 : decode cX6_score 31 = .ok (.invokevirtual 201, 3) := by decide +kernel
theorem dX6_score_34 : decode cX6_score 34 = .ok (.ireturn, 1) := by decide +kernel
theorem dX6_info_0 : decode cX6_info 0 = .ok (.iload_n 1, 1) := by decide +kernel
theorem dX6_info_1 : decode cX6_info 1 = .ok (.tableswitch 173 0 10 #[59, 75, 91, 107, 112, 117, 129, 134, 147, 152, 157], 59) := by decide +kernel
theorem dX6_info_60 : decode cX6_info 60 = .ok (.aload_n 0, 1) := by decide +kernel
theorem dX6_info_61 : decode cX6_info 61 = .ok (.getfield 132, 3) := by decide +kernel
theorem dX6_info_64 : decode cX6_info 64 = .ok (.ifCond .eq 7, 3) := by decide +kernel
theorem dX6_info_67 : decode cX6_info 67 = .ok (.iconst (-1), 1) := by decide +kernel
theorem dX6_info_68 : decode cX6_info 68 = .ok (.goto 7, 3) := by decide +kernel
theorem dX6_info_71 : decode cX6_info 71 = .ok (.aload_n 0, 1) := by decide +kernel
theorem dX6_info_72 : decode cX6_info 72 = .ok (.getfield 49, 3) := by decide +kernel
theorem dX6_info_75 : decode cX6_info 75 = .ok (.ireturn, 1) := by decide +kernel
theorem dX6_info_76 : decode cX6_info 76 = .ok (.aload_n 0, 1) := by decide +kernel
theorem dX6_info_77 : decode cX6_info 77 = .ok (.getfield 132, 3) := by decide +kernel
theorem dX6_info_80 : decode cX6_info 80 = .ok (.ifCond .eq 7, 3) := by decide +kernel
theorem dX6_info_83 : decode cX6_info 83 = .ok (.iconst (-1), 1) := by decide +kernel
theorem dX6_info_84 : decode cX6_info 84 = .ok (.goto 7, 3) := by decide +kernel
theorem dX6_info_87 : decode cX6_info 87 = .ok (.aload_n 0, 1) := by decide +kernel
theorem dX6_info_88 : decode cX6_info 88 = .ok (.getfield 45, 3) := by decide +kernel
theorem dX6_info_91 : decode cX6_info 91 = .ok (.ireturn, 1) := by decide +kernel
theorem dX6_info_92 : decode cX6_info 92 = .ok (.aload_n 0, 1) := by decide +kernel
theorem dX6_info_93 : decode cX6_info 93 = .ok (.getfield 132, 3) := by decide +kernel
theorem dX6_info_96 : decode cX6_info 96 = .ok (.ifCond .eq 7, 3) := by decide +kernel
theorem dX6_info_99 : decode cX6_info 99 = .ok (.iconst (-1), 1) := by decide +kernel
theorem dX6_info_100 : decode cX6_info 100 = .ok (.goto 7, 3) := by decide +kernel
theorem dX6_info_103 : decode cX6_info 103 = .ok (.aload_n 0, 1) := by decide +kernel
theorem dX6_info_104 : decode cX6_info 104 = .ok (.getfield 52, 3) := by decide +kernel
theorem dX6_info_107 : decode cX6_info 107 = .ok (.ireturn, 1) := by decide +kernel
theorem dX6_info_108 : decode cX6_info 108 = .ok (.aload_n 0, 1) := by decide +kernel
theorem dX6_info_109 : decode cX6_info 109 = .ok (.getfield 70, 3) := by decide +kernel
theorem dX6_info_112 : decode cX6_info 112 = .ok (.ireturn, 1) := by decide +kernel
theorem dX6_info_113 : decode cX6_info 113 = .ok (.aload_n 0, 1) := by decide +kernel
theorem dX6_info_114 : decode cX6_info 114 = .ok (.getfield 177, 3) := by decide +kernel
theorem dX6_info_117 : decode cX6_info 117 = .ok (.ireturn, 1) := by decide +kernel
theorem dX6_info_118 : decode cX6_info 118 = .ok (.aload_n 0, 1) := by decide +kernel
theorem dX6_info_119 : decode cX6_info 119 = .ok (.getfield 64, 3) := by decide +kernel
theorem dX6_info_122 : decode cX6_info 122 = .ok (.aload_n 0, 1) := by decide +kernel
theorem dX6_info_123 : decode cX6_info 123 = .ok (.getfield 70, 3) := by decide +kernel
theorem dX6_info_126 : decode cX6_info 126 = .ok (.iconst 1, 1) := by decide +kernel
theorem dX6_info_127 : decode cX6_info 127 = .ok (.isub, 1) := by decide +kernel
theorem dX6_info_128 : decode cX6_info 128 = .ok (.iaload, 1) := by decide +kernel
theorem dX6_info_129 : decode cX6_info 129 = .ok (.ireturn, 1) := by decide +kernel
theorem dX6_info_130 : decode cX6_info 130 = .ok (.aload_n 0, 1) := by decide +kernel
theorem dX6_info_131 : decode cX6_info 131 = .ok (.getfield 168, 3) := by decide +kernel
theorem dX6_info_134 : decode cX6_info 134 = .ok (.ireturn, 1) := by decide +kernel
theorem dX6_info_135 : decode cX6_info 135 = .ok (.aload_n 0, 1) := by decide +kernel
theorem dX6_info_136 : decode cX6_info 136 = .ok (.getfield 132, 3) := by decide +kernel
theorem dX6_info_139 : decode cX6_info 139 = .ok (.ifCond .eq 7, 3) := by decide +kernel
theorem dX6_info_142 : decode cX6_info 142 = .ok (.iconst 1, 1) := by decide +kernel
theorem dX6_info_143 : decode cX6_info 143 = .ok (.goto 4, 3) := by decide +kernel
theorem dX6_info_146 : decode cX6_info 146 = .ok (.iconst 0, 1) := by decide +kernel
theorem dX6_info_147 : decode cX6_info 147 = .ok (.ireturn, 1) := by decide +kernel
theorem dX6_info_148 : decode cX6_info 148 = .ok (.aload_n 0, 1) := by decide +kernel
theorem dX6_info_149 : decode cX6_info 149 = .ok (.getfield 55, 3) := by decide +kernel
theorem dX6_info_152 : decode cX6_info 152 = .ok (.ireturn, 1) := by decide +kernel
theorem dX6_info_153 : decode cX6_info 153 = .ok (.aload_n 0, 1) := by decide +kernel
theorem dX6_info_154 : decode cX6_info 154 = .ok (.getfield 58, 3) := by decide +kernel
theorem dX6_info_157 : decode cX6_info 157 = .ok (.ireturn, 1) := by decide +kernel
theorem dX6_info_158 : decode cX6_info 158 = .ok (.aload_n 0, 1) := by decide +kernel
theorem dX6_info_159 : decode cX6_info 159 = .ok (.getfield 132, 3) := by decide +kernel
theorem dX6_info_162 : decode cX6_info 162 = .ok (.ifCond .eq 7, 3) := by decide +kernel
theorem dX6_info_165 : decode cX6_info 165 = .ok (.iconst 0, 1) := by decide +kernel
theorem dX6_info_166 : decode cX6_info 166 = .ok (.goto 7, 3) := by decide +kernel
theorem dX6_info_169 : decode cX6_info 169 = .ok (.aload_n 0, 1) := by decide +kernel
theorem dX6_info_170 : decode cX6_info 170 = .ok (.getfield 158, 3) := by decide +kernel
theorem dX6_info_173 : decode cX6_info 173 = .ok (.ireturn, 1) := by decide +kernel
theorem dX6_info_174 : decode cX6_info 174 = .ok (.iconst (-1), 1) := by decide +kernel
theorem dX6_info_175 : decode cX6_info 175 = .ok (.ireturn, 1) := by decide +kernel
theorem dJ9_max_7cf53_0 : decode cJ9_max_7cf53 0 = .ok (.iload_n 0, 1) := by decide +kernel
theorem dJ9_max_7cf53_1 : decode cJ9_max_7cf53 1 = .ok (.iload_n 1, 1) := by decide +kernel
theorem dJ9_max_7cf53_2 : decode cJ9_max_7cf53 2 = .ok (.if_icmp .lt 7, 3) := by decide +kernel
theorem dJ9_max_7cf53_5 : decode cJ9_max_7cf53 5 = .ok (.iload_n 0, 1) := by decide +kernel
theorem dJ9_max_7cf53_6 : decode cJ9_max_7cf53 6 = .ok (.goto 4, 3) := by decide +kernel
theorem dJ9_max_7cf53_9 : decode cJ9_max_7cf53 9 = .ok (.iload_n 1, 1) := by decide +kernel
theorem dJ9_max_7cf53_10 : decode cJ9_max_7cf53 10 = .ok (.ireturn, 1) := by decide +kernel
theorem dJ9_min_7cf53_0 : decode cJ9_min_7cf53 0 = .ok (.iload_n 0, 1) := by decide +kernel
theorem dJ9_min_7cf53_1 : decode cJ9_min_7cf53 1 = .ok (.iload_n 1, 1) := by decide +kernel
theorem dJ9_min_7cf53_2 : decode cJ9_min_7cf53 2 = .ok (.if_icmp .gt 7, 3) := by decide +kernel
theorem dJ9_min_7cf53_5 : decode cJ9_min_7cf53 5 = .ok (.iload_n 0, 1) := by decide +kernel
theorem dJ9_min_7cf53_6 : decode cJ9_min_7cf53 6 = .ok (.goto 4, 3) := by decide +kernel
theorem dJ9_min_7cf53_9 : decode cJ9_min_7cf53 9 = .ok (.iload_n 1, 1) := by decide +kernel
theorem dJ9_min_7cf53_10 : decode cJ9_min_7cf53 10 = .ok (.ireturn, 1) := by decide +kernel
set_option maxRecDepth 20000 in
theorem ggL_law_X5_init : GoodIn wsL_law wsX5_init := goodIn_r _ [9, 10, 11, 12, 13, 14, 15, 16, 17, 18, 19, 20, 21, 22, 23, 24, 25, 26, 27, 28, 29, 30, 31, 32, 33, 34, 35, 36, 37, 38, 39, 40, 41, 42, 43, 44, 45, 46, 47, 48, 49, 50, 51, 52, 53, 54, 55, 56, 57, 58, 59, 60, 61, 62, 63, 64, 65, 66, 67, 68, 69, 70, 71, 72, 73, 74, 75, 76, 77, 78, 79, 80, 81, 82, 83, 84, 653, 654, 655, 656, 607, 608, 609, 610, 611, 612, 613, 614, 615, 616, 657, 658, 659, 660, 661, 662, 663, 664, 665, 666, 667, 668, 669, 670, 671, 672, 673, 674, 675, 676, 677] (by decide +kernel) (by decide +kernel)
set_option maxRecDepth 20000 in
theorem gL_law_X5_init : GoodIn wsL_law (wsX5_init) := ggL_law_X5_init
set_option maxRecDepth 20000 in
theorem ggL_law_X6_init : GoodIn wsL_law wsX6_init := goodIn_r _ [87, 88, 11, 12, 34, 89, 90, 91, 92, 93, 94, 95, 54, 96, 97, 98, 74, 99, 100, 101, 102, 103, 104, 105, 106, 107, 108, 109, 110, 111, 112, 113, 617, 618, 619, 620, 621, 622, 623, 624, 625, 626, 627, 628, 629, 630, 631, 632, 633, 634, 635, 636, 637, 638, 639, 640, 641, 642, 643, 644, 645, 646, 647, 648, 649, 650, 651, 652] (by decide +kernel) (by decide +kernel)
set_option maxRecDepth 20000 in
theorem gL_law_X6_init : GoodIn wsL_law (wsX6_init) := ggL_law_X6_init
set_option maxRecDepth 20000 in
theorem ggL_law_X5_write : GoodIn wsL_law wsX5_write := goodIn_r _ [117, 38, 16, 118, 25, 119, 120, 121, 33, 122, 123, 2, 124, 125, 126, 127, 128, 129, 130, 131, 20, 132, 133, 134, 135, 136, 51, 137, 138, 139, 140, 52, 141, 142, 143, 24, 144, 62, 145, 146, 147, 148, 65, 149, 150, 151, 152, 153, 154, 155, 156, 157, 158, 53, 159, 160, 161, 32, 162, 80, 81, 82, 83, 84, 163, 164, 165, 166, 167, 168, 169, 170, 171, 172, 173, 174, 175, 176, 177, 178, 179, 64, 180, 181, 182, 183, 184, 185, 186, 187, 188, 189, 190, 191, 192, 66, 193, 194, 195, 196, 197, 198, 199, 15, 200, 201, 43, 202, 203, 204, 205, 44, 46, 45, 206, 207, 208, 209, 210, 211, 212, 213, 214, 55, 215, 607, 608, 609, 610, 611, 612, 613, 614, 615, 616, 653, 654, 655, 656, 657, 658, 659, 660, 661, 662, 663, 664, 665, 666, 673, 674, 675, 676, 677] (by decide +kernel) (by decide +kernel)
set_option maxRecDepth 20000 in
theorem gL_law_X5_write : GoodIn wsL_law (wsV RL 15 RX5 yX5_write wsX5_write) := goodIn_app (goodIn_of _ (by decide +kernel)) ggL_law_X5_write
set_option maxRecDepth 20000 in
theorem ggL_law_X6_write : GoodIn wsL_law wsX6_write := goodIn_r _ [219, 220, 89, 90, 101, 100, 91, 221, 222, 223, 5, 224, 225, 226, 227, 228, 106, 108, 229, 230, 231, 232, 233, 234, 235, 107, 236, 237, 238, 239, 240, 241, 242, 243, 105, 244, 245, 246, 247, 248, 249, 250, 251, 252, 99, 96, 617, 618, 619, 620, 621, 622, 623, 624, 625, 626, 627, 628, 629, 630, 631, 632, 633, 634, 635, 636, 637, 638, 639, 640, 641, 642, 643, 644, 645, 646, 647, 648, 649, 650, 651, 652] (by decide +kernel) (by decide +kernel)
set_option maxRecDepth 20000 in
theorem gL_law_X6_write : GoodIn wsL_law (wsV RL 19 RX6 yX6_write wsX6_write) := goodIn_app (goodIn_of _ (by decide +kernel)) ggL_law_X6_write
set_option maxRecDepth 20000 in
theorem ggL_law_X5_replica : GoodIn wsL_law wsX5_replica := goodIn_r _ [256, 38, 16, 119, 257, 25, 33, 152, 153, 2, 154, 122, 123, 124, 258, 259, 260, 15, 261, 44, 46, 141, 142, 143, 24, 144, 62, 145, 146, 147, 148, 65, 149, 150, 151, 159, 160, 161, 32, 162, 80, 81, 82, 83, 84, 163, 164, 165, 166, 167, 168, 169, 170, 171, 172, 173, 174, 175, 176, 177, 178, 179, 64, 180, 181, 182, 183, 184, 185, 186, 187, 188, 189, 190, 191, 192, 66, 193, 194, 195, 196, 197, 198, 199, 200, 201, 43, 202, 203, 204, 205, 45, 206, 207, 208, 209, 20, 210, 211, 212, 213, 52, 51, 53, 214, 55, 215, 607, 608, 609, 610, 611, 612, 613, 614, 615, 616, 653, 654, 655, 656, 661, 662, 663, 664, 665, 666, 673, 674, 675, 676, 677, 657, 658, 659, 660] (by decide +kernel) (by decide +kernel)
set_option maxRecDepth 20000 in
theorem gL_law_X5_replica : GoodIn wsL_law (wsV RL 20 RX5 yX5_replica wsX5_replica) := goodIn_app (goodIn_of _ (by decide +kernel)) ggL_law_X5_replica
set_option maxRecDepth 20000 in
theorem ggL_law_X6_replica : GoodIn wsL_law wsX6_replica := goodIn_r _ [265, 220, 100, 266, 222, 223, 5, 224, 267, 268, 269, 270, 99, 225, 226, 227, 228, 106, 108, 229, 230, 231, 232, 233, 234, 235, 107, 236, 237, 238, 239, 240, 241, 242, 243, 105, 244, 245, 246, 247, 248, 249, 250, 251, 252, 101, 90, 89, 91, 96, 617, 618, 619, 620, 621, 622, 623, 624, 625, 626, 627, 628, 629, 630, 631, 632, 633, 634, 635, 636, 637, 638, 639, 640, 641, 642, 643, 644, 645, 646, 647, 648, 649, 650, 651, 652] (by decide +kernel) (by decide +kernel)
set_option maxRecDepth 20000 in
theorem gL_law_X6_replica : GoodIn wsL_law (wsV RL 24 RX6 yX6_replica wsX6_replica) := goodIn_app (goodIn_of _ (by decide +kernel)) ggL_law_X6_replica
set_option maxRecDepth 20000 in
theorem ggL_law_X5_fill : GoodIn wsL_law wsX5_fill := goodIn_r _ [274, 38, 16, 25, 118, 119, 33, 275, 276, 277, 15, 278, 44, 45, 279, 259, 260, 261, 46, 141, 142, 143, 24, 144, 62, 145, 146, 147, 148, 65, 149, 150, 151, 152, 153, 2, 154, 258, 159, 160, 161, 32, 162, 80, 81, 82, 83, 84, 163, 164, 165, 166, 167, 168, 169, 170, 171, 172, 173, 174, 175, 176, 177, 178, 179, 64, 180, 181, 182, 183, 184, 185, 186, 187, 188, 189, 190, 191, 192, 66, 193, 194, 195, 196, 197, 198, 199, 200, 201, 43, 202, 203, 204, 205, 206, 207, 208, 209, 20, 210, 211, 212, 213, 52, 51, 53, 214, 55, 215, 123, 124, 607, 608, 609, 610, 611, 612, 613, 614, 615, 616, 653, 654, 655, 656, 661, 662, 663, 664, 665, 666, 673, 674, 675, 676, 677, 657, 658, 659, 660] (by decide +kernel) (by decide +kernel)
set_option maxRecDepth 20000 in
theorem gL_law_X5_fill : GoodIn wsL_law (wsV RL 25 RX5 yX5_fill wsX5_fill) := goodIn_app (goodIn_of _ (by decide +kernel)) ggL_law_X5_fill
set_option maxRecDepth 20000 in
theorem ggL_law_X6_fill : GoodIn wsL_law wsX6_fill := goodIn_r _ [283, 220, 100, 101, 267, 268, 269, 5, 270, 99, 225, 226, 227, 228, 106, 108, 229, 230, 231, 232, 233, 234, 235, 107, 236, 237, 238, 239, 240, 241, 242, 243, 105, 244, 245, 246, 247, 248, 249, 250, 251, 252, 90, 89, 91, 96, 617, 618, 619, 620, 621, 622, 623, 624, 625, 626, 627, 628, 629, 630, 631, 632, 633, 634, 635, 636, 637, 638, 639, 640, 641, 642, 643, 644, 645, 646, 647, 648, 649, 650, 651, 652] (by decide +kernel) (by decide +kernel)
set_option maxRecDepth 20000 in
theorem gL_law_X6_fill : GoodIn wsL_law (wsV RL 29 RX6 yX6_fill wsX6_fill) := goodIn_app (goodIn_of _ (by decide +kernel)) ggL_law_X6_fill
set_option maxRecDepth 20000 in
theorem ggL_law_X5_get : GoodIn wsL_law wsX5_get := goodIn_r _ [287, 38, 288, 289, 16, 120, 122, 123, 2, 124, 290, 291, 292, 20, 293, 55, 607, 608, 609, 610, 611, 612, 613, 614, 615, 616, 653, 654, 655, 656, 657, 658, 659, 660] (by decide +kernel) (by decide +kernel)
set_option maxRecDepth 20000 in
theorem gL_law_X5_get : GoodIn wsL_law (wsV RL 30 RX5 yX5_get wsX5_get) := goodIn_app (goodIn_of _ (by decide +kernel)) ggL_law_X5_get
set_option maxRecDepth 20000 in
theorem ggL_law_X6_get : GoodIn wsL_law wsX6_get := goodIn_r _ [297, 220, 298, 89, 96, 299, 222, 223, 5, 224, 617, 618, 619, 620, 621, 622, 623, 624, 625, 626, 627, 628, 629, 630, 631, 632, 633, 634, 635, 636, 637, 638, 639, 640, 641, 642, 643, 644, 645, 646, 647, 648, 649, 650, 651, 652] (by decide +kernel) (by decide +kernel)
set_option maxRecDepth 20000 in
theorem gL_law_X6_get : GoodIn wsL_law (wsV RL 34 RX6 yX6_get wsX6_get) := goodIn_app (goodIn_of _ (by decide +kernel)) ggL_law_X6_get
set_option maxRecDepth 20000 in
theorem ggL_law_X5_known : GoodIn wsL_law wsX5_known := goodIn_r _ [303, 38, 16, 120, 21, 122, 123, 2, 124, 304, 134, 135, 20, 136, 51, 137, 138, 139, 140, 52, 155, 156, 157, 158, 53, 129, 130, 131, 132, 133, 607, 608, 609, 610, 611, 612, 613, 614, 615, 616, 653, 654, 655, 656, 657, 658, 659, 660] (by decide +kernel) (by decide +kernel)
set_option maxRecDepth 20000 in
theorem gL_law_X5_known : GoodIn wsL_law (wsV RL 35 RX5 yX5_known wsX5_known) := goodIn_app (goodIn_of _ (by decide +kernel)) ggL_law_X5_known
set_option maxRecDepth 20000 in
theorem ggL_law_X6_known : GoodIn wsL_law wsX6_known := goodIn_r _ [308, 220, 89, 90, 91, 95, 222, 223, 5, 224, 617, 618, 619, 620, 621, 622, 623, 624, 625, 626, 627, 628, 629, 630, 631, 632, 633, 634, 635, 636, 637, 638, 639, 640, 641, 642, 643, 644, 645, 646, 647, 648, 649, 650, 651, 652] (by decide +kernel) (by decide +kernel)
set_option maxRecDepth 20000 in
theorem gL_law_X6_known : GoodIn wsL_law (wsV RL 39 RX6 yX6_known wsX6_known) := goodIn_app (goodIn_of _ (by decide +kernel)) ggL_law_X6_known
set_option maxRecDepth 20000 in
theorem ggL_law_X5_refresh : GoodIn wsL_law wsX5_refresh := goodIn_r _ [312, 38, 16, 120, 119, 21, 313, 314, 315, 20, 316, 51, 52, 53, 317, 318, 319, 320, 55, 321, 322, 323, 324, 325, 130, 131, 132, 133, 134, 135, 136, 123, 2, 124, 607, 608, 609, 610, 611, 612, 613, 614, 615, 616, 653, 654, 655, 656, 657, 658, 659, 660] (by decide +kernel) (by decide +kernel)
set_option maxRecDepth 20000 in
theorem gL_law_X5_refresh : GoodIn wsL_law (wsV RL 40 RX5 yX5_refresh wsX5_refresh) := goodIn_app (goodIn_of _ (by decide +kernel)) ggL_law_X5_refresh
set_option maxRecDepth 20000 in
theorem ggL_law_X6_refresh : GoodIn wsL_law wsX6_refresh := goodIn_r _ [329, 220, 89, 90, 100, 330, 331, 332, 333, 5, 334, 95, 98, 96, 335, 336, 337, 338, 91, 617, 618, 619, 620, 621, 622, 623, 624, 625, 626, 627, 628, 629, 630, 631, 632, 633, 634, 635, 636, 637, 638, 639, 640, 641, 642, 643, 644, 645, 646, 647, 648, 649, 650, 651, 652] (by decide +kernel) (by decide +kernel)
set_option maxRecDepth 20000 in
theorem gL_law_X6_refresh : GoodIn wsL_law (wsV RL 43 RX6 yX6_refresh wsX6_refresh) := goodIn_app (goodIn_of _ (by decide +kernel)) ggL_law_X6_refresh
set_option maxRecDepth 20000 in
theorem ggL_law_X5_sync : GoodIn wsL_law wsX5_sync := goodIn_r _ [342, 38, 25, 16, 119, 36, 343, 344, 345, 346, 24, 347, 62, 61, 348, 349, 350, 351, 63, 352, 353, 354, 355, 145, 146, 147, 148, 65, 149, 150, 151, 356, 357, 358, 359, 360, 361, 362, 363, 66, 607, 608, 609, 610, 611, 612, 613, 614, 615, 616, 653, 654, 655, 656, 661, 662, 663, 664, 665, 666] (by decide +kernel) (by decide +kernel)
set_option maxRecDepth 20000 in
theorem gL_law_X5_sync : GoodIn wsL_law (wsV RL 44 RX5 yX5_sync wsX5_sync) := goodIn_app (goodIn_of _ (by decide +kernel)) ggL_law_X5_sync
set_option maxRecDepth 20000 in
theorem ggL_law_X6_sync : GoodIn wsL_law wsX6_sync := goodIn_r _ [367, 220, 108, 368, 369, 370, 371, 5, 372, 106, 373, 100, 102, 374, 375, 376, 377, 107, 617, 618, 619, 620, 621, 622, 623, 624, 625, 626, 627, 628, 629, 630, 631, 632, 633, 634, 635, 636, 637, 638, 639, 640, 641, 642, 643, 644, 645, 646, 647, 648, 649, 650, 651, 652] (by decide +kernel) (by decide +kernel)
set_option maxRecDepth 20000 in
theorem gL_law_X6_sync : GoodIn wsL_law (wsV RL 48 RX6 yX6_sync wsX6_sync) := goodIn_app (goodIn_of _ (by decide +kernel)) ggL_law_X6_sync
set_option maxRecDepth 20000 in
theorem ggL_law_X5_flush : GoodIn wsL_law wsX5_flush := goodIn_r _ [381, 38, 25, 16, 119, 36, 17, 382, 383, 384, 385, 24, 386, 61, 62, 66, 149, 150, 151, 344, 345, 346, 347, 348, 349, 350, 351, 63, 352, 353, 354, 355, 145, 146, 147, 148, 65, 387, 388, 389, 15, 390, 43, 44, 45, 46, 391, 318, 319, 20, 320, 51, 52, 53, 55, 356, 357, 358, 359, 360, 361, 362, 363, 607, 608, 609, 610, 611, 612, 613, 614, 615, 616, 653, 654, 655, 656, 661, 662, 663, 664, 665, 666, 657, 658, 659, 660] (by decide +kernel) (by decide +kernel)
set_option maxRecDepth 20000 in
theorem gL_law_X5_flush : GoodIn wsL_law (wsV RL 49 RX5 yX5_flush wsX5_flush) := goodIn_app (goodIn_of _ (by decide +kernel)) ggL_law_X5_flush
set_option maxRecDepth 20000 in
theorem ggL_law_X6_flush : GoodIn wsL_law wsX6_flush := goodIn_r _ [395, 220, 108, 107, 100, 92, 89, 93, 90, 94, 91, 97, 96, 103, 101, 104, 105, 106, 368, 369, 370, 371, 5, 372, 373, 102, 374, 375, 376, 377, 617, 618, 619, 620, 621, 622, 623, 624, 625, 626, 627, 628, 629, 630, 631, 632, 633, 634, 635, 636, 637, 638, 639, 640, 641, 642, 643, 644, 645, 646, 647, 648, 649, 650, 651, 652] (by decide +kernel) (by decide +kernel)
set_option maxRecDepth 20000 in
theorem gL_law_X6_flush : GoodIn wsL_law (wsV RL 52 RX6 yX6_flush wsX6_flush) := goodIn_app (goodIn_of _ (by decide +kernel)) ggL_law_X6_flush
set_option maxRecDepth 20000 in
theorem ggL_law_X5_crash : GoodIn wsL_law wsX5_crash := goodIn_r _ [399, 38, 25, 400, 401, 353, 354, 24, 355, 62, 63, 145, 146, 147, 148, 65, 149, 150, 151, 402, 403, 404, 405, 607, 608, 609, 610, 611, 612, 613, 614, 615, 616, 661, 662, 663, 664, 665, 666] (by decide +kernel) (by decide +kernel)
set_option maxRecDepth 20000 in
theorem gL_law_X5_crash : GoodIn wsL_law (wsV RL 53 RX5 yX5_crash wsX5_crash) := goodIn_app (goodIn_of _ (by decide +kernel)) ggL_law_X5_crash
set_option maxRecDepth 20000 in
theorem ggL_law_X6_crash : GoodIn wsL_law wsX6_crash := goodIn_r _ [409, 220, 106, 373, 236, 237, 238, 5, 239, 108, 222, 223, 224, 617, 618, 619, 620, 621, 622, 623, 624, 625, 626, 627, 628, 629, 630, 631, 632, 633, 634, 635, 636, 637, 638, 639, 640, 641, 642, 643, 644, 645, 646, 647, 648, 649, 650, 651, 652] (by decide +kernel) (by decide +kernel)
set_option maxRecDepth 20000 in
theorem gL_law_X6_crash : GoodIn wsL_law (wsV RL 57 RX6 yX6_crash wsX6_crash) := goodIn_app (goodIn_of _ (by decide +kernel)) ggL_law_X6_crash
set_option maxRecDepth 20000 in
theorem ggL_law_X5_recover : GoodIn wsL_law wsX5_recover := goodIn_r _ [413, 38, 16, 17, 37, 25, 382, 343, 119, 36, 21, 120, 387, 388, 389, 15, 390, 43, 44, 45, 46, 391, 318, 319, 20, 320, 51, 52, 53, 55, 414, 415, 416, 2, 417, 33, 418, 419, 146, 147, 24, 148, 65, 149, 150, 151, 420, 361, 362, 363, 66, 421, 422, 423, 424, 145, 185, 186, 187, 188, 64, 153, 154, 425, 426, 427, 428, 180, 181, 182, 183, 184, 123, 124, 429, 160, 161, 32, 162, 80, 81, 82, 83, 84, 430, 431, 432, 433, 62, 63, 434, 190, 191, 192, 193, 194, 195, 196, 258, 259, 260, 261, 197, 198, 199, 200, 201, 202, 203, 204, 205, 206, 207, 208, 209, 210, 211, 212, 213, 214, 215, 402, 403, 404, 405, 348, 349, 350, 351, 352, 353, 354, 355, 317, 607, 608, 609, 610, 611, 612, 613, 614, 615, 616, 661, 662, 663, 664, 665, 666, 653, 654, 655, 656, 657, 658, 659, 660, 673, 674, 675, 676, 677] (by decide +kernel) (by decide +kernel)
set_option maxRecDepth 20000 in
theorem gL_law_X5_recover : GoodIn wsL_law (wsV RL 58 RX5 yX5_recover wsX5_recover) := goodIn_app (goodIn_of _ (by decide +kernel)) ggL_law_X5_recover
set_option maxRecDepth 20000 in
theorem ggL_law_X6_recover : GoodIn wsL_law wsX6_recover := goodIn_r _ [438, 220, 108, 107, 106, 373, 439, 440, 441, 442, 443, 444, 445, 446, 447, 5, 448, 89, 92, 90, 93, 91, 94, 96, 97, 99, 103, 100, 104, 101, 449, 450, 451, 452, 105, 222, 223, 224, 229, 230, 231, 244, 245, 246, 247, 248, 453, 454, 455, 456, 236, 237, 238, 239, 267, 268, 269, 270, 249, 250, 251, 252, 369, 370, 371, 372, 102, 331, 332, 333, 334, 330, 95, 98, 617, 618, 619, 620, 621, 622, 623, 624, 625, 626, 627, 628, 629, 630, 631, 632, 633, 634, 635, 636, 637, 638, 639, 640, 641, 642, 643, 644, 645, 646, 647, 648, 649, 650, 651, 652] (by decide +kernel) (by decide +kernel)
set_option maxRecDepth 20000 in
theorem gL_law_X6_recover : GoodIn wsL_law (wsV RL 61 RX6 yX6_recover wsX6_recover) := goodIn_app (goodIn_of _ (by decide +kernel)) ggL_law_X6_recover
set_option maxRecDepth 20000 in
theorem ggL_law_X5_flip : GoodIn wsL_law wsX5_flip := goodIn_r _ [460, 25, 461, 462, 463, 24, 464, 61, 62, 65, 149, 150, 151, 465, 466, 467, 468, 64, 607, 608, 609, 610, 611, 612, 613, 614, 615, 616, 661, 662, 663, 664, 665, 666] (by decide +kernel) (by decide +kernel)
set_option maxRecDepth 20000 in
theorem gL_law_X5_flip : GoodIn wsL_law (wsV RL 62 RX5 yX5_flip wsX5_flip) := goodIn_app (goodIn_of _ (by decide +kernel)) ggL_law_X5_flip
set_option maxRecDepth 20000 in
theorem ggL_law_X6_flip : GoodIn wsL_law wsX6_flip := goodIn_r _ [472, 368, 108, 106, 105, 222, 223, 5, 224, 617, 618, 619, 620, 621, 622, 623, 624, 625, 626, 627, 628, 629, 630, 631, 632, 633, 634, 635, 636, 637, 638, 639, 640, 641, 642, 643, 644, 645, 646, 647, 648, 649, 650, 651, 652] (by decide +kernel) (by decide +kernel)
set_option maxRecDepth 20000 in
theorem gL_law_X6_flip : GoodIn wsL_law (wsV RL 66 RX6 yX6_flip wsX6_flip) := goodIn_app (goodIn_of _ (by decide +kernel)) ggL_law_X6_flip
set_option maxRecDepth 20000 in
theorem ggL_law_X5_ask : GoodIn wsL_law wsX5_ask := goodIn_r _ [476, 29, 477, 478, 479, 2, 480, 481, 482, 483, 28, 484, 70, 71, 72, 73, 607, 608, 609, 610, 611, 612, 613, 614, 615, 616, 667, 668, 669, 670, 671, 672] (by decide +kernel) (by decide +kernel)
set_option maxRecDepth 20000 in
theorem gL_law_X5_ask : GoodIn wsL_law (wsV RL 67 RX5 yX5_ask wsX5_ask) := goodIn_app (goodIn_of _ (by decide +kernel)) ggL_law_X5_ask
set_option maxRecDepth 20000 in
theorem ggL_law_X6_ask : GoodIn wsL_law wsX6_ask := goodIn_r _ [488, 489, 109, 110, 111, 222, 223, 5, 224, 617, 618, 619, 620, 621, 622, 623, 624, 625, 626, 627, 628, 629, 630, 631, 632, 633, 634, 635, 636, 637, 638, 639, 640, 641, 642, 643, 644, 645, 646, 647, 648, 649, 650, 651, 652] (by decide +kernel) (by decide +kernel)
set_option maxRecDepth 20000 in
theorem gL_law_X6_ask : GoodIn wsL_law (wsV RL 70 RX6 yX6_ask wsX6_ask) := goodIn_app (goodIn_of _ (by decide +kernel)) ggL_law_X6_ask
set_option maxRecDepth 20000 in
theorem ggL_law_X5_hit : GoodIn wsL_law wsX5_hit := goodIn_r _ [493, 38, 29, 35, 494, 495, 2, 496, 497, 498, 499, 28, 500, 70, 71, 501, 502, 503, 504, 505, 506, 507, 21, 129, 130, 131, 20, 132, 133, 134, 135, 136, 51, 123, 124, 290, 291, 292, 293, 55, 508, 509, 510, 511, 512, 513, 195, 514, 75, 76, 515, 516, 517, 518, 72, 73, 519, 520, 521, 522, 523, 524, 525, 526, 527, 528, 529, 530, 531, 532, 533, 534, 535, 536, 537, 538, 539, 540, 541, 542, 543, 544, 545, 546, 122, 547, 548, 549, 607, 608, 609, 610, 611, 612, 613, 614, 615, 616, 667, 668, 669, 670, 671, 672, 657, 658, 659, 660] (by decide +kernel) (by decide +kernel)
set_option maxRecDepth 20000 in
theorem gL_law_X5_hit : GoodIn wsL_law (wsV RL 71 RX5 yX5_hit wsX5_hit) := goodIn_app (goodIn_of _ (by decide +kernel)) ggL_law_X5_hit
set_option maxRecDepth 20000 in
theorem ggL_law_X6_hit : GoodIn wsL_law wsX6_hit := goodIn_r _ [553, 220, 554, 555, 556, 5, 557, 222, 223, 224, 558, 559, 560, 561, 489, 109, 562, 563, 564, 565, 95, 112, 98, 113, 566, 567, 568, 569, 110, 111, 570, 571, 572, 573, 574, 575, 576, 577, 578, 579, 580, 581, 582, 617, 618, 619, 620, 621, 622, 623, 624, 625, 626, 627, 628, 629, 630, 631, 632, 633, 634, 635, 636, 637, 638, 639, 640, 641, 642, 643, 644, 645, 646, 647, 648, 649, 650, 651, 652] (by decide +kernel) (by decide +kernel)
set_option maxRecDepth 20000 in
theorem gL_law_X6_hit : GoodIn wsL_law (wsV RL 74 RX6 yX6_hit wsX6_hit) := goodIn_app (goodIn_of _ (by decide +kernel)) ggL_law_X6_hit
set_option maxRecDepth 20000 in
theorem ggL_law_X5_after : GoodIn wsL_law wsX5_after := goodIn_r _ [586, 38, 29, 35, 494, 495, 2, 496, 497, 498, 499, 28, 500, 70, 71, 501, 502, 503, 504, 505, 506, 507, 21, 129, 130, 131, 20, 132, 133, 134, 135, 136, 51, 123, 124, 290, 291, 292, 293, 55, 508, 509, 510, 511, 512, 513, 195, 514, 75, 76, 515, 516, 517, 518, 72, 73, 519, 520, 521, 522, 523, 524, 525, 526, 527, 528, 529, 530, 531, 532, 533, 534, 543, 544, 545, 546, 122, 547, 548, 549, 607, 608, 609, 610, 611, 612, 613, 614, 615, 616, 667, 668, 669, 670, 671, 672, 657, 658, 659, 660] (by decide +kernel) (by decide +kernel)
set_option maxRecDepth 20000 in
theorem gL_law_X5_after : GoodIn wsL_law (wsV RL 75 RX5 yX5_after wsX5_after) := goodIn_app (goodIn_of _ (by decide +kernel)) ggL_law_X5_after
set_option maxRecDepth 20000 in
theorem ggL_law_X6_after : GoodIn wsL_law wsX6_after := goodIn_r _ [590, 220, 554, 555, 556, 5, 557, 222, 223, 224, 558, 559, 560, 561, 489, 109, 562, 563, 564, 565, 95, 112, 98, 113, 566, 567, 568, 569, 110, 111, 570, 571, 572, 573, 574, 575, 576, 577, 578, 579, 580, 581, 582, 617, 618, 619, 620, 621, 622, 623, 624, 625, 626, 627, 628, 629, 630, 631, 632, 633, 634, 635, 636, 637, 638, 639, 640, 641, 642, 643, 644, 645, 646, 647, 648, 649, 650, 651, 652] (by decide +kernel) (by decide +kernel)
set_option maxRecDepth 20000 in
theorem gL_law_X6_after : GoodIn wsL_law (wsV RL 78 RX6 yX6_after wsX6_after) := goodIn_app (goodIn_of _ (by decide +kernel)) ggL_law_X6_after
set_option maxRecDepth 20000 in
theorem ggL_law_X5_score : GoodIn wsL_law wsX5_score := goodIn_r _ [594, 38, 29, 35, 122, 123, 2, 124, 497, 498, 499, 28, 500, 70, 71, 501, 502, 503, 504, 505, 506, 507, 21, 129, 130, 131, 20, 132, 133, 134, 135, 136, 51, 290, 291, 292, 293, 55, 508, 509, 510, 511, 512, 513, 195, 514, 75, 76, 515, 516, 517, 518, 72, 73, 519, 520, 521, 522, 523, 524, 525, 526, 527, 528, 529, 530, 531, 532, 533, 534, 607, 608, 609, 610, 611, 612, 613, 614, 615, 616, 667, 668, 669, 670, 671, 672, 657, 658, 659, 660] (by decide +kernel) (by decide +kernel)
set_option maxRecDepth 20000 in
theorem gL_law_X5_score : GoodIn wsL_law (wsV RL 79 RX5 yX5_score wsX5_score) := goodIn_app (goodIn_of _ (by decide +kernel)) ggL_law_X5_score
set_option maxRecDepth 20000 in
theorem ggL_law_X6_score : GoodIn wsL_law wsX6_score := goodIn_r _ [598, 220, 222, 223, 5, 224, 558, 559, 560, 561, 489, 109, 562, 563, 564, 565, 95, 112, 98, 113, 566, 567, 568, 569, 110, 111, 570, 571, 572, 573, 574, 575, 617, 618, 619, 620, 621, 622, 623, 624, 625, 626, 627, 628, 629, 630, 631, 632, 633, 634, 635, 636, 637, 638, 639, 640, 641, 642, 643, 644, 645, 646, 647, 648, 649, 650, 651, 652] (by decide +kernel) (by decide +kernel)
set_option maxRecDepth 20000 in
theorem gL_law_X6_score : GoodIn wsL_law (wsV RL 82 RX6 yX6_score wsX6_score) := goodIn_app (goodIn_of _ (by decide +kernel)) ggL_law_X6_score
set_option maxRecDepth 20000 in
theorem ggL_law_X5_info : GoodIn wsL_law wsX5_info := goodIn_r _ [602, 38, 16, 118, 119, 36, 25, 382, 343, 400, 17, 21, 344, 345, 346, 24, 347, 62, 61, 419, 146, 147, 148, 65, 149, 150, 151, 321, 322, 323, 20, 324, 325, 130, 131, 132, 133, 134, 135, 136, 51, 123, 2, 124, 607, 608, 609, 610, 611, 612, 613, 614, 615, 616, 653, 654, 655, 656, 661, 662, 663, 664, 665, 666, 657, 658, 659, 660] (by decide +kernel) (by decide +kernel)
set_option maxRecDepth 20000 in
theorem gL_law_X5_info : GoodIn wsL_law (wsV RL 83 RX5 yX5_info wsX5_info) := goodIn_app (goodIn_of _ (by decide +kernel)) ggL_law_X5_info
set_option maxRecDepth 20000 in
theorem ggL_law_X6_info : GoodIn wsL_law wsX6_info := goodIn_r _ [606, 220, 101, 100, 102, 108, 368, 106, 373, 103, 104, 330, 617, 618, 619, 620, 621, 622, 623, 624, 625, 626, 627, 628, 629, 630, 631, 632, 633, 634, 635, 636, 637, 638, 639, 640, 641, 642, 643, 644, 645, 646, 647, 648, 649, 650, 651, 652] (by decide +kernel) (by decide +kernel)
set_option maxRecDepth 20000 in
theorem gL_law_X6_info : GoodIn wsL_law (wsV RL 86 RX6 yX6_info wsX6_info) := goodIn_app (goodIn_of _ (by decide +kernel)) ggL_law_X6_info
theorem dL_law_0 : decode cL_law 0 = .ok (.new 7, 3) := by decide +kernel
theorem dL_law_3 : decode cL_law 3 = .ok (.dup, 1) := by decide +kernel
theorem dL_law_4 : decode cL_law 4 = .ok (.invokespecial 9, 3) := by decide +kernel
theorem dL_law_7 : decode cL_law 7 = .ok (.astore_n 1, 1) := by decide +kernel
theorem dL_law_8 : decode cL_law 8 = .ok (.new 10, 3) := by decide +kernel
theorem dL_law_11 : decode cL_law 11 = .ok (.dup, 1) := by decide +kernel
theorem dL_law_12 : decode cL_law 12 = .ok (.invokespecial 12, 3) := by decide +kernel
theorem dL_law_15 : decode cL_law 15 = .ok (.astore_n 2, 1) := by decide +kernel
theorem dL_law_16 : decode cL_law 16 = .ok (.iconst 0, 1) := by decide +kernel
theorem dL_law_17 : decode cL_law 17 = .ok (.istore_n 3, 1) := by decide +kernel
theorem dL_law_18 : decode cL_law 18 = .ok (.iload_n 3, 1) := by decide +kernel
theorem dL_law_19 : decode cL_law 19 = .ok (.aload_n 0, 1) := by decide +kernel
theorem dL_law_20 : decode cL_law 20 = .ok (.arraylength, 1) := by decide +kernel
theorem dL_law_21 : decode cL_law 21 = .ok (.bipush 7, 2) := by decide +kernel
theorem dL_law_23 : decode cL_law 23 = .ok (.isub, 1) := by decide +kernel
theorem dL_law_24 : decode cL_law 24 = .ok (.if_icmp .gt 661, 3) := by decide +kernel
theorem dL_law_27 : decode cL_law 27 = .ok (.aload_n 0, 1) := by decide +kernel
theorem dL_law_28 : decode cL_law 28 = .ok (.iload_n 3, 1) := by decide +kernel
theorem dL_law_29 : decode cL_law 29 = .ok (.iaload, 1) := by decide +kernel
theorem dL_law_30 : decode cL_law 30 = .ok (.bipush 15, 2) := by decide +kernel
theorem dL_law_32 : decode cL_law 32 = .ok (.iand, 1) := by decide +kernel
theorem dL_law_33 : decode cL_law 33 = .ok (.tableswitch 646 0 15 #[79, 162, 257, 270, 294, 327, 340, 379, 392, 415, 438, 481, 524, 557, 600, 623], 79) := by decide +kernel
theorem dL_law_112 : decode cL_law 112 = .ok (.aload_n 1, 1) := by decide +kernel
theorem dL_law_113 : decode cL_law 113 = .ok (.aload_n 0, 1) := by decide +kernel
theorem dL_law_114 : decode cL_law 114 = .ok (.iload_n 3, 1) := by decide +kernel
theorem dL_law_115 : decode cL_law 115 = .ok (.iconst 1, 1) := by decide +kernel
theorem dL_law_116 : decode cL_law 116 = .ok (.iadd, 1) := by decide +kernel
theorem dL_law_117 : decode cL_law 117 = .ok (.iaload, 1) := by decide +kernel
theorem dL_law_118 : decode cL_law 118 = .ok (.aload_n 0, 1) := by decide +kernel
theorem dL_law_119 : decode cL_law 119 = .ok (.iload_n 3, 1) := by decide +kernel
theorem dL_law_120 : decode cL_law 120 = .ok (.iconst 2, 1) := by decide +kernel
theorem dL_law_121 : decode cL_law 121 = .ok (.iadd, 1) := by decide +kernel
theorem dL_law_122 : decode cL_law 122 = .ok (.iaload, 1) := by decide +kernel
theorem dL_law_123 : decode cL_law 123 = .ok (.aload_n 0, 1) := by decide +kernel
theorem dL_law_124 : decode cL_law 124 = .ok (.iload_n 3, 1) := by decide +kernel
theorem dL_law_125 : decode cL_law 125 = .ok (.iconst 3, 1) := by decide +kernel
theorem dL_law_126 : decode cL_law 126 = .ok (.iadd, 1) := by decide +kernel
theorem dL_law_127 : decode cL_law 127 = .ok (.iaload, 1) := by decide +kernel
theorem dL_law_128 : decode cL_law 128 = .ok (.i2l, 1) := by decide +kernel
theorem dL_law_129 : decode cL_law 129 = .ok (.bipush 32, 2) := by decide +kernel
theorem dL_law_131 : decode cL_law 131 = .ok (.lshl, 1) := by decide +kernel
theorem dL_law_132 : decode cL_law 132 = .ok (.aload_n 0, 1) := by decide +kernel
theorem dL_law_133 : decode cL_law 133 = .ok (.iload_n 3, 1) := by decide +kernel
theorem dL_law_134 : decode cL_law 134 = .ok (.iconst 4, 1) := by decide +kernel
theorem dL_law_135 : decode cL_law 135 = .ok (.iadd, 1) := by decide +kernel
theorem dL_law_136 : decode cL_law 136 = .ok (.iaload, 1) := by decide +kernel
theorem dL_law_137 : decode cL_law 137 = .ok (.i2l, 1) := by decide +kernel
theorem dL_law_138 : decode cL_law 138 = .ok (.ldc2_w 13, 3) := by decide +kernel
theorem dL_law_141 : decode cL_law 141 = .ok (.land, 1) := by decide +kernel
theorem dL_law_142 : decode cL_law 142 = .ok (.lor, 1) := by decide +kernel
theorem dL_law_143 : decode cL_law 143 = .ok (.aload_n 0, 1) := by decide +kernel
theorem dL_law_144 : decode cL_law 144 = .ok (.iload_n 3, 1) := by decide +kernel
theorem dL_law_145 : decode cL_law 145 = .ok (.iconst 5, 1) := by decide +kernel
theorem dL_law_146 : decode cL_law 146 = .ok (.iadd, 1) := by decide +kernel
theorem dL_law_147 : decode cL_law 147 = .ok (.iaload, 1) := by decide +kernel
theorem dL_law_148 : decode cL_law 148 = .ok (.invokevirtual 15, 3) := by decide +kernel
theorem dL_law_151 : decode cL_law 151 = .ok (.aload_n 2, 1) := by decide +kernel
theorem dL_law_152 : decode cL_law 152 = .ok (.aload_n 0, 1) := by decide +kernel
theorem dL_law_153 : decode cL_law 153 = .ok (.iload_n 3, 1) := by decide +kernel
theorem dL_law_154 : decode cL_law 154 = .ok (.iconst 1, 1) := by decide +kernel
theorem dL_law_155 : decode cL_law 155 = .ok (.iadd, 1) := by decide +kernel
theorem dL_law_156 : decode cL_law 156 = .ok (.iaload, 1) := by decide +kernel
theorem dL_law_157 : decode cL_law 157 = .ok (.aload_n 0, 1) := by decide +kernel
theorem dL_law_158 : decode cL_law 158 = .ok (.iload_n 3, 1) := by decide +kernel
theorem dL_law_159 : decode cL_law 159 = .ok (.iconst 2, 1) := by decide +kernel
theorem dL_law_160 : decode cL_law 160 = .ok (.iadd, 1) := by decide +kernel
theorem dL_law_161 : decode cL_law 161 = .ok (.iaload, 1) := by decide +kernel
theorem dL_law_162 : decode cL_law 162 = .ok (.aload_n 0, 1) := by decide +kernel
theorem dL_law_163 : decode cL_law 163 = .ok (.iload_n 3, 1) := by decide +kernel
theorem dL_law_164 : decode cL_law 164 = .ok (.iconst 3, 1) := by decide +kernel
theorem dL_law_165 : decode cL_law 165 = .ok (.iadd, 1) := by decide +kernel
theorem dL_law_166 : decode cL_law 166 = .ok (.iaload, 1) := by decide +kernel
theorem dL_law_167 : decode cL_law 167 = .ok (.i2l, 1) := by decide +kernel
theorem dL_law_168 : decode cL_law 168 = .ok (.bipush 32, 2) := by decide +kernel
theorem dL_law_170 : decode cL_law 170 = .ok (.lshl, 1) := by decide +kernel
theorem dL_law_171 : decode cL_law 171 = .ok (.aload_n 0, 1) := by decide +kernel
theorem dL_law_172 : decode cL_law 172 = .ok (.iload_n 3, 1) := by decide +kernel
theorem dL_law_173 : decode cL_law 173 = .ok (.iconst 4, 1) := by decide +kernel
theorem dL_law_174 : decode cL_law 174 = .ok (.iadd, 1) := by decide +kernel
theorem dL_law_175 : decode cL_law 175 = .ok (.iaload, 1) := by decide +kernel
theorem dL_law_176 : decode cL_law 176 = .ok (.i2l, 1) := by decide +kernel
theorem dL_law_177 : decode cL_law 177 = .ok (.ldc2_w 13, 3) := by decide +kernel
theorem dL_law_180 : decode cL_law 180 = .ok (.land, 1) := by decide +kernel
theorem dL_law_181 : decode cL_law 181 = .ok (.lor, 1) := by decide +kernel
theorem dL_law_182 : decode cL_law 182 = .ok (.aload_n 0, 1) := by decide +kernel
theorem dL_law_183 : decode cL_law 183 = .ok (.iload_n 3, 1) := by decide +kernel
theorem dL_law_184 : decode cL_law 184 = .ok (.iconst 5, 1) := by decide +kernel
theorem dL_law_185 : decode cL_law 185 = .ok (.iadd, 1) := by decide +kernel
theorem dL_law_186 : decode cL_law 186 = .ok (.iaload, 1) := by decide +kernel
theorem dL_law_187 : decode cL_law 187 = .ok (.invokevirtual 19, 3) := by decide +kernel
theorem dL_law_190 : decode cL_law 190 = .ok (.if_icmp .eq 489, 3) := by decide +kernel
theorem dL_law_193 : decode cL_law 193 = .ok (.iconst 0, 1) := by decide +kernel
theorem dL_law_194 : decode cL_law 194 = .ok (.ireturn, 1) := by decide +kernel
theorem dL_law_195 : decode cL_law 195 = .ok (.aload_n 1, 1) := by decide +kernel
theorem dL_law_196 : decode cL_law 196 = .ok (.aload_n 0, 1) := by decide +kernel
theorem dL_law_197 : decode cL_law 197 = .ok (.iload_n 3, 1) := by decide +kernel
theorem dL_law_198 : decode cL_law 198 = .ok (.iconst 1, 1) := by decide +kernel
theorem dL_law_199 : decode cL_law 199 = .ok (.iadd, 1) := by decide +kernel
theorem dL_law_200 : decode cL_law 200 = .ok (.iaload, 1) := by decide +kernel
theorem dL_law_201 : decode cL_law 201 = .ok (.aload_n 0, 1) := by decide +kernel
theorem dL_law_202 : decode cL_law 202 = .ok (.iload_n 3, 1) := by decide +kernel
theorem dL_law_203 : decode cL_law 203 = .ok (.iconst 2, 1) := by decide +kernel
theorem dL_law_204 : decode cL_law 204 = .ok (.iadd, 1) := by decide +kernel
theorem dL_law_205 : decode cL_law 205 = .ok (.iaload, 1) := by decide +kernel
theorem dL_law_206 : decode cL_law 206 = .ok (.aload_n 0, 1) := by decide +kernel
theorem dL_law_207 : decode cL_law 207 = .ok (.iload_n 3, 1) := by decide +kernel
theorem dL_law_208 : decode cL_law 208 = .ok (.iconst 3, 1) := by decide +kernel
theorem dL_law_209 : decode cL_law 209 = .ok (.iadd, 1) := by decide +kernel
theorem dL_law_210 : decode cL_law 210 = .ok (.iaload, 1) := by decide +kernel
theorem dL_law_211 : decode cL_law 211 = .ok (.aload_n 0, 1) := by decide +kernel
theorem dL_law_212 : decode cL_law 212 = .ok (.iload_n 3, 1) := by decide +kernel
theorem dL_law_213 : decode cL_law 213 = .ok (.iconst 4, 1) := by decide +kernel
theorem dL_law_214 : decode cL_law 214 = .ok (.iadd, 1) := by decide +kernel
theorem dL_law_215 : decode cL_law 215 = .ok (.iaload, 1) := by decide +kernel
theorem dL_law_216 : decode cL_law 216 = .ok (.aload_n 0, 1) := by decide +kernel
theorem dL_law_217 : decode cL_law 217 = .ok (.iload_n 3, 1) := by decide +kernel
theorem dL_law_218 : decode cL_law 218 = .ok (.iconst 5, 1) := by decide +kernel
theorem dL_law_219 : decode cL_law 219 = .ok (.iadd, 1) := by decide +kernel
theorem dL_law_220 : decode cL_law 220 = .ok (.iaload, 1) := by decide +kernel
theorem dL_law_221 : decode cL_law 221 = .ok (.i2l, 1) := by decide +kernel
theorem dL_law_222 : decode cL_law 222 = .ok (.bipush 32, 2) := by decide +kernel
theorem dL_law_224 : decode cL_law 224 = .ok (.lshl, 1) := by decide +kernel
theorem dL_law_225 : decode cL_law 225 = .ok (.aload_n 0, 1) := by decide +kernel
theorem dL_law_226 : decode cL_law 226 = .ok (.iload_n 3, 1) := by decide +kernel
theorem dL_law_227 : decode cL_law 227 = .ok (.bipush 6, 2) := by decide +kernel
theorem dL_law_229 : decode cL_law 229 = .ok (.iadd, 1) := by decide +kernel
theorem dL_law_230 : decode cL_law 230 = .ok (.iaload, 1) := by decide +kernel
theorem dL_law_231 : decode cL_law 231 = .ok (.i2l, 1) := by decide +kernel
theorem dL_law_232 : decode cL_law 232 = .ok (.ldc2_w 13, 3) := by decide +kernel
theorem dL_law_235 : decode cL_law 235 = .ok (.land, 1) := by decide +kernel
theorem dL_law_236 : decode cL_law 236 = .ok (.lor, 1) := by decide +kernel
theorem dL_law_237 : decode cL_law 237 = .ok (.invokevirtual 20, 3) := by decide +kernel
theorem dL_law_240 : decode cL_law 240 = .ok (.aload_n 2, 1) := by decide +kernel
theorem dL_law_241 : decode cL_law 241 = .ok (.aload_n 0, 1) := by decide +kernel
theorem dL_law_242 : decode cL_law 242 = .ok (.iload_n 3, 1) := by decide +kernel
theorem dL_law_243 : decode cL_law 243 = .ok (.iconst 1, 1) := by decide +kernel
theorem dL_law_244 : decode cL_law 244 = .ok (.iadd, 1) := by decide +kernel
theorem dL_law_245 : decode cL_law 245 = .ok (.iaload, 1) := by decide +kernel
theorem dL_law_246 : decode cL_law 246 = .ok (.aload_n 0, 1) := by decide +kernel
theorem dL_law_247 : decode cL_law 247 = .ok (.iload_n 3, 1) := by decide +kernel
theorem dL_law_248 : decode cL_law 248 = .ok (.iconst 2, 1) := by decide +kernel
theorem dL_law_249 : decode cL_law 249 = .ok (.iadd, 1) := by decide +kernel
theorem dL_law_250 : decode cL_law 250 = .ok (.iaload, 1) := by decide +kernel
theorem dL_law_251 : decode cL_law 251 = .ok (.aload_n 0, 1) := by decide +kernel
theorem dL_law_252 : decode cL_law 252 = .ok (.iload_n 3, 1) := by decide +kernel
theorem dL_law_253 : decode cL_law 253 = .ok (.iconst 3, 1) := by decide +kernel
theorem dL_law_254 : decode cL_law 254 = .ok (.iadd, 1) := by decide +kernel
theorem dL_law_255 : decode cL_law 255 = .ok (.iaload, 1) := by decide +kernel
theorem dL_law_256 : decode cL_law 256 = .ok (.aload_n 0, 1) := by decide +kernel
theorem dL_law_257 : decode cL_law 257 = .ok (.iload_n 3, 1) := by decide +kernel
theorem dL_law_258 : decode cL_law 258 = .ok (.iconst 4, 1) := by decide +kernel
theorem dL_law_259 : decode cL_law 259 = .ok (.iadd, 1) := by decide +kernel
theorem dL_law_260 : decode cL_law 260 = .ok (.iaload, 1) := by decide +kernel
theorem dL_law_261 : decode cL_law 261 = .ok (.aload_n 0, 1) := by decide +kernel
theorem dL_law_262 : decode cL_law 262 = .ok (.iload_n 3, 1) := by decide +kernel
theorem dL_law_263 : decode cL_law 263 = .ok (.iconst 5, 1) := by decide +kernel
theorem dL_law_264 : decode cL_law 264 = .ok (.iadd, 1) := by decide +kernel
theorem dL_law_265 : decode cL_law 265 = .ok (.iaload, 1) := by decide +kernel
theorem dL_law_266 : decode cL_law 266 = .ok (.i2l, 1) := by decide +kernel
theorem dL_law_267 : decode cL_law 267 = .ok (.bipush 32, 2) := by decide +kernel
theorem dL_law_269 : decode cL_law 269 = .ok (.lshl, 1) := by decide +kernel
theorem dL_law_270 : decode cL_law 270 = .ok (.aload_n 0, 1) := by decide +kernel
theorem dL_law_271 : decode cL_law 271 = .ok (.iload_n 3, 1) := by decide +kernel
theorem dL_law_272 : decode cL_law 272 = .ok (.bipush 6, 2) := by decide +kernel
theorem dL_law_274 : decode cL_law 274 = .ok (.iadd, 1) := by decide +kernel
theorem dL_law_275 : decode cL_law 275 = .ok (.iaload, 1) := by decide +kernel
theorem dL_law_276 : decode cL_law 276 = .ok (.i2l, 1) := by decide +kernel
theorem dL_law_277 : decode cL_law 277 = .ok (.ldc2_w 13, 3) := by decide +kernel
theorem dL_law_280 : decode cL_law 280 = .ok (.land, 1) := by decide +kernel
theorem dL_law_281 : decode cL_law 281 = .ok (.lor, 1) := by decide +kernel
theorem dL_law_282 : decode cL_law 282 = .ok (.invokevirtual 24, 3) := by decide +kernel
theorem dL_law_285 : decode cL_law 285 = .ok (.if_icmp .eq 394, 3) := by decide +kernel
theorem dL_law_288 : decode cL_law 288 = .ok (.iconst 0, 1) := by decide +kernel
theorem dL_law_289 : decode cL_law 289 = .ok (.ireturn, 1) := by decide +kernel
theorem dL_law_290 : decode cL_law 290 = .ok (.aload_n 1, 1) := by decide +kernel
theorem dL_law_291 : decode cL_law 291 = .ok (.invokevirtual 25, 3) := by decide +kernel
theorem dL_law_294 : decode cL_law 294 = .ok (.aload_n 2, 1) := by decide +kernel
theorem dL_law_295 : decode cL_law 295 = .ok (.invokevirtual 29, 3) := by decide +kernel
theorem dL_law_298 : decode cL_law 298 = .ok (.if_icmp .eq 381, 3) := by decide +kernel
theorem dL_law_301 : decode cL_law 301 = .ok (.iconst 0, 1) := by decide +kernel
theorem dL_law_302 : decode cL_law 302 = .ok (.ireturn, 1) := by decide +kernel
theorem dL_law_303 : decode cL_law 303 = .ok (.aload_n 1, 1) := by decide +kernel
theorem dL_law_304 : decode cL_law 304 = .ok (.aload_n 0, 1) := by decide +kernel
theorem dL_law_305 : decode cL_law 305 = .ok (.iload_n 3, 1) := by decide +kernel
theorem dL_law_306 : decode cL_law 306 = .ok (.iconst 1, 1) := by decide +kernel
theorem dL_law_307 : decode cL_law 307 = .ok (.iadd, 1) := by decide +kernel
theorem dL_law_308 : decode cL_law 308 = .ok (.iaload, 1) := by decide +kernel
theorem dL_law_309 : decode cL_law 309 = .ok (.invokevirtual 30, 3) := by decide +kernel
theorem dL_law_312 : decode cL_law 312 = .ok (.aload_n 2, 1) := by decide +kernel
theorem dL_law_313 : decode cL_law 313 = .ok (.aload_n 0, 1) := by decide +kernel
theorem dL_law_314 : decode cL_law 314 = .ok (.iload_n 3, 1) := by decide +kernel
theorem dL_law_315 : decode cL_law 315 = .ok (.iconst 1, 1) := by decide +kernel
theorem dL_law_316 : decode cL_law 316 = .ok (.iadd, 1) := by decide +kernel
theorem dL_law_317 : decode cL_law 317 = .ok (.iaload, 1) := by decide +kernel
theorem dL_law_318 : decode cL_law 318 = .ok (.invokevirtual 34, 3) := by decide +kernel
theorem dL_law_321 : decode cL_law 321 = .ok (.lcmp, 1) := by decide +kernel
theorem dL_law_322 : decode cL_law 322 = .ok (.ifCond .eq 357, 3) := by decide +kernel
theorem dL_law_325 : decode cL_law 325 = .ok (.iconst 0, 1) := by decide +kernel
theorem dL_law_326 : decode cL_law 326 = .ok (.ireturn, 1) := by decide +kernel
theorem dL_law_327 : decode cL_law 327 = .ok (.aload_n 1, 1) := by decide +kernel
theorem dL_law_328 : decode cL_law 328 = .ok (.aload_n 0, 1) := by decide +kernel
theorem dL_law_329 : decode cL_law 329 = .ok (.iload_n 3, 1) := by decide +kernel
theorem dL_law_330 : decode cL_law 330 = .ok (.iconst 1, 1) := by decide +kernel
theorem dL_law_331 : decode cL_law 331 = .ok (.iadd, 1) := by decide +kernel
theorem dL_law_332 : decode cL_law 332 = .ok (.iaload, 1) := by decide +kernel
theorem dL_law_333 : decode cL_law 333 = .ok (.aload_n 0, 1) := by decide +kernel
theorem dL_law_334 : decode cL_law 334 = .ok (.iload_n 3, 1) := by decide +kernel
theorem dL_law_335 : decode cL_law 335 = .ok (.iconst 2, 1) := by decide +kernel
theorem dL_law_336 : decode cL_law 336 = .ok (.iadd, 1) := by decide +kernel
theorem dL_law_337 : decode cL_law 337 = .ok (.iaload, 1) := by decide +kernel
theorem dL_law_338 : decode cL_law 338 = .ok (.invokevirtual 35, 3) := by decide +kernel
theorem dL_law_341 : decode cL_law 341 = .ok (.aload_n 2, 1) := by decide +kernel
theorem dL_law_342 : decode cL_law 342 = .ok (.aload_n 0, 1) := by decide +kernel
theorem dL_law_343 : decode cL_law 343 = .ok (.iload_n 3, 1) := by decide +kernel
theorem dL_law_344 : decode cL_law 344 = .ok (.iconst 1, 1) := by decide +kernel
theorem dL_law_345 : decode cL_law 345 = .ok (.iadd, 1) := by decide +kernel
theorem dL_law_346 : decode cL_law 346 = .ok (.iaload, 1) := by decide +kernel
theorem dL_law_347 : decode cL_law 347 = .ok (.aload_n 0, 1) := by decide +kernel
theorem dL_law_348 : decode cL_law 348 = .ok (.iload_n 3, 1) := by decide +kernel
theorem dL_law_349 : decode cL_law 349 = .ok (.iconst 2, 1) := by decide +kernel
theorem dL_law_350 : decode cL_law 350 = .ok (.iadd, 1) := by decide +kernel
theorem dL_law_351 : decode cL_law 351 = .ok (.iaload, 1) := by decide +kernel
theorem dL_law_352 : decode cL_law 352 = .ok (.invokevirtual 39, 3) := by decide +kernel
theorem dL_law_355 : decode cL_law 355 = .ok (.if_icmp .eq 324, 3) := by decide +kernel
theorem dL_law_358 : decode cL_law 358 = .ok (.iconst 0, 1) := by decide +kernel
theorem dL_law_359 : decode cL_law 359 = .ok (.ireturn, 1) := by decide +kernel
theorem dL_law_360 : decode cL_law 360 = .ok (.aload_n 1, 1) := by decide +kernel
theorem dL_law_361 : decode cL_law 361 = .ok (.invokevirtual 40, 3) := by decide +kernel
theorem dL_law_364 : decode cL_law 364 = .ok (.aload_n 2, 1) := by decide +kernel
theorem dL_law_365 : decode cL_law 365 = .ok (.invokevirtual 43, 3) := by decide +kernel
theorem dL_law_368 : decode cL_law 368 = .ok (.if_icmp .eq 311, 3) := by decide +kernel
theorem dL_law_371 : decode cL_law 371 = .ok (.iconst 0, 1) := by decide +kernel
theorem dL_law_372 : decode cL_law 372 = .ok (.ireturn, 1) := by decide +kernel
theorem dL_law_373 : decode cL_law 373 = .ok (.aload_n 1, 1) := by decide +kernel
theorem dL_law_374 : decode cL_law 374 = .ok (.aload_n 0, 1) := by decide +kernel
theorem dL_law_375 : decode cL_law 375 = .ok (.iload_n 3, 1) := by decide +kernel
theorem dL_law_376 : decode cL_law 376 = .ok (.iconst 1, 1) := by decide +kernel
theorem dL_law_377 : decode cL_law 377 = .ok (.iadd, 1) := by decide +kernel
theorem dL_law_378 : decode cL_law 378 = .ok (.iaload, 1) := by decide +kernel
theorem dL_law_379 : decode cL_law 379 = .ok (.ifCond .eq 7, 3) := by decide +kernel
theorem dL_law_382 : decode cL_law 382 = .ok (.iconst 1, 1) := by decide +kernel
theorem dL_law_383 : decode cL_law 383 = .ok (.goto 4, 3) := by decide +kernel
theorem dL_law_386 : decode cL_law 386 = .ok (.iconst 0, 1) := by decide +kernel
theorem dL_law_387 : decode cL_law 387 = .ok (.invokevirtual 44, 3) := by decide +kernel
theorem dL_law_390 : decode cL_law 390 = .ok (.aload_n 2, 1) := by decide +kernel
theorem dL_law_391 : decode cL_law 391 = .ok (.aload_n 0, 1) := by decide +kernel
theorem dL_law_392 : decode cL_law 392 = .ok (.iload_n 3, 1) := by decide +kernel
theorem dL_law_393 : decode cL_law 393 = .ok (.iconst 1, 1) := by decide +kernel
theorem dL_law_394 : decode cL_law 394 = .ok (.iadd, 1) := by decide +kernel
theorem dL_law_395 : decode cL_law 395 = .ok (.iaload, 1) := by decide +kernel
theorem dL_law_396 : decode cL_law 396 = .ok (.ifCond .eq 7, 3) := by decide +kernel
theorem dL_law_399 : decode cL_law 399 = .ok (.iconst 1, 1) := by decide +kernel
theorem dL_law_400 : decode cL_law 400 = .ok (.goto 4, 3) := by decide +kernel
theorem dL_law_403 : decode cL_law 403 = .ok (.iconst 0, 1) := by decide +kernel
theorem dL_law_404 : decode cL_law 404 = .ok (.invokevirtual 48, 3) := by decide +kernel
theorem dL_law_407 : decode cL_law 407 = .ok (.if_icmp .eq 272, 3) := by decide +kernel
theorem dL_law_410 : decode cL_law 410 = .ok (.iconst 0, 1) := by decide +kernel
theorem dL_law_411 : decode cL_law 411 = .ok (.ireturn, 1) := by decide +kernel
theorem dL_law_412 : decode cL_law 412 = .ok (.aload_n 1, 1) := by decide +kernel
theorem dL_law_413 : decode cL_law 413 = .ok (.invokevirtual 49, 3) := by decide +kernel
theorem dL_law_416 : decode cL_law 416 = .ok (.aload_n 2, 1) := by decide +kernel
theorem dL_law_417 : decode cL_law 417 = .ok (.invokevirtual 52, 3) := by decide +kernel
theorem dL_law_420 : decode cL_law 420 = .ok (.if_icmp .eq 259, 3) := by decide +kernel
theorem dL_law_423 : decode cL_law 423 = .ok (.iconst 0, 1) := by decide +kernel
theorem dL_law_424 : decode cL_law 424 = .ok (.ireturn, 1) := by decide +kernel
theorem dL_law_425 : decode cL_law 425 = .ok (.aload_n 1, 1) := by decide +kernel
theorem dL_law_426 : decode cL_law 426 = .ok (.aload_n 0, 1) := by decide +kernel
theorem dL_law_427 : decode cL_law 427 = .ok (.iload_n 3, 1) := by decide +kernel
theorem dL_law_428 : decode cL_law 428 = .ok (.iconst 1, 1) := by decide +kernel
theorem dL_law_429 : decode cL_law 429 = .ok (.iadd, 1) := by decide +kernel
theorem dL_law_430 : decode cL_law 430 = .ok (.iaload, 1) := by decide +kernel
theorem dL_law_431 : decode cL_law 431 = .ok (.invokevirtual 53, 3) := by decide +kernel
theorem dL_law_434 : decode cL_law 434 = .ok (.aload_n 2, 1) := by decide +kernel
theorem dL_law_435 : decode cL_law 435 = .ok (.aload_n 0, 1) := by decide +kernel
theorem dL_law_436 : decode cL_law 436 = .ok (.iload_n 3, 1) := by decide +kernel
theorem dL_law_437 : decode cL_law 437 = .ok (.iconst 1, 1) := by decide +kernel
theorem dL_law_438 : decode cL_law 438 = .ok (.iadd, 1) := by decide +kernel
theorem dL_law_439 : decode cL_law 439 = .ok (.iaload, 1) := by decide +kernel
theorem dL_law_440 : decode cL_law 440 = .ok (.invokevirtual 57, 3) := by decide +kernel
theorem dL_law_443 : decode cL_law 443 = .ok (.if_icmp .eq 236, 3) := by decide +kernel
theorem dL_law_446 : decode cL_law 446 = .ok (.iconst 0, 1) := by decide +kernel
theorem dL_law_447 : decode cL_law 447 = .ok (.ireturn, 1) := by decide +kernel
theorem dL_law_448 : decode cL_law 448 = .ok (.aload_n 1, 1) := by decide +kernel
theorem dL_law_449 : decode cL_law 449 = .ok (.aload_n 0, 1) := by decide +kernel
theorem dL_law_450 : decode cL_law 450 = .ok (.iload_n 3, 1) := by decide +kernel
theorem dL_law_451 : decode cL_law 451 = .ok (.iconst 1, 1) := by decide +kernel
theorem dL_law_452 : decode cL_law 452 = .ok (.iadd, 1) := by decide +kernel
theorem dL_law_453 : decode cL_law 453 = .ok (.iaload, 1) := by decide +kernel
theorem dL_law_454 : decode cL_law 454 = .ok (.invokevirtual 58, 3) := by decide +kernel
theorem dL_law_457 : decode cL_law 457 = .ok (.aload_n 2, 1) := by decide +kernel
theorem dL_law_458 : decode cL_law 458 = .ok (.aload_n 0, 1) := by decide +kernel
theorem dL_law_459 : decode cL_law 459 = .ok (.iload_n 3, 1) := by decide +kernel
theorem dL_law_460 : decode cL_law 460 = .ok (.iconst 1, 1) := by decide +kernel
theorem dL_law_461 : decode cL_law 461 = .ok (.iadd, 1) := by decide +kernel
theorem dL_law_462 : decode cL_law 462 = .ok (.iaload, 1) := by decide +kernel
theorem dL_law_463 : decode cL_law 463 = .ok (.invokevirtual 61, 3) := by decide +kernel
theorem dL_law_466 : decode cL_law 466 = .ok (.if_icmp .eq 213, 3) := by decide +kernel
theorem dL_law_469 : decode cL_law 469 = .ok (.iconst 0, 1) := by decide +kernel
theorem dL_law_470 : decode cL_law 470 = .ok (.ireturn, 1) := by decide +kernel
theorem dL_law_471 : decode cL_law 471 = .ok (.aload_n 1, 1) := by decide +kernel
theorem dL_law_472 : decode cL_law 472 = .ok (.aload_n 0, 1) := by decide +kernel
theorem dL_law_473 : decode cL_law 473 = .ok (.iload_n 3, 1) := by decide +kernel
theorem dL_law_474 : decode cL_law 474 = .ok (.iconst 1, 1) := by decide +kernel
theorem dL_law_475 : decode cL_law 475 = .ok (.iadd, 1) := by decide +kernel
theorem dL_law_476 : decode cL_law 476 = .ok (.iaload, 1) := by decide +kernel
theorem dL_law_477 : decode cL_law 477 = .ok (.aload_n 0, 1) := by decide +kernel
theorem dL_law_478 : decode cL_law 478 = .ok (.iload_n 3, 1) := by decide +kernel
theorem dL_law_479 : decode cL_law 479 = .ok (.iconst 2, 1) := by decide +kernel
theorem dL_law_480 : decode cL_law 480 = .ok (.iadd, 1) := by decide +kernel
theorem dL_law_481 : decode cL_law 481 = .ok (.iaload, 1) := by decide +kernel
theorem dL_law_482 : decode cL_law 482 = .ok (.aload_n 0, 1) := by decide +kernel
theorem dL_law_483 : decode cL_law 483 = .ok (.iload_n 3, 1) := by decide +kernel
theorem dL_law_484 : decode cL_law 484 = .ok (.iconst 3, 1) := by decide +kernel
theorem dL_law_485 : decode cL_law 485 = .ok (.iadd, 1) := by decide +kernel
theorem dL_law_486 : decode cL_law 486 = .ok (.iaload, 1) := by decide +kernel
theorem dL_law_487 : decode cL_law 487 = .ok (.invokevirtual 62, 3) := by decide +kernel
theorem dL_law_490 : decode cL_law 490 = .ok (.aload_n 2, 1) := by decide +kernel
theorem dL_law_491 : decode cL_law 491 = .ok (.aload_n 0, 1) := by decide +kernel
theorem dL_law_492 : decode cL_law 492 = .ok (.iload_n 3, 1) := by decide +kernel
theorem dL_law_493 : decode cL_law 493 = .ok (.iconst 1, 1) := by decide +kernel
theorem dL_law_494 : decode cL_law 494 = .ok (.iadd, 1) := by decide +kernel
theorem dL_law_495 : decode cL_law 495 = .ok (.iaload, 1) := by decide +kernel
theorem dL_law_496 : decode cL_law 496 = .ok (.aload_n 0, 1) := by decide +kernel
theorem dL_law_497 : decode cL_law 497 = .ok (.iload_n 3, 1) := by decide +kernel
theorem dL_law_498 : decode cL_law 498 = .ok (.iconst 2, 1) := by decide +kernel
theorem dL_law_499 : decode cL_law 499 = .ok (.iadd, 1) := by decide +kernel
theorem dL_law_500 : decode cL_law 500 = .ok (.iaload, 1) := by decide +kernel
theorem dL_law_501 : decode cL_law 501 = .ok (.aload_n 0, 1) := by decide +kernel
theorem dL_law_502 : decode cL_law 502 = .ok (.iload_n 3, 1) := by decide +kernel
theorem dL_law_503 : decode cL_law 503 = .ok (.iconst 3, 1) := by decide +kernel
theorem dL_law_504 : decode cL_law 504 = .ok (.iadd, 1) := by decide +kernel
theorem dL_law_505 : decode cL_law 505 = .ok (.iaload, 1) := by decide +kernel
theorem dL_law_506 : decode cL_law 506 = .ok (.invokevirtual 66, 3) := by decide +kernel
theorem dL_law_509 : decode cL_law 509 = .ok (.if_icmp .eq 170, 3) := by decide +kernel
theorem dL_law_512 : decode cL_law 512 = .ok (.iconst 0, 1) := by decide +kernel
theorem dL_law_513 : decode cL_law 513 = .ok (.ireturn, 1) := by decide +kernel
theorem dL_law_514 : decode cL_law 514 = .ok (.aload_n 1, 1) := by decide +kernel
theorem dL_law_515 : decode cL_law 515 = .ok (.aload_n 0, 1) := by decide +kernel
theorem dL_law_516 : decode cL_law 516 = .ok (.iload_n 3, 1) := by decide +kernel
theorem dL_law_517 : decode cL_law 517 = .ok (.iconst 1, 1) := by decide +kernel
theorem dL_law_518 : decode cL_law 518 = .ok (.iadd, 1) := by decide +kernel
theorem dL_law_519 : decode cL_law 519 = .ok (.iaload, 1) := by decide +kernel
theorem dL_law_520 : decode cL_law 520 = .ok (.aload_n 0, 1) := by decide +kernel
theorem dL_law_521 : decode cL_law 521 = .ok (.iload_n 3, 1) := by decide +kernel
theorem dL_law_522 : decode cL_law 522 = .ok (.iconst 2, 1) := by decide +kernel
theorem dL_law_523 : decode cL_law 523 = .ok (.iadd, 1) := by decide +kernel
theorem dL_law_524 : decode cL_law 524 = .ok (.iaload, 1) := by decide +kernel
theorem dL_law_525 : decode cL_law 525 = .ok (.aload_n 0, 1) := by decide +kernel
theorem dL_law_526 : decode cL_law 526 = .ok (.iload_n 3, 1) := by decide +kernel
theorem dL_law_527 : decode cL_law 527 = .ok (.iconst 3, 1) := by decide +kernel
theorem dL_law_528 : decode cL_law 528 = .ok (.iadd, 1) := by decide +kernel
theorem dL_law_529 : decode cL_law 529 = .ok (.iaload, 1) := by decide +kernel
theorem dL_law_530 : decode cL_law 530 = .ok (.invokevirtual 67, 3) := by decide +kernel
theorem dL_law_533 : decode cL_law 533 = .ok (.aload_n 2, 1) := by decide +kernel
theorem dL_law_534 : decode cL_law 534 = .ok (.aload_n 0, 1) := by decide +kernel
theorem dL_law_535 : decode cL_law 535 = .ok (.iload_n 3, 1) := by decide +kernel
theorem dL_law_536 : decode cL_law 536 = .ok (.iconst 1, 1) := by decide +kernel
theorem dL_law_537 : decode cL_law 537 = .ok (.iadd, 1) := by decide +kernel
theorem dL_law_538 : decode cL_law 538 = .ok (.iaload, 1) := by decide +kernel
theorem dL_law_539 : decode cL_law 539 = .ok (.aload_n 0, 1) := by decide +kernel
theorem dL_law_540 : decode cL_law 540 = .ok (.iload_n 3, 1) := by decide +kernel
theorem dL_law_541 : decode cL_law 541 = .ok (.iconst 2, 1) := by decide +kernel
theorem dL_law_542 : decode cL_law 542 = .ok (.iadd, 1) := by decide +kernel
theorem dL_law_543 : decode cL_law 543 = .ok (.iaload, 1) := by decide +kernel
theorem dL_law_544 : decode cL_law 544 = .ok (.aload_n 0, 1) := by decide +kernel
theorem dL_law_545 : decode cL_law 545 = .ok (.iload_n 3, 1) := by decide +kernel
theorem dL_law_546 : decode cL_law 546 = .ok (.iconst 3, 1) := by decide +kernel
theorem dL_law_547 : decode cL_law 547 = .ok (.iadd, 1) := by decide +kernel
theorem dL_law_548 : decode cL_law 548 = .ok (.iaload, 1) := by decide +kernel
theorem dL_law_549 : decode cL_law 549 = .ok (.invokevirtual 70, 3) := by decide +kernel
theorem dL_law_552 : decode cL_law 552 = .ok (.if_icmp .eq 127, 3) := by decide +kernel
theorem dL_law_555 : decode cL_law 555 = .ok (.iconst 0, 1) := by decide +kernel
theorem dL_law_556 : decode cL_law 556 = .ok (.ireturn, 1) := by decide +kernel
theorem dL_law_557 : decode cL_law 557 = .ok (.aload_n 1, 1) := by decide +kernel
theorem dL_law_558 : decode cL_law 558 = .ok (.aload_n 0, 1) := by decide +kernel
theorem dL_law_559 : decode cL_law 559 = .ok (.iload_n 3, 1) := by decide +kernel
theorem dL_law_560 : decode cL_law 560 = .ok (.iconst 1, 1) := by decide +kernel
theorem dL_law_561 : decode cL_law 561 = .ok (.iadd, 1) := by decide +kernel
theorem dL_law_562 : decode cL_law 562 = .ok (.iaload, 1) := by decide +kernel
theorem dL_law_563 : decode cL_law 563 = .ok (.aload_n 0, 1) := by decide +kernel
theorem dL_law_564 : decode cL_law 564 = .ok (.iload_n 3, 1) := by decide +kernel
theorem dL_law_565 : decode cL_law 565 = .ok (.iconst 2, 1) := by decide +kernel
theorem dL_law_566 : decode cL_law 566 = .ok (.iadd, 1) := by decide +kernel
theorem dL_law_567 : decode cL_law 567 = .ok (.iaload, 1) := by decide +kernel
theorem dL_law_568 : decode cL_law 568 = .ok (.invokevirtual 71, 3) := by decide +kernel
theorem dL_law_571 : decode cL_law 571 = .ok (.aload_n 2, 1) := by decide +kernel
theorem dL_law_572 : decode cL_law 572 = .ok (.aload_n 0, 1) := by decide +kernel
theorem dL_law_573 : decode cL_law 573 = .ok (.iload_n 3, 1) := by decide +kernel
theorem dL_law_574 : decode cL_law 574 = .ok (.iconst 1, 1) := by decide +kernel
theorem dL_law_575 : decode cL_law 575 = .ok (.iadd, 1) := by decide +kernel
theorem dL_law_576 : decode cL_law 576 = .ok (.iaload, 1) := by decide +kernel
theorem dL_law_577 : decode cL_law 577 = .ok (.aload_n 0, 1) := by decide +kernel
theorem dL_law_578 : decode cL_law 578 = .ok (.iload_n 3, 1) := by decide +kernel
theorem dL_law_579 : decode cL_law 579 = .ok (.iconst 2, 1) := by decide +kernel
theorem dL_law_580 : decode cL_law 580 = .ok (.iadd, 1) := by decide +kernel
theorem dL_law_581 : decode cL_law 581 = .ok (.iaload, 1) := by decide +kernel
theorem dL_law_582 : decode cL_law 582 = .ok (.invokevirtual 74, 3) := by decide +kernel
theorem dL_law_585 : decode cL_law 585 = .ok (.if_icmp .eq 94, 3) := by decide +kernel
theorem dL_law_588 : decode cL_law 588 = .ok (.iconst 0, 1) := by decide +kernel
theorem dL_law_589 : decode cL_law 589 = .ok (.ireturn, 1) := by decide +kernel
theorem dL_law_590 : decode cL_law 590 = .ok (.aload_n 1, 1) := by decide +kernel
theorem dL_law_591 : decode cL_law 591 = .ok (.aload_n 0, 1) := by decide +kernel
theorem dL_law_592 : decode cL_law 592 = .ok (.iload_n 3, 1) := by decide +kernel
theorem dL_law_593 : decode cL_law 593 = .ok (.iconst 1, 1) := by decide +kernel
theorem dL_law_594 : decode cL_law 594 = .ok (.iadd, 1) := by decide +kernel
theorem dL_law_595 : decode cL_law 595 = .ok (.iaload, 1) := by decide +kernel
theorem dL_law_596 : decode cL_law 596 = .ok (.aload_n 0, 1) := by decide +kernel
theorem dL_law_597 : decode cL_law 597 = .ok (.iload_n 3, 1) := by decide +kernel
theorem dL_law_598 : decode cL_law 598 = .ok (.iconst 2, 1) := by decide +kernel
theorem dL_law_599 : decode cL_law 599 = .ok (.iadd, 1) := by decide +kernel
theorem dL_law_600 : decode cL_law 600 = .ok (.iaload, 1) := by decide +kernel
theorem dL_law_601 : decode cL_law 601 = .ok (.aload_n 0, 1) := by decide +kernel
theorem dL_law_602 : decode cL_law 602 = .ok (.iload_n 3, 1) := by decide +kernel
theorem dL_law_603 : decode cL_law 603 = .ok (.iconst 3, 1) := by decide +kernel
theorem dL_law_604 : decode cL_law 604 = .ok (.iadd, 1) := by decide +kernel
theorem dL_law_605 : decode cL_law 605 = .ok (.iaload, 1) := by decide +kernel
theorem dL_law_606 : decode cL_law 606 = .ok (.invokevirtual 75, 3) := by decide +kernel
theorem dL_law_609 : decode cL_law 609 = .ok (.aload_n 2, 1) := by decide +kernel
theorem dL_law_610 : decode cL_law 610 = .ok (.aload_n 0, 1) := by decide +kernel
theorem dL_law_611 : decode cL_law 611 = .ok (.iload_n 3, 1) := by decide +kernel
theorem dL_law_612 : decode cL_law 612 = .ok (.iconst 1, 1) := by decide +kernel
theorem dL_law_613 : decode cL_law 613 = .ok (.iadd, 1) := by decide +kernel
theorem dL_law_614 : decode cL_law 614 = .ok (.iaload, 1) := by decide +kernel
theorem dL_law_615 : decode cL_law 615 = .ok (.aload_n 0, 1) := by decide +kernel
theorem dL_law_616 : decode cL_law 616 = .ok (.iload_n 3, 1) := by decide +kernel
theorem dL_law_617 : decode cL_law 617 = .ok (.iconst 2, 1) := by decide +kernel
theorem dL_law_618 : decode cL_law 618 = .ok (.iadd, 1) := by decide +kernel
theorem dL_law_619 : decode cL_law 619 = .ok (.iaload, 1) := by decide +kernel
theorem dL_law_620 : decode cL_law 620 = .ok (.aload_n 0, 1) := by decide +kernel
theorem dL_law_621 : decode cL_law 621 = .ok (.iload_n 3, 1) := by decide +kernel
theorem dL_law_622 : decode cL_law 622 = .ok (.iconst 3, 1) := by decide +kernel
theorem dL_law_623 : decode cL_law 623 = .ok (.iadd, 1) := by decide +kernel
theorem dL_law_624 : decode cL_law 624 = .ok (.iaload, 1) := by decide +kernel
theorem dL_law_625 : decode cL_law 625 = .ok (.invokevirtual 78, 3) := by decide +kernel
theorem dL_law_628 : decode cL_law 628 = .ok (.if_icmp .eq 51, 3) := by decide +kernel
theorem dL_law_631 : decode cL_law 631 = .ok (.iconst 0, 1) := by decide +kernel
theorem dL_law_632 : decode cL_law 632 = .ok (.ireturn, 1) := by decide +kernel
theorem dL_law_633 : decode cL_law 633 = .ok (.aload_n 1, 1) := by decide +kernel
theorem dL_law_634 : decode cL_law 634 = .ok (.aload_n 0, 1) := by decide +kernel
theorem dL_law_635 : decode cL_law 635 = .ok (.iload_n 3, 1) := by decide +kernel
theorem dL_law_636 : decode cL_law 636 = .ok (.iconst 1, 1) := by decide +kernel
theorem dL_law_637 : decode cL_law 637 = .ok (.iadd, 1) := by decide +kernel
theorem dL_law_638 : decode cL_law 638 = .ok (.iaload, 1) := by decide +kernel
theorem dL_law_639 : decode cL_law 639 = .ok (.invokevirtual 79, 3) := by decide +kernel
theorem dL_law_642 : decode cL_law 642 = .ok (.aload_n 2, 1) := by decide +kernel
theorem dL_law_643 : decode cL_law 643 = .ok (.aload_n 0, 1) := by decide +kernel
theorem dL_law_644 : decode cL_law 644 = .ok (.iload_n 3, 1) := by decide +kernel
theorem dL_law_645 : decode cL_law 645 = .ok (.iconst 1, 1) := by decide +kernel
theorem dL_law_646 : decode cL_law 646 = .ok (.iadd, 1) := by decide +kernel
theorem dL_law_647 : decode cL_law 647 = .ok (.iaload, 1) := by decide +kernel
theorem dL_law_648 : decode cL_law 648 = .ok (.invokevirtual 82, 3) := by decide +kernel
theorem dL_law_651 : decode cL_law 651 = .ok (.if_icmp .eq 28, 3) := by decide +kernel
theorem dL_law_654 : decode cL_law 654 = .ok (.iconst 0, 1) := by decide +kernel
theorem dL_law_655 : decode cL_law 655 = .ok (.ireturn, 1) := by decide +kernel
theorem dL_law_656 : decode cL_law 656 = .ok (.aload_n 1, 1) := by decide +kernel
theorem dL_law_657 : decode cL_law 657 = .ok (.aload_n 0, 1) := by decide +kernel
theorem dL_law_658 : decode cL_law 658 = .ok (.iload_n 3, 1) := by decide +kernel
theorem dL_law_659 : decode cL_law 659 = .ok (.iconst 1, 1) := by decide +kernel
theorem dL_law_660 : decode cL_law 660 = .ok (.iadd, 1) := by decide +kernel
theorem dL_law_661 : decode cL_law 661 = .ok (.iaload, 1) := by decide +kernel
theorem dL_law_662 : decode cL_law 662 = .ok (.invokevirtual 83, 3) := by decide +kernel
theorem dL_law_665 : decode cL_law 665 = .ok (.aload_n 2, 1) := by decide +kernel
theorem dL_law_666 : decode cL_law 666 = .ok (.aload_n 0, 1) := by decide +kernel
theorem dL_law_667 : decode cL_law 667 = .ok (.iload_n 3, 1) := by decide +kernel
theorem dL_law_668 : decode cL_law 668 = .ok (.iconst 1, 1) := by decide +kernel
theorem dL_law_669 : decode cL_law 669 = .ok (.iadd, 1) := by decide +kernel
theorem dL_law_670 : decode cL_law 670 = .ok (.iaload, 1) := by decide +kernel
theorem dL_law_671 : decode cL_law 671 = .ok (.invokevirtual 86, 3) := by decide +kernel
theorem dL_law_674 : decode cL_law 674 = .ok (.if_icmp .eq 5, 3) := by decide +kernel
theorem dL_law_677 : decode cL_law 677 = .ok (.iconst 0, 1) := by decide +kernel
theorem dL_law_678 : decode cL_law 678 = .ok (.ireturn, 1) := by decide +kernel
theorem dL_law_679 : decode cL_law 679 = .ok (.iinc 3 7, 3) := by decide +kernel
theorem dL_law_682 : decode cL_law 682 = .ok (.goto (-664), 3) := by decide +kernel
theorem dL_law_685 : decode cL_law 685 = .ok (.iconst 1, 1) := by decide +kernel
theorem dL_law_686 : decode cL_law 686 = .ok (.ireturn, 1) := by decide +kernel
