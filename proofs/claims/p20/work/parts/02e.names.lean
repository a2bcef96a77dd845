set_option maxRecDepth 20000 in
theorem ggX5_after_X5_scoreAll : GoodIn wsX5_after wsX5_scoreAll := goodIn_r _ [21, 3, 22, 2, 23, 24, 25, 26, 27, 28, 29, 30, 31, 32, 33, 6, 34, 35, 36, 37, 38, 39, 40, 41, 42, 11, 43, 13, 44, 45, 46, 47, 14, 48, 49, 15, 16, 17, 50, 51, 52, 53, 54, 55, 56, 57, 58, 59, 60, 61, 62, 63, 64, 65, 66, 67, 68, 69, 70, 71, 80, 81, 82, 83, 84, 85, 86, 87, 88, 89, 96, 97, 98, 99, 90, 91, 92, 93, 94, 95] (by decide +kernel) (by decide +kernel)
set_option maxRecDepth 20000 in
theorem gX5_after_X5_scoreAll : GoodIn wsX5_after (wsV RX5 190 RX5 yX5_scoreAll wsX5_scoreAll) := goodIn_app (goodIn_of _ (by decide +kernel)) ggX5_after_X5_scoreAll
set_option maxRecDepth 20000 in
theorem ggX5_after_X5_keyOf : GoodIn wsX5_after wsX5_keyOf := goodIn_r _ [75, 3, 22, 76, 33, 6, 34, 35, 36, 37, 26, 38, 39, 80, 81, 82, 83, 84, 85, 86, 87, 88, 89, 96, 97, 98, 99] (by decide +kernel) (by decide +kernel)
set_option maxRecDepth 20000 in
theorem gX5_after_X5_keyOf : GoodIn wsX5_after (wsV RX5 199 RX5 yX5_keyOf wsX5_keyOf) := goodIn_app (goodIn_of _ (by decide +kernel)) ggX5_after_X5_keyOf
set_option maxRecDepth 20000 in
theorem ggX5_after_X5_isBehind : GoodIn wsX5_after wsX5_isBehind := goodIn_r _ [79] (by decide +kernel) (by decide +kernel)
set_option maxRecDepth 20000 in
theorem gX5_after_X5_isBehind : GoodIn wsX5_after (va_wsS RX5 202 yX5_isBehind wsX5_isBehind) := goodIn_app (goodIn_of _ (by decide +kernel)) ggX5_after_X5_isBehind
theorem dX5_after_0 : decode cX5_after 0 = .ok (.aload_n 0, 1) := by decide +kernel
theorem dX5_after_1 : decode cX5_after 1 = .ok (.getfield 58, 3) := by decide +kernel
theorem dX5_after_4 : decode cX5_after 4 = .ok (.ifCond .eq 6, 3) := by decide +kernel
theorem dX5_after_7 : decode cX5_after 7 = .ok (.bipush (-4), 2) := by decide +kernel
theorem dX5_after_9 : decode cX5_after 9 = .ok (.ireturn, 1) := by decide +kernel
theorem dX5_after_10 : decode cX5_after 10 = .ok (.iload_n 1, 1) := by decide +kernel
theorem dX5_after_11 : decode cX5_after 11 = .ok (.invokestatic 184, 3) := by decide +kernel
theorem dX5_after_14 : decode cX5_after 14 = .ok (.ifCond .eq 13, 3) := by decide +kernel
theorem dX5_after_17 : decode cX5_after 17 = .ok (.aload_n 0, 1) := by decide +kernel
theorem dX5_after_18 : decode cX5_after 18 = .ok (.getfield 36, 3) := by decide +kernel
theorem dX5_after_21 : decode cX5_after 21 = .ok (.invokevirtual 187, 3) := by decide +kernel
theorem dX5_after_24 : decode cX5_after 24 = .ok (.ifCond .ne 5, 3) := by decide +kernel
theorem dX5_after_27 : decode cX5_after 27 = .ok (.iconst (-1), 1) := by decide +kernel
theorem dX5_after_28 : decode cX5_after 28 = .ok (.ireturn, 1) := by decide +kernel
theorem dX5_after_29 : decode cX5_after 29 = .ok (.aload_n 0, 1) := by decide +kernel
theorem dX5_after_30 : decode cX5_after 30 = .ok (.invokevirtual 190, 3) := by decide +kernel
theorem dX5_after_33 : decode cX5_after 33 = .ok (.iconst (-1), 1) := by decide +kernel
theorem dX5_after_34 : decode cX5_after 34 = .ok (.istore 4, 2) := by decide +kernel
theorem dX5_after_36 : decode cX5_after 36 = .ok (.iconst 0, 1) := by decide +kernel
theorem dX5_after_37 : decode cX5_after 37 = .ok (.istore 5, 2) := by decide +kernel
theorem dX5_after_39 : decode cX5_after 39 = .ok (.iload 5, 2) := by decide +kernel
theorem dX5_after_41 : decode cX5_after 41 = .ok (.bipush 16, 2) := by decide +kernel
theorem dX5_after_43 : decode cX5_after 43 = .ok (.if_icmp .ge 71, 3) := by decide +kernel
theorem dX5_after_46 : decode cX5_after 46 = .ok (.aload_n 0, 1) := by decide +kernel
theorem dX5_after_47 : decode cX5_after 47 = .ok (.getfield 47, 3) := by decide +kernel
theorem dX5_after_50 : decode cX5_after 50 = .ok (.iload 5, 2) := by decide +kernel
theorem dX5_after_52 : decode cX5_after 52 = .ok (.iaload, 1) := by decide +kernel
theorem dX5_after_53 : decode cX5_after 53 = .ok (.ifCond .lt 55, 3) := by decide +kernel
theorem dX5_after_56 : decode cX5_after 56 = .ok (.iload_n 1, 1) := by decide +kernel
theorem dX5_after_57 : decode cX5_after 57 = .ok (.aload_n 0, 1) := by decide +kernel
theorem dX5_after_58 : decode cX5_after 58 = .ok (.iload_n 1, 1) := by decide +kernel
theorem dX5_after_59 : decode cX5_after 59 = .ok (.iload 5, 2) := by decide +kernel
theorem dX5_after_61 : decode cX5_after 61 = .ok (.invokevirtual 199, 3) := by decide +kernel
theorem dX5_after_64 : decode cX5_after 64 = .ok (.iload 5, 2) := by decide +kernel
theorem dX5_after_66 : decode cX5_after 66 = .ok (.iload_n 2, 1) := by decide +kernel
theorem dX5_after_67 : decode cX5_after 67 = .ok (.iload_n 3, 1) := by decide +kernel
theorem dX5_after_68 : decode cX5_after 68 = .ok (.invokestatic 202, 3) := by decide +kernel
theorem dX5_after_71 : decode cX5_after 71 = .ok (.ifCond .eq 37, 3) := by decide +kernel
theorem dX5_after_74 : decode cX5_after 74 = .ok (.iload 4, 2) := by decide +kernel
theorem dX5_after_76 : decode cX5_after 76 = .ok (.ifCond .lt 28, 3) := by decide +kernel
theorem dX5_after_79 : decode cX5_after 79 = .ok (.iload_n 1, 1) := by decide +kernel
theorem dX5_after_80 : decode cX5_after 80 = .ok (.aload_n 0, 1) := by decide +kernel
theorem dX5_after_81 : decode cX5_after 81 = .ok (.iload_n 1, 1) := by decide +kernel
theorem dX5_after_82 : decode cX5_after 82 = .ok (.iload 4, 2) := by decide +kernel
theorem dX5_after_84 : decode cX5_after 84 = .ok (.invokevirtual 199, 3) := by decide +kernel
theorem dX5_after_87 : decode cX5_after 87 = .ok (.iload 4, 2) := by decide +kernel
theorem dX5_after_89 : decode cX5_after 89 = .ok (.aload_n 0, 1) := by decide +kernel
theorem dX5_after_90 : decode cX5_after 90 = .ok (.iload_n 1, 1) := by decide +kernel
theorem dX5_after_91 : decode cX5_after 91 = .ok (.iload 5, 2) := by decide +kernel
theorem dX5_after_93 : decode cX5_after 93 = .ok (.invokevirtual 199, 3) := by decide +kernel
theorem dX5_after_96 : decode cX5_after 96 = .ok (.iload 5, 2) := by decide +kernel
theorem dX5_after_98 : decode cX5_after 98 = .ok (.invokestatic 202, 3) := by decide +kernel
theorem dX5_after_101 : decode cX5_after 101 = .ok (.ifCond .eq 7, 3) := by decide +kernel
theorem dX5_after_104 : decode cX5_after 104 = .ok (.iload 5, 2) := by decide +kernel
theorem dX5_after_106 : decode cX5_after 106 = .ok (.istore 4, 2) := by decide +kernel
theorem dX5_after_108 : decode cX5_after 108 = .ok (.iinc 5 1, 3) := by decide +kernel
theorem dX5_after_111 : decode cX5_after 111 = .ok (.goto (-72), 3) := by decide +kernel
theorem dX5_after_114 : decode cX5_after 114 = .ok (.iload 4, 2) := by decide +kernel
theorem dX5_after_116 : decode cX5_after 116 = .ok (.ireturn, 1) := by decide +kernel
set_option maxRecDepth 20000 in
theorem ggX5_score_X5_isId : GoodIn wsX5_score wsX5_isId := goodIn_r _ [7] (by decide +kernel) (by decide +kernel)
set_option maxRecDepth 20000 in
theorem gX5_score_X5_isId : GoodIn wsX5_score (va_wsS RX5 62 yX5_isId wsX5_isId) := goodIn_app (goodIn_of _ (by decide +kernel)) ggX5_score_X5_isId
set_option maxRecDepth 20000 in
theorem ggX5_score_X4_isWhole : GoodIn wsX5_score wsX4_isWhole := goodIn_r _ [12, 13, 14, 15, 16, 11, 17, 80, 81, 82, 83, 84, 85] (by decide +kernel) (by decide +kernel)
set_option maxRecDepth 20000 in
theorem gX5_score_X4_isWhole : GoodIn wsX5_score (wsV RX5 187 RX4 yX4_isWhole wsX4_isWhole) := goodIn_app (goodIn_of _ (by decide +kernel)) ggX5_score_X4_isWhole
set_option maxRecDepth 20000 in
theorem ggX5_score_X5_scoreAll : GoodIn wsX5_score wsX5_scoreAll := goodIn_r _ [21, 3, 22, 2, 23, 24, 25, 26, 27, 28, 29, 30, 31, 32, 5, 6, 7, 33, 34, 35, 36, 37, 38, 39, 40, 11, 41, 13, 42, 43, 44, 45, 14, 46, 47, 15, 16, 17, 48, 49, 50, 51, 52, 53, 54, 55, 56, 57, 58, 59, 60, 61, 62, 63, 64, 65, 66, 67, 68, 69, 70, 71, 72, 73, 74, 75, 76, 77, 78, 79, 86, 87, 88, 89, 80, 81, 82, 83, 84, 85] (by decide +kernel) (by decide +kernel)
set_option maxRecDepth 20000 in
theorem gX5_score_X5_scoreAll : GoodIn wsX5_score (wsV RX5 190 RX5 yX5_scoreAll wsX5_scoreAll) := goodIn_app (goodIn_of _ (by decide +kernel)) ggX5_score_X5_scoreAll
theorem dX5_score_0 : decode cX5_score 0 = .ok (.aload_n 0, 1) := by decide +kernel
theorem dX5_score_1 : decode cX5_score 1 = .ok (.getfield 58, 3) := by decide +kernel
theorem dX5_score_4 : decode cX5_score 4 = .ok (.ifCond .eq 6, 3) := by decide +kernel
theorem dX5_score_7 : decode cX5_score 7 = .ok (.bipush (-4), 2) := by decide +kernel
theorem dX5_score_9 : decode cX5_score 9 = .ok (.ireturn, 1) := by decide +kernel
theorem dX5_score_10 : decode cX5_score 10 = .ok (.iload_n 1, 1) := by decide +kernel
theorem dX5_score_11 : decode cX5_score 11 = .ok (.invokestatic 62, 3) := by decide +kernel
theorem dX5_score_14 : decode cX5_score 14 = .ok (.ifCond .eq 13, 3) := by decide +kernel
theorem dX5_score_17 : decode cX5_score 17 = .ok (.aload_n 0, 1) := by decide +kernel
theorem dX5_score_18 : decode cX5_score 18 = .ok (.getfield 36, 3) := by decide +kernel
theorem dX5_score_21 : decode cX5_score 21 = .ok (.invokevirtual 187, 3) := by decide +kernel
theorem dX5_score_24 : decode cX5_score 24 = .ok (.ifCond .ne 5, 3) := by decide +kernel
theorem dX5_score_27 : decode cX5_score 27 = .ok (.iconst (-1), 1) := by decide +kernel
theorem dX5_score_28 : decode cX5_score 28 = .ok (.ireturn, 1) := by decide +kernel
theorem dX5_score_29 : decode cX5_score 29 = .ok (.aload_n 0, 1) := by decide +kernel
theorem dX5_score_30 : decode cX5_score 30 = .ok (.invokevirtual 190, 3) := by decide +kernel
theorem dX5_score_33 : decode cX5_score 33 = .ok (.aload_n 0, 1) := by decide +kernel
theorem dX5_score_34 : decode cX5_score 34 = .ok (.getfield 47, 3) := by decide +kernel
theorem dX5_score_37 : decode cX5_score 37 = .ok (.iload_n 1, 1) := by decide +kernel
theorem dX5_score_38 : decode cX5_score 38 = .ok (.iaload, 1) := by decide +kernel
theorem dX5_score_39 : decode cX5_score 39 = .ok (.ifCond .lt 12, 3) := by decide +kernel
theorem dX5_score_42 : decode cX5_score 42 = .ok (.aload_n 0, 1) := by decide +kernel
theorem dX5_score_43 : decode cX5_score 43 = .ok (.getfield 47, 3) := by decide +kernel
theorem dX5_score_46 : decode cX5_score 46 = .ok (.iload_n 1, 1) := by decide +kernel
theorem dX5_score_47 : decode cX5_score 47 = .ok (.iaload, 1) := by decide +kernel
theorem dX5_score_48 : decode cX5_score 48 = .ok (.goto 4, 3) := by decide +kernel
theorem dX5_score_51 : decode cX5_score 51 = .ok (.iconst (-1), 1) := by decide +kernel
theorem dX5_score_52 : decode cX5_score 52 = .ok (.ireturn, 1) := by decide +kernel
set_option maxRecDepth 20000 in
theorem ggX5_info_X2_count : GoodIn wsX5_info wsX2_count := goodIn_r _ [16, 17, 18, 58, 59, 60, 61, 62, 63] (by decide +kernel) (by decide +kernel)
set_option maxRecDepth 20000 in
theorem gX5_info_X2_count : GoodIn wsX5_info (wsV RX5 134 RX2 yX2_count wsX2_count) := goodIn_app (goodIn_of _ (by decide +kernel)) ggX5_info_X2_count
set_option maxRecDepth 20000 in
theorem ggX5_info_X2_lengthOf : GoodIn wsX5_info wsX2_lengthOf := goodIn_r _ [22, 23, 24, 25, 15, 26, 58, 59, 60, 61, 62, 63] (by decide +kernel) (by decide +kernel)
set_option maxRecDepth 20000 in
theorem gX5_info_X2_lengthOf : GoodIn wsX5_info (wsV RX5 206 RX2 yX2_lengthOf wsX2_lengthOf) := goodIn_app (goodIn_of _ (by decide +kernel)) ggX5_info_X2_lengthOf
set_option maxRecDepth 20000 in
theorem ggX5_info_X0_count : GoodIn wsX5_info wsX0_count := goodIn_r _ [31, 32, 33, 34, 30, 35, 36, 37, 38, 39, 40, 41, 42, 43, 64, 65, 66, 67] (by decide +kernel) (by decide +kernel)
set_option maxRecDepth 20000 in
theorem gX5_info_X0_count : GoodIn wsX5_info (wsV RX5 131 RX0 yX0_count wsX0_count) := goodIn_app (goodIn_of _ (by decide +kernel)) ggX5_info_X0_count
theorem dX5_info_0 : decode cX5_info 0 = .ok (.iload_n 1, 1) := by decide +kernel
theorem dX5_info_1 : decode cX5_info 1 = .ok (.tableswitch 200 0 10 #[59, 78, 97, 113, 121, 129, 144, 152, 165, 173, 181], 59) := by decide +kernel
theorem dX5_info_60 : decode cX5_info 60 = .ok (.aload_n 0, 1) := by decide +kernel
theorem dX5_info_61 : decode cX5_info 61 = .ok (.getfield 58, 3) := by decide +kernel
theorem dX5_info_64 : decode cX5_info 64 = .ok (.ifCond .eq 7, 3) := by decide +kernel
theorem dX5_info_67 : decode cX5_info 67 = .ok (.iconst (-1), 1) := by decide +kernel
theorem dX5_info_68 : decode cX5_info 68 = .ok (.goto 10, 3) := by decide +kernel
theorem dX5_info_71 : decode cX5_info 71 = .ok (.aload_n 0, 1) := by decide +kernel
theorem dX5_info_72 : decode cX5_info 72 = .ok (.getfield 10, 3) := by decide +kernel
theorem dX5_info_75 : decode cX5_info 75 = .ok (.getfield 70, 3) := by decide +kernel
theorem dX5_info_78 : decode cX5_info 78 = .ok (.ireturn, 1) := by decide +kernel
theorem dX5_info_79 : decode cX5_info 79 = .ok (.aload_n 0, 1) := by decide +kernel
theorem dX5_info_80 : decode cX5_info 80 = .ok (.getfield 58, 3) := by decide +kernel
theorem dX5_info_83 : decode cX5_info 83 = .ok (.ifCond .eq 7, 3) := by decide +kernel
theorem dX5_info_86 : decode cX5_info 86 = .ok (.iconst (-1), 1) := by decide +kernel
theorem dX5_info_87 : decode cX5_info 87 = .ok (.goto 10, 3) := by decide +kernel
theorem dX5_info_90 : decode cX5_info 90 = .ok (.aload_n 0, 1) := by decide +kernel
theorem dX5_info_91 : decode cX5_info 91 = .ok (.getfield 10, 3) := by decide +kernel
theorem dX5_info_94 : decode cX5_info 94 = .ok (.getfield 81, 3) := by decide +kernel
theorem dX5_info_97 : decode cX5_info 97 = .ok (.ireturn, 1) := by decide +kernel
theorem dX5_info_98 : decode cX5_info 98 = .ok (.aload_n 0, 1) := by decide +kernel
theorem dX5_info_99 : decode cX5_info 99 = .ok (.getfield 58, 3) := by decide +kernel
theorem dX5_info_102 : decode cX5_info 102 = .ok (.ifCond .eq 7, 3) := by decide +kernel
theorem dX5_info_105 : decode cX5_info 105 = .ok (.iconst (-1), 1) := by decide +kernel
theorem dX5_info_106 : decode cX5_info 106 = .ok (.goto 7, 3) := by decide +kernel
theorem dX5_info_109 : decode cX5_info 109 = .ok (.aload_n 0, 1) := by decide +kernel
theorem dX5_info_110 : decode cX5_info 110 = .ok (.getfield 51, 3) := by decide +kernel
theorem dX5_info_113 : decode cX5_info 113 = .ok (.ireturn, 1) := by decide +kernel
theorem dX5_info_114 : decode cX5_info 114 = .ok (.aload_n 0, 1) := by decide +kernel
theorem dX5_info_115 : decode cX5_info 115 = .ok (.getfield 29, 3) := by decide +kernel
theorem dX5_info_118 : decode cX5_info 118 = .ok (.invokevirtual 134, 3) := by decide +kernel
theorem dX5_info_121 : decode cX5_info 121 = .ok (.ireturn, 1) := by decide +kernel
theorem dX5_info_122 : decode cX5_info 122 = .ok (.aload_n 0, 1) := by decide +kernel
theorem dX5_info_123 : decode cX5_info 123 = .ok (.getfield 29, 3) := by decide +kernel
theorem dX5_info_126 : decode cX5_info 126 = .ok (.getfield 151, 3) := by decide +kernel
theorem dX5_info_129 : decode cX5_info 129 = .ok (.ireturn, 1) := by decide +kernel
theorem dX5_info_130 : decode cX5_info 130 = .ok (.aload_n 0, 1) := by decide +kernel
theorem dX5_info_131 : decode cX5_info 131 = .ok (.getfield 29, 3) := by decide +kernel
theorem dX5_info_134 : decode cX5_info 134 = .ok (.aload_n 0, 1) := by decide +kernel
theorem dX5_info_135 : decode cX5_info 135 = .ok (.getfield 29, 3) := by decide +kernel
theorem dX5_info_138 : decode cX5_info 138 = .ok (.getfield 141, 3) := by decide +kernel
theorem dX5_info_141 : decode cX5_info 141 = .ok (.invokevirtual 206, 3) := by decide +kernel
theorem dX5_info_144 : decode cX5_info 144 = .ok (.ireturn, 1) := by decide +kernel
theorem dX5_info_145 : decode cX5_info 145 = .ok (.aload_n 0, 1) := by decide +kernel
theorem dX5_info_146 : decode cX5_info 146 = .ok (.getfield 29, 3) := by decide +kernel
theorem dX5_info_149 : decode cX5_info 149 = .ok (.getfield 157, 3) := by decide +kernel
theorem dX5_info_152 : decode cX5_info 152 = .ok (.ireturn, 1) := by decide +kernel
theorem dX5_info_153 : decode cX5_info 153 = .ok (.aload_n 0, 1) := by decide +kernel
theorem dX5_info_154 : decode cX5_info 154 = .ok (.getfield 58, 3) := by decide +kernel
theorem dX5_info_157 : decode cX5_info 157 = .ok (.ifCond .eq 7, 3) := by decide +kernel
theorem dX5_info_160 : decode cX5_info 160 = .ok (.iconst 1, 1) := by decide +kernel
theorem dX5_info_161 : decode cX5_info 161 = .ok (.goto 4, 3) := by decide +kernel
theorem dX5_info_164 : decode cX5_info 164 = .ok (.iconst 0, 1) := by decide +kernel
theorem dX5_info_165 : decode cX5_info 165 = .ok (.ireturn, 1) := by decide +kernel
theorem dX5_info_166 : decode cX5_info 166 = .ok (.aload_n 0, 1) := by decide +kernel
theorem dX5_info_167 : decode cX5_info 167 = .ok (.getfield 16, 3) := by decide +kernel
theorem dX5_info_170 : decode cX5_info 170 = .ok (.getfield 81, 3) := by decide +kernel
theorem dX5_info_173 : decode cX5_info 173 = .ok (.ireturn, 1) := by decide +kernel
theorem dX5_info_174 : decode cX5_info 174 = .ok (.aload_n 0, 1) := by decide +kernel
theorem dX5_info_175 : decode cX5_info 175 = .ok (.getfield 16, 3) := by decide +kernel
theorem dX5_info_178 : decode cX5_info 178 = .ok (.getfield 70, 3) := by decide +kernel
theorem dX5_info_181 : decode cX5_info 181 = .ok (.ireturn, 1) := by decide +kernel
theorem dX5_info_182 : decode cX5_info 182 = .ok (.aload_n 0, 1) := by decide +kernel
theorem dX5_info_183 : decode cX5_info 183 = .ok (.getfield 58, 3) := by decide +kernel
theorem dX5_info_186 : decode cX5_info 186 = .ok (.ifCond .eq 7, 3) := by decide +kernel
theorem dX5_info_189 : decode cX5_info 189 = .ok (.iconst 0, 1) := by decide +kernel
theorem dX5_info_190 : decode cX5_info 190 = .ok (.goto 10, 3) := by decide +kernel
theorem dX5_info_193 : decode cX5_info 193 = .ok (.aload_n 0, 1) := by decide +kernel
theorem dX5_info_194 : decode cX5_info 194 = .ok (.getfield 22, 3) := by decide +kernel
theorem dX5_info_197 : decode cX5_info 197 = .ok (.invokevirtual 131, 3) := by decide +kernel
theorem dX5_info_200 : decode cX5_info 200 = .ok (.ireturn, 1) := by decide +kernel
theorem dX5_info_201 : decode cX5_info 201 = .ok (.iconst (-1), 1) := by decide +kernel
theorem dX5_info_202 : decode cX5_info 202 = .ok (.ireturn, 1) := by decide +kernel
theorem dX5_isId_0 : decode cX5_isId 0 = .ok (.iload_n 0, 1) := by decide +kernel
theorem dX5_isId_1 : decode cX5_isId 1 = .ok (.ifCond .lt 13, 3) := by decide +kernel
theorem dX5_isId_4 : decode cX5_isId 4 = .ok (.iload_n 0, 1) := by decide +kernel
theorem dX5_isId_5 : decode cX5_isId 5 = .ok (.bipush 16, 2) := by decide +kernel
theorem dX5_isId_7 : decode cX5_isId 7 = .ok (.if_icmp .ge 7, 3) := by decide +kernel
theorem dX5_isId_10 : decode cX5_isId 10 = .ok (.iconst 1, 1) := by decide +kernel
theorem dX5_isId_11 : decode cX5_isId 11 = .ok (.goto 4, 3) := by decide +kernel
theorem dX5_isId_14 : decode cX5_isId 14 = .ok (.iconst 0, 1) := by decide +kernel
theorem dX5_isId_15 : decode cX5_isId 15 = .ok (.ireturn, 1) := by decide +kernel
theorem dX5_isWord_0 : decode cX5_isWord 0 = .ok (.iload_n 0, 1) := by decide +kernel
theorem dX5_isWord_1 : decode cX5_isWord 1 = .ok (.iconst 1, 1) := by decide +kernel
theorem dX5_isWord_2 : decode cX5_isWord 2 = .ok (.if_icmp .lt 13, 3) := by decide +kernel
theorem dX5_isWord_5 : decode cX5_isWord 5 = .ok (.iload_n 0, 1) := by decide +kernel
theorem dX5_isWord_6 : decode cX5_isWord 6 = .ok (.bipush 15, 2) := by decide +kernel
theorem dX5_isWord_8 : decode cX5_isWord 8 = .ok (.if_icmp .gt 7, 3) := by decide +kernel
theorem dX5_isWord_11 : decode cX5_isWord 11 = .ok (.iconst 1, 1) := by decide +kernel
theorem dX5_isWord_12 : decode cX5_isWord 12 = .ok (.goto 4, 3) := by decide +kernel
theorem dX5_isWord_15 : decode cX5_isWord 15 = .ok (.iconst 0, 1) := by decide +kernel
theorem dX5_isWord_16 : decode cX5_isWord 16 = .ok (.ireturn, 1) := by decide +kernel
theorem dX5_isSort_0 : decode cX5_isSort 0 = .ok (.iload_n 0, 1) := by decide +kernel
theorem dX5_isSort_1 : decode cX5_isSort 1 = .ok (.ifCond .lt 12, 3) := by decide +kernel
theorem dX5_isSort_4 : decode cX5_isSort 4 = .ok (.iload_n 0, 1) := by decide +kernel
theorem dX5_isSort_5 : decode cX5_isSort 5 = .ok (.iconst 2, 1) := by decide +kernel
theorem dX5_isSort_6 : decode cX5_isSort 6 = .ok (.if_icmp .gt 7, 3) := by decide +kernel
theorem dX5_isSort_9 : decode cX5_isSort 9 = .ok (.iconst 1, 1) := by decide +kernel
theorem dX5_isSort_10 : decode cX5_isSort 10 = .ok (.goto 4, 3) := by decide +kernel
theorem dX5_isSort_13 : decode cX5_isSort 13 = .ok (.iconst 0, 1) := by decide +kernel
theorem dX5_isSort_14 : decode cX5_isSort 14 = .ok (.ireturn, 1) := by decide +kernel
theorem dX5_sizeOf_0 : decode cX5_sizeOf 0 = .ok (.iload_n 0, 1) := by decide +kernel
theorem dX5_sizeOf_1 : decode cX5_sizeOf 1 = .ok (.tableswitch 36 1 3 #[27, 30, 33], 27) := by decide +kernel
theorem dX5_sizeOf_28 : decode cX5_sizeOf 28 = .ok (.bipush 19, 2) := by decide +kernel
theorem dX5_sizeOf_30 : decode cX5_sizeOf 30 = .ok (.ireturn, 1) := by decide +kernel
theorem dX5_sizeOf_31 : decode cX5_sizeOf 31 = .ok (.bipush 11, 2) := by decide +kernel
theorem dX5_sizeOf_33 : decode cX5_sizeOf 33 = .ok (.ireturn, 1) := by decide +kernel
theorem dX5_sizeOf_34 : decode cX5_sizeOf 34 = .ok (.bipush 8, 2) := by decide +kernel
theorem dX5_sizeOf_36 : decode cX5_sizeOf 36 = .ok (.ireturn, 1) := by decide +kernel
theorem dX5_sizeOf_37 : decode cX5_sizeOf 37 = .ok (.iconst 0, 1) := by decide +kernel
theorem dX5_sizeOf_38 : decode cX5_sizeOf 38 = .ok (.ireturn, 1) := by decide +kernel
set_option maxRecDepth 20000 in
theorem ggX5_holds_X0_isDocument : GoodIn wsX5_holds wsX0_isDocument := goodIn_r _ [7, 8, 9, 10, 6, 11, 12, 13, 14, 15, 35, 36, 37, 38] (by decide +kernel) (by decide +kernel)
set_option maxRecDepth 20000 in
theorem gX5_holds_X0_isDocument : GoodIn wsX5_holds (wsV RX5 120 RX0 yX0_isDocument wsX0_isDocument) := goodIn_app (goodIn_of _ (by decide +kernel)) ggX5_holds_X0_isDocument
set_option maxRecDepth 20000 in
theorem ggX5_holds_X0_seqOf : GoodIn wsX5_holds wsX0_seqOf := goodIn_r _ [19, 20, 13, 14, 15, 35, 36, 37, 38] (by decide +kernel) (by decide +kernel)
set_option maxRecDepth 20000 in
theorem gX5_holds_X0_seqOf : GoodIn wsX5_holds (wsV RX5 117 RX0 yX0_seqOf wsX0_seqOf) := goodIn_app (goodIn_of _ (by decide +kernel)) ggX5_holds_X0_seqOf
theorem dX5_holds_0 : decode cX5_holds 0 = .ok (.iload_n 2, 1) := by decide +kernel
theorem dX5_holds_1 : decode cX5_holds 1 = .ok (.iconst (-1), 1) := by decide +kernel
theorem dX5_holds_2 : decode cX5_holds 2 = .ok (.if_icmp .ne 5, 3) := by decide +kernel
theorem dX5_holds_5 : decode cX5_holds 5 = .ok (.iconst 1, 1) := by decide +kernel
theorem dX5_holds_6 : decode cX5_holds 6 = .ok (.ireturn, 1) := by decide +kernel
theorem dX5_holds_7 : decode cX5_holds 7 = .ok (.iload_n 2, 1) := by decide +kernel
theorem dX5_holds_8 : decode cX5_holds 8 = .ok (.bipush (-2), 2) := by decide +kernel
theorem dX5_holds_10 : decode cX5_holds 10 = .ok (.if_icmp .ne 23, 3) := by decide +kernel
theorem dX5_holds_13 : decode cX5_holds 13 = .ok (.aload_n 0, 1) := by decide +kernel
theorem dX5_holds_14 : decode cX5_holds 14 = .ok (.getfield 10, 3) := by decide +kernel
theorem dX5_holds_17 : decode cX5_holds 17 = .ok (.getfield 84, 3) := by decide +kernel
theorem dX5_holds_20 : decode cX5_holds 20 = .ok (.iload_n 1, 1) := by decide +kernel
theorem dX5_holds_21 : decode cX5_holds 21 = .ok (.invokevirtual 120, 3) := by decide +kernel
theorem dX5_holds_24 : decode cX5_holds 24 = .ok (.ifCond .ne 7, 3) := by decide +kernel
theorem dX5_holds_27 : decode cX5_holds 27 = .ok (.iconst 1, 1) := by decide +kernel
theorem dX5_holds_28 : decode cX5_holds 28 = .ok (.goto 4, 3) := by decide +kernel
theorem dX5_holds_31 : decode cX5_holds 31 = .ok (.iconst 0, 1) := by decide +kernel
theorem dX5_holds_32 : decode cX5_holds 32 = .ok (.ireturn, 1) := by decide +kernel
theorem dX5_holds_33 : decode cX5_holds 33 = .ok (.aload_n 0, 1) := by decide +kernel
theorem dX5_holds_34 : decode cX5_holds 34 = .ok (.getfield 10, 3) := by decide +kernel
theorem dX5_holds_37 : decode cX5_holds 37 = .ok (.getfield 84, 3) := by decide +kernel
theorem dX5_holds_40 : decode cX5_holds 40 = .ok (.iload_n 1, 1) := by decide +kernel
theorem dX5_holds_41 : decode cX5_holds 41 = .ok (.invokevirtual 120, 3) := by decide +kernel
theorem dX5_holds_44 : decode cX5_holds 44 = .ok (.ifCond .eq 22, 3) := by decide +kernel
theorem dX5_holds_47 : decode cX5_holds 47 = .ok (.aload_n 0, 1) := by decide +kernel
theorem dX5_holds_48 : decode cX5_holds 48 = .ok (.getfield 10, 3) := by decide +kernel
theorem dX5_holds_51 : decode cX5_holds 51 = .ok (.getfield 84, 3) := by decide +kernel
theorem dX5_holds_54 : decode cX5_holds 54 = .ok (.iload_n 1, 1) := by decide +kernel
theorem dX5_holds_55 : decode cX5_holds 55 = .ok (.invokevirtual 117, 3) := by decide +kernel
theorem dX5_holds_58 : decode cX5_holds 58 = .ok (.iload_n 2, 1) := by decide +kernel
theorem dX5_holds_59 : decode cX5_holds 59 = .ok (.if_icmp .ne 7, 3) := by decide +kernel
theorem dX5_holds_62 : decode cX5_holds 62 = .ok (.iconst 1, 1) := by decide +kernel
theorem dX5_holds_63 : decode cX5_holds 63 = .ok (.goto 4, 3) := by decide +kernel
theorem dX5_holds_66 : decode cX5_holds 66 = .ok (.iconst 0, 1) := by decide +kernel
theorem dX5_holds_67 : decode cX5_holds 67 = .ok (.ireturn, 1) := by decide +kernel
set_option maxRecDepth 20000 in
theorem ggX5_append_X2_append : GoodIn wsX5_append wsX2_append := goodIn_r _ [8, 9, 10, 11, 12, 13, 14, 15, 16, 17, 7, 18, 19, 20, 21, 22, 23, 24, 25, 26, 27, 28, 29, 30, 31, 32, 33, 34, 35, 36, 37, 38, 39, 40, 41, 42, 43, 44, 45, 46, 47, 48, 90, 91, 92, 93, 94, 95, 96, 97, 98, 99, 100] (by decide +kernel) (by decide +kernel)
set_option maxRecDepth 20000 in
theorem gX5_append_X2_append : GoodIn wsX5_append (wsV RX5 209 RX2 yX2_append wsX2_append) := goodIn_app (goodIn_of _ (by decide +kernel)) ggX5_append_X2_append
set_option maxRecDepth 20000 in
theorem ggX5_append_X1_process : GoodIn wsX5_append wsX1_process := goodIn_r _ [53, 54, 55, 56, 57, 58, 52, 59, 60, 61, 62, 63, 46, 47, 48, 64, 65, 66, 67, 68, 69, 70, 71, 72, 73, 74, 75, 76, 77, 78, 24, 79, 96, 97, 98, 99, 100, 101, 102, 103, 104, 105, 106, 107, 108] (by decide +kernel) (by decide +kernel)
set_option maxRecDepth 20000 in
theorem gX5_append_X1_process : GoodIn wsX5_append (wsV RX5 212 RX1 yX1_process wsX1_process) := goodIn_app (goodIn_of _ (by decide +kernel)) ggX5_append_X1_process
theorem dX5_append_0 : decode cX5_append 0 = .ok (.aload_n 0, 1) := by decide +kernel
theorem dX5_append_1 : decode cX5_append 1 = .ok (.getfield 29, 3) := by decide +kernel
theorem dX5_append_4 : decode cX5_append 4 = .ok (.aload_n 0, 1) := by decide +kernel
theorem dX5_append_5 : decode cX5_append 5 = .ok (.getfield 43, 3) := by decide +kernel
theorem dX5_append_8 : decode cX5_append 8 = .ok (.invokevirtual 209, 3) := by decide +kernel
theorem dX5_append_11 : decode cX5_append 11 = .ok (.aload_n 0, 1) := by decide +kernel
theorem dX5_append_12 : decode cX5_append 12 = .ok (.getfield 10, 3) := by decide +kernel
theorem dX5_append_15 : decode cX5_append 15 = .ok (.aload_n 0, 1) := by decide +kernel
theorem dX5_append_16 : decode cX5_append 16 = .ok (.getfield 43, 3) := by decide +kernel
theorem dX5_append_19 : decode cX5_append 19 = .ok (.invokevirtual 212, 3) := by decide +kernel
theorem dX5_append_22 : decode cX5_append 22 = .ok (.ireturn, 1) := by decide +kernel
set_option maxRecDepth 20000 in
theorem ggX5_replayGeneration_X2_lengthOf : GoodIn wsX5_replayGeneration wsX2_lengthOf := goodIn_r _ [11, 12, 13, 14, 10, 15, 121, 122, 123, 124, 125, 126] (by decide +kernel) (by decide +kernel)
set_option maxRecDepth 20000 in
theorem gX5_replayGeneration_X2_lengthOf : GoodIn wsX5_replayGeneration (wsV RX5 206 RX2 yX2_lengthOf wsX2_lengthOf) := goodIn_app (goodIn_of _ (by decide +kernel)) ggX5_replayGeneration_X2_lengthOf
set_option maxRecDepth 20000 in
theorem ggX5_replayGeneration_X2_forgetSeqs : GoodIn wsX5_replayGeneration wsX2_forgetSeqs := goodIn_r _ [19, 20, 13, 14, 10, 15, 121, 122, 123, 124, 125, 126] (by decide +kernel) (by decide +kernel)
set_option maxRecDepth 20000 in
theorem gX5_replayGeneration_X2_forgetSeqs : GoodIn wsX5_replayGeneration (wsV RX5 216 RX2 yX2_forgetSeqs wsX2_forgetSeqs) := goodIn_app (goodIn_of _ (by decide +kernel)) ggX5_replayGeneration_X2_forgetSeqs
set_option maxRecDepth 20000 in
theorem ggX5_replayGeneration_X2_read : GoodIn wsX5_replayGeneration wsX2_read := goodIn_r _ [24, 25, 8, 9, 10, 11, 12, 13, 14, 15, 26, 27, 28, 29, 30, 31, 32, 33, 34, 35, 36, 37, 38, 39, 40, 41, 42, 43, 44, 45, 46, 47, 48, 49, 50, 51, 52, 53, 54, 121, 122, 123, 124, 125, 126, 112, 113, 114, 115, 116] (by decide +kernel) (by decide +kernel)
set_option maxRecDepth 20000 in
theorem gX5_replayGeneration_X2_read : GoodIn wsX5_replayGeneration (wsV RX5 219 RX2 yX2_read wsX2_read) := goodIn_app (goodIn_of _ (by decide +kernel)) ggX5_replayGeneration_X2_read
set_option maxRecDepth 20000 in
theorem ggX5_replayGeneration_X2_syncedOf : GoodIn wsX5_replayGeneration wsX2_syncedOf := goodIn_r _ [58, 59, 60, 25, 8, 9, 10, 11, 12, 13, 14, 15, 121, 122, 123, 124, 125, 126] (by decide +kernel) (by decide +kernel)
set_option maxRecDepth 20000 in
theorem gX5_replayGeneration_X2_syncedOf : GoodIn wsX5_replayGeneration (wsV RX5 226 RX2 yX2_syncedOf wsX2_syncedOf) := goodIn_app (goodIn_of _ (by decide +kernel)) ggX5_replayGeneration_X2_syncedOf
set_option maxRecDepth 20000 in
theorem ggX5_replayGeneration_X2_noteSeq : GoodIn wsX5_replayGeneration wsX2_noteSeq := goodIn_r _ [64, 20, 65, 66, 67, 68, 13, 14, 10, 15, 121, 122, 123, 124, 125, 126] (by decide +kernel) (by decide +kernel)
set_option maxRecDepth 20000 in
theorem gX5_replayGeneration_X2_noteSeq : GoodIn wsX5_replayGeneration (wsV RX5 229 RX2 yX2_noteSeq wsX2_noteSeq) := goodIn_app (goodIn_of _ (by decide +kernel)) ggX5_replayGeneration_X2_noteSeq
set_option maxRecDepth 20000 in
theorem ggX5_replayGeneration_X1_isProcessed : GoodIn wsX5_replayGeneration wsX1_isProcessed := goodIn_r _ [73, 74, 75, 117, 118, 119, 120] (by decide +kernel) (by decide +kernel)
set_option maxRecDepth 20000 in
theorem gX5_replayGeneration_X1_isProcessed : GoodIn wsX5_replayGeneration (wsV RX5 100 RX1 yX1_isProcessed wsX1_isProcessed) := goodIn_app (goodIn_of _ (by decide +kernel)) ggX5_replayGeneration_X1_isProcessed
set_option maxRecDepth 20000 in
theorem ggX5_replayGeneration_X1_process : GoodIn wsX5_replayGeneration wsX1_process := goodIn_r _ [79, 80, 81, 82, 83, 84, 72, 85, 74, 75, 86, 87, 66, 67, 68, 88, 89, 90, 91, 92, 93, 94, 95, 96, 97, 98, 99, 100, 101, 43, 32, 44, 112, 113, 114, 115, 116, 117, 118, 119, 120, 127, 128, 129, 130] (by decide +kernel) (by decide +kernel)
set_option maxRecDepth 20000 in
theorem gX5_replayGeneration_X1_process : GoodIn wsX5_replayGeneration (wsV RX5 212 RX1 yX1_process wsX1_process) := goodIn_app (goodIn_of _ (by decide +kernel)) ggX5_replayGeneration_X1_process
theorem dX5_replayGeneration_0 : decode cX5_replayGeneration 0 = .ok (.iconst 0, 1) := by decide +kernel
theorem dX5_replayGeneration_1 : decode cX5_replayGeneration 1 = .ok (.istore_n 3, 1) := by decide +kernel
theorem dX5_replayGeneration_2 : decode cX5_replayGeneration 2 = .ok (.aload_n 0, 1) := by decide +kernel
theorem dX5_replayGeneration_3 : decode cX5_replayGeneration 3 = .ok (.getfield 29, 3) := by decide +kernel
theorem dX5_replayGeneration_6 : decode cX5_replayGeneration 6 = .ok (.iload_n 1, 1) := by decide +kernel
theorem dX5_replayGeneration_7 : decode cX5_replayGeneration 7 = .ok (.invokevirtual 206, 3) := by decide +kernel
theorem dX5_replayGeneration_10 : decode cX5_replayGeneration 10 = .ok (.istore 4, 2) := by decide +kernel
theorem dX5_replayGeneration_12 : decode cX5_replayGeneration 12 = .ok (.aload_n 0, 1) := by decide +kernel
theorem dX5_replayGeneration_13 : decode cX5_replayGeneration 13 = .ok (.getfield 29, 3) := by decide +kernel
theorem dX5_replayGeneration_16 : decode cX5_replayGeneration 16 = .ok (.iload_n 1, 1) := by decide +kernel
theorem dX5_replayGeneration_17 : decode cX5_replayGeneration 17 = .ok (.invokevirtual 216, 3) := by decide +kernel
theorem dX5_replayGeneration_20 : decode cX5_replayGeneration 20 = .ok (.iconst 0, 1) := by decide +kernel
theorem dX5_replayGeneration_21 : decode cX5_replayGeneration 21 = .ok (.istore 5, 2) := by decide +kernel
theorem dX5_replayGeneration_23 : decode cX5_replayGeneration 23 = .ok (.iload 5, 2) := by decide +kernel
theorem dX5_replayGeneration_25 : decode cX5_replayGeneration 25 = .ok (.sipush 240, 3) := by decide +kernel
theorem dX5_replayGeneration_28 : decode cX5_replayGeneration 28 = .ok (.if_icmp .ge 148, 3) := by decide +kernel
theorem dX5_replayGeneration_31 : decode cX5_replayGeneration 31 = .ok (.iload_n 3, 1) := by decide +kernel
theorem dX5_replayGeneration_32 : decode cX5_replayGeneration 32 = .ok (.iload 4, 2) := by decide +kernel
theorem dX5_replayGeneration_34 : decode cX5_replayGeneration 34 = .ok (.if_icmp .ge 142, 3) := by decide +kernel
theorem dX5_replayGeneration_37 : decode cX5_replayGeneration 37 = .ok (.aload_n 0, 1) := by decide +kernel
theorem dX5_replayGeneration_38 : decode cX5_replayGeneration 38 = .ok (.getfield 29, 3) := by decide +kernel
theorem dX5_replayGeneration_41 : decode cX5_replayGeneration 41 = .ok (.iload_n 1, 1) := by decide +kernel
theorem dX5_replayGeneration_42 : decode cX5_replayGeneration 42 = .ok (.iload_n 3, 1) := by decide +kernel
theorem dX5_replayGeneration_43 : decode cX5_replayGeneration 43 = .ok (.aload_n 0, 1) := by decide +kernel
theorem dX5_replayGeneration_44 : decode cX5_replayGeneration 44 = .ok (.getfield 43, 3) := by decide +kernel
theorem dX5_replayGeneration_47 : decode cX5_replayGeneration 47 = .ok (.invokevirtual 219, 3) := by decide +kernel
theorem dX5_replayGeneration_50 : decode cX5_replayGeneration 50 = .ok (.istore 6, 2) := by decide +kernel
theorem dX5_replayGeneration_52 : decode cX5_replayGeneration 52 = .ok (.iload 6, 2) := by decide +kernel
theorem dX5_replayGeneration_54 : decode cX5_replayGeneration 54 = .ok (.ifCond .eq 23, 3) := by decide +kernel
theorem dX5_replayGeneration_57 : decode cX5_replayGeneration 57 = .ok (.aload_n 0, 1) := by decide +kernel
theorem dX5_replayGeneration_58 : decode cX5_replayGeneration 58 = .ok (.getfield 43, 3) := by decide +kernel
theorem dX5_replayGeneration_61 : decode cX5_replayGeneration 61 = .ok (.getfield 223, 3) := by decide +kernel
theorem dX5_replayGeneration_64 : decode cX5_replayGeneration 64 = .ok (.aload_n 0, 1) := by decide +kernel
theorem dX5_replayGeneration_65 : decode cX5_replayGeneration 65 = .ok (.getfield 10, 3) := by decide +kernel
theorem dX5_replayGeneration_68 : decode cX5_replayGeneration 68 = .ok (.getfield 81, 3) := by decide +kernel
theorem dX5_replayGeneration_71 : decode cX5_replayGeneration 71 = .ok (.bipush 64, 2) := by decide +kernel
theorem dX5_replayGeneration_73 : decode cX5_replayGeneration 73 = .ok (.iadd, 1) := by decide +kernel
theorem dX5_replayGeneration_74 : decode cX5_replayGeneration 74 = .ok (.if_icmp .le 22, 3) := by decide +kernel
theorem dX5_replayGeneration_77 : decode cX5_replayGeneration 77 = .ok (.iload_n 3, 1) := by decide +kernel
theorem dX5_replayGeneration_78 : decode cX5_replayGeneration 78 = .ok (.aload_n 0, 1) := by decide +kernel
theorem dX5_replayGeneration_79 : decode cX5_replayGeneration 79 = .ok (.getfield 29, 3) := by decide +kernel
theorem dX5_replayGeneration_82 : decode cX5_replayGeneration 82 = .ok (.iload_n 1, 1) := by decide +kernel
theorem dX5_replayGeneration_83 : decode cX5_replayGeneration 83 = .ok (.invokevirtual 226, 3) := by decide +kernel
theorem dX5_replayGeneration_86 : decode cX5_replayGeneration 86 = .ok (.if_icmp .ge 8, 3) := by decide +kernel
theorem dX5_replayGeneration_89 : decode cX5_replayGeneration 89 = .ok (.bipush (-5), 2) := by decide +kernel
theorem dX5_replayGeneration_91 : decode cX5_replayGeneration 91 = .ok (.goto 4, 3) := by decide +kernel
theorem dX5_replayGeneration_94 : decode cX5_replayGeneration 94 = .ok (.iload_n 3, 1) := by decide +kernel
theorem dX5_replayGeneration_95 : decode cX5_replayGeneration 95 = .ok (.ireturn, 1) := by decide +kernel
theorem dX5_replayGeneration_96 : decode cX5_replayGeneration 96 = .ok (.aload_n 0, 1) := by decide +kernel
theorem dX5_replayGeneration_97 : decode cX5_replayGeneration 97 = .ok (.getfield 29, 3) := by decide +kernel
theorem dX5_replayGeneration_100 : decode cX5_replayGeneration 100 = .ok (.iload_n 1, 1) := by decide +kernel
theorem dX5_replayGeneration_101 : decode cX5_replayGeneration 101 = .ok (.aload_n 0, 1) := by decide +kernel
theorem dX5_replayGeneration_102 : decode cX5_replayGeneration 102 = .ok (.getfield 43, 3) := by decide +kernel
theorem dX5_replayGeneration_105 : decode cX5_replayGeneration 105 = .ok (.getfield 223, 3) := by decide +kernel
theorem dX5_replayGeneration_108 : decode cX5_replayGeneration 108 = .ok (.invokevirtual 229, 3) := by decide +kernel
theorem dX5_replayGeneration_111 : decode cX5_replayGeneration 111 = .ok (.aload_n 0, 1) := by decide +kernel
theorem dX5_replayGeneration_112 : decode cX5_replayGeneration 112 = .ok (.getfield 10, 3) := by decide +kernel
theorem dX5_replayGeneration_115 : decode cX5_replayGeneration 115 = .ok (.aload_n 0, 1) := by decide +kernel
theorem dX5_replayGeneration_116 : decode cX5_replayGeneration 116 = .ok (.getfield 43, 3) := by decide +kernel
theorem dX5_replayGeneration_119 : decode cX5_replayGeneration 119 = .ok (.getfield 223, 3) := by decide +kernel
theorem dX5_replayGeneration_122 : decode cX5_replayGeneration 122 = .ok (.invokevirtual 100, 3) := by decide +kernel
theorem dX5_replayGeneration_125 : decode cX5_replayGeneration 125 = .ok (.ifCond .ne 40, 3) := by decide +kernel
theorem dX5_replayGeneration_128 : decode cX5_replayGeneration 128 = .ok (.iload_n 2, 1) := by decide +kernel
theorem dX5_replayGeneration_129 : decode cX5_replayGeneration 129 = .ok (.ifCond .lt 14, 3) := by decide +kernel
theorem dX5_replayGeneration_132 : decode cX5_replayGeneration 132 = .ok (.aload_n 0, 1) := by decide +kernel
theorem dX5_replayGeneration_133 : decode cX5_replayGeneration 133 = .ok (.getfield 55, 3) := by decide +kernel
theorem dX5_replayGeneration_136 : decode cX5_replayGeneration 136 = .ok (.iload_n 2, 1) := by decide +kernel
theorem dX5_replayGeneration_137 : decode cX5_replayGeneration 137 = .ok (.if_icmp .lt 6, 3) := by decide +kernel
theorem dX5_replayGeneration_140 : decode cX5_replayGeneration 140 = .ok (.bipush (-4), 2) := by decide +kernel
theorem dX5_replayGeneration_142 : decode cX5_replayGeneration 142 = .ok (.ireturn, 1) := by decide +kernel
theorem dX5_replayGeneration_143 : decode cX5_replayGeneration 143 = .ok (.aload_n 0, 1) := by decide +kernel
theorem dX5_replayGeneration_144 : decode cX5_replayGeneration 144 = .ok (.getfield 10, 3) := by decide +kernel
theorem dX5_replayGeneration_147 : decode cX5_replayGeneration 147 = .ok (.aload_n 0, 1) := by decide +kernel
theorem dX5_replayGeneration_148 : decode cX5_replayGeneration 148 = .ok (.getfield 43, 3) := by decide +kernel
theorem dX5_replayGeneration_151 : decode cX5_replayGeneration 151 = .ok (.invokevirtual 212, 3) := by decide +kernel
theorem dX5_replayGeneration_154 : decode cX5_replayGeneration 154 = .ok (.pop, 1) := by decide +kernel
theorem dX5_replayGeneration_155 : decode cX5_replayGeneration 155 = .ok (.aload_n 0, 1) := by decide +kernel
theorem dX5_replayGeneration_156 : decode cX5_replayGeneration 156 = .ok (.dup, 1) := by decide +kernel
theorem dX5_replayGeneration_157 : decode cX5_replayGeneration 157 = .ok (.getfield 55, 3) := by decide +kernel
theorem dX5_replayGeneration_160 : decode cX5_replayGeneration 160 = .ok (.iconst 1, 1) := by decide +kernel
theorem dX5_replayGeneration_161 : decode cX5_replayGeneration 161 = .ok (.iadd, 1) := by decide +kernel
theorem dX5_replayGeneration_162 : decode cX5_replayGeneration 162 = .ok (.putfield 55, 3) := by decide +kernel
theorem dX5_replayGeneration_165 : decode cX5_replayGeneration 165 = .ok (.iload_n 3, 1) := by decide +kernel
theorem dX5_replayGeneration_166 : decode cX5_replayGeneration 166 = .ok (.iload 6, 2) := by decide +kernel
theorem dX5_replayGeneration_168 : decode cX5_replayGeneration 168 = .ok (.iadd, 1) := by decide +kernel
theorem dX5_replayGeneration_169 : decode cX5_replayGeneration 169 = .ok (.istore_n 3, 1) := by decide +kernel
theorem dX5_replayGeneration_170 : decode cX5_replayGeneration 170 = .ok (.iinc 5 1, 3) := by decide +kernel
theorem dX5_replayGeneration_173 : decode cX5_replayGeneration 173 = .ok (.goto (-150), 3) := by decide +kernel
theorem dX5_replayGeneration_176 : decode cX5_replayGeneration 176 = .ok (.iload_n 3, 1) := by decide +kernel
theorem dX5_replayGeneration_177 : decode cX5_replayGeneration 177 = .ok (.ireturn, 1) := by decide +kernel
set_option maxRecDepth 20000 in
theorem ggX5_scoreAll_X0_isDocument : GoodIn wsX5_scoreAll wsX0_isDocument := goodIn_r _ [8, 9, 10, 11, 7, 12, 13, 14, 15, 16, 70, 71, 72, 73] (by decide +kernel) (by decide +kernel)
set_option maxRecDepth 20000 in
theorem gX5_scoreAll_X0_isDocument : GoodIn wsX5_scoreAll (wsV RX5 120 RX0 yX0_isDocument wsX0_isDocument) := goodIn_app (goodIn_of _ (by decide +kernel)) ggX5_scoreAll_X0_isDocument
set_option maxRecDepth 20000 in
theorem ggX5_scoreAll_X0_sourceOf : GoodIn wsX5_scoreAll wsX0_sourceOf := goodIn_r _ [20, 21, 14, 15, 16, 70, 71, 72, 73] (by decide +kernel) (by decide +kernel)
set_option maxRecDepth 20000 in
theorem gX5_scoreAll_X0_sourceOf : GoodIn wsX5_scoreAll (wsV RX5 110 RX0 yX0_sourceOf wsX0_sourceOf) := goodIn_app (goodIn_of _ (by decide +kernel)) ggX5_scoreAll_X0_sourceOf
set_option maxRecDepth 20000 in
theorem ggX5_scoreAll_X4_scoreOf : GoodIn wsX5_scoreAll wsX4_scoreOf := goodIn_r _ [26, 27, 28, 29, 30, 31, 32, 33, 34, 35, 36, 25, 37, 38, 39, 40, 41, 42, 43, 44, 45, 46, 47, 48, 49, 50, 51, 52, 53, 54, 55, 56, 57, 58, 59, 74, 75, 76, 77, 78, 79] (by decide +kernel) (by decide +kernel)
set_option maxRecDepth 20000 in
theorem gX5_scoreAll_X4_scoreOf : GoodIn wsX5_scoreAll (wsV RX5 233 RX4 yX4_scoreOf wsX4_scoreOf) := goodIn_app (goodIn_of _ (by decide +kernel)) ggX5_scoreAll_X4_scoreOf
theorem dX5_scoreAll_0 : decode cX5_scoreAll 0 = .ok (.iconst 0, 1) := by decide +kernel
theorem dX5_scoreAll_1 : decode cX5_scoreAll 1 = .ok (.istore_n 1, 1) := by decide +kernel
theorem dX5_scoreAll_2 : decode cX5_scoreAll 2 = .ok (.iload_n 1, 1) := by decide +kernel
theorem dX5_scoreAll_3 : decode cX5_scoreAll 3 = .ok (.bipush 16, 2) := by decide +kernel
theorem dX5_scoreAll_5 : decode cX5_scoreAll 5 = .ok (.if_icmp .ge 45, 3) := by decide +kernel
theorem dX5_scoreAll_8 : decode cX5_scoreAll 8 = .ok (.aload_n 0, 1) := by decide +kernel
theorem dX5_scoreAll_9 : decode cX5_scoreAll 9 = .ok (.getfield 47, 3) := by decide +kernel
theorem dX5_scoreAll_12 : decode cX5_scoreAll 12 = .ok (.iload_n 1, 1) := by decide +kernel
theorem dX5_scoreAll_13 : decode cX5_scoreAll 13 = .ok (.aload_n 0, 1) := by decide +kernel
theorem dX5_scoreAll_14 : decode cX5_scoreAll 14 = .ok (.getfield 22, 3) := by decide +kernel
theorem dX5_scoreAll_17 : decode cX5_scoreAll 17 = .ok (.iload_n 1, 1) := by decide +kernel
theorem dX5_scoreAll_18 : decode cX5_scoreAll 18 = .ok (.invokevirtual 120, 3) := by decide +kernel
theorem dX5_scoreAll_21 : decode cX5_scoreAll 21 = .ok (.ifCond .eq 21, 3) := by decide +kernel
theorem dX5_scoreAll_24 : decode cX5_scoreAll 24 = .ok (.aload_n 0, 1) := by decide +kernel
theorem dX5_scoreAll_25 : decode cX5_scoreAll 25 = .ok (.getfield 36, 3) := by decide +kernel
theorem dX5_scoreAll_28 : decode cX5_scoreAll 28 = .ok (.aload_n 0, 1) := by decide +kernel
theorem dX5_scoreAll_29 : decode cX5_scoreAll 29 = .ok (.getfield 22, 3) := by decide +kernel
theorem dX5_scoreAll_32 : decode cX5_scoreAll 32 = .ok (.iload_n 1, 1) := by decide +kernel
theorem dX5_scoreAll_33 : decode cX5_scoreAll 33 = .ok (.invokevirtual 110, 3) := by decide +kernel
theorem dX5_scoreAll_36 : decode cX5_scoreAll 36 = .ok (.invokevirtual 233, 3) := by decide +kernel
theorem dX5_scoreAll_39 : decode cX5_scoreAll 39 = .ok (.goto 4, 3) := by decide +kernel
theorem dX5_scoreAll_42 : decode cX5_scoreAll 42 = .ok (.iconst (-1), 1) := by decide +kernel
theorem dX5_scoreAll_43 : decode cX5_scoreAll 43 = .ok (.iastore, 1) := by decide +kernel
theorem dX5_scoreAll_44 : decode cX5_scoreAll 44 = .ok (.iinc 1 1, 3) := by decide +kernel
theorem dX5_scoreAll_47 : decode cX5_scoreAll 47 = .ok (.goto (-45), 3) := by decide +kernel
theorem dX5_scoreAll_50 : decode cX5_scoreAll 50 = .ok (.return_, 1) := by decide +kernel
theorem dX5_countMatches_0 : decode cX5_countMatches 0 = .ok (.iconst 0, 1) := by decide +kernel
theorem dX5_countMatches_1 : decode cX5_countMatches 1 = .ok (.istore_n 1, 1) := by decide +kernel
theorem dX5_countMatches_2 : decode cX5_countMatches 2 = .ok (.iconst 0, 1) := by decide +kernel
theorem dX5_countMatches_3 : decode cX5_countMatches 3 = .ok (.istore_n 2, 1) := by decide +kernel
theorem dX5_countMatches_4 : decode cX5_countMatches 4 = .ok (.iload_n 2, 1) := by decide +kernel
theorem dX5_countMatches_5 : decode cX5_countMatches 5 = .ok (.bipush 16, 2) := by decide +kernel
theorem dX5_countMatches_7 : decode cX5_countMatches 7 = .ok (.if_icmp .ge 21, 3) := by decide +kernel
theorem dX5_countMatches_10 : decode cX5_countMatches 10 = .ok (.aload_n 0, 1) := by decide +kernel
theorem dX5_countMatches_11 : decode cX5_countMatches 11 = .ok (.getfield 47, 3) := by decide +kernel
theorem dX5_countMatches_14 : decode cX5_countMatches 14 = .ok (.iload_n 2, 1) := by decide +kernel
theorem dX5_countMatches_15 : decode cX5_countMatches 15 = .ok (.iaload, 1) := by decide +kernel
theorem dX5_countMatches_16 : decode cX5_countMatches 16 = .ok (.ifCond .lt 6, 3) := by decide +kernel
theorem dX5_countMatches_19 : decode cX5_countMatches 19 = .ok (.iinc 1 1, 3) := by decide +kernel
theorem dX5_countMatches_22 : decode cX5_countMatches 22 = .ok (.iinc 2 1, 3) := by decide +kernel
theorem dX5_countMatches_25 : decode cX5_countMatches 25 = .ok (.goto (-21), 3) := by decide +kernel
theorem dX5_countMatches_28 : decode cX5_countMatches 28 = .ok (.iload_n 1, 1) := by decide +kernel
theorem dX5_countMatches_29 : decode cX5_countMatches 29 = .ok (.ireturn, 1) := by decide +kernel
set_option maxRecDepth 20000 in
theorem ggX5_rankOf_X5_keyOf : GoodIn wsX5_rankOf wsX5_keyOf := goodIn_r _ [6, 1, 7, 8, 9, 5, 10, 11, 12, 13, 14, 15, 16, 20, 21, 22, 23, 24, 25, 26, 27, 28, 29, 30, 31, 32, 33] (by decide +kernel) (by decide +kernel)
set_option maxRecDepth 20000 in
theorem gX5_rankOf_X5_keyOf : GoodIn wsX5_rankOf (wsV RX5 199 RX5 yX5_keyOf wsX5_keyOf) := goodIn_app (goodIn_of _ (by decide +kernel)) ggX5_rankOf_X5_keyOf
set_option maxRecDepth 20000 in
theorem ggX5_rankOf_X5_isBehind : GoodIn wsX5_rankOf wsX5_isBehind := goodIn_r _ [19] (by decide +kernel) (by decide +kernel)
set_option maxRecDepth 20000 in
theorem gX5_rankOf_X5_isBehind : GoodIn wsX5_rankOf (va_wsS RX5 202 yX5_isBehind wsX5_isBehind) := goodIn_app (goodIn_of _ (by decide +kernel)) ggX5_rankOf_X5_isBehind
theorem dX5_rankOf_0 : decode cX5_rankOf 0 = .ok (.iconst 0, 1) := by decide +kernel
theorem dX5_rankOf_1 : decode cX5_rankOf 1 = .ok (.istore_n 3, 1) := by decide +kernel
theorem dX5_rankOf_2 : decode cX5_rankOf 2 = .ok (.iconst 0, 1) := by decide +kernel
theorem dX5_rankOf_3 : decode cX5_rankOf 3 = .ok (.istore 4, 2) := by decide +kernel
theorem dX5_rankOf_5 : decode cX5_rankOf 5 = .ok (.iload 4, 2) := by decide +kernel
theorem dX5_rankOf_7 : decode cX5_rankOf 7 = .ok (.bipush 16, 2) := by decide +kernel
theorem dX5_rankOf_9 : decode cX5_rankOf 9 = .ok (.if_icmp .ge 45, 3) := by decide +kernel
theorem dX5_rankOf_12 : decode cX5_rankOf 12 = .ok (.aload_n 0, 1) := by decide +kernel
theorem dX5_rankOf_13 : decode cX5_rankOf 13 = .ok (.getfield 47, 3) := by decide +kernel
theorem dX5_rankOf_16 : decode cX5_rankOf 16 = .ok (.iload 4, 2) := by decide +kernel
theorem dX5_rankOf_18 : decode cX5_rankOf 18 = .ok (.iaload, 1) := by decide +kernel
theorem dX5_rankOf_19 : decode cX5_rankOf 19 = .ok (.ifCond .lt 29, 3) := by decide +kernel
theorem dX5_rankOf_22 : decode cX5_rankOf 22 = .ok (.iload_n 1, 1) := by decide +kernel
theorem dX5_rankOf_23 : decode cX5_rankOf 23 = .ok (.aload_n 0, 1) := by decide +kernel
theorem dX5_rankOf_24 : decode cX5_rankOf 24 = .ok (.iload_n 1, 1) := by decide +kernel
theorem dX5_rankOf_25 : decode cX5_rankOf 25 = .ok (.iload_n 2, 1) := by decide +kernel
theorem dX5_rankOf_26 : decode cX5_rankOf 26 = .ok (.invokevirtual 199, 3) := by decide +kernel
theorem dX5_rankOf_29 : decode cX5_rankOf 29 = .ok (.iload_n 2, 1) := by decide +kernel
theorem dX5_rankOf_30 : decode cX5_rankOf 30 = .ok (.aload_n 0, 1) := by decide +kernel
theorem dX5_rankOf_31 : decode cX5_rankOf 31 = .ok (.iload_n 1, 1) := by decide +kernel
theorem dX5_rankOf_32 : decode cX5_rankOf 32 = .ok (.iload 4, 2) := by decide +kernel
theorem dX5_rankOf_34 : decode cX5_rankOf 34 = .ok (.invokevirtual 199, 3) := by decide +kernel
theorem dX5_rankOf_37 : decode cX5_rankOf 37 = .ok (.iload 4, 2) := by decide +kernel
theorem dX5_rankOf_39 : decode cX5_rankOf 39 = .ok (.invokestatic 202, 3) := by decide +kernel
theorem dX5_rankOf_42 : decode cX5_rankOf 42 = .ok (.ifCond .eq 6, 3) := by decide +kernel
theorem dX5_rankOf_45 : decode cX5_rankOf 45 = .ok (.iinc 3 1, 3) := by decide +kernel
theorem dX5_rankOf_48 : decode cX5_rankOf 48 = .ok (.iinc 4 1, 3) := by decide +kernel
theorem dX5_rankOf_51 : decode cX5_rankOf 51 = .ok (.goto (-46), 3) := by decide +kernel
theorem dX5_rankOf_54 : decode cX5_rankOf 54 = .ok (.iload_n 3, 1) := by decide +kernel
theorem dX5_rankOf_55 : decode cX5_rankOf 55 = .ok (.ireturn, 1) := by decide +kernel
set_option maxRecDepth 20000 in
theorem ggX5_keyOf_X5_isId : GoodIn wsX5_keyOf wsX5_isId := goodIn_r _ [6] (by decide +kernel) (by decide +kernel)
set_option maxRecDepth 20000 in
theorem gX5_keyOf_X5_isId : GoodIn wsX5_keyOf (va_wsS RX5 62 yX5_isId wsX5_isId) := goodIn_app (goodIn_of _ (by decide +kernel)) ggX5_keyOf_X5_isId
set_option maxRecDepth 20000 in
theorem ggX5_keyOf_X0_sourceOf : GoodIn wsX5_keyOf wsX0_sourceOf := goodIn_r _ [11, 12, 4, 5, 6, 23, 24, 25, 26] (by decide +kernel) (by decide +kernel)
set_option maxRecDepth 20000 in
theorem gX5_keyOf_X0_sourceOf : GoodIn wsX5_keyOf (wsV RX5 110 RX0 yX0_sourceOf wsX0_sourceOf) := goodIn_app (goodIn_of _ (by decide +kernel)) ggX5_keyOf_X0_sourceOf
theorem dX5_keyOf_0 : decode cX5_keyOf 0 = .ok (.iload_n 2, 1) := by decide +kernel
theorem dX5_keyOf_1 : decode cX5_keyOf 1 = .ok (.invokestatic 62, 3) := by decide +kernel
theorem dX5_keyOf_4 : decode cX5_keyOf 4 = .ok (.ifCond .ne 5, 3) := by decide +kernel
theorem dX5_keyOf_7 : decode cX5_keyOf 7 = .ok (.iconst 0, 1) := by decide +kernel
theorem dX5_keyOf_8 : decode cX5_keyOf 8 = .ok (.ireturn, 1) := by decide +kernel
theorem dX5_keyOf_9 : decode cX5_keyOf 9 = .ok (.iload_n 1, 1) := by decide +kernel
theorem dX5_keyOf_10 : decode cX5_keyOf 10 = .ok (.ifCond .ne 12, 3) := by decide +kernel
theorem dX5_keyOf_13 : decode cX5_keyOf 13 = .ok (.aload_n 0, 1) := by decide +kernel
theorem dX5_keyOf_14 : decode cX5_keyOf 14 = .ok (.getfield 47, 3) := by decide +kernel
theorem dX5_keyOf_17 : decode cX5_keyOf 17 = .ok (.iload_n 2, 1) := by decide +kernel
theorem dX5_keyOf_18 : decode cX5_keyOf 18 = .ok (.iaload, 1) := by decide +kernel
theorem dX5_keyOf_19 : decode cX5_keyOf 19 = .ok (.goto 12, 3) := by decide +kernel
theorem dX5_keyOf_22 : decode cX5_keyOf 22 = .ok (.aload_n 0, 1) := by decide +kernel
theorem dX5_keyOf_23 : decode cX5_keyOf 23 = .ok (.getfield 22, 3) := by decide +kernel
theorem dX5_keyOf_26 : decode cX5_keyOf 26 = .ok (.iload_n 2, 1) := by decide +kernel
theorem dX5_keyOf_27 : decode cX5_keyOf 27 = .ok (.invokevirtual 110, 3) := by decide +kernel
theorem dX5_keyOf_30 : decode cX5_keyOf 30 = .ok (.l2i, 1) := by decide +kernel
theorem dX5_keyOf_31 : decode cX5_keyOf 31 = .ok (.ireturn, 1) := by decide +kernel
theorem dX5_isBehind_0 : decode cX5_isBehind 0 = .ok (.iload_n 1, 1) := by decide +kernel
theorem dX5_isBehind_1 : decode cX5_isBehind 1 = .ok (.iload_n 3, 1) := by decide +kernel
theorem dX5_isBehind_2 : decode cX5_isBehind 2 = .ok (.if_icmp .ne 15, 3) := by decide +kernel
theorem dX5_isBehind_5 : decode cX5_isBehind 5 = .ok (.iload_n 2, 1) := by decide +kernel
theorem dX5_isBehind_6 : decode cX5_isBehind 6 = .ok (.iload 4, 2) := by decide +kernel
theorem dX5_isBehind_8 : decode cX5_isBehind 8 = .ok (.if_icmp .le 7, 3) := by decide +kernel
theorem dX5_isBehind_11 : decode cX5_isBehind 11 = .ok (.iconst 1, 1) := by decide +kernel
theorem dX5_isBehind_12 : decode cX5_isBehind 12 = .ok (.goto 4, 3) := by decide +kernel
theorem dX5_isBehind_15 : decode cX5_isBehind 15 = .ok (.iconst 0, 1) := by decide +kernel
theorem dX5_isBehind_16 : decode cX5_isBehind 16 = .ok (.ireturn, 1) := by decide +kernel
theorem dX5_isBehind_17 : decode cX5_isBehind 17 = .ok (.iload_n 0, 1) := by decide +kernel
theorem dX5_isBehind_18 : decode cX5_isBehind 18 = .ok (.iconst 1, 1) := by decide +kernel
theorem dX5_isBehind_19 : decode cX5_isBehind 19 = .ok (.if_icmp .ne 16, 3) := by decide +kernel
theorem dX5_isBehind_22 : decode cX5_isBehind 22 = .ok (.iload_n 1, 1) := by decide +kernel
theorem dX5_isBehind_23 : decode cX5_isBehind 23 = .ok (.iload_n 3, 1) := by decide +kernel
theorem dX5_isBehind_24 : decode cX5_isBehind 24 = .ok (.if_icmp .le 7, 3) := by decide +kernel
theorem dX5_isBehind_27 : decode cX5_isBehind 27 = .ok (.iconst 1, 1) := by decide +kernel
theorem dX5_isBehind_28 : decode cX5_isBehind 28 = .ok (.goto 17, 3) := by decide +kernel
theorem dX5_isBehind_31 : decode cX5_isBehind 31 = .ok (.iconst 0, 1) := by decide +kernel
theorem dX5_isBehind_32 : decode cX5_isBehind 32 = .ok (.goto 13, 3) := by decide +kernel
theorem dX5_isBehind_35 : decode cX5_isBehind 35 = .ok (.iload_n 1, 1) := by decide +kernel
theorem dX5_isBehind_36 : decode cX5_isBehind 36 = .ok (.iload_n 3, 1) := by decide +kernel
theorem dX5_isBehind_37 : decode cX5_isBehind 37 = .ok (.if_icmp .ge 7, 3) := by decide +kernel
theorem dX5_isBehind_40 : decode cX5_isBehind 40 = .ok (.iconst 1, 1) := by decide +kernel
theorem dX5_isBehind_41 : decode cX5_isBehind 41 = .ok (.goto 4, 3) := by decide +kernel
theorem dX5_isBehind_44 : decode cX5_isBehind 44 = .ok (.iconst 0, 1) := by decide +kernel
theorem dX5_isBehind_45 : decode cX5_isBehind 45 = .ok (.ireturn, 1) := by decide +kernel
theorem dJ9_max_7cf53_0 : decode cJ9_max_7cf53 0 = .ok (.iload_n 0, 1) := by decide +kernel
theorem dJ9_max_7cf53_1 : decode cJ9_max_7cf53 1 = .ok (.iload_n 1, 1) := by decide +kernel
theorem dJ9_max_7cf53_2 : decode cJ9_max_7cf53 2 = .ok (.if_icmp .lt 7, 3) := by decide +kernel
theorem dJ9_max_7cf53_5 : decode cJ9_max_7cf53 5 = .ok (.iload_n 0, 1) := by decide +kernel
theorem dJ9_max_7cf53_6 : decode cJ9_max_7cf53 6 = .ok (.goto 4, 3) := by decide +kernel
theorem dJ9_max_7cf53_9 : decode cJ9_max_7cf53 9 = .ok (.iload_n 1, 1) := by decide +kernel
theorem dJ9_max_7cf53_10 : decode cJ9_max_7cf53 10 = .ok (.ireturn, 1) := by decide +kernel
theorem dJ9_min_7cf53_0 : decode cJ9_min_7cf53 0 = .ok (.iload_n 0, 1) := by decide +kernel
theorem dJ9_min_7cf53_1 : decode cJ9_min_7cf53 1 = .ok (.iload_n 1, 1) := by decide +kernel
theorem dJ9_min_7cf53_2 : decode cJ9_min_7cf53 2 = .ok (.if_icmp .gt 7, 3) := by decide +kernel
theorem dJ9_min_7cf53_5 : decode cJ9_min_7cf53 5 = .ok (.iload_n 0, 1) := by decide +kernel
theorem dJ9_min_7cf53_6 : decode cJ9_min_7cf53 6 = .ok (.goto 4, 3) := by decide +kernel
theorem dJ9_min_7cf53_9 : decode cJ9_min_7cf53 9 = .ok (.iload_n 1, 1) := by decide +kernel
theorem dJ9_min_7cf53_10 : decode cJ9_min_7cf53 10 = .ok (.ireturn, 1) := by decide +kernel
theorem dL_cell_0 : decode cL_cell 0 = .ok (.iload_n 1, 1) := by decide +kernel
theorem dL_cell_1 : decode cL_cell 1 = .ok (.aload_n 0, 1) := by decide +kernel
theorem dL_cell_2 : decode cL_cell 2 = .ok (.arraylength, 1) := by decide +kernel
theorem dL_cell_3 : decode cL_cell 3 = .ok (.if_icmp .ge 9, 3) := by decide +kernel
theorem dL_cell_6 : decode cL_cell 6 = .ok (.aload_n 0, 1) := by decide +kernel
theorem dL_cell_7 : decode cL_cell 7 = .ok (.iload_n 1, 1) := by decide +kernel
theorem dL_cell_8 : decode cL_cell 8 = .ok (.iaload, 1) := by decide +kernel
theorem dL_cell_9 : decode cL_cell 9 = .ok (.goto 4, 3) := by decide +kernel
theorem dL_cell_12 : decode cL_cell 12 = .ok (.iconst 0, 1) := by decide +kernel
theorem dL_cell_13 : decode cL_cell 13 = .ok (.ireturn, 1) := by decide +kernel
theorem dL_source_0 : decode cL_source 0 = .ok (.iload_n 0, 1) := by decide +kernel
theorem dL_source_1 : decode cL_source 1 = .ok (.ldc 7, 2) := by decide +kernel
theorem dL_source_3 : decode cL_source 3 = .ok (.imul, 1) := by decide +kernel
theorem dL_source_4 : decode cL_source 4 = .ok (.iconst 3, 1) := by decide +kernel
theorem dL_source_5 : decode cL_source 5 = .ok (.iushr, 1) := by decide +kernel
theorem dL_source_6 : decode cL_source 6 = .ok (.ldc 8, 2) := by decide +kernel
theorem dL_source_8 : decode cL_source 8 = .ok (.iand, 1) := by decide +kernel
theorem dL_source_9 : decode cL_source 9 = .ok (.i2l, 1) := by decide +kernel
theorem dL_source_10 : decode cL_source 10 = .ok (.bipush 32, 2) := by decide +kernel
theorem dL_source_12 : decode cL_source 12 = .ok (.lshl, 1) := by decide +kernel
theorem dL_source_13 : decode cL_source 13 = .ok (.iload_n 0, 1) := by decide +kernel
theorem dL_source_14 : decode cL_source 14 = .ok (.bipush 7, 2) := by decide +kernel
theorem dL_source_16 : decode cL_source 16 = .ok (.ishr, 1) := by decide +kernel
theorem dL_source_17 : decode cL_source 17 = .ok (.bipush 7, 2) := by decide +kernel
theorem dL_source_19 : decode cL_source 19 = .ok (.iand, 1) := by decide +kernel
theorem dL_source_20 : decode cL_source 20 = .ok (.iconst 3, 1) := by decide +kernel
theorem dL_source_21 : decode cL_source 21 = .ok (.isub, 1) := by decide +kernel
theorem dL_source_22 : decode cL_source 22 = .ok (.i2l, 1) := by decide +kernel
theorem dL_source_23 : decode cL_source 23 = .ok (.ldc2_w 9, 3) := by decide +kernel
theorem dL_source_26 : decode cL_source 26 = .ok (.land, 1) := by decide +kernel
theorem dL_source_27 : decode cL_source 27 = .ok (.lor, 1) := by decide +kernel
theorem dL_source_28 : decode cL_source 28 = .ok (.lreturn, 1) := by decide +kernel
theorem dL_writes_0 : decode cL_writes 0 = .ok (.iload_n 0, 1) := by decide +kernel
theorem dL_writes_1 : decode cL_writes 1 = .ok (.bipush 15, 2) := by decide +kernel
theorem dL_writes_3 : decode cL_writes 3 = .ok (.iand, 1) := by decide +kernel
theorem dL_writes_4 : decode cL_writes 4 = .ok (.bipush 10, 2) := by decide +kernel
theorem dL_writes_6 : decode cL_writes 6 = .ok (.if_icmp .ge 7, 3) := by decide +kernel
theorem dL_writes_9 : decode cL_writes 9 = .ok (.iconst 1, 1) := by decide +kernel
theorem dL_writes_10 : decode cL_writes 10 = .ok (.goto 4, 3) := by decide +kernel
theorem dL_writes_13 : decode cL_writes 13 = .ok (.iconst 0, 1) := by decide +kernel
theorem dL_writes_14 : decode cL_writes 14 = .ok (.ireturn, 1) := by decide +kernel
set_option maxRecDepth 20000 in
theorem ggL_apply_L_source : GoodIn wsL_apply wsL_source := goodIn_r _ [4, 5, 6, 7] (by decide +kernel) (by decide +kernel)
set_option maxRecDepth 20000 in
theorem gL_apply_L_source : GoodIn wsL_apply (va_wsS RL 11 yL_source wsL_source) := goodIn_app (goodIn_of _ (by decide +kernel)) ggL_apply_L_source
set_option maxRecDepth 20000 in
theorem ggL_apply_X5_write : GoodIn wsL_apply wsX5_write := goodIn_r _ [12, 13, 14, 15, 16, 17, 18, 19, 20, 21, 22, 11, 23, 24, 25, 26, 27, 28, 29, 30, 31, 32, 33, 34, 35, 36, 37, 38, 39, 40, 41, 42, 43, 44, 45, 46, 47, 48, 49, 50, 51, 52, 53, 54, 55, 56, 57, 58, 59, 60, 61, 62, 63, 64, 65, 66, 67, 68, 69, 70, 71, 72, 73, 74, 75, 76, 77, 78, 79, 80, 81, 82, 83, 84, 85, 86, 87, 88, 89, 90, 91, 92, 93, 94, 95, 96, 97, 98, 99, 100, 101, 102, 103, 104, 105, 106, 107, 108, 109, 110, 111, 112, 113, 114, 115, 116, 117, 118, 119, 120, 121, 122, 123, 124, 125, 126, 127, 128, 129, 130, 131, 132, 133, 134, 135, 177, 178, 179, 180, 181, 182, 183, 184, 185, 186, 187, 188, 189, 190, 191, 192, 193, 194, 195, 196, 197, 198, 199, 200, 201, 202, 203, 204, 205] (by decide +kernel) (by decide +kernel)
set_option maxRecDepth 20000 in
theorem gL_apply_X5_write : GoodIn wsL_apply (wsV RL 17 RX5 yX5_write wsX5_write) := goodIn_app (goodIn_of _ (by decide +kernel)) ggL_apply_X5_write
set_option maxRecDepth 20000 in
theorem ggL_apply_X5_flush : GoodIn wsL_apply wsX5_flush := goodIn_r _ [139, 13, 16, 14, 17, 140, 141, 142, 143, 144, 145, 46, 146, 147, 48, 106, 54, 55, 56, 148, 149, 150, 151, 152, 153, 154, 155, 156, 157, 158, 159, 160, 49, 50, 51, 52, 53, 161, 162, 163, 114, 164, 117, 122, 124, 123, 165, 166, 167, 31, 168, 37, 42, 64, 134, 169, 170, 171, 172, 173, 174, 175, 176, 177, 178, 179, 180, 181, 182, 183, 184, 185, 186, 187, 188, 189, 190, 195, 196, 197, 198, 199, 200, 191, 192, 193, 194] (by decide +kernel) (by decide +kernel)
set_option maxRecDepth 20000 in
theorem gL_apply_X5_flush : GoodIn wsL_apply (wsV RL 23 RX5 yX5_flush wsX5_flush) := goodIn_app (goodIn_of _ (by decide +kernel)) ggL_apply_X5_flush
theorem dL_apply_0 : decode cL_apply 0 = .ok (.iload_n 1, 1) := by decide +kernel
theorem dL_apply_1 : decode cL_apply 1 = .ok (.bipush 15, 2) := by decide +kernel
theorem dL_apply_3 : decode cL_apply 3 = .ok (.iand, 1) := by decide +kernel
theorem dL_apply_4 : decode cL_apply 4 = .ok (.bipush 8, 2) := by decide +kernel
theorem dL_apply_6 : decode cL_apply 6 = .ok (.if_icmp .ge 7, 3) := by decide +kernel
theorem dL_apply_9 : decode cL_apply 9 = .ok (.iconst 1, 1) := by decide +kernel
theorem dL_apply_10 : decode cL_apply 10 = .ok (.goto 4, 3) := by decide +kernel
theorem dL_apply_13 : decode cL_apply 13 = .ok (.iconst 2, 1) := by decide +kernel
theorem dL_apply_14 : decode cL_apply 14 = .ok (.istore_n 2, 1) := by decide +kernel
theorem dL_apply_15 : decode cL_apply 15 = .ok (.aload_n 0, 1) := by decide +kernel
theorem dL_apply_16 : decode cL_apply 16 = .ok (.iload_n 2, 1) := by decide +kernel
theorem dL_apply_17 : decode cL_apply 17 = .ok (.iload_n 1, 1) := by decide +kernel
theorem dL_apply_18 : decode cL_apply 18 = .ok (.iconst 4, 1) := by decide +kernel
theorem dL_apply_19 : decode cL_apply 19 = .ok (.ishr, 1) := by decide +kernel
theorem dL_apply_20 : decode cL_apply 20 = .ok (.bipush 7, 2) := by decide +kernel
theorem dL_apply_22 : decode cL_apply 22 = .ok (.iand, 1) := by decide +kernel
theorem dL_apply_23 : decode cL_apply 23 = .ok (.iload_n 1, 1) := by decide +kernel
theorem dL_apply_24 : decode cL_apply 24 = .ok (.invokestatic 11, 3) := by decide +kernel
theorem dL_apply_27 : decode cL_apply 27 = .ok (.iconst (-1), 1) := by decide +kernel
theorem dL_apply_28 : decode cL_apply 28 = .ok (.invokevirtual 17, 3) := by decide +kernel
theorem dL_apply_31 : decode cL_apply 31 = .ok (.istore_n 3, 1) := by decide +kernel
theorem dL_apply_32 : decode cL_apply 32 = .ok (.iload_n 3, 1) := by decide +kernel
theorem dL_apply_33 : decode cL_apply 33 = .ok (.bipush (-3), 2) := by decide +kernel
theorem dL_apply_35 : decode cL_apply 35 = .ok (.if_icmp .eq 5, 3) := by decide +kernel
theorem dL_apply_38 : decode cL_apply 38 = .ok (.iload_n 3, 1) := by decide +kernel
theorem dL_apply_39 : decode cL_apply 39 = .ok (.ireturn, 1) := by decide +kernel
theorem dL_apply_40 : decode cL_apply 40 = .ok (.aload_n 0, 1) := by decide +kernel
theorem dL_apply_41 : decode cL_apply 41 = .ok (.invokevirtual 23, 3) := by decide +kernel
theorem dL_apply_44 : decode cL_apply 44 = .ok (.ifCond .ge 8, 3) := by decide +kernel
theorem dL_apply_47 : decode cL_apply 47 = .ok (.bipush (-9), 2) := by decide +kernel
theorem dL_apply_49 : decode cL_apply 49 = .ok (.goto 19, 3) := by decide +kernel
theorem dL_apply_52 : decode cL_apply 52 = .ok (.aload_n 0, 1) := by decide +kernel
theorem dL_apply_53 : decode cL_apply 53 = .ok (.iload_n 2, 1) := by decide +kernel
theorem dL_apply_54 : decode cL_apply 54 = .ok (.iload_n 1, 1) := by decide +kernel
theorem dL_apply_55 : decode cL_apply 55 = .ok (.iconst 4, 1) := by decide +kernel
theorem dL_apply_56 : decode cL_apply 56 = .ok (.ishr, 1) := by decide +kernel
theorem dL_apply_57 : decode cL_apply 57 = .ok (.bipush 7, 2) := by decide +kernel
theorem dL_apply_59 : decode cL_apply 59 = .ok (.iand, 1) := by decide +kernel
theorem dL_apply_60 : decode cL_apply 60 = .ok (.iload_n 1, 1) := by decide +kernel
theorem dL_apply_61 : decode cL_apply 61 = .ok (.invokestatic 11, 3) := by decide +kernel
theorem dL_apply_64 : decode cL_apply 64 = .ok (.iconst (-1), 1) := by decide +kernel
theorem dL_apply_65 : decode cL_apply 65 = .ok (.invokevirtual 17, 3) := by decide +kernel
theorem dL_apply_68 : decode cL_apply 68 = .ok (.ireturn, 1) := by decide +kernel
set_option maxRecDepth 20000 in
theorem ggL_turns_X5_info : GoodIn wsL_turns wsX5_info := goodIn_r _ [5, 6, 7, 8, 9, 10, 11, 12, 13, 14, 15, 16, 17, 18, 19, 20, 21, 22, 23, 24, 25, 26, 27, 28, 29, 30, 31, 32, 33, 34, 35, 36, 37, 38, 39, 40, 41, 42, 43, 44, 45, 46, 4, 47, 217, 218, 219, 220, 221, 222, 223, 224, 225, 226, 227, 228, 229, 230, 231, 232, 233, 234, 235, 236, 237, 238, 239, 240] (by decide +kernel) (by decide +kernel)
set_option maxRecDepth 20000 in
theorem gL_turns_X5_info : GoodIn wsL_turns (wsV RL 27 RX5 yX5_info wsX5_info) := goodIn_app (goodIn_of _ (by decide +kernel)) ggL_turns_X5_info
set_option maxRecDepth 20000 in
theorem ggL_turns_L_writes : GoodIn wsL_turns wsL_writes := goodIn_r _ [51] (by decide +kernel) (by decide +kernel)
set_option maxRecDepth 20000 in
theorem gL_turns_L_writes : GoodIn wsL_turns (va_wsS RL 31 yL_writes wsL_writes) := goodIn_app (goodIn_of _ (by decide +kernel)) ggL_turns_L_writes
set_option maxRecDepth 20000 in
theorem ggL_turns_X5_known : GoodIn wsL_turns wsX5_known := goodIn_r _ [55, 6, 7, 56, 16, 57, 46, 4, 47, 58, 42, 43, 35, 44, 45, 59, 60, 61, 62, 63, 64, 65, 66, 67, 68, 69, 38, 39, 40, 41, 217, 218, 219, 220, 221, 222, 223, 224, 225, 226, 227, 228, 229, 230, 237, 238, 239, 240] (by decide +kernel) (by decide +kernel)
set_option maxRecDepth 20000 in
theorem gL_turns_X5_known : GoodIn wsL_turns (wsV RL 35 RX5 yX5_known wsX5_known) := goodIn_app (goodIn_of _ (by decide +kernel)) ggL_turns_X5_known
set_option maxRecDepth 20000 in
theorem ggL_turns_L_apply : GoodIn wsL_turns wsL_apply := goodIn_r _ [72, 73, 74, 50, 75, 76, 77, 78, 79, 80, 81, 4, 82, 6, 7, 8, 11, 9, 56, 83, 84, 57, 46, 47, 85, 86, 87, 88, 69, 38, 39, 35, 40, 41, 42, 43, 44, 45, 59, 60, 61, 62, 63, 89, 90, 91, 20, 92, 22, 93, 25, 26, 27, 28, 29, 30, 31, 94, 95, 96, 64, 65, 66, 67, 68, 97, 98, 99, 100, 101, 102, 103, 104, 105, 106, 107, 108, 109, 110, 111, 112, 113, 114, 115, 116, 117, 118, 119, 120, 121, 122, 123, 124, 125, 126, 127, 128, 129, 130, 131, 132, 133, 134, 135, 136, 137, 138, 139, 140, 141, 142, 143, 144, 145, 146, 147, 148, 149, 150, 151, 152, 153, 154, 155, 156, 157, 158, 159, 160, 161, 162, 163, 164, 165, 166, 167, 168, 169, 170, 171, 10, 15, 12, 172, 173, 174, 175, 23, 17, 18, 19, 21, 176, 177, 178, 179, 180, 181, 182, 183, 184, 185, 186, 187, 188, 189, 190, 191, 192, 193, 194, 195, 196, 197, 198, 199, 200, 217, 218, 219, 220, 221, 222, 223, 224, 225, 226, 227, 228, 229, 230, 237, 238, 239, 240, 231, 232, 233, 234, 235, 236, 241, 242, 243, 244, 245] (by decide +kernel) (by decide +kernel)
set_option maxRecDepth 20000 in
theorem gL_turns_L_apply : GoodIn wsL_turns (va_wsS RL 39 yL_apply wsL_apply) := goodIn_app (goodIn_of _ (by decide +kernel)) ggL_turns_L_apply
set_option maxRecDepth 20000 in
theorem ggL_turns_X5_sync : GoodIn wsL_turns wsX5_sync := goodIn_r _ [204, 6, 11, 7, 9, 10, 13, 17, 18, 19, 20, 21, 22, 23, 176, 177, 178, 179, 180, 181, 182, 183, 184, 93, 25, 26, 27, 28, 29, 30, 31, 193, 194, 195, 196, 197, 198, 199, 200, 138, 217, 218, 219, 220, 221, 222, 223, 224, 225, 226, 227, 228, 229, 230, 231, 232, 233, 234, 235, 236] (by decide +kernel) (by decide +kernel)
set_option maxRecDepth 20000 in
theorem gL_turns_X5_sync : GoodIn wsL_turns (wsV RL 43 RX5 yX5_sync wsX5_sync) := goodIn_app (goodIn_of _ (by decide +kernel)) ggL_turns_X5_sync
set_option maxRecDepth 20000 in
theorem ggL_turns_X5_flush : GoodIn wsL_turns wsX5_flush := goodIn_r _ [171, 6, 11, 7, 9, 10, 15, 12, 172, 173, 174, 20, 175, 23, 22, 138, 29, 30, 31, 17, 18, 19, 21, 176, 177, 178, 179, 180, 181, 182, 183, 184, 93, 25, 26, 27, 28, 185, 186, 187, 146, 188, 149, 154, 156, 155, 189, 190, 191, 35, 192, 45, 63, 68, 166, 193, 194, 195, 196, 197, 198, 199, 200, 217, 218, 219, 220, 221, 222, 223, 224, 225, 226, 227, 228, 229, 230, 231, 232, 233, 234, 235, 236, 237, 238, 239, 240] (by decide +kernel) (by decide +kernel)
set_option maxRecDepth 20000 in
theorem gL_turns_X5_flush : GoodIn wsL_turns (wsV RL 23 RX5 yX5_flush wsX5_flush) := goodIn_app (goodIn_of _ (by decide +kernel)) ggL_turns_X5_flush
set_option maxRecDepth 20000 in
theorem ggL_turns_X5_refresh : GoodIn wsL_turns wsX5_refresh := goodIn_r _ [208, 6, 7, 56, 9, 16, 209, 210, 211, 35, 212, 45, 63, 68, 213, 190, 191, 192, 166, 32, 33, 34, 36, 37, 38, 39, 40, 41, 42, 43, 44, 46, 4, 47, 217, 218, 219, 220, 221, 222, 223, 224, 225, 226, 227, 228, 229, 230, 237, 238, 239, 240] (by decide +kernel) (by decide +kernel)
set_option maxRecDepth 20000 in
theorem gL_turns_X5_refresh : GoodIn wsL_turns (wsV RL 47 RX5 yX5_refresh wsX5_refresh) := goodIn_app (goodIn_of _ (by decide +kernel)) ggL_turns_X5_refresh
set_option maxRecDepth 20000 in
theorem ggL_turns_L_documents : GoodIn wsL_turns wsL_documents := goodIn_r _ [216, 52, 53, 54, 4, 55, 6, 7, 56, 16, 57, 46, 47, 58, 42, 43, 35, 44, 45, 59, 60, 61, 62, 63, 64, 65, 66, 67, 68, 69, 38, 39, 40, 41, 217, 218, 219, 220, 221, 222, 223, 224, 225, 226, 227, 228, 229, 230, 237, 238, 239, 240] (by decide +kernel) (by decide +kernel)
set_option maxRecDepth 20000 in
theorem gL_turns_L_documents : GoodIn wsL_turns (va_wsS RL 50 yL_documents wsL_documents) := goodIn_app (goodIn_of _ (by decide +kernel)) ggL_turns_L_documents
theorem dL_turns_0 : decode cL_turns 0 = .ok (.iload_n 2, 1) := by decide +kernel
theorem dL_turns_1 : decode cL_turns 1 = .ok (.istore 4, 2) := by decide +kernel
theorem dL_turns_3 : decode cL_turns 3 = .ok (.iload 4, 2) := by decide +kernel
theorem dL_turns_5 : decode cL_turns 5 = .ok (.iload_n 3, 1) := by decide +kernel
theorem dL_turns_6 : decode cL_turns 6 = .ok (.if_icmp .ge 270, 3) := by decide +kernel
theorem dL_turns_9 : decode cL_turns 9 = .ok (.iload 4, 2) := by decide +kernel
theorem dL_turns_11 : decode cL_turns 11 = .ok (.aload_n 1, 1) := by decide +kernel
theorem dL_turns_12 : decode cL_turns 12 = .ok (.arraylength, 1) := by decide +kernel
theorem dL_turns_13 : decode cL_turns 13 = .ok (.if_icmp .ge 263, 3) := by decide +kernel
theorem dL_turns_16 : decode cL_turns 16 = .ok (.aload_n 1, 1) := by decide +kernel
theorem dL_turns_17 : decode cL_turns 17 = .ok (.iload 4, 2) := by decide +kernel
theorem dL_turns_19 : decode cL_turns 19 = .ok (.iaload, 1) := by decide +kernel
theorem dL_turns_20 : decode cL_turns 20 = .ok (.istore 5, 2) := by decide +kernel
theorem dL_turns_22 : decode cL_turns 22 = .ok (.aload_n 0, 1) := by decide +kernel
theorem dL_turns_23 : decode cL_turns 23 = .ok (.iconst 0, 1) := by decide +kernel
theorem dL_turns_24 : decode cL_turns 24 = .ok (.invokevirtual 27, 3) := by decide +kernel
theorem dL_turns_27 : decode cL_turns 27 = .ok (.iconst 1, 1) := by decide +kernel
theorem dL_turns_28 : decode cL_turns 28 = .ok (.iadd, 1) := by decide +kernel
theorem dL_turns_29 : decode cL_turns 29 = .ok (.istore 6, 2) := by decide +kernel
theorem dL_turns_31 : decode cL_turns 31 = .ok (.iload 5, 2) := by decide +kernel
