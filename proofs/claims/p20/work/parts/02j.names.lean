set_option maxRecDepth 20000 in
theorem ggL_law_L_kind : GoodIn wsL_law wsL_kind := goodIn_r _ [342, 343, 344, 83, 345, 269, 270, 271] (by decide +kernel) (by decide +kernel)
set_option maxRecDepth 20000 in
theorem gL_law_L_kind : GoodIn wsL_law (va_wsS RL 76 yL_kind wsL_kind) := goodIn_app (goodIn_of _ (by decide +kernel)) ggL_law_L_kind
set_option maxRecDepth 20000 in
theorem ggL_law_L_a : GoodIn wsL_law wsL_a := goodIn_r _ [408, 340, 341, 83, 342, 343, 344, 345, 269, 270, 271] (by decide +kernel) (by decide +kernel)
set_option maxRecDepth 20000 in
theorem gL_law_L_a : GoodIn wsL_law (va_wsS RL 79 yL_a wsL_a) := goodIn_app (goodIn_of _ (by decide +kernel)) ggL_law_L_a
set_option maxRecDepth 20000 in
theorem ggL_law_L_b : GoodIn wsL_law wsL_b := goodIn_r _ [411, 340, 341, 83, 342, 343, 344, 345, 269, 270, 271] (by decide +kernel) (by decide +kernel)
set_option maxRecDepth 20000 in
theorem gL_law_L_b : GoodIn wsL_law (va_wsS RL 86 yL_b wsL_b) := goodIn_app (goodIn_of _ (by decide +kernel)) ggL_law_L_b
set_option maxRecDepth 20000 in
theorem ggL_law_X5_ask : GoodIn wsL_law wsX5_ask := goodIn_r _ [415, 25, 416, 417, 418, 2, 419, 420, 421, 422, 24, 423, 66, 67, 68, 69, 457, 458, 459, 460, 461, 462, 463, 464, 465, 466, 481, 482, 483, 484, 485, 486] (by decide +kernel) (by decide +kernel)
set_option maxRecDepth 20000 in
theorem gL_law_X5_ask : GoodIn wsL_law (wsV RL 131 RX5 yX5_ask wsX5_ask) := goodIn_app (goodIn_of _ (by decide +kernel)) ggL_law_X5_ask
set_option maxRecDepth 20000 in
theorem glL_law_L_answers_r1 : GoodIn wsL_law wsL_answers_r1 := goodIn_r _ [122, 123, 124, 2, 125, 34, 12, 126, 17, 127, 117, 118, 128, 114, 115, 16, 116, 47, 129, 130, 131, 132, 48, 133] (by decide +kernel) (by decide +kernel)
set_option maxRecDepth 20000 in
theorem glL_law_L_answers_r2 : GoodIn wsL_law wsL_answers_r2 := goodIn_r _ [134, 135, 136, 49, 137, 110, 111, 112, 113, 327, 328, 329, 330, 331, 332, 333, 334, 335, 336, 51, 427, 428, 83, 429] (by decide +kernel) (by decide +kernel)
set_option maxRecDepth 20000 in
theorem glL_law_L_answers_r3 : GoodIn wsL_law wsL_answers_r3 := goodIn_r _ [337, 338, 339, 340, 341, 342, 343, 344, 345, 269, 270, 271, 430, 431, 432, 406, 407, 408, 433, 434, 435, 409, 410, 411] (by decide +kernel) (by decide +kernel)
set_option maxRecDepth 20000 in
theorem glL_law_L_answers_r4 : GoodIn wsL_law wsL_answers_r4 := goodIn_r _ [346, 347, 348, 349, 25, 31, 350, 351, 352, 353, 354, 355, 24, 356, 66, 67, 357, 358, 359, 360, 361, 362, 363, 364] (by decide +kernel) (by decide +kernel)
set_option maxRecDepth 20000 in
theorem glL_law_L_answers_r5 : GoodIn wsL_law wsL_answers_r5 := goodIn_r _ [365, 366, 367, 368, 369, 200, 370, 71, 72, 371, 372, 373, 374, 68, 69, 375, 376, 377, 378, 379, 380, 381, 382, 383] (by decide +kernel) (by decide +kernel)
set_option maxRecDepth 20000 in
theorem glL_law_L_answers_r6 : GoodIn wsL_law wsL_answers_r6 := goodIn_r _ [384, 385, 386, 387, 388, 389, 390, 391, 392, 393, 394, 395, 396, 397, 398, 399, 400, 401, 402, 403, 404, 405, 436, 437] (by decide +kernel) (by decide +kernel)
set_option maxRecDepth 20000 in
theorem glL_law_L_answers_r7 : GoodIn wsL_law wsL_answers_r7 := goodIn_r _ [438, 439, 440, 441, 442, 443, 444, 445, 446, 447, 448, 449, 450, 451, 452] (by decide +kernel) (by decide +kernel)
theorem ggL_law_L_answers : GoodIn wsL_law wsL_answers := goodIn_c1 (goodIn_r [Cond.code yL_answers cL_answers 11 (some .boolean)] [426] (by decide +kernel) (by decide +kernel)) (goodIn_app (goodIn_app (goodIn_app (goodIn_app (goodIn_app glL_law_L_answers_r1 (goodIn_app glL_law_L_answers_r2 (goodIn_app glL_law_L_answers_r3 (goodIn_app glL_law_L_answers_r4 (goodIn_app glL_law_L_answers_r5 (goodIn_app glL_law_L_answers_r6 glL_law_L_answers_r7)))))) glL_law_X50) glL_law_X10) glL_law_X00) glL_law_X40)
set_option maxRecDepth 20000 in
theorem gL_law_L_answers : GoodIn wsL_law (va_wsS RL 134 yL_answers wsL_answers) := goodIn_app (goodIn_of _ (by decide +kernel)) ggL_law_L_answers
set_option maxRecDepth 20000 in
theorem glL_law_L_hits_r1 : GoodIn wsL_law wsL_hits_r1 := goodIn_r _ [456, 346, 347, 348, 2, 349, 34, 25, 31, 350, 351, 352, 353, 354, 355, 24, 356, 66, 67, 357, 358, 359, 360, 361] (by decide +kernel) (by decide +kernel)
set_option maxRecDepth 20000 in
theorem glL_law_L_hits_r2 : GoodIn wsL_law wsL_hits_r2 := goodIn_r _ [362, 363, 17, 137, 110, 111, 16, 112, 113, 114, 115, 116, 47, 117, 118, 333, 334, 335, 336, 51, 364, 365, 366, 367] (by decide +kernel) (by decide +kernel)
set_option maxRecDepth 20000 in
theorem glL_law_L_hits_r3 : GoodIn wsL_law wsL_hits_r3 := goodIn_r _ [368, 369, 200, 370, 71, 72, 371, 372, 373, 374, 68, 69, 375, 376, 377, 378, 379, 380, 381, 382, 383, 384, 385, 386] (by decide +kernel) (by decide +kernel)
set_option maxRecDepth 20000 in
theorem glL_law_L_hits_r4 : GoodIn wsL_law wsL_hits_r4 := goodIn_r _ [387, 388, 389, 390, 391, 392, 393, 394, 395, 396, 397, 398, 399, 400, 401, 402, 127, 403, 404, 405] (by decide +kernel) (by decide +kernel)
theorem ggL_law_L_hits : GoodIn wsL_law wsL_hits := goodIn_c1 (goodIn_r [Cond.code yL_hits cL_hits 5 (some .long)] [455] (by decide +kernel) (by decide +kernel)) (goodIn_app (goodIn_app (goodIn_app (goodIn_app glL_law_L_hits_r1 (goodIn_app glL_law_L_hits_r2 (goodIn_app glL_law_L_hits_r3 glL_law_L_hits_r4))) glL_law_X50) glL_law_X40) glL_law_X00)
set_option maxRecDepth 20000 in
theorem gL_law_L_hits : GoodIn wsL_law (va_wsS RL 138 yL_hits wsL_hits) := goodIn_app (goodIn_of _ (by decide +kernel)) ggL_law_L_hits
set_option maxRecDepth 20000 in
theorem glL_law_L_documents_r1 : GoodIn wsL_law wsL_documents_r1 := goodIn_r _ [122, 123, 124, 2, 125, 34, 12, 126, 17, 127, 117, 118, 128, 114, 115, 16, 116, 47, 129, 130, 131, 132, 48, 133] (by decide +kernel) (by decide +kernel)
set_option maxRecDepth 20000 in
theorem glL_law_L_documents_r2 : GoodIn wsL_law wsL_documents_r2 := goodIn_r _ [134, 135, 136, 49, 137, 110, 111, 112, 113] (by decide +kernel) (by decide +kernel)
theorem ggL_law_L_documents : GoodIn wsL_law wsL_documents := goodIn_c1 (goodIn_r [Cond.code yL_documents cL_documents 3 (some .int)] [268] (by decide +kernel) (by decide +kernel)) (goodIn_app (goodIn_app (goodIn_app (goodIn_app glL_law_L_documents_r1 glL_law_L_documents_r2) glL_law_X50) glL_law_X10) glL_law_X00)
set_option maxRecDepth 20000 in
theorem gL_law_L_documents : GoodIn wsL_law (va_wsS RL 50 yL_documents wsL_documents) := goodIn_app (goodIn_of _ (by decide +kernel)) ggL_law_L_documents
set_option maxRecDepth 20000 in
theorem glL_law_X5_refresh_r1 : GoodIn wsL_law wsX5_refresh_r1 := goodIn_r _ [34, 12, 126, 90, 17, 261, 262, 263, 16, 264, 47, 48, 49, 265, 242, 243, 244, 51, 105, 106, 107, 108, 109, 110] (by decide +kernel) (by decide +kernel)
set_option maxRecDepth 20000 in
theorem glL_law_X5_refresh_r2 : GoodIn wsL_law wsX5_refresh_r2 := goodIn_r _ [111, 112, 113, 114, 115, 116, 117, 2, 118] (by decide +kernel) (by decide +kernel)
theorem ggL_law_X5_refresh : GoodIn wsL_law wsX5_refresh := goodIn_c1 (goodIn_r [Cond.code yX5_refresh cX5_refresh 1 (some .int)] [260] (by decide +kernel) (by decide +kernel)) (goodIn_app (goodIn_app (goodIn_app (goodIn_app glL_law_X5_refresh_r1 glL_law_X5_refresh_r2) glL_law_X50) glL_law_X10) glL_law_X00)
set_option maxRecDepth 20000 in
theorem gL_law_X5_refresh : GoodIn wsL_law (wsV RL 47 RX5 yX5_refresh wsX5_refresh) := goodIn_app (goodIn_of _ (by decide +kernel)) ggL_law_X5_refresh
theorem dL_law_0 : decode cL_law 0 = .ok (.new 18, 3) := by decide +kernel
theorem dL_law_3 : decode cL_law 3 = .ok (.dup, 1) := by decide +kernel
theorem dL_law_4 : decode cL_law 4 = .ok (.invokespecial 64, 3) := by decide +kernel
theorem dL_law_7 : decode cL_law 7 = .ok (.astore_n 1, 1) := by decide +kernel
theorem dL_law_8 : decode cL_law 8 = .ok (.aload_n 1, 1) := by decide +kernel
theorem dL_law_9 : decode cL_law 9 = .ok (.aload_n 0, 1) := by decide +kernel
theorem dL_law_10 : decode cL_law 10 = .ok (.bipush 8, 2) := by decide +kernel
theorem dL_law_12 : decode cL_law 12 = .ok (.bipush 40, 2) := by decide +kernel
theorem dL_law_14 : decode cL_law 14 = .ok (.invokestatic 122, 3) := by decide +kernel
theorem dL_law_17 : decode cL_law 17 = .ok (.ifCond .ne 5, 3) := by decide +kernel
theorem dL_law_20 : decode cL_law 20 = .ok (.iconst 0, 1) := by decide +kernel
theorem dL_law_21 : decode cL_law 21 = .ok (.ireturn, 1) := by decide +kernel
theorem dL_law_22 : decode cL_law 22 = .ok (.aload_n 1, 1) := by decide +kernel
theorem dL_law_23 : decode cL_law 23 = .ok (.aload_n 0, 1) := by decide +kernel
theorem dL_law_24 : decode cL_law 24 = .ok (.iconst 0, 1) := by decide +kernel
theorem dL_law_25 : decode cL_law 25 = .ok (.invokestatic 68, 3) := by decide +kernel
theorem dL_law_28 : decode cL_law 28 = .ok (.invokestatic 126, 3) := by decide +kernel
theorem dL_law_31 : decode cL_law 31 = .ok (.istore_n 2, 1) := by decide +kernel
theorem dL_law_32 : decode cL_law 32 = .ok (.iload_n 2, 1) := by decide +kernel
theorem dL_law_33 : decode cL_law 33 = .ok (.iconst (-1), 1) := by decide +kernel
theorem dL_law_34 : decode cL_law 34 = .ok (.if_icmp .lt 15, 3) := by decide +kernel
theorem dL_law_37 : decode cL_law 37 = .ok (.aload_n 1, 1) := by decide +kernel
theorem dL_law_38 : decode cL_law 38 = .ok (.aload_n 0, 1) := by decide +kernel
theorem dL_law_39 : decode cL_law 39 = .ok (.iload_n 2, 1) := by decide +kernel
theorem dL_law_40 : decode cL_law 40 = .ok (.iconst 1, 1) := by decide +kernel
theorem dL_law_41 : decode cL_law 41 = .ok (.iadd, 1) := by decide +kernel
theorem dL_law_42 : decode cL_law 42 = .ok (.iload_n 2, 1) := by decide +kernel
theorem dL_law_43 : decode cL_law 43 = .ok (.invokestatic 128, 3) := by decide +kernel
theorem dL_law_46 : decode cL_law 46 = .ok (.ifCond .ne 5, 3) := by decide +kernel
theorem dL_law_49 : decode cL_law 49 = .ok (.iconst 0, 1) := by decide +kernel
theorem dL_law_50 : decode cL_law 50 = .ok (.ireturn, 1) := by decide +kernel
theorem dL_law_51 : decode cL_law 51 = .ok (.aload_n 0, 1) := by decide +kernel
theorem dL_law_52 : decode cL_law 52 = .ok (.invokestatic 89, 3) := by decide +kernel
theorem dL_law_55 : decode cL_law 55 = .ok (.istore_n 3, 1) := by decide +kernel
theorem dL_law_56 : decode cL_law 56 = .ok (.iconst 0, 1) := by decide +kernel
theorem dL_law_57 : decode cL_law 57 = .ok (.istore 4, 2) := by decide +kernel
theorem dL_law_59 : decode cL_law 59 = .ok (.iload 4, 2) := by decide +kernel
theorem dL_law_61 : decode cL_law 61 = .ok (.iload_n 3, 1) := by decide +kernel
theorem dL_law_62 : decode cL_law 62 = .ok (.if_icmp .ge 50, 3) := by decide +kernel
theorem dL_law_65 : decode cL_law 65 = .ok (.aload_n 1, 1) := by decide +kernel
theorem dL_law_66 : decode cL_law 66 = .ok (.iconst 0, 1) := by decide +kernel
theorem dL_law_67 : decode cL_law 67 = .ok (.iconst 0, 1) := by decide +kernel
theorem dL_law_68 : decode cL_law 68 = .ok (.invokevirtual 105, 3) := by decide +kernel
theorem dL_law_71 : decode cL_law 71 = .ok (.iconst (-1), 1) := by decide +kernel
theorem dL_law_72 : decode cL_law 72 = .ok (.if_icmp .ne 32, 3) := by decide +kernel
theorem dL_law_75 : decode cL_law 75 = .ok (.aload_n 1, 1) := by decide +kernel
theorem dL_law_76 : decode cL_law 76 = .ok (.aload_n 0, 1) := by decide +kernel
theorem dL_law_77 : decode cL_law 77 = .ok (.iload 4, 2) := by decide +kernel
theorem dL_law_79 : decode cL_law 79 = .ok (.invokestatic 76, 3) := by decide +kernel
theorem dL_law_82 : decode cL_law 82 = .ok (.aload_n 0, 1) := by decide +kernel
theorem dL_law_83 : decode cL_law 83 = .ok (.iload 4, 2) := by decide +kernel
theorem dL_law_85 : decode cL_law 85 = .ok (.invokestatic 79, 3) := by decide +kernel
theorem dL_law_88 : decode cL_law 88 = .ok (.aload_n 0, 1) := by decide +kernel
theorem dL_law_89 : decode cL_law 89 = .ok (.iload 4, 2) := by decide +kernel
theorem dL_law_91 : decode cL_law 91 = .ok (.invokestatic 86, 3) := by decide +kernel
theorem dL_law_94 : decode cL_law 94 = .ok (.invokevirtual 131, 3) := by decide +kernel
theorem dL_law_97 : decode cL_law 97 = .ok (.iload 4, 2) := by decide +kernel
theorem dL_law_99 : decode cL_law 99 = .ok (.iconst 1, 1) := by decide +kernel
theorem dL_law_100 : decode cL_law 100 = .ok (.iadd, 1) := by decide +kernel
theorem dL_law_101 : decode cL_law 101 = .ok (.if_icmp .eq 5, 3) := by decide +kernel
theorem dL_law_104 : decode cL_law 104 = .ok (.iconst 0, 1) := by decide +kernel
theorem dL_law_105 : decode cL_law 105 = .ok (.ireturn, 1) := by decide +kernel
theorem dL_law_106 : decode cL_law 106 = .ok (.iinc 4 1, 3) := by decide +kernel
theorem dL_law_109 : decode cL_law 109 = .ok (.goto (-50), 3) := by decide +kernel
theorem dL_law_112 : decode cL_law 112 = .ok (.aload_n 1, 1) := by decide +kernel
theorem dL_law_113 : decode cL_law 113 = .ok (.aload_n 0, 1) := by decide +kernel
theorem dL_law_114 : decode cL_law 114 = .ok (.invokestatic 134, 3) := by decide +kernel
theorem dL_law_117 : decode cL_law 117 = .ok (.ifCond .ne 5, 3) := by decide +kernel
theorem dL_law_120 : decode cL_law 120 = .ok (.iconst 0, 1) := by decide +kernel
theorem dL_law_121 : decode cL_law 121 = .ok (.ireturn, 1) := by decide +kernel
theorem dL_law_122 : decode cL_law 122 = .ok (.aload_n 1, 1) := by decide +kernel
theorem dL_law_123 : decode cL_law 123 = .ok (.invokestatic 138, 3) := by decide +kernel
theorem dL_law_126 : decode cL_law 126 = .ok (.lstore 4, 2) := by decide +kernel
theorem dL_law_128 : decode cL_law 128 = .ok (.aload_n 1, 1) := by decide +kernel
theorem dL_law_129 : decode cL_law 129 = .ok (.aload_n 0, 1) := by decide +kernel
theorem dL_law_130 : decode cL_law 130 = .ok (.bipush 40, 2) := by decide +kernel
theorem dL_law_132 : decode cL_law 132 = .ok (.bipush 41, 2) := by decide +kernel
theorem dL_law_134 : decode cL_law 134 = .ok (.invokestatic 122, 3) := by decide +kernel
theorem dL_law_137 : decode cL_law 137 = .ok (.ifCond .eq 44, 3) := by decide +kernel
theorem dL_law_140 : decode cL_law 140 = .ok (.aload_n 0, 1) := by decide +kernel
theorem dL_law_141 : decode cL_law 141 = .ok (.arraylength, 1) := by decide +kernel
theorem dL_law_142 : decode cL_law 142 = .ok (.bipush 41, 2) := by decide +kernel
theorem dL_law_144 : decode cL_law 144 = .ok (.if_icmp .lt 27, 3) := by decide +kernel
theorem dL_law_147 : decode cL_law 147 = .ok (.aload_n 0, 1) := by decide +kernel
theorem dL_law_148 : decode cL_law 148 = .ok (.bipush 40, 2) := by decide +kernel
theorem dL_law_150 : decode cL_law 150 = .ok (.iaload, 1) := by decide +kernel
theorem dL_law_151 : decode cL_law 151 = .ok (.bipush 15, 2) := by decide +kernel
theorem dL_law_153 : decode cL_law 153 = .ok (.iand, 1) := by decide +kernel
theorem dL_law_154 : decode cL_law 154 = .ok (.bipush 13, 2) := by decide +kernel
theorem dL_law_156 : decode cL_law 156 = .ok (.if_icmp .eq 27, 3) := by decide +kernel
theorem dL_law_159 : decode cL_law 159 = .ok (.aload_n 0, 1) := by decide +kernel
theorem dL_law_160 : decode cL_law 160 = .ok (.bipush 40, 2) := by decide +kernel
theorem dL_law_162 : decode cL_law 162 = .ok (.iaload, 1) := by decide +kernel
theorem dL_law_163 : decode cL_law 163 = .ok (.bipush 15, 2) := by decide +kernel
theorem dL_law_165 : decode cL_law 165 = .ok (.iand, 1) := by decide +kernel
theorem dL_law_166 : decode cL_law 166 = .ok (.bipush 14, 2) := by decide +kernel
theorem dL_law_168 : decode cL_law 168 = .ok (.if_icmp .eq 15, 3) := by decide +kernel
theorem dL_law_171 : decode cL_law 171 = .ok (.aload_n 1, 1) := by decide +kernel
theorem dL_law_172 : decode cL_law 172 = .ok (.invokestatic 138, 3) := by decide +kernel
theorem dL_law_175 : decode cL_law 175 = .ok (.lload 4, 2) := by decide +kernel
theorem dL_law_177 : decode cL_law 177 = .ok (.lcmp, 1) := by decide +kernel
theorem dL_law_178 : decode cL_law 178 = .ok (.ifCond .eq 5, 3) := by decide +kernel
theorem dL_law_181 : decode cL_law 181 = .ok (.iconst 0, 1) := by decide +kernel
theorem dL_law_182 : decode cL_law 182 = .ok (.ireturn, 1) := by decide +kernel
theorem dL_law_183 : decode cL_law 183 = .ok (.aload_n 1, 1) := by decide +kernel
theorem dL_law_184 : decode cL_law 184 = .ok (.aload_n 0, 1) := by decide +kernel
theorem dL_law_185 : decode cL_law 185 = .ok (.bipush 41, 2) := by decide +kernel
theorem dL_law_187 : decode cL_law 187 = .ok (.bipush 72, 2) := by decide +kernel
theorem dL_law_189 : decode cL_law 189 = .ok (.invokestatic 122, 3) := by decide +kernel
theorem dL_law_192 : decode cL_law 192 = .ok (.ifCond .ne 5, 3) := by decide +kernel
theorem dL_law_195 : decode cL_law 195 = .ok (.iconst 0, 1) := by decide +kernel
theorem dL_law_196 : decode cL_law 196 = .ok (.ireturn, 1) := by decide +kernel
theorem dL_law_197 : decode cL_law 197 = .ok (.aload_n 1, 1) := by decide +kernel
theorem dL_law_198 : decode cL_law 198 = .ok (.invokestatic 50, 3) := by decide +kernel
theorem dL_law_201 : decode cL_law 201 = .ok (.istore 6, 2) := by decide +kernel
theorem dL_law_203 : decode cL_law 203 = .ok (.aload_n 1, 1) := by decide +kernel
theorem dL_law_204 : decode cL_law 204 = .ok (.invokevirtual 47, 3) := by decide +kernel
theorem dL_law_207 : decode cL_law 207 = .ok (.iload 6, 2) := by decide +kernel
theorem dL_law_209 : decode cL_law 209 = .ok (.if_icmp .ne 11, 3) := by decide +kernel
theorem dL_law_212 : decode cL_law 212 = .ok (.aload_n 1, 1) := by decide +kernel
theorem dL_law_213 : decode cL_law 213 = .ok (.aload_n 0, 1) := by decide +kernel
theorem dL_law_214 : decode cL_law 214 = .ok (.invokestatic 134, 3) := by decide +kernel
theorem dL_law_217 : decode cL_law 217 = .ok (.ifCond .ne 5, 3) := by decide +kernel
theorem dL_law_220 : decode cL_law 220 = .ok (.iconst 0, 1) := by decide +kernel
theorem dL_law_221 : decode cL_law 221 = .ok (.ireturn, 1) := by decide +kernel
theorem dL_law_222 : decode cL_law 222 = .ok (.aload_n 1, 1) := by decide +kernel
theorem dL_law_223 : decode cL_law 223 = .ok (.aload_n 0, 1) := by decide +kernel
theorem dL_law_224 : decode cL_law 224 = .ok (.iconst 1, 1) := by decide +kernel
theorem dL_law_225 : decode cL_law 225 = .ok (.invokestatic 68, 3) := by decide +kernel
theorem dL_law_228 : decode cL_law 228 = .ok (.invokestatic 126, 3) := by decide +kernel
theorem dL_law_231 : decode cL_law 231 = .ok (.istore 7, 2) := by decide +kernel
theorem dL_law_233 : decode cL_law 233 = .ok (.iload 7, 2) := by decide +kernel
theorem dL_law_235 : decode cL_law 235 = .ok (.iconst (-1), 1) := by decide +kernel
theorem dL_law_236 : decode cL_law 236 = .ok (.if_icmp .lt 28, 3) := by decide +kernel
theorem dL_law_239 : decode cL_law 239 = .ok (.aload_n 1, 1) := by decide +kernel
theorem dL_law_240 : decode cL_law 240 = .ok (.aload_n 0, 1) := by decide +kernel
theorem dL_law_241 : decode cL_law 241 = .ok (.iload_n 2, 1) := by decide +kernel
theorem dL_law_242 : decode cL_law 242 = .ok (.iconst 1, 1) := by decide +kernel
theorem dL_law_243 : decode cL_law 243 = .ok (.iadd, 1) := by decide +kernel
theorem dL_law_244 : decode cL_law 244 = .ok (.iload 7, 2) := by decide +kernel
theorem dL_law_246 : decode cL_law 246 = .ok (.invokestatic 128, 3) := by decide +kernel
theorem dL_law_249 : decode cL_law 249 = .ok (.ifCond .eq 15, 3) := by decide +kernel
theorem dL_law_252 : decode cL_law 252 = .ok (.aload_n 1, 1) := by decide +kernel
theorem dL_law_253 : decode cL_law 253 = .ok (.aload_n 0, 1) := by decide +kernel
theorem dL_law_254 : decode cL_law 254 = .ok (.invokestatic 134, 3) := by decide +kernel
theorem dL_law_257 : decode cL_law 257 = .ok (.ifCond .eq 7, 3) := by decide +kernel
theorem dL_law_260 : decode cL_law 260 = .ok (.iconst 1, 1) := by decide +kernel
theorem dL_law_261 : decode cL_law 261 = .ok (.goto 4, 3) := by decide +kernel
theorem dL_law_264 : decode cL_law 264 = .ok (.iconst 0, 1) := by decide +kernel
theorem dL_law_265 : decode cL_law 265 = .ok (.ireturn, 1) := by decide +kernel
