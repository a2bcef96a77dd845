theorem dL_answers_118 : decode cL_answers 118 = .ok (.invokevirtual 108, 3) := by decide +kernel
theorem dL_answers_121 : decode cL_answers 121 = .ok (.iload 7, 2) := by decide +kernel
theorem dL_answers_123 : decode cL_answers 123 = .ok (.ifCond .eq 12, 3) := by decide +kernel
theorem dL_answers_126 : decode cL_answers 126 = .ok (.aload_n 1, 1) := by decide +kernel
theorem dL_answers_127 : decode cL_answers 127 = .ok (.lload 5, 2) := by decide +kernel
theorem dL_answers_129 : decode cL_answers 129 = .ok (.invokestatic 97, 3) := by decide +kernel
theorem dL_answers_132 : decode cL_answers 132 = .ok (.goto 4, 3) := by decide +kernel
theorem dL_answers_135 : decode cL_answers 135 = .ok (.iconst (-1), 1) := by decide +kernel
theorem dL_answers_136 : decode cL_answers 136 = .ok (.if_icmp .eq 5, 3) := by decide +kernel
theorem dL_answers_139 : decode cL_answers 139 = .ok (.iconst 0, 1) := by decide +kernel
theorem dL_answers_140 : decode cL_answers 140 = .ok (.ireturn, 1) := by decide +kernel
theorem dL_answers_141 : decode cL_answers 141 = .ok (.iload 7, 2) := by decide +kernel
theorem dL_answers_143 : decode cL_answers 143 = .ok (.ifCond .ne 6, 3) := by decide +kernel
theorem dL_answers_146 : decode cL_answers 146 = .ok (.goto 133, 3) := by decide +kernel
theorem dL_answers_149 : decode cL_answers 149 = .ok (.aload_n 1, 1) := by decide +kernel
theorem dL_answers_150 : decode cL_answers 150 = .ok (.iload_n 3, 1) := by decide +kernel
theorem dL_answers_151 : decode cL_answers 151 = .ok (.lload 5, 2) := by decide +kernel
theorem dL_answers_153 : decode cL_answers 153 = .ok (.invokestatic 110, 3) := by decide +kernel
theorem dL_answers_156 : decode cL_answers 156 = .ok (.istore 8, 2) := by decide +kernel
theorem dL_answers_158 : decode cL_answers 158 = .ok (.iconst 0, 1) := by decide +kernel
theorem dL_answers_159 : decode cL_answers 159 = .ok (.istore 9, 2) := by decide +kernel
theorem dL_answers_161 : decode cL_answers 161 = .ok (.iconst 0, 1) := by decide +kernel
theorem dL_answers_162 : decode cL_answers 162 = .ok (.istore 10, 2) := by decide +kernel
theorem dL_answers_164 : decode cL_answers 164 = .ok (.iload 10, 2) := by decide +kernel
theorem dL_answers_166 : decode cL_answers 166 = .ok (.bipush 8, 2) := by decide +kernel
theorem dL_answers_168 : decode cL_answers 168 = .ok (.if_icmp .ge 60, 3) := by decide +kernel
theorem dL_answers_171 : decode cL_answers 171 = .ok (.aload_n 0, 1) := by decide +kernel
theorem dL_answers_172 : decode cL_answers 172 = .ok (.iload 10, 2) := by decide +kernel
theorem dL_answers_174 : decode cL_answers 174 = .ok (.iconst 3, 1) := by decide +kernel
theorem dL_answers_175 : decode cL_answers 175 = .ok (.invokevirtual 35, 3) := by decide +kernel
theorem dL_answers_178 : decode cL_answers 178 = .ok (.iconst 1, 1) := by decide +kernel
theorem dL_answers_179 : decode cL_answers 179 = .ok (.if_icmp .ne 43, 3) := by decide +kernel
theorem dL_answers_182 : decode cL_answers 182 = .ok (.aload_n 1, 1) := by decide +kernel
theorem dL_answers_183 : decode cL_answers 183 = .ok (.aload_n 0, 1) := by decide +kernel
theorem dL_answers_184 : decode cL_answers 184 = .ok (.iload 10, 2) := by decide +kernel
theorem dL_answers_186 : decode cL_answers 186 = .ok (.invokevirtual 65, 3) := by decide +kernel
theorem dL_answers_189 : decode cL_answers 189 = .ok (.invokestatic 101, 3) := by decide +kernel
theorem dL_answers_192 : decode cL_answers 192 = .ok (.ifCond .eq 30, 3) := by decide +kernel
theorem dL_answers_195 : decode cL_answers 195 = .ok (.iload_n 3, 1) := by decide +kernel
theorem dL_answers_196 : decode cL_answers 196 = .ok (.aload_n 1, 1) := by decide +kernel
theorem dL_answers_197 : decode cL_answers 197 = .ok (.iload_n 3, 1) := by decide +kernel
theorem dL_answers_198 : decode cL_answers 198 = .ok (.aload_n 0, 1) := by decide +kernel
theorem dL_answers_199 : decode cL_answers 199 = .ok (.iload 10, 2) := by decide +kernel
theorem dL_answers_201 : decode cL_answers 201 = .ok (.invokevirtual 65, 3) := by decide +kernel
theorem dL_answers_204 : decode cL_answers 204 = .ok (.invokestatic 110, 3) := by decide +kernel
theorem dL_answers_207 : decode cL_answers 207 = .ok (.iload 10, 2) := by decide +kernel
theorem dL_answers_209 : decode cL_answers 209 = .ok (.iload 8, 2) := by decide +kernel
theorem dL_answers_211 : decode cL_answers 211 = .ok (.iload 4, 2) := by decide +kernel
theorem dL_answers_213 : decode cL_answers 213 = .ok (.invokestatic 113, 3) := by decide +kernel
theorem dL_answers_216 : decode cL_answers 216 = .ok (.ifCond .eq 6, 3) := by decide +kernel
theorem dL_answers_219 : decode cL_answers 219 = .ok (.iinc 9 1, 3) := by decide +kernel
theorem dL_answers_222 : decode cL_answers 222 = .ok (.iinc 10 1, 3) := by decide +kernel
theorem dL_answers_225 : decode cL_answers 225 = .ok (.goto (-61), 3) := by decide +kernel
theorem dL_answers_228 : decode cL_answers 228 = .ok (.aload_n 0, 1) := by decide +kernel
theorem dL_answers_229 : decode cL_answers 229 = .ok (.iload_n 3, 1) := by decide +kernel
theorem dL_answers_230 : decode cL_answers 230 = .ok (.iload 9, 2) := by decide +kernel
theorem dL_answers_232 : decode cL_answers 232 = .ok (.invokevirtual 105, 3) := by decide +kernel
theorem dL_answers_235 : decode cL_answers 235 = .ok (.iload 4, 2) := by decide +kernel
theorem dL_answers_237 : decode cL_answers 237 = .ok (.if_icmp .ne 40, 3) := by decide +kernel
theorem dL_answers_240 : decode cL_answers 240 = .ok (.aload_n 0, 1) := by decide +kernel
theorem dL_answers_241 : decode cL_answers 241 = .ok (.iload_n 3, 1) := by decide +kernel
theorem dL_answers_242 : decode cL_answers 242 = .ok (.iload 8, 2) := by decide +kernel
theorem dL_answers_244 : decode cL_answers 244 = .ok (.iload 4, 2) := by decide +kernel
theorem dL_answers_246 : decode cL_answers 246 = .ok (.invokevirtual 117, 3) := by decide +kernel
theorem dL_answers_249 : decode cL_answers 249 = .ok (.aload_n 0, 1) := by decide +kernel
theorem dL_answers_250 : decode cL_answers 250 = .ok (.iload_n 3, 1) := by decide +kernel
theorem dL_answers_251 : decode cL_answers 251 = .ok (.iload 9, 2) := by decide +kernel
theorem dL_answers_253 : decode cL_answers 253 = .ok (.iconst 1, 1) := by decide +kernel
theorem dL_answers_254 : decode cL_answers 254 = .ok (.iadd, 1) := by decide +kernel
theorem dL_answers_255 : decode cL_answers 255 = .ok (.invokevirtual 105, 3) := by decide +kernel
theorem dL_answers_258 : decode cL_answers 258 = .ok (.if_icmp .ne 19, 3) := by decide +kernel
theorem dL_answers_261 : decode cL_answers 261 = .ok (.aload_n 0, 1) := by decide +kernel
theorem dL_answers_262 : decode cL_answers 262 = .ok (.iload_n 3, 1) := by decide +kernel
theorem dL_answers_263 : decode cL_answers 263 = .ok (.iload 8, 2) := by decide +kernel
theorem dL_answers_265 : decode cL_answers 265 = .ok (.iload 4, 2) := by decide +kernel
theorem dL_answers_267 : decode cL_answers 267 = .ok (.iconst 1, 1) := by decide +kernel
theorem dL_answers_268 : decode cL_answers 268 = .ok (.isub, 1) := by decide +kernel
theorem dL_answers_269 : decode cL_answers 269 = .ok (.invokevirtual 117, 3) := by decide +kernel
theorem dL_answers_272 : decode cL_answers 272 = .ok (.iload 4, 2) := by decide +kernel
theorem dL_answers_274 : decode cL_answers 274 = .ok (.if_icmp .eq 5, 3) := by decide +kernel
theorem dL_answers_277 : decode cL_answers 277 = .ok (.iconst 0, 1) := by decide +kernel
theorem dL_answers_278 : decode cL_answers 278 = .ok (.ireturn, 1) := by decide +kernel
theorem dL_answers_279 : decode cL_answers 279 = .ok (.iinc 4 1, 3) := by decide +kernel
theorem dL_answers_282 : decode cL_answers 282 = .ok (.goto (-209), 3) := by decide +kernel
theorem dL_answers_285 : decode cL_answers 285 = .ok (.iinc 3 1, 3) := by decide +kernel
theorem dL_answers_288 : decode cL_answers 288 = .ok (.goto (-245), 3) := by decide +kernel
theorem dL_answers_291 : decode cL_answers 291 = .ok (.iconst 1, 1) := by decide +kernel
theorem dL_answers_292 : decode cL_answers 292 = .ok (.ireturn, 1) := by decide +kernel
set_option maxRecDepth 20000 in
theorem glL_hits_X5_hit_r1 : GoodIn wsL_hits wsX5_hit_r1 := goodIn_r _ [7, 8, 9, 10, 11, 5, 12, 13, 14, 15, 16, 17, 18, 19, 20, 21, 22, 23, 24, 25, 26, 27, 28, 29] (by decide +kernel) (by decide +kernel)
set_option maxRecDepth 20000 in
theorem glL_hits_X5_hit_r2 : GoodIn wsL_hits wsX5_hit_r2 := goodIn_r _ [30, 31, 32, 33, 34, 35, 36, 37, 38, 39, 40, 41, 42, 43, 44, 45, 46, 47, 48, 49, 50, 51, 52, 53] (by decide +kernel) (by decide +kernel)
set_option maxRecDepth 20000 in
theorem glL_hits_X5_hit_r3 : GoodIn wsL_hits wsX5_hit_r3 := goodIn_r _ [54, 55, 56, 57, 58, 59, 60, 61, 62, 63, 64, 65, 66, 67, 68, 69, 70, 71, 72, 73, 74, 75, 76, 77] (by decide +kernel) (by decide +kernel)
set_option maxRecDepth 20000 in
theorem glL_hits_X5_hit_r4 : GoodIn wsL_hits wsX5_hit_r4 := goodIn_r _ [78, 79, 80, 81, 82, 83, 84, 85, 86, 87, 88, 89, 90, 91, 92] (by decide +kernel) (by decide +kernel)
set_option maxRecDepth 20000 in
theorem glL_hits_X50 : GoodIn wsL_hits wsX50 := goodIn_r _ [93, 94, 95, 96, 97, 98, 99, 100, 101, 102] (by decide +kernel) (by decide +kernel)
set_option maxRecDepth 20000 in
theorem glL_hits_X40 : GoodIn wsL_hits wsX40 := goodIn_r _ [103, 104, 105, 106, 107, 108] (by decide +kernel) (by decide +kernel)
set_option maxRecDepth 20000 in
theorem glL_hits_X00 : GoodIn wsL_hits wsX00 := goodIn_r _ [109, 110, 111, 112] (by decide +kernel) (by decide +kernel)
theorem ggL_hits_X5_hit : GoodIn wsL_hits wsX5_hit := goodIn_c1 (goodIn_r [Cond.code yX5_hit cX5_hit 4 (some .int)] [6] (by decide +kernel) (by decide +kernel)) (goodIn_app (goodIn_app (goodIn_app (goodIn_app glL_hits_X5_hit_r1 (goodIn_app glL_hits_X5_hit_r2 (goodIn_app glL_hits_X5_hit_r3 glL_hits_X5_hit_r4))) glL_hits_X50) glL_hits_X40) glL_hits_X00)
set_option maxRecDepth 20000 in
theorem gL_hits_X5_hit : GoodIn wsL_hits (wsV RL 105 RX5 yX5_hit wsX5_hit) := goodIn_app (goodIn_of _ (by decide +kernel)) ggL_hits_X5_hit
theorem dL_hits_0 : decode cL_hits 0 = .ok (.lconst 0, 1) := by decide +kernel
theorem dL_hits_1 : decode cL_hits 1 = .ok (.lstore_n 1, 1) := by decide +kernel
theorem dL_hits_2 : decode cL_hits 2 = .ok (.iconst 0, 1) := by decide +kernel
theorem dL_hits_3 : decode cL_hits 3 = .ok (.istore_n 3, 1) := by decide +kernel
theorem dL_hits_4 : decode cL_hits 4 = .ok (.iload_n 3, 1) := by decide +kernel
theorem dL_hits_5 : decode cL_hits 5 = .ok (.iconst 3, 1) := by decide +kernel
theorem dL_hits_6 : decode cL_hits 6 = .ok (.if_icmp .ge 40, 3) := by decide +kernel
theorem dL_hits_9 : decode cL_hits 9 = .ok (.iconst (-1), 1) := by decide +kernel
theorem dL_hits_10 : decode cL_hits 10 = .ok (.istore 4, 2) := by decide +kernel
theorem dL_hits_12 : decode cL_hits 12 = .ok (.iload 4, 2) := by decide +kernel
theorem dL_hits_14 : decode cL_hits 14 = .ok (.bipush 9, 2) := by decide +kernel
theorem dL_hits_16 : decode cL_hits 16 = .ok (.if_icmp .ge 24, 3) := by decide +kernel
theorem dL_hits_19 : decode cL_hits 19 = .ok (.lload_n 1, 1) := by decide +kernel
theorem dL_hits_20 : decode cL_hits 20 = .ok (.ldc2_w 120, 3) := by decide +kernel
theorem dL_hits_23 : decode cL_hits 23 = .ok (.lmul, 1) := by decide +kernel
theorem dL_hits_24 : decode cL_hits 24 = .ok (.aload_n 0, 1) := by decide +kernel
theorem dL_hits_25 : decode cL_hits 25 = .ok (.iload_n 3, 1) := by decide +kernel
theorem dL_hits_26 : decode cL_hits 26 = .ok (.iload 4, 2) := by decide +kernel
theorem dL_hits_28 : decode cL_hits 28 = .ok (.invokevirtual 105, 3) := by decide +kernel
theorem dL_hits_31 : decode cL_hits 31 = .ok (.i2l, 1) := by decide +kernel
theorem dL_hits_32 : decode cL_hits 32 = .ok (.ladd, 1) := by decide +kernel
theorem dL_hits_33 : decode cL_hits 33 = .ok (.lstore_n 1, 1) := by decide +kernel
theorem dL_hits_34 : decode cL_hits 34 = .ok (.iinc 4 1, 3) := by decide +kernel
theorem dL_hits_37 : decode cL_hits 37 = .ok (.goto (-25), 3) := by decide +kernel
theorem dL_hits_40 : decode cL_hits 40 = .ok (.iinc 3 1, 3) := by decide +kernel
theorem dL_hits_43 : decode cL_hits 43 = .ok (.goto (-39), 3) := by decide +kernel
theorem dL_hits_46 : decode cL_hits 46 = .ok (.lload_n 1, 1) := by decide +kernel
theorem dL_hits_47 : decode cL_hits 47 = .ok (.lreturn, 1) := by decide +kernel
set_option maxRecDepth 20000 in
theorem glL_law_X5_init_r1 : GoodIn wsL_law wsX5_init_r1 := goodIn_r _ [6, 7, 8, 9, 10, 11, 12, 13, 14, 15, 16, 17, 18, 19, 20, 21, 22, 23, 24, 25, 26, 27, 28, 29] (by decide +kernel) (by decide +kernel)
set_option maxRecDepth 20000 in
theorem glL_law_X5_init_r2 : GoodIn wsL_law wsX5_init_r2 := goodIn_r _ [30, 31, 32, 33, 34, 35, 36, 37, 38, 39, 40, 41, 42, 43, 44, 45, 46, 47, 48, 49, 50, 51, 52, 53] (by decide +kernel) (by decide +kernel)
set_option maxRecDepth 20000 in
theorem glL_law_X5_init_r3 : GoodIn wsL_law wsX5_init_r3 := goodIn_r _ [54, 55, 56, 57, 58, 59, 60, 61, 62, 63, 64, 65, 66, 67, 68, 69, 70, 71, 72, 73, 74, 75, 76, 77] (by decide +kernel) (by decide +kernel)
set_option maxRecDepth 20000 in
theorem glL_law_X5_init_r4 : GoodIn wsL_law wsX5_init_r4 := goodIn_r _ [78, 79, 80] (by decide +kernel) (by decide +kernel)
set_option maxRecDepth 20000 in
theorem glL_law_X10 : GoodIn wsL_law wsX10 := goodIn_r _ [467, 468, 469, 470] (by decide +kernel) (by decide +kernel)
set_option maxRecDepth 20000 in
theorem glL_law_X50 : GoodIn wsL_law wsX50 := goodIn_r _ [457, 458, 459, 460, 461, 462, 463, 464, 465, 466] (by decide +kernel) (by decide +kernel)
set_option maxRecDepth 20000 in
theorem glL_law_X00 : GoodIn wsL_law wsX00 := goodIn_r _ [471, 472, 473, 474] (by decide +kernel) (by decide +kernel)
set_option maxRecDepth 20000 in
theorem glL_law_X20 : GoodIn wsL_law wsX20 := goodIn_r _ [475, 476, 477, 478, 479, 480] (by decide +kernel) (by decide +kernel)
set_option maxRecDepth 20000 in
theorem glL_law_X40 : GoodIn wsL_law wsX40 := goodIn_r _ [481, 482, 483, 484, 485, 486] (by decide +kernel) (by decide +kernel)
set_option maxRecDepth 20000 in
theorem glL_law_X30 : GoodIn wsL_law wsX30 := goodIn_r _ [487, 488, 489, 490, 491] (by decide +kernel) (by decide +kernel)
theorem ggL_law_X5_init : GoodIn wsL_law wsX5_init := goodIn_c1 (goodIn_r [Cond.code yX5_init cX5_init 1 none] [5] (by decide +kernel) (by decide +kernel)) (goodIn_app (goodIn_app (goodIn_app (goodIn_app (goodIn_app (goodIn_app (goodIn_app glL_law_X5_init_r1 (goodIn_app glL_law_X5_init_r2 (goodIn_app glL_law_X5_init_r3 glL_law_X5_init_r4))) glL_law_X10) glL_law_X50) glL_law_X00) glL_law_X20) glL_law_X40) glL_law_X30)
set_option maxRecDepth 20000 in
theorem gL_law_X5_init : GoodIn wsL_law (wsX5_init) := ggL_law_X5_init
set_option maxRecDepth 20000 in
theorem glL_law_L_turns_r1 : GoodIn wsL_law wsL_turns_r1 := goodIn_r _ [85, 86, 87, 2, 88, 34, 12, 89, 90, 32, 21, 91, 92, 93, 13, 17, 94, 95, 96, 20, 97, 58, 57, 98] (by decide +kernel) (by decide +kernel)
set_option maxRecDepth 20000 in
theorem glL_law_L_turns_r2 : GoodIn wsL_law wsL_turns_r2 := goodIn_r _ [99, 100, 101, 61, 102, 103, 104, 105, 106, 107, 16, 108, 109, 110, 111, 112, 113, 114, 115, 116, 47, 117, 118, 119] (by decide +kernel) (by decide +kernel)
set_option maxRecDepth 20000 in
theorem glL_law_L_turns_r3 : GoodIn wsL_law wsL_turns_r3 := goodIn_r _ [120, 83, 121, 122, 123, 124, 125, 126, 127, 128, 129, 130, 131, 132, 48, 133, 134, 135, 136, 49, 137, 138, 139, 140] (by decide +kernel) (by decide +kernel)
set_option maxRecDepth 20000 in
theorem glL_law_L_turns_r4 : GoodIn wsL_law wsL_turns_r4 := goodIn_r _ [141, 142, 143, 144, 145, 146, 147, 148, 149, 150, 151, 29, 152, 153, 154, 155, 156, 157, 158, 159, 160, 161, 162, 163] (by decide +kernel) (by decide +kernel)
set_option maxRecDepth 20000 in
theorem glL_law_L_turns_r5 : GoodIn wsL_law wsL_turns_r5 := goodIn_r _ [164, 165, 166, 28, 167, 76, 77, 78, 79, 80, 168, 169, 170, 171, 172, 173, 174, 175, 176, 177, 178, 179, 180, 181] (by decide +kernel) (by decide +kernel)
set_option maxRecDepth 20000 in
theorem glL_law_L_turns_r6 : GoodIn wsL_law wsL_turns_r6 := goodIn_r _ [182, 183, 184, 60, 185, 186, 187, 188, 189, 190, 191, 192, 193, 194, 195, 196, 197, 62, 198, 199, 200, 201, 202, 203] (by decide +kernel) (by decide +kernel)
set_option maxRecDepth 20000 in
theorem glL_law_L_turns_r7 : GoodIn wsL_law wsL_turns_r7 := goodIn_r _ [204, 11, 205, 206, 39, 207, 208, 209, 210, 40, 42, 41, 211, 212, 213, 214, 215, 216, 217, 218, 219, 51, 220, 221] (by decide +kernel) (by decide +kernel)
set_option maxRecDepth 20000 in
theorem glL_law_L_turns_r8 : GoodIn wsL_law wsL_turns_r8 := goodIn_r _ [222, 223, 224, 225, 226, 227, 228, 229, 230, 231, 232, 59, 233, 234, 235, 236, 237, 238, 239, 240, 241, 242, 243, 244] (by decide +kernel) (by decide +kernel)
set_option maxRecDepth 20000 in
theorem glL_law_L_turns_r9 : GoodIn wsL_law wsL_turns_r9 := goodIn_r _ [245, 246, 247, 248, 249, 250, 251, 252, 253, 254, 255, 256, 257, 258, 259, 260, 261, 262, 263, 264, 265, 266, 267, 268] (by decide +kernel) (by decide +kernel)
theorem ggL_law_L_turns : GoodIn wsL_law wsL_turns := goodIn_c1 (goodIn_r [Cond.code yL_turns cL_turns 9 (some .boolean)] [84] (by decide +kernel) (by decide +kernel)) (goodIn_app (goodIn_app (goodIn_app (goodIn_app (goodIn_app (goodIn_app glL_law_L_turns_r1 (goodIn_app glL_law_L_turns_r2 (goodIn_app glL_law_L_turns_r3 (goodIn_app glL_law_L_turns_r4 (goodIn_app glL_law_L_turns_r5 (goodIn_app glL_law_L_turns_r6 (goodIn_app glL_law_L_turns_r7 (goodIn_app glL_law_L_turns_r8 glL_law_L_turns_r9)))))))) glL_law_X50) glL_law_X10) glL_law_X20) glL_law_X00) glL_law_X30)
set_option maxRecDepth 20000 in
theorem gL_law_L_turns : GoodIn wsL_law (va_wsS RL 122 yL_turns wsL_turns) := goodIn_app (goodIn_of _ (by decide +kernel)) ggL_law_L_turns
set_option maxRecDepth 20000 in
theorem ggL_law_L_cell : GoodIn wsL_law wsL_cell := goodIn_r _ [271] (by decide +kernel) (by decide +kernel)
set_option maxRecDepth 20000 in
theorem gL_law_L_cell : GoodIn wsL_law (va_wsS RL 68 yL_cell wsL_cell) := goodIn_app (goodIn_of _ (by decide +kernel)) ggL_law_L_cell
set_option maxRecDepth 20000 in
theorem glL_law_L_crash_r1 : GoodIn wsL_law wsL_crash_r1 := goodIn_r _ [85, 86, 87, 2, 88, 34, 12, 89, 90, 32, 21, 91, 92, 93, 13, 17, 94, 95, 96, 20, 97, 58, 57, 98] (by decide +kernel) (by decide +kernel)
set_option maxRecDepth 20000 in
theorem glL_law_L_crash_r2 : GoodIn wsL_law wsL_crash_r2 := goodIn_r _ [99, 100, 101, 61, 102, 103, 104, 105, 106, 107, 16, 108, 109, 110, 111, 112, 113, 114, 115, 116, 47, 117, 118, 275] (by decide +kernel) (by decide +kernel)
set_option maxRecDepth 20000 in
theorem glL_law_L_crash_r3 : GoodIn wsL_law wsL_crash_r3 := goodIn_r _ [276, 277, 278, 279, 234, 235, 236, 59, 160, 280, 281, 282, 283, 284, 285, 286, 287, 288, 289, 290, 291, 292, 293, 294] (by decide +kernel) (by decide +kernel)
set_option maxRecDepth 20000 in
theorem glL_law_L_crash_r4 : GoodIn wsL_law wsL_crash_r4 := goodIn_r _ [295, 60, 296, 297, 298, 299, 33, 126, 237, 238, 239, 11, 240, 39, 40, 41, 42, 241, 242, 243, 244, 48, 49, 51] (by decide +kernel) (by decide +kernel)
set_option maxRecDepth 20000 in
theorem glL_law_L_crash_r5 : GoodIn wsL_law wsL_crash_r5 := goodIn_r _ [300, 301, 302, 303, 29, 304, 305, 250, 251, 252, 62, 306, 307, 308, 309, 190, 191, 192, 193, 162, 163, 310, 311, 312] (by decide +kernel) (by decide +kernel)
set_option maxRecDepth 20000 in
theorem glL_law_L_crash_r6 : GoodIn wsL_law wsL_crash_r6 := goodIn_r _ [313, 185, 186, 187, 188, 189, 314, 165, 166, 28, 167, 76, 77, 78, 79, 80, 315, 316, 317, 318, 319, 195, 196, 197] (by decide +kernel) (by decide +kernel)
set_option maxRecDepth 20000 in
theorem glL_law_L_crash_r7 : GoodIn wsL_law wsL_crash_r7 := goodIn_r _ [198, 199, 200, 201, 320, 321, 322, 323, 202, 203, 204, 205, 206, 207, 208, 209, 210, 211, 212, 213, 214, 215, 216, 217] (by decide +kernel) (by decide +kernel)
set_option maxRecDepth 20000 in
theorem glL_law_L_crash_r8 : GoodIn wsL_law wsL_crash_r8 := goodIn_r _ [218, 219, 220, 229, 230, 231, 232, 233, 265, 266, 267, 83, 268, 122, 123, 124, 125, 127, 128, 129, 130, 131, 132, 133] (by decide +kernel) (by decide +kernel)
set_option maxRecDepth 20000 in
theorem glL_law_L_crash_r9 : GoodIn wsL_law wsL_crash_r9 := goodIn_r _ [134, 135, 136, 137] (by decide +kernel) (by decide +kernel)
theorem ggL_law_L_crash : GoodIn wsL_law wsL_crash := goodIn_c1 (goodIn_r [Cond.code yL_crash cL_crash 12 (some .int)] [274] (by decide +kernel) (by decide +kernel)) (goodIn_app (goodIn_app (goodIn_app (goodIn_app (goodIn_app (goodIn_app glL_law_L_crash_r1 (goodIn_app glL_law_L_crash_r2 (goodIn_app glL_law_L_crash_r3 (goodIn_app glL_law_L_crash_r4 (goodIn_app glL_law_L_crash_r5 (goodIn_app glL_law_L_crash_r6 (goodIn_app glL_law_L_crash_r7 (goodIn_app glL_law_L_crash_r8 glL_law_L_crash_r9)))))))) glL_law_X50) glL_law_X10) glL_law_X20) glL_law_X00) glL_law_X30)
set_option maxRecDepth 20000 in
theorem gL_law_L_crash : GoodIn wsL_law (va_wsS RL 126 yL_crash wsL_crash) := goodIn_app (goodIn_of _ (by decide +kernel)) ggL_law_L_crash
set_option maxRecDepth 20000 in
theorem glL_law_L_same_r1 : GoodIn wsL_law wsL_same_r1 := goodIn_r _ [0, 1, 2, 3, 4, 5, 6, 7, 8, 9, 10, 11, 12, 13, 14, 15, 16, 17, 18, 19, 20, 21, 22, 23] (by decide +kernel) (by decide +kernel)
set_option maxRecDepth 20000 in
theorem glL_law_L_same_r2 : GoodIn wsL_law wsL_same_r2 := goodIn_r _ [24, 25, 26, 27, 28, 29, 30, 31, 32, 33, 34, 35, 36, 37, 38, 39, 40, 41, 42, 43, 44, 45, 46, 47] (by decide +kernel) (by decide +kernel)
set_option maxRecDepth 20000 in
theorem glL_law_L_same_r3 : GoodIn wsL_law wsL_same_r3 := goodIn_r _ [48, 49, 50, 51, 52, 53, 54, 55, 56, 57, 58, 59, 60, 61, 62, 63, 64, 65, 66, 67, 68, 69, 70, 71] (by decide +kernel) (by decide +kernel)
set_option maxRecDepth 20000 in
theorem glL_law_L_same_r4 : GoodIn wsL_law wsL_same_r4 := goodIn_r _ [72, 73, 74, 75, 76, 77, 78, 79, 80, 119, 120, 83, 121, 138, 139, 140, 141, 142, 143, 144, 145, 146, 147, 148] (by decide +kernel) (by decide +kernel)
set_option maxRecDepth 20000 in
theorem glL_law_L_same_r5 : GoodIn wsL_law wsL_same_r5 := goodIn_r _ [149, 150, 89, 90, 126, 151, 127, 117, 118, 152, 153, 154, 155, 137, 110, 111, 112, 113, 114, 115, 116, 129, 130, 131] (by decide +kernel) (by decide +kernel)
set_option maxRecDepth 20000 in
theorem glL_law_L_same_r6 : GoodIn wsL_law wsL_same_r6 := goodIn_r _ [132, 156, 157, 158, 159, 160, 99, 100, 101, 102, 103, 104, 161, 162, 163, 133, 134, 135, 136, 164, 165, 166, 167, 168] (by decide +kernel) (by decide +kernel)
set_option maxRecDepth 20000 in
theorem glL_law_L_same_r7 : GoodIn wsL_law wsL_same_r7 := goodIn_r _ [169, 170, 171, 172, 173, 174, 175, 176, 177, 178, 179, 180, 181, 182, 183, 184, 185, 186, 187, 188, 189, 190, 191, 192] (by decide +kernel) (by decide +kernel)
set_option maxRecDepth 20000 in
theorem glL_law_L_same_r8 : GoodIn wsL_law wsL_same_r8 := goodIn_r _ [193, 194, 195, 196, 197, 198, 199, 200, 201, 202, 203, 204, 205, 206, 207, 208, 209, 210, 211, 212, 213, 214, 215, 216] (by decide +kernel) (by decide +kernel)
set_option maxRecDepth 20000 in
theorem glL_law_L_same_r9 : GoodIn wsL_law wsL_same_r9 := goodIn_r _ [217, 218, 219, 220, 221, 222, 223, 224, 91, 225, 226, 227, 228, 94, 95, 96, 97, 229, 230, 231, 232, 233, 234, 235] (by decide +kernel) (by decide +kernel)
set_option maxRecDepth 20000 in
theorem glL_law_L_same_r10 : GoodIn wsL_law wsL_same_r10 := goodIn_r _ [236, 237, 238, 239, 240, 241, 242, 243, 244, 245, 246, 247, 248, 249, 250, 251, 252, 122, 123, 124, 125, 128, 327, 328] (by decide +kernel) (by decide +kernel)
set_option maxRecDepth 20000 in
theorem glL_law_L_same_r11 : GoodIn wsL_law wsL_same_r11 := goodIn_r _ [329, 330, 331, 332, 333, 334, 335, 336] (by decide +kernel) (by decide +kernel)
theorem ggL_law_L_same : GoodIn wsL_law wsL_same := goodIn_c1 (goodIn_r [Cond.code yL_same cL_same 8 (some .boolean)] [326] (by decide +kernel) (by decide +kernel)) (goodIn_app (goodIn_app (goodIn_app (goodIn_app (goodIn_app (goodIn_app (goodIn_app glL_law_L_same_r1 (goodIn_app glL_law_L_same_r2 (goodIn_app glL_law_L_same_r3 (goodIn_app glL_law_L_same_r4 (goodIn_app glL_law_L_same_r5 (goodIn_app glL_law_L_same_r6 (goodIn_app glL_law_L_same_r7 (goodIn_app glL_law_L_same_r8 (goodIn_app glL_law_L_same_r9 (goodIn_app glL_law_L_same_r10 glL_law_L_same_r11)))))))))) glL_law_X50) glL_law_X10) glL_law_X00) glL_law_X20) glL_law_X40) glL_law_X30)
set_option maxRecDepth 20000 in
theorem gL_law_L_same : GoodIn wsL_law (va_wsS RL 128 yL_same wsL_same) := goodIn_app (goodIn_of _ (by decide +kernel)) ggL_law_L_same
set_option maxRecDepth 20000 in
theorem ggL_law_L_tokens : GoodIn wsL_law wsL_tokens := goodIn_r _ [339, 340, 341, 83, 342, 343, 344, 345, 269, 270, 271] (by decide +kernel) (by decide +kernel)
set_option maxRecDepth 20000 in
theorem gL_law_L_tokens : GoodIn wsL_law (va_wsS RL 89 yL_tokens wsL_tokens) := goodIn_app (goodIn_of _ (by decide +kernel)) ggL_law_L_tokens
set_option maxRecDepth 20000 in
theorem glL_law_X5_hit_r1 : GoodIn wsL_law wsX5_hit_r1 := goodIn_r _ [34, 25, 31, 350, 351, 2, 352, 353, 354, 355, 24, 356, 66, 67, 357, 358, 359, 360, 361, 362, 363, 17, 137, 110] (by decide +kernel) (by decide +kernel)
set_option maxRecDepth 20000 in
theorem glL_law_X5_hit_r2 : GoodIn wsL_law wsX5_hit_r2 := goodIn_r _ [111, 16, 112, 113, 114, 115, 116, 47, 117, 118, 333, 334, 335, 336, 51, 364, 365, 366, 367, 368, 369, 200, 370, 71] (by decide +kernel) (by decide +kernel)
set_option maxRecDepth 20000 in
theorem glL_law_X5_hit_r3 : GoodIn wsL_law wsX5_hit_r3 := goodIn_r _ [72, 371, 372, 373, 374, 68, 69, 375, 376, 377, 378, 379, 380, 381, 382, 383, 384, 385, 386, 387, 388, 389, 390, 391] (by decide +kernel) (by decide +kernel)
set_option maxRecDepth 20000 in
theorem glL_law_X5_hit_r4 : GoodIn wsL_law wsX5_hit_r4 := goodIn_r _ [392, 393, 394, 395, 396, 397, 398, 399, 400, 401, 402, 127, 403, 404, 405] (by decide +kernel) (by decide +kernel)
theorem ggL_law_X5_hit : GoodIn wsL_law wsX5_hit := goodIn_c1 (goodIn_r [Cond.code yX5_hit cX5_hit 4 (some .int)] [349] (by decide +kernel) (by decide +kernel)) (goodIn_app (goodIn_app (goodIn_app (goodIn_app glL_law_X5_hit_r1 (goodIn_app glL_law_X5_hit_r2 (goodIn_app glL_law_X5_hit_r3 glL_law_X5_hit_r4))) glL_law_X50) glL_law_X40) glL_law_X00)
set_option maxRecDepth 20000 in
theorem gL_law_X5_hit : GoodIn wsL_law (wsV RL 105 RX5 yX5_hit wsX5_hit) := goodIn_app (goodIn_of _ (by decide +kernel)) ggL_law_X5_hit
