theorem dL_turns_33 : decode cL_turns 33 = .ok (.bipush 15, 2) := by decide +kernel
theorem dL_turns_35 : decode cL_turns 35 = .ok (.iand, 1) := by decide +kernel
theorem dL_turns_36 : decode cL_turns 36 = .ok (.istore 7, 2) := by decide +kernel
theorem dL_turns_38 : decode cL_turns 38 = .ok (.iload 5, 2) := by decide +kernel
theorem dL_turns_40 : decode cL_turns 40 = .ok (.invokestatic 31, 3) := by decide +kernel
theorem dL_turns_43 : decode cL_turns 43 = .ok (.ifCond .eq 69, 3) := by decide +kernel
theorem dL_turns_46 : decode cL_turns 46 = .ok (.aload_n 0, 1) := by decide +kernel
theorem dL_turns_47 : decode cL_turns 47 = .ok (.iload 5, 2) := by decide +kernel
theorem dL_turns_49 : decode cL_turns 49 = .ok (.iconst 4, 1) := by decide +kernel
theorem dL_turns_50 : decode cL_turns 50 = .ok (.ishr, 1) := by decide +kernel
theorem dL_turns_51 : decode cL_turns 51 = .ok (.bipush 7, 2) := by decide +kernel
theorem dL_turns_53 : decode cL_turns 53 = .ok (.iand, 1) := by decide +kernel
theorem dL_turns_54 : decode cL_turns 54 = .ok (.iconst 2, 1) := by decide +kernel
theorem dL_turns_55 : decode cL_turns 55 = .ok (.invokevirtual 35, 3) := by decide +kernel
theorem dL_turns_58 : decode cL_turns 58 = .ok (.istore 8, 2) := by decide +kernel
theorem dL_turns_60 : decode cL_turns 60 = .ok (.aload_n 0, 1) := by decide +kernel
theorem dL_turns_61 : decode cL_turns 61 = .ok (.iload 5, 2) := by decide +kernel
theorem dL_turns_63 : decode cL_turns 63 = .ok (.invokestatic 39, 3) := by decide +kernel
theorem dL_turns_66 : decode cL_turns 66 = .ok (.iload 6, 2) := by decide +kernel
theorem dL_turns_68 : decode cL_turns 68 = .ok (.if_icmp .ne 39, 3) := by decide +kernel
theorem dL_turns_71 : decode cL_turns 71 = .ok (.aload_n 0, 1) := by decide +kernel
theorem dL_turns_72 : decode cL_turns 72 = .ok (.iload 5, 2) := by decide +kernel
theorem dL_turns_74 : decode cL_turns 74 = .ok (.iconst 4, 1) := by decide +kernel
theorem dL_turns_75 : decode cL_turns 75 = .ok (.ishr, 1) := by decide +kernel
theorem dL_turns_76 : decode cL_turns 76 = .ok (.bipush 7, 2) := by decide +kernel
theorem dL_turns_78 : decode cL_turns 78 = .ok (.iand, 1) := by decide +kernel
theorem dL_turns_79 : decode cL_turns 79 = .ok (.iconst 2, 1) := by decide +kernel
theorem dL_turns_80 : decode cL_turns 80 = .ok (.invokevirtual 35, 3) := by decide +kernel
theorem dL_turns_83 : decode cL_turns 83 = .ok (.iload 8, 2) := by decide +kernel
theorem dL_turns_85 : decode cL_turns 85 = .ok (.iconst 1, 1) := by decide +kernel
theorem dL_turns_86 : decode cL_turns 86 = .ok (.iadd, 1) := by decide +kernel
theorem dL_turns_87 : decode cL_turns 87 = .ok (.if_icmp .ne 20, 3) := by decide +kernel
theorem dL_turns_90 : decode cL_turns 90 = .ok (.aload_n 0, 1) := by decide +kernel
theorem dL_turns_91 : decode cL_turns 91 = .ok (.iload 5, 2) := by decide +kernel
theorem dL_turns_93 : decode cL_turns 93 = .ok (.iconst 4, 1) := by decide +kernel
theorem dL_turns_94 : decode cL_turns 94 = .ok (.ishr, 1) := by decide +kernel
theorem dL_turns_95 : decode cL_turns 95 = .ok (.bipush 7, 2) := by decide +kernel
theorem dL_turns_97 : decode cL_turns 97 = .ok (.iand, 1) := by decide +kernel
theorem dL_turns_98 : decode cL_turns 98 = .ok (.iconst 1, 1) := by decide +kernel
theorem dL_turns_99 : decode cL_turns 99 = .ok (.invokevirtual 35, 3) := by decide +kernel
theorem dL_turns_102 : decode cL_turns 102 = .ok (.iload 6, 2) := by decide +kernel
theorem dL_turns_104 : decode cL_turns 104 = .ok (.if_icmp .eq 5, 3) := by decide +kernel
theorem dL_turns_107 : decode cL_turns 107 = .ok (.iconst 0, 1) := by decide +kernel
theorem dL_turns_108 : decode cL_turns 108 = .ok (.ireturn, 1) := by decide +kernel
theorem dL_turns_109 : decode cL_turns 109 = .ok (.goto 146, 3) := by decide +kernel
theorem dL_turns_112 : decode cL_turns 112 = .ok (.iload 7, 2) := by decide +kernel
theorem dL_turns_114 : decode cL_turns 114 = .ok (.bipush 10, 2) := by decide +kernel
theorem dL_turns_116 : decode cL_turns 116 = .ok (.if_icmp .ne 45, 3) := by decide +kernel
theorem dL_turns_119 : decode cL_turns 119 = .ok (.aload_n 0, 1) := by decide +kernel
theorem dL_turns_120 : decode cL_turns 120 = .ok (.iconst 5, 1) := by decide +kernel
theorem dL_turns_121 : decode cL_turns 121 = .ok (.invokevirtual 27, 3) := by decide +kernel
theorem dL_turns_124 : decode cL_turns 124 = .ok (.aload_n 0, 1) := by decide +kernel
theorem dL_turns_125 : decode cL_turns 125 = .ok (.bipush 6, 2) := by decide +kernel
theorem dL_turns_127 : decode cL_turns 127 = .ok (.invokevirtual 27, 3) := by decide +kernel
theorem dL_turns_130 : decode cL_turns 130 = .ok (.isub, 1) := by decide +kernel
theorem dL_turns_131 : decode cL_turns 131 = .ok (.istore 8, 2) := by decide +kernel
theorem dL_turns_133 : decode cL_turns 133 = .ok (.aload_n 0, 1) := by decide +kernel
theorem dL_turns_134 : decode cL_turns 134 = .ok (.iconst 0, 1) := by decide +kernel
theorem dL_turns_135 : decode cL_turns 135 = .ok (.invokevirtual 43, 3) := by decide +kernel
theorem dL_turns_138 : decode cL_turns 138 = .ok (.iload 8, 2) := by decide +kernel
theorem dL_turns_140 : decode cL_turns 140 = .ok (.if_icmp .ne 16, 3) := by decide +kernel
theorem dL_turns_143 : decode cL_turns 143 = .ok (.aload_n 0, 1) := by decide +kernel
theorem dL_turns_144 : decode cL_turns 144 = .ok (.iconst 2, 1) := by decide +kernel
theorem dL_turns_145 : decode cL_turns 145 = .ok (.invokevirtual 27, 3) := by decide +kernel
theorem dL_turns_148 : decode cL_turns 148 = .ok (.aload_n 0, 1) := by decide +kernel
theorem dL_turns_149 : decode cL_turns 149 = .ok (.iconst 1, 1) := by decide +kernel
theorem dL_turns_150 : decode cL_turns 150 = .ok (.invokevirtual 27, 3) := by decide +kernel
theorem dL_turns_153 : decode cL_turns 153 = .ok (.if_icmp .eq 5, 3) := by decide +kernel
theorem dL_turns_156 : decode cL_turns 156 = .ok (.iconst 0, 1) := by decide +kernel
theorem dL_turns_157 : decode cL_turns 157 = .ok (.ireturn, 1) := by decide +kernel
theorem dL_turns_158 : decode cL_turns 158 = .ok (.goto 97, 3) := by decide +kernel
theorem dL_turns_161 : decode cL_turns 161 = .ok (.iload 7, 2) := by decide +kernel
theorem dL_turns_163 : decode cL_turns 163 = .ok (.bipush 11, 2) := by decide +kernel
theorem dL_turns_165 : decode cL_turns 165 = .ok (.if_icmp .ne 42, 3) := by decide +kernel
theorem dL_turns_168 : decode cL_turns 168 = .ok (.aload_n 0, 1) := by decide +kernel
theorem dL_turns_169 : decode cL_turns 169 = .ok (.iconst 3, 1) := by decide +kernel
theorem dL_turns_170 : decode cL_turns 170 = .ok (.invokevirtual 27, 3) := by decide +kernel
theorem dL_turns_173 : decode cL_turns 173 = .ok (.iconst 4, 1) := by decide +kernel
theorem dL_turns_174 : decode cL_turns 174 = .ok (.if_icmp .ne 7, 3) := by decide +kernel
theorem dL_turns_177 : decode cL_turns 177 = .ok (.iconst 1, 1) := by decide +kernel
theorem dL_turns_178 : decode cL_turns 178 = .ok (.goto 4, 3) := by decide +kernel
theorem dL_turns_181 : decode cL_turns 181 = .ok (.iconst 0, 1) := by decide +kernel
theorem dL_turns_182 : decode cL_turns 182 = .ok (.istore 8, 2) := by decide +kernel
theorem dL_turns_184 : decode cL_turns 184 = .ok (.aload_n 0, 1) := by decide +kernel
theorem dL_turns_185 : decode cL_turns 185 = .ok (.iconst 1, 1) := by decide +kernel
theorem dL_turns_186 : decode cL_turns 186 = .ok (.invokevirtual 43, 3) := by decide +kernel
theorem dL_turns_189 : decode cL_turns 189 = .ok (.ifCond .ge 7, 3) := by decide +kernel
theorem dL_turns_192 : decode cL_turns 192 = .ok (.iconst 1, 1) := by decide +kernel
theorem dL_turns_193 : decode cL_turns 193 = .ok (.goto 4, 3) := by decide +kernel
theorem dL_turns_196 : decode cL_turns 196 = .ok (.iconst 0, 1) := by decide +kernel
theorem dL_turns_197 : decode cL_turns 197 = .ok (.iload 8, 2) := by decide +kernel
theorem dL_turns_199 : decode cL_turns 199 = .ok (.if_icmp .eq 5, 3) := by decide +kernel
theorem dL_turns_202 : decode cL_turns 202 = .ok (.iconst 0, 1) := by decide +kernel
theorem dL_turns_203 : decode cL_turns 203 = .ok (.ireturn, 1) := by decide +kernel
theorem dL_turns_204 : decode cL_turns 204 = .ok (.goto 51, 3) := by decide +kernel
theorem dL_turns_207 : decode cL_turns 207 = .ok (.iload 7, 2) := by decide +kernel
theorem dL_turns_209 : decode cL_turns 209 = .ok (.bipush 12, 2) := by decide +kernel
theorem dL_turns_211 : decode cL_turns 211 = .ok (.if_icmp .ne 24, 3) := by decide +kernel
theorem dL_turns_214 : decode cL_turns 214 = .ok (.aload_n 0, 1) := by decide +kernel
theorem dL_turns_215 : decode cL_turns 215 = .ok (.iconst 3, 1) := by decide +kernel
theorem dL_turns_216 : decode cL_turns 216 = .ok (.invokevirtual 27, 3) := by decide +kernel
theorem dL_turns_219 : decode cL_turns 219 = .ok (.istore 8, 2) := by decide +kernel
theorem dL_turns_221 : decode cL_turns 221 = .ok (.aload_n 0, 1) := by decide +kernel
theorem dL_turns_222 : decode cL_turns 222 = .ok (.invokevirtual 23, 3) := by decide +kernel
theorem dL_turns_225 : decode cL_turns 225 = .ok (.iload 8, 2) := by decide +kernel
theorem dL_turns_227 : decode cL_turns 227 = .ok (.if_icmp .eq 5, 3) := by decide +kernel
theorem dL_turns_230 : decode cL_turns 230 = .ok (.iconst 0, 1) := by decide +kernel
theorem dL_turns_231 : decode cL_turns 231 = .ok (.ireturn, 1) := by decide +kernel
theorem dL_turns_232 : decode cL_turns 232 = .ok (.goto 23, 3) := by decide +kernel
theorem dL_turns_235 : decode cL_turns 235 = .ok (.iload 7, 2) := by decide +kernel
theorem dL_turns_237 : decode cL_turns 237 = .ok (.bipush 15, 2) := by decide +kernel
theorem dL_turns_239 : decode cL_turns 239 = .ok (.if_icmp .ge 16, 3) := by decide +kernel
theorem dL_turns_242 : decode cL_turns 242 = .ok (.aload_n 0, 1) := by decide +kernel
theorem dL_turns_243 : decode cL_turns 243 = .ok (.invokevirtual 47, 3) := by decide +kernel
theorem dL_turns_246 : decode cL_turns 246 = .ok (.aload_n 0, 1) := by decide +kernel
theorem dL_turns_247 : decode cL_turns 247 = .ok (.invokestatic 50, 3) := by decide +kernel
theorem dL_turns_250 : decode cL_turns 250 = .ok (.if_icmp .eq 5, 3) := by decide +kernel
theorem dL_turns_253 : decode cL_turns 253 = .ok (.iconst 0, 1) := by decide +kernel
theorem dL_turns_254 : decode cL_turns 254 = .ok (.ireturn, 1) := by decide +kernel
theorem dL_turns_255 : decode cL_turns 255 = .ok (.aload_n 0, 1) := by decide +kernel
theorem dL_turns_256 : decode cL_turns 256 = .ok (.iconst 1, 1) := by decide +kernel
theorem dL_turns_257 : decode cL_turns 257 = .ok (.invokevirtual 27, 3) := by decide +kernel
theorem dL_turns_260 : decode cL_turns 260 = .ok (.aload_n 0, 1) := by decide +kernel
theorem dL_turns_261 : decode cL_turns 261 = .ok (.iconst 0, 1) := by decide +kernel
theorem dL_turns_262 : decode cL_turns 262 = .ok (.invokevirtual 27, 3) := by decide +kernel
theorem dL_turns_265 : decode cL_turns 265 = .ok (.if_icmp .eq 5, 3) := by decide +kernel
theorem dL_turns_268 : decode cL_turns 268 = .ok (.iconst 0, 1) := by decide +kernel
theorem dL_turns_269 : decode cL_turns 269 = .ok (.ireturn, 1) := by decide +kernel
theorem dL_turns_270 : decode cL_turns 270 = .ok (.iinc 4 1, 3) := by decide +kernel
theorem dL_turns_273 : decode cL_turns 273 = .ok (.goto (-270), 3) := by decide +kernel
theorem dL_turns_276 : decode cL_turns 276 = .ok (.iconst 1, 1) := by decide +kernel
theorem dL_turns_277 : decode cL_turns 277 = .ok (.ireturn, 1) := by decide +kernel
set_option maxRecDepth 20000 in
theorem ggL_documents_X5_known : GoodIn wsL_documents wsX5_known := goodIn_r _ [5, 6, 7, 8, 9, 10, 11, 4, 12, 13, 14, 15, 16, 17, 18, 19, 20, 21, 22, 23, 24, 25, 26, 27, 28, 29, 30, 31, 32, 33, 34, 35, 36, 37, 38, 39, 40, 41, 42, 43, 44, 45, 46, 47, 48, 49, 50, 51] (by decide +kernel) (by decide +kernel)
set_option maxRecDepth 20000 in
theorem gL_documents_X5_known : GoodIn wsL_documents (wsV RL 35 RX5 yX5_known wsX5_known) := goodIn_app (goodIn_of _ (by decide +kernel)) ggL_documents_X5_known
theorem dL_documents_0 : decode cL_documents 0 = .ok (.iconst 0, 1) := by decide +kernel
theorem dL_documents_1 : decode cL_documents 1 = .ok (.istore_n 1, 1) := by decide +kernel
theorem dL_documents_2 : decode cL_documents 2 = .ok (.iconst 0, 1) := by decide +kernel
theorem dL_documents_3 : decode cL_documents 3 = .ok (.istore_n 2, 1) := by decide +kernel
theorem dL_documents_4 : decode cL_documents 4 = .ok (.iload_n 2, 1) := by decide +kernel
theorem dL_documents_5 : decode cL_documents 5 = .ok (.bipush 16, 2) := by decide +kernel
theorem dL_documents_7 : decode cL_documents 7 = .ok (.if_icmp .ge 22, 3) := by decide +kernel
theorem dL_documents_10 : decode cL_documents 10 = .ok (.aload_n 0, 1) := by decide +kernel
theorem dL_documents_11 : decode cL_documents 11 = .ok (.iload_n 2, 1) := by decide +kernel
theorem dL_documents_12 : decode cL_documents 12 = .ok (.iconst 0, 1) := by decide +kernel
theorem dL_documents_13 : decode cL_documents 13 = .ok (.invokevirtual 35, 3) := by decide +kernel
theorem dL_documents_16 : decode cL_documents 16 = .ok (.iconst 1, 1) := by decide +kernel
theorem dL_documents_17 : decode cL_documents 17 = .ok (.if_icmp .ne 6, 3) := by decide +kernel
theorem dL_documents_20 : decode cL_documents 20 = .ok (.iinc 1 1, 3) := by decide +kernel
theorem dL_documents_23 : decode cL_documents 23 = .ok (.iinc 2 1, 3) := by decide +kernel
theorem dL_documents_26 : decode cL_documents 26 = .ok (.goto (-22), 3) := by decide +kernel
theorem dL_documents_29 : decode cL_documents 29 = .ok (.iload_n 1, 1) := by decide +kernel
theorem dL_documents_30 : decode cL_documents 30 = .ok (.ireturn, 1) := by decide +kernel
set_option maxRecDepth 20000 in
theorem ggL_crash_X5_info : GoodIn wsL_crash wsX5_info := goodIn_r _ [5, 6, 7, 8, 9, 10, 11, 12, 13, 14, 15, 16, 17, 18, 19, 20, 21, 22, 23, 24, 25, 26, 27, 28, 29, 30, 31, 32, 33, 34, 35, 36, 37, 38, 39, 40, 41, 42, 43, 44, 45, 46, 4, 47, 197, 198, 199, 200, 201, 202, 203, 204, 205, 206, 207, 208, 209, 210, 211, 212, 213, 214, 215, 216, 217, 218, 219, 220] (by decide +kernel) (by decide +kernel)
set_option maxRecDepth 20000 in
theorem gL_crash_X5_info : GoodIn wsL_crash (wsV RL 27 RX5 yX5_info wsX5_info) := goodIn_app (goodIn_of _ (by decide +kernel)) ggL_crash_X5_info
set_option maxRecDepth 20000 in
theorem ggL_crash_X5_crash : GoodIn wsL_crash wsX5_crash := goodIn_r _ [51, 6, 11, 14, 52, 53, 54, 20, 55, 22, 56, 57, 25, 26, 27, 28, 29, 30, 31, 58, 59, 60, 61, 197, 198, 199, 200, 201, 202, 203, 204, 205, 206, 211, 212, 213, 214, 215, 216] (by decide +kernel) (by decide +kernel)
set_option maxRecDepth 20000 in
theorem gL_crash_X5_crash : GoodIn wsL_crash (wsV RL 54 RX5 yX5_crash wsX5_crash) := goodIn_app (goodIn_of _ (by decide +kernel)) ggL_crash_X5_crash
set_option maxRecDepth 20000 in
theorem ggL_crash_X5_flip : GoodIn wsL_crash wsX5_flip := goodIn_r _ [65, 11, 66, 67, 68, 20, 69, 23, 22, 28, 29, 30, 31, 70, 71, 72, 73, 74, 197, 198, 199, 200, 201, 202, 203, 204, 205, 206, 211, 212, 213, 214, 215, 216] (by decide +kernel) (by decide +kernel)
set_option maxRecDepth 20000 in
theorem gL_crash_X5_flip : GoodIn wsL_crash (wsV RL 57 RX5 yX5_flip wsX5_flip) := goodIn_app (goodIn_of _ (by decide +kernel)) ggL_crash_X5_flip
set_option maxRecDepth 20000 in
theorem ggL_crash_X5_recover : GoodIn wsL_crash wsX5_recover := goodIn_r _ [78, 6, 7, 15, 79, 11, 12, 13, 9, 10, 16, 80, 81, 82, 83, 84, 85, 86, 87, 88, 89, 90, 91, 92, 35, 93, 45, 94, 95, 96, 97, 98, 99, 4, 100, 101, 102, 24, 25, 26, 20, 27, 28, 29, 30, 31, 103, 104, 105, 106, 107, 108, 109, 110, 111, 57, 112, 113, 114, 115, 74, 116, 117, 118, 119, 120, 121, 122, 123, 124, 125, 126, 46, 47, 127, 128, 129, 130, 131, 132, 133, 134, 135, 136, 137, 138, 139, 140, 22, 56, 141, 142, 143, 144, 145, 146, 147, 148, 149, 150, 151, 152, 153, 154, 155, 156, 157, 158, 159, 160, 161, 162, 163, 164, 165, 166, 167, 168, 169, 170, 171, 58, 59, 60, 61, 172, 173, 174, 175, 176, 53, 54, 55, 177, 197, 198, 199, 200, 201, 202, 203, 204, 205, 206, 211, 212, 213, 214, 215, 216, 207, 208, 209, 210, 217, 218, 219, 220, 221, 222, 223, 224, 225] (by decide +kernel) (by decide +kernel)
set_option maxRecDepth 20000 in
theorem gL_crash_X5_recover : GoodIn wsL_crash (wsV RL 61 RX5 yX5_recover wsX5_recover) := goodIn_app (goodIn_of _ (by decide +kernel)) ggL_crash_X5_recover
set_option maxRecDepth 20000 in
theorem ggL_crash_L_documents : GoodIn wsL_crash wsL_documents := goodIn_r _ [181, 182, 183, 184, 4, 185, 6, 7, 80, 16, 186, 46, 47, 187, 42, 43, 35, 44, 45, 188, 189, 190, 191, 94, 192, 193, 194, 195, 95, 196, 38, 39, 40, 41, 197, 198, 199, 200, 201, 202, 203, 204, 205, 206, 207, 208, 209, 210, 217, 218, 219, 220] (by decide +kernel) (by decide +kernel)
set_option maxRecDepth 20000 in
theorem gL_crash_L_documents : GoodIn wsL_crash (va_wsS RL 50 yL_documents wsL_documents) := goodIn_app (goodIn_of _ (by decide +kernel)) ggL_crash_L_documents
theorem dL_crash_0 : decode cL_crash 0 = .ok (.aload_n 0, 1) := by decide +kernel
theorem dL_crash_1 : decode cL_crash 1 = .ok (.iconst 5, 1) := by decide +kernel
theorem dL_crash_2 : decode cL_crash 2 = .ok (.invokevirtual 27, 3) := by decide +kernel
theorem dL_crash_5 : decode cL_crash 5 = .ok (.aload_n 0, 1) := by decide +kernel
theorem dL_crash_6 : decode cL_crash 6 = .ok (.bipush 6, 2) := by decide +kernel
theorem dL_crash_8 : decode cL_crash 8 = .ok (.invokevirtual 27, 3) := by decide +kernel
theorem dL_crash_11 : decode cL_crash 11 = .ok (.isub, 1) := by decide +kernel
theorem dL_crash_12 : decode cL_crash 12 = .ok (.istore_n 2, 1) := by decide +kernel
theorem dL_crash_13 : decode cL_crash 13 = .ok (.iload_n 1, 1) := by decide +kernel
theorem dL_crash_14 : decode cL_crash 14 = .ok (.sipush 255, 3) := by decide +kernel
theorem dL_crash_17 : decode cL_crash 17 = .ok (.iand, 1) := by decide +kernel
theorem dL_crash_18 : decode cL_crash 18 = .ok (.iload_n 2, 1) := by decide +kernel
theorem dL_crash_19 : decode cL_crash 19 = .ok (.iconst 1, 1) := by decide +kernel
theorem dL_crash_20 : decode cL_crash 20 = .ok (.iadd, 1) := by decide +kernel
theorem dL_crash_21 : decode cL_crash 21 = .ok (.irem, 1) := by decide +kernel
theorem dL_crash_22 : decode cL_crash 22 = .ok (.istore_n 3, 1) := by decide +kernel
theorem dL_crash_23 : decode cL_crash 23 = .ok (.aload_n 0, 1) := by decide +kernel
theorem dL_crash_24 : decode cL_crash 24 = .ok (.iconst 2, 1) := by decide +kernel
theorem dL_crash_25 : decode cL_crash 25 = .ok (.invokevirtual 27, 3) := by decide +kernel
theorem dL_crash_28 : decode cL_crash 28 = .ok (.istore 4, 2) := by decide +kernel
theorem dL_crash_30 : decode cL_crash 30 = .ok (.aload_n 0, 1) := by decide +kernel
theorem dL_crash_31 : decode cL_crash 31 = .ok (.iconst 0, 1) := by decide +kernel
theorem dL_crash_32 : decode cL_crash 32 = .ok (.invokevirtual 27, 3) := by decide +kernel
theorem dL_crash_35 : decode cL_crash 35 = .ok (.istore 5, 2) := by decide +kernel
theorem dL_crash_37 : decode cL_crash 37 = .ok (.aload_n 0, 1) := by decide +kernel
theorem dL_crash_38 : decode cL_crash 38 = .ok (.iconst 4, 1) := by decide +kernel
theorem dL_crash_39 : decode cL_crash 39 = .ok (.invokevirtual 27, 3) := by decide +kernel
theorem dL_crash_42 : decode cL_crash 42 = .ok (.aload_n 0, 1) := by decide +kernel
theorem dL_crash_43 : decode cL_crash 43 = .ok (.iconst 3, 1) := by decide +kernel
theorem dL_crash_44 : decode cL_crash 44 = .ok (.invokevirtual 27, 3) := by decide +kernel
theorem dL_crash_47 : decode cL_crash 47 = .ok (.iadd, 1) := by decide +kernel
theorem dL_crash_48 : decode cL_crash 48 = .ok (.iconst 1, 1) := by decide +kernel
theorem dL_crash_49 : decode cL_crash 49 = .ok (.isub, 1) := by decide +kernel
theorem dL_crash_50 : decode cL_crash 50 = .ok (.istore 6, 2) := by decide +kernel
theorem dL_crash_52 : decode cL_crash 52 = .ok (.iload_n 1, 1) := by decide +kernel
theorem dL_crash_53 : decode cL_crash 53 = .ok (.bipush 8, 2) := by decide +kernel
theorem dL_crash_55 : decode cL_crash 55 = .ok (.ishr, 1) := by decide +kernel
theorem dL_crash_56 : decode cL_crash 56 = .ok (.iconst 3, 1) := by decide +kernel
theorem dL_crash_57 : decode cL_crash 57 = .ok (.iand, 1) := by decide +kernel
theorem dL_crash_58 : decode cL_crash 58 = .ok (.istore 7, 2) := by decide +kernel
theorem dL_crash_60 : decode cL_crash 60 = .ok (.iconst 1, 1) := by decide +kernel
theorem dL_crash_61 : decode cL_crash 61 = .ok (.iload_n 1, 1) := by decide +kernel
theorem dL_crash_62 : decode cL_crash 62 = .ok (.bipush 18, 2) := by decide +kernel
theorem dL_crash_64 : decode cL_crash 64 = .ok (.ishr, 1) := by decide +kernel
theorem dL_crash_65 : decode cL_crash 65 = .ok (.bipush 7, 2) := by decide +kernel
theorem dL_crash_67 : decode cL_crash 67 = .ok (.iand, 1) := by decide +kernel
theorem dL_crash_68 : decode cL_crash 68 = .ok (.ishl, 1) := by decide +kernel
theorem dL_crash_69 : decode cL_crash 69 = .ok (.istore 8, 2) := by decide +kernel
theorem dL_crash_71 : decode cL_crash 71 = .ok (.aload_n 0, 1) := by decide +kernel
theorem dL_crash_72 : decode cL_crash 72 = .ok (.iload_n 3, 1) := by decide +kernel
theorem dL_crash_73 : decode cL_crash 73 = .ok (.invokevirtual 54, 3) := by decide +kernel
theorem dL_crash_76 : decode cL_crash 76 = .ok (.iload_n 2, 1) := by decide +kernel
theorem dL_crash_77 : decode cL_crash 77 = .ok (.iload_n 3, 1) := by decide +kernel
theorem dL_crash_78 : decode cL_crash 78 = .ok (.isub, 1) := by decide +kernel
theorem dL_crash_79 : decode cL_crash 79 = .ok (.if_icmp .eq 6, 3) := by decide +kernel
theorem dL_crash_82 : decode cL_crash 82 = .ok (.bipush (-9), 2) := by decide +kernel
theorem dL_crash_84 : decode cL_crash 84 = .ok (.ireturn, 1) := by decide +kernel
theorem dL_crash_85 : decode cL_crash 85 = .ok (.aload_n 0, 1) := by decide +kernel
theorem dL_crash_86 : decode cL_crash 86 = .ok (.bipush 6, 2) := by decide +kernel
theorem dL_crash_88 : decode cL_crash 88 = .ok (.invokevirtual 27, 3) := by decide +kernel
theorem dL_crash_91 : decode cL_crash 91 = .ok (.istore 9, 2) := by decide +kernel
theorem dL_crash_93 : decode cL_crash 93 = .ok (.iload 7, 2) := by decide +kernel
theorem dL_crash_95 : decode cL_crash 95 = .ok (.iconst 1, 1) := by decide +kernel
theorem dL_crash_96 : decode cL_crash 96 = .ok (.if_icmp .ne 34, 3) := by decide +kernel
theorem dL_crash_99 : decode cL_crash 99 = .ok (.iload_n 3, 1) := by decide +kernel
theorem dL_crash_100 : decode cL_crash 100 = .ok (.ifCond .le 30, 3) := by decide +kernel
theorem dL_crash_103 : decode cL_crash 103 = .ok (.aload_n 0, 1) := by decide +kernel
theorem dL_crash_104 : decode cL_crash 104 = .ok (.iload 6, 2) := by decide +kernel
theorem dL_crash_106 : decode cL_crash 106 = .ok (.iload 9, 2) := by decide +kernel
theorem dL_crash_108 : decode cL_crash 108 = .ok (.iload_n 1, 1) := by decide +kernel
theorem dL_crash_109 : decode cL_crash 109 = .ok (.bipush 10, 2) := by decide +kernel
theorem dL_crash_111 : decode cL_crash 111 = .ok (.ishr, 1) := by decide +kernel
theorem dL_crash_112 : decode cL_crash 112 = .ok (.sipush 255, 3) := by decide +kernel
theorem dL_crash_115 : decode cL_crash 115 = .ok (.iand, 1) := by decide +kernel
theorem dL_crash_116 : decode cL_crash 116 = .ok (.iload_n 3, 1) := by decide +kernel
theorem dL_crash_117 : decode cL_crash 117 = .ok (.irem, 1) := by decide +kernel
theorem dL_crash_118 : decode cL_crash 118 = .ok (.iadd, 1) := by decide +kernel
theorem dL_crash_119 : decode cL_crash 119 = .ok (.iload 8, 2) := by decide +kernel
theorem dL_crash_121 : decode cL_crash 121 = .ok (.invokevirtual 57, 3) := by decide +kernel
theorem dL_crash_124 : decode cL_crash 124 = .ok (.ifCond .ge 6, 3) := by decide +kernel
theorem dL_crash_127 : decode cL_crash 127 = .ok (.bipush (-9), 2) := by decide +kernel
theorem dL_crash_129 : decode cL_crash 129 = .ok (.ireturn, 1) := by decide +kernel
theorem dL_crash_130 : decode cL_crash 130 = .ok (.iload 7, 2) := by decide +kernel
theorem dL_crash_132 : decode cL_crash 132 = .ok (.iconst 2, 1) := by decide +kernel
theorem dL_crash_133 : decode cL_crash 133 = .ok (.if_icmp .ne 82, 3) := by decide +kernel
theorem dL_crash_136 : decode cL_crash 136 = .ok (.iload 9, 2) := by decide +kernel
theorem dL_crash_138 : decode cL_crash 138 = .ok (.ifCond .le 77, 3) := by decide +kernel
theorem dL_crash_141 : decode cL_crash 141 = .ok (.iload_n 1, 1) := by decide +kernel
theorem dL_crash_142 : decode cL_crash 142 = .ok (.bipush 10, 2) := by decide +kernel
theorem dL_crash_144 : decode cL_crash 144 = .ok (.ishr, 1) := by decide +kernel
theorem dL_crash_145 : decode cL_crash 145 = .ok (.sipush 255, 3) := by decide +kernel
theorem dL_crash_148 : decode cL_crash 148 = .ok (.iand, 1) := by decide +kernel
theorem dL_crash_149 : decode cL_crash 149 = .ok (.iload 9, 2) := by decide +kernel
theorem dL_crash_151 : decode cL_crash 151 = .ok (.irem, 1) := by decide +kernel
theorem dL_crash_152 : decode cL_crash 152 = .ok (.istore 10, 2) := by decide +kernel
theorem dL_crash_154 : decode cL_crash 154 = .ok (.aload_n 0, 1) := by decide +kernel
theorem dL_crash_155 : decode cL_crash 155 = .ok (.iload 6, 2) := by decide +kernel
theorem dL_crash_157 : decode cL_crash 157 = .ok (.iload 10, 2) := by decide +kernel
theorem dL_crash_159 : decode cL_crash 159 = .ok (.iload 8, 2) := by decide +kernel
theorem dL_crash_161 : decode cL_crash 161 = .ok (.invokevirtual 57, 3) := by decide +kernel
theorem dL_crash_164 : decode cL_crash 164 = .ok (.ifCond .lt 48, 3) := by decide +kernel
theorem dL_crash_167 : decode cL_crash 167 = .ok (.aload_n 0, 1) := by decide +kernel
theorem dL_crash_168 : decode cL_crash 168 = .ok (.iconst (-1), 1) := by decide +kernel
theorem dL_crash_169 : decode cL_crash 169 = .ok (.invokevirtual 61, 3) := by decide +kernel
theorem dL_crash_172 : decode cL_crash 172 = .ok (.bipush (-5), 2) := by decide +kernel
theorem dL_crash_174 : decode cL_crash 174 = .ok (.if_icmp .ne 38, 3) := by decide +kernel
theorem dL_crash_177 : decode cL_crash 177 = .ok (.aload_n 0, 1) := by decide +kernel
theorem dL_crash_178 : decode cL_crash 178 = .ok (.bipush 7, 2) := by decide +kernel
theorem dL_crash_180 : decode cL_crash 180 = .ok (.invokevirtual 27, 3) := by decide +kernel
theorem dL_crash_183 : decode cL_crash 183 = .ok (.iconst 1, 1) := by decide +kernel
theorem dL_crash_184 : decode cL_crash 184 = .ok (.if_icmp .ne 28, 3) := by decide +kernel
theorem dL_crash_187 : decode cL_crash 187 = .ok (.aload_n 0, 1) := by decide +kernel
theorem dL_crash_188 : decode cL_crash 188 = .ok (.sipush 1000, 3) := by decide +kernel
theorem dL_crash_191 : decode cL_crash 191 = .ok (.invokevirtual 61, 3) := by decide +kernel
theorem dL_crash_194 : decode cL_crash 194 = .ok (.bipush (-5), 2) := by decide +kernel
theorem dL_crash_196 : decode cL_crash 196 = .ok (.if_icmp .ne 16, 3) := by decide +kernel
theorem dL_crash_199 : decode cL_crash 199 = .ok (.aload_n 0, 1) := by decide +kernel
theorem dL_crash_200 : decode cL_crash 200 = .ok (.iload 6, 2) := by decide +kernel
theorem dL_crash_202 : decode cL_crash 202 = .ok (.iload 10, 2) := by decide +kernel
theorem dL_crash_204 : decode cL_crash 204 = .ok (.iload 8, 2) := by decide +kernel
theorem dL_crash_206 : decode cL_crash 206 = .ok (.invokevirtual 57, 3) := by decide +kernel
theorem dL_crash_209 : decode cL_crash 209 = .ok (.ifCond .ge 6, 3) := by decide +kernel
theorem dL_crash_212 : decode cL_crash 212 = .ok (.bipush (-9), 2) := by decide +kernel
theorem dL_crash_214 : decode cL_crash 214 = .ok (.ireturn, 1) := by decide +kernel
theorem dL_crash_215 : decode cL_crash 215 = .ok (.iload 7, 2) := by decide +kernel
theorem dL_crash_217 : decode cL_crash 217 = .ok (.iconst 3, 1) := by decide +kernel
theorem dL_crash_218 : decode cL_crash 218 = .ok (.if_icmp .ne 52, 3) := by decide +kernel
theorem dL_crash_221 : decode cL_crash 221 = .ok (.iload_n 1, 1) := by decide +kernel
theorem dL_crash_222 : decode cL_crash 222 = .ok (.bipush 10, 2) := by decide +kernel
theorem dL_crash_224 : decode cL_crash 224 = .ok (.ishr, 1) := by decide +kernel
theorem dL_crash_225 : decode cL_crash 225 = .ok (.iconst 3, 1) := by decide +kernel
theorem dL_crash_226 : decode cL_crash 226 = .ok (.iand, 1) := by decide +kernel
theorem dL_crash_227 : decode cL_crash 227 = .ok (.istore 10, 2) := by decide +kernel
theorem dL_crash_229 : decode cL_crash 229 = .ok (.aload_n 0, 1) := by decide +kernel
theorem dL_crash_230 : decode cL_crash 230 = .ok (.iload 10, 2) := by decide +kernel
theorem dL_crash_232 : decode cL_crash 232 = .ok (.invokevirtual 61, 3) := by decide +kernel
theorem dL_crash_235 : decode cL_crash 235 = .ok (.istore 11, 2) := by decide +kernel
theorem dL_crash_237 : decode cL_crash 237 = .ok (.iload 11, 2) := by decide +kernel
theorem dL_crash_239 : decode cL_crash 239 = .ok (.iload 10, 2) := by decide +kernel
theorem dL_crash_241 : decode cL_crash 241 = .ok (.if_icmp .gt 26, 3) := by decide +kernel
theorem dL_crash_244 : decode cL_crash 244 = .ok (.iload 11, 2) := by decide +kernel
theorem dL_crash_246 : decode cL_crash 246 = .ok (.ifCond .ge 24, 3) := by decide +kernel
theorem dL_crash_249 : decode cL_crash 249 = .ok (.iload 11, 2) := by decide +kernel
theorem dL_crash_251 : decode cL_crash 251 = .ok (.bipush (-4), 2) := by decide +kernel
theorem dL_crash_253 : decode cL_crash 253 = .ok (.if_icmp .ne 14, 3) := by decide +kernel
theorem dL_crash_256 : decode cL_crash 256 = .ok (.aload_n 0, 1) := by decide +kernel
theorem dL_crash_257 : decode cL_crash 257 = .ok (.iload 10, 2) := by decide +kernel
theorem dL_crash_259 : decode cL_crash 259 = .ok (.invokevirtual 61, 3) := by decide +kernel
theorem dL_crash_262 : decode cL_crash 262 = .ok (.bipush (-4), 2) := by decide +kernel
theorem dL_crash_264 : decode cL_crash 264 = .ok (.if_icmp .eq 6, 3) := by decide +kernel
theorem dL_crash_267 : decode cL_crash 267 = .ok (.bipush (-9), 2) := by decide +kernel
theorem dL_crash_269 : decode cL_crash 269 = .ok (.ireturn, 1) := by decide +kernel
theorem dL_crash_270 : decode cL_crash 270 = .ok (.aload_n 0, 1) := by decide +kernel
theorem dL_crash_271 : decode cL_crash 271 = .ok (.bipush 7, 2) := by decide +kernel
theorem dL_crash_273 : decode cL_crash 273 = .ok (.invokevirtual 27, 3) := by decide +kernel
theorem dL_crash_276 : decode cL_crash 276 = .ok (.iconst 1, 1) := by decide +kernel
theorem dL_crash_277 : decode cL_crash 277 = .ok (.if_icmp .ne 14, 3) := by decide +kernel
theorem dL_crash_280 : decode cL_crash 280 = .ok (.aload_n 0, 1) := by decide +kernel
theorem dL_crash_281 : decode cL_crash 281 = .ok (.iconst (-1), 1) := by decide +kernel
theorem dL_crash_282 : decode cL_crash 282 = .ok (.invokevirtual 61, 3) := by decide +kernel
theorem dL_crash_285 : decode cL_crash 285 = .ok (.ifCond .ge 6, 3) := by decide +kernel
theorem dL_crash_288 : decode cL_crash 288 = .ok (.bipush (-9), 2) := by decide +kernel
theorem dL_crash_290 : decode cL_crash 290 = .ok (.ireturn, 1) := by decide +kernel
theorem dL_crash_291 : decode cL_crash 291 = .ok (.aload_n 0, 1) := by decide +kernel
theorem dL_crash_292 : decode cL_crash 292 = .ok (.iconst 1, 1) := by decide +kernel
theorem dL_crash_293 : decode cL_crash 293 = .ok (.invokevirtual 27, 3) := by decide +kernel
theorem dL_crash_296 : decode cL_crash 296 = .ok (.istore 10, 2) := by decide +kernel
theorem dL_crash_298 : decode cL_crash 298 = .ok (.iload 10, 2) := by decide +kernel
theorem dL_crash_300 : decode cL_crash 300 = .ok (.aload_n 0, 1) := by decide +kernel
theorem dL_crash_301 : decode cL_crash 301 = .ok (.iconst 0, 1) := by decide +kernel
theorem dL_crash_302 : decode cL_crash 302 = .ok (.invokevirtual 27, 3) := by decide +kernel
theorem dL_crash_305 : decode cL_crash 305 = .ok (.if_icmp .ne 54, 3) := by decide +kernel
theorem dL_crash_308 : decode cL_crash 308 = .ok (.iload 10, 2) := by decide +kernel
theorem dL_crash_310 : decode cL_crash 310 = .ok (.iload 4, 2) := by decide +kernel
theorem dL_crash_312 : decode cL_crash 312 = .ok (.if_icmp .lt 47, 3) := by decide +kernel
theorem dL_crash_315 : decode cL_crash 315 = .ok (.iload 10, 2) := by decide +kernel
theorem dL_crash_317 : decode cL_crash 317 = .ok (.iload 5, 2) := by decide +kernel
theorem dL_crash_319 : decode cL_crash 319 = .ok (.if_icmp .gt 40, 3) := by decide +kernel
theorem dL_crash_322 : decode cL_crash 322 = .ok (.aload_n 0, 1) := by decide +kernel
theorem dL_crash_323 : decode cL_crash 323 = .ok (.bipush 6, 2) := by decide +kernel
theorem dL_crash_325 : decode cL_crash 325 = .ok (.invokevirtual 27, 3) := by decide +kernel
theorem dL_crash_328 : decode cL_crash 328 = .ok (.aload_n 0, 1) := by decide +kernel
theorem dL_crash_329 : decode cL_crash 329 = .ok (.iconst 5, 1) := by decide +kernel
theorem dL_crash_330 : decode cL_crash 330 = .ok (.invokevirtual 27, 3) := by decide +kernel
theorem dL_crash_333 : decode cL_crash 333 = .ok (.if_icmp .ne 26, 3) := by decide +kernel
theorem dL_crash_336 : decode cL_crash 336 = .ok (.aload_n 0, 1) := by decide +kernel
theorem dL_crash_337 : decode cL_crash 337 = .ok (.iconst 2, 1) := by decide +kernel
theorem dL_crash_338 : decode cL_crash 338 = .ok (.invokevirtual 27, 3) := by decide +kernel
theorem dL_crash_341 : decode cL_crash 341 = .ok (.iload 10, 2) := by decide +kernel
theorem dL_crash_343 : decode cL_crash 343 = .ok (.if_icmp .ne 16, 3) := by decide +kernel
theorem dL_crash_346 : decode cL_crash 346 = .ok (.aload_n 0, 1) := by decide +kernel
theorem dL_crash_347 : decode cL_crash 347 = .ok (.bipush 10, 2) := by decide +kernel
theorem dL_crash_349 : decode cL_crash 349 = .ok (.invokevirtual 27, 3) := by decide +kernel
theorem dL_crash_352 : decode cL_crash 352 = .ok (.aload_n 0, 1) := by decide +kernel
theorem dL_crash_353 : decode cL_crash 353 = .ok (.invokestatic 50, 3) := by decide +kernel
theorem dL_crash_356 : decode cL_crash 356 = .ok (.if_icmp .eq 6, 3) := by decide +kernel
theorem dL_crash_359 : decode cL_crash 359 = .ok (.bipush (-9), 2) := by decide +kernel
theorem dL_crash_361 : decode cL_crash 361 = .ok (.ireturn, 1) := by decide +kernel
theorem dL_crash_362 : decode cL_crash 362 = .ok (.iload_n 3, 1) := by decide +kernel
theorem dL_crash_363 : decode cL_crash 363 = .ok (.iload_n 2, 1) := by decide +kernel
theorem dL_crash_364 : decode cL_crash 364 = .ok (.if_icmp .ne 16, 3) := by decide +kernel
theorem dL_crash_367 : decode cL_crash 367 = .ok (.iload 7, 2) := by decide +kernel
theorem dL_crash_369 : decode cL_crash 369 = .ok (.iconst 1, 1) := by decide +kernel
theorem dL_crash_370 : decode cL_crash 370 = .ok (.if_icmp .eq 10, 3) := by decide +kernel
theorem dL_crash_373 : decode cL_crash 373 = .ok (.iload 10, 2) := by decide +kernel
theorem dL_crash_375 : decode cL_crash 375 = .ok (.iload 5, 2) := by decide +kernel
theorem dL_crash_377 : decode cL_crash 377 = .ok (.if_icmp .ne 20, 3) := by decide +kernel
theorem dL_crash_380 : decode cL_crash 380 = .ok (.iload 7, 2) := by decide +kernel
theorem dL_crash_382 : decode cL_crash 382 = .ok (.iconst 1, 1) := by decide +kernel
theorem dL_crash_383 : decode cL_crash 383 = .ok (.if_icmp .ne 19, 3) := by decide +kernel
theorem dL_crash_386 : decode cL_crash 386 = .ok (.iload_n 3, 1) := by decide +kernel
theorem dL_crash_387 : decode cL_crash 387 = .ok (.ifCond .le 15, 3) := by decide +kernel
theorem dL_crash_390 : decode cL_crash 390 = .ok (.iload 10, 2) := by decide +kernel
theorem dL_crash_392 : decode cL_crash 392 = .ok (.iload 5, 2) := by decide +kernel
theorem dL_crash_394 : decode cL_crash 394 = .ok (.if_icmp .ne 8, 3) := by decide +kernel
theorem dL_crash_397 : decode cL_crash 397 = .ok (.bipush (-9), 2) := by decide +kernel
theorem dL_crash_399 : decode cL_crash 399 = .ok (.goto 5, 3) := by decide +kernel
theorem dL_crash_402 : decode cL_crash 402 = .ok (.iload 10, 2) := by decide +kernel
theorem dL_crash_404 : decode cL_crash 404 = .ok (.ireturn, 1) := by decide +kernel
set_option maxRecDepth 20000 in
theorem ggL_same_X5_init : GoodIn wsL_same wsX5_init := goodIn_r _ [6, 7, 8, 9, 10, 11, 12, 13, 14, 15, 16, 17, 18, 19, 20, 21, 22, 23, 24, 25, 26, 27, 28, 29, 30, 31, 32, 33, 34, 35, 36, 37, 38, 39, 40, 41, 42, 43, 44, 45, 46, 47, 48, 49, 50, 51, 52, 53, 54, 55, 56, 57, 58, 59, 60, 61, 62, 63, 64, 65, 66, 67, 68, 69, 70, 71, 72, 73, 74, 75, 76, 77, 78, 79, 80, 81, 259, 260, 261, 262, 249, 250, 251, 252, 253, 254, 255, 256, 257, 258, 263, 264, 265, 266, 267, 268, 269, 270, 271, 272, 273, 274, 275, 276, 277, 278, 279, 280, 281, 282, 283] (by decide +kernel) (by decide +kernel)
set_option maxRecDepth 20000 in
theorem gL_same_X5_init : GoodIn wsL_same (wsX5_init) := ggL_same_X5_init
set_option maxRecDepth 20000 in
theorem ggL_same_L_writes : GoodIn wsL_same wsL_writes := goodIn_r _ [85] (by decide +kernel) (by decide +kernel)
set_option maxRecDepth 20000 in
theorem gL_same_L_writes : GoodIn wsL_same (va_wsS RL 31 yL_writes wsL_writes) := goodIn_app (goodIn_of _ (by decide +kernel)) ggL_same_L_writes
set_option maxRecDepth 20000 in
theorem ggL_same_L_apply : GoodIn wsL_same wsL_apply := goodIn_r _ [88, 89, 90, 84, 91, 92, 93, 94, 95, 96, 97, 3, 98, 35, 13, 99, 22, 100, 101, 102, 30, 103, 104, 105, 106, 107, 108, 109, 110, 111, 112, 17, 113, 114, 115, 116, 117, 48, 118, 119, 120, 121, 49, 122, 123, 124, 21, 125, 59, 126, 127, 128, 129, 62, 130, 131, 132, 133, 134, 135, 136, 137, 138, 139, 50, 140, 141, 142, 29, 143, 77, 78, 79, 80, 81, 144, 145, 146, 147, 148, 149, 150, 151, 152, 153, 154, 155, 156, 157, 158, 159, 160, 61, 161, 162, 163, 164, 165, 166, 167, 168, 169, 170, 171, 172, 173, 63, 174, 175, 176, 177, 178, 179, 180, 12, 181, 182, 40, 183, 184, 185, 186, 41, 43, 42, 187, 188, 189, 190, 191, 192, 193, 194, 195, 52, 196, 197, 198, 199, 200, 33, 14, 201, 202, 203, 204, 205, 58, 206, 207, 208, 209, 210, 211, 212, 213, 60, 214, 215, 216, 217, 218, 219, 220, 221, 222, 223, 224, 225, 226, 227, 228, 229, 230, 231, 232, 233, 249, 250, 251, 252, 253, 254, 255, 256, 257, 258, 259, 260, 261, 262, 263, 264, 265, 266, 267, 268, 269, 270, 271, 272, 279, 280, 281, 282, 283] (by decide +kernel) (by decide +kernel)
set_option maxRecDepth 20000 in
theorem gL_same_L_apply : GoodIn wsL_same (va_wsS RL 39 yL_apply wsL_apply) := goodIn_app (goodIn_of _ (by decide +kernel)) ggL_same_L_apply
set_option maxRecDepth 20000 in
theorem ggL_same_X5_known : GoodIn wsL_same wsX5_known := goodIn_r _ [237, 35, 13, 101, 18, 103, 104, 3, 105, 238, 115, 116, 17, 117, 48, 118, 119, 120, 121, 49, 136, 137, 138, 139, 50, 110, 111, 112, 113, 114, 249, 250, 251, 252, 253, 254, 255, 256, 257, 258, 259, 260, 261, 262, 263, 264, 265, 266] (by decide +kernel) (by decide +kernel)
set_option maxRecDepth 20000 in
theorem gL_same_X5_known : GoodIn wsL_same (wsV RL 35 RX5 yX5_known wsX5_known) := goodIn_app (goodIn_of _ (by decide +kernel)) ggL_same_X5_known
set_option maxRecDepth 20000 in
theorem ggL_same_X5_get : GoodIn wsL_same wsX5_get := goodIn_r _ [242, 35, 243, 244, 13, 101, 103, 104, 3, 105, 245, 246, 247, 17, 248, 52, 249, 250, 251, 252, 253, 254, 255, 256, 257, 258, 259, 260, 261, 262, 263, 264, 265, 266] (by decide +kernel) (by decide +kernel)
set_option maxRecDepth 20000 in
theorem gL_same_X5_get : GoodIn wsL_same (wsV RL 65 RX5 yX5_get wsX5_get) := goodIn_app (goodIn_of _ (by decide +kernel)) ggL_same_X5_get
theorem dL_same_0 : decode cL_same 0 = .ok (.new 18, 3) := by decide +kernel
theorem dL_same_3 : decode cL_same 3 = .ok (.dup, 1) := by decide +kernel
theorem dL_same_4 : decode cL_same 4 = .ok (.invokespecial 64, 3) := by decide +kernel
theorem dL_same_7 : decode cL_same 7 = .ok (.astore 4, 2) := by decide +kernel
theorem dL_same_9 : decode cL_same 9 = .ok (.iconst 0, 1) := by decide +kernel
theorem dL_same_10 : decode cL_same 10 = .ok (.istore 5, 2) := by decide +kernel
theorem dL_same_12 : decode cL_same 12 = .ok (.bipush 8, 2) := by decide +kernel
theorem dL_same_14 : decode cL_same 14 = .ok (.istore 6, 2) := by decide +kernel
theorem dL_same_16 : decode cL_same 16 = .ok (.iload 6, 2) := by decide +kernel
theorem dL_same_18 : decode cL_same 18 = .ok (.bipush 40, 2) := by decide +kernel
theorem dL_same_20 : decode cL_same 20 = .ok (.if_icmp .ge 54, 3) := by decide +kernel
theorem dL_same_23 : decode cL_same 23 = .ok (.iload 6, 2) := by decide +kernel
theorem dL_same_25 : decode cL_same 25 = .ok (.aload_n 1, 1) := by decide +kernel
theorem dL_same_26 : decode cL_same 26 = .ok (.arraylength, 1) := by decide +kernel
theorem dL_same_27 : decode cL_same 27 = .ok (.if_icmp .ge 47, 3) := by decide +kernel
theorem dL_same_30 : decode cL_same 30 = .ok (.iload 5, 2) := by decide +kernel
theorem dL_same_32 : decode cL_same 32 = .ok (.iload_n 2, 1) := by decide +kernel
theorem dL_same_33 : decode cL_same 33 = .ok (.if_icmp .ge 41, 3) := by decide +kernel
theorem dL_same_36 : decode cL_same 36 = .ok (.aload_n 1, 1) := by decide +kernel
theorem dL_same_37 : decode cL_same 37 = .ok (.iload 6, 2) := by decide +kernel
theorem dL_same_39 : decode cL_same 39 = .ok (.iaload, 1) := by decide +kernel
theorem dL_same_40 : decode cL_same 40 = .ok (.invokestatic 31, 3) := by decide +kernel
theorem dL_same_43 : decode cL_same 43 = .ok (.ifCond .ne 6, 3) := by decide +kernel
theorem dL_same_46 : decode cL_same 46 = .ok (.goto 22, 3) := by decide +kernel
theorem dL_same_49 : decode cL_same 49 = .ok (.aload 4, 2) := by decide +kernel
theorem dL_same_51 : decode cL_same 51 = .ok (.aload_n 1, 1) := by decide +kernel
theorem dL_same_52 : decode cL_same 52 = .ok (.iload 6, 2) := by decide +kernel
theorem dL_same_54 : decode cL_same 54 = .ok (.iaload, 1) := by decide +kernel
theorem dL_same_55 : decode cL_same 55 = .ok (.invokestatic 39, 3) := by decide +kernel
theorem dL_same_58 : decode cL_same 58 = .ok (.iload 5, 2) := by decide +kernel
theorem dL_same_60 : decode cL_same 60 = .ok (.if_icmp .eq 5, 3) := by decide +kernel
theorem dL_same_63 : decode cL_same 63 = .ok (.iconst 0, 1) := by decide +kernel
theorem dL_same_64 : decode cL_same 64 = .ok (.ireturn, 1) := by decide +kernel
theorem dL_same_65 : decode cL_same 65 = .ok (.iinc 5 1, 3) := by decide +kernel
theorem dL_same_68 : decode cL_same 68 = .ok (.iinc 6 1, 3) := by decide +kernel
theorem dL_same_71 : decode cL_same 71 = .ok (.goto (-55), 3) := by decide +kernel
theorem dL_same_74 : decode cL_same 74 = .ok (.bipush 40, 2) := by decide +kernel
theorem dL_same_76 : decode cL_same 76 = .ok (.istore 6, 2) := by decide +kernel
theorem dL_same_78 : decode cL_same 78 = .ok (.iload 6, 2) := by decide +kernel
theorem dL_same_80 : decode cL_same 80 = .ok (.bipush 72, 2) := by decide +kernel
theorem dL_same_82 : decode cL_same 82 = .ok (.if_icmp .ge 54, 3) := by decide +kernel
theorem dL_same_85 : decode cL_same 85 = .ok (.iload 6, 2) := by decide +kernel
theorem dL_same_87 : decode cL_same 87 = .ok (.aload_n 1, 1) := by decide +kernel
theorem dL_same_88 : decode cL_same 88 = .ok (.arraylength, 1) := by decide +kernel
theorem dL_same_89 : decode cL_same 89 = .ok (.if_icmp .ge 47, 3) := by decide +kernel
theorem dL_same_92 : decode cL_same 92 = .ok (.iload 5, 2) := by decide +kernel
theorem dL_same_94 : decode cL_same 94 = .ok (.iload_n 3, 1) := by decide +kernel
theorem dL_same_95 : decode cL_same 95 = .ok (.if_icmp .gt 41, 3) := by decide +kernel
theorem dL_same_98 : decode cL_same 98 = .ok (.aload_n 1, 1) := by decide +kernel
theorem dL_same_99 : decode cL_same 99 = .ok (.iload 6, 2) := by decide +kernel
theorem dL_same_101 : decode cL_same 101 = .ok (.iaload, 1) := by decide +kernel
theorem dL_same_102 : decode cL_same 102 = .ok (.invokestatic 31, 3) := by decide +kernel
theorem dL_same_105 : decode cL_same 105 = .ok (.ifCond .ne 6, 3) := by decide +kernel
theorem dL_same_108 : decode cL_same 108 = .ok (.goto 22, 3) := by decide +kernel
theorem dL_same_111 : decode cL_same 111 = .ok (.aload 4, 2) := by decide +kernel
theorem dL_same_113 : decode cL_same 113 = .ok (.aload_n 1, 1) := by decide +kernel
theorem dL_same_114 : decode cL_same 114 = .ok (.iload 6, 2) := by decide +kernel
theorem dL_same_116 : decode cL_same 116 = .ok (.iaload, 1) := by decide +kernel
theorem dL_same_117 : decode cL_same 117 = .ok (.invokestatic 39, 3) := by decide +kernel
theorem dL_same_120 : decode cL_same 120 = .ok (.iload 5, 2) := by decide +kernel
theorem dL_same_122 : decode cL_same 122 = .ok (.if_icmp .eq 5, 3) := by decide +kernel
theorem dL_same_125 : decode cL_same 125 = .ok (.iconst 0, 1) := by decide +kernel
theorem dL_same_126 : decode cL_same 126 = .ok (.ireturn, 1) := by decide +kernel
theorem dL_same_127 : decode cL_same 127 = .ok (.iinc 5 1, 3) := by decide +kernel
theorem dL_same_130 : decode cL_same 130 = .ok (.iinc 6 1, 3) := by decide +kernel
theorem dL_same_133 : decode cL_same 133 = .ok (.goto (-55), 3) := by decide +kernel
theorem dL_same_136 : decode cL_same 136 = .ok (.iload 5, 2) := by decide +kernel
theorem dL_same_138 : decode cL_same 138 = .ok (.iload_n 3, 1) := by decide +kernel
theorem dL_same_139 : decode cL_same 139 = .ok (.iconst 1, 1) := by decide +kernel
theorem dL_same_140 : decode cL_same 140 = .ok (.iadd, 1) := by decide +kernel
theorem dL_same_141 : decode cL_same 141 = .ok (.if_icmp .eq 5, 3) := by decide +kernel
theorem dL_same_144 : decode cL_same 144 = .ok (.iconst 0, 1) := by decide +kernel
theorem dL_same_145 : decode cL_same 145 = .ok (.ireturn, 1) := by decide +kernel
theorem dL_same_146 : decode cL_same 146 = .ok (.iconst 0, 1) := by decide +kernel
theorem dL_same_147 : decode cL_same 147 = .ok (.istore 6, 2) := by decide +kernel
theorem dL_same_149 : decode cL_same 149 = .ok (.iload 6, 2) := by decide +kernel
theorem dL_same_151 : decode cL_same 151 = .ok (.bipush 8, 2) := by decide +kernel
theorem dL_same_153 : decode cL_same 153 = .ok (.if_icmp .ge 111, 3) := by decide +kernel
theorem dL_same_156 : decode cL_same 156 = .ok (.aload 4, 2) := by decide +kernel
theorem dL_same_158 : decode cL_same 158 = .ok (.iload 6, 2) := by decide +kernel
theorem dL_same_160 : decode cL_same 160 = .ok (.iconst 0, 1) := by decide +kernel
theorem dL_same_161 : decode cL_same 161 = .ok (.invokevirtual 35, 3) := by decide +kernel
theorem dL_same_164 : decode cL_same 164 = .ok (.iconst 1, 1) := by decide +kernel
theorem dL_same_165 : decode cL_same 165 = .ok (.if_icmp .ne 7, 3) := by decide +kernel
theorem dL_same_168 : decode cL_same 168 = .ok (.iconst 1, 1) := by decide +kernel
theorem dL_same_169 : decode cL_same 169 = .ok (.goto 4, 3) := by decide +kernel
theorem dL_same_172 : decode cL_same 172 = .ok (.iconst 0, 1) := by decide +kernel
theorem dL_same_173 : decode cL_same 173 = .ok (.istore 7, 2) := by decide +kernel
theorem dL_same_175 : decode cL_same 175 = .ok (.aload_n 0, 1) := by decide +kernel
theorem dL_same_176 : decode cL_same 176 = .ok (.iload 6, 2) := by decide +kernel
theorem dL_same_178 : decode cL_same 178 = .ok (.invokevirtual 65, 3) := by decide +kernel
theorem dL_same_181 : decode cL_same 181 = .ok (.aload 4, 2) := by decide +kernel
theorem dL_same_183 : decode cL_same 183 = .ok (.iload 6, 2) := by decide +kernel
theorem dL_same_185 : decode cL_same 185 = .ok (.invokevirtual 65, 3) := by decide +kernel
theorem dL_same_188 : decode cL_same 188 = .ok (.lcmp, 1) := by decide +kernel
theorem dL_same_189 : decode cL_same 189 = .ok (.ifCond .ne 67, 3) := by decide +kernel
theorem dL_same_192 : decode cL_same 192 = .ok (.aload_n 0, 1) := by decide +kernel
theorem dL_same_193 : decode cL_same 193 = .ok (.iload 6, 2) := by decide +kernel
theorem dL_same_195 : decode cL_same 195 = .ok (.iconst 0, 1) := by decide +kernel
theorem dL_same_196 : decode cL_same 196 = .ok (.invokevirtual 35, 3) := by decide +kernel
theorem dL_same_199 : decode cL_same 199 = .ok (.iconst 1, 1) := by decide +kernel
theorem dL_same_200 : decode cL_same 200 = .ok (.if_icmp .ne 7, 3) := by decide +kernel
theorem dL_same_203 : decode cL_same 203 = .ok (.iconst 1, 1) := by decide +kernel
theorem dL_same_204 : decode cL_same 204 = .ok (.goto 4, 3) := by decide +kernel
theorem dL_same_207 : decode cL_same 207 = .ok (.iconst 0, 1) := by decide +kernel
theorem dL_same_208 : decode cL_same 208 = .ok (.iload 7, 2) := by decide +kernel
theorem dL_same_210 : decode cL_same 210 = .ok (.if_icmp .ne 46, 3) := by decide +kernel
theorem dL_same_213 : decode cL_same 213 = .ok (.iload 7, 2) := by decide +kernel
theorem dL_same_215 : decode cL_same 215 = .ok (.ifCond .eq 21, 3) := by decide +kernel
theorem dL_same_218 : decode cL_same 218 = .ok (.aload_n 0, 1) := by decide +kernel
theorem dL_same_219 : decode cL_same 219 = .ok (.iload 6, 2) := by decide +kernel
theorem dL_same_221 : decode cL_same 221 = .ok (.iconst 1, 1) := by decide +kernel
theorem dL_same_222 : decode cL_same 222 = .ok (.invokevirtual 35, 3) := by decide +kernel
theorem dL_same_225 : decode cL_same 225 = .ok (.aload 4, 2) := by decide +kernel
theorem dL_same_227 : decode cL_same 227 = .ok (.iload 6, 2) := by decide +kernel
theorem dL_same_229 : decode cL_same 229 = .ok (.iconst 1, 1) := by decide +kernel
theorem dL_same_230 : decode cL_same 230 = .ok (.invokevirtual 35, 3) := by decide +kernel
theorem dL_same_233 : decode cL_same 233 = .ok (.if_icmp .ne 23, 3) := by decide +kernel
theorem dL_same_236 : decode cL_same 236 = .ok (.aload_n 0, 1) := by decide +kernel
theorem dL_same_237 : decode cL_same 237 = .ok (.iload 6, 2) := by decide +kernel
theorem dL_same_239 : decode cL_same 239 = .ok (.iconst 3, 1) := by decide +kernel
theorem dL_same_240 : decode cL_same 240 = .ok (.invokevirtual 35, 3) := by decide +kernel
theorem dL_same_243 : decode cL_same 243 = .ok (.iload 7, 2) := by decide +kernel
theorem dL_same_245 : decode cL_same 245 = .ok (.ifCond .eq 7, 3) := by decide +kernel
theorem dL_same_248 : decode cL_same 248 = .ok (.iconst 1, 1) := by decide +kernel
theorem dL_same_249 : decode cL_same 249 = .ok (.goto 4, 3) := by decide +kernel
theorem dL_same_252 : decode cL_same 252 = .ok (.iconst 0, 1) := by decide +kernel
theorem dL_same_253 : decode cL_same 253 = .ok (.if_icmp .eq 5, 3) := by decide +kernel
theorem dL_same_256 : decode cL_same 256 = .ok (.iconst 0, 1) := by decide +kernel
theorem dL_same_257 : decode cL_same 257 = .ok (.ireturn, 1) := by decide +kernel
theorem dL_same_258 : decode cL_same 258 = .ok (.iinc 6 1, 3) := by decide +kernel
theorem dL_same_261 : decode cL_same 261 = .ok (.goto (-112), 3) := by decide +kernel
theorem dL_same_264 : decode cL_same 264 = .ok (.iconst 1, 1) := by decide +kernel
theorem dL_same_265 : decode cL_same 265 = .ok (.ireturn, 1) := by decide +kernel
set_option maxRecDepth 20000 in
theorem ggL_raw_L_cell : GoodIn wsL_raw wsL_cell := goodIn_r _ [4] (by decide +kernel) (by decide +kernel)
set_option maxRecDepth 20000 in
theorem gL_raw_L_cell : GoodIn wsL_raw (va_wsS RL 68 yL_cell wsL_cell) := goodIn_app (goodIn_of _ (by decide +kernel)) ggL_raw_L_cell
theorem dL_raw_0 : decode cL_raw 0 = .ok (.aload_n 0, 1) := by decide +kernel
theorem dL_raw_1 : decode cL_raw 1 = .ok (.bipush 72, 2) := by decide +kernel
theorem dL_raw_3 : decode cL_raw 3 = .ok (.iload_n 1, 1) := by decide +kernel
theorem dL_raw_4 : decode cL_raw 4 = .ok (.iadd, 1) := by decide +kernel
theorem dL_raw_5 : decode cL_raw 5 = .ok (.invokestatic 68, 3) := by decide +kernel
theorem dL_raw_8 : decode cL_raw 8 = .ok (.sipush 255, 3) := by decide +kernel
theorem dL_raw_11 : decode cL_raw 11 = .ok (.iand, 1) := by decide +kernel
theorem dL_raw_12 : decode cL_raw 12 = .ok (.bipush 7, 2) := by decide +kernel
theorem dL_raw_14 : decode cL_raw 14 = .ok (.irem, 1) := by decide +kernel
theorem dL_raw_15 : decode cL_raw 15 = .ok (.istore_n 3, 1) := by decide +kernel
theorem dL_raw_16 : decode cL_raw 16 = .ok (.iload_n 1, 1) := by decide +kernel
theorem dL_raw_17 : decode cL_raw 17 = .ok (.iload_n 2, 1) := by decide +kernel
theorem dL_raw_18 : decode cL_raw 18 = .ok (.iadd, 1) := by decide +kernel
theorem dL_raw_19 : decode cL_raw 19 = .ok (.bipush 12, 2) := by decide +kernel
theorem dL_raw_21 : decode cL_raw 21 = .ok (.if_icmp .le 12, 3) := by decide +kernel
theorem dL_raw_24 : decode cL_raw 24 = .ok (.iload_n 3, 1) := by decide +kernel
theorem dL_raw_25 : decode cL_raw 25 = .ok (.iconst 3, 1) := by decide +kernel
theorem dL_raw_26 : decode cL_raw 26 = .ok (.if_icmp .le 7, 3) := by decide +kernel
theorem dL_raw_29 : decode cL_raw 29 = .ok (.iconst 1, 1) := by decide +kernel
theorem dL_raw_30 : decode cL_raw 30 = .ok (.goto 4, 3) := by decide +kernel
theorem dL_raw_33 : decode cL_raw 33 = .ok (.iload_n 3, 1) := by decide +kernel
theorem dL_raw_34 : decode cL_raw 34 = .ok (.ireturn, 1) := by decide +kernel
set_option maxRecDepth 20000 in
theorem ggL_kind_L_raw : GoodIn wsL_kind wsL_raw := goodIn_r _ [4, 5, 6, 3, 7] (by decide +kernel) (by decide +kernel)
set_option maxRecDepth 20000 in
theorem gL_kind_L_raw : GoodIn wsL_kind (va_wsS RL 72 yL_raw wsL_raw) := goodIn_app (goodIn_of _ (by decide +kernel)) ggL_kind_L_raw
theorem dL_kind_0 : decode cL_kind 0 = .ok (.iconst 1, 1) := by decide +kernel
theorem dL_kind_1 : decode cL_kind 1 = .ok (.istore_n 2, 1) := by decide +kernel
theorem dL_kind_2 : decode cL_kind 2 = .ok (.iconst 0, 1) := by decide +kernel
theorem dL_kind_3 : decode cL_kind 3 = .ok (.istore_n 3, 1) := by decide +kernel
theorem dL_kind_4 : decode cL_kind 4 = .ok (.iload_n 3, 1) := by decide +kernel
theorem dL_kind_5 : decode cL_kind 5 = .ok (.iload_n 1, 1) := by decide +kernel
theorem dL_kind_6 : decode cL_kind 6 = .ok (.if_icmp .ge 49, 3) := by decide +kernel
theorem dL_kind_9 : decode cL_kind 9 = .ok (.aload_n 0, 1) := by decide +kernel
theorem dL_kind_10 : decode cL_kind 10 = .ok (.iload_n 3, 1) := by decide +kernel
theorem dL_kind_11 : decode cL_kind 11 = .ok (.iload_n 2, 1) := by decide +kernel
theorem dL_kind_12 : decode cL_kind 12 = .ok (.invokestatic 72, 3) := by decide +kernel
theorem dL_kind_15 : decode cL_kind 15 = .ok (.istore 4, 2) := by decide +kernel
theorem dL_kind_17 : decode cL_kind 17 = .ok (.iload_n 2, 1) := by decide +kernel
theorem dL_kind_18 : decode cL_kind 18 = .ok (.iload 4, 2) := by decide +kernel
theorem dL_kind_20 : decode cL_kind 20 = .ok (.iconst 4, 1) := by decide +kernel
theorem dL_kind_21 : decode cL_kind 21 = .ok (.if_icmp .ge 7, 3) := by decide +kernel
theorem dL_kind_24 : decode cL_kind 24 = .ok (.iconst (-1), 1) := by decide +kernel
theorem dL_kind_25 : decode cL_kind 25 = .ok (.goto 15, 3) := by decide +kernel
theorem dL_kind_28 : decode cL_kind 28 = .ok (.iload 4, 2) := by decide +kernel
theorem dL_kind_30 : decode cL_kind 30 = .ok (.bipush 6, 2) := by decide +kernel
theorem dL_kind_32 : decode cL_kind 32 = .ok (.if_icmp .ge 7, 3) := by decide +kernel
theorem dL_kind_35 : decode cL_kind 35 = .ok (.iconst 1, 1) := by decide +kernel
theorem dL_kind_36 : decode cL_kind 36 = .ok (.goto 4, 3) := by decide +kernel
theorem dL_kind_39 : decode cL_kind 39 = .ok (.iconst 0, 1) := by decide +kernel
theorem dL_kind_40 : decode cL_kind 40 = .ok (.iadd, 1) := by decide +kernel
theorem dL_kind_41 : decode cL_kind 41 = .ok (.istore_n 2, 1) := by decide +kernel
theorem dL_kind_42 : decode cL_kind 42 = .ok (.iload_n 2, 1) := by decide +kernel
theorem dL_kind_43 : decode cL_kind 43 = .ok (.ifCond .ne 6, 3) := by decide +kernel
theorem dL_kind_46 : decode cL_kind 46 = .ok (.bipush 9, 2) := by decide +kernel
theorem dL_kind_48 : decode cL_kind 48 = .ok (.ireturn, 1) := by decide +kernel
theorem dL_kind_49 : decode cL_kind 49 = .ok (.iinc 3 1, 3) := by decide +kernel
theorem dL_kind_52 : decode cL_kind 52 = .ok (.goto (-48), 3) := by decide +kernel
theorem dL_kind_55 : decode cL_kind 55 = .ok (.aload_n 0, 1) := by decide +kernel
theorem dL_kind_56 : decode cL_kind 56 = .ok (.iload_n 1, 1) := by decide +kernel
theorem dL_kind_57 : decode cL_kind 57 = .ok (.iload_n 2, 1) := by decide +kernel
theorem dL_kind_58 : decode cL_kind 58 = .ok (.invokestatic 72, 3) := by decide +kernel
theorem dL_kind_61 : decode cL_kind 61 = .ok (.ireturn, 1) := by decide +kernel
set_option maxRecDepth 20000 in
theorem ggL_a_L_kind : GoodIn wsL_a wsL_kind := goodIn_r _ [4, 5, 6, 3, 7, 8, 9, 10] (by decide +kernel) (by decide +kernel)
set_option maxRecDepth 20000 in
theorem gL_a_L_kind : GoodIn wsL_a (va_wsS RL 76 yL_kind wsL_kind) := goodIn_app (goodIn_of _ (by decide +kernel)) ggL_a_L_kind
set_option maxRecDepth 20000 in
theorem ggL_a_L_cell : GoodIn wsL_a wsL_cell := goodIn_r _ [10] (by decide +kernel) (by decide +kernel)
set_option maxRecDepth 20000 in
theorem gL_a_L_cell : GoodIn wsL_a (va_wsS RL 68 yL_cell wsL_cell) := goodIn_app (goodIn_of _ (by decide +kernel)) ggL_a_L_cell
theorem dL_a_0 : decode cL_a 0 = .ok (.aload_n 0, 1) := by decide +kernel
theorem dL_a_1 : decode cL_a 1 = .ok (.iload_n 1, 1) := by decide +kernel
theorem dL_a_2 : decode cL_a 2 = .ok (.invokestatic 76, 3) := by decide +kernel
theorem dL_a_5 : decode cL_a 5 = .ok (.iconst 3, 1) := by decide +kernel
theorem dL_a_6 : decode cL_a 6 = .ok (.if_icmp .ne 22, 3) := by decide +kernel
theorem dL_a_9 : decode cL_a 9 = .ok (.aload_n 0, 1) := by decide +kernel
theorem dL_a_10 : decode cL_a 10 = .ok (.bipush 72, 2) := by decide +kernel
theorem dL_a_12 : decode cL_a 12 = .ok (.iload_n 1, 1) := by decide +kernel
theorem dL_a_13 : decode cL_a 13 = .ok (.iadd, 1) := by decide +kernel
theorem dL_a_14 : decode cL_a 14 = .ok (.invokestatic 68, 3) := by decide +kernel
theorem dL_a_17 : decode cL_a 17 = .ok (.bipush 8, 2) := by decide +kernel
theorem dL_a_19 : decode cL_a 19 = .ok (.ishr, 1) := by decide +kernel
theorem dL_a_20 : decode cL_a 20 = .ok (.bipush 7, 2) := by decide +kernel
theorem dL_a_22 : decode cL_a 22 = .ok (.iand, 1) := by decide +kernel
theorem dL_a_23 : decode cL_a 23 = .ok (.iconst 4, 1) := by decide +kernel
theorem dL_a_24 : decode cL_a 24 = .ok (.isub, 1) := by decide +kernel
theorem dL_a_25 : decode cL_a 25 = .ok (.goto 32, 3) := by decide +kernel
theorem dL_a_28 : decode cL_a 28 = .ok (.iconst 1, 1) := by decide +kernel
theorem dL_a_29 : decode cL_a 29 = .ok (.aload_n 0, 1) := by decide +kernel
theorem dL_a_30 : decode cL_a 30 = .ok (.bipush 72, 2) := by decide +kernel
theorem dL_a_32 : decode cL_a 32 = .ok (.iload_n 1, 1) := by decide +kernel
theorem dL_a_33 : decode cL_a 33 = .ok (.iadd, 1) := by decide +kernel
theorem dL_a_34 : decode cL_a 34 = .ok (.invokestatic 68, 3) := by decide +kernel
theorem dL_a_37 : decode cL_a 37 = .ok (.bipush 8, 2) := by decide +kernel
theorem dL_a_39 : decode cL_a 39 = .ok (.ishr, 1) := by decide +kernel
theorem dL_a_40 : decode cL_a 40 = .ok (.iconst 1, 1) := by decide +kernel
theorem dL_a_41 : decode cL_a 41 = .ok (.iand, 1) := by decide +kernel
theorem dL_a_42 : decode cL_a 42 = .ok (.iadd, 1) := by decide +kernel
theorem dL_a_43 : decode cL_a 43 = .ok (.aload_n 0, 1) := by decide +kernel
theorem dL_a_44 : decode cL_a 44 = .ok (.bipush 72, 2) := by decide +kernel
theorem dL_a_46 : decode cL_a 46 = .ok (.iload_n 1, 1) := by decide +kernel
theorem dL_a_47 : decode cL_a 47 = .ok (.iadd, 1) := by decide +kernel
theorem dL_a_48 : decode cL_a 48 = .ok (.invokestatic 68, 3) := by decide +kernel
theorem dL_a_51 : decode cL_a 51 = .ok (.bipush 9, 2) := by decide +kernel
theorem dL_a_53 : decode cL_a 53 = .ok (.ishr, 1) := by decide +kernel
theorem dL_a_54 : decode cL_a 54 = .ok (.iconst 1, 1) := by decide +kernel
theorem dL_a_55 : decode cL_a 55 = .ok (.iand, 1) := by decide +kernel
theorem dL_a_56 : decode cL_a 56 = .ok (.iadd, 1) := by decide +kernel
theorem dL_a_57 : decode cL_a 57 = .ok (.ireturn, 1) := by decide +kernel
set_option maxRecDepth 20000 in
theorem ggL_b_L_kind : GoodIn wsL_b wsL_kind := goodIn_r _ [4, 5, 6, 3, 7, 8, 9, 10] (by decide +kernel) (by decide +kernel)
set_option maxRecDepth 20000 in
theorem gL_b_L_kind : GoodIn wsL_b (va_wsS RL 76 yL_kind wsL_kind) := goodIn_app (goodIn_of _ (by decide +kernel)) ggL_b_L_kind
set_option maxRecDepth 20000 in
theorem ggL_b_L_cell : GoodIn wsL_b wsL_cell := goodIn_r _ [10] (by decide +kernel) (by decide +kernel)
set_option maxRecDepth 20000 in
theorem gL_b_L_cell : GoodIn wsL_b (va_wsS RL 68 yL_cell wsL_cell) := goodIn_app (goodIn_of _ (by decide +kernel)) ggL_b_L_cell
theorem dL_b_0 : decode cL_b 0 = .ok (.aload_n 0, 1) := by decide +kernel
theorem dL_b_1 : decode cL_b 1 = .ok (.iload_n 1, 1) := by decide +kernel
theorem dL_b_2 : decode cL_b 2 = .ok (.invokestatic 76, 3) := by decide +kernel
theorem dL_b_5 : decode cL_b 5 = .ok (.iconst 3, 1) := by decide +kernel
theorem dL_b_6 : decode cL_b 6 = .ok (.if_icmp .ne 22, 3) := by decide +kernel
theorem dL_b_9 : decode cL_b 9 = .ok (.aload_n 0, 1) := by decide +kernel
theorem dL_b_10 : decode cL_b 10 = .ok (.bipush 72, 2) := by decide +kernel
theorem dL_b_12 : decode cL_b 12 = .ok (.iload_n 1, 1) := by decide +kernel
theorem dL_b_13 : decode cL_b 13 = .ok (.iadd, 1) := by decide +kernel
theorem dL_b_14 : decode cL_b 14 = .ok (.invokestatic 68, 3) := by decide +kernel
theorem dL_b_17 : decode cL_b 17 = .ok (.bipush 11, 2) := by decide +kernel
theorem dL_b_19 : decode cL_b 19 = .ok (.ishr, 1) := by decide +kernel
theorem dL_b_20 : decode cL_b 20 = .ok (.bipush 7, 2) := by decide +kernel
theorem dL_b_22 : decode cL_b 22 = .ok (.iand, 1) := by decide +kernel
theorem dL_b_23 : decode cL_b 23 = .ok (.iconst 3, 1) := by decide +kernel
theorem dL_b_24 : decode cL_b 24 = .ok (.isub, 1) := by decide +kernel
theorem dL_b_25 : decode cL_b 25 = .ok (.goto 32, 3) := by decide +kernel
theorem dL_b_28 : decode cL_b 28 = .ok (.iconst 1, 1) := by decide +kernel
theorem dL_b_29 : decode cL_b 29 = .ok (.aload_n 0, 1) := by decide +kernel
theorem dL_b_30 : decode cL_b 30 = .ok (.bipush 72, 2) := by decide +kernel
theorem dL_b_32 : decode cL_b 32 = .ok (.iload_n 1, 1) := by decide +kernel
theorem dL_b_33 : decode cL_b 33 = .ok (.iadd, 1) := by decide +kernel
theorem dL_b_34 : decode cL_b 34 = .ok (.invokestatic 68, 3) := by decide +kernel
theorem dL_b_37 : decode cL_b 37 = .ok (.bipush 11, 2) := by decide +kernel
theorem dL_b_39 : decode cL_b 39 = .ok (.ishr, 1) := by decide +kernel
theorem dL_b_40 : decode cL_b 40 = .ok (.iconst 1, 1) := by decide +kernel
theorem dL_b_41 : decode cL_b 41 = .ok (.iand, 1) := by decide +kernel
theorem dL_b_42 : decode cL_b 42 = .ok (.iadd, 1) := by decide +kernel
theorem dL_b_43 : decode cL_b 43 = .ok (.aload_n 0, 1) := by decide +kernel
theorem dL_b_44 : decode cL_b 44 = .ok (.bipush 72, 2) := by decide +kernel
theorem dL_b_46 : decode cL_b 46 = .ok (.iload_n 1, 1) := by decide +kernel
theorem dL_b_47 : decode cL_b 47 = .ok (.iadd, 1) := by decide +kernel
theorem dL_b_48 : decode cL_b 48 = .ok (.invokestatic 68, 3) := by decide +kernel
theorem dL_b_51 : decode cL_b 51 = .ok (.bipush 12, 2) := by decide +kernel
theorem dL_b_53 : decode cL_b 53 = .ok (.ishr, 1) := by decide +kernel
theorem dL_b_54 : decode cL_b 54 = .ok (.iconst 1, 1) := by decide +kernel
theorem dL_b_55 : decode cL_b 55 = .ok (.iand, 1) := by decide +kernel
theorem dL_b_56 : decode cL_b 56 = .ok (.iadd, 1) := by decide +kernel
theorem dL_b_57 : decode cL_b 57 = .ok (.ireturn, 1) := by decide +kernel
theorem dL_often_0 : decode cL_often 0 = .ok (.lload_n 0, 1) := by decide +kernel
theorem dL_often_1 : decode cL_often 1 = .ok (.bipush 32, 2) := by decide +kernel
theorem dL_often_3 : decode cL_often 3 = .ok (.lshr, 1) := by decide +kernel
theorem dL_often_4 : decode cL_often 4 = .ok (.l2i, 1) := by decide +kernel
theorem dL_often_5 : decode cL_often 5 = .ok (.istore 4, 2) := by decide +kernel
theorem dL_often_7 : decode cL_often 7 = .ok (.iconst 0, 1) := by decide +kernel
theorem dL_often_8 : decode cL_often 8 = .ok (.istore 5, 2) := by decide +kernel
theorem dL_often_10 : decode cL_often 10 = .ok (.iload 4, 2) := by decide +kernel
theorem dL_often_12 : decode cL_often 12 = .ok (.istore 6, 2) := by decide +kernel
theorem dL_often_14 : decode cL_often 14 = .ok (.iload 6, 2) := by decide +kernel
theorem dL_often_16 : decode cL_often 16 = .ok (.bipush 15, 2) := by decide +kernel
theorem dL_often_18 : decode cL_often 18 = .ok (.iand, 1) := by decide +kernel
theorem dL_often_19 : decode cL_often 19 = .ok (.ifCond .eq 39, 3) := by decide +kernel
theorem dL_often_22 : decode cL_often 22 = .ok (.iload 6, 2) := by decide +kernel
