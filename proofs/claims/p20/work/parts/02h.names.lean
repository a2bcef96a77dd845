theorem dL_score_16 : decode cL_score 16 = .ok (.iload 5, 2) := by decide +kernel
theorem dL_score_18 : decode cL_score 18 = .ok (.if_icmp .ge 81, 3) := by decide +kernel
theorem dL_score_21 : decode cL_score 21 = .ok (.aload_n 0, 1) := by decide +kernel
theorem dL_score_22 : decode cL_score 22 = .ok (.iload 6, 2) := by decide +kernel
theorem dL_score_24 : decode cL_score 24 = .ok (.invokestatic 76, 3) := by decide +kernel
theorem dL_score_27 : decode cL_score 27 = .ok (.istore 7, 2) := by decide +kernel
theorem dL_score_29 : decode cL_score 29 = .ok (.iload 4, 2) := by decide +kernel
theorem dL_score_31 : decode cL_score 31 = .ok (.ifCond .le 33, 3) := by decide +kernel
theorem dL_score_34 : decode cL_score 34 = .ok (.iload 4, 2) := by decide +kernel
theorem dL_score_36 : decode cL_score 36 = .ok (.iload 7, 2) := by decide +kernel
theorem dL_score_38 : decode cL_score 38 = .ok (.iconst 4, 1) := by decide +kernel
theorem dL_score_39 : decode cL_score 39 = .ok (.if_icmp .ge 7, 3) := by decide +kernel
theorem dL_score_42 : decode cL_score 42 = .ok (.iconst (-1), 1) := by decide +kernel
theorem dL_score_43 : decode cL_score 43 = .ok (.goto 15, 3) := by decide +kernel
theorem dL_score_46 : decode cL_score 46 = .ok (.iload 7, 2) := by decide +kernel
theorem dL_score_48 : decode cL_score 48 = .ok (.bipush 6, 2) := by decide +kernel
theorem dL_score_50 : decode cL_score 50 = .ok (.if_icmp .ge 7, 3) := by decide +kernel
theorem dL_score_53 : decode cL_score 53 = .ok (.iconst 1, 1) := by decide +kernel
theorem dL_score_54 : decode cL_score 54 = .ok (.goto 4, 3) := by decide +kernel
theorem dL_score_57 : decode cL_score 57 = .ok (.iconst 0, 1) := by decide +kernel
theorem dL_score_58 : decode cL_score 58 = .ok (.iadd, 1) := by decide +kernel
theorem dL_score_59 : decode cL_score 59 = .ok (.istore 4, 2) := by decide +kernel
theorem dL_score_61 : decode cL_score 61 = .ok (.goto 32, 3) := by decide +kernel
theorem dL_score_64 : decode cL_score 64 = .ok (.iload 7, 2) := by decide +kernel
theorem dL_score_66 : decode cL_score 66 = .ok (.bipush 6, 2) := by decide +kernel
theorem dL_score_68 : decode cL_score 68 = .ok (.if_icmp .ne 9, 3) := by decide +kernel
theorem dL_score_71 : decode cL_score 71 = .ok (.iconst 1, 1) := by decide +kernel
theorem dL_score_72 : decode cL_score 72 = .ok (.istore 4, 2) := by decide +kernel
theorem dL_score_74 : decode cL_score 74 = .ok (.goto 19, 3) := by decide +kernel
theorem dL_score_77 : decode cL_score 77 = .ok (.iload 7, 2) := by decide +kernel
theorem dL_score_79 : decode cL_score 79 = .ok (.iconst 4, 1) := by decide +kernel
theorem dL_score_80 : decode cL_score 80 = .ok (.if_icmp .ge 13, 3) := by decide +kernel
theorem dL_score_83 : decode cL_score 83 = .ok (.iload_n 3, 1) := by decide +kernel
theorem dL_score_84 : decode cL_score 84 = .ok (.aload_n 0, 1) := by decide +kernel
theorem dL_score_85 : decode cL_score 85 = .ok (.iload 6, 2) := by decide +kernel
theorem dL_score_87 : decode cL_score 87 = .ok (.lload_n 1, 1) := by decide +kernel
theorem dL_score_88 : decode cL_score 88 = .ok (.invokestatic 93, 3) := by decide +kernel
theorem dL_score_91 : decode cL_score 91 = .ok (.iadd, 1) := by decide +kernel
theorem dL_score_92 : decode cL_score 92 = .ok (.istore_n 3, 1) := by decide +kernel
theorem dL_score_93 : decode cL_score 93 = .ok (.iinc 6 1, 3) := by decide +kernel
theorem dL_score_96 : decode cL_score 96 = .ok (.goto (-82), 3) := by decide +kernel
theorem dL_score_99 : decode cL_score 99 = .ok (.iload_n 3, 1) := by decide +kernel
theorem dL_score_100 : decode cL_score 100 = .ok (.ireturn, 1) := by decide +kernel
set_option maxRecDepth 20000 in
theorem ggL_key_L_score : GoodIn wsL_key wsL_score := goodIn_r _ [4, 5, 6, 3, 7, 8, 9, 10, 11, 12, 13, 14, 15, 16, 17, 18, 19, 20, 21, 22, 23, 24, 25, 26, 27, 28] (by decide +kernel) (by decide +kernel)
set_option maxRecDepth 20000 in
theorem gL_key_L_score : GoodIn wsL_key (va_wsS RL 97 yL_score wsL_score) := goodIn_app (goodIn_of _ (by decide +kernel)) ggL_key_L_score
theorem dL_key_0 : decode cL_key 0 = .ok (.iload_n 1, 1) := by decide +kernel
theorem dL_key_1 : decode cL_key 1 = .ok (.ifCond .ne 11, 3) := by decide +kernel
theorem dL_key_4 : decode cL_key 4 = .ok (.aload_n 0, 1) := by decide +kernel
theorem dL_key_5 : decode cL_key 5 = .ok (.lload_n 2, 1) := by decide +kernel
theorem dL_key_6 : decode cL_key 6 = .ok (.invokestatic 97, 3) := by decide +kernel
theorem dL_key_9 : decode cL_key 9 = .ok (.goto 5, 3) := by decide +kernel
theorem dL_key_12 : decode cL_key 12 = .ok (.lload_n 2, 1) := by decide +kernel
theorem dL_key_13 : decode cL_key 13 = .ok (.l2i, 1) := by decide +kernel
theorem dL_key_14 : decode cL_key 14 = .ok (.ireturn, 1) := by decide +kernel
theorem dL_before_0 : decode cL_before 0 = .ok (.iload_n 1, 1) := by decide +kernel
theorem dL_before_1 : decode cL_before 1 = .ok (.iload_n 3, 1) := by decide +kernel
theorem dL_before_2 : decode cL_before 2 = .ok (.if_icmp .ne 17, 3) := by decide +kernel
theorem dL_before_5 : decode cL_before 5 = .ok (.iload_n 2, 1) := by decide +kernel
theorem dL_before_6 : decode cL_before 6 = .ok (.iload 4, 2) := by decide +kernel
theorem dL_before_8 : decode cL_before 8 = .ok (.if_icmp .ge 7, 3) := by decide +kernel
theorem dL_before_11 : decode cL_before 11 = .ok (.iconst 1, 1) := by decide +kernel
theorem dL_before_12 : decode cL_before 12 = .ok (.goto 35, 3) := by decide +kernel
theorem dL_before_15 : decode cL_before 15 = .ok (.iconst 0, 1) := by decide +kernel
theorem dL_before_16 : decode cL_before 16 = .ok (.goto 31, 3) := by decide +kernel
theorem dL_before_19 : decode cL_before 19 = .ok (.iload_n 0, 1) := by decide +kernel
theorem dL_before_20 : decode cL_before 20 = .ok (.iconst 1, 1) := by decide +kernel
theorem dL_before_21 : decode cL_before 21 = .ok (.if_icmp .ne 16, 3) := by decide +kernel
theorem dL_before_24 : decode cL_before 24 = .ok (.iload_n 1, 1) := by decide +kernel
theorem dL_before_25 : decode cL_before 25 = .ok (.iload_n 3, 1) := by decide +kernel
theorem dL_before_26 : decode cL_before 26 = .ok (.if_icmp .ge 7, 3) := by decide +kernel
theorem dL_before_29 : decode cL_before 29 = .ok (.iconst 1, 1) := by decide +kernel
theorem dL_before_30 : decode cL_before 30 = .ok (.goto 17, 3) := by decide +kernel
theorem dL_before_33 : decode cL_before 33 = .ok (.iconst 0, 1) := by decide +kernel
theorem dL_before_34 : decode cL_before 34 = .ok (.goto 13, 3) := by decide +kernel
theorem dL_before_37 : decode cL_before 37 = .ok (.iload_n 1, 1) := by decide +kernel
theorem dL_before_38 : decode cL_before 38 = .ok (.iload_n 3, 1) := by decide +kernel
theorem dL_before_39 : decode cL_before 39 = .ok (.if_icmp .le 7, 3) := by decide +kernel
theorem dL_before_42 : decode cL_before 42 = .ok (.iconst 1, 1) := by decide +kernel
theorem dL_before_43 : decode cL_before 43 = .ok (.goto 4, 3) := by decide +kernel
theorem dL_before_46 : decode cL_before 46 = .ok (.iconst 0, 1) := by decide +kernel
theorem dL_before_47 : decode cL_before 47 = .ok (.ireturn, 1) := by decide +kernel
set_option maxRecDepth 20000 in
theorem glL_answers_X5_known_r1 : GoodIn wsL_answers wsX5_known_r1 := goodIn_r _ [6, 7, 8, 9, 10, 11, 4, 12, 13, 14, 15, 16, 17, 18, 19, 20, 21, 22, 23, 24, 25, 26, 27, 28] (by decide +kernel) (by decide +kernel)
set_option maxRecDepth 20000 in
theorem glL_answers_X5_known_r2 : GoodIn wsL_answers wsX5_known_r2 := goodIn_r _ [29, 30, 31, 32, 33] (by decide +kernel) (by decide +kernel)
set_option maxRecDepth 20000 in
theorem glL_answers_X50 : GoodIn wsL_answers wsX50 := goodIn_r _ [160, 161, 162, 163, 164, 165, 166, 167, 168, 169] (by decide +kernel) (by decide +kernel)
set_option maxRecDepth 20000 in
theorem glL_answers_X10 : GoodIn wsL_answers wsX10 := goodIn_r _ [170, 171, 172, 173] (by decide +kernel) (by decide +kernel)
set_option maxRecDepth 20000 in
theorem glL_answers_X00 : GoodIn wsL_answers wsX00 := goodIn_r _ [174, 175, 176, 177] (by decide +kernel) (by decide +kernel)
theorem ggL_answers_X5_known : GoodIn wsL_answers wsX5_known := goodIn_c1 (goodIn_r [Cond.code yX5_known cX5_known 3 (some .int)] [5] (by decide +kernel) (by decide +kernel)) (goodIn_app (goodIn_app (goodIn_app (goodIn_app glL_answers_X5_known_r1 glL_answers_X5_known_r2) glL_answers_X50) glL_answers_X10) glL_answers_X00)
set_option maxRecDepth 20000 in
theorem gL_answers_X5_known : GoodIn wsL_answers (wsV RL 35 RX5 yX5_known wsX5_known) := goodIn_app (goodIn_of _ (by decide +kernel)) ggL_answers_X5_known
set_option maxRecDepth 20000 in
theorem ggL_answers_X5_get : GoodIn wsL_answers wsX5_get := goodIn_r _ [37, 6, 38, 39, 7, 8, 10, 11, 4, 12, 40, 41, 42, 16, 43, 44, 160, 161, 162, 163, 164, 165, 166, 167, 168, 169, 170, 171, 172, 173, 174, 175, 176, 177] (by decide +kernel) (by decide +kernel)
set_option maxRecDepth 20000 in
theorem gL_answers_X5_get : GoodIn wsL_answers (wsV RL 65 RX5 yX5_get wsX5_get) := goodIn_app (goodIn_of _ (by decide +kernel)) ggL_answers_X5_get
set_option maxRecDepth 20000 in
theorem ggL_answers_L_matches : GoodIn wsL_answers wsL_matches := goodIn_r _ [48, 49, 50, 47, 51, 52, 53, 54, 55, 56, 57, 58, 59, 60, 61, 62, 63, 64, 65, 66, 67, 68, 69, 70, 71, 72] (by decide +kernel) (by decide +kernel)
set_option maxRecDepth 20000 in
theorem gL_answers_L_matches : GoodIn wsL_answers (va_wsS RL 101 yL_matches wsL_matches) := goodIn_app (goodIn_of _ (by decide +kernel)) ggL_answers_L_matches
set_option maxRecDepth 20000 in
theorem glL_answers_X5_hit_r1 : GoodIn wsL_answers wsX5_hit_r1 := goodIn_r _ [6, 77, 78, 79, 80, 4, 81, 82, 83, 84, 85, 86, 87, 88, 89, 90, 91, 92, 93, 94, 95, 9, 29, 30] (by decide +kernel) (by decide +kernel)
set_option maxRecDepth 20000 in
theorem glL_answers_X5_hit_r2 : GoodIn wsL_answers wsX5_hit_r2 := goodIn_r _ [31, 16, 32, 33, 14, 15, 17, 18, 11, 12, 40, 41, 42, 43, 44, 96, 97, 98, 99, 100, 101, 102, 103, 104] (by decide +kernel) (by decide +kernel)
set_option maxRecDepth 20000 in
theorem glL_answers_X5_hit_r3 : GoodIn wsL_answers wsX5_hit_r3 := goodIn_r _ [105, 106, 107, 108, 109, 110, 111, 112, 113, 114, 115, 116, 117, 118, 119, 120, 121, 122, 123, 124, 125, 126, 127, 128] (by decide +kernel) (by decide +kernel)
set_option maxRecDepth 20000 in
theorem glL_answers_X5_hit_r4 : GoodIn wsL_answers wsX5_hit_r4 := goodIn_r _ [129, 130, 131, 132, 133, 134, 135, 136, 137, 138, 139, 10, 140, 141, 142] (by decide +kernel) (by decide +kernel)
set_option maxRecDepth 20000 in
theorem glL_answers_X40 : GoodIn wsL_answers wsX40 := goodIn_r _ [178, 179, 180, 181, 182, 183] (by decide +kernel) (by decide +kernel)
theorem ggL_answers_X5_hit : GoodIn wsL_answers wsX5_hit := goodIn_c1 (goodIn_r [Cond.code yX5_hit cX5_hit 4 (some .int)] [76] (by decide +kernel) (by decide +kernel)) (goodIn_app (goodIn_app (goodIn_app (goodIn_app glL_answers_X5_hit_r1 (goodIn_app glL_answers_X5_hit_r2 (goodIn_app glL_answers_X5_hit_r3 glL_answers_X5_hit_r4))) glL_answers_X50) glL_answers_X40) glL_answers_X00)
set_option maxRecDepth 20000 in
theorem gL_answers_X5_hit : GoodIn wsL_answers (wsV RL 105 RX5 yX5_hit wsX5_hit) := goodIn_app (goodIn_of _ (by decide +kernel)) ggL_answers_X5_hit
set_option maxRecDepth 20000 in
theorem glL_answers_X5_score_r1 : GoodIn wsL_answers wsX5_score_r1 := goodIn_r _ [6, 77, 78, 10, 11, 4, 12, 82, 83, 84, 85, 86, 87, 88, 89, 90, 91, 92, 93, 94, 95, 9, 29, 30] (by decide +kernel) (by decide +kernel)
set_option maxRecDepth 20000 in
theorem glL_answers_X5_score_r2 : GoodIn wsL_answers wsX5_score_r2 := goodIn_r _ [31, 16, 32, 33, 14, 15, 17, 18, 40, 41, 42, 43, 44, 96, 97, 98, 99, 100, 101, 102, 103, 104, 105, 106] (by decide +kernel) (by decide +kernel)
set_option maxRecDepth 20000 in
theorem glL_answers_X5_score_r3 : GoodIn wsL_answers wsX5_score_r3 := goodIn_r _ [107, 108, 109, 110, 111, 112, 113, 114, 115, 116, 117, 118, 119, 120, 121, 122, 123, 124, 125, 126, 127] (by decide +kernel) (by decide +kernel)
theorem ggL_answers_X5_score : GoodIn wsL_answers wsX5_score := goodIn_c1 (goodIn_r [Cond.code yX5_score cX5_score 2 (some .int)] [146] (by decide +kernel) (by decide +kernel)) (goodIn_app (goodIn_app (goodIn_app (goodIn_app glL_answers_X5_score_r1 (goodIn_app glL_answers_X5_score_r2 glL_answers_X5_score_r3)) glL_answers_X50) glL_answers_X40) glL_answers_X00)
set_option maxRecDepth 20000 in
theorem gL_answers_X5_score : GoodIn wsL_answers (wsV RL 108 RX5 yX5_score wsX5_score) := goodIn_app (goodIn_of _ (by decide +kernel)) ggL_answers_X5_score
set_option maxRecDepth 20000 in
theorem ggL_answers_L_score : GoodIn wsL_answers wsL_score := goodIn_r _ [149, 49, 50, 47, 51, 52, 53, 54, 55, 56, 57, 58, 59, 60, 61, 62, 63, 64, 65, 66, 67, 68, 69, 70, 71, 72] (by decide +kernel) (by decide +kernel)
set_option maxRecDepth 20000 in
theorem gL_answers_L_score : GoodIn wsL_answers (va_wsS RL 97 yL_score wsL_score) := goodIn_app (goodIn_of _ (by decide +kernel)) ggL_answers_L_score
set_option maxRecDepth 20000 in
theorem ggL_answers_L_key : GoodIn wsL_answers wsL_key := goodIn_r _ [152, 147, 148, 47, 149, 49, 50, 51, 52, 53, 54, 55, 56, 57, 58, 59, 60, 61, 62, 63, 64, 65, 66, 67, 68, 69, 70, 71, 72] (by decide +kernel) (by decide +kernel)
set_option maxRecDepth 20000 in
theorem gL_answers_L_key : GoodIn wsL_answers (va_wsS RL 110 yL_key wsL_key) := goodIn_app (goodIn_of _ (by decide +kernel)) ggL_answers_L_key
set_option maxRecDepth 20000 in
theorem ggL_answers_L_before : GoodIn wsL_answers wsL_before := goodIn_r _ [155] (by decide +kernel) (by decide +kernel)
set_option maxRecDepth 20000 in
theorem gL_answers_L_before : GoodIn wsL_answers (va_wsS RL 113 yL_before wsL_before) := goodIn_app (goodIn_of _ (by decide +kernel)) ggL_answers_L_before
set_option maxRecDepth 20000 in
theorem glL_answers_X5_after_r1 : GoodIn wsL_answers wsX5_after_r1 := goodIn_r _ [6, 77, 78, 79, 80, 4, 81, 82, 83, 84, 85, 86, 87, 88, 89, 90, 91, 92, 93, 94, 95, 9, 29, 30] (by decide +kernel) (by decide +kernel)
set_option maxRecDepth 20000 in
theorem glL_answers_X5_after_r2 : GoodIn wsL_answers wsX5_after_r2 := goodIn_r _ [31, 16, 32, 33, 14, 15, 17, 18, 11, 12, 40, 41, 42, 43, 44, 96, 97, 98, 99, 100, 101, 102, 103, 104] (by decide +kernel) (by decide +kernel)
set_option maxRecDepth 20000 in
theorem glL_answers_X5_after_r3 : GoodIn wsL_answers wsX5_after_r3 := goodIn_r _ [105, 106, 107, 108, 109, 110, 111, 112, 113, 114, 115, 116, 117, 118, 119, 120, 121, 122, 123, 124, 125, 126, 127, 136] (by decide +kernel) (by decide +kernel)
set_option maxRecDepth 20000 in
theorem glL_answers_X5_after_r4 : GoodIn wsL_answers wsX5_after_r4 := goodIn_r _ [137, 138, 139, 10, 140, 141, 142] (by decide +kernel) (by decide +kernel)
theorem ggL_answers_X5_after : GoodIn wsL_answers wsX5_after := goodIn_c1 (goodIn_r [Cond.code yX5_after cX5_after 6 (some .int)] [159] (by decide +kernel) (by decide +kernel)) (goodIn_app (goodIn_app (goodIn_app (goodIn_app glL_answers_X5_after_r1 (goodIn_app glL_answers_X5_after_r2 (goodIn_app glL_answers_X5_after_r3 glL_answers_X5_after_r4))) glL_answers_X50) glL_answers_X40) glL_answers_X00)
set_option maxRecDepth 20000 in
theorem gL_answers_X5_after : GoodIn wsL_answers (wsV RL 117 RX5 yX5_after wsX5_after) := goodIn_app (goodIn_of _ (by decide +kernel)) ggL_answers_X5_after
theorem dL_answers_0 : decode cL_answers 0 = .ok (.iconst 0, 1) := by decide +kernel
theorem dL_answers_1 : decode cL_answers 1 = .ok (.istore_n 2, 1) := by decide +kernel
theorem dL_answers_2 : decode cL_answers 2 = .ok (.iconst 0, 1) := by decide +kernel
theorem dL_answers_3 : decode cL_answers 3 = .ok (.istore_n 3, 1) := by decide +kernel
theorem dL_answers_4 : decode cL_answers 4 = .ok (.iload_n 3, 1) := by decide +kernel
theorem dL_answers_5 : decode cL_answers 5 = .ok (.bipush 8, 2) := by decide +kernel
theorem dL_answers_7 : decode cL_answers 7 = .ok (.if_icmp .ge 34, 3) := by decide +kernel
theorem dL_answers_10 : decode cL_answers 10 = .ok (.aload_n 0, 1) := by decide +kernel
theorem dL_answers_11 : decode cL_answers 11 = .ok (.iload_n 3, 1) := by decide +kernel
theorem dL_answers_12 : decode cL_answers 12 = .ok (.iconst 3, 1) := by decide +kernel
theorem dL_answers_13 : decode cL_answers 13 = .ok (.invokevirtual 35, 3) := by decide +kernel
theorem dL_answers_16 : decode cL_answers 16 = .ok (.iconst 1, 1) := by decide +kernel
theorem dL_answers_17 : decode cL_answers 17 = .ok (.if_icmp .ne 18, 3) := by decide +kernel
theorem dL_answers_20 : decode cL_answers 20 = .ok (.aload_n 1, 1) := by decide +kernel
theorem dL_answers_21 : decode cL_answers 21 = .ok (.aload_n 0, 1) := by decide +kernel
theorem dL_answers_22 : decode cL_answers 22 = .ok (.iload_n 3, 1) := by decide +kernel
theorem dL_answers_23 : decode cL_answers 23 = .ok (.invokevirtual 65, 3) := by decide +kernel
theorem dL_answers_26 : decode cL_answers 26 = .ok (.invokestatic 101, 3) := by decide +kernel
theorem dL_answers_29 : decode cL_answers 29 = .ok (.ifCond .eq 6, 3) := by decide +kernel
theorem dL_answers_32 : decode cL_answers 32 = .ok (.iinc 2 1, 3) := by decide +kernel
theorem dL_answers_35 : decode cL_answers 35 = .ok (.iinc 3 1, 3) := by decide +kernel
theorem dL_answers_38 : decode cL_answers 38 = .ok (.goto (-34), 3) := by decide +kernel
theorem dL_answers_41 : decode cL_answers 41 = .ok (.iconst 0, 1) := by decide +kernel
theorem dL_answers_42 : decode cL_answers 42 = .ok (.istore_n 3, 1) := by decide +kernel
theorem dL_answers_43 : decode cL_answers 43 = .ok (.iload_n 3, 1) := by decide +kernel
theorem dL_answers_44 : decode cL_answers 44 = .ok (.iconst 3, 1) := by decide +kernel
theorem dL_answers_45 : decode cL_answers 45 = .ok (.if_icmp .ge 246, 3) := by decide +kernel
theorem dL_answers_48 : decode cL_answers 48 = .ok (.aload_n 0, 1) := by decide +kernel
theorem dL_answers_49 : decode cL_answers 49 = .ok (.iload_n 3, 1) := by decide +kernel
theorem dL_answers_50 : decode cL_answers 50 = .ok (.iconst (-1), 1) := by decide +kernel
theorem dL_answers_51 : decode cL_answers 51 = .ok (.invokevirtual 105, 3) := by decide +kernel
theorem dL_answers_54 : decode cL_answers 54 = .ok (.iload_n 2, 1) := by decide +kernel
theorem dL_answers_55 : decode cL_answers 55 = .ok (.if_icmp .ne 13, 3) := by decide +kernel
theorem dL_answers_58 : decode cL_answers 58 = .ok (.aload_n 0, 1) := by decide +kernel
theorem dL_answers_59 : decode cL_answers 59 = .ok (.iload_n 3, 1) := by decide +kernel
theorem dL_answers_60 : decode cL_answers 60 = .ok (.iload_n 2, 1) := by decide +kernel
theorem dL_answers_61 : decode cL_answers 61 = .ok (.invokevirtual 105, 3) := by decide +kernel
theorem dL_answers_64 : decode cL_answers 64 = .ok (.iconst (-1), 1) := by decide +kernel
theorem dL_answers_65 : decode cL_answers 65 = .ok (.if_icmp .eq 5, 3) := by decide +kernel
theorem dL_answers_68 : decode cL_answers 68 = .ok (.iconst 0, 1) := by decide +kernel
theorem dL_answers_69 : decode cL_answers 69 = .ok (.ireturn, 1) := by decide +kernel
theorem dL_answers_70 : decode cL_answers 70 = .ok (.iconst 0, 1) := by decide +kernel
theorem dL_answers_71 : decode cL_answers 71 = .ok (.istore 4, 2) := by decide +kernel
theorem dL_answers_73 : decode cL_answers 73 = .ok (.iload 4, 2) := by decide +kernel
theorem dL_answers_75 : decode cL_answers 75 = .ok (.bipush 8, 2) := by decide +kernel
theorem dL_answers_77 : decode cL_answers 77 = .ok (.if_icmp .ge 208, 3) := by decide +kernel
theorem dL_answers_80 : decode cL_answers 80 = .ok (.aload_n 0, 1) := by decide +kernel
theorem dL_answers_81 : decode cL_answers 81 = .ok (.iload 4, 2) := by decide +kernel
theorem dL_answers_83 : decode cL_answers 83 = .ok (.invokevirtual 65, 3) := by decide +kernel
theorem dL_answers_86 : decode cL_answers 86 = .ok (.lstore 5, 2) := by decide +kernel
theorem dL_answers_88 : decode cL_answers 88 = .ok (.aload_n 0, 1) := by decide +kernel
theorem dL_answers_89 : decode cL_answers 89 = .ok (.iload 4, 2) := by decide +kernel
theorem dL_answers_91 : decode cL_answers 91 = .ok (.iconst 3, 1) := by decide +kernel
theorem dL_answers_92 : decode cL_answers 92 = .ok (.invokevirtual 35, 3) := by decide +kernel
theorem dL_answers_95 : decode cL_answers 95 = .ok (.iconst 1, 1) := by decide +kernel
theorem dL_answers_96 : decode cL_answers 96 = .ok (.if_icmp .ne 16, 3) := by decide +kernel
theorem dL_answers_99 : decode cL_answers 99 = .ok (.aload_n 1, 1) := by decide +kernel
theorem dL_answers_100 : decode cL_answers 100 = .ok (.lload 5, 2) := by decide +kernel
theorem dL_answers_102 : decode cL_answers 102 = .ok (.invokestatic 101, 3) := by decide +kernel
theorem dL_answers_105 : decode cL_answers 105 = .ok (.ifCond .eq 7, 3) := by decide +kernel
theorem dL_answers_108 : decode cL_answers 108 = .ok (.iconst 1, 1) := by decide +kernel
theorem dL_answers_109 : decode cL_answers 109 = .ok (.goto 4, 3) := by decide +kernel
theorem dL_answers_112 : decode cL_answers 112 = .ok (.iconst 0, 1) := by decide +kernel
theorem dL_answers_113 : decode cL_answers 113 = .ok (.istore 7, 2) := by decide +kernel
theorem dL_answers_115 : decode cL_answers 115 = .ok (.aload_n 0, 1) := by decide +kernel
theorem dL_answers_116 : decode cL_answers 116 = .ok (.iload 4, 2) := by decide +kernel
