theorem goodIn_c1 {big a : List Cond} {c : Cond} (hc : GoodIn big [c]) (ha : GoodIn big a) : GoodIn big (c :: a) := fun w h => (List.mem_cons.mp h).elim (fun e => hc w (by rw [e]; exact List.mem_singleton.mpr rfl)) (ha w)
theorem goodIn_nil {big : List Cond} : GoodIn big [] := fun w h => absurd h List.not_mem_nil
theorem dL_often_24 : decode cL_often 24 = .ok (.bipush 15, 2) := by decide +kernel
theorem dL_often_26 : decode cL_often 26 = .ok (.iand, 1) := by decide +kernel
theorem dL_often_27 : decode cL_often 27 = .ok (.iload_n 2, 1) := by decide +kernel
theorem dL_often_28 : decode cL_often 28 = .ok (.if_icmp .ne 21, 3) := by decide +kernel
theorem dL_often_31 : decode cL_often 31 = .ok (.iload_n 3, 1) := by decide +kernel
theorem dL_often_32 : decode cL_often 32 = .ok (.ifCond .eq 14, 3) := by decide +kernel
theorem dL_often_35 : decode cL_often 35 = .ok (.iload 6, 2) := by decide +kernel
theorem dL_often_37 : decode cL_often 37 = .ok (.iconst 4, 1) := by decide +kernel
theorem dL_often_38 : decode cL_often 38 = .ok (.iushr, 1) := by decide +kernel
theorem dL_often_39 : decode cL_often 39 = .ok (.bipush 15, 2) := by decide +kernel
theorem dL_often_41 : decode cL_often 41 = .ok (.iand, 1) := by decide +kernel
theorem dL_often_42 : decode cL_often 42 = .ok (.iload_n 3, 1) := by decide +kernel
theorem dL_often_43 : decode cL_often 43 = .ok (.if_icmp .ne 6, 3) := by decide +kernel
theorem dL_often_46 : decode cL_often 46 = .ok (.iinc 5 1, 3) := by decide +kernel
theorem dL_often_49 : decode cL_often 49 = .ok (.iload 6, 2) := by decide +kernel
theorem dL_often_51 : decode cL_often 51 = .ok (.iconst 4, 1) := by decide +kernel
theorem dL_often_52 : decode cL_often 52 = .ok (.iushr, 1) := by decide +kernel
theorem dL_often_53 : decode cL_often 53 = .ok (.istore 6, 2) := by decide +kernel
theorem dL_often_55 : decode cL_often 55 = .ok (.goto (-41), 3) := by decide +kernel
theorem dL_often_58 : decode cL_often 58 = .ok (.iload 5, 2) := by decide +kernel
theorem dL_often_60 : decode cL_often 60 = .ok (.ireturn, 1) := by decide +kernel
set_option maxRecDepth 20000 in
theorem ggL_value_L_kind : GoodIn wsL_value wsL_kind := goodIn_r _ [4, 5, 6, 3, 7, 8, 9, 10] (by decide +kernel) (by decide +kernel)
set_option maxRecDepth 20000 in
theorem gL_value_L_kind : GoodIn wsL_value (va_wsS RL 76 yL_kind wsL_kind) := goodIn_app (goodIn_of _ (by decide +kernel)) ggL_value_L_kind
set_option maxRecDepth 20000 in
theorem ggL_value_L_a : GoodIn wsL_value wsL_a := goodIn_r _ [13, 1, 2, 3, 4, 5, 6, 7, 8, 9, 10] (by decide +kernel) (by decide +kernel)
set_option maxRecDepth 20000 in
theorem gL_value_L_a : GoodIn wsL_value (va_wsS RL 79 yL_a wsL_a) := goodIn_app (goodIn_of _ (by decide +kernel)) ggL_value_L_a
set_option maxRecDepth 20000 in
theorem ggL_value_L_often : GoodIn wsL_value wsL_often := goodIn_r _ [16] (by decide +kernel) (by decide +kernel)
set_option maxRecDepth 20000 in
theorem gL_value_L_often : GoodIn wsL_value (va_wsS RL 82 yL_often wsL_often) := goodIn_app (goodIn_of _ (by decide +kernel)) ggL_value_L_often
set_option maxRecDepth 20000 in
theorem ggL_value_L_b : GoodIn wsL_value wsL_b := goodIn_r _ [19, 1, 2, 3, 4, 5, 6, 7, 8, 9, 10] (by decide +kernel) (by decide +kernel)
set_option maxRecDepth 20000 in
theorem gL_value_L_b : GoodIn wsL_value (va_wsS RL 86 yL_b wsL_b) := goodIn_app (goodIn_of _ (by decide +kernel)) ggL_value_L_b
theorem dL_value_0 : decode cL_value 0 = .ok (.aload_n 0, 1) := by decide +kernel
theorem dL_value_1 : decode cL_value 1 = .ok (.iload_n 1, 1) := by decide +kernel
theorem dL_value_2 : decode cL_value 2 = .ok (.invokestatic 76, 3) := by decide +kernel
theorem dL_value_5 : decode cL_value 5 = .ok (.istore 4, 2) := by decide +kernel
theorem dL_value_7 : decode cL_value 7 = .ok (.iload 4, 2) := by decide +kernel
theorem dL_value_9 : decode cL_value 9 = .ok (.iconst 1, 1) := by decide +kernel
theorem dL_value_10 : decode cL_value 10 = .ok (.if_icmp .ne 14, 3) := by decide +kernel
theorem dL_value_13 : decode cL_value 13 = .ok (.lload_n 2, 1) := by decide +kernel
theorem dL_value_14 : decode cL_value 14 = .ok (.aload_n 0, 1) := by decide +kernel
theorem dL_value_15 : decode cL_value 15 = .ok (.iload_n 1, 1) := by decide +kernel
theorem dL_value_16 : decode cL_value 16 = .ok (.invokestatic 79, 3) := by decide +kernel
theorem dL_value_19 : decode cL_value 19 = .ok (.iconst 0, 1) := by decide +kernel
theorem dL_value_20 : decode cL_value 20 = .ok (.invokestatic 82, 3) := by decide +kernel
theorem dL_value_23 : decode cL_value 23 = .ok (.ireturn, 1) := by decide +kernel
theorem dL_value_24 : decode cL_value 24 = .ok (.iload 4, 2) := by decide +kernel
theorem dL_value_26 : decode cL_value 26 = .ok (.iconst 2, 1) := by decide +kernel
theorem dL_value_27 : decode cL_value 27 = .ok (.if_icmp .ne 20, 3) := by decide +kernel
theorem dL_value_30 : decode cL_value 30 = .ok (.iconst 2, 1) := by decide +kernel
theorem dL_value_31 : decode cL_value 31 = .ok (.lload_n 2, 1) := by decide +kernel
theorem dL_value_32 : decode cL_value 32 = .ok (.aload_n 0, 1) := by decide +kernel
theorem dL_value_33 : decode cL_value 33 = .ok (.iload_n 1, 1) := by decide +kernel
theorem dL_value_34 : decode cL_value 34 = .ok (.invokestatic 79, 3) := by decide +kernel
theorem dL_value_37 : decode cL_value 37 = .ok (.aload_n 0, 1) := by decide +kernel
theorem dL_value_38 : decode cL_value 38 = .ok (.iload_n 1, 1) := by decide +kernel
theorem dL_value_39 : decode cL_value 39 = .ok (.invokestatic 86, 3) := by decide +kernel
theorem dL_value_42 : decode cL_value 42 = .ok (.invokestatic 82, 3) := by decide +kernel
theorem dL_value_45 : decode cL_value 45 = .ok (.imul, 1) := by decide +kernel
theorem dL_value_46 : decode cL_value 46 = .ok (.ireturn, 1) := by decide +kernel
theorem dL_value_47 : decode cL_value 47 = .ok (.iload 4, 2) := by decide +kernel
theorem dL_value_49 : decode cL_value 49 = .ok (.ifCond .eq 23, 3) := by decide +kernel
theorem dL_value_52 : decode cL_value 52 = .ok (.lload_n 2, 1) := by decide +kernel
theorem dL_value_53 : decode cL_value 53 = .ok (.l2i, 1) := by decide +kernel
theorem dL_value_54 : decode cL_value 54 = .ok (.aload_n 0, 1) := by decide +kernel
theorem dL_value_55 : decode cL_value 55 = .ok (.iload_n 1, 1) := by decide +kernel
theorem dL_value_56 : decode cL_value 56 = .ok (.invokestatic 79, 3) := by decide +kernel
theorem dL_value_59 : decode cL_value 59 = .ok (.if_icmp .lt 17, 3) := by decide +kernel
theorem dL_value_62 : decode cL_value 62 = .ok (.lload_n 2, 1) := by decide +kernel
theorem dL_value_63 : decode cL_value 63 = .ok (.l2i, 1) := by decide +kernel
theorem dL_value_64 : decode cL_value 64 = .ok (.aload_n 0, 1) := by decide +kernel
theorem dL_value_65 : decode cL_value 65 = .ok (.iload_n 1, 1) := by decide +kernel
theorem dL_value_66 : decode cL_value 66 = .ok (.invokestatic 86, 3) := by decide +kernel
theorem dL_value_69 : decode cL_value 69 = .ok (.if_icmp .gt 7, 3) := by decide +kernel
theorem dL_value_72 : decode cL_value 72 = .ok (.iconst 1, 1) := by decide +kernel
theorem dL_value_73 : decode cL_value 73 = .ok (.goto 4, 3) := by decide +kernel
theorem dL_value_76 : decode cL_value 76 = .ok (.iconst 0, 1) := by decide +kernel
theorem dL_value_77 : decode cL_value 77 = .ok (.ireturn, 1) := by decide +kernel
set_option maxRecDepth 20000 in
theorem ggL_tokens_L_kind : GoodIn wsL_tokens wsL_kind := goodIn_r _ [4, 5, 6, 3, 7, 8, 9, 10] (by decide +kernel) (by decide +kernel)
set_option maxRecDepth 20000 in
theorem gL_tokens_L_kind : GoodIn wsL_tokens (va_wsS RL 76 yL_kind wsL_kind) := goodIn_app (goodIn_of _ (by decide +kernel)) ggL_tokens_L_kind
theorem dL_tokens_0 : decode cL_tokens 0 = .ok (.iconst 0, 1) := by decide +kernel
theorem dL_tokens_1 : decode cL_tokens 1 = .ok (.istore_n 1, 1) := by decide +kernel
theorem dL_tokens_2 : decode cL_tokens 2 = .ok (.aload_n 0, 1) := by decide +kernel
theorem dL_tokens_3 : decode cL_tokens 3 = .ok (.iload_n 1, 1) := by decide +kernel
theorem dL_tokens_4 : decode cL_tokens 4 = .ok (.invokestatic 76, 3) := by decide +kernel
theorem dL_tokens_7 : decode cL_tokens 7 = .ok (.bipush 9, 2) := by decide +kernel
theorem dL_tokens_9 : decode cL_tokens 9 = .ok (.if_icmp .ge 9, 3) := by decide +kernel
theorem dL_tokens_12 : decode cL_tokens 12 = .ok (.iinc 1 1, 3) := by decide +kernel
theorem dL_tokens_15 : decode cL_tokens 15 = .ok (.goto (-13), 3) := by decide +kernel
theorem dL_tokens_18 : decode cL_tokens 18 = .ok (.iload_n 1, 1) := by decide +kernel
theorem dL_tokens_19 : decode cL_tokens 19 = .ok (.ireturn, 1) := by decide +kernel
set_option maxRecDepth 20000 in
theorem ggL_matches_L_tokens : GoodIn wsL_matches wsL_tokens := goodIn_r _ [4, 5, 6, 3, 7, 8, 9, 10, 11, 12, 13] (by decide +kernel) (by decide +kernel)
set_option maxRecDepth 20000 in
theorem gL_matches_L_tokens : GoodIn wsL_matches (va_wsS RL 89 yL_tokens wsL_tokens) := goodIn_app (goodIn_of _ (by decide +kernel)) ggL_matches_L_tokens
set_option maxRecDepth 20000 in
theorem ggL_matches_L_kind : GoodIn wsL_matches wsL_kind := goodIn_r _ [7, 8, 9, 3, 10, 11, 12, 13] (by decide +kernel) (by decide +kernel)
set_option maxRecDepth 20000 in
theorem gL_matches_L_kind : GoodIn wsL_matches (va_wsS RL 76 yL_kind wsL_kind) := goodIn_app (goodIn_of _ (by decide +kernel)) ggL_matches_L_kind
set_option maxRecDepth 20000 in
theorem ggL_matches_L_value : GoodIn wsL_matches wsL_value := goodIn_r _ [16, 5, 6, 3, 7, 8, 9, 10, 11, 12, 13, 17, 18, 19, 20, 21, 22, 23, 24, 25] (by decide +kernel) (by decide +kernel)
set_option maxRecDepth 20000 in
theorem gL_matches_L_value : GoodIn wsL_matches (va_wsS RL 93 yL_value wsL_value) := goodIn_app (goodIn_of _ (by decide +kernel)) ggL_matches_L_value
theorem dL_matches_0 : decode cL_matches 0 = .ok (.iconst 0, 1) := by decide +kernel
theorem dL_matches_1 : decode cL_matches 1 = .ok (.istore_n 3, 1) := by decide +kernel
theorem dL_matches_2 : decode cL_matches 2 = .ok (.aload_n 0, 1) := by decide +kernel
theorem dL_matches_3 : decode cL_matches 3 = .ok (.invokestatic 89, 3) := by decide +kernel
theorem dL_matches_6 : decode cL_matches 6 = .ok (.iconst 1, 1) := by decide +kernel
theorem dL_matches_7 : decode cL_matches 7 = .ok (.isub, 1) := by decide +kernel
theorem dL_matches_8 : decode cL_matches 8 = .ok (.istore 4, 2) := by decide +kernel
theorem dL_matches_10 : decode cL_matches 10 = .ok (.iload 4, 2) := by decide +kernel
theorem dL_matches_12 : decode cL_matches 12 = .ok (.ifCond .lt 90, 3) := by decide +kernel
theorem dL_matches_15 : decode cL_matches 15 = .ok (.aload_n 0, 1) := by decide +kernel
theorem dL_matches_16 : decode cL_matches 16 = .ok (.iload 4, 2) := by decide +kernel
theorem dL_matches_18 : decode cL_matches 18 = .ok (.invokestatic 76, 3) := by decide +kernel
theorem dL_matches_21 : decode cL_matches 21 = .ok (.istore 5, 2) := by decide +kernel
theorem dL_matches_23 : decode cL_matches 23 = .ok (.iload 5, 2) := by decide +kernel
theorem dL_matches_25 : decode cL_matches 25 = .ok (.iconst 4, 1) := by decide +kernel
theorem dL_matches_26 : decode cL_matches 26 = .ok (.if_icmp .ge 26, 3) := by decide +kernel
theorem dL_matches_29 : decode cL_matches 29 = .ok (.iload_n 3, 1) := by decide +kernel
theorem dL_matches_30 : decode cL_matches 30 = .ok (.iconst 1, 1) := by decide +kernel
theorem dL_matches_31 : decode cL_matches 31 = .ok (.ishl, 1) := by decide +kernel
theorem dL_matches_32 : decode cL_matches 32 = .ok (.aload_n 0, 1) := by decide +kernel
theorem dL_matches_33 : decode cL_matches 33 = .ok (.iload 4, 2) := by decide +kernel
theorem dL_matches_35 : decode cL_matches 35 = .ok (.lload_n 1, 1) := by decide +kernel
theorem dL_matches_36 : decode cL_matches 36 = .ok (.invokestatic 93, 3) := by decide +kernel
theorem dL_matches_39 : decode cL_matches 39 = .ok (.ifCond .le 7, 3) := by decide +kernel
theorem dL_matches_42 : decode cL_matches 42 = .ok (.iconst 1, 1) := by decide +kernel
theorem dL_matches_43 : decode cL_matches 43 = .ok (.goto 4, 3) := by decide +kernel
theorem dL_matches_46 : decode cL_matches 46 = .ok (.iconst 0, 1) := by decide +kernel
theorem dL_matches_47 : decode cL_matches 47 = .ok (.ior, 1) := by decide +kernel
theorem dL_matches_48 : decode cL_matches 48 = .ok (.istore_n 3, 1) := by decide +kernel
theorem dL_matches_49 : decode cL_matches 49 = .ok (.goto 47, 3) := by decide +kernel
theorem dL_matches_52 : decode cL_matches 52 = .ok (.iload 5, 2) := by decide +kernel
theorem dL_matches_54 : decode cL_matches 54 = .ok (.bipush 6, 2) := by decide +kernel
theorem dL_matches_56 : decode cL_matches 56 = .ok (.if_icmp .ne 10, 3) := by decide +kernel
theorem dL_matches_59 : decode cL_matches 59 = .ok (.iload_n 3, 1) := by decide +kernel
theorem dL_matches_60 : decode cL_matches 60 = .ok (.iconst 1, 1) := by decide +kernel
theorem dL_matches_61 : decode cL_matches 61 = .ok (.ixor, 1) := by decide +kernel
theorem dL_matches_62 : decode cL_matches 62 = .ok (.istore_n 3, 1) := by decide +kernel
theorem dL_matches_63 : decode cL_matches 63 = .ok (.goto 33, 3) := by decide +kernel
theorem dL_matches_66 : decode cL_matches 66 = .ok (.iload_n 3, 1) := by decide +kernel
theorem dL_matches_67 : decode cL_matches 67 = .ok (.iconst 1, 1) := by decide +kernel
theorem dL_matches_68 : decode cL_matches 68 = .ok (.iand, 1) := by decide +kernel
theorem dL_matches_69 : decode cL_matches 69 = .ok (.istore 6, 2) := by decide +kernel
theorem dL_matches_71 : decode cL_matches 71 = .ok (.iload_n 3, 1) := by decide +kernel
theorem dL_matches_72 : decode cL_matches 72 = .ok (.iconst 1, 1) := by decide +kernel
theorem dL_matches_73 : decode cL_matches 73 = .ok (.ishr, 1) := by decide +kernel
theorem dL_matches_74 : decode cL_matches 74 = .ok (.istore_n 3, 1) := by decide +kernel
theorem dL_matches_75 : decode cL_matches 75 = .ok (.iload 5, 2) := by decide +kernel
theorem dL_matches_77 : decode cL_matches 77 = .ok (.iconst 4, 1) := by decide +kernel
theorem dL_matches_78 : decode cL_matches 78 = .ok (.if_icmp .ne 13, 3) := by decide +kernel
theorem dL_matches_81 : decode cL_matches 81 = .ok (.iload_n 3, 1) := by decide +kernel
theorem dL_matches_82 : decode cL_matches 82 = .ok (.iload 6, 2) := by decide +kernel
theorem dL_matches_84 : decode cL_matches 84 = .ok (.bipush (-2), 2) := by decide +kernel
theorem dL_matches_86 : decode cL_matches 86 = .ok (.ior, 1) := by decide +kernel
theorem dL_matches_87 : decode cL_matches 87 = .ok (.iand, 1) := by decide +kernel
theorem dL_matches_88 : decode cL_matches 88 = .ok (.goto 7, 3) := by decide +kernel
theorem dL_matches_91 : decode cL_matches 91 = .ok (.iload_n 3, 1) := by decide +kernel
theorem dL_matches_92 : decode cL_matches 92 = .ok (.iload 6, 2) := by decide +kernel
theorem dL_matches_94 : decode cL_matches 94 = .ok (.ior, 1) := by decide +kernel
theorem dL_matches_95 : decode cL_matches 95 = .ok (.istore_n 3, 1) := by decide +kernel
theorem dL_matches_96 : decode cL_matches 96 = .ok (.iinc 4 (-1), 3) := by decide +kernel
theorem dL_matches_99 : decode cL_matches 99 = .ok (.goto (-89), 3) := by decide +kernel
theorem dL_matches_102 : decode cL_matches 102 = .ok (.iload_n 3, 1) := by decide +kernel
theorem dL_matches_103 : decode cL_matches 103 = .ok (.iconst 1, 1) := by decide +kernel
theorem dL_matches_104 : decode cL_matches 104 = .ok (.iand, 1) := by decide +kernel
theorem dL_matches_105 : decode cL_matches 105 = .ok (.iconst 1, 1) := by decide +kernel
theorem dL_matches_106 : decode cL_matches 106 = .ok (.if_icmp .ne 7, 3) := by decide +kernel
theorem dL_matches_109 : decode cL_matches 109 = .ok (.iconst 1, 1) := by decide +kernel
theorem dL_matches_110 : decode cL_matches 110 = .ok (.goto 4, 3) := by decide +kernel
theorem dL_matches_113 : decode cL_matches 113 = .ok (.iconst 0, 1) := by decide +kernel
theorem dL_matches_114 : decode cL_matches 114 = .ok (.ireturn, 1) := by decide +kernel
set_option maxRecDepth 20000 in
theorem ggL_score_L_tokens : GoodIn wsL_score wsL_tokens := goodIn_r _ [4, 5, 6, 3, 7, 8, 9, 10, 11, 12, 13] (by decide +kernel) (by decide +kernel)
set_option maxRecDepth 20000 in
theorem gL_score_L_tokens : GoodIn wsL_score (va_wsS RL 89 yL_tokens wsL_tokens) := goodIn_app (goodIn_of _ (by decide +kernel)) ggL_score_L_tokens
set_option maxRecDepth 20000 in
theorem ggL_score_L_kind : GoodIn wsL_score wsL_kind := goodIn_r _ [7, 8, 9, 3, 10, 11, 12, 13] (by decide +kernel) (by decide +kernel)
set_option maxRecDepth 20000 in
theorem gL_score_L_kind : GoodIn wsL_score (va_wsS RL 76 yL_kind wsL_kind) := goodIn_app (goodIn_of _ (by decide +kernel)) ggL_score_L_kind
set_option maxRecDepth 20000 in
theorem ggL_score_L_value : GoodIn wsL_score wsL_value := goodIn_r _ [16, 5, 6, 3, 7, 8, 9, 10, 11, 12, 13, 17, 18, 19, 20, 21, 22, 23, 24, 25] (by decide +kernel) (by decide +kernel)
set_option maxRecDepth 20000 in
theorem gL_score_L_value : GoodIn wsL_score (va_wsS RL 93 yL_value wsL_value) := goodIn_app (goodIn_of _ (by decide +kernel)) ggL_score_L_value
theorem dL_score_0 : decode cL_score 0 = .ok (.iconst 0, 1) := by decide +kernel
theorem dL_score_1 : decode cL_score 1 = .ok (.istore_n 3, 1) := by decide +kernel
theorem dL_score_2 : decode cL_score 2 = .ok (.iconst 0, 1) := by decide +kernel
theorem dL_score_3 : decode cL_score 3 = .ok (.istore 4, 2) := by decide +kernel
theorem dL_score_5 : decode cL_score 5 = .ok (.aload_n 0, 1) := by decide +kernel
theorem dL_score_6 : decode cL_score 6 = .ok (.invokestatic 89, 3) := by decide +kernel
theorem dL_score_9 : decode cL_score 9 = .ok (.istore 5, 2) := by decide +kernel
theorem dL_score_11 : decode cL_score 11 = .ok (.iconst 0, 1) := by decide +kernel
theorem dL_score_12 : decode cL_score 12 = .ok (.istore 6, 2) := by decide +kernel
theorem dL_score_14 : decode cL_score 14 = .ok (.iload 6, 2) := by decide +kernel
