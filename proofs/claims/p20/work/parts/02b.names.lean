theorem dX0_init_0 : decode cX0_init 0 = .ok (.aload_n 0, 1) := by decide +kernel
theorem dX0_init_1 : decode cX0_init 1 = .ok (.invokespecial 3, 3) := by decide +kernel
theorem dX0_init_4 : decode cX0_init 4 = .ok (.aload_n 0, 1) := by decide +kernel
theorem dX0_init_5 : decode cX0_init 5 = .ok (.bipush 16, 2) := by decide +kernel
theorem dX0_init_7 : decode cX0_init 7 = .ok (.newarray .int, 2) := by decide +kernel
theorem dX0_init_9 : decode cX0_init 9 = .ok (.putfield 9, 3) := by decide +kernel
theorem dX0_init_12 : decode cX0_init 12 = .ok (.aload_n 0, 1) := by decide +kernel
theorem dX0_init_13 : decode cX0_init 13 = .ok (.bipush 16, 2) := by decide +kernel
theorem dX0_init_15 : decode cX0_init 15 = .ok (.newarray .int, 2) := by decide +kernel
theorem dX0_init_17 : decode cX0_init 17 = .ok (.putfield 15, 3) := by decide +kernel
theorem dX0_init_20 : decode cX0_init 20 = .ok (.aload_n 0, 1) := by decide +kernel
theorem dX0_init_21 : decode cX0_init 21 = .ok (.bipush 16, 2) := by decide +kernel
theorem dX0_init_23 : decode cX0_init 23 = .ok (.newarray .int, 2) := by decide +kernel
theorem dX0_init_25 : decode cX0_init 25 = .ok (.putfield 18, 3) := by decide +kernel
theorem dX0_init_28 : decode cX0_init 28 = .ok (.aload_n 0, 1) := by decide +kernel
theorem dX0_init_29 : decode cX0_init 29 = .ok (.bipush 16, 2) := by decide +kernel
theorem dX0_init_31 : decode cX0_init 31 = .ok (.newarray .long, 2) := by decide +kernel
theorem dX0_init_33 : decode cX0_init 33 = .ok (.putfield 21, 3) := by decide +kernel
theorem dX0_init_36 : decode cX0_init 36 = .ok (.iconst 0, 1) := by decide +kernel
theorem dX0_init_37 : decode cX0_init 37 = .ok (.istore_n 1, 1) := by decide +kernel
theorem dX0_init_38 : decode cX0_init 38 = .ok (.iload_n 1, 1) := by decide +kernel
theorem dX0_init_39 : decode cX0_init 39 = .ok (.bipush 16, 2) := by decide +kernel
theorem dX0_init_41 : decode cX0_init 41 = .ok (.if_icmp .ge 16, 3) := by decide +kernel
theorem dX0_init_44 : decode cX0_init 44 = .ok (.aload_n 0, 1) := by decide +kernel
theorem dX0_init_45 : decode cX0_init 45 = .ok (.getfield 15, 3) := by decide +kernel
theorem dX0_init_48 : decode cX0_init 48 = .ok (.iload_n 1, 1) := by decide +kernel
theorem dX0_init_49 : decode cX0_init 49 = .ok (.iconst (-1), 1) := by decide +kernel
theorem dX0_init_50 : decode cX0_init 50 = .ok (.iastore, 1) := by decide +kernel
theorem dX0_init_51 : decode cX0_init 51 = .ok (.iinc 1 1, 3) := by decide +kernel
theorem dX0_init_54 : decode cX0_init 54 = .ok (.goto (-16), 3) := by decide +kernel
theorem dX0_init_57 : decode cX0_init 57 = .ok (.return_, 1) := by decide +kernel
set_option maxRecDepth 20000 in
theorem ggX0_kindOf_X5_isId : GoodIn wsX0_kindOf wsX5_isId := goodIn_r _ [4] (by decide +kernel) (by decide +kernel)
set_option maxRecDepth 20000 in
theorem gX0_kindOf_X5_isId_n25 : GoodIn wsX0_kindOf (wsX5_isId) := ggX0_kindOf_X5_isId
theorem dX0_kindOf_0 : decode cX0_kindOf 0 = .ok (.iload_n 1, 1) := by decide +kernel
theorem dX0_kindOf_1 : decode cX0_kindOf 1 = .ok (.invokestatic 25, 3) := by decide +kernel
theorem dX0_kindOf_4 : decode cX0_kindOf 4 = .ok (.ifCond .eq 12, 3) := by decide +kernel
theorem dX0_kindOf_7 : decode cX0_kindOf 7 = .ok (.aload_n 0, 1) := by decide +kernel
theorem dX0_kindOf_8 : decode cX0_kindOf 8 = .ok (.getfield 9, 3) := by decide +kernel
theorem dX0_kindOf_11 : decode cX0_kindOf 11 = .ok (.iload_n 1, 1) := by decide +kernel
theorem dX0_kindOf_12 : decode cX0_kindOf 12 = .ok (.iaload, 1) := by decide +kernel
theorem dX0_kindOf_13 : decode cX0_kindOf 13 = .ok (.goto 4, 3) := by decide +kernel
theorem dX0_kindOf_16 : decode cX0_kindOf 16 = .ok (.iconst 0, 1) := by decide +kernel
theorem dX0_kindOf_17 : decode cX0_kindOf 17 = .ok (.ireturn, 1) := by decide +kernel
set_option maxRecDepth 20000 in
theorem ggX0_seqOf_X5_isId : GoodIn wsX0_seqOf wsX5_isId := goodIn_r _ [4] (by decide +kernel) (by decide +kernel)
set_option maxRecDepth 20000 in
theorem gX0_seqOf_X5_isId_n25 : GoodIn wsX0_seqOf (wsX5_isId) := ggX0_seqOf_X5_isId
theorem dX0_seqOf_0 : decode cX0_seqOf 0 = .ok (.iload_n 1, 1) := by decide +kernel
theorem dX0_seqOf_1 : decode cX0_seqOf 1 = .ok (.invokestatic 25, 3) := by decide +kernel
theorem dX0_seqOf_4 : decode cX0_seqOf 4 = .ok (.ifCond .eq 12, 3) := by decide +kernel
theorem dX0_seqOf_7 : decode cX0_seqOf 7 = .ok (.aload_n 0, 1) := by decide +kernel
theorem dX0_seqOf_8 : decode cX0_seqOf 8 = .ok (.getfield 15, 3) := by decide +kernel
theorem dX0_seqOf_11 : decode cX0_seqOf 11 = .ok (.iload_n 1, 1) := by decide +kernel
theorem dX0_seqOf_12 : decode cX0_seqOf 12 = .ok (.iaload, 1) := by decide +kernel
theorem dX0_seqOf_13 : decode cX0_seqOf 13 = .ok (.goto 4, 3) := by decide +kernel
theorem dX0_seqOf_16 : decode cX0_seqOf 16 = .ok (.iconst (-1), 1) := by decide +kernel
theorem dX0_seqOf_17 : decode cX0_seqOf 17 = .ok (.ireturn, 1) := by decide +kernel
set_option maxRecDepth 20000 in
theorem ggX0_versionOf_X5_isId : GoodIn wsX0_versionOf wsX5_isId := goodIn_r _ [4] (by decide +kernel) (by decide +kernel)
set_option maxRecDepth 20000 in
theorem gX0_versionOf_X5_isId_n25 : GoodIn wsX0_versionOf (wsX5_isId) := ggX0_versionOf_X5_isId
theorem dX0_versionOf_0 : decode cX0_versionOf 0 = .ok (.iload_n 1, 1) := by decide +kernel
theorem dX0_versionOf_1 : decode cX0_versionOf 1 = .ok (.invokestatic 25, 3) := by decide +kernel
theorem dX0_versionOf_4 : decode cX0_versionOf 4 = .ok (.ifCond .eq 12, 3) := by decide +kernel
theorem dX0_versionOf_7 : decode cX0_versionOf 7 = .ok (.aload_n 0, 1) := by decide +kernel
theorem dX0_versionOf_8 : decode cX0_versionOf 8 = .ok (.getfield 18, 3) := by decide +kernel
theorem dX0_versionOf_11 : decode cX0_versionOf 11 = .ok (.iload_n 1, 1) := by decide +kernel
theorem dX0_versionOf_12 : decode cX0_versionOf 12 = .ok (.iaload, 1) := by decide +kernel
theorem dX0_versionOf_13 : decode cX0_versionOf 13 = .ok (.goto 4, 3) := by decide +kernel
theorem dX0_versionOf_16 : decode cX0_versionOf 16 = .ok (.iconst 0, 1) := by decide +kernel
theorem dX0_versionOf_17 : decode cX0_versionOf 17 = .ok (.ireturn, 1) := by decide +kernel
set_option maxRecDepth 20000 in
theorem ggX0_sourceOf_X5_isId : GoodIn wsX0_sourceOf wsX5_isId := goodIn_r _ [4] (by decide +kernel) (by decide +kernel)
set_option maxRecDepth 20000 in
theorem gX0_sourceOf_X5_isId_n25 : GoodIn wsX0_sourceOf (wsX5_isId) := ggX0_sourceOf_X5_isId
theorem dX0_sourceOf_0 : decode cX0_sourceOf 0 = .ok (.iload_n 1, 1) := by decide +kernel
theorem dX0_sourceOf_1 : decode cX0_sourceOf 1 = .ok (.invokestatic 25, 3) := by decide +kernel
theorem dX0_sourceOf_4 : decode cX0_sourceOf 4 = .ok (.ifCond .eq 12, 3) := by decide +kernel
theorem dX0_sourceOf_7 : decode cX0_sourceOf 7 = .ok (.aload_n 0, 1) := by decide +kernel
theorem dX0_sourceOf_8 : decode cX0_sourceOf 8 = .ok (.getfield 21, 3) := by decide +kernel
theorem dX0_sourceOf_11 : decode cX0_sourceOf 11 = .ok (.iload_n 1, 1) := by decide +kernel
theorem dX0_sourceOf_12 : decode cX0_sourceOf 12 = .ok (.laload, 1) := by decide +kernel
theorem dX0_sourceOf_13 : decode cX0_sourceOf 13 = .ok (.goto 4, 3) := by decide +kernel
theorem dX0_sourceOf_16 : decode cX0_sourceOf 16 = .ok (.lconst 0, 1) := by decide +kernel
theorem dX0_sourceOf_17 : decode cX0_sourceOf 17 = .ok (.lreturn, 1) := by decide +kernel
set_option maxRecDepth 20000 in
theorem ggX0_isDocument_X0_kindOf : GoodIn wsX0_isDocument wsX0_kindOf := goodIn_r _ [5, 6, 7, 8, 9, 10, 11, 12, 13] (by decide +kernel) (by decide +kernel)
set_option maxRecDepth 20000 in
theorem gX0_isDocument_X0_kindOf : GoodIn wsX0_isDocument (wsV RX0 29 RX0 yX0_kindOf wsX0_kindOf) := goodIn_app (goodIn_of _ (by decide +kernel)) ggX0_isDocument_X0_kindOf
theorem dX0_isDocument_0 : decode cX0_isDocument 0 = .ok (.aload_n 0, 1) := by decide +kernel
theorem dX0_isDocument_1 : decode cX0_isDocument 1 = .ok (.iload_n 1, 1) := by decide +kernel
theorem dX0_isDocument_2 : decode cX0_isDocument 2 = .ok (.invokevirtual 29, 3) := by decide +kernel
theorem dX0_isDocument_5 : decode cX0_isDocument 5 = .ok (.iconst 1, 1) := by decide +kernel
theorem dX0_isDocument_6 : decode cX0_isDocument 6 = .ok (.if_icmp .ne 7, 3) := by decide +kernel
theorem dX0_isDocument_9 : decode cX0_isDocument 9 = .ok (.iconst 1, 1) := by decide +kernel
theorem dX0_isDocument_10 : decode cX0_isDocument 10 = .ok (.goto 4, 3) := by decide +kernel
theorem dX0_isDocument_13 : decode cX0_isDocument 13 = .ok (.iconst 0, 1) := by decide +kernel
theorem dX0_isDocument_14 : decode cX0_isDocument 14 = .ok (.ireturn, 1) := by decide +kernel
set_option maxRecDepth 20000 in
theorem ggX0_count_X0_isDocument : GoodIn wsX0_count wsX0_isDocument := goodIn_r _ [5, 6, 7, 8, 4, 9, 10, 11, 12, 13, 14, 15, 16, 17] (by decide +kernel) (by decide +kernel)
set_option maxRecDepth 20000 in
theorem gX0_count_X0_isDocument : GoodIn wsX0_count (wsV RX0 33 RX0 yX0_isDocument wsX0_isDocument) := goodIn_app (goodIn_of _ (by decide +kernel)) ggX0_count_X0_isDocument
theorem dX0_count_0 : decode cX0_count 0 = .ok (.iconst 0, 1) := by decide +kernel
theorem dX0_count_1 : decode cX0_count 1 = .ok (.istore_n 1, 1) := by decide +kernel
theorem dX0_count_2 : decode cX0_count 2 = .ok (.iconst 0, 1) := by decide +kernel
theorem dX0_count_3 : decode cX0_count 3 = .ok (.istore_n 2, 1) := by decide +kernel
theorem dX0_count_4 : decode cX0_count 4 = .ok (.iload_n 2, 1) := by decide +kernel
theorem dX0_count_5 : decode cX0_count 5 = .ok (.bipush 16, 2) := by decide +kernel
theorem dX0_count_7 : decode cX0_count 7 = .ok (.if_icmp .ge 20, 3) := by decide +kernel
theorem dX0_count_10 : decode cX0_count 10 = .ok (.aload_n 0, 1) := by decide +kernel
theorem dX0_count_11 : decode cX0_count 11 = .ok (.iload_n 2, 1) := by decide +kernel
theorem dX0_count_12 : decode cX0_count 12 = .ok (.invokevirtual 33, 3) := by decide +kernel
theorem dX0_count_15 : decode cX0_count 15 = .ok (.ifCond .eq 6, 3) := by decide +kernel
theorem dX0_count_18 : decode cX0_count 18 = .ok (.iinc 1 1, 3) := by decide +kernel
theorem dX0_count_21 : decode cX0_count 21 = .ok (.iinc 2 1, 3) := by decide +kernel
theorem dX0_count_24 : decode cX0_count 24 = .ok (.goto (-20), 3) := by decide +kernel
theorem dX0_count_27 : decode cX0_count 27 = .ok (.iload_n 1, 1) := by decide +kernel
theorem dX0_count_28 : decode cX0_count 28 = .ok (.ireturn, 1) := by decide +kernel
set_option maxRecDepth 20000 in
theorem ggX0_learn_X5_isId : GoodIn wsX0_learn wsX5_isId := goodIn_r _ [12] (by decide +kernel) (by decide +kernel)
set_option maxRecDepth 20000 in
theorem gX0_learn_X5_isId_n25 : GoodIn wsX0_learn (wsX5_isId) := ggX0_learn_X5_isId
theorem dX0_learn_0 : decode cX0_learn 0 = .ok (.aload_n 1, 1) := by decide +kernel
theorem dX0_learn_1 : decode cX0_learn 1 = .ok (.getfield 36, 3) := by decide +kernel
theorem dX0_learn_4 : decode cX0_learn 4 = .ok (.istore_n 2, 1) := by decide +kernel
theorem dX0_learn_5 : decode cX0_learn 5 = .ok (.aload_n 1, 1) := by decide +kernel
theorem dX0_learn_6 : decode cX0_learn 6 = .ok (.getfield 42, 3) := by decide +kernel
theorem dX0_learn_9 : decode cX0_learn 9 = .ok (.iconst 3, 1) := by decide +kernel
theorem dX0_learn_10 : decode cX0_learn 10 = .ok (.if_icmp .eq 23, 3) := by decide +kernel
theorem dX0_learn_13 : decode cX0_learn 13 = .ok (.iload_n 2, 1) := by decide +kernel
theorem dX0_learn_14 : decode cX0_learn 14 = .ok (.invokestatic 25, 3) := by decide +kernel
theorem dX0_learn_17 : decode cX0_learn 17 = .ok (.ifCond .eq 16, 3) := by decide +kernel
theorem dX0_learn_20 : decode cX0_learn 20 = .ok (.aload_n 1, 1) := by decide +kernel
theorem dX0_learn_21 : decode cX0_learn 21 = .ok (.getfield 45, 3) := by decide +kernel
theorem dX0_learn_24 : decode cX0_learn 24 = .ok (.aload_n 0, 1) := by decide +kernel
theorem dX0_learn_25 : decode cX0_learn 25 = .ok (.getfield 15, 3) := by decide +kernel
theorem dX0_learn_28 : decode cX0_learn 28 = .ok (.iload_n 2, 1) := by decide +kernel
theorem dX0_learn_29 : decode cX0_learn 29 = .ok (.iaload, 1) := by decide +kernel
theorem dX0_learn_30 : decode cX0_learn 30 = .ok (.if_icmp .gt 5, 3) := by decide +kernel
theorem dX0_learn_33 : decode cX0_learn 33 = .ok (.iconst 0, 1) := by decide +kernel
theorem dX0_learn_34 : decode cX0_learn 34 = .ok (.ireturn, 1) := by decide +kernel
theorem dX0_learn_35 : decode cX0_learn 35 = .ok (.aload_n 0, 1) := by decide +kernel
theorem dX0_learn_36 : decode cX0_learn 36 = .ok (.getfield 9, 3) := by decide +kernel
theorem dX0_learn_39 : decode cX0_learn 39 = .ok (.iload_n 2, 1) := by decide +kernel
theorem dX0_learn_40 : decode cX0_learn 40 = .ok (.aload_n 1, 1) := by decide +kernel
theorem dX0_learn_41 : decode cX0_learn 41 = .ok (.getfield 42, 3) := by decide +kernel
theorem dX0_learn_44 : decode cX0_learn 44 = .ok (.iastore, 1) := by decide +kernel
theorem dX0_learn_45 : decode cX0_learn 45 = .ok (.aload_n 0, 1) := by decide +kernel
theorem dX0_learn_46 : decode cX0_learn 46 = .ok (.getfield 15, 3) := by decide +kernel
theorem dX0_learn_49 : decode cX0_learn 49 = .ok (.iload_n 2, 1) := by decide +kernel
theorem dX0_learn_50 : decode cX0_learn 50 = .ok (.aload_n 1, 1) := by decide +kernel
theorem dX0_learn_51 : decode cX0_learn 51 = .ok (.getfield 45, 3) := by decide +kernel
theorem dX0_learn_54 : decode cX0_learn 54 = .ok (.iastore, 1) := by decide +kernel
theorem dX0_learn_55 : decode cX0_learn 55 = .ok (.aload_n 0, 1) := by decide +kernel
theorem dX0_learn_56 : decode cX0_learn 56 = .ok (.getfield 18, 3) := by decide +kernel
theorem dX0_learn_59 : decode cX0_learn 59 = .ok (.iload_n 2, 1) := by decide +kernel
theorem dX0_learn_60 : decode cX0_learn 60 = .ok (.aload_n 1, 1) := by decide +kernel
theorem dX0_learn_61 : decode cX0_learn 61 = .ok (.getfield 48, 3) := by decide +kernel
theorem dX0_learn_64 : decode cX0_learn 64 = .ok (.iastore, 1) := by decide +kernel
theorem dX0_learn_65 : decode cX0_learn 65 = .ok (.aload_n 0, 1) := by decide +kernel
theorem dX0_learn_66 : decode cX0_learn 66 = .ok (.getfield 21, 3) := by decide +kernel
theorem dX0_learn_69 : decode cX0_learn 69 = .ok (.iload_n 2, 1) := by decide +kernel
theorem dX0_learn_70 : decode cX0_learn 70 = .ok (.aload_n 1, 1) := by decide +kernel
theorem dX0_learn_71 : decode cX0_learn 71 = .ok (.getfield 42, 3) := by decide +kernel
theorem dX0_learn_74 : decode cX0_learn 74 = .ok (.iconst 1, 1) := by decide +kernel
theorem dX0_learn_75 : decode cX0_learn 75 = .ok (.if_icmp .ne 10, 3) := by decide +kernel
theorem dX0_learn_78 : decode cX0_learn 78 = .ok (.aload_n 1, 1) := by decide +kernel
theorem dX0_learn_79 : decode cX0_learn 79 = .ok (.getfield 51, 3) := by decide +kernel
theorem dX0_learn_82 : decode cX0_learn 82 = .ok (.goto 4, 3) := by decide +kernel
theorem dX0_learn_85 : decode cX0_learn 85 = .ok (.lconst 0, 1) := by decide +kernel
theorem dX0_learn_86 : decode cX0_learn 86 = .ok (.lastore, 1) := by decide +kernel
theorem dX0_learn_87 : decode cX0_learn 87 = .ok (.iconst 1, 1) := by decide +kernel
theorem dX0_learn_88 : decode cX0_learn 88 = .ok (.ireturn, 1) := by decide +kernel
theorem dX0_forgetTombstones_0 : decode cX0_forgetTombstones 0 = .ok (.iconst 0, 1) := by decide +kernel
theorem dX0_forgetTombstones_1 : decode cX0_forgetTombstones 1 = .ok (.istore_n 2, 1) := by decide +kernel
theorem dX0_forgetTombstones_2 : decode cX0_forgetTombstones 2 = .ok (.iload_n 2, 1) := by decide +kernel
theorem dX0_forgetTombstones_3 : decode cX0_forgetTombstones 3 = .ok (.bipush 16, 2) := by decide +kernel
theorem dX0_forgetTombstones_5 : decode cX0_forgetTombstones 5 = .ok (.if_icmp .ge 50, 3) := by decide +kernel
theorem dX0_forgetTombstones_8 : decode cX0_forgetTombstones 8 = .ok (.aload_n 0, 1) := by decide +kernel
theorem dX0_forgetTombstones_9 : decode cX0_forgetTombstones 9 = .ok (.getfield 9, 3) := by decide +kernel
theorem dX0_forgetTombstones_12 : decode cX0_forgetTombstones 12 = .ok (.iload_n 2, 1) := by decide +kernel
theorem dX0_forgetTombstones_13 : decode cX0_forgetTombstones 13 = .ok (.iaload, 1) := by decide +kernel
theorem dX0_forgetTombstones_14 : decode cX0_forgetTombstones 14 = .ok (.iconst 2, 1) := by decide +kernel
theorem dX0_forgetTombstones_15 : decode cX0_forgetTombstones 15 = .ok (.if_icmp .ne 34, 3) := by decide +kernel
theorem dX0_forgetTombstones_18 : decode cX0_forgetTombstones 18 = .ok (.aload_n 0, 1) := by decide +kernel
theorem dX0_forgetTombstones_19 : decode cX0_forgetTombstones 19 = .ok (.getfield 15, 3) := by decide +kernel
theorem dX0_forgetTombstones_22 : decode cX0_forgetTombstones 22 = .ok (.iload_n 2, 1) := by decide +kernel
theorem dX0_forgetTombstones_23 : decode cX0_forgetTombstones 23 = .ok (.iaload, 1) := by decide +kernel
theorem dX0_forgetTombstones_24 : decode cX0_forgetTombstones 24 = .ok (.iload_n 1, 1) := by decide +kernel
theorem dX0_forgetTombstones_25 : decode cX0_forgetTombstones 25 = .ok (.if_icmp .gt 24, 3) := by decide +kernel
theorem dX0_forgetTombstones_28 : decode cX0_forgetTombstones 28 = .ok (.aload_n 0, 1) := by decide +kernel
theorem dX0_forgetTombstones_29 : decode cX0_forgetTombstones 29 = .ok (.getfield 9, 3) := by decide +kernel
theorem dX0_forgetTombstones_32 : decode cX0_forgetTombstones 32 = .ok (.iload_n 2, 1) := by decide +kernel
theorem dX0_forgetTombstones_33 : decode cX0_forgetTombstones 33 = .ok (.iconst 0, 1) := by decide +kernel
theorem dX0_forgetTombstones_34 : decode cX0_forgetTombstones 34 = .ok (.iastore, 1) := by decide +kernel
theorem dX0_forgetTombstones_35 : decode cX0_forgetTombstones 35 = .ok (.aload_n 0, 1) := by decide +kernel
theorem dX0_forgetTombstones_36 : decode cX0_forgetTombstones 36 = .ok (.getfield 15, 3) := by decide +kernel
theorem dX0_forgetTombstones_39 : decode cX0_forgetTombstones 39 = .ok (.iload_n 2, 1) := by decide +kernel
theorem dX0_forgetTombstones_40 : decode cX0_forgetTombstones 40 = .ok (.iconst (-1), 1) := by decide +kernel
theorem dX0_forgetTombstones_41 : decode cX0_forgetTombstones 41 = .ok (.iastore, 1) := by decide +kernel
theorem dX0_forgetTombstones_42 : decode cX0_forgetTombstones 42 = .ok (.aload_n 0, 1) := by decide +kernel
theorem dX0_forgetTombstones_43 : decode cX0_forgetTombstones 43 = .ok (.getfield 18, 3) := by decide +kernel
theorem dX0_forgetTombstones_46 : decode cX0_forgetTombstones 46 = .ok (.iload_n 2, 1) := by decide +kernel
theorem dX0_forgetTombstones_47 : decode cX0_forgetTombstones 47 = .ok (.iconst 0, 1) := by decide +kernel
theorem dX0_forgetTombstones_48 : decode cX0_forgetTombstones 48 = .ok (.iastore, 1) := by decide +kernel
theorem dX0_forgetTombstones_49 : decode cX0_forgetTombstones 49 = .ok (.iinc 2 1, 3) := by decide +kernel
theorem dX0_forgetTombstones_52 : decode cX0_forgetTombstones 52 = .ok (.goto (-50), 3) := by decide +kernel
theorem dX0_forgetTombstones_55 : decode cX0_forgetTombstones 55 = .ok (.return_, 1) := by decide +kernel
theorem dX0_copyFrom_0 : decode cX0_copyFrom 0 = .ok (.iconst 0, 1) := by decide +kernel
theorem dX0_copyFrom_1 : decode cX0_copyFrom 1 = .ok (.istore_n 2, 1) := by decide +kernel
theorem dX0_copyFrom_2 : decode cX0_copyFrom 2 = .ok (.iload_n 2, 1) := by decide +kernel
theorem dX0_copyFrom_3 : decode cX0_copyFrom 3 = .ok (.bipush 16, 2) := by decide +kernel
theorem dX0_copyFrom_5 : decode cX0_copyFrom 5 = .ok (.if_icmp .ge 57, 3) := by decide +kernel
theorem dX0_copyFrom_8 : decode cX0_copyFrom 8 = .ok (.aload_n 0, 1) := by decide +kernel
theorem dX0_copyFrom_9 : decode cX0_copyFrom 9 = .ok (.getfield 9, 3) := by decide +kernel
theorem dX0_copyFrom_12 : decode cX0_copyFrom 12 = .ok (.iload_n 2, 1) := by decide +kernel
theorem dX0_copyFrom_13 : decode cX0_copyFrom 13 = .ok (.aload_n 1, 1) := by decide +kernel
theorem dX0_copyFrom_14 : decode cX0_copyFrom 14 = .ok (.getfield 9, 3) := by decide +kernel
theorem dX0_copyFrom_17 : decode cX0_copyFrom 17 = .ok (.iload_n 2, 1) := by decide +kernel
theorem dX0_copyFrom_18 : decode cX0_copyFrom 18 = .ok (.iaload, 1) := by decide +kernel
theorem dX0_copyFrom_19 : decode cX0_copyFrom 19 = .ok (.iastore, 1) := by decide +kernel
theorem dX0_copyFrom_20 : decode cX0_copyFrom 20 = .ok (.aload_n 0, 1) := by decide +kernel
theorem dX0_copyFrom_21 : decode cX0_copyFrom 21 = .ok (.getfield 15, 3) := by decide +kernel
theorem dX0_copyFrom_24 : decode cX0_copyFrom 24 = .ok (.iload_n 2, 1) := by decide +kernel
theorem dX0_copyFrom_25 : decode cX0_copyFrom 25 = .ok (.aload_n 1, 1) := by decide +kernel
theorem dX0_copyFrom_26 : decode cX0_copyFrom 26 = .ok (.getfield 15, 3) := by decide +kernel
theorem dX0_copyFrom_29 : decode cX0_copyFrom 29 = .ok (.iload_n 2, 1) := by decide +kernel
theorem dX0_copyFrom_30 : decode cX0_copyFrom 30 = .ok (.iaload, 1) := by decide +kernel
theorem dX0_copyFrom_31 : decode cX0_copyFrom 31 = .ok (.iastore, 1) := by decide +kernel
theorem dX0_copyFrom_32 : decode cX0_copyFrom 32 = .ok (.aload_n 0, 1) := by decide +kernel
theorem dX0_copyFrom_33 : decode cX0_copyFrom 33 = .ok (.getfield 18, 3) := by decide +kernel
theorem dX0_copyFrom_36 : decode cX0_copyFrom 36 = .ok (.iload_n 2, 1) := by decide +kernel
theorem dX0_copyFrom_37 : decode cX0_copyFrom 37 = .ok (.aload_n 1, 1) := by decide +kernel
theorem dX0_copyFrom_38 : decode cX0_copyFrom 38 = .ok (.getfield 18, 3) := by decide +kernel
theorem dX0_copyFrom_41 : decode cX0_copyFrom 41 = .ok (.iload_n 2, 1) := by decide +kernel
theorem dX0_copyFrom_42 : decode cX0_copyFrom 42 = .ok (.iaload, 1) := by decide +kernel
theorem dX0_copyFrom_43 : decode cX0_copyFrom 43 = .ok (.iastore, 1) := by decide +kernel
theorem dX0_copyFrom_44 : decode cX0_copyFrom 44 = .ok (.aload_n 0, 1) := by decide +kernel
theorem dX0_copyFrom_45 : decode cX0_copyFrom 45 = .ok (.getfield 21, 3) := by decide +kernel
theorem dX0_copyFrom_48 : decode cX0_copyFrom 48 = .ok (.iload_n 2, 1) := by decide +kernel
theorem dX0_copyFrom_49 : decode cX0_copyFrom 49 = .ok (.aload_n 1, 1) := by decide +kernel
theorem dX0_copyFrom_50 : decode cX0_copyFrom 50 = .ok (.getfield 21, 3) := by decide +kernel
theorem dX0_copyFrom_53 : decode cX0_copyFrom 53 = .ok (.iload_n 2, 1) := by decide +kernel
theorem dX0_copyFrom_54 : decode cX0_copyFrom 54 = .ok (.laload, 1) := by decide +kernel
theorem dX0_copyFrom_55 : decode cX0_copyFrom 55 = .ok (.lastore, 1) := by decide +kernel
theorem dX0_copyFrom_56 : decode cX0_copyFrom 56 = .ok (.iinc 2 1, 3) := by decide +kernel
theorem dX0_copyFrom_59 : decode cX0_copyFrom 59 = .ok (.goto (-57), 3) := by decide +kernel
theorem dX0_copyFrom_62 : decode cX0_copyFrom 62 = .ok (.return_, 1) := by decide +kernel
set_option maxRecDepth 20000 in
theorem ggX1_init_X0_init : GoodIn wsX1_init wsX0_init := goodIn_r _ [13, 14, 2, 3, 15, 16, 17, 18, 19, 20, 21, 22, 23, 24] (by decide +kernel) (by decide +kernel)
set_option maxRecDepth 20000 in
theorem gX1_init_X0_init : GoodIn wsX1_init (wsX0_init) := ggX1_init_X0_init
theorem dX1_init_0 : decode cX1_init 0 = .ok (.aload_n 0, 1) := by decide +kernel
theorem dX1_init_1 : decode cX1_init 1 = .ok (.invokespecial 3, 3) := by decide +kernel
theorem dX1_init_4 : decode cX1_init 4 = .ok (.aload_n 0, 1) := by decide +kernel
theorem dX1_init_5 : decode cX1_init 5 = .ok (.new 9, 3) := by decide +kernel
theorem dX1_init_8 : decode cX1_init 8 = .ok (.dup, 1) := by decide +kernel
theorem dX1_init_9 : decode cX1_init 9 = .ok (.invokespecial 11, 3) := by decide +kernel
theorem dX1_init_12 : decode cX1_init 12 = .ok (.putfield 12, 3) := by decide +kernel
theorem dX1_init_15 : decode cX1_init 15 = .ok (.aload_n 0, 1) := by decide +kernel
theorem dX1_init_16 : decode cX1_init 16 = .ok (.iconst (-1), 1) := by decide +kernel
theorem dX1_init_17 : decode cX1_init 17 = .ok (.putfield 18, 3) := by decide +kernel
theorem dX1_init_20 : decode cX1_init 20 = .ok (.aload_n 0, 1) := by decide +kernel
theorem dX1_init_21 : decode cX1_init 21 = .ok (.iconst (-1), 1) := by decide +kernel
theorem dX1_init_22 : decode cX1_init 22 = .ok (.putfield 22, 3) := by decide +kernel
theorem dX1_init_25 : decode cX1_init 25 = .ok (.aload_n 0, 1) := by decide +kernel
theorem dX1_init_26 : decode cX1_init 26 = .ok (.lconst 0, 1) := by decide +kernel
theorem dX1_init_27 : decode cX1_init 27 = .ok (.putfield 25, 3) := by decide +kernel
theorem dX1_init_30 : decode cX1_init 30 = .ok (.return_, 1) := by decide +kernel
theorem dX1_isProcessed_0 : decode cX1_isProcessed 0 = .ok (.iload_n 1, 1) := by decide +kernel
theorem dX1_isProcessed_1 : decode cX1_isProcessed 1 = .ok (.aload_n 0, 1) := by decide +kernel
theorem dX1_isProcessed_2 : decode cX1_isProcessed 2 = .ok (.getfield 18, 3) := by decide +kernel
theorem dX1_isProcessed_5 : decode cX1_isProcessed 5 = .ok (.isub, 1) := by decide +kernel
theorem dX1_isProcessed_6 : decode cX1_isProcessed 6 = .ok (.iconst 1, 1) := by decide +kernel
theorem dX1_isProcessed_7 : decode cX1_isProcessed 7 = .ok (.isub, 1) := by decide +kernel
theorem dX1_isProcessed_8 : decode cX1_isProcessed 8 = .ok (.istore_n 2, 1) := by decide +kernel
theorem dX1_isProcessed_9 : decode cX1_isProcessed 9 = .ok (.iload_n 2, 1) := by decide +kernel
theorem dX1_isProcessed_10 : decode cX1_isProcessed 10 = .ok (.ifCond .ge 5, 3) := by decide +kernel
theorem dX1_isProcessed_13 : decode cX1_isProcessed 13 = .ok (.iconst 1, 1) := by decide +kernel
theorem dX1_isProcessed_14 : decode cX1_isProcessed 14 = .ok (.ireturn, 1) := by decide +kernel
theorem dX1_isProcessed_15 : decode cX1_isProcessed 15 = .ok (.iload_n 2, 1) := by decide +kernel
theorem dX1_isProcessed_16 : decode cX1_isProcessed 16 = .ok (.bipush 64, 2) := by decide +kernel
theorem dX1_isProcessed_18 : decode cX1_isProcessed 18 = .ok (.if_icmp .ge 20, 3) := by decide +kernel
theorem dX1_isProcessed_21 : decode cX1_isProcessed 21 = .ok (.aload_n 0, 1) := by decide +kernel
theorem dX1_isProcessed_22 : decode cX1_isProcessed 22 = .ok (.getfield 25, 3) := by decide +kernel
theorem dX1_isProcessed_25 : decode cX1_isProcessed 25 = .ok (.iload_n 2, 1) := by decide +kernel
theorem dX1_isProcessed_26 : decode cX1_isProcessed 26 = .ok (.lushr, 1) := by decide +kernel
theorem dX1_isProcessed_27 : decode cX1_isProcessed 27 = .ok (.lconst 1, 1) := by decide +kernel
theorem dX1_isProcessed_28 : decode cX1_isProcessed 28 = .ok (.land, 1) := by decide +kernel
theorem dX1_isProcessed_29 : decode cX1_isProcessed 29 = .ok (.lconst 0, 1) := by decide +kernel
theorem dX1_isProcessed_30 : decode cX1_isProcessed 30 = .ok (.lcmp, 1) := by decide +kernel
theorem dX1_isProcessed_31 : decode cX1_isProcessed 31 = .ok (.ifCond .eq 7, 3) := by decide +kernel
theorem dX1_isProcessed_34 : decode cX1_isProcessed 34 = .ok (.iconst 1, 1) := by decide +kernel
theorem dX1_isProcessed_35 : decode cX1_isProcessed 35 = .ok (.goto 4, 3) := by decide +kernel
theorem dX1_isProcessed_38 : decode cX1_isProcessed 38 = .ok (.iconst 0, 1) := by decide +kernel
theorem dX1_isProcessed_39 : decode cX1_isProcessed 39 = .ok (.ireturn, 1) := by decide +kernel
set_option maxRecDepth 20000 in
theorem ggX1_process_X1_mark : GoodIn wsX1_process wsX1_mark := goodIn_r _ [7, 8, 9, 10, 11, 12, 13, 14, 37, 38, 39, 40] (by decide +kernel) (by decide +kernel)
set_option maxRecDepth 20000 in
theorem gX1_process_X1_mark : GoodIn wsX1_process (wsV RX1 34 RX1 yX1_mark wsX1_mark) := goodIn_app (goodIn_of _ (by decide +kernel)) ggX1_process_X1_mark
set_option maxRecDepth 20000 in
theorem ggX1_process_X0_learn : GoodIn wsX1_process wsX0_learn := goodIn_r _ [19, 20, 21, 22, 23, 24, 25, 26, 27, 28, 29, 30, 31, 32, 33, 34, 35, 36, 41, 42, 43, 44] (by decide +kernel) (by decide +kernel)
set_option maxRecDepth 20000 in
theorem gX1_process_X0_learn : GoodIn wsX1_process (wsV RX1 38 RX0 yX0_learn wsX0_learn) := goodIn_app (goodIn_of _ (by decide +kernel)) ggX1_process_X0_learn
theorem dX1_process_0 : decode cX1_process 0 = .ok (.aload_n 0, 1) := by decide +kernel
theorem dX1_process_1 : decode cX1_process 1 = .ok (.aload_n 1, 1) := by decide +kernel
theorem dX1_process_2 : decode cX1_process 2 = .ok (.getfield 29, 3) := by decide +kernel
theorem dX1_process_5 : decode cX1_process 5 = .ok (.invokevirtual 34, 3) := by decide +kernel
theorem dX1_process_8 : decode cX1_process 8 = .ok (.aload_n 0, 1) := by decide +kernel
theorem dX1_process_9 : decode cX1_process 9 = .ok (.getfield 12, 3) := by decide +kernel
theorem dX1_process_12 : decode cX1_process 12 = .ok (.aload_n 1, 1) := by decide +kernel
theorem dX1_process_13 : decode cX1_process 13 = .ok (.invokevirtual 38, 3) := by decide +kernel
theorem dX1_process_16 : decode cX1_process 16 = .ok (.ireturn, 1) := by decide +kernel
set_option maxRecDepth 20000 in
theorem ggX1_startFrom_X0_copyFrom : GoodIn wsX1_startFrom wsX0_copyFrom := goodIn_r _ [9, 10, 11, 12, 13, 18, 19, 20, 21] (by decide +kernel) (by decide +kernel)
set_option maxRecDepth 20000 in
theorem gX1_startFrom_X0_copyFrom : GoodIn wsX1_startFrom (wsV RX1 46 RX0 yX0_copyFrom wsX0_copyFrom) := goodIn_app (goodIn_of _ (by decide +kernel)) ggX1_startFrom_X0_copyFrom
theorem dX1_startFrom_0 : decode cX1_startFrom 0 = .ok (.aload_n 0, 1) := by decide +kernel
theorem dX1_startFrom_1 : decode cX1_startFrom 1 = .ok (.getfield 12, 3) := by decide +kernel
theorem dX1_startFrom_4 : decode cX1_startFrom 4 = .ok (.aload_n 1, 1) := by decide +kernel
theorem dX1_startFrom_5 : decode cX1_startFrom 5 = .ok (.getfield 12, 3) := by decide +kernel
theorem dX1_startFrom_8 : decode cX1_startFrom 8 = .ok (.invokevirtual 46, 3) := by decide +kernel
theorem dX1_startFrom_11 : decode cX1_startFrom 11 = .ok (.aload_n 0, 1) := by decide +kernel
theorem dX1_startFrom_12 : decode cX1_startFrom 12 = .ok (.aload_n 1, 1) := by decide +kernel
theorem dX1_startFrom_13 : decode cX1_startFrom 13 = .ok (.getfield 18, 3) := by decide +kernel
theorem dX1_startFrom_16 : decode cX1_startFrom 16 = .ok (.putfield 18, 3) := by decide +kernel
theorem dX1_startFrom_19 : decode cX1_startFrom 19 = .ok (.aload_n 0, 1) := by decide +kernel
theorem dX1_startFrom_20 : decode cX1_startFrom 20 = .ok (.aload_n 1, 1) := by decide +kernel
theorem dX1_startFrom_21 : decode cX1_startFrom 21 = .ok (.getfield 22, 3) := by decide +kernel
theorem dX1_startFrom_24 : decode cX1_startFrom 24 = .ok (.putfield 22, 3) := by decide +kernel
theorem dX1_startFrom_27 : decode cX1_startFrom 27 = .ok (.aload_n 0, 1) := by decide +kernel
theorem dX1_startFrom_28 : decode cX1_startFrom 28 = .ok (.lconst 0, 1) := by decide +kernel
theorem dX1_startFrom_29 : decode cX1_startFrom 29 = .ok (.putfield 25, 3) := by decide +kernel
theorem dX1_startFrom_32 : decode cX1_startFrom 32 = .ok (.return_, 1) := by decide +kernel
theorem dX1_mark_0 : decode cX1_mark 0 = .ok (.iload_n 1, 1) := by decide +kernel
theorem dX1_mark_1 : decode cX1_mark 1 = .ok (.aload_n 0, 1) := by decide +kernel
theorem dX1_mark_2 : decode cX1_mark 2 = .ok (.getfield 18, 3) := by decide +kernel
theorem dX1_mark_5 : decode cX1_mark 5 = .ok (.isub, 1) := by decide +kernel
theorem dX1_mark_6 : decode cX1_mark 6 = .ok (.iconst 1, 1) := by decide +kernel
theorem dX1_mark_7 : decode cX1_mark 7 = .ok (.isub, 1) := by decide +kernel
theorem dX1_mark_8 : decode cX1_mark 8 = .ok (.istore_n 2, 1) := by decide +kernel
theorem dX1_mark_9 : decode cX1_mark 9 = .ok (.iload_n 2, 1) := by decide +kernel
theorem dX1_mark_10 : decode cX1_mark 10 = .ok (.ifCond .lt 21, 3) := by decide +kernel
theorem dX1_mark_13 : decode cX1_mark 13 = .ok (.iload_n 2, 1) := by decide +kernel
theorem dX1_mark_14 : decode cX1_mark 14 = .ok (.bipush 64, 2) := by decide +kernel
theorem dX1_mark_16 : decode cX1_mark 16 = .ok (.if_icmp .ge 15, 3) := by decide +kernel
theorem dX1_mark_19 : decode cX1_mark 19 = .ok (.aload_n 0, 1) := by decide +kernel
theorem dX1_mark_20 : decode cX1_mark 20 = .ok (.dup, 1) := by decide +kernel
theorem dX1_mark_21 : decode cX1_mark 21 = .ok (.getfield 25, 3) := by decide +kernel
theorem dX1_mark_24 : decode cX1_mark 24 = .ok (.lconst 1, 1) := by decide +kernel
theorem dX1_mark_25 : decode cX1_mark 25 = .ok (.iload_n 2, 1) := by decide +kernel
theorem dX1_mark_26 : decode cX1_mark 26 = .ok (.lshl, 1) := by decide +kernel
theorem dX1_mark_27 : decode cX1_mark 27 = .ok (.lor, 1) := by decide +kernel
theorem dX1_mark_28 : decode cX1_mark 28 = .ok (.putfield 25, 3) := by decide +kernel
theorem dX1_mark_31 : decode cX1_mark 31 = .ok (.iconst 0, 1) := by decide +kernel
theorem dX1_mark_32 : decode cX1_mark 32 = .ok (.istore_n 3, 1) := by decide +kernel
theorem dX1_mark_33 : decode cX1_mark 33 = .ok (.iload_n 3, 1) := by decide +kernel
theorem dX1_mark_34 : decode cX1_mark 34 = .ok (.bipush 64, 2) := by decide +kernel
theorem dX1_mark_36 : decode cX1_mark 36 = .ok (.if_icmp .ge 40, 3) := by decide +kernel
theorem dX1_mark_39 : decode cX1_mark 39 = .ok (.aload_n 0, 1) := by decide +kernel
theorem dX1_mark_40 : decode cX1_mark 40 = .ok (.getfield 25, 3) := by decide +kernel
theorem dX1_mark_43 : decode cX1_mark 43 = .ok (.lconst 1, 1) := by decide +kernel
theorem dX1_mark_44 : decode cX1_mark 44 = .ok (.land, 1) := by decide +kernel
theorem dX1_mark_45 : decode cX1_mark 45 = .ok (.lconst 0, 1) := by decide +kernel
theorem dX1_mark_46 : decode cX1_mark 46 = .ok (.lcmp, 1) := by decide +kernel
theorem dX1_mark_47 : decode cX1_mark 47 = .ok (.ifCond .eq 29, 3) := by decide +kernel
theorem dX1_mark_50 : decode cX1_mark 50 = .ok (.aload_n 0, 1) := by decide +kernel
theorem dX1_mark_51 : decode cX1_mark 51 = .ok (.dup, 1) := by decide +kernel
theorem dX1_mark_52 : decode cX1_mark 52 = .ok (.getfield 25, 3) := by decide +kernel
theorem dX1_mark_55 : decode cX1_mark 55 = .ok (.iconst 1, 1) := by decide +kernel
theorem dX1_mark_56 : decode cX1_mark 56 = .ok (.lushr, 1) := by decide +kernel
theorem dX1_mark_57 : decode cX1_mark 57 = .ok (.putfield 25, 3) := by decide +kernel
theorem dX1_mark_60 : decode cX1_mark 60 = .ok (.aload_n 0, 1) := by decide +kernel
theorem dX1_mark_61 : decode cX1_mark 61 = .ok (.dup, 1) := by decide +kernel
theorem dX1_mark_62 : decode cX1_mark 62 = .ok (.getfield 18, 3) := by decide +kernel
theorem dX1_mark_65 : decode cX1_mark 65 = .ok (.iconst 1, 1) := by decide +kernel
theorem dX1_mark_66 : decode cX1_mark 66 = .ok (.iadd, 1) := by decide +kernel
theorem dX1_mark_67 : decode cX1_mark 67 = .ok (.putfield 18, 3) := by decide +kernel
theorem dX1_mark_70 : decode cX1_mark 70 = .ok (.iinc 3 1, 3) := by decide +kernel
theorem dX1_mark_73 : decode cX1_mark 73 = .ok (.goto (-40), 3) := by decide +kernel
theorem dX1_mark_76 : decode cX1_mark 76 = .ok (.aload_n 0, 1) := by decide +kernel
theorem dX1_mark_77 : decode cX1_mark 77 = .ok (.aload_n 0, 1) := by decide +kernel
theorem dX1_mark_78 : decode cX1_mark 78 = .ok (.getfield 22, 3) := by decide +kernel
theorem dX1_mark_81 : decode cX1_mark 81 = .ok (.iload_n 1, 1) := by decide +kernel
theorem dX1_mark_82 : decode cX1_mark 82 = .ok (.invokestatic 50, 3) := by decide +kernel
theorem dX1_mark_85 : decode cX1_mark 85 = .ok (.putfield 22, 3) := by decide +kernel
theorem dX1_mark_88 : decode cX1_mark 88 = .ok (.return_, 1) := by decide +kernel
theorem dX2_init_0 : decode cX2_init 0 = .ok (.aload_n 0, 1) := by decide +kernel
theorem dX2_init_1 : decode cX2_init 1 = .ok (.invokespecial 3, 3) := by decide +kernel
theorem dX2_init_4 : decode cX2_init 4 = .ok (.aload_n 0, 1) := by decide +kernel
theorem dX2_init_5 : decode cX2_init 5 = .ok (.iconst 0, 1) := by decide +kernel
theorem dX2_init_6 : decode cX2_init 6 = .ok (.putfield 9, 3) := by decide +kernel
theorem dX2_init_9 : decode cX2_init 9 = .ok (.aload_n 0, 1) := by decide +kernel
theorem dX2_init_10 : decode cX2_init 10 = .ok (.iconst 0, 1) := by decide +kernel
theorem dX2_init_11 : decode cX2_init 11 = .ok (.putfield 15, 3) := by decide +kernel
theorem dX2_init_14 : decode cX2_init 14 = .ok (.aload_n 0, 1) := by decide +kernel
theorem dX2_init_15 : decode cX2_init 15 = .ok (.iconst 0, 1) := by decide +kernel
theorem dX2_init_16 : decode cX2_init 16 = .ok (.putfield 18, 3) := by decide +kernel
theorem dX2_init_19 : decode cX2_init 19 = .ok (.aload_n 0, 1) := by decide +kernel
theorem dX2_init_20 : decode cX2_init 20 = .ok (.sipush 960, 3) := by decide +kernel
theorem dX2_init_23 : decode cX2_init 23 = .ok (.newarray .int, 2) := by decide +kernel
theorem dX2_init_25 : decode cX2_init 25 = .ok (.putfield 21, 3) := by decide +kernel
theorem dX2_init_28 : decode cX2_init 28 = .ok (.aload_n 0, 1) := by decide +kernel
theorem dX2_init_29 : decode cX2_init 29 = .ok (.iconst 4, 1) := by decide +kernel
theorem dX2_init_30 : decode cX2_init 30 = .ok (.newarray .int, 2) := by decide +kernel
theorem dX2_init_32 : decode cX2_init 32 = .ok (.putfield 25, 3) := by decide +kernel
theorem dX2_init_35 : decode cX2_init 35 = .ok (.aload_n 0, 1) := by decide +kernel
theorem dX2_init_36 : decode cX2_init 36 = .ok (.iconst 4, 1) := by decide +kernel
theorem dX2_init_37 : decode cX2_init 37 = .ok (.newarray .int, 2) := by decide +kernel
theorem dX2_init_39 : decode cX2_init 39 = .ok (.putfield 28, 3) := by decide +kernel
theorem dX2_init_42 : decode cX2_init 42 = .ok (.aload_n 0, 1) := by decide +kernel
theorem dX2_init_43 : decode cX2_init 43 = .ok (.getfield 28, 3) := by decide +kernel
theorem dX2_init_46 : decode cX2_init 46 = .ok (.iconst 0, 1) := by decide +kernel
theorem dX2_init_47 : decode cX2_init 47 = .ok (.iconst (-1), 1) := by decide +kernel
theorem dX2_init_48 : decode cX2_init 48 = .ok (.iastore, 1) := by decide +kernel
theorem dX2_init_49 : decode cX2_init 49 = .ok (.return_, 1) := by decide +kernel
theorem dX2_count_0 : decode cX2_count 0 = .ok (.aload_n 0, 1) := by decide +kernel
theorem dX2_count_1 : decode cX2_count 1 = .ok (.getfield 15, 3) := by decide +kernel
theorem dX2_count_4 : decode cX2_count 4 = .ok (.aload_n 0, 1) := by decide +kernel
theorem dX2_count_5 : decode cX2_count 5 = .ok (.getfield 9, 3) := by decide +kernel
theorem dX2_count_8 : decode cX2_count 8 = .ok (.isub, 1) := by decide +kernel
theorem dX2_count_9 : decode cX2_count 9 = .ok (.iconst 1, 1) := by decide +kernel
theorem dX2_count_10 : decode cX2_count 10 = .ok (.iadd, 1) := by decide +kernel
theorem dX2_count_11 : decode cX2_count 11 = .ok (.ireturn, 1) := by decide +kernel
set_option maxRecDepth 20000 in
theorem ggX2_lengthOf_X2_rowOf : GoodIn wsX2_lengthOf wsX2_rowOf := goodIn_r _ [5] (by decide +kernel) (by decide +kernel)
set_option maxRecDepth 20000 in
theorem gX2_lengthOf_X2_rowOf : GoodIn wsX2_lengthOf (va_wsS RX2 31 yX2_rowOf wsX2_rowOf) := goodIn_app (goodIn_of _ (by decide +kernel)) ggX2_lengthOf_X2_rowOf
theorem dX2_lengthOf_0 : decode cX2_lengthOf 0 = .ok (.aload_n 0, 1) := by decide +kernel
theorem dX2_lengthOf_1 : decode cX2_lengthOf 1 = .ok (.getfield 25, 3) := by decide +kernel
theorem dX2_lengthOf_4 : decode cX2_lengthOf 4 = .ok (.iload_n 1, 1) := by decide +kernel
theorem dX2_lengthOf_5 : decode cX2_lengthOf 5 = .ok (.invokestatic 31, 3) := by decide +kernel
theorem dX2_lengthOf_8 : decode cX2_lengthOf 8 = .ok (.iaload, 1) := by decide +kernel
theorem dX2_lengthOf_9 : decode cX2_lengthOf 9 = .ok (.ireturn, 1) := by decide +kernel
set_option maxRecDepth 20000 in
theorem ggX2_syncedOf_X2_lengthOf : GoodIn wsX2_syncedOf wsX2_lengthOf := goodIn_r _ [7, 8, 9, 10, 6, 11, 12, 13, 14, 15, 16, 17] (by decide +kernel) (by decide +kernel)
set_option maxRecDepth 20000 in
theorem gX2_syncedOf_X2_lengthOf : GoodIn wsX2_syncedOf (wsV RX2 35 RX2 yX2_lengthOf wsX2_lengthOf) := goodIn_app (goodIn_of _ (by decide +kernel)) ggX2_syncedOf_X2_lengthOf
theorem dX2_syncedOf_0 : decode cX2_syncedOf 0 = .ok (.iload_n 1, 1) := by decide +kernel
theorem dX2_syncedOf_1 : decode cX2_syncedOf 1 = .ok (.aload_n 0, 1) := by decide +kernel
theorem dX2_syncedOf_2 : decode cX2_syncedOf 2 = .ok (.getfield 15, 3) := by decide +kernel
theorem dX2_syncedOf_5 : decode cX2_syncedOf 5 = .ok (.if_icmp .ne 10, 3) := by decide +kernel
theorem dX2_syncedOf_8 : decode cX2_syncedOf 8 = .ok (.aload_n 0, 1) := by decide +kernel
theorem dX2_syncedOf_9 : decode cX2_syncedOf 9 = .ok (.getfield 18, 3) := by decide +kernel
theorem dX2_syncedOf_12 : decode cX2_syncedOf 12 = .ok (.goto 8, 3) := by decide +kernel
theorem dX2_syncedOf_15 : decode cX2_syncedOf 15 = .ok (.aload_n 0, 1) := by decide +kernel
theorem dX2_syncedOf_16 : decode cX2_syncedOf 16 = .ok (.iload_n 1, 1) := by decide +kernel
theorem dX2_syncedOf_17 : decode cX2_syncedOf 17 = .ok (.invokevirtual 35, 3) := by decide +kernel
theorem dX2_syncedOf_20 : decode cX2_syncedOf 20 = .ok (.ireturn, 1) := by decide +kernel
set_option maxRecDepth 20000 in
theorem ggX2_room_X2_lengthOf : GoodIn wsX2_room wsX2_lengthOf := goodIn_r _ [6, 7, 8, 9, 5, 10, 11, 12, 13, 14, 15, 16] (by decide +kernel) (by decide +kernel)
set_option maxRecDepth 20000 in
theorem gX2_room_X2_lengthOf : GoodIn wsX2_room (wsV RX2 35 RX2 yX2_lengthOf wsX2_lengthOf) := goodIn_app (goodIn_of _ (by decide +kernel)) ggX2_room_X2_lengthOf
theorem dX2_room_0 : decode cX2_room 0 = .ok (.sipush 240, 3) := by decide +kernel
theorem dX2_room_3 : decode cX2_room 3 = .ok (.aload_n 0, 1) := by decide +kernel
theorem dX2_room_4 : decode cX2_room 4 = .ok (.aload_n 0, 1) := by decide +kernel
theorem dX2_room_5 : decode cX2_room 5 = .ok (.getfield 15, 3) := by decide +kernel
theorem dX2_room_8 : decode cX2_room 8 = .ok (.invokevirtual 35, 3) := by decide +kernel
theorem dX2_room_11 : decode cX2_room 11 = .ok (.isub, 1) := by decide +kernel
theorem dX2_room_12 : decode cX2_room 12 = .ok (.ireturn, 1) := by decide +kernel
set_option maxRecDepth 20000 in
theorem ggX2_unsynced_X2_lengthOf : GoodIn wsX2_unsynced wsX2_lengthOf := goodIn_r _ [7, 8, 9, 10, 6, 11, 12, 13, 14, 15, 16, 17] (by decide +kernel) (by decide +kernel)
set_option maxRecDepth 20000 in
theorem gX2_unsynced_X2_lengthOf : GoodIn wsX2_unsynced (wsV RX2 35 RX2 yX2_lengthOf wsX2_lengthOf) := goodIn_app (goodIn_of _ (by decide +kernel)) ggX2_unsynced_X2_lengthOf
theorem dX2_unsynced_0 : decode cX2_unsynced 0 = .ok (.aload_n 0, 1) := by decide +kernel
theorem dX2_unsynced_1 : decode cX2_unsynced 1 = .ok (.aload_n 0, 1) := by decide +kernel
theorem dX2_unsynced_2 : decode cX2_unsynced 2 = .ok (.getfield 15, 3) := by decide +kernel
theorem dX2_unsynced_5 : decode cX2_unsynced 5 = .ok (.invokevirtual 35, 3) := by decide +kernel
theorem dX2_unsynced_8 : decode cX2_unsynced 8 = .ok (.aload_n 0, 1) := by decide +kernel
theorem dX2_unsynced_9 : decode cX2_unsynced 9 = .ok (.getfield 18, 3) := by decide +kernel
theorem dX2_unsynced_12 : decode cX2_unsynced 12 = .ok (.isub, 1) := by decide +kernel
theorem dX2_unsynced_13 : decode cX2_unsynced 13 = .ok (.ireturn, 1) := by decide +kernel
set_option maxRecDepth 20000 in
theorem ggX2_syncCurrent_X2_unsynced : GoodIn wsX2_syncCurrent wsX2_unsynced := goodIn_r _ [7, 1, 2, 8, 9, 10, 6, 11, 12, 13, 14, 15, 16, 17, 18, 19, 20, 21] (by decide +kernel) (by decide +kernel)
set_option maxRecDepth 20000 in
theorem gX2_syncCurrent_X2_unsynced : GoodIn wsX2_syncCurrent (wsV RX2 38 RX2 yX2_unsynced wsX2_unsynced) := goodIn_app (goodIn_of _ (by decide +kernel)) ggX2_syncCurrent_X2_unsynced
set_option maxRecDepth 20000 in
theorem ggX2_syncCurrent_X2_lengthOf : GoodIn wsX2_syncCurrent wsX2_lengthOf := goodIn_r _ [11, 12, 13, 14, 6, 15, 16, 17, 18, 19, 20, 21] (by decide +kernel) (by decide +kernel)
set_option maxRecDepth 20000 in
theorem gX2_syncCurrent_X2_lengthOf : GoodIn wsX2_syncCurrent (wsV RX2 35 RX2 yX2_lengthOf wsX2_lengthOf) := goodIn_app (goodIn_of _ (by decide +kernel)) ggX2_syncCurrent_X2_lengthOf
theorem dX2_syncCurrent_0 : decode cX2_syncCurrent 0 = .ok (.aload_n 0, 1) := by decide +kernel
theorem dX2_syncCurrent_1 : decode cX2_syncCurrent 1 = .ok (.invokevirtual 38, 3) := by decide +kernel
theorem dX2_syncCurrent_4 : decode cX2_syncCurrent 4 = .ok (.istore_n 1, 1) := by decide +kernel
theorem dX2_syncCurrent_5 : decode cX2_syncCurrent 5 = .ok (.aload_n 0, 1) := by decide +kernel
theorem dX2_syncCurrent_6 : decode cX2_syncCurrent 6 = .ok (.aload_n 0, 1) := by decide +kernel
theorem dX2_syncCurrent_7 : decode cX2_syncCurrent 7 = .ok (.aload_n 0, 1) := by decide +kernel
theorem dX2_syncCurrent_8 : decode cX2_syncCurrent 8 = .ok (.getfield 15, 3) := by decide +kernel
theorem dX2_syncCurrent_11 : decode cX2_syncCurrent 11 = .ok (.invokevirtual 35, 3) := by decide +kernel
theorem dX2_syncCurrent_14 : decode cX2_syncCurrent 14 = .ok (.putfield 18, 3) := by decide +kernel
theorem dX2_syncCurrent_17 : decode cX2_syncCurrent 17 = .ok (.iload_n 1, 1) := by decide +kernel
theorem dX2_syncCurrent_18 : decode cX2_syncCurrent 18 = .ok (.ireturn, 1) := by decide +kernel
set_option maxRecDepth 20000 in
theorem ggX2_cutCurrent_X2_rowOf : GoodIn wsX2_cutCurrent wsX2_rowOf := goodIn_r _ [6] (by decide +kernel) (by decide +kernel)
set_option maxRecDepth 20000 in
theorem gX2_cutCurrent_X2_rowOf : GoodIn wsX2_cutCurrent (va_wsS RX2 31 yX2_rowOf wsX2_rowOf) := goodIn_app (goodIn_of _ (by decide +kernel)) ggX2_cutCurrent_X2_rowOf
theorem dX2_cutCurrent_0 : decode cX2_cutCurrent 0 = .ok (.aload_n 0, 1) := by decide +kernel
theorem dX2_cutCurrent_1 : decode cX2_cutCurrent 1 = .ok (.getfield 25, 3) := by decide +kernel
theorem dX2_cutCurrent_4 : decode cX2_cutCurrent 4 = .ok (.aload_n 0, 1) := by decide +kernel
theorem dX2_cutCurrent_5 : decode cX2_cutCurrent 5 = .ok (.getfield 15, 3) := by decide +kernel
theorem dX2_cutCurrent_8 : decode cX2_cutCurrent 8 = .ok (.invokestatic 31, 3) := by decide +kernel
theorem dX2_cutCurrent_11 : decode cX2_cutCurrent 11 = .ok (.iload_n 1, 1) := by decide +kernel
theorem dX2_cutCurrent_12 : decode cX2_cutCurrent 12 = .ok (.iastore, 1) := by decide +kernel
theorem dX2_cutCurrent_13 : decode cX2_cutCurrent 13 = .ok (.return_, 1) := by decide +kernel
set_option maxRecDepth 20000 in
theorem ggX2_begin_X2_rowOf : GoodIn wsX2_begin wsX2_rowOf := goodIn_r _ [7] (by decide +kernel) (by decide +kernel)
set_option maxRecDepth 20000 in
theorem gX2_begin_X2_rowOf : GoodIn wsX2_begin (va_wsS RX2 31 yX2_rowOf wsX2_rowOf) := goodIn_app (goodIn_of _ (by decide +kernel)) ggX2_begin_X2_rowOf
set_option maxRecDepth 20000 in
theorem ggX2_begin_X2_forgetSeqs : GoodIn wsX2_begin wsX2_forgetSeqs := goodIn_r _ [11, 12, 4, 5, 6, 7, 13, 14, 15, 16, 17, 18] (by decide +kernel) (by decide +kernel)
set_option maxRecDepth 20000 in
theorem gX2_begin_X2_forgetSeqs : GoodIn wsX2_begin (wsV RX2 42 RX2 yX2_forgetSeqs wsX2_forgetSeqs) := goodIn_app (goodIn_of _ (by decide +kernel)) ggX2_begin_X2_forgetSeqs
theorem dX2_begin_0 : decode cX2_begin 0 = .ok (.aload_n 0, 1) := by decide +kernel
theorem dX2_begin_1 : decode cX2_begin 1 = .ok (.dup, 1) := by decide +kernel
theorem dX2_begin_2 : decode cX2_begin 2 = .ok (.getfield 15, 3) := by decide +kernel
theorem dX2_begin_5 : decode cX2_begin 5 = .ok (.iconst 1, 1) := by decide +kernel
theorem dX2_begin_6 : decode cX2_begin 6 = .ok (.iadd, 1) := by decide +kernel
theorem dX2_begin_7 : decode cX2_begin 7 = .ok (.putfield 15, 3) := by decide +kernel
theorem dX2_begin_10 : decode cX2_begin 10 = .ok (.aload_n 0, 1) := by decide +kernel
theorem dX2_begin_11 : decode cX2_begin 11 = .ok (.iconst 0, 1) := by decide +kernel
theorem dX2_begin_12 : decode cX2_begin 12 = .ok (.putfield 18, 3) := by decide +kernel
theorem dX2_begin_15 : decode cX2_begin 15 = .ok (.aload_n 0, 1) := by decide +kernel
theorem dX2_begin_16 : decode cX2_begin 16 = .ok (.getfield 25, 3) := by decide +kernel
theorem dX2_begin_19 : decode cX2_begin 19 = .ok (.aload_n 0, 1) := by decide +kernel
theorem dX2_begin_20 : decode cX2_begin 20 = .ok (.getfield 15, 3) := by decide +kernel
theorem dX2_begin_23 : decode cX2_begin 23 = .ok (.invokestatic 31, 3) := by decide +kernel
theorem dX2_begin_26 : decode cX2_begin 26 = .ok (.iconst 0, 1) := by decide +kernel
theorem dX2_begin_27 : decode cX2_begin 27 = .ok (.iastore, 1) := by decide +kernel
theorem dX2_begin_28 : decode cX2_begin 28 = .ok (.aload_n 0, 1) := by decide +kernel
theorem dX2_begin_29 : decode cX2_begin 29 = .ok (.aload_n 0, 1) := by decide +kernel
theorem dX2_begin_30 : decode cX2_begin 30 = .ok (.getfield 15, 3) := by decide +kernel
theorem dX2_begin_33 : decode cX2_begin 33 = .ok (.invokevirtual 42, 3) := by decide +kernel
theorem dX2_begin_36 : decode cX2_begin 36 = .ok (.return_, 1) := by decide +kernel
set_option maxRecDepth 20000 in
theorem ggX2_countUpTo_X2_rowOf : GoodIn wsX2_countUpTo wsX2_rowOf := goodIn_r _ [7] (by decide +kernel) (by decide +kernel)
set_option maxRecDepth 20000 in
theorem gX2_countUpTo_X2_rowOf : GoodIn wsX2_countUpTo (va_wsS RX2 31 yX2_rowOf wsX2_rowOf) := goodIn_app (goodIn_of _ (by decide +kernel)) ggX2_countUpTo_X2_rowOf
theorem dX2_countUpTo_0 : decode cX2_countUpTo 0 = .ok (.iconst 0, 1) := by decide +kernel
theorem dX2_countUpTo_1 : decode cX2_countUpTo 1 = .ok (.istore_n 2, 1) := by decide +kernel
theorem dX2_countUpTo_2 : decode cX2_countUpTo 2 = .ok (.aload_n 0, 1) := by decide +kernel
theorem dX2_countUpTo_3 : decode cX2_countUpTo 3 = .ok (.getfield 9, 3) := by decide +kernel
theorem dX2_countUpTo_6 : decode cX2_countUpTo 6 = .ok (.istore_n 3, 1) := by decide +kernel
theorem dX2_countUpTo_7 : decode cX2_countUpTo 7 = .ok (.iload_n 3, 1) := by decide +kernel
theorem dX2_countUpTo_8 : decode cX2_countUpTo 8 = .ok (.aload_n 0, 1) := by decide +kernel
theorem dX2_countUpTo_9 : decode cX2_countUpTo 9 = .ok (.getfield 15, 3) := by decide +kernel
theorem dX2_countUpTo_12 : decode cX2_countUpTo 12 = .ok (.if_icmp .gt 27, 3) := by decide +kernel
theorem dX2_countUpTo_15 : decode cX2_countUpTo 15 = .ok (.aload_n 0, 1) := by decide +kernel
theorem dX2_countUpTo_16 : decode cX2_countUpTo 16 = .ok (.getfield 28, 3) := by decide +kernel
theorem dX2_countUpTo_19 : decode cX2_countUpTo 19 = .ok (.iload_n 3, 1) := by decide +kernel
theorem dX2_countUpTo_20 : decode cX2_countUpTo 20 = .ok (.invokestatic 31, 3) := by decide +kernel
theorem dX2_countUpTo_23 : decode cX2_countUpTo 23 = .ok (.iaload, 1) := by decide +kernel
theorem dX2_countUpTo_24 : decode cX2_countUpTo 24 = .ok (.iload_n 1, 1) := by decide +kernel
theorem dX2_countUpTo_25 : decode cX2_countUpTo 25 = .ok (.if_icmp .le 5, 3) := by decide +kernel
theorem dX2_countUpTo_28 : decode cX2_countUpTo 28 = .ok (.iload_n 2, 1) := by decide +kernel
theorem dX2_countUpTo_29 : decode cX2_countUpTo 29 = .ok (.ireturn, 1) := by decide +kernel
theorem dX2_countUpTo_30 : decode cX2_countUpTo 30 = .ok (.iinc 2 1, 3) := by decide +kernel
theorem dX2_countUpTo_33 : decode cX2_countUpTo 33 = .ok (.iinc 3 1, 3) := by decide +kernel
theorem dX2_countUpTo_36 : decode cX2_countUpTo 36 = .ok (.goto (-29), 3) := by decide +kernel
theorem dX2_countUpTo_39 : decode cX2_countUpTo 39 = .ok (.iload_n 2, 1) := by decide +kernel
theorem dX2_countUpTo_40 : decode cX2_countUpTo 40 = .ok (.ireturn, 1) := by decide +kernel
set_option maxRecDepth 20000 in
theorem ggX2_forgetSeqs_X2_rowOf : GoodIn wsX2_forgetSeqs wsX2_rowOf := goodIn_r _ [5] (by decide +kernel) (by decide +kernel)
set_option maxRecDepth 20000 in
theorem gX2_forgetSeqs_X2_rowOf : GoodIn wsX2_forgetSeqs (va_wsS RX2 31 yX2_rowOf wsX2_rowOf) := goodIn_app (goodIn_of _ (by decide +kernel)) ggX2_forgetSeqs_X2_rowOf
theorem dX2_forgetSeqs_0 : decode cX2_forgetSeqs 0 = .ok (.aload_n 0, 1) := by decide +kernel
theorem dX2_forgetSeqs_1 : decode cX2_forgetSeqs 1 = .ok (.getfield 28, 3) := by decide +kernel
theorem dX2_forgetSeqs_4 : decode cX2_forgetSeqs 4 = .ok (.iload_n 1, 1) := by decide +kernel
theorem dX2_forgetSeqs_5 : decode cX2_forgetSeqs 5 = .ok (.invokestatic 31, 3) := by decide +kernel
theorem dX2_forgetSeqs_8 : decode cX2_forgetSeqs 8 = .ok (.iconst (-1), 1) := by decide +kernel
theorem dX2_forgetSeqs_9 : decode cX2_forgetSeqs 9 = .ok (.iastore, 1) := by decide +kernel
theorem dX2_forgetSeqs_10 : decode cX2_forgetSeqs 10 = .ok (.return_, 1) := by decide +kernel
set_option maxRecDepth 20000 in
theorem ggX2_noteSeq_X2_rowOf : GoodIn wsX2_noteSeq wsX2_rowOf := goodIn_r _ [9] (by decide +kernel) (by decide +kernel)
set_option maxRecDepth 20000 in
theorem gX2_noteSeq_X2_rowOf : GoodIn wsX2_noteSeq (va_wsS RX2 31 yX2_rowOf wsX2_rowOf) := goodIn_app (goodIn_of _ (by decide +kernel)) ggX2_noteSeq_X2_rowOf
theorem dX2_noteSeq_0 : decode cX2_noteSeq 0 = .ok (.iload_n 1, 1) := by decide +kernel
theorem dX2_noteSeq_1 : decode cX2_noteSeq 1 = .ok (.invokestatic 31, 3) := by decide +kernel
theorem dX2_noteSeq_4 : decode cX2_noteSeq 4 = .ok (.istore_n 3, 1) := by decide +kernel
theorem dX2_noteSeq_5 : decode cX2_noteSeq 5 = .ok (.aload_n 0, 1) := by decide +kernel
theorem dX2_noteSeq_6 : decode cX2_noteSeq 6 = .ok (.getfield 28, 3) := by decide +kernel
theorem dX2_noteSeq_9 : decode cX2_noteSeq 9 = .ok (.iload_n 3, 1) := by decide +kernel
theorem dX2_noteSeq_10 : decode cX2_noteSeq 10 = .ok (.aload_n 0, 1) := by decide +kernel
theorem dX2_noteSeq_11 : decode cX2_noteSeq 11 = .ok (.getfield 28, 3) := by decide +kernel
theorem dX2_noteSeq_14 : decode cX2_noteSeq 14 = .ok (.iload_n 3, 1) := by decide +kernel
theorem dX2_noteSeq_15 : decode cX2_noteSeq 15 = .ok (.iaload, 1) := by decide +kernel
theorem dX2_noteSeq_16 : decode cX2_noteSeq 16 = .ok (.iload_n 2, 1) := by decide +kernel
theorem dX2_noteSeq_17 : decode cX2_noteSeq 17 = .ok (.invokestatic 46, 3) := by decide +kernel
theorem dX2_noteSeq_20 : decode cX2_noteSeq 20 = .ok (.iastore, 1) := by decide +kernel
theorem dX2_noteSeq_21 : decode cX2_noteSeq 21 = .ok (.return_, 1) := by decide +kernel
set_option maxRecDepth 20000 in
theorem ggX2_hasByte_X2_rowOf : GoodIn wsX2_hasByte wsX2_rowOf := goodIn_r _ [7] (by decide +kernel) (by decide +kernel)
set_option maxRecDepth 20000 in
theorem gX2_hasByte_X2_rowOf : GoodIn wsX2_hasByte (va_wsS RX2 31 yX2_rowOf wsX2_rowOf) := goodIn_app (goodIn_of _ (by decide +kernel)) ggX2_hasByte_X2_rowOf
theorem dX2_hasByte_0 : decode cX2_hasByte 0 = .ok (.iload_n 1, 1) := by decide +kernel
theorem dX2_hasByte_1 : decode cX2_hasByte 1 = .ok (.aload_n 0, 1) := by decide +kernel
theorem dX2_hasByte_2 : decode cX2_hasByte 2 = .ok (.getfield 9, 3) := by decide +kernel
theorem dX2_hasByte_5 : decode cX2_hasByte 5 = .ok (.if_icmp .lt 32, 3) := by decide +kernel
theorem dX2_hasByte_8 : decode cX2_hasByte 8 = .ok (.iload_n 1, 1) := by decide +kernel
theorem dX2_hasByte_9 : decode cX2_hasByte 9 = .ok (.aload_n 0, 1) := by decide +kernel
theorem dX2_hasByte_10 : decode cX2_hasByte 10 = .ok (.getfield 15, 3) := by decide +kernel
theorem dX2_hasByte_13 : decode cX2_hasByte 13 = .ok (.if_icmp .gt 24, 3) := by decide +kernel
theorem dX2_hasByte_16 : decode cX2_hasByte 16 = .ok (.iload_n 2, 1) := by decide +kernel
theorem dX2_hasByte_17 : decode cX2_hasByte 17 = .ok (.ifCond .lt 20, 3) := by decide +kernel
theorem dX2_hasByte_20 : decode cX2_hasByte 20 = .ok (.iload_n 2, 1) := by decide +kernel
theorem dX2_hasByte_21 : decode cX2_hasByte 21 = .ok (.aload_n 0, 1) := by decide +kernel
theorem dX2_hasByte_22 : decode cX2_hasByte 22 = .ok (.getfield 25, 3) := by decide +kernel
theorem dX2_hasByte_25 : decode cX2_hasByte 25 = .ok (.iload_n 1, 1) := by decide +kernel
theorem dX2_hasByte_26 : decode cX2_hasByte 26 = .ok (.invokestatic 31, 3) := by decide +kernel
theorem dX2_hasByte_29 : decode cX2_hasByte 29 = .ok (.iaload, 1) := by decide +kernel
theorem dX2_hasByte_30 : decode cX2_hasByte 30 = .ok (.if_icmp .ge 7, 3) := by decide +kernel
theorem dX2_hasByte_33 : decode cX2_hasByte 33 = .ok (.iconst 1, 1) := by decide +kernel
theorem dX2_hasByte_34 : decode cX2_hasByte 34 = .ok (.goto 4, 3) := by decide +kernel
theorem dX2_hasByte_37 : decode cX2_hasByte 37 = .ok (.iconst 0, 1) := by decide +kernel
theorem dX2_hasByte_38 : decode cX2_hasByte 38 = .ok (.ireturn, 1) := by decide +kernel
set_option maxRecDepth 20000 in
theorem ggX2_change_X2_rowOf : GoodIn wsX2_change wsX2_rowOf := goodIn_r _ [5] (by decide +kernel) (by decide +kernel)
set_option maxRecDepth 20000 in
theorem gX2_change_X2_rowOf : GoodIn wsX2_change (va_wsS RX2 31 yX2_rowOf wsX2_rowOf) := goodIn_app (goodIn_of _ (by decide +kernel)) ggX2_change_X2_rowOf
theorem dX2_change_0 : decode cX2_change 0 = .ok (.iload_n 2, 1) := by decide +kernel
theorem dX2_change_1 : decode cX2_change 1 = .ok (.ifCond .lt 10, 3) := by decide +kernel
theorem dX2_change_4 : decode cX2_change 4 = .ok (.iload_n 2, 1) := by decide +kernel
theorem dX2_change_5 : decode cX2_change 5 = .ok (.sipush 240, 3) := by decide +kernel
theorem dX2_change_8 : decode cX2_change 8 = .ok (.if_icmp .lt 5, 3) := by decide +kernel
theorem dX2_change_11 : decode cX2_change 11 = .ok (.iconst 0, 1) := by decide +kernel
theorem dX2_change_12 : decode cX2_change 12 = .ok (.ireturn, 1) := by decide +kernel
theorem dX2_change_13 : decode cX2_change 13 = .ok (.iload_n 1, 1) := by decide +kernel
theorem dX2_change_14 : decode cX2_change 14 = .ok (.invokestatic 31, 3) := by decide +kernel
theorem dX2_change_17 : decode cX2_change 17 = .ok (.sipush 240, 3) := by decide +kernel
theorem dX2_change_20 : decode cX2_change 20 = .ok (.imul, 1) := by decide +kernel
theorem dX2_change_21 : decode cX2_change 21 = .ok (.iload_n 2, 1) := by decide +kernel
theorem dX2_change_22 : decode cX2_change 22 = .ok (.iadd, 1) := by decide +kernel
theorem dX2_change_23 : decode cX2_change 23 = .ok (.istore 4, 2) := by decide +kernel
theorem dX2_change_25 : decode cX2_change 25 = .ok (.aload_n 0, 1) := by decide +kernel
theorem dX2_change_26 : decode cX2_change 26 = .ok (.getfield 21, 3) := by decide +kernel
theorem dX2_change_29 : decode cX2_change 29 = .ok (.iload 4, 2) := by decide +kernel
theorem dX2_change_31 : decode cX2_change 31 = .ok (.dup2, 1) := by decide +kernel
theorem dX2_change_32 : decode cX2_change 32 = .ok (.iaload, 1) := by decide +kernel
theorem dX2_change_33 : decode cX2_change 33 = .ok (.iload_n 3, 1) := by decide +kernel
theorem dX2_change_34 : decode cX2_change 34 = .ok (.ixor, 1) := by decide +kernel
theorem dX2_change_35 : decode cX2_change 35 = .ok (.iastore, 1) := by decide +kernel
theorem dX2_change_36 : decode cX2_change 36 = .ok (.aload_n 0, 1) := by decide +kernel
theorem dX2_change_37 : decode cX2_change 37 = .ok (.getfield 21, 3) := by decide +kernel
theorem dX2_change_40 : decode cX2_change 40 = .ok (.iload 4, 2) := by decide +kernel
theorem dX2_change_42 : decode cX2_change 42 = .ok (.iaload, 1) := by decide +kernel
theorem dX2_change_43 : decode cX2_change 43 = .ok (.ireturn, 1) := by decide +kernel
set_option maxRecDepth 20000 in
theorem ggX2_append_X2_lengthOf : GoodIn wsX2_append wsX2_lengthOf := goodIn_r _ [11, 12, 13, 14, 10, 15, 42, 43, 44, 45, 46, 47] (by decide +kernel) (by decide +kernel)
set_option maxRecDepth 20000 in
theorem gX2_append_X2_lengthOf : GoodIn wsX2_append (wsV RX2 35 RX2 yX2_lengthOf wsX2_lengthOf) := goodIn_app (goodIn_of _ (by decide +kernel)) ggX2_append_X2_lengthOf
set_option maxRecDepth 20000 in
theorem ggX2_append_X5_sizeOf : GoodIn wsX2_append wsX5_sizeOf := goodIn_r _ [18] (by decide +kernel) (by decide +kernel)
set_option maxRecDepth 20000 in
theorem gX2_append_X5_sizeOf_n57 : GoodIn wsX2_append (wsX5_sizeOf) := ggX2_append_X5_sizeOf
set_option maxRecDepth 20000 in
theorem ggX2_append_X2_put : GoodIn wsX2_append wsX2_put := goodIn_r _ [22, 1, 12, 23, 13, 14, 10, 15, 42, 43, 44, 45, 46, 47] (by decide +kernel) (by decide +kernel)
set_option maxRecDepth 20000 in
theorem gX2_append_X2_put : GoodIn wsX2_append (wsV RX2 60 RX2 yX2_put wsX2_put) := goodIn_app (goodIn_of _ (by decide +kernel)) ggX2_append_X2_put
set_option maxRecDepth 20000 in
theorem ggX2_append_X2_checksum : GoodIn wsX2_append wsX2_checksum := goodIn_r _ [27, 28, 29, 30, 31, 10, 32, 23, 13, 14, 15, 42, 43, 44, 45, 46, 47] (by decide +kernel) (by decide +kernel)
set_option maxRecDepth 20000 in
theorem gX2_append_X2_checksum : GoodIn wsX2_append (wsV RX2 77 RX2 yX2_checksum wsX2_checksum) := goodIn_app (goodIn_of _ (by decide +kernel)) ggX2_append_X2_checksum
set_option maxRecDepth 20000 in
theorem ggX2_append_X2_noteSeq : GoodIn wsX2_append wsX2_noteSeq := goodIn_r _ [36, 37, 38, 39, 40, 41, 13, 14, 10, 15, 42, 43, 44, 45, 46, 47] (by decide +kernel) (by decide +kernel)
set_option maxRecDepth 20000 in
theorem gX2_append_X2_noteSeq : GoodIn wsX2_append (wsV RX2 81 RX2 yX2_noteSeq wsX2_noteSeq) := goodIn_app (goodIn_of _ (by decide +kernel)) ggX2_append_X2_noteSeq
theorem dX2_append_0 : decode cX2_append 0 = .ok (.aload_n 0, 1) := by decide +kernel
theorem dX2_append_1 : decode cX2_append 1 = .ok (.aload_n 0, 1) := by decide +kernel
theorem dX2_append_2 : decode cX2_append 2 = .ok (.getfield 15, 3) := by decide +kernel
theorem dX2_append_5 : decode cX2_append 5 = .ok (.invokevirtual 35, 3) := by decide +kernel
theorem dX2_append_8 : decode cX2_append 8 = .ok (.istore_n 2, 1) := by decide +kernel
theorem dX2_append_9 : decode cX2_append 9 = .ok (.aload_n 1, 1) := by decide +kernel
theorem dX2_append_10 : decode cX2_append 10 = .ok (.getfield 52, 3) := by decide +kernel
theorem dX2_append_13 : decode cX2_append 13 = .ok (.invokestatic 57, 3) := by decide +kernel
theorem dX2_append_16 : decode cX2_append 16 = .ok (.iconst 5, 1) := by decide +kernel
theorem dX2_append_17 : decode cX2_append 17 = .ok (.isub, 1) := by decide +kernel
theorem dX2_append_18 : decode cX2_append 18 = .ok (.istore_n 3, 1) := by decide +kernel
theorem dX2_append_19 : decode cX2_append 19 = .ok (.aload_n 0, 1) := by decide +kernel
theorem dX2_append_20 : decode cX2_append 20 = .ok (.iload_n 3, 1) := by decide +kernel
theorem dX2_append_21 : decode cX2_append 21 = .ok (.i2l, 1) := by decide +kernel
theorem dX2_append_22 : decode cX2_append 22 = .ok (.iconst 1, 1) := by decide +kernel
theorem dX2_append_23 : decode cX2_append 23 = .ok (.invokevirtual 60, 3) := by decide +kernel
theorem dX2_append_26 : decode cX2_append 26 = .ok (.aload_n 0, 1) := by decide +kernel
theorem dX2_append_27 : decode cX2_append 27 = .ok (.aload_n 1, 1) := by decide +kernel
theorem dX2_append_28 : decode cX2_append 28 = .ok (.getfield 52, 3) := by decide +kernel
theorem dX2_append_31 : decode cX2_append 31 = .ok (.i2l, 1) := by decide +kernel
theorem dX2_append_32 : decode cX2_append 32 = .ok (.iconst 1, 1) := by decide +kernel
theorem dX2_append_33 : decode cX2_append 33 = .ok (.invokevirtual 60, 3) := by decide +kernel
theorem dX2_append_36 : decode cX2_append 36 = .ok (.aload_n 0, 1) := by decide +kernel
theorem dX2_append_37 : decode cX2_append 37 = .ok (.aload_n 1, 1) := by decide +kernel
theorem dX2_append_38 : decode cX2_append 38 = .ok (.getfield 64, 3) := by decide +kernel
theorem dX2_append_41 : decode cX2_append 41 = .ok (.i2l, 1) := by decide +kernel
theorem dX2_append_42 : decode cX2_append 42 = .ok (.iconst 2, 1) := by decide +kernel
theorem dX2_append_43 : decode cX2_append 43 = .ok (.invokevirtual 60, 3) := by decide +kernel
theorem dX2_append_46 : decode cX2_append 46 = .ok (.aload_n 1, 1) := by decide +kernel
theorem dX2_append_47 : decode cX2_append 47 = .ok (.getfield 52, 3) := by decide +kernel
theorem dX2_append_50 : decode cX2_append 50 = .ok (.iconst 3, 1) := by decide +kernel
theorem dX2_append_51 : decode cX2_append 51 = .ok (.if_icmp .eq 23, 3) := by decide +kernel
theorem dX2_append_54 : decode cX2_append 54 = .ok (.aload_n 0, 1) := by decide +kernel
theorem dX2_append_55 : decode cX2_append 55 = .ok (.aload_n 1, 1) := by decide +kernel
theorem dX2_append_56 : decode cX2_append 56 = .ok (.getfield 67, 3) := by decide +kernel
theorem dX2_append_59 : decode cX2_append 59 = .ok (.i2l, 1) := by decide +kernel
theorem dX2_append_60 : decode cX2_append 60 = .ok (.iconst 1, 1) := by decide +kernel
theorem dX2_append_61 : decode cX2_append 61 = .ok (.invokevirtual 60, 3) := by decide +kernel
theorem dX2_append_64 : decode cX2_append 64 = .ok (.aload_n 0, 1) := by decide +kernel
theorem dX2_append_65 : decode cX2_append 65 = .ok (.aload_n 1, 1) := by decide +kernel
theorem dX2_append_66 : decode cX2_append 66 = .ok (.getfield 70, 3) := by decide +kernel
theorem dX2_append_69 : decode cX2_append 69 = .ok (.i2l, 1) := by decide +kernel
theorem dX2_append_70 : decode cX2_append 70 = .ok (.iconst 2, 1) := by decide +kernel
theorem dX2_append_71 : decode cX2_append 71 = .ok (.invokevirtual 60, 3) := by decide +kernel
theorem dX2_append_74 : decode cX2_append 74 = .ok (.aload_n 1, 1) := by decide +kernel
theorem dX2_append_75 : decode cX2_append 75 = .ok (.getfield 52, 3) := by decide +kernel
theorem dX2_append_78 : decode cX2_append 78 = .ok (.iconst 1, 1) := by decide +kernel
theorem dX2_append_79 : decode cX2_append 79 = .ok (.if_icmp .ne 13, 3) := by decide +kernel
theorem dX2_append_82 : decode cX2_append 82 = .ok (.aload_n 0, 1) := by decide +kernel
theorem dX2_append_83 : decode cX2_append 83 = .ok (.aload_n 1, 1) := by decide +kernel
theorem dX2_append_84 : decode cX2_append 84 = .ok (.getfield 73, 3) := by decide +kernel
theorem dX2_append_87 : decode cX2_append 87 = .ok (.bipush 8, 2) := by decide +kernel
theorem dX2_append_89 : decode cX2_append 89 = .ok (.invokevirtual 60, 3) := by decide +kernel
theorem dX2_append_92 : decode cX2_append 92 = .ok (.aload_n 0, 1) := by decide +kernel
theorem dX2_append_93 : decode cX2_append 93 = .ok (.aload_n 0, 1) := by decide +kernel
theorem dX2_append_94 : decode cX2_append 94 = .ok (.aload_n 0, 1) := by decide +kernel
