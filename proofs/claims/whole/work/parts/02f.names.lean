theorem dX6_show_64 : decode cX6_show 64 = .ok (.goto 4, 3) := by decide +kernel
theorem dX6_show_67 : decode cX6_show 67 = .ok (.lconst 0, 1) := by decide +kernel
theorem dX6_show_68 : decode cX6_show 68 = .ok (.lastore, 1) := by decide +kernel
theorem dX6_show_69 : decode cX6_show 69 = .ok (.iload_n 2, 1) := by decide +kernel
theorem dX6_show_70 : decode cX6_show 70 = .ok (.ifCond .eq 13, 3) := by decide +kernel
theorem dX6_show_73 : decode cX6_show 73 = .ok (.aload_n 0, 1) := by decide +kernel
theorem dX6_show_74 : decode cX6_show 74 = .ok (.dup, 1) := by decide +kernel
theorem dX6_show_75 : decode cX6_show 75 = .ok (.getfield 158, 3) := by decide +kernel
theorem dX6_show_78 : decode cX6_show 78 = .ok (.iconst 1, 1) := by decide +kernel
theorem dX6_show_79 : decode cX6_show 79 = .ok (.iadd, 1) := by decide +kernel
theorem dX6_show_80 : decode cX6_show 80 = .ok (.putfield 158, 3) := by decide +kernel
theorem dX6_show_83 : decode cX6_show 83 = .ok (.iinc 1 1, 3) := by decide +kernel
theorem dX6_show_86 : decode cX6_show 86 = .ok (.goto (-79), 3) := by decide +kernel
theorem dX6_show_89 : decode cX6_show 89 = .ok (.return_, 1) := by decide +kernel
theorem dX6_forget_0 : decode cX6_forget 0 = .ok (.aload_n 0, 1) := by decide +kernel
theorem dX6_forget_1 : decode cX6_forget 1 = .ok (.getfield 7, 3) := by decide +kernel
theorem dX6_forget_4 : decode cX6_forget 4 = .ok (.iload_n 1, 1) := by decide +kernel
theorem dX6_forget_5 : decode cX6_forget 5 = .ok (.iconst 0, 1) := by decide +kernel
theorem dX6_forget_6 : decode cX6_forget 6 = .ok (.iastore, 1) := by decide +kernel
theorem dX6_forget_7 : decode cX6_forget 7 = .ok (.aload_n 0, 1) := by decide +kernel
theorem dX6_forget_8 : decode cX6_forget 8 = .ok (.getfield 13, 3) := by decide +kernel
theorem dX6_forget_11 : decode cX6_forget 11 = .ok (.iload_n 1, 1) := by decide +kernel
theorem dX6_forget_12 : decode cX6_forget 12 = .ok (.iconst (-1), 1) := by decide +kernel
theorem dX6_forget_13 : decode cX6_forget 13 = .ok (.iastore, 1) := by decide +kernel
theorem dX6_forget_14 : decode cX6_forget 14 = .ok (.aload_n 0, 1) := by decide +kernel
theorem dX6_forget_15 : decode cX6_forget 15 = .ok (.getfield 16, 3) := by decide +kernel
theorem dX6_forget_18 : decode cX6_forget 18 = .ok (.iload_n 1, 1) := by decide +kernel
theorem dX6_forget_19 : decode cX6_forget 19 = .ok (.iconst 0, 1) := by decide +kernel
theorem dX6_forget_20 : decode cX6_forget 20 = .ok (.iastore, 1) := by decide +kernel
theorem dX6_forget_21 : decode cX6_forget 21 = .ok (.return_, 1) := by decide +kernel
set_option maxRecDepth 20000 in
theorem ggX6_refresh_X6_show : GoodIn wsX6_refresh wsX6_show := goodIn_r _ [10, 5, 2, 11, 3, 12, 13, 19, 20, 21, 22, 23, 24, 25, 26, 27, 28, 29, 30, 31, 32, 33, 34, 35, 36, 37, 38, 39, 40, 41, 42, 43, 44, 45, 46, 47, 48, 49, 50, 51, 52, 53, 54] (by decide +kernel) (by decide +kernel)
set_option maxRecDepth 20000 in
theorem gX6_refresh_X6_show : GoodIn wsX6_refresh (wsV RX6 161 RX6 yX6_show wsX6_show) := goodIn_app (goodIn_of _ (by decide +kernel)) ggX6_refresh_X6_show
set_option maxRecDepth 20000 in
theorem ggX6_refresh_X6_forget : GoodIn wsX6_refresh wsX6_forget := goodIn_r _ [17, 2, 3, 18, 19, 20, 21, 22, 23, 24, 25, 26, 27, 28, 29, 30, 31, 32, 33, 34, 35, 36, 37, 38, 39, 40, 41, 42, 43, 44, 45, 46, 47, 48, 49, 50, 51, 52, 53, 54] (by decide +kernel) (by decide +kernel)
set_option maxRecDepth 20000 in
theorem gX6_refresh_X6_forget : GoodIn wsX6_refresh (wsV RX6 164 RX6 yX6_forget wsX6_forget) := goodIn_app (goodIn_of _ (by decide +kernel)) ggX6_refresh_X6_forget
theorem dX6_refresh_0 : decode cX6_refresh 0 = .ok (.aload_n 0, 1) := by decide +kernel
theorem dX6_refresh_1 : decode cX6_refresh 1 = .ok (.getfield 132, 3) := by decide +kernel
theorem dX6_refresh_4 : decode cX6_refresh 4 = .ok (.ifCond .eq 6, 3) := by decide +kernel
theorem dX6_refresh_7 : decode cX6_refresh 7 = .ok (.bipush (-4), 2) := by decide +kernel
theorem dX6_refresh_9 : decode cX6_refresh 9 = .ok (.ireturn, 1) := by decide +kernel
theorem dX6_refresh_10 : decode cX6_refresh 10 = .ok (.aload_n 0, 1) := by decide +kernel
theorem dX6_refresh_11 : decode cX6_refresh 11 = .ok (.invokevirtual 161, 3) := by decide +kernel
theorem dX6_refresh_14 : decode cX6_refresh 14 = .ok (.iconst 0, 1) := by decide +kernel
theorem dX6_refresh_15 : decode cX6_refresh 15 = .ok (.istore_n 1, 1) := by decide +kernel
theorem dX6_refresh_16 : decode cX6_refresh 16 = .ok (.iload_n 1, 1) := by decide +kernel
theorem dX6_refresh_17 : decode cX6_refresh 17 = .ok (.bipush 16, 2) := by decide +kernel
theorem dX6_refresh_19 : decode cX6_refresh 19 = .ok (.if_icmp .ge 37, 3) := by decide +kernel
theorem dX6_refresh_22 : decode cX6_refresh 22 = .ok (.aload_n 0, 1) := by decide +kernel
theorem dX6_refresh_23 : decode cX6_refresh 23 = .ok (.getfield 7, 3) := by decide +kernel
theorem dX6_refresh_26 : decode cX6_refresh 26 = .ok (.iload_n 1, 1) := by decide +kernel
theorem dX6_refresh_27 : decode cX6_refresh 27 = .ok (.iaload, 1) := by decide +kernel
theorem dX6_refresh_28 : decode cX6_refresh 28 = .ok (.iconst 2, 1) := by decide +kernel
theorem dX6_refresh_29 : decode cX6_refresh 29 = .ok (.if_icmp .ne 21, 3) := by decide +kernel
theorem dX6_refresh_32 : decode cX6_refresh 32 = .ok (.aload_n 0, 1) := by decide +kernel
theorem dX6_refresh_33 : decode cX6_refresh 33 = .ok (.getfield 13, 3) := by decide +kernel
theorem dX6_refresh_36 : decode cX6_refresh 36 = .ok (.iload_n 1, 1) := by decide +kernel
theorem dX6_refresh_37 : decode cX6_refresh 37 = .ok (.iaload, 1) := by decide +kernel
theorem dX6_refresh_38 : decode cX6_refresh 38 = .ok (.aload_n 0, 1) := by decide +kernel
theorem dX6_refresh_39 : decode cX6_refresh 39 = .ok (.getfield 45, 3) := by decide +kernel
theorem dX6_refresh_42 : decode cX6_refresh 42 = .ok (.if_icmp .gt 8, 3) := by decide +kernel
theorem dX6_refresh_45 : decode cX6_refresh 45 = .ok (.aload_n 0, 1) := by decide +kernel
theorem dX6_refresh_46 : decode cX6_refresh 46 = .ok (.iload_n 1, 1) := by decide +kernel
theorem dX6_refresh_47 : decode cX6_refresh 47 = .ok (.invokevirtual 164, 3) := by decide +kernel
theorem dX6_refresh_50 : decode cX6_refresh 50 = .ok (.iinc 1 1, 3) := by decide +kernel
theorem dX6_refresh_53 : decode cX6_refresh 53 = .ok (.goto (-37), 3) := by decide +kernel
theorem dX6_refresh_56 : decode cX6_refresh 56 = .ok (.aload_n 0, 1) := by decide +kernel
theorem dX6_refresh_57 : decode cX6_refresh 57 = .ok (.getfield 158, 3) := by decide +kernel
theorem dX6_refresh_60 : decode cX6_refresh 60 = .ok (.ireturn, 1) := by decide +kernel
theorem dX6_settle_0 : decode cX6_settle 0 = .ok (.aload_n 0, 1) := by decide +kernel
theorem dX6_settle_1 : decode cX6_settle 1 = .ok (.getfield 64, 3) := by decide +kernel
theorem dX6_settle_4 : decode cX6_settle 4 = .ok (.aload_n 0, 1) := by decide +kernel
theorem dX6_settle_5 : decode cX6_settle 5 = .ok (.getfield 70, 3) := by decide +kernel
theorem dX6_settle_8 : decode cX6_settle 8 = .ok (.iconst 1, 1) := by decide +kernel
theorem dX6_settle_9 : decode cX6_settle 9 = .ok (.isub, 1) := by decide +kernel
theorem dX6_settle_10 : decode cX6_settle 10 = .ok (.iaload, 1) := by decide +kernel
theorem dX6_settle_11 : decode cX6_settle 11 = .ok (.aload_n 0, 1) := by decide +kernel
theorem dX6_settle_12 : decode cX6_settle 12 = .ok (.getfield 168, 3) := by decide +kernel
theorem dX6_settle_15 : decode cX6_settle 15 = .ok (.isub, 1) := by decide +kernel
theorem dX6_settle_16 : decode cX6_settle 16 = .ok (.istore_n 1, 1) := by decide +kernel
theorem dX6_settle_17 : decode cX6_settle 17 = .ok (.aload_n 0, 1) := by decide +kernel
theorem dX6_settle_18 : decode cX6_settle 18 = .ok (.aload_n 0, 1) := by decide +kernel
theorem dX6_settle_19 : decode cX6_settle 19 = .ok (.getfield 64, 3) := by decide +kernel
theorem dX6_settle_22 : decode cX6_settle 22 = .ok (.aload_n 0, 1) := by decide +kernel
theorem dX6_settle_23 : decode cX6_settle 23 = .ok (.getfield 70, 3) := by decide +kernel
theorem dX6_settle_26 : decode cX6_settle 26 = .ok (.iconst 1, 1) := by decide +kernel
theorem dX6_settle_27 : decode cX6_settle 27 = .ok (.isub, 1) := by decide +kernel
theorem dX6_settle_28 : decode cX6_settle 28 = .ok (.iaload, 1) := by decide +kernel
theorem dX6_settle_29 : decode cX6_settle 29 = .ok (.putfield 168, 3) := by decide +kernel
theorem dX6_settle_32 : decode cX6_settle 32 = .ok (.aload_n 0, 1) := by decide +kernel
theorem dX6_settle_33 : decode cX6_settle 33 = .ok (.aload_n 0, 1) := by decide +kernel
theorem dX6_settle_34 : decode cX6_settle 34 = .ok (.getfield 45, 3) := by decide +kernel
theorem dX6_settle_37 : decode cX6_settle 37 = .ok (.putfield 52, 3) := by decide +kernel
theorem dX6_settle_40 : decode cX6_settle 40 = .ok (.iload_n 1, 1) := by decide +kernel
theorem dX6_settle_41 : decode cX6_settle 41 = .ok (.ireturn, 1) := by decide +kernel
theorem dX6_begin_0 : decode cX6_begin 0 = .ok (.aload_n 0, 1) := by decide +kernel
theorem dX6_begin_1 : decode cX6_begin 1 = .ok (.getfield 64, 3) := by decide +kernel
theorem dX6_begin_4 : decode cX6_begin 4 = .ok (.aload_n 0, 1) := by decide +kernel
theorem dX6_begin_5 : decode cX6_begin 5 = .ok (.getfield 70, 3) := by decide +kernel
theorem dX6_begin_8 : decode cX6_begin 8 = .ok (.iconst 0, 1) := by decide +kernel
theorem dX6_begin_9 : decode cX6_begin 9 = .ok (.iastore, 1) := by decide +kernel
theorem dX6_begin_10 : decode cX6_begin 10 = .ok (.aload_n 0, 1) := by decide +kernel
theorem dX6_begin_11 : decode cX6_begin 11 = .ok (.getfield 67, 3) := by decide +kernel
theorem dX6_begin_14 : decode cX6_begin 14 = .ok (.aload_n 0, 1) := by decide +kernel
theorem dX6_begin_15 : decode cX6_begin 15 = .ok (.getfield 70, 3) := by decide +kernel
theorem dX6_begin_18 : decode cX6_begin 18 = .ok (.iconst (-1), 1) := by decide +kernel
theorem dX6_begin_19 : decode cX6_begin 19 = .ok (.iastore, 1) := by decide +kernel
theorem dX6_begin_20 : decode cX6_begin 20 = .ok (.aload_n 0, 1) := by decide +kernel
theorem dX6_begin_21 : decode cX6_begin 21 = .ok (.dup, 1) := by decide +kernel
theorem dX6_begin_22 : decode cX6_begin 22 = .ok (.getfield 70, 3) := by decide +kernel
theorem dX6_begin_25 : decode cX6_begin 25 = .ok (.iconst 1, 1) := by decide +kernel
theorem dX6_begin_26 : decode cX6_begin 26 = .ok (.iadd, 1) := by decide +kernel
theorem dX6_begin_27 : decode cX6_begin 27 = .ok (.putfield 70, 3) := by decide +kernel
theorem dX6_begin_30 : decode cX6_begin 30 = .ok (.aload_n 0, 1) := by decide +kernel
theorem dX6_begin_31 : decode cX6_begin 31 = .ok (.iconst 0, 1) := by decide +kernel
theorem dX6_begin_32 : decode cX6_begin 32 = .ok (.putfield 168, 3) := by decide +kernel
theorem dX6_begin_35 : decode cX6_begin 35 = .ok (.return_, 1) := by decide +kernel
set_option maxRecDepth 20000 in
theorem ggX6_sync_X6_settle : GoodIn wsX6_sync wsX6_settle := goodIn_r _ [8, 9, 2, 10, 11, 12, 18, 19, 20, 21, 22, 23, 24, 25, 26, 27, 28, 29, 30, 31, 32, 33, 34, 35, 36, 37, 38, 39, 40, 41, 42, 43, 44, 45, 46, 47, 48, 49, 50, 51, 52, 53] (by decide +kernel) (by decide +kernel)
set_option maxRecDepth 20000 in
theorem gX6_sync_X6_settle : GoodIn wsX6_sync (wsV RX6 171 RX6 yX6_settle wsX6_settle) := goodIn_app (goodIn_of _ (by decide +kernel)) ggX6_sync_X6_settle
set_option maxRecDepth 20000 in
theorem ggX6_sync_X6_begin : GoodIn wsX6_sync wsX6_begin := goodIn_r _ [16, 9, 2, 17, 10, 18, 19, 20, 21, 22, 23, 24, 25, 26, 27, 28, 29, 30, 31, 32, 33, 34, 35, 36, 37, 38, 39, 40, 41, 42, 43, 44, 45, 46, 47, 48, 49, 50, 51, 52, 53] (by decide +kernel) (by decide +kernel)
set_option maxRecDepth 20000 in
theorem gX6_sync_X6_begin : GoodIn wsX6_sync (wsV RX6 174 RX6 yX6_begin wsX6_begin) := goodIn_app (goodIn_of _ (by decide +kernel)) ggX6_sync_X6_begin
theorem dX6_sync_0 : decode cX6_sync 0 = .ok (.aload_n 0, 1) := by decide +kernel
theorem dX6_sync_1 : decode cX6_sync 1 = .ok (.getfield 132, 3) := by decide +kernel
theorem dX6_sync_4 : decode cX6_sync 4 = .ok (.ifCond .eq 6, 3) := by decide +kernel
theorem dX6_sync_7 : decode cX6_sync 7 = .ok (.bipush (-4), 2) := by decide +kernel
theorem dX6_sync_9 : decode cX6_sync 9 = .ok (.ireturn, 1) := by decide +kernel
theorem dX6_sync_10 : decode cX6_sync 10 = .ok (.iload_n 1, 1) := by decide +kernel
theorem dX6_sync_11 : decode cX6_sync 11 = .ok (.ifCond .eq 14, 3) := by decide +kernel
theorem dX6_sync_14 : decode cX6_sync 14 = .ok (.aload_n 0, 1) := by decide +kernel
theorem dX6_sync_15 : decode cX6_sync 15 = .ok (.getfield 70, 3) := by decide +kernel
theorem dX6_sync_18 : decode cX6_sync 18 = .ok (.iconst 4, 1) := by decide +kernel
theorem dX6_sync_19 : decode cX6_sync 19 = .ok (.if_icmp .ne 6, 3) := by decide +kernel
theorem dX6_sync_22 : decode cX6_sync 22 = .ok (.bipush (-3), 2) := by decide +kernel
theorem dX6_sync_24 : decode cX6_sync 24 = .ok (.ireturn, 1) := by decide +kernel
theorem dX6_sync_25 : decode cX6_sync 25 = .ok (.aload_n 0, 1) := by decide +kernel
theorem dX6_sync_26 : decode cX6_sync 26 = .ok (.invokevirtual 171, 3) := by decide +kernel
theorem dX6_sync_29 : decode cX6_sync 29 = .ok (.istore_n 2, 1) := by decide +kernel
theorem dX6_sync_30 : decode cX6_sync 30 = .ok (.iload_n 1, 1) := by decide +kernel
theorem dX6_sync_31 : decode cX6_sync 31 = .ok (.ifCond .ne 5, 3) := by decide +kernel
theorem dX6_sync_34 : decode cX6_sync 34 = .ok (.iload_n 2, 1) := by decide +kernel
theorem dX6_sync_35 : decode cX6_sync 35 = .ok (.ireturn, 1) := by decide +kernel
theorem dX6_sync_36 : decode cX6_sync 36 = .ok (.aload_n 0, 1) := by decide +kernel
theorem dX6_sync_37 : decode cX6_sync 37 = .ok (.invokevirtual 174, 3) := by decide +kernel
theorem dX6_sync_40 : decode cX6_sync 40 = .ok (.aload_n 0, 1) := by decide +kernel
theorem dX6_sync_41 : decode cX6_sync 41 = .ok (.getfield 177, 3) := by decide +kernel
theorem dX6_sync_44 : decode cX6_sync 44 = .ok (.aload_n 0, 1) := by decide +kernel
theorem dX6_sync_45 : decode cX6_sync 45 = .ok (.getfield 70, 3) := by decide +kernel
theorem dX6_sync_48 : decode cX6_sync 48 = .ok (.iadd, 1) := by decide +kernel
theorem dX6_sync_49 : decode cX6_sync 49 = .ok (.iconst 1, 1) := by decide +kernel
theorem dX6_sync_50 : decode cX6_sync 50 = .ok (.isub, 1) := by decide +kernel
theorem dX6_sync_51 : decode cX6_sync 51 = .ok (.ireturn, 1) := by decide +kernel
set_option maxRecDepth 20000 in
theorem ggX6_flush_X6_settle : GoodIn wsX6_flush wsX6_settle := goodIn_r _ [23, 17, 2, 24, 4, 25, 30, 31, 32, 33, 34, 35, 36, 37, 38, 39, 40, 41, 42, 43, 44, 45, 46, 47, 48, 49, 50, 51, 52, 53, 54, 55, 56, 57, 58, 59, 60, 61, 62, 63, 64, 65] (by decide +kernel) (by decide +kernel)
set_option maxRecDepth 20000 in
theorem gX6_flush_X6_settle : GoodIn wsX6_flush (wsV RX6 171 RX6 yX6_settle wsX6_settle) := goodIn_app (goodIn_of _ (by decide +kernel)) ggX6_flush_X6_settle
set_option maxRecDepth 20000 in
theorem ggX6_flush_X6_begin : GoodIn wsX6_flush wsX6_begin := goodIn_r _ [29, 17, 2, 3, 24, 30, 31, 32, 33, 34, 35, 36, 37, 38, 39, 40, 41, 42, 43, 44, 45, 46, 47, 48, 49, 50, 51, 52, 53, 54, 55, 56, 57, 58, 59, 60, 61, 62, 63, 64, 65] (by decide +kernel) (by decide +kernel)
set_option maxRecDepth 20000 in
theorem gX6_flush_X6_begin : GoodIn wsX6_flush (wsV RX6 174 RX6 yX6_begin wsX6_begin) := goodIn_app (goodIn_of _ (by decide +kernel)) ggX6_flush_X6_begin
theorem dX6_flush_0 : decode cX6_flush 0 = .ok (.aload_n 0, 1) := by decide +kernel
theorem dX6_flush_1 : decode cX6_flush 1 = .ok (.getfield 132, 3) := by decide +kernel
theorem dX6_flush_4 : decode cX6_flush 4 = .ok (.ifCond .eq 6, 3) := by decide +kernel
theorem dX6_flush_7 : decode cX6_flush 7 = .ok (.bipush (-4), 2) := by decide +kernel
theorem dX6_flush_9 : decode cX6_flush 9 = .ok (.ireturn, 1) := by decide +kernel
theorem dX6_flush_10 : decode cX6_flush 10 = .ok (.iconst 0, 1) := by decide +kernel
theorem dX6_flush_11 : decode cX6_flush 11 = .ok (.istore_n 1, 1) := by decide +kernel
theorem dX6_flush_12 : decode cX6_flush 12 = .ok (.iload_n 1, 1) := by decide +kernel
theorem dX6_flush_13 : decode cX6_flush 13 = .ok (.aload_n 0, 1) := by decide +kernel
theorem dX6_flush_14 : decode cX6_flush 14 = .ok (.getfield 70, 3) := by decide +kernel
theorem dX6_flush_17 : decode cX6_flush 17 = .ok (.if_icmp .ge 22, 3) := by decide +kernel
theorem dX6_flush_20 : decode cX6_flush 20 = .ok (.aload_n 0, 1) := by decide +kernel
theorem dX6_flush_21 : decode cX6_flush 21 = .ok (.getfield 67, 3) := by decide +kernel
theorem dX6_flush_24 : decode cX6_flush 24 = .ok (.iload_n 1, 1) := by decide +kernel
theorem dX6_flush_25 : decode cX6_flush 25 = .ok (.iaload, 1) := by decide +kernel
theorem dX6_flush_26 : decode cX6_flush 26 = .ok (.aload_n 0, 1) := by decide +kernel
theorem dX6_flush_27 : decode cX6_flush 27 = .ok (.getfield 45, 3) := by decide +kernel
theorem dX6_flush_30 : decode cX6_flush 30 = .ok (.if_icmp .gt 9, 3) := by decide +kernel
theorem dX6_flush_33 : decode cX6_flush 33 = .ok (.iinc 1 1, 3) := by decide +kernel
theorem dX6_flush_36 : decode cX6_flush 36 = .ok (.goto (-24), 3) := by decide +kernel
theorem dX6_flush_39 : decode cX6_flush 39 = .ok (.aload_n 0, 1) := by decide +kernel
theorem dX6_flush_40 : decode cX6_flush 40 = .ok (.getfield 70, 3) := by decide +kernel
theorem dX6_flush_43 : decode cX6_flush 43 = .ok (.iload_n 1, 1) := by decide +kernel
theorem dX6_flush_44 : decode cX6_flush 44 = .ok (.isub, 1) := by decide +kernel
theorem dX6_flush_45 : decode cX6_flush 45 = .ok (.iconst 4, 1) := by decide +kernel
theorem dX6_flush_46 : decode cX6_flush 46 = .ok (.if_icmp .ne 6, 3) := by decide +kernel
theorem dX6_flush_49 : decode cX6_flush 49 = .ok (.bipush (-3), 2) := by decide +kernel
theorem dX6_flush_51 : decode cX6_flush 51 = .ok (.ireturn, 1) := by decide +kernel
theorem dX6_flush_52 : decode cX6_flush 52 = .ok (.aload_n 0, 1) := by decide +kernel
theorem dX6_flush_53 : decode cX6_flush 53 = .ok (.invokevirtual 171, 3) := by decide +kernel
theorem dX6_flush_56 : decode cX6_flush 56 = .ok (.pop, 1) := by decide +kernel
theorem dX6_flush_57 : decode cX6_flush 57 = .ok (.iconst 0, 1) := by decide +kernel
theorem dX6_flush_58 : decode cX6_flush 58 = .ok (.istore_n 2, 1) := by decide +kernel
theorem dX6_flush_59 : decode cX6_flush 59 = .ok (.iload_n 2, 1) := by decide +kernel
theorem dX6_flush_60 : decode cX6_flush 60 = .ok (.bipush 16, 2) := by decide +kernel
theorem dX6_flush_62 : decode cX6_flush 62 = .ok (.if_icmp .ge 57, 3) := by decide +kernel
theorem dX6_flush_65 : decode cX6_flush 65 = .ok (.aload_n 0, 1) := by decide +kernel
theorem dX6_flush_66 : decode cX6_flush 66 = .ok (.getfield 19, 3) := by decide +kernel
theorem dX6_flush_69 : decode cX6_flush 69 = .ok (.iload_n 2, 1) := by decide +kernel
theorem dX6_flush_70 : decode cX6_flush 70 = .ok (.aload_n 0, 1) := by decide +kernel
theorem dX6_flush_71 : decode cX6_flush 71 = .ok (.getfield 7, 3) := by decide +kernel
theorem dX6_flush_74 : decode cX6_flush 74 = .ok (.iload_n 2, 1) := by decide +kernel
theorem dX6_flush_75 : decode cX6_flush 75 = .ok (.iaload, 1) := by decide +kernel
theorem dX6_flush_76 : decode cX6_flush 76 = .ok (.iastore, 1) := by decide +kernel
theorem dX6_flush_77 : decode cX6_flush 77 = .ok (.aload_n 0, 1) := by decide +kernel
theorem dX6_flush_78 : decode cX6_flush 78 = .ok (.getfield 22, 3) := by decide +kernel
theorem dX6_flush_81 : decode cX6_flush 81 = .ok (.iload_n 2, 1) := by decide +kernel
theorem dX6_flush_82 : decode cX6_flush 82 = .ok (.aload_n 0, 1) := by decide +kernel
theorem dX6_flush_83 : decode cX6_flush 83 = .ok (.getfield 13, 3) := by decide +kernel
theorem dX6_flush_86 : decode cX6_flush 86 = .ok (.iload_n 2, 1) := by decide +kernel
theorem dX6_flush_87 : decode cX6_flush 87 = .ok (.iaload, 1) := by decide +kernel
theorem dX6_flush_88 : decode cX6_flush 88 = .ok (.iastore, 1) := by decide +kernel
theorem dX6_flush_89 : decode cX6_flush 89 = .ok (.aload_n 0, 1) := by decide +kernel
theorem dX6_flush_90 : decode cX6_flush 90 = .ok (.getfield 25, 3) := by decide +kernel
theorem dX6_flush_93 : decode cX6_flush 93 = .ok (.iload_n 2, 1) := by decide +kernel
theorem dX6_flush_94 : decode cX6_flush 94 = .ok (.aload_n 0, 1) := by decide +kernel
theorem dX6_flush_95 : decode cX6_flush 95 = .ok (.getfield 16, 3) := by decide +kernel
theorem dX6_flush_98 : decode cX6_flush 98 = .ok (.iload_n 2, 1) := by decide +kernel
theorem dX6_flush_99 : decode cX6_flush 99 = .ok (.iaload, 1) := by decide +kernel
theorem dX6_flush_100 : decode cX6_flush 100 = .ok (.iastore, 1) := by decide +kernel
theorem dX6_flush_101 : decode cX6_flush 101 = .ok (.aload_n 0, 1) := by decide +kernel
theorem dX6_flush_102 : decode cX6_flush 102 = .ok (.getfield 35, 3) := by decide +kernel
theorem dX6_flush_105 : decode cX6_flush 105 = .ok (.iload_n 2, 1) := by decide +kernel
theorem dX6_flush_106 : decode cX6_flush 106 = .ok (.aload_n 0, 1) := by decide +kernel
theorem dX6_flush_107 : decode cX6_flush 107 = .ok (.getfield 31, 3) := by decide +kernel
theorem dX6_flush_110 : decode cX6_flush 110 = .ok (.iload_n 2, 1) := by decide +kernel
theorem dX6_flush_111 : decode cX6_flush 111 = .ok (.laload, 1) := by decide +kernel
theorem dX6_flush_112 : decode cX6_flush 112 = .ok (.lastore, 1) := by decide +kernel
theorem dX6_flush_113 : decode cX6_flush 113 = .ok (.iinc 2 1, 3) := by decide +kernel
theorem dX6_flush_116 : decode cX6_flush 116 = .ok (.goto (-57), 3) := by decide +kernel
theorem dX6_flush_119 : decode cX6_flush 119 = .ok (.aload_n 0, 1) := by decide +kernel
theorem dX6_flush_120 : decode cX6_flush 120 = .ok (.aload_n 0, 1) := by decide +kernel
theorem dX6_flush_121 : decode cX6_flush 121 = .ok (.getfield 45, 3) := by decide +kernel
theorem dX6_flush_124 : decode cX6_flush 124 = .ok (.putfield 55, 3) := by decide +kernel
theorem dX6_flush_127 : decode cX6_flush 127 = .ok (.aload_n 0, 1) := by decide +kernel
theorem dX6_flush_128 : decode cX6_flush 128 = .ok (.aload_n 0, 1) := by decide +kernel
theorem dX6_flush_129 : decode cX6_flush 129 = .ok (.getfield 49, 3) := by decide +kernel
theorem dX6_flush_132 : decode cX6_flush 132 = .ok (.putfield 58, 3) := by decide +kernel
theorem dX6_flush_135 : decode cX6_flush 135 = .ok (.iconst 0, 1) := by decide +kernel
theorem dX6_flush_136 : decode cX6_flush 136 = .ok (.istore_n 2, 1) := by decide +kernel
theorem dX6_flush_137 : decode cX6_flush 137 = .ok (.iload_n 2, 1) := by decide +kernel
theorem dX6_flush_138 : decode cX6_flush 138 = .ok (.sipush 240, 3) := by decide +kernel
theorem dX6_flush_141 : decode cX6_flush 141 = .ok (.iconst 4, 1) := by decide +kernel
theorem dX6_flush_142 : decode cX6_flush 142 = .ok (.iload_n 1, 1) := by decide +kernel
theorem dX6_flush_143 : decode cX6_flush 143 = .ok (.isub, 1) := by decide +kernel
theorem dX6_flush_144 : decode cX6_flush 144 = .ok (.imul, 1) := by decide +kernel
theorem dX6_flush_145 : decode cX6_flush 145 = .ok (.if_icmp .ge 27, 3) := by decide +kernel
theorem dX6_flush_148 : decode cX6_flush 148 = .ok (.aload_n 0, 1) := by decide +kernel
theorem dX6_flush_149 : decode cX6_flush 149 = .ok (.getfield 61, 3) := by decide +kernel
theorem dX6_flush_152 : decode cX6_flush 152 = .ok (.iload_n 2, 1) := by decide +kernel
theorem dX6_flush_153 : decode cX6_flush 153 = .ok (.aload_n 0, 1) := by decide +kernel
theorem dX6_flush_154 : decode cX6_flush 154 = .ok (.getfield 61, 3) := by decide +kernel
theorem dX6_flush_157 : decode cX6_flush 157 = .ok (.iload_n 2, 1) := by decide +kernel
theorem dX6_flush_158 : decode cX6_flush 158 = .ok (.sipush 240, 3) := by decide +kernel
theorem dX6_flush_161 : decode cX6_flush 161 = .ok (.iload_n 1, 1) := by decide +kernel
theorem dX6_flush_162 : decode cX6_flush 162 = .ok (.imul, 1) := by decide +kernel
theorem dX6_flush_163 : decode cX6_flush 163 = .ok (.iadd, 1) := by decide +kernel
theorem dX6_flush_164 : decode cX6_flush 164 = .ok (.iaload, 1) := by decide +kernel
theorem dX6_flush_165 : decode cX6_flush 165 = .ok (.iastore, 1) := by decide +kernel
theorem dX6_flush_166 : decode cX6_flush 166 = .ok (.iinc 2 1, 3) := by decide +kernel
theorem dX6_flush_169 : decode cX6_flush 169 = .ok (.goto (-32), 3) := by decide +kernel
theorem dX6_flush_172 : decode cX6_flush 172 = .ok (.iload_n 1, 1) := by decide +kernel
theorem dX6_flush_173 : decode cX6_flush 173 = .ok (.istore_n 2, 1) := by decide +kernel
theorem dX6_flush_174 : decode cX6_flush 174 = .ok (.iload_n 2, 1) := by decide +kernel
theorem dX6_flush_175 : decode cX6_flush 175 = .ok (.aload_n 0, 1) := by decide +kernel
theorem dX6_flush_176 : decode cX6_flush 176 = .ok (.getfield 70, 3) := by decide +kernel
theorem dX6_flush_179 : decode cX6_flush 179 = .ok (.if_icmp .ge 37, 3) := by decide +kernel
theorem dX6_flush_182 : decode cX6_flush 182 = .ok (.aload_n 0, 1) := by decide +kernel
theorem dX6_flush_183 : decode cX6_flush 183 = .ok (.getfield 64, 3) := by decide +kernel
theorem dX6_flush_186 : decode cX6_flush 186 = .ok (.iload_n 2, 1) := by decide +kernel
theorem dX6_flush_187 : decode cX6_flush 187 = .ok (.iload_n 1, 1) := by decide +kernel
theorem dX6_flush_188 : decode cX6_flush 188 = .ok (.isub, 1) := by decide +kernel
theorem dX6_flush_189 : decode cX6_flush 189 = .ok (.aload_n 0, 1) := by decide +kernel
theorem dX6_flush_190 : decode cX6_flush 190 = .ok (.getfield 64, 3) := by decide +kernel
theorem dX6_flush_193 : decode cX6_flush 193 = .ok (.iload_n 2, 1) := by decide +kernel
theorem dX6_flush_194 : decode cX6_flush 194 = .ok (.iaload, 1) := by decide +kernel
theorem dX6_flush_195 : decode cX6_flush 195 = .ok (.iastore, 1) := by decide +kernel
theorem dX6_flush_196 : decode cX6_flush 196 = .ok (.aload_n 0, 1) := by decide +kernel
theorem dX6_flush_197 : decode cX6_flush 197 = .ok (.getfield 67, 3) := by decide +kernel
theorem dX6_flush_200 : decode cX6_flush 200 = .ok (.iload_n 2, 1) := by decide +kernel
theorem dX6_flush_201 : decode cX6_flush 201 = .ok (.iload_n 1, 1) := by decide +kernel
theorem dX6_flush_202 : decode cX6_flush 202 = .ok (.isub, 1) := by decide +kernel
theorem dX6_flush_203 : decode cX6_flush 203 = .ok (.aload_n 0, 1) := by decide +kernel
theorem dX6_flush_204 : decode cX6_flush 204 = .ok (.getfield 67, 3) := by decide +kernel
theorem dX6_flush_207 : decode cX6_flush 207 = .ok (.iload_n 2, 1) := by decide +kernel
theorem dX6_flush_208 : decode cX6_flush 208 = .ok (.iaload, 1) := by decide +kernel
theorem dX6_flush_209 : decode cX6_flush 209 = .ok (.iastore, 1) := by decide +kernel
theorem dX6_flush_210 : decode cX6_flush 210 = .ok (.iinc 2 1, 3) := by decide +kernel
theorem dX6_flush_213 : decode cX6_flush 213 = .ok (.goto (-39), 3) := by decide +kernel
theorem dX6_flush_216 : decode cX6_flush 216 = .ok (.aload_n 0, 1) := by decide +kernel
theorem dX6_flush_217 : decode cX6_flush 217 = .ok (.dup, 1) := by decide +kernel
theorem dX6_flush_218 : decode cX6_flush 218 = .ok (.getfield 177, 3) := by decide +kernel
theorem dX6_flush_221 : decode cX6_flush 221 = .ok (.iload_n 1, 1) := by decide +kernel
theorem dX6_flush_222 : decode cX6_flush 222 = .ok (.iadd, 1) := by decide +kernel
theorem dX6_flush_223 : decode cX6_flush 223 = .ok (.putfield 177, 3) := by decide +kernel
theorem dX6_flush_226 : decode cX6_flush 226 = .ok (.aload_n 0, 1) := by decide +kernel
theorem dX6_flush_227 : decode cX6_flush 227 = .ok (.dup, 1) := by decide +kernel
theorem dX6_flush_228 : decode cX6_flush 228 = .ok (.getfield 70, 3) := by decide +kernel
theorem dX6_flush_231 : decode cX6_flush 231 = .ok (.iload_n 1, 1) := by decide +kernel
theorem dX6_flush_232 : decode cX6_flush 232 = .ok (.isub, 1) := by decide +kernel
theorem dX6_flush_233 : decode cX6_flush 233 = .ok (.putfield 70, 3) := by decide +kernel
theorem dX6_flush_236 : decode cX6_flush 236 = .ok (.aload_n 0, 1) := by decide +kernel
theorem dX6_flush_237 : decode cX6_flush 237 = .ok (.invokevirtual 174, 3) := by decide +kernel
theorem dX6_flush_240 : decode cX6_flush 240 = .ok (.iload_n 1, 1) := by decide +kernel
theorem dX6_flush_241 : decode cX6_flush 241 = .ok (.ireturn, 1) := by decide +kernel
set_option maxRecDepth 20000 in
theorem ggX6_crash_X6_current : GoodIn wsX6_crash wsX6_current := goodIn_r _ [8, 9, 13, 14, 15, 16, 17, 18, 19, 20, 21, 22, 23, 24, 25, 26, 27, 28, 29, 30, 31, 32, 33, 34, 35, 36, 37, 38, 39, 40, 41, 42, 43, 44, 45, 46, 47, 48] (by decide +kernel) (by decide +kernel)
set_option maxRecDepth 20000 in
theorem gX6_crash_X6_current : GoodIn wsX6_crash (wsV RX6 93 RX6 yX6_current wsX6_current) := goodIn_app (goodIn_of _ (by decide +kernel)) ggX6_crash_X6_current
set_option maxRecDepth 20000 in
theorem ggX6_crash_X6_in : GoodIn wsX6_crash wsX6_in := goodIn_r _ [12] (by decide +kernel) (by decide +kernel)
set_option maxRecDepth 20000 in
theorem gX6_crash_X6_in : GoodIn wsX6_crash (va_wsS RX6 108 yX6_in wsX6_in) := goodIn_app (goodIn_of _ (by decide +kernel)) ggX6_crash_X6_in
theorem dX6_crash_0 : decode cX6_crash 0 = .ok (.aload_n 0, 1) := by decide +kernel
theorem dX6_crash_1 : decode cX6_crash 1 = .ok (.getfield 132, 3) := by decide +kernel
theorem dX6_crash_4 : decode cX6_crash 4 = .ok (.ifCond .eq 6, 3) := by decide +kernel
theorem dX6_crash_7 : decode cX6_crash 7 = .ok (.bipush (-4), 2) := by decide +kernel
theorem dX6_crash_9 : decode cX6_crash 9 = .ok (.ireturn, 1) := by decide +kernel
theorem dX6_crash_10 : decode cX6_crash 10 = .ok (.aload_n 0, 1) := by decide +kernel
theorem dX6_crash_11 : decode cX6_crash 11 = .ok (.invokevirtual 93, 3) := by decide +kernel
theorem dX6_crash_14 : decode cX6_crash 14 = .ok (.istore_n 2, 1) := by decide +kernel
theorem dX6_crash_15 : decode cX6_crash 15 = .ok (.iload_n 1, 1) := by decide +kernel
theorem dX6_crash_16 : decode cX6_crash 16 = .ok (.iconst 0, 1) := by decide +kernel
theorem dX6_crash_17 : decode cX6_crash 17 = .ok (.aload_n 0, 1) := by decide +kernel
theorem dX6_crash_18 : decode cX6_crash 18 = .ok (.getfield 64, 3) := by decide +kernel
theorem dX6_crash_21 : decode cX6_crash 21 = .ok (.iload_n 2, 1) := by decide +kernel
theorem dX6_crash_22 : decode cX6_crash 22 = .ok (.iaload, 1) := by decide +kernel
theorem dX6_crash_23 : decode cX6_crash 23 = .ok (.aload_n 0, 1) := by decide +kernel
theorem dX6_crash_24 : decode cX6_crash 24 = .ok (.getfield 168, 3) := by decide +kernel
theorem dX6_crash_27 : decode cX6_crash 27 = .ok (.isub, 1) := by decide +kernel
theorem dX6_crash_28 : decode cX6_crash 28 = .ok (.invokestatic 108, 3) := by decide +kernel
theorem dX6_crash_31 : decode cX6_crash 31 = .ok (.ifCond .ne 5, 3) := by decide +kernel
theorem dX6_crash_34 : decode cX6_crash 34 = .ok (.iconst (-1), 1) := by decide +kernel
theorem dX6_crash_35 : decode cX6_crash 35 = .ok (.ireturn, 1) := by decide +kernel
theorem dX6_crash_36 : decode cX6_crash 36 = .ok (.aload_n 0, 1) := by decide +kernel
theorem dX6_crash_37 : decode cX6_crash 37 = .ok (.getfield 64, 3) := by decide +kernel
theorem dX6_crash_40 : decode cX6_crash 40 = .ok (.iload_n 2, 1) := by decide +kernel
theorem dX6_crash_41 : decode cX6_crash 41 = .ok (.iaload, 1) := by decide +kernel
theorem dX6_crash_42 : decode cX6_crash 42 = .ok (.aload_n 0, 1) := by decide +kernel
theorem dX6_crash_43 : decode cX6_crash 43 = .ok (.getfield 168, 3) := by decide +kernel
theorem dX6_crash_46 : decode cX6_crash 46 = .ok (.isub, 1) := by decide +kernel
theorem dX6_crash_47 : decode cX6_crash 47 = .ok (.iload_n 1, 1) := by decide +kernel
theorem dX6_crash_48 : decode cX6_crash 48 = .ok (.isub, 1) := by decide +kernel
theorem dX6_crash_49 : decode cX6_crash 49 = .ok (.istore_n 3, 1) := by decide +kernel
theorem dX6_crash_50 : decode cX6_crash 50 = .ok (.aload_n 0, 1) := by decide +kernel
theorem dX6_crash_51 : decode cX6_crash 51 = .ok (.getfield 64, 3) := by decide +kernel
theorem dX6_crash_54 : decode cX6_crash 54 = .ok (.iload_n 2, 1) := by decide +kernel
theorem dX6_crash_55 : decode cX6_crash 55 = .ok (.aload_n 0, 1) := by decide +kernel
theorem dX6_crash_56 : decode cX6_crash 56 = .ok (.getfield 168, 3) := by decide +kernel
theorem dX6_crash_59 : decode cX6_crash 59 = .ok (.iload_n 1, 1) := by decide +kernel
theorem dX6_crash_60 : decode cX6_crash 60 = .ok (.iadd, 1) := by decide +kernel
theorem dX6_crash_61 : decode cX6_crash 61 = .ok (.iastore, 1) := by decide +kernel
theorem dX6_crash_62 : decode cX6_crash 62 = .ok (.aload_n 0, 1) := by decide +kernel
theorem dX6_crash_63 : decode cX6_crash 63 = .ok (.iconst 1, 1) := by decide +kernel
theorem dX6_crash_64 : decode cX6_crash 64 = .ok (.putfield 132, 3) := by decide +kernel
theorem dX6_crash_67 : decode cX6_crash 67 = .ok (.iload_n 3, 1) := by decide +kernel
theorem dX6_crash_68 : decode cX6_crash 68 = .ok (.ireturn, 1) := by decide +kernel
theorem dX6_load_0 : decode cX6_load 0 = .ok (.iconst 0, 1) := by decide +kernel
theorem dX6_load_1 : decode cX6_load 1 = .ok (.istore_n 1, 1) := by decide +kernel
theorem dX6_load_2 : decode cX6_load 2 = .ok (.iload_n 1, 1) := by decide +kernel
theorem dX6_load_3 : decode cX6_load 3 = .ok (.bipush 16, 2) := by decide +kernel
theorem dX6_load_5 : decode cX6_load 5 = .ok (.if_icmp .ge 57, 3) := by decide +kernel
theorem dX6_load_8 : decode cX6_load 8 = .ok (.aload_n 0, 1) := by decide +kernel
theorem dX6_load_9 : decode cX6_load 9 = .ok (.getfield 7, 3) := by decide +kernel
theorem dX6_load_12 : decode cX6_load 12 = .ok (.iload_n 1, 1) := by decide +kernel
theorem dX6_load_13 : decode cX6_load 13 = .ok (.aload_n 0, 1) := by decide +kernel
theorem dX6_load_14 : decode cX6_load 14 = .ok (.getfield 19, 3) := by decide +kernel
theorem dX6_load_17 : decode cX6_load 17 = .ok (.iload_n 1, 1) := by decide +kernel
theorem dX6_load_18 : decode cX6_load 18 = .ok (.iaload, 1) := by decide +kernel
theorem dX6_load_19 : decode cX6_load 19 = .ok (.iastore, 1) := by decide +kernel
theorem dX6_load_20 : decode cX6_load 20 = .ok (.aload_n 0, 1) := by decide +kernel
theorem dX6_load_21 : decode cX6_load 21 = .ok (.getfield 13, 3) := by decide +kernel
theorem dX6_load_24 : decode cX6_load 24 = .ok (.iload_n 1, 1) := by decide +kernel
theorem dX6_load_25 : decode cX6_load 25 = .ok (.aload_n 0, 1) := by decide +kernel
theorem dX6_load_26 : decode cX6_load 26 = .ok (.getfield 22, 3) := by decide +kernel
theorem dX6_load_29 : decode cX6_load 29 = .ok (.iload_n 1, 1) := by decide +kernel
theorem dX6_load_30 : decode cX6_load 30 = .ok (.iaload, 1) := by decide +kernel
theorem dX6_load_31 : decode cX6_load 31 = .ok (.iastore, 1) := by decide +kernel
theorem dX6_load_32 : decode cX6_load 32 = .ok (.aload_n 0, 1) := by decide +kernel
theorem dX6_load_33 : decode cX6_load 33 = .ok (.getfield 16, 3) := by decide +kernel
theorem dX6_load_36 : decode cX6_load 36 = .ok (.iload_n 1, 1) := by decide +kernel
theorem dX6_load_37 : decode cX6_load 37 = .ok (.aload_n 0, 1) := by decide +kernel
theorem dX6_load_38 : decode cX6_load 38 = .ok (.getfield 25, 3) := by decide +kernel
theorem dX6_load_41 : decode cX6_load 41 = .ok (.iload_n 1, 1) := by decide +kernel
theorem dX6_load_42 : decode cX6_load 42 = .ok (.iaload, 1) := by decide +kernel
theorem dX6_load_43 : decode cX6_load 43 = .ok (.iastore, 1) := by decide +kernel
theorem dX6_load_44 : decode cX6_load 44 = .ok (.aload_n 0, 1) := by decide +kernel
theorem dX6_load_45 : decode cX6_load 45 = .ok (.getfield 31, 3) := by decide +kernel
theorem dX6_load_48 : decode cX6_load 48 = .ok (.iload_n 1, 1) := by decide +kernel
theorem dX6_load_49 : decode cX6_load 49 = .ok (.aload_n 0, 1) := by decide +kernel
theorem dX6_load_50 : decode cX6_load 50 = .ok (.getfield 35, 3) := by decide +kernel
theorem dX6_load_53 : decode cX6_load 53 = .ok (.iload_n 1, 1) := by decide +kernel
theorem dX6_load_54 : decode cX6_load 54 = .ok (.laload, 1) := by decide +kernel
theorem dX6_load_55 : decode cX6_load 55 = .ok (.lastore, 1) := by decide +kernel
theorem dX6_load_56 : decode cX6_load 56 = .ok (.iinc 1 1, 3) := by decide +kernel
theorem dX6_load_59 : decode cX6_load 59 = .ok (.goto (-57), 3) := by decide +kernel
theorem dX6_load_62 : decode cX6_load 62 = .ok (.iconst 0, 1) := by decide +kernel
theorem dX6_load_63 : decode cX6_load 63 = .ok (.istore_n 1, 1) := by decide +kernel
theorem dX6_load_64 : decode cX6_load 64 = .ok (.iload_n 1, 1) := by decide +kernel
theorem dX6_load_65 : decode cX6_load 65 = .ok (.bipush 64, 2) := by decide +kernel
theorem dX6_load_67 : decode cX6_load 67 = .ok (.if_icmp .gt 16, 3) := by decide +kernel
theorem dX6_load_70 : decode cX6_load 70 = .ok (.aload_n 0, 1) := by decide +kernel
theorem dX6_load_71 : decode cX6_load 71 = .ok (.getfield 41, 3) := by decide +kernel
theorem dX6_load_74 : decode cX6_load 74 = .ok (.iload_n 1, 1) := by decide +kernel
theorem dX6_load_75 : decode cX6_load 75 = .ok (.iconst 0, 1) := by decide +kernel
theorem dX6_load_76 : decode cX6_load 76 = .ok (.bastore, 1) := by decide +kernel
theorem dX6_load_77 : decode cX6_load 77 = .ok (.iinc 1 1, 3) := by decide +kernel
theorem dX6_load_80 : decode cX6_load 80 = .ok (.goto (-16), 3) := by decide +kernel
theorem dX6_load_83 : decode cX6_load 83 = .ok (.aload_n 0, 1) := by decide +kernel
theorem dX6_load_84 : decode cX6_load 84 = .ok (.aload_n 0, 1) := by decide +kernel
theorem dX6_load_85 : decode cX6_load 85 = .ok (.getfield 55, 3) := by decide +kernel
theorem dX6_load_88 : decode cX6_load 88 = .ok (.putfield 45, 3) := by decide +kernel
theorem dX6_load_91 : decode cX6_load 91 = .ok (.aload_n 0, 1) := by decide +kernel
theorem dX6_load_92 : decode cX6_load 92 = .ok (.aload_n 0, 1) := by decide +kernel
theorem dX6_load_93 : decode cX6_load 93 = .ok (.getfield 58, 3) := by decide +kernel
theorem dX6_load_96 : decode cX6_load 96 = .ok (.putfield 49, 3) := by decide +kernel
theorem dX6_load_99 : decode cX6_load 99 = .ok (.return_, 1) := by decide +kernel
set_option maxRecDepth 20000 in
theorem ggX6_recover_X6_load : GoodIn wsX6_recover wsX6_load := goodIn_r _ [16, 17, 18, 19, 20, 21, 22, 23, 24, 25, 26, 27, 28, 29, 74, 75, 76, 77, 78, 79, 80, 81, 82, 83, 84, 85, 86, 87, 88, 89, 90, 91, 92, 93, 94, 95, 96, 97, 98, 99, 100, 101, 102, 103, 104, 105, 106, 107, 108, 109] (by decide +kernel) (by decide +kernel)
set_option maxRecDepth 20000 in
theorem gX6_recover_X6_load : GoodIn wsX6_recover (wsV RX6 180 RX6 yX6_load wsX6_load) := goodIn_app (goodIn_of _ (by decide +kernel)) ggX6_recover_X6_load
set_option maxRecDepth 20000 in
theorem ggX6_recover_X6_reads : GoodIn wsX6_recover wsX6_reads := goodIn_r _ [33, 4, 34, 7, 6, 8, 9, 10, 11, 27, 35, 36, 15, 37, 38, 39, 40, 41, 42, 43, 44, 45, 46, 47, 48, 49, 74, 75, 76, 77, 78, 79, 80, 81, 82, 83, 84, 85, 86, 87, 88, 89, 90, 91, 92, 93, 94, 95, 96, 97, 98, 99, 100, 101, 102, 103, 104, 105, 106, 107, 108, 109] (by decide +kernel) (by decide +kernel)
set_option maxRecDepth 20000 in
theorem gX6_recover_X6_reads : GoodIn wsX6_recover (wsV RX6 183 RX6 yX6_reads wsX6_reads) := goodIn_app (goodIn_of _ (by decide +kernel)) ggX6_recover_X6_reads
set_option maxRecDepth 20000 in
theorem ggX6_recover_X6_current : GoodIn wsX6_recover wsX6_current := goodIn_r _ [53, 2, 74, 75, 76, 77, 78, 79, 80, 81, 82, 83, 84, 85, 86, 87, 88, 89, 90, 91, 92, 93, 94, 95, 96, 97, 98, 99, 100, 101, 102, 103, 104, 105, 106, 107, 108, 109] (by decide +kernel) (by decide +kernel)
set_option maxRecDepth 20000 in
theorem gX6_recover_X6_current : GoodIn wsX6_recover (wsV RX6 93 RX6 yX6_current wsX6_current) := goodIn_app (goodIn_of _ (by decide +kernel)) ggX6_recover_X6_current
set_option maxRecDepth 20000 in
theorem ggX6_recover_X6_isDone : GoodIn wsX6_recover wsX6_isDone := goodIn_r _ [57, 27, 25, 74, 75, 76, 77, 78, 79, 80, 81, 82, 83, 84, 85, 86, 87, 88, 89, 90, 91, 92, 93, 94, 95, 96, 97, 98, 99, 100, 101, 102, 103, 104, 105, 106, 107, 108, 109] (by decide +kernel) (by decide +kernel)
set_option maxRecDepth 20000 in
theorem gX6_recover_X6_isDone : GoodIn wsX6_recover (wsV RX6 150 RX6 yX6_isDone wsX6_isDone) := goodIn_app (goodIn_of _ (by decide +kernel)) ggX6_recover_X6_isDone
set_option maxRecDepth 20000 in
theorem ggX6_recover_X6_process : GoodIn wsX6_recover wsX6_process := goodIn_r _ [61, 25, 27, 29, 19, 17, 21, 23, 74, 75, 76, 77, 78, 79, 80, 81, 82, 83, 84, 85, 86, 87, 88, 89, 90, 91, 92, 93, 94, 95, 96, 97, 98, 99, 100, 101, 102, 103, 104, 105, 106, 107, 108, 109] (by decide +kernel) (by decide +kernel)
set_option maxRecDepth 20000 in
theorem gX6_recover_X6_process : GoodIn wsX6_recover (wsV RX6 145 RX6 yX6_process wsX6_process) := goodIn_app (goodIn_of _ (by decide +kernel)) ggX6_recover_X6_process
set_option maxRecDepth 20000 in
theorem ggX6_recover_X6_settle : GoodIn wsX6_recover wsX6_settle := goodIn_r _ [65, 4, 2, 5, 27, 66, 74, 75, 76, 77, 78, 79, 80, 81, 82, 83, 84, 85, 86, 87, 88, 89, 90, 91, 92, 93, 94, 95, 96, 97, 98, 99, 100, 101, 102, 103, 104, 105, 106, 107, 108, 109] (by decide +kernel) (by decide +kernel)
set_option maxRecDepth 20000 in
theorem gX6_recover_X6_settle : GoodIn wsX6_recover (wsV RX6 171 RX6 yX6_settle wsX6_settle) := goodIn_app (goodIn_of _ (by decide +kernel)) ggX6_recover_X6_settle
set_option maxRecDepth 20000 in
theorem ggX6_recover_X6_show : GoodIn wsX6_recover wsX6_show := goodIn_r _ [70, 71, 17, 72, 19, 73, 23, 74, 75, 76, 77, 78, 79, 80, 81, 82, 83, 84, 85, 86, 87, 88, 89, 90, 91, 92, 93, 94, 95, 96, 97, 98, 99, 100, 101, 102, 103, 104, 105, 106, 107, 108, 109] (by decide +kernel) (by decide +kernel)
set_option maxRecDepth 20000 in
theorem gX6_recover_X6_show : GoodIn wsX6_recover (wsV RX6 161 RX6 yX6_show wsX6_show) := goodIn_app (goodIn_of _ (by decide +kernel)) ggX6_recover_X6_show
theorem dX6_recover_0 : decode cX6_recover 0 = .ok (.aload_n 0, 1) := by decide +kernel
theorem dX6_recover_1 : decode cX6_recover 1 = .ok (.getfield 132, 3) := by decide +kernel
theorem dX6_recover_4 : decode cX6_recover 4 = .ok (.ifCond .ne 5, 3) := by decide +kernel
theorem dX6_recover_7 : decode cX6_recover 7 = .ok (.iconst (-1), 1) := by decide +kernel
theorem dX6_recover_8 : decode cX6_recover 8 = .ok (.ireturn, 1) := by decide +kernel
theorem dX6_recover_9 : decode cX6_recover 9 = .ok (.aload_n 0, 1) := by decide +kernel
theorem dX6_recover_10 : decode cX6_recover 10 = .ok (.invokevirtual 180, 3) := by decide +kernel
theorem dX6_recover_13 : decode cX6_recover 13 = .ok (.iconst 0, 1) := by decide +kernel
theorem dX6_recover_14 : decode cX6_recover 14 = .ok (.istore_n 2, 1) := by decide +kernel
theorem dX6_recover_15 : decode cX6_recover 15 = .ok (.iconst (-1), 1) := by decide +kernel
theorem dX6_recover_16 : decode cX6_recover 16 = .ok (.istore_n 3, 1) := by decide +kernel
theorem dX6_recover_17 : decode cX6_recover 17 = .ok (.iconst 0, 1) := by decide +kernel
theorem dX6_recover_18 : decode cX6_recover 18 = .ok (.istore 4, 2) := by decide +kernel
theorem dX6_recover_20 : decode cX6_recover 20 = .ok (.iload 4, 2) := by decide +kernel
theorem dX6_recover_22 : decode cX6_recover 22 = .ok (.aload_n 0, 1) := by decide +kernel
theorem dX6_recover_23 : decode cX6_recover 23 = .ok (.getfield 70, 3) := by decide +kernel
theorem dX6_recover_26 : decode cX6_recover 26 = .ok (.if_icmp .ge 163, 3) := by decide +kernel
theorem dX6_recover_29 : decode cX6_recover 29 = .ok (.aload_n 0, 1) := by decide +kernel
theorem dX6_recover_30 : decode cX6_recover 30 = .ok (.getfield 67, 3) := by decide +kernel
theorem dX6_recover_33 : decode cX6_recover 33 = .ok (.iload 4, 2) := by decide +kernel
theorem dX6_recover_35 : decode cX6_recover 35 = .ok (.iconst (-1), 1) := by decide +kernel
theorem dX6_recover_36 : decode cX6_recover 36 = .ok (.iastore, 1) := by decide +kernel
theorem dX6_recover_37 : decode cX6_recover 37 = .ok (.iconst 0, 1) := by decide +kernel
theorem dX6_recover_38 : decode cX6_recover 38 = .ok (.istore 5, 2) := by decide +kernel
theorem dX6_recover_40 : decode cX6_recover 40 = .ok (.iload 5, 2) := by decide +kernel
theorem dX6_recover_42 : decode cX6_recover 42 = .ok (.aload_n 0, 1) := by decide +kernel
theorem dX6_recover_43 : decode cX6_recover 43 = .ok (.getfield 64, 3) := by decide +kernel
theorem dX6_recover_46 : decode cX6_recover 46 = .ok (.iload 4, 2) := by decide +kernel
theorem dX6_recover_48 : decode cX6_recover 48 = .ok (.iaload, 1) := by decide +kernel
theorem dX6_recover_49 : decode cX6_recover 49 = .ok (.if_icmp .ge 134, 3) := by decide +kernel
theorem dX6_recover_52 : decode cX6_recover 52 = .ok (.iload_n 3, 1) := by decide +kernel
theorem dX6_recover_53 : decode cX6_recover 53 = .ok (.ifCond .ge 130, 3) := by decide +kernel
theorem dX6_recover_56 : decode cX6_recover 56 = .ok (.aload_n 0, 1) := by decide +kernel
theorem dX6_recover_57 : decode cX6_recover 57 = .ok (.iload 4, 2) := by decide +kernel
theorem dX6_recover_59 : decode cX6_recover 59 = .ok (.iload 5, 2) := by decide +kernel
theorem dX6_recover_61 : decode cX6_recover 61 = .ok (.invokevirtual 183, 3) := by decide +kernel
theorem dX6_recover_64 : decode cX6_recover 64 = .ok (.istore 6, 2) := by decide +kernel
theorem dX6_recover_66 : decode cX6_recover 66 = .ok (.iload 6, 2) := by decide +kernel
theorem dX6_recover_68 : decode cX6_recover 68 = .ok (.ifCond .ne 30, 3) := by decide +kernel
theorem dX6_recover_71 : decode cX6_recover 71 = .ok (.iload 4, 2) := by decide +kernel
theorem dX6_recover_73 : decode cX6_recover 73 = .ok (.aload_n 0, 1) := by decide +kernel
theorem dX6_recover_74 : decode cX6_recover 74 = .ok (.invokevirtual 93, 3) := by decide +kernel
theorem dX6_recover_77 : decode cX6_recover 77 = .ok (.if_icmp .lt 12, 3) := by decide +kernel
theorem dX6_recover_80 : decode cX6_recover 80 = .ok (.iload 5, 2) := by decide +kernel
theorem dX6_recover_82 : decode cX6_recover 82 = .ok (.aload_n 0, 1) := by decide +kernel
theorem dX6_recover_83 : decode cX6_recover 83 = .ok (.getfield 168, 3) := by decide +kernel
theorem dX6_recover_86 : decode cX6_recover 86 = .ok (.if_icmp .ge 6, 3) := by decide +kernel
theorem dX6_recover_89 : decode cX6_recover 89 = .ok (.bipush (-5), 2) := by decide +kernel
theorem dX6_recover_91 : decode cX6_recover 91 = .ok (.ireturn, 1) := by decide +kernel
theorem dX6_recover_92 : decode cX6_recover 92 = .ok (.iload 5, 2) := by decide +kernel
theorem dX6_recover_94 : decode cX6_recover 94 = .ok (.istore_n 3, 1) := by decide +kernel
theorem dX6_recover_95 : decode cX6_recover 95 = .ok (.goto (-55), 3) := by decide +kernel
theorem dX6_recover_98 : decode cX6_recover 98 = .ok (.aload_n 0, 1) := by decide +kernel
theorem dX6_recover_99 : decode cX6_recover 99 = .ok (.aload_n 0, 1) := by decide +kernel
theorem dX6_recover_100 : decode cX6_recover 100 = .ok (.getfield 116, 3) := by decide +kernel
theorem dX6_recover_103 : decode cX6_recover 103 = .ok (.invokevirtual 150, 3) := by decide +kernel
theorem dX6_recover_106 : decode cX6_recover 106 = .ok (.ifCond .ne 43, 3) := by decide +kernel
theorem dX6_recover_109 : decode cX6_recover 109 = .ok (.iload_n 1, 1) := by decide +kernel
theorem dX6_recover_110 : decode cX6_recover 110 = .ok (.ifCond .lt 11, 3) := by decide +kernel
theorem dX6_recover_113 : decode cX6_recover 113 = .ok (.iload_n 2, 1) := by decide +kernel
theorem dX6_recover_114 : decode cX6_recover 114 = .ok (.iload_n 1, 1) := by decide +kernel
theorem dX6_recover_115 : decode cX6_recover 115 = .ok (.if_icmp .ne 6, 3) := by decide +kernel
theorem dX6_recover_118 : decode cX6_recover 118 = .ok (.bipush (-4), 2) := by decide +kernel
theorem dX6_recover_120 : decode cX6_recover 120 = .ok (.ireturn, 1) := by decide +kernel
theorem dX6_recover_121 : decode cX6_recover 121 = .ok (.iinc 2 1, 3) := by decide +kernel
theorem dX6_recover_124 : decode cX6_recover 124 = .ok (.aload_n 0, 1) := by decide +kernel
theorem dX6_recover_125 : decode cX6_recover 125 = .ok (.aload_n 0, 1) := by decide +kernel
theorem dX6_recover_126 : decode cX6_recover 126 = .ok (.getfield 105, 3) := by decide +kernel
theorem dX6_recover_129 : decode cX6_recover 129 = .ok (.aload_n 0, 1) := by decide +kernel
theorem dX6_recover_130 : decode cX6_recover 130 = .ok (.getfield 119, 3) := by decide +kernel
theorem dX6_recover_133 : decode cX6_recover 133 = .ok (.aload_n 0, 1) := by decide +kernel
theorem dX6_recover_134 : decode cX6_recover 134 = .ok (.getfield 116, 3) := by decide +kernel
theorem dX6_recover_137 : decode cX6_recover 137 = .ok (.aload_n 0, 1) := by decide +kernel
theorem dX6_recover_138 : decode cX6_recover 138 = .ok (.getfield 122, 3) := by decide +kernel
theorem dX6_recover_141 : decode cX6_recover 141 = .ok (.aload_n 0, 1) := by decide +kernel
theorem dX6_recover_142 : decode cX6_recover 142 = .ok (.getfield 125, 3) := by decide +kernel
theorem dX6_recover_145 : decode cX6_recover 145 = .ok (.invokevirtual 145, 3) := by decide +kernel
theorem dX6_recover_148 : decode cX6_recover 148 = .ok (.pop, 1) := by decide +kernel
theorem dX6_recover_149 : decode cX6_recover 149 = .ok (.aload_n 0, 1) := by decide +kernel
theorem dX6_recover_150 : decode cX6_recover 150 = .ok (.getfield 116, 3) := by decide +kernel
theorem dX6_recover_153 : decode cX6_recover 153 = .ok (.aload_n 0, 1) := by decide +kernel
theorem dX6_recover_154 : decode cX6_recover 154 = .ok (.getfield 67, 3) := by decide +kernel
theorem dX6_recover_157 : decode cX6_recover 157 = .ok (.iload 4, 2) := by decide +kernel
theorem dX6_recover_159 : decode cX6_recover 159 = .ok (.iaload, 1) := by decide +kernel
theorem dX6_recover_160 : decode cX6_recover 160 = .ok (.if_icmp .le 14, 3) := by decide +kernel
theorem dX6_recover_163 : decode cX6_recover 163 = .ok (.aload_n 0, 1) := by decide +kernel
theorem dX6_recover_164 : decode cX6_recover 164 = .ok (.getfield 67, 3) := by decide +kernel
theorem dX6_recover_167 : decode cX6_recover 167 = .ok (.iload 4, 2) := by decide +kernel
theorem dX6_recover_169 : decode cX6_recover 169 = .ok (.aload_n 0, 1) := by decide +kernel
theorem dX6_recover_170 : decode cX6_recover 170 = .ok (.getfield 116, 3) := by decide +kernel
theorem dX6_recover_173 : decode cX6_recover 173 = .ok (.iastore, 1) := by decide +kernel
theorem dX6_recover_174 : decode cX6_recover 174 = .ok (.aload_n 0, 1) := by decide +kernel
theorem dX6_recover_175 : decode cX6_recover 175 = .ok (.getfield 129, 3) := by decide +kernel
theorem dX6_recover_178 : decode cX6_recover 178 = .ok (.istore 5, 2) := by decide +kernel
theorem dX6_recover_180 : decode cX6_recover 180 = .ok (.goto (-140), 3) := by decide +kernel
theorem dX6_recover_183 : decode cX6_recover 183 = .ok (.iinc 4 1, 3) := by decide +kernel
theorem dX6_recover_186 : decode cX6_recover 186 = .ok (.goto (-166), 3) := by decide +kernel
theorem dX6_recover_189 : decode cX6_recover 189 = .ok (.iload_n 3, 1) := by decide +kernel
theorem dX6_recover_190 : decode cX6_recover 190 = .ok (.ifCond .lt 15, 3) := by decide +kernel
theorem dX6_recover_193 : decode cX6_recover 193 = .ok (.aload_n 0, 1) := by decide +kernel
theorem dX6_recover_194 : decode cX6_recover 194 = .ok (.getfield 64, 3) := by decide +kernel
theorem dX6_recover_197 : decode cX6_recover 197 = .ok (.aload_n 0, 1) := by decide +kernel
theorem dX6_recover_198 : decode cX6_recover 198 = .ok (.getfield 70, 3) := by decide +kernel
theorem dX6_recover_201 : decode cX6_recover 201 = .ok (.iconst 1, 1) := by decide +kernel
theorem dX6_recover_202 : decode cX6_recover 202 = .ok (.isub, 1) := by decide +kernel
theorem dX6_recover_203 : decode cX6_recover 203 = .ok (.iload_n 3, 1) := by decide +kernel
theorem dX6_recover_204 : decode cX6_recover 204 = .ok (.iastore, 1) := by decide +kernel
theorem dX6_recover_205 : decode cX6_recover 205 = .ok (.aload_n 0, 1) := by decide +kernel
theorem dX6_recover_206 : decode cX6_recover 206 = .ok (.iconst 0, 1) := by decide +kernel
theorem dX6_recover_207 : decode cX6_recover 207 = .ok (.putfield 132, 3) := by decide +kernel
theorem dX6_recover_210 : decode cX6_recover 210 = .ok (.aload_n 0, 1) := by decide +kernel
theorem dX6_recover_211 : decode cX6_recover 211 = .ok (.invokevirtual 171, 3) := by decide +kernel
theorem dX6_recover_214 : decode cX6_recover 214 = .ok (.pop, 1) := by decide +kernel
theorem dX6_recover_215 : decode cX6_recover 215 = .ok (.aload_n 0, 1) := by decide +kernel
theorem dX6_recover_216 : decode cX6_recover 216 = .ok (.invokevirtual 161, 3) := by decide +kernel
theorem dX6_recover_219 : decode cX6_recover 219 = .ok (.iload_n 2, 1) := by decide +kernel
theorem dX6_recover_220 : decode cX6_recover 220 = .ok (.ireturn, 1) := by decide +kernel
set_option maxRecDepth 20000 in
theorem ggX6_flip_X6_in : GoodIn wsX6_flip wsX6_in := goodIn_r _ [8] (by decide +kernel) (by decide +kernel)
set_option maxRecDepth 20000 in
theorem gX6_flip_X6_in : GoodIn wsX6_flip (va_wsS RX6 108 yX6_in wsX6_in) := goodIn_app (goodIn_of _ (by decide +kernel)) ggX6_flip_X6_in
theorem dX6_flip_0 : decode cX6_flip 0 = .ok (.iload_n 1, 1) := by decide +kernel
theorem dX6_flip_1 : decode cX6_flip 1 = .ok (.aload_n 0, 1) := by decide +kernel
theorem dX6_flip_2 : decode cX6_flip 2 = .ok (.getfield 177, 3) := by decide +kernel
theorem dX6_flip_5 : decode cX6_flip 5 = .ok (.isub, 1) := by decide +kernel
theorem dX6_flip_6 : decode cX6_flip 6 = .ok (.istore 4, 2) := by decide +kernel
theorem dX6_flip_8 : decode cX6_flip 8 = .ok (.iload_n 1, 1) := by decide +kernel
theorem dX6_flip_9 : decode cX6_flip 9 = .ok (.aload_n 0, 1) := by decide +kernel
theorem dX6_flip_10 : decode cX6_flip 10 = .ok (.getfield 177, 3) := by decide +kernel
theorem dX6_flip_13 : decode cX6_flip 13 = .ok (.aload_n 0, 1) := by decide +kernel
theorem dX6_flip_14 : decode cX6_flip 14 = .ok (.getfield 177, 3) := by decide +kernel
theorem dX6_flip_17 : decode cX6_flip 17 = .ok (.aload_n 0, 1) := by decide +kernel
theorem dX6_flip_18 : decode cX6_flip 18 = .ok (.getfield 70, 3) := by decide +kernel
theorem dX6_flip_21 : decode cX6_flip 21 = .ok (.iadd, 1) := by decide +kernel
theorem dX6_flip_22 : decode cX6_flip 22 = .ok (.iconst 1, 1) := by decide +kernel
theorem dX6_flip_23 : decode cX6_flip 23 = .ok (.isub, 1) := by decide +kernel
theorem dX6_flip_24 : decode cX6_flip 24 = .ok (.invokestatic 108, 3) := by decide +kernel
theorem dX6_flip_27 : decode cX6_flip 27 = .ok (.ifCond .eq 14, 3) := by decide +kernel
theorem dX6_flip_30 : decode cX6_flip 30 = .ok (.iload_n 3, 1) := by decide +kernel
theorem dX6_flip_31 : decode cX6_flip 31 = .ok (.iconst 0, 1) := by decide +kernel
theorem dX6_flip_32 : decode cX6_flip 32 = .ok (.sipush 255, 3) := by decide +kernel
theorem dX6_flip_35 : decode cX6_flip 35 = .ok (.invokestatic 108, 3) := by decide +kernel
theorem dX6_flip_38 : decode cX6_flip 38 = .ok (.ifCond .ne 5, 3) := by decide +kernel
theorem dX6_flip_41 : decode cX6_flip 41 = .ok (.iconst (-1), 1) := by decide +kernel
theorem dX6_flip_42 : decode cX6_flip 42 = .ok (.ireturn, 1) := by decide +kernel
theorem dX6_flip_43 : decode cX6_flip 43 = .ok (.iload_n 2, 1) := by decide +kernel
theorem dX6_flip_44 : decode cX6_flip 44 = .ok (.iconst 0, 1) := by decide +kernel
theorem dX6_flip_45 : decode cX6_flip 45 = .ok (.aload_n 0, 1) := by decide +kernel
theorem dX6_flip_46 : decode cX6_flip 46 = .ok (.getfield 64, 3) := by decide +kernel
theorem dX6_flip_49 : decode cX6_flip 49 = .ok (.iload 4, 2) := by decide +kernel
theorem dX6_flip_51 : decode cX6_flip 51 = .ok (.iaload, 1) := by decide +kernel
theorem dX6_flip_52 : decode cX6_flip 52 = .ok (.iconst 1, 1) := by decide +kernel
theorem dX6_flip_53 : decode cX6_flip 53 = .ok (.isub, 1) := by decide +kernel
theorem dX6_flip_54 : decode cX6_flip 54 = .ok (.invokestatic 108, 3) := by decide +kernel
theorem dX6_flip_57 : decode cX6_flip 57 = .ok (.ifCond .ne 5, 3) := by decide +kernel
theorem dX6_flip_60 : decode cX6_flip 60 = .ok (.iconst (-1), 1) := by decide +kernel
theorem dX6_flip_61 : decode cX6_flip 61 = .ok (.ireturn, 1) := by decide +kernel
theorem dX6_flip_62 : decode cX6_flip 62 = .ok (.aload_n 0, 1) := by decide +kernel
theorem dX6_flip_63 : decode cX6_flip 63 = .ok (.getfield 61, 3) := by decide +kernel
theorem dX6_flip_66 : decode cX6_flip 66 = .ok (.sipush 240, 3) := by decide +kernel
theorem dX6_flip_69 : decode cX6_flip 69 = .ok (.iload 4, 2) := by decide +kernel
theorem dX6_flip_71 : decode cX6_flip 71 = .ok (.imul, 1) := by decide +kernel
theorem dX6_flip_72 : decode cX6_flip 72 = .ok (.iload_n 2, 1) := by decide +kernel
theorem dX6_flip_73 : decode cX6_flip 73 = .ok (.iadd, 1) := by decide +kernel
theorem dX6_flip_74 : decode cX6_flip 74 = .ok (.dup2, 1) := by decide +kernel
theorem dX6_flip_75 : decode cX6_flip 75 = .ok (.iaload, 1) := by decide +kernel
theorem dX6_flip_76 : decode cX6_flip 76 = .ok (.iload_n 3, 1) := by decide +kernel
theorem dX6_flip_77 : decode cX6_flip 77 = .ok (.ixor, 1) := by decide +kernel
theorem dX6_flip_78 : decode cX6_flip 78 = .ok (.iastore, 1) := by decide +kernel
theorem dX6_flip_79 : decode cX6_flip 79 = .ok (.aload_n 0, 1) := by decide +kernel
theorem dX6_flip_80 : decode cX6_flip 80 = .ok (.getfield 61, 3) := by decide +kernel
theorem dX6_flip_83 : decode cX6_flip 83 = .ok (.sipush 240, 3) := by decide +kernel
theorem dX6_flip_86 : decode cX6_flip 86 = .ok (.iload 4, 2) := by decide +kernel
theorem dX6_flip_88 : decode cX6_flip 88 = .ok (.imul, 1) := by decide +kernel
theorem dX6_flip_89 : decode cX6_flip 89 = .ok (.iload_n 2, 1) := by decide +kernel
theorem dX6_flip_90 : decode cX6_flip 90 = .ok (.iadd, 1) := by decide +kernel
theorem dX6_flip_91 : decode cX6_flip 91 = .ok (.iaload, 1) := by decide +kernel
theorem dX6_flip_92 : decode cX6_flip 92 = .ok (.ireturn, 1) := by decide +kernel
set_option maxRecDepth 20000 in
theorem ggX6_ask_X6_in : GoodIn wsX6_ask wsX6_in := goodIn_r _ [8] (by decide +kernel) (by decide +kernel)
set_option maxRecDepth 20000 in
theorem gX6_ask_X6_in : GoodIn wsX6_ask (va_wsS RX6 108 yX6_in wsX6_in) := goodIn_app (goodIn_of _ (by decide +kernel)) ggX6_ask_X6_in
theorem dX6_ask_0 : decode cX6_ask 0 = .ok (.iload_n 1, 1) := by decide +kernel
theorem dX6_ask_1 : decode cX6_ask 1 = .ok (.bipush 7, 2) := by decide +kernel
theorem dX6_ask_3 : decode cX6_ask 3 = .ok (.if_icmp .ne 10, 3) := by decide +kernel
theorem dX6_ask_6 : decode cX6_ask 6 = .ok (.aload_n 0, 1) := by decide +kernel
theorem dX6_ask_7 : decode cX6_ask 7 = .ok (.iconst 0, 1) := by decide +kernel
theorem dX6_ask_8 : decode cX6_ask 8 = .ok (.putfield 186, 3) := by decide +kernel
theorem dX6_ask_11 : decode cX6_ask 11 = .ok (.iconst 0, 1) := by decide +kernel
theorem dX6_ask_12 : decode cX6_ask 12 = .ok (.ireturn, 1) := by decide +kernel
theorem dX6_ask_13 : decode cX6_ask 13 = .ok (.iload_n 1, 1) := by decide +kernel
theorem dX6_ask_14 : decode cX6_ask 14 = .ok (.iconst 0, 1) := by decide +kernel
theorem dX6_ask_15 : decode cX6_ask 15 = .ok (.bipush 6, 2) := by decide +kernel
theorem dX6_ask_17 : decode cX6_ask 17 = .ok (.invokestatic 108, 3) := by decide +kernel
theorem dX6_ask_20 : decode cX6_ask 20 = .ok (.ifCond .eq 38, 3) := by decide +kernel
theorem dX6_ask_23 : decode cX6_ask 23 = .ok (.iload_n 1, 1) := by decide +kernel
theorem dX6_ask_24 : decode cX6_ask 24 = .ok (.iconst 1, 1) := by decide +kernel
theorem dX6_ask_25 : decode cX6_ask 25 = .ok (.if_icmp .eq 8, 3) := by decide +kernel
theorem dX6_ask_28 : decode cX6_ask 28 = .ok (.iload_n 1, 1) := by decide +kernel
theorem dX6_ask_29 : decode cX6_ask 29 = .ok (.iconst 2, 1) := by decide +kernel
theorem dX6_ask_30 : decode cX6_ask 30 = .ok (.if_icmp .ne 13, 3) := by decide +kernel
theorem dX6_ask_33 : decode cX6_ask 33 = .ok (.iload_n 2, 1) := by decide +kernel
theorem dX6_ask_34 : decode cX6_ask 34 = .ok (.iconst 1, 1) := by decide +kernel
theorem dX6_ask_35 : decode cX6_ask 35 = .ok (.bipush 15, 2) := by decide +kernel
theorem dX6_ask_37 : decode cX6_ask 37 = .ok (.invokestatic 108, 3) := by decide +kernel
theorem dX6_ask_40 : decode cX6_ask 40 = .ok (.ifCond .eq 18, 3) := by decide +kernel
theorem dX6_ask_43 : decode cX6_ask 43 = .ok (.iload_n 1, 1) := by decide +kernel
theorem dX6_ask_44 : decode cX6_ask 44 = .ok (.iconst 2, 1) := by decide +kernel
theorem dX6_ask_45 : decode cX6_ask 45 = .ok (.if_icmp .ne 15, 3) := by decide +kernel
theorem dX6_ask_48 : decode cX6_ask 48 = .ok (.iload_n 3, 1) := by decide +kernel
theorem dX6_ask_49 : decode cX6_ask 49 = .ok (.iconst 1, 1) := by decide +kernel
theorem dX6_ask_50 : decode cX6_ask 50 = .ok (.bipush 15, 2) := by decide +kernel
theorem dX6_ask_52 : decode cX6_ask 52 = .ok (.invokestatic 108, 3) := by decide +kernel
theorem dX6_ask_55 : decode cX6_ask 55 = .ok (.ifCond .ne 5, 3) := by decide +kernel
theorem dX6_ask_58 : decode cX6_ask 58 = .ok (.iconst (-1), 1) := by decide +kernel
theorem dX6_ask_59 : decode cX6_ask 59 = .ok (.ireturn, 1) := by decide +kernel
theorem dX6_ask_60 : decode cX6_ask 60 = .ok (.aload_n 0, 1) := by decide +kernel
theorem dX6_ask_61 : decode cX6_ask 61 = .ok (.getfield 186, 3) := by decide +kernel
theorem dX6_ask_64 : decode cX6_ask 64 = .ok (.bipush 15, 2) := by decide +kernel
theorem dX6_ask_66 : decode cX6_ask 66 = .ok (.if_icmp .ne 6, 3) := by decide +kernel
theorem dX6_ask_69 : decode cX6_ask 69 = .ok (.bipush (-3), 2) := by decide +kernel
theorem dX6_ask_71 : decode cX6_ask 71 = .ok (.ireturn, 1) := by decide +kernel
theorem dX6_ask_72 : decode cX6_ask 72 = .ok (.aload_n 0, 1) := by decide +kernel
theorem dX6_ask_73 : decode cX6_ask 73 = .ok (.getfield 73, 3) := by decide +kernel
theorem dX6_ask_76 : decode cX6_ask 76 = .ok (.aload_n 0, 1) := by decide +kernel
theorem dX6_ask_77 : decode cX6_ask 77 = .ok (.getfield 186, 3) := by decide +kernel
theorem dX6_ask_80 : decode cX6_ask 80 = .ok (.iload_n 1, 1) := by decide +kernel
theorem dX6_ask_81 : decode cX6_ask 81 = .ok (.iastore, 1) := by decide +kernel
theorem dX6_ask_82 : decode cX6_ask 82 = .ok (.aload_n 0, 1) := by decide +kernel
theorem dX6_ask_83 : decode cX6_ask 83 = .ok (.getfield 76, 3) := by decide +kernel
theorem dX6_ask_86 : decode cX6_ask 86 = .ok (.aload_n 0, 1) := by decide +kernel
theorem dX6_ask_87 : decode cX6_ask 87 = .ok (.getfield 186, 3) := by decide +kernel
theorem dX6_ask_90 : decode cX6_ask 90 = .ok (.iload_n 2, 1) := by decide +kernel
theorem dX6_ask_91 : decode cX6_ask 91 = .ok (.iastore, 1) := by decide +kernel
theorem dX6_ask_92 : decode cX6_ask 92 = .ok (.aload_n 0, 1) := by decide +kernel
theorem dX6_ask_93 : decode cX6_ask 93 = .ok (.getfield 79, 3) := by decide +kernel
theorem dX6_ask_96 : decode cX6_ask 96 = .ok (.aload_n 0, 1) := by decide +kernel
theorem dX6_ask_97 : decode cX6_ask 97 = .ok (.getfield 186, 3) := by decide +kernel
theorem dX6_ask_100 : decode cX6_ask 100 = .ok (.iload_n 3, 1) := by decide +kernel
theorem dX6_ask_101 : decode cX6_ask 101 = .ok (.iastore, 1) := by decide +kernel
theorem dX6_ask_102 : decode cX6_ask 102 = .ok (.aload_n 0, 1) := by decide +kernel
theorem dX6_ask_103 : decode cX6_ask 103 = .ok (.dup, 1) := by decide +kernel
theorem dX6_ask_104 : decode cX6_ask 104 = .ok (.getfield 186, 3) := by decide +kernel
theorem dX6_ask_107 : decode cX6_ask 107 = .ok (.iconst 1, 1) := by decide +kernel
theorem dX6_ask_108 : decode cX6_ask 108 = .ok (.iadd, 1) := by decide +kernel
theorem dX6_ask_109 : decode cX6_ask 109 = .ok (.putfield 186, 3) := by decide +kernel
theorem dX6_ask_112 : decode cX6_ask 112 = .ok (.aload_n 0, 1) := by decide +kernel
theorem dX6_ask_113 : decode cX6_ask 113 = .ok (.getfield 186, 3) := by decide +kernel
theorem dX6_ask_116 : decode cX6_ask 116 = .ok (.ireturn, 1) := by decide +kernel
theorem dX6_isQuery_0 : decode cX6_isQuery 0 = .ok (.iconst 1, 1) := by decide +kernel
theorem dX6_isQuery_1 : decode cX6_isQuery 1 = .ok (.istore_n 1, 1) := by decide +kernel
theorem dX6_isQuery_2 : decode cX6_isQuery 2 = .ok (.iconst 0, 1) := by decide +kernel
theorem dX6_isQuery_3 : decode cX6_isQuery 3 = .ok (.istore_n 2, 1) := by decide +kernel
theorem dX6_isQuery_4 : decode cX6_isQuery 4 = .ok (.iload_n 2, 1) := by decide +kernel
theorem dX6_isQuery_5 : decode cX6_isQuery 5 = .ok (.aload_n 0, 1) := by decide +kernel
theorem dX6_isQuery_6 : decode cX6_isQuery 6 = .ok (.getfield 186, 3) := by decide +kernel
theorem dX6_isQuery_9 : decode cX6_isQuery 9 = .ok (.if_icmp .ge 48, 3) := by decide +kernel
theorem dX6_isQuery_12 : decode cX6_isQuery 12 = .ok (.iload_n 1, 1) := by decide +kernel
theorem dX6_isQuery_13 : decode cX6_isQuery 13 = .ok (.ifCond .ne 5, 3) := by decide +kernel
theorem dX6_isQuery_16 : decode cX6_isQuery 16 = .ok (.iconst 0, 1) := by decide +kernel
theorem dX6_isQuery_17 : decode cX6_isQuery 17 = .ok (.ireturn, 1) := by decide +kernel
theorem dX6_isQuery_18 : decode cX6_isQuery 18 = .ok (.iload_n 1, 1) := by decide +kernel
theorem dX6_isQuery_19 : decode cX6_isQuery 19 = .ok (.aload_n 0, 1) := by decide +kernel
theorem dX6_isQuery_20 : decode cX6_isQuery 20 = .ok (.getfield 73, 3) := by decide +kernel
theorem dX6_isQuery_23 : decode cX6_isQuery 23 = .ok (.iload_n 2, 1) := by decide +kernel
theorem dX6_isQuery_24 : decode cX6_isQuery 24 = .ok (.iaload, 1) := by decide +kernel
theorem dX6_isQuery_25 : decode cX6_isQuery 25 = .ok (.iconst 4, 1) := by decide +kernel
theorem dX6_isQuery_26 : decode cX6_isQuery 26 = .ok (.if_icmp .ge 7, 3) := by decide +kernel
theorem dX6_isQuery_29 : decode cX6_isQuery 29 = .ok (.iconst (-1), 1) := by decide +kernel
theorem dX6_isQuery_30 : decode cX6_isQuery 30 = .ok (.goto 19, 3) := by decide +kernel
theorem dX6_isQuery_33 : decode cX6_isQuery 33 = .ok (.aload_n 0, 1) := by decide +kernel
theorem dX6_isQuery_34 : decode cX6_isQuery 34 = .ok (.getfield 73, 3) := by decide +kernel
theorem dX6_isQuery_37 : decode cX6_isQuery 37 = .ok (.iload_n 2, 1) := by decide +kernel
theorem dX6_isQuery_38 : decode cX6_isQuery 38 = .ok (.iaload, 1) := by decide +kernel
theorem dX6_isQuery_39 : decode cX6_isQuery 39 = .ok (.bipush 6, 2) := by decide +kernel
theorem dX6_isQuery_41 : decode cX6_isQuery 41 = .ok (.if_icmp .ge 7, 3) := by decide +kernel
theorem dX6_isQuery_44 : decode cX6_isQuery 44 = .ok (.iconst 1, 1) := by decide +kernel
theorem dX6_isQuery_45 : decode cX6_isQuery 45 = .ok (.goto 4, 3) := by decide +kernel
theorem dX6_isQuery_48 : decode cX6_isQuery 48 = .ok (.iconst 0, 1) := by decide +kernel
theorem dX6_isQuery_49 : decode cX6_isQuery 49 = .ok (.iadd, 1) := by decide +kernel
theorem dX6_isQuery_50 : decode cX6_isQuery 50 = .ok (.istore_n 1, 1) := by decide +kernel
theorem dX6_isQuery_51 : decode cX6_isQuery 51 = .ok (.iinc 2 1, 3) := by decide +kernel
theorem dX6_isQuery_54 : decode cX6_isQuery 54 = .ok (.goto (-50), 3) := by decide +kernel
theorem dX6_isQuery_57 : decode cX6_isQuery 57 = .ok (.iload_n 1, 1) := by decide +kernel
theorem dX6_isQuery_58 : decode cX6_isQuery 58 = .ok (.ifCond .ne 7, 3) := by decide +kernel
theorem dX6_isQuery_61 : decode cX6_isQuery 61 = .ok (.iconst 1, 1) := by decide +kernel
theorem dX6_isQuery_62 : decode cX6_isQuery 62 = .ok (.goto 4, 3) := by decide +kernel
theorem dX6_isQuery_65 : decode cX6_isQuery 65 = .ok (.iconst 0, 1) := by decide +kernel
theorem dX6_isQuery_66 : decode cX6_isQuery 66 = .ok (.ireturn, 1) := by decide +kernel
theorem dX6_word_0 : decode cX6_word 0 = .ok (.lload_n 0, 1) := by decide +kernel
theorem dX6_word_1 : decode cX6_word 1 = .ok (.bipush 32, 2) := by decide +kernel
theorem dX6_word_3 : decode cX6_word 3 = .ok (.lushr, 1) := by decide +kernel
theorem dX6_word_4 : decode cX6_word 4 = .ok (.l2i, 1) := by decide +kernel
theorem dX6_word_5 : decode cX6_word 5 = .ok (.istore_n 3, 1) := by decide +kernel
theorem dX6_word_6 : decode cX6_word 6 = .ok (.iconst 0, 1) := by decide +kernel
theorem dX6_word_7 : decode cX6_word 7 = .ok (.istore 4, 2) := by decide +kernel
theorem dX6_word_9 : decode cX6_word 9 = .ok (.iload 4, 2) := by decide +kernel
theorem dX6_word_11 : decode cX6_word 11 = .ok (.iload_n 2, 1) := by decide +kernel
theorem dX6_word_12 : decode cX6_word 12 = .ok (.if_icmp .ge 23, 3) := by decide +kernel
theorem dX6_word_15 : decode cX6_word 15 = .ok (.iload_n 3, 1) := by decide +kernel
theorem dX6_word_16 : decode cX6_word 16 = .ok (.iconst 4, 1) := by decide +kernel
theorem dX6_word_17 : decode cX6_word 17 = .ok (.iload 4, 2) := by decide +kernel
theorem dX6_word_19 : decode cX6_word 19 = .ok (.imul, 1) := by decide +kernel
theorem dX6_word_20 : decode cX6_word 20 = .ok (.ishr, 1) := by decide +kernel
theorem dX6_word_21 : decode cX6_word 21 = .ok (.bipush 15, 2) := by decide +kernel
theorem dX6_word_23 : decode cX6_word 23 = .ok (.iand, 1) := by decide +kernel
theorem dX6_word_24 : decode cX6_word 24 = .ok (.ifCond .ne 5, 3) := by decide +kernel
theorem dX6_word_27 : decode cX6_word 27 = .ok (.iconst 0, 1) := by decide +kernel
theorem dX6_word_28 : decode cX6_word 28 = .ok (.ireturn, 1) := by decide +kernel
theorem dX6_word_29 : decode cX6_word 29 = .ok (.iinc 4 1, 3) := by decide +kernel
theorem dX6_word_32 : decode cX6_word 32 = .ok (.goto (-23), 3) := by decide +kernel
theorem dX6_word_35 : decode cX6_word 35 = .ok (.iload_n 2, 1) := by decide +kernel
theorem dX6_word_36 : decode cX6_word 36 = .ok (.bipush 7, 2) := by decide +kernel
theorem dX6_word_38 : decode cX6_word 38 = .ok (.if_icmp .le 7, 3) := by decide +kernel
theorem dX6_word_41 : decode cX6_word 41 = .ok (.iconst 0, 1) := by decide +kernel
theorem dX6_word_42 : decode cX6_word 42 = .ok (.goto 11, 3) := by decide +kernel
theorem dX6_word_45 : decode cX6_word 45 = .ok (.iload_n 3, 1) := by decide +kernel
theorem dX6_word_46 : decode cX6_word 46 = .ok (.iconst 4, 1) := by decide +kernel
theorem dX6_word_47 : decode cX6_word 47 = .ok (.iload_n 2, 1) := by decide +kernel
theorem dX6_word_48 : decode cX6_word 48 = .ok (.imul, 1) := by decide +kernel
theorem dX6_word_49 : decode cX6_word 49 = .ok (.ishr, 1) := by decide +kernel
theorem dX6_word_50 : decode cX6_word 50 = .ok (.bipush 15, 2) := by decide +kernel
theorem dX6_word_52 : decode cX6_word 52 = .ok (.iand, 1) := by decide +kernel
theorem dX6_word_53 : decode cX6_word 53 = .ok (.ireturn, 1) := by decide +kernel
set_option maxRecDepth 20000 in
theorem ggX6_often_X6_word : GoodIn wsX6_often wsX6_word := goodIn_r _ [4] (by decide +kernel) (by decide +kernel)
set_option maxRecDepth 20000 in
theorem gX6_often_X6_word : GoodIn wsX6_often (va_wsS RX6 189 yX6_word wsX6_word) := goodIn_app (goodIn_of _ (by decide +kernel)) ggX6_often_X6_word
theorem dX6_often_0 : decode cX6_often 0 = .ok (.iconst 0, 1) := by decide +kernel
theorem dX6_often_1 : decode cX6_often 1 = .ok (.istore 4, 2) := by decide +kernel
theorem dX6_often_3 : decode cX6_often 3 = .ok (.iconst 0, 1) := by decide +kernel
theorem dX6_often_4 : decode cX6_often 4 = .ok (.istore 5, 2) := by decide +kernel
theorem dX6_often_6 : decode cX6_often 6 = .ok (.iload 5, 2) := by decide +kernel
theorem dX6_often_8 : decode cX6_often 8 = .ok (.bipush 8, 2) := by decide +kernel
theorem dX6_often_10 : decode cX6_often 10 = .ok (.if_icmp .ge 46, 3) := by decide +kernel
theorem dX6_often_13 : decode cX6_often 13 = .ok (.lload_n 0, 1) := by decide +kernel
theorem dX6_often_14 : decode cX6_often 14 = .ok (.iload 5, 2) := by decide +kernel
theorem dX6_often_16 : decode cX6_often 16 = .ok (.invokestatic 189, 3) := by decide +kernel
theorem dX6_often_19 : decode cX6_often 19 = .ok (.istore 6, 2) := by decide +kernel
theorem dX6_often_21 : decode cX6_often 21 = .ok (.lload_n 0, 1) := by decide +kernel
theorem dX6_often_22 : decode cX6_often 22 = .ok (.iload 5, 2) := by decide +kernel
theorem dX6_often_24 : decode cX6_often 24 = .ok (.iconst 1, 1) := by decide +kernel
theorem dX6_often_25 : decode cX6_often 25 = .ok (.iadd, 1) := by decide +kernel
theorem dX6_often_26 : decode cX6_often 26 = .ok (.invokestatic 189, 3) := by decide +kernel
theorem dX6_often_29 : decode cX6_often 29 = .ok (.istore 7, 2) := by decide +kernel
theorem dX6_often_31 : decode cX6_often 31 = .ok (.iload 6, 2) := by decide +kernel
theorem dX6_often_33 : decode cX6_often 33 = .ok (.iload_n 2, 1) := by decide +kernel
theorem dX6_often_34 : decode cX6_often 34 = .ok (.if_icmp .ne 16, 3) := by decide +kernel
theorem dX6_often_37 : decode cX6_often 37 = .ok (.iload_n 3, 1) := by decide +kernel
theorem dX6_often_38 : decode cX6_often 38 = .ok (.ifCond .eq 9, 3) := by decide +kernel
theorem dX6_often_41 : decode cX6_often 41 = .ok (.iload 7, 2) := by decide +kernel
theorem dX6_often_43 : decode cX6_often 43 = .ok (.iload_n 3, 1) := by decide +kernel
theorem dX6_often_44 : decode cX6_often 44 = .ok (.if_icmp .ne 6, 3) := by decide +kernel
theorem dX6_often_47 : decode cX6_often 47 = .ok (.iinc 4 1, 3) := by decide +kernel
theorem dX6_often_50 : decode cX6_often 50 = .ok (.iinc 5 1, 3) := by decide +kernel
theorem dX6_often_53 : decode cX6_often 53 = .ok (.goto (-47), 3) := by decide +kernel
theorem dX6_often_56 : decode cX6_often 56 = .ok (.iload 4, 2) := by decide +kernel
theorem dX6_often_58 : decode cX6_often 58 = .ok (.ireturn, 1) := by decide +kernel
set_option maxRecDepth 20000 in
theorem ggX6_given_X6_often : GoodIn wsX6_given wsX6_often := goodIn_r _ [7, 8, 9, 6, 10] (by decide +kernel) (by decide +kernel)
set_option maxRecDepth 20000 in
theorem gX6_given_X6_often : GoodIn wsX6_given (va_wsS RX6 193 yX6_often wsX6_often) := goodIn_app (goodIn_of _ (by decide +kernel)) ggX6_given_X6_often
theorem dX6_given_0 : decode cX6_given 0 = .ok (.lload_n 2, 1) := by decide +kernel
theorem dX6_given_1 : decode cX6_given 1 = .ok (.l2i, 1) := by decide +kernel
theorem dX6_given_2 : decode cX6_given 2 = .ok (.istore 4, 2) := by decide +kernel
theorem dX6_given_4 : decode cX6_given 4 = .ok (.aload_n 0, 1) := by decide +kernel
theorem dX6_given_5 : decode cX6_given 5 = .ok (.getfield 73, 3) := by decide +kernel
theorem dX6_given_8 : decode cX6_given 8 = .ok (.iload_n 1, 1) := by decide +kernel
theorem dX6_given_9 : decode cX6_given 9 = .ok (.iaload, 1) := by decide +kernel
theorem dX6_given_10 : decode cX6_given 10 = .ok (.iconst 1, 1) := by decide +kernel
theorem dX6_given_11 : decode cX6_given 11 = .ok (.if_icmp .ne 15, 3) := by decide +kernel
theorem dX6_given_14 : decode cX6_given 14 = .ok (.lload_n 2, 1) := by decide +kernel
theorem dX6_given_15 : decode cX6_given 15 = .ok (.aload_n 0, 1) := by decide +kernel
theorem dX6_given_16 : decode cX6_given 16 = .ok (.getfield 76, 3) := by decide +kernel
theorem dX6_given_19 : decode cX6_given 19 = .ok (.iload_n 1, 1) := by decide +kernel
theorem dX6_given_20 : decode cX6_given 20 = .ok (.iaload, 1) := by decide +kernel
theorem dX6_given_21 : decode cX6_given 21 = .ok (.iconst 0, 1) := by decide +kernel
theorem dX6_given_22 : decode cX6_given 22 = .ok (.invokestatic 193, 3) := by decide +kernel
theorem dX6_given_25 : decode cX6_given 25 = .ok (.ireturn, 1) := by decide +kernel
theorem dX6_given_26 : decode cX6_given 26 = .ok (.aload_n 0, 1) := by decide +kernel
theorem dX6_given_27 : decode cX6_given 27 = .ok (.getfield 73, 3) := by decide +kernel
theorem dX6_given_30 : decode cX6_given 30 = .ok (.iload_n 1, 1) := by decide +kernel
theorem dX6_given_31 : decode cX6_given 31 = .ok (.iaload, 1) := by decide +kernel
theorem dX6_given_32 : decode cX6_given 32 = .ok (.iconst 2, 1) := by decide +kernel
theorem dX6_given_33 : decode cX6_given 33 = .ok (.if_icmp .ne 22, 3) := by decide +kernel
theorem dX6_given_36 : decode cX6_given 36 = .ok (.iconst 2, 1) := by decide +kernel
theorem dX6_given_37 : decode cX6_given 37 = .ok (.lload_n 2, 1) := by decide +kernel
theorem dX6_given_38 : decode cX6_given 38 = .ok (.aload_n 0, 1) := by decide +kernel
theorem dX6_given_39 : decode cX6_given 39 = .ok (.getfield 76, 3) := by decide +kernel
theorem dX6_given_42 : decode cX6_given 42 = .ok (.iload_n 1, 1) := by decide +kernel
theorem dX6_given_43 : decode cX6_given 43 = .ok (.iaload, 1) := by decide +kernel
theorem dX6_given_44 : decode cX6_given 44 = .ok (.aload_n 0, 1) := by decide +kernel
theorem dX6_given_45 : decode cX6_given 45 = .ok (.getfield 79, 3) := by decide +kernel
theorem dX6_given_48 : decode cX6_given 48 = .ok (.iload_n 1, 1) := by decide +kernel
theorem dX6_given_49 : decode cX6_given 49 = .ok (.iaload, 1) := by decide +kernel
theorem dX6_given_50 : decode cX6_given 50 = .ok (.invokestatic 193, 3) := by decide +kernel
theorem dX6_given_53 : decode cX6_given 53 = .ok (.imul, 1) := by decide +kernel
theorem dX6_given_54 : decode cX6_given 54 = .ok (.ireturn, 1) := by decide +kernel
theorem dX6_given_55 : decode cX6_given 55 = .ok (.aload_n 0, 1) := by decide +kernel
theorem dX6_given_56 : decode cX6_given 56 = .ok (.getfield 73, 3) := by decide +kernel
theorem dX6_given_59 : decode cX6_given 59 = .ok (.iload_n 1, 1) := by decide +kernel
theorem dX6_given_60 : decode cX6_given 60 = .ok (.iaload, 1) := by decide +kernel
theorem dX6_given_61 : decode cX6_given 61 = .ok (.ifCond .eq 25, 3) := by decide +kernel
theorem dX6_given_64 : decode cX6_given 64 = .ok (.iload 4, 2) := by decide +kernel
theorem dX6_given_66 : decode cX6_given 66 = .ok (.aload_n 0, 1) := by decide +kernel
theorem dX6_given_67 : decode cX6_given 67 = .ok (.getfield 76, 3) := by decide +kernel
theorem dX6_given_70 : decode cX6_given 70 = .ok (.iload_n 1, 1) := by decide +kernel
theorem dX6_given_71 : decode cX6_given 71 = .ok (.iaload, 1) := by decide +kernel
theorem dX6_given_72 : decode cX6_given 72 = .ok (.if_icmp .lt 18, 3) := by decide +kernel
theorem dX6_given_75 : decode cX6_given 75 = .ok (.iload 4, 2) := by decide +kernel
theorem dX6_given_77 : decode cX6_given 77 = .ok (.aload_n 0, 1) := by decide +kernel
theorem dX6_given_78 : decode cX6_given 78 = .ok (.getfield 79, 3) := by decide +kernel
theorem dX6_given_81 : decode cX6_given 81 = .ok (.iload_n 1, 1) := by decide +kernel
theorem dX6_given_82 : decode cX6_given 82 = .ok (.iaload, 1) := by decide +kernel
theorem dX6_given_83 : decode cX6_given 83 = .ok (.if_icmp .gt 7, 3) := by decide +kernel
theorem dX6_given_86 : decode cX6_given 86 = .ok (.iconst 1, 1) := by decide +kernel
theorem dX6_given_87 : decode cX6_given 87 = .ok (.goto 4, 3) := by decide +kernel
theorem dX6_given_90 : decode cX6_given 90 = .ok (.iconst 0, 1) := by decide +kernel
theorem dX6_given_91 : decode cX6_given 91 = .ok (.ireturn, 1) := by decide +kernel
set_option maxRecDepth 20000 in
theorem ggX6_worth_X6_given : GoodIn wsX6_worth wsX6_given := goodIn_r _ [11, 3, 12, 13, 14, 15, 10, 16, 17, 18, 19, 20, 21, 22, 23, 24, 25, 26, 27, 28, 29, 30, 31, 32, 33, 34, 35, 36, 37, 38, 39, 40, 41, 42, 43, 44, 45, 46, 47, 48, 49, 50, 51, 52, 53, 54, 55] (by decide +kernel) (by decide +kernel)
set_option maxRecDepth 20000 in
theorem gX6_worth_X6_given : GoodIn wsX6_worth (wsV RX6 197 RX6 yX6_given wsX6_given) := goodIn_app (goodIn_of _ (by decide +kernel)) ggX6_worth_X6_given
theorem dX6_worth_0 : decode cX6_worth 0 = .ok (.aload_n 0, 1) := by decide +kernel
theorem dX6_worth_1 : decode cX6_worth 1 = .ok (.getfield 28, 3) := by decide +kernel
theorem dX6_worth_4 : decode cX6_worth 4 = .ok (.iload_n 1, 1) := by decide +kernel
theorem dX6_worth_5 : decode cX6_worth 5 = .ok (.iaload, 1) := by decide +kernel
theorem dX6_worth_6 : decode cX6_worth 6 = .ok (.ifCond .ge 5, 3) := by decide +kernel
theorem dX6_worth_9 : decode cX6_worth 9 = .ok (.iconst (-1), 1) := by decide +kernel
theorem dX6_worth_10 : decode cX6_worth 10 = .ok (.ireturn, 1) := by decide +kernel
theorem dX6_worth_11 : decode cX6_worth 11 = .ok (.iconst 0, 1) := by decide +kernel
theorem dX6_worth_12 : decode cX6_worth 12 = .ok (.istore_n 2, 1) := by decide +kernel
theorem dX6_worth_13 : decode cX6_worth 13 = .ok (.aload_n 0, 1) := by decide +kernel
theorem dX6_worth_14 : decode cX6_worth 14 = .ok (.getfield 186, 3) := by decide +kernel
theorem dX6_worth_17 : decode cX6_worth 17 = .ok (.iconst 1, 1) := by decide +kernel
theorem dX6_worth_18 : decode cX6_worth 18 = .ok (.isub, 1) := by decide +kernel
theorem dX6_worth_19 : decode cX6_worth 19 = .ok (.istore_n 3, 1) := by decide +kernel
theorem dX6_worth_20 : decode cX6_worth 20 = .ok (.iload_n 3, 1) := by decide +kernel
theorem dX6_worth_21 : decode cX6_worth 21 = .ok (.ifCond .lt 196, 3) := by decide +kernel
theorem dX6_worth_24 : decode cX6_worth 24 = .ok (.aload_n 0, 1) := by decide +kernel
theorem dX6_worth_25 : decode cX6_worth 25 = .ok (.getfield 73, 3) := by decide +kernel
theorem dX6_worth_28 : decode cX6_worth 28 = .ok (.iload_n 3, 1) := by decide +kernel
theorem dX6_worth_29 : decode cX6_worth 29 = .ok (.iaload, 1) := by decide +kernel
theorem dX6_worth_30 : decode cX6_worth 30 = .ok (.istore 4, 2) := by decide +kernel
theorem dX6_worth_32 : decode cX6_worth 32 = .ok (.iload 4, 2) := by decide +kernel
theorem dX6_worth_34 : decode cX6_worth 34 = .ok (.iconst 4, 1) := by decide +kernel
theorem dX6_worth_35 : decode cX6_worth 35 = .ok (.if_icmp .ge 46, 3) := by decide +kernel
theorem dX6_worth_38 : decode cX6_worth 38 = .ok (.aload_n 0, 1) := by decide +kernel
theorem dX6_worth_39 : decode cX6_worth 39 = .ok (.getfield 82, 3) := by decide +kernel
theorem dX6_worth_42 : decode cX6_worth 42 = .ok (.iload_n 2, 1) := by decide +kernel
theorem dX6_worth_43 : decode cX6_worth 43 = .ok (.aload_n 0, 1) := by decide +kernel
theorem dX6_worth_44 : decode cX6_worth 44 = .ok (.iload_n 3, 1) := by decide +kernel
theorem dX6_worth_45 : decode cX6_worth 45 = .ok (.aload_n 0, 1) := by decide +kernel
theorem dX6_worth_46 : decode cX6_worth 46 = .ok (.getfield 38, 3) := by decide +kernel
theorem dX6_worth_49 : decode cX6_worth 49 = .ok (.iload_n 1, 1) := by decide +kernel
theorem dX6_worth_50 : decode cX6_worth 50 = .ok (.laload, 1) := by decide +kernel
theorem dX6_worth_51 : decode cX6_worth 51 = .ok (.invokevirtual 197, 3) := by decide +kernel
theorem dX6_worth_54 : decode cX6_worth 54 = .ok (.iastore, 1) := by decide +kernel
theorem dX6_worth_55 : decode cX6_worth 55 = .ok (.aload_n 0, 1) := by decide +kernel
theorem dX6_worth_56 : decode cX6_worth 56 = .ok (.getfield 85, 3) := by decide +kernel
theorem dX6_worth_59 : decode cX6_worth 59 = .ok (.iload_n 2, 1) := by decide +kernel
theorem dX6_worth_60 : decode cX6_worth 60 = .ok (.aload_n 0, 1) := by decide +kernel
theorem dX6_worth_61 : decode cX6_worth 61 = .ok (.getfield 82, 3) := by decide +kernel
theorem dX6_worth_64 : decode cX6_worth 64 = .ok (.iload_n 2, 1) := by decide +kernel
theorem dX6_worth_65 : decode cX6_worth 65 = .ok (.iaload, 1) := by decide +kernel
theorem dX6_worth_66 : decode cX6_worth 66 = .ok (.ifCond .le 7, 3) := by decide +kernel
theorem dX6_worth_69 : decode cX6_worth 69 = .ok (.iconst 1, 1) := by decide +kernel
theorem dX6_worth_70 : decode cX6_worth 70 = .ok (.goto 4, 3) := by decide +kernel
theorem dX6_worth_73 : decode cX6_worth 73 = .ok (.iconst 0, 1) := by decide +kernel
theorem dX6_worth_74 : decode cX6_worth 74 = .ok (.bastore, 1) := by decide +kernel
theorem dX6_worth_75 : decode cX6_worth 75 = .ok (.iinc 2 1, 3) := by decide +kernel
theorem dX6_worth_78 : decode cX6_worth 78 = .ok (.goto 133, 3) := by decide +kernel
theorem dX6_worth_81 : decode cX6_worth 81 = .ok (.iload 4, 2) := by decide +kernel
theorem dX6_worth_83 : decode cX6_worth 83 = .ok (.bipush 6, 2) := by decide +kernel
theorem dX6_worth_85 : decode cX6_worth 85 = .ok (.if_icmp .ne 39, 3) := by decide +kernel
theorem dX6_worth_88 : decode cX6_worth 88 = .ok (.aload_n 0, 1) := by decide +kernel
theorem dX6_worth_89 : decode cX6_worth 89 = .ok (.getfield 82, 3) := by decide +kernel
theorem dX6_worth_92 : decode cX6_worth 92 = .ok (.iload_n 2, 1) := by decide +kernel
theorem dX6_worth_93 : decode cX6_worth 93 = .ok (.iconst 1, 1) := by decide +kernel
theorem dX6_worth_94 : decode cX6_worth 94 = .ok (.isub, 1) := by decide +kernel
theorem dX6_worth_95 : decode cX6_worth 95 = .ok (.iconst 0, 1) := by decide +kernel
theorem dX6_worth_96 : decode cX6_worth 96 = .ok (.iastore, 1) := by decide +kernel
theorem dX6_worth_97 : decode cX6_worth 97 = .ok (.aload_n 0, 1) := by decide +kernel
theorem dX6_worth_98 : decode cX6_worth 98 = .ok (.getfield 85, 3) := by decide +kernel
theorem dX6_worth_101 : decode cX6_worth 101 = .ok (.iload_n 2, 1) := by decide +kernel
theorem dX6_worth_102 : decode cX6_worth 102 = .ok (.iconst 1, 1) := by decide +kernel
theorem dX6_worth_103 : decode cX6_worth 103 = .ok (.isub, 1) := by decide +kernel
theorem dX6_worth_104 : decode cX6_worth 104 = .ok (.aload_n 0, 1) := by decide +kernel
theorem dX6_worth_105 : decode cX6_worth 105 = .ok (.getfield 85, 3) := by decide +kernel
theorem dX6_worth_108 : decode cX6_worth 108 = .ok (.iload_n 2, 1) := by decide +kernel
theorem dX6_worth_109 : decode cX6_worth 109 = .ok (.iconst 1, 1) := by decide +kernel
theorem dX6_worth_110 : decode cX6_worth 110 = .ok (.isub, 1) := by decide +kernel
theorem dX6_worth_111 : decode cX6_worth 111 = .ok (.baload, 1) := by decide +kernel
theorem dX6_worth_112 : decode cX6_worth 112 = .ok (.ifCond .ne 7, 3) := by decide +kernel
theorem dX6_worth_115 : decode cX6_worth 115 = .ok (.iconst 1, 1) := by decide +kernel
theorem dX6_worth_116 : decode cX6_worth 116 = .ok (.goto 4, 3) := by decide +kernel
theorem dX6_worth_119 : decode cX6_worth 119 = .ok (.iconst 0, 1) := by decide +kernel
theorem dX6_worth_120 : decode cX6_worth 120 = .ok (.bastore, 1) := by decide +kernel
theorem dX6_worth_121 : decode cX6_worth 121 = .ok (.goto 90, 3) := by decide +kernel
theorem dX6_worth_124 : decode cX6_worth 124 = .ok (.iinc 2 (-1), 3) := by decide +kernel
theorem dX6_worth_127 : decode cX6_worth 127 = .ok (.aload_n 0, 1) := by decide +kernel
theorem dX6_worth_128 : decode cX6_worth 128 = .ok (.getfield 82, 3) := by decide +kernel
theorem dX6_worth_131 : decode cX6_worth 131 = .ok (.iload_n 2, 1) := by decide +kernel
theorem dX6_worth_132 : decode cX6_worth 132 = .ok (.iconst 1, 1) := by decide +kernel
theorem dX6_worth_133 : decode cX6_worth 133 = .ok (.isub, 1) := by decide +kernel
theorem dX6_worth_134 : decode cX6_worth 134 = .ok (.dup2, 1) := by decide +kernel
theorem dX6_worth_135 : decode cX6_worth 135 = .ok (.iaload, 1) := by decide +kernel
theorem dX6_worth_136 : decode cX6_worth 136 = .ok (.aload_n 0, 1) := by decide +kernel
theorem dX6_worth_137 : decode cX6_worth 137 = .ok (.getfield 82, 3) := by decide +kernel
theorem dX6_worth_140 : decode cX6_worth 140 = .ok (.iload_n 2, 1) := by decide +kernel
theorem dX6_worth_141 : decode cX6_worth 141 = .ok (.iaload, 1) := by decide +kernel
theorem dX6_worth_142 : decode cX6_worth 142 = .ok (.iadd, 1) := by decide +kernel
theorem dX6_worth_143 : decode cX6_worth 143 = .ok (.iastore, 1) := by decide +kernel
theorem dX6_worth_144 : decode cX6_worth 144 = .ok (.aload_n 0, 1) := by decide +kernel
theorem dX6_worth_145 : decode cX6_worth 145 = .ok (.getfield 85, 3) := by decide +kernel
theorem dX6_worth_148 : decode cX6_worth 148 = .ok (.iload_n 2, 1) := by decide +kernel
theorem dX6_worth_149 : decode cX6_worth 149 = .ok (.iconst 1, 1) := by decide +kernel
theorem dX6_worth_150 : decode cX6_worth 150 = .ok (.isub, 1) := by decide +kernel
theorem dX6_worth_151 : decode cX6_worth 151 = .ok (.iload 4, 2) := by decide +kernel
theorem dX6_worth_153 : decode cX6_worth 153 = .ok (.iconst 4, 1) := by decide +kernel
theorem dX6_worth_154 : decode cX6_worth 154 = .ok (.if_icmp .ne 31, 3) := by decide +kernel
theorem dX6_worth_157 : decode cX6_worth 157 = .ok (.aload_n 0, 1) := by decide +kernel
theorem dX6_worth_158 : decode cX6_worth 158 = .ok (.getfield 85, 3) := by decide +kernel
theorem dX6_worth_161 : decode cX6_worth 161 = .ok (.iload_n 2, 1) := by decide +kernel
theorem dX6_worth_162 : decode cX6_worth 162 = .ok (.iconst 1, 1) := by decide +kernel
theorem dX6_worth_163 : decode cX6_worth 163 = .ok (.isub, 1) := by decide +kernel
theorem dX6_worth_164 : decode cX6_worth 164 = .ok (.baload, 1) := by decide +kernel
theorem dX6_worth_165 : decode cX6_worth 165 = .ok (.ifCond .eq 16, 3) := by decide +kernel
theorem dX6_worth_168 : decode cX6_worth 168 = .ok (.aload_n 0, 1) := by decide +kernel
theorem dX6_worth_169 : decode cX6_worth 169 = .ok (.getfield 85, 3) := by decide +kernel
theorem dX6_worth_172 : decode cX6_worth 172 = .ok (.iload_n 2, 1) := by decide +kernel
theorem dX6_worth_173 : decode cX6_worth 173 = .ok (.baload, 1) := by decide +kernel
theorem dX6_worth_174 : decode cX6_worth 174 = .ok (.ifCond .eq 7, 3) := by decide +kernel
theorem dX6_worth_177 : decode cX6_worth 177 = .ok (.iconst 1, 1) := by decide +kernel
theorem dX6_worth_178 : decode cX6_worth 178 = .ok (.goto 32, 3) := by decide +kernel
theorem dX6_worth_181 : decode cX6_worth 181 = .ok (.iconst 0, 1) := by decide +kernel
theorem dX6_worth_182 : decode cX6_worth 182 = .ok (.goto 28, 3) := by decide +kernel
