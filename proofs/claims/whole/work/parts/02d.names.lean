theorem dX5_sync_0 : decode cX5_sync 0 = .ok (.aload_n 0, 1) := by decide +kernel
theorem dX5_sync_1 : decode cX5_sync 1 = .ok (.getfield 58, 3) := by decide +kernel
theorem dX5_sync_4 : decode cX5_sync 4 = .ok (.ifCond .eq 6, 3) := by decide +kernel
theorem dX5_sync_7 : decode cX5_sync 7 = .ok (.bipush (-4), 2) := by decide +kernel
theorem dX5_sync_9 : decode cX5_sync 9 = .ok (.ireturn, 1) := by decide +kernel
theorem dX5_sync_10 : decode cX5_sync 10 = .ok (.iload_n 1, 1) := by decide +kernel
theorem dX5_sync_11 : decode cX5_sync 11 = .ok (.ifCond .eq 17, 3) := by decide +kernel
theorem dX5_sync_14 : decode cX5_sync 14 = .ok (.aload_n 0, 1) := by decide +kernel
theorem dX5_sync_15 : decode cX5_sync 15 = .ok (.getfield 29, 3) := by decide +kernel
theorem dX5_sync_18 : decode cX5_sync 18 = .ok (.invokevirtual 134, 3) := by decide +kernel
theorem dX5_sync_21 : decode cX5_sync 21 = .ok (.iconst 4, 1) := by decide +kernel
theorem dX5_sync_22 : decode cX5_sync 22 = .ok (.if_icmp .lt 6, 3) := by decide +kernel
theorem dX5_sync_25 : decode cX5_sync 25 = .ok (.bipush (-3), 2) := by decide +kernel
theorem dX5_sync_27 : decode cX5_sync 27 = .ok (.ireturn, 1) := by decide +kernel
theorem dX5_sync_28 : decode cX5_sync 28 = .ok (.aload_n 0, 1) := by decide +kernel
theorem dX5_sync_29 : decode cX5_sync 29 = .ok (.getfield 29, 3) := by decide +kernel
theorem dX5_sync_32 : decode cX5_sync 32 = .ok (.invokevirtual 135, 3) := by decide +kernel
theorem dX5_sync_35 : decode cX5_sync 35 = .ok (.istore_n 2, 1) := by decide +kernel
theorem dX5_sync_36 : decode cX5_sync 36 = .ok (.aload_n 0, 1) := by decide +kernel
theorem dX5_sync_37 : decode cX5_sync 37 = .ok (.aload_n 0, 1) := by decide +kernel
theorem dX5_sync_38 : decode cX5_sync 38 = .ok (.getfield 10, 3) := by decide +kernel
theorem dX5_sync_41 : decode cX5_sync 41 = .ok (.getfield 81, 3) := by decide +kernel
theorem dX5_sync_44 : decode cX5_sync 44 = .ok (.putfield 51, 3) := by decide +kernel
theorem dX5_sync_47 : decode cX5_sync 47 = .ok (.iload_n 1, 1) := by decide +kernel
theorem dX5_sync_48 : decode cX5_sync 48 = .ok (.ifCond .ne 5, 3) := by decide +kernel
theorem dX5_sync_51 : decode cX5_sync 51 = .ok (.iload_n 2, 1) := by decide +kernel
theorem dX5_sync_52 : decode cX5_sync 52 = .ok (.ireturn, 1) := by decide +kernel
theorem dX5_sync_53 : decode cX5_sync 53 = .ok (.aload_n 0, 1) := by decide +kernel
theorem dX5_sync_54 : decode cX5_sync 54 = .ok (.getfield 29, 3) := by decide +kernel
theorem dX5_sync_57 : decode cX5_sync 57 = .ok (.invokevirtual 138, 3) := by decide +kernel
theorem dX5_sync_60 : decode cX5_sync 60 = .ok (.aload_n 0, 1) := by decide +kernel
theorem dX5_sync_61 : decode cX5_sync 61 = .ok (.getfield 29, 3) := by decide +kernel
theorem dX5_sync_64 : decode cX5_sync 64 = .ok (.getfield 141, 3) := by decide +kernel
theorem dX5_sync_67 : decode cX5_sync 67 = .ok (.ireturn, 1) := by decide +kernel
set_option maxRecDepth 20000 in
theorem ggX5_flush_X2_countUpTo : GoodIn wsX5_flush wsX2_countUpTo := goodIn_r _ [12, 13, 14, 15, 16, 17, 11, 18, 77, 78, 79, 80, 81, 82] (by decide +kernel) (by decide +kernel)
set_option maxRecDepth 20000 in
theorem gX5_flush_X2_countUpTo : GoodIn wsX5_flush (wsV RX5 144 RX2 yX2_countUpTo wsX2_countUpTo) := goodIn_app (goodIn_of _ (by decide +kernel)) ggX5_flush_X2_countUpTo
set_option maxRecDepth 20000 in
theorem ggX5_flush_X2_count : GoodIn wsX5_flush wsX2_count := goodIn_r _ [22, 14, 13, 77, 78, 79, 80, 81, 82] (by decide +kernel) (by decide +kernel)
set_option maxRecDepth 20000 in
theorem gX5_flush_X2_count : GoodIn wsX5_flush (wsV RX5 134 RX2 yX2_count wsX2_count) := goodIn_app (goodIn_of _ (by decide +kernel)) ggX5_flush_X2_count
set_option maxRecDepth 20000 in
theorem ggX5_flush_X2_syncCurrent : GoodIn wsX5_flush wsX2_syncCurrent := goodIn_r _ [26, 14, 27, 28, 29, 30, 11, 31, 32, 33, 34, 35, 36, 16, 17, 18, 77, 78, 79, 80, 81, 82] (by decide +kernel) (by decide +kernel)
set_option maxRecDepth 20000 in
theorem gX5_flush_X2_syncCurrent : GoodIn wsX5_flush (wsV RX5 135 RX2 yX2_syncCurrent wsX2_syncCurrent) := goodIn_app (goodIn_of _ (by decide +kernel)) ggX5_flush_X2_syncCurrent
set_option maxRecDepth 20000 in
theorem ggX5_flush_X1_startFrom : GoodIn wsX5_flush wsX1_startFrom := goodIn_r _ [41, 42, 43, 44, 45, 46, 47, 48, 49, 50, 51, 52, 53, 54, 73, 74, 75, 76, 83, 84, 85, 86] (by decide +kernel) (by decide +kernel)
set_option maxRecDepth 20000 in
theorem gX5_flush_X1_startFrom : GoodIn wsX5_flush (wsV RX5 147 RX1 yX1_startFrom wsX1_startFrom) := goodIn_app (goodIn_of _ (by decide +kernel)) ggX5_flush_X1_startFrom
set_option maxRecDepth 20000 in
theorem ggX5_flush_X2_begin : GoodIn wsX5_flush wsX2_begin := goodIn_r _ [58, 14, 27, 36, 16, 17, 11, 18, 59, 60, 61, 62, 15, 77, 78, 79, 80, 81, 82] (by decide +kernel) (by decide +kernel)
set_option maxRecDepth 20000 in
theorem gX5_flush_X2_begin : GoodIn wsX5_flush (wsV RX5 138 RX2 yX2_begin wsX2_begin) := goodIn_app (goodIn_of _ (by decide +kernel)) ggX5_flush_X2_begin
theorem dX5_flush_0 : decode cX5_flush 0 = .ok (.aload_n 0, 1) := by decide +kernel
theorem dX5_flush_1 : decode cX5_flush 1 = .ok (.getfield 58, 3) := by decide +kernel
theorem dX5_flush_4 : decode cX5_flush 4 = .ok (.ifCond .eq 6, 3) := by decide +kernel
theorem dX5_flush_7 : decode cX5_flush 7 = .ok (.bipush (-4), 2) := by decide +kernel
theorem dX5_flush_9 : decode cX5_flush 9 = .ok (.ireturn, 1) := by decide +kernel
theorem dX5_flush_10 : decode cX5_flush 10 = .ok (.aload_n 0, 1) := by decide +kernel
theorem dX5_flush_11 : decode cX5_flush 11 = .ok (.getfield 29, 3) := by decide +kernel
theorem dX5_flush_14 : decode cX5_flush 14 = .ok (.aload_n 0, 1) := by decide +kernel
theorem dX5_flush_15 : decode cX5_flush 15 = .ok (.getfield 10, 3) := by decide +kernel
theorem dX5_flush_18 : decode cX5_flush 18 = .ok (.getfield 81, 3) := by decide +kernel
theorem dX5_flush_21 : decode cX5_flush 21 = .ok (.invokevirtual 144, 3) := by decide +kernel
theorem dX5_flush_24 : decode cX5_flush 24 = .ok (.istore_n 1, 1) := by decide +kernel
theorem dX5_flush_25 : decode cX5_flush 25 = .ok (.aload_n 0, 1) := by decide +kernel
theorem dX5_flush_26 : decode cX5_flush 26 = .ok (.getfield 29, 3) := by decide +kernel
theorem dX5_flush_29 : decode cX5_flush 29 = .ok (.invokevirtual 134, 3) := by decide +kernel
theorem dX5_flush_32 : decode cX5_flush 32 = .ok (.iload_n 1, 1) := by decide +kernel
theorem dX5_flush_33 : decode cX5_flush 33 = .ok (.isub, 1) := by decide +kernel
theorem dX5_flush_34 : decode cX5_flush 34 = .ok (.iconst 4, 1) := by decide +kernel
theorem dX5_flush_35 : decode cX5_flush 35 = .ok (.if_icmp .lt 6, 3) := by decide +kernel
theorem dX5_flush_38 : decode cX5_flush 38 = .ok (.bipush (-3), 2) := by decide +kernel
theorem dX5_flush_40 : decode cX5_flush 40 = .ok (.ireturn, 1) := by decide +kernel
theorem dX5_flush_41 : decode cX5_flush 41 = .ok (.aload_n 0, 1) := by decide +kernel
theorem dX5_flush_42 : decode cX5_flush 42 = .ok (.getfield 29, 3) := by decide +kernel
theorem dX5_flush_45 : decode cX5_flush 45 = .ok (.invokevirtual 135, 3) := by decide +kernel
theorem dX5_flush_48 : decode cX5_flush 48 = .ok (.pop, 1) := by decide +kernel
theorem dX5_flush_49 : decode cX5_flush 49 = .ok (.aload_n 0, 1) := by decide +kernel
theorem dX5_flush_50 : decode cX5_flush 50 = .ok (.aload_n 0, 1) := by decide +kernel
theorem dX5_flush_51 : decode cX5_flush 51 = .ok (.getfield 10, 3) := by decide +kernel
theorem dX5_flush_54 : decode cX5_flush 54 = .ok (.getfield 81, 3) := by decide +kernel
theorem dX5_flush_57 : decode cX5_flush 57 = .ok (.putfield 51, 3) := by decide +kernel
theorem dX5_flush_60 : decode cX5_flush 60 = .ok (.aload_n 0, 1) := by decide +kernel
theorem dX5_flush_61 : decode cX5_flush 61 = .ok (.getfield 16, 3) := by decide +kernel
theorem dX5_flush_64 : decode cX5_flush 64 = .ok (.aload_n 0, 1) := by decide +kernel
theorem dX5_flush_65 : decode cX5_flush 65 = .ok (.getfield 10, 3) := by decide +kernel
theorem dX5_flush_68 : decode cX5_flush 68 = .ok (.invokevirtual 147, 3) := by decide +kernel
theorem dX5_flush_71 : decode cX5_flush 71 = .ok (.aload_n 0, 1) := by decide +kernel
theorem dX5_flush_72 : decode cX5_flush 72 = .ok (.getfield 29, 3) := by decide +kernel
theorem dX5_flush_75 : decode cX5_flush 75 = .ok (.dup, 1) := by decide +kernel
theorem dX5_flush_76 : decode cX5_flush 76 = .ok (.getfield 151, 3) := by decide +kernel
theorem dX5_flush_79 : decode cX5_flush 79 = .ok (.iload_n 1, 1) := by decide +kernel
theorem dX5_flush_80 : decode cX5_flush 80 = .ok (.iadd, 1) := by decide +kernel
theorem dX5_flush_81 : decode cX5_flush 81 = .ok (.putfield 151, 3) := by decide +kernel
theorem dX5_flush_84 : decode cX5_flush 84 = .ok (.aload_n 0, 1) := by decide +kernel
theorem dX5_flush_85 : decode cX5_flush 85 = .ok (.getfield 29, 3) := by decide +kernel
theorem dX5_flush_88 : decode cX5_flush 88 = .ok (.invokevirtual 138, 3) := by decide +kernel
theorem dX5_flush_91 : decode cX5_flush 91 = .ok (.iload_n 1, 1) := by decide +kernel
theorem dX5_flush_92 : decode cX5_flush 92 = .ok (.ireturn, 1) := by decide +kernel
set_option maxRecDepth 20000 in
theorem ggX5_crash_X2_unsynced : GoodIn wsX5_crash wsX2_unsynced := goodIn_r _ [8, 9, 10, 11, 12, 13, 7, 14, 15, 16, 17, 18, 33, 34, 35, 36, 37, 38] (by decide +kernel) (by decide +kernel)
set_option maxRecDepth 20000 in
theorem gX5_crash_X2_unsynced : GoodIn wsX5_crash (wsV RX5 154 RX2 yX2_unsynced wsX2_unsynced) := goodIn_app (goodIn_of _ (by decide +kernel)) ggX5_crash_X2_unsynced
set_option maxRecDepth 20000 in
theorem ggX5_crash_X2_cutCurrent : GoodIn wsX5_crash wsX2_cutCurrent := goodIn_r _ [22, 15, 9, 16, 17, 7, 18, 33, 34, 35, 36, 37, 38] (by decide +kernel) (by decide +kernel)
set_option maxRecDepth 20000 in
theorem gX5_crash_X2_cutCurrent : GoodIn wsX5_crash (wsV RX5 160 RX2 yX2_cutCurrent wsX2_cutCurrent) := goodIn_app (goodIn_of _ (by decide +kernel)) ggX5_crash_X2_cutCurrent
theorem dX5_crash_0 : decode cX5_crash 0 = .ok (.aload_n 0, 1) := by decide +kernel
theorem dX5_crash_1 : decode cX5_crash 1 = .ok (.getfield 58, 3) := by decide +kernel
theorem dX5_crash_4 : decode cX5_crash 4 = .ok (.ifCond .eq 6, 3) := by decide +kernel
theorem dX5_crash_7 : decode cX5_crash 7 = .ok (.bipush (-4), 2) := by decide +kernel
theorem dX5_crash_9 : decode cX5_crash 9 = .ok (.ireturn, 1) := by decide +kernel
theorem dX5_crash_10 : decode cX5_crash 10 = .ok (.aload_n 0, 1) := by decide +kernel
theorem dX5_crash_11 : decode cX5_crash 11 = .ok (.getfield 29, 3) := by decide +kernel
theorem dX5_crash_14 : decode cX5_crash 14 = .ok (.invokevirtual 154, 3) := by decide +kernel
theorem dX5_crash_17 : decode cX5_crash 17 = .ok (.istore_n 2, 1) := by decide +kernel
theorem dX5_crash_18 : decode cX5_crash 18 = .ok (.iload_n 1, 1) := by decide +kernel
theorem dX5_crash_19 : decode cX5_crash 19 = .ok (.ifCond .lt 8, 3) := by decide +kernel
theorem dX5_crash_22 : decode cX5_crash 22 = .ok (.iload_n 1, 1) := by decide +kernel
theorem dX5_crash_23 : decode cX5_crash 23 = .ok (.iload_n 2, 1) := by decide +kernel
theorem dX5_crash_24 : decode cX5_crash 24 = .ok (.if_icmp .le 5, 3) := by decide +kernel
theorem dX5_crash_27 : decode cX5_crash 27 = .ok (.iconst (-1), 1) := by decide +kernel
theorem dX5_crash_28 : decode cX5_crash 28 = .ok (.ireturn, 1) := by decide +kernel
theorem dX5_crash_29 : decode cX5_crash 29 = .ok (.aload_n 0, 1) := by decide +kernel
theorem dX5_crash_30 : decode cX5_crash 30 = .ok (.getfield 29, 3) := by decide +kernel
theorem dX5_crash_33 : decode cX5_crash 33 = .ok (.aload_n 0, 1) := by decide +kernel
theorem dX5_crash_34 : decode cX5_crash 34 = .ok (.getfield 29, 3) := by decide +kernel
theorem dX5_crash_37 : decode cX5_crash 37 = .ok (.getfield 157, 3) := by decide +kernel
theorem dX5_crash_40 : decode cX5_crash 40 = .ok (.iload_n 1, 1) := by decide +kernel
theorem dX5_crash_41 : decode cX5_crash 41 = .ok (.iadd, 1) := by decide +kernel
theorem dX5_crash_42 : decode cX5_crash 42 = .ok (.invokevirtual 160, 3) := by decide +kernel
theorem dX5_crash_45 : decode cX5_crash 45 = .ok (.aload_n 0, 1) := by decide +kernel
theorem dX5_crash_46 : decode cX5_crash 46 = .ok (.iconst 1, 1) := by decide +kernel
theorem dX5_crash_47 : decode cX5_crash 47 = .ok (.putfield 58, 3) := by decide +kernel
theorem dX5_crash_50 : decode cX5_crash 50 = .ok (.iload_n 2, 1) := by decide +kernel
theorem dX5_crash_51 : decode cX5_crash 51 = .ok (.iload_n 1, 1) := by decide +kernel
theorem dX5_crash_52 : decode cX5_crash 52 = .ok (.isub, 1) := by decide +kernel
theorem dX5_crash_53 : decode cX5_crash 53 = .ok (.ireturn, 1) := by decide +kernel
set_option maxRecDepth 20000 in
theorem ggX5_recover_X1_startFrom : GoodIn wsX5_recover wsX1_startFrom := goodIn_r _ [16, 17, 18, 19, 20, 21, 22, 23, 24, 25, 26, 27, 28, 29, 150, 151, 152, 153, 154, 155, 156, 157] (by decide +kernel) (by decide +kernel)
set_option maxRecDepth 20000 in
theorem gX5_recover_X1_startFrom : GoodIn wsX5_recover (wsV RX5 147 RX1 yX1_startFrom wsX1_startFrom) := goodIn_app (goodIn_of _ (by decide +kernel)) ggX5_recover_X1_startFrom
set_option maxRecDepth 20000 in
theorem ggX5_recover_X5_replayGeneration : GoodIn wsX5_recover wsX5_replayGeneration := goodIn_r _ [34, 5, 35, 36, 2, 8, 4, 37, 38, 39, 40, 41, 42, 43, 44, 45, 46, 47, 48, 49, 50, 51, 52, 53, 54, 55, 56, 57, 58, 59, 60, 61, 33, 62, 63, 64, 65, 66, 67, 68, 69, 70, 71, 72, 73, 74, 75, 76, 77, 78, 79, 80, 81, 82, 83, 84, 85, 86, 87, 88, 89, 90, 91, 92, 93, 94, 95, 96, 97, 98, 99, 100, 15, 101, 18, 20, 102, 103, 104, 105, 106, 17, 107, 108, 109, 110, 19, 111, 112, 113, 114, 24, 115, 116, 117, 118, 27, 26, 28, 119, 29, 120, 134, 135, 136, 137, 138, 139, 140, 141, 142, 143, 158, 159, 160, 161, 162, 150, 151, 152, 153, 144, 145, 146, 147, 148, 149, 154, 155, 156, 157] (by decide +kernel) (by decide +kernel)
set_option maxRecDepth 20000 in
theorem gX5_recover_X5_replayGeneration : GoodIn wsX5_recover (wsV RX5 163 RX5 yX5_replayGeneration wsX5_replayGeneration) := goodIn_app (goodIn_of _ (by decide +kernel)) ggX5_recover_X5_replayGeneration
set_option maxRecDepth 20000 in
theorem ggX5_recover_X2_cutCurrent : GoodIn wsX5_recover wsX2_cutCurrent := goodIn_r _ [124, 42, 88, 43, 44, 40, 45, 144, 145, 146, 147, 148, 149] (by decide +kernel) (by decide +kernel)
set_option maxRecDepth 20000 in
theorem gX5_recover_X2_cutCurrent : GoodIn wsX5_recover (wsV RX5 160 RX2 yX2_cutCurrent wsX2_cutCurrent) := goodIn_app (goodIn_of _ (by decide +kernel)) ggX5_recover_X2_cutCurrent
set_option maxRecDepth 20000 in
theorem ggX5_recover_X2_syncCurrent : GoodIn wsX5_recover wsX2_syncCurrent := goodIn_r _ [128, 88, 89, 129, 130, 131, 40, 132, 55, 38, 39, 41, 42, 43, 44, 45, 144, 145, 146, 147, 148, 149] (by decide +kernel) (by decide +kernel)
set_option maxRecDepth 20000 in
theorem gX5_recover_X2_syncCurrent : GoodIn wsX5_recover (wsV RX5 135 RX2 yX2_syncCurrent wsX2_syncCurrent) := goodIn_app (goodIn_of _ (by decide +kernel)) ggX5_recover_X2_syncCurrent
set_option maxRecDepth 20000 in
theorem ggX5_recover_X0_copyFrom : GoodIn wsX5_recover wsX0_copyFrom := goodIn_r _ [25, 26, 27, 28, 29, 154, 155, 156, 157] (by decide +kernel) (by decide +kernel)
set_option maxRecDepth 20000 in
theorem gX5_recover_X0_copyFrom : GoodIn wsX5_recover (wsV RX5 127 RX0 yX0_copyFrom wsX0_copyFrom) := goodIn_app (goodIn_of _ (by decide +kernel)) ggX5_recover_X0_copyFrom
theorem dX5_recover_0 : decode cX5_recover 0 = .ok (.aload_n 0, 1) := by decide +kernel
theorem dX5_recover_1 : decode cX5_recover 1 = .ok (.getfield 58, 3) := by decide +kernel
theorem dX5_recover_4 : decode cX5_recover 4 = .ok (.ifCond .ne 5, 3) := by decide +kernel
theorem dX5_recover_7 : decode cX5_recover 7 = .ok (.iconst (-1), 1) := by decide +kernel
theorem dX5_recover_8 : decode cX5_recover 8 = .ok (.ireturn, 1) := by decide +kernel
theorem dX5_recover_9 : decode cX5_recover 9 = .ok (.aload_n 0, 1) := by decide +kernel
theorem dX5_recover_10 : decode cX5_recover 10 = .ok (.getfield 10, 3) := by decide +kernel
theorem dX5_recover_13 : decode cX5_recover 13 = .ok (.aload_n 0, 1) := by decide +kernel
theorem dX5_recover_14 : decode cX5_recover 14 = .ok (.getfield 16, 3) := by decide +kernel
theorem dX5_recover_17 : decode cX5_recover 17 = .ok (.invokevirtual 147, 3) := by decide +kernel
theorem dX5_recover_20 : decode cX5_recover 20 = .ok (.aload_n 0, 1) := by decide +kernel
theorem dX5_recover_21 : decode cX5_recover 21 = .ok (.iconst 0, 1) := by decide +kernel
theorem dX5_recover_22 : decode cX5_recover 22 = .ok (.putfield 55, 3) := by decide +kernel
theorem dX5_recover_25 : decode cX5_recover 25 = .ok (.iconst 0, 1) := by decide +kernel
theorem dX5_recover_26 : decode cX5_recover 26 = .ok (.istore_n 2, 1) := by decide +kernel
theorem dX5_recover_27 : decode cX5_recover 27 = .ok (.aload_n 0, 1) := by decide +kernel
theorem dX5_recover_28 : decode cX5_recover 28 = .ok (.getfield 29, 3) := by decide +kernel
theorem dX5_recover_31 : decode cX5_recover 31 = .ok (.getfield 151, 3) := by decide +kernel
theorem dX5_recover_34 : decode cX5_recover 34 = .ok (.istore_n 3, 1) := by decide +kernel
theorem dX5_recover_35 : decode cX5_recover 35 = .ok (.iload_n 3, 1) := by decide +kernel
theorem dX5_recover_36 : decode cX5_recover 36 = .ok (.aload_n 0, 1) := by decide +kernel
theorem dX5_recover_37 : decode cX5_recover 37 = .ok (.getfield 29, 3) := by decide +kernel
theorem dX5_recover_40 : decode cX5_recover 40 = .ok (.getfield 141, 3) := by decide +kernel
theorem dX5_recover_43 : decode cX5_recover 43 = .ok (.if_icmp .gt 22, 3) := by decide +kernel
theorem dX5_recover_46 : decode cX5_recover 46 = .ok (.aload_n 0, 1) := by decide +kernel
theorem dX5_recover_47 : decode cX5_recover 47 = .ok (.iload_n 3, 1) := by decide +kernel
theorem dX5_recover_48 : decode cX5_recover 48 = .ok (.iload_n 1, 1) := by decide +kernel
theorem dX5_recover_49 : decode cX5_recover 49 = .ok (.invokevirtual 163, 3) := by decide +kernel
theorem dX5_recover_52 : decode cX5_recover 52 = .ok (.istore_n 2, 1) := by decide +kernel
theorem dX5_recover_53 : decode cX5_recover 53 = .ok (.iload_n 2, 1) := by decide +kernel
theorem dX5_recover_54 : decode cX5_recover 54 = .ok (.ifCond .ge 5, 3) := by decide +kernel
theorem dX5_recover_57 : decode cX5_recover 57 = .ok (.iload_n 2, 1) := by decide +kernel
theorem dX5_recover_58 : decode cX5_recover 58 = .ok (.ireturn, 1) := by decide +kernel
theorem dX5_recover_59 : decode cX5_recover 59 = .ok (.iinc 3 1, 3) := by decide +kernel
theorem dX5_recover_62 : decode cX5_recover 62 = .ok (.goto (-27), 3) := by decide +kernel
theorem dX5_recover_65 : decode cX5_recover 65 = .ok (.aload_n 0, 1) := by decide +kernel
theorem dX5_recover_66 : decode cX5_recover 66 = .ok (.getfield 29, 3) := by decide +kernel
theorem dX5_recover_69 : decode cX5_recover 69 = .ok (.iload_n 2, 1) := by decide +kernel
theorem dX5_recover_70 : decode cX5_recover 70 = .ok (.invokevirtual 160, 3) := by decide +kernel
theorem dX5_recover_73 : decode cX5_recover 73 = .ok (.aload_n 0, 1) := by decide +kernel
theorem dX5_recover_74 : decode cX5_recover 74 = .ok (.getfield 29, 3) := by decide +kernel
theorem dX5_recover_77 : decode cX5_recover 77 = .ok (.invokevirtual 135, 3) := by decide +kernel
theorem dX5_recover_80 : decode cX5_recover 80 = .ok (.pop, 1) := by decide +kernel
theorem dX5_recover_81 : decode cX5_recover 81 = .ok (.aload_n 0, 1) := by decide +kernel
theorem dX5_recover_82 : decode cX5_recover 82 = .ok (.aload_n 0, 1) := by decide +kernel
theorem dX5_recover_83 : decode cX5_recover 83 = .ok (.getfield 10, 3) := by decide +kernel
theorem dX5_recover_86 : decode cX5_recover 86 = .ok (.getfield 81, 3) := by decide +kernel
theorem dX5_recover_89 : decode cX5_recover 89 = .ok (.putfield 51, 3) := by decide +kernel
theorem dX5_recover_92 : decode cX5_recover 92 = .ok (.aload_n 0, 1) := by decide +kernel
theorem dX5_recover_93 : decode cX5_recover 93 = .ok (.getfield 22, 3) := by decide +kernel
theorem dX5_recover_96 : decode cX5_recover 96 = .ok (.aload_n 0, 1) := by decide +kernel
theorem dX5_recover_97 : decode cX5_recover 97 = .ok (.getfield 10, 3) := by decide +kernel
theorem dX5_recover_100 : decode cX5_recover 100 = .ok (.getfield 84, 3) := by decide +kernel
theorem dX5_recover_103 : decode cX5_recover 103 = .ok (.invokevirtual 127, 3) := by decide +kernel
theorem dX5_recover_106 : decode cX5_recover 106 = .ok (.aload_n 0, 1) := by decide +kernel
theorem dX5_recover_107 : decode cX5_recover 107 = .ok (.iconst 0, 1) := by decide +kernel
theorem dX5_recover_108 : decode cX5_recover 108 = .ok (.putfield 58, 3) := by decide +kernel
theorem dX5_recover_111 : decode cX5_recover 111 = .ok (.aload_n 0, 1) := by decide +kernel
theorem dX5_recover_112 : decode cX5_recover 112 = .ok (.getfield 55, 3) := by decide +kernel
theorem dX5_recover_115 : decode cX5_recover 115 = .ok (.ireturn, 1) := by decide +kernel
set_option maxRecDepth 20000 in
theorem ggX5_flip_X2_hasByte : GoodIn wsX5_flip wsX2_hasByte := goodIn_r _ [6, 7, 8, 9, 10, 11, 5, 12, 28, 29, 30, 31, 32, 33] (by decide +kernel) (by decide +kernel)
set_option maxRecDepth 20000 in
theorem gX5_flip_X2_hasByte : GoodIn wsX5_flip (wsV RX5 167 RX2 yX2_hasByte wsX2_hasByte) := goodIn_app (goodIn_of _ (by decide +kernel)) ggX5_flip_X2_hasByte
set_option maxRecDepth 20000 in
theorem ggX5_flip_X2_change : GoodIn wsX5_flip wsX2_change := goodIn_r _ [16, 17, 10, 11, 5, 12, 28, 29, 30, 31, 32, 33] (by decide +kernel) (by decide +kernel)
set_option maxRecDepth 20000 in
theorem gX5_flip_X2_change : GoodIn wsX5_flip (wsV RX5 170 RX2 yX2_change wsX2_change) := goodIn_app (goodIn_of _ (by decide +kernel)) ggX5_flip_X2_change
theorem dX5_flip_0 : decode cX5_flip 0 = .ok (.aload_n 0, 1) := by decide +kernel
theorem dX5_flip_1 : decode cX5_flip 1 = .ok (.getfield 29, 3) := by decide +kernel
theorem dX5_flip_4 : decode cX5_flip 4 = .ok (.iload_n 1, 1) := by decide +kernel
theorem dX5_flip_5 : decode cX5_flip 5 = .ok (.iload_n 2, 1) := by decide +kernel
theorem dX5_flip_6 : decode cX5_flip 6 = .ok (.invokevirtual 167, 3) := by decide +kernel
theorem dX5_flip_9 : decode cX5_flip 9 = .ok (.ifCond .eq 14, 3) := by decide +kernel
theorem dX5_flip_12 : decode cX5_flip 12 = .ok (.iload_n 3, 1) := by decide +kernel
theorem dX5_flip_13 : decode cX5_flip 13 = .ok (.ifCond .lt 10, 3) := by decide +kernel
theorem dX5_flip_16 : decode cX5_flip 16 = .ok (.iload_n 3, 1) := by decide +kernel
theorem dX5_flip_17 : decode cX5_flip 17 = .ok (.sipush 255, 3) := by decide +kernel
theorem dX5_flip_20 : decode cX5_flip 20 = .ok (.if_icmp .le 5, 3) := by decide +kernel
theorem dX5_flip_23 : decode cX5_flip 23 = .ok (.iconst (-1), 1) := by decide +kernel
theorem dX5_flip_24 : decode cX5_flip 24 = .ok (.ireturn, 1) := by decide +kernel
theorem dX5_flip_25 : decode cX5_flip 25 = .ok (.aload_n 0, 1) := by decide +kernel
theorem dX5_flip_26 : decode cX5_flip 26 = .ok (.getfield 29, 3) := by decide +kernel
theorem dX5_flip_29 : decode cX5_flip 29 = .ok (.iload_n 1, 1) := by decide +kernel
theorem dX5_flip_30 : decode cX5_flip 30 = .ok (.iload_n 2, 1) := by decide +kernel
theorem dX5_flip_31 : decode cX5_flip 31 = .ok (.iload_n 3, 1) := by decide +kernel
theorem dX5_flip_32 : decode cX5_flip 32 = .ok (.invokevirtual 170, 3) := by decide +kernel
theorem dX5_flip_35 : decode cX5_flip 35 = .ok (.ireturn, 1) := by decide +kernel
set_option maxRecDepth 20000 in
theorem ggX5_ask_X5_isWord : GoodIn wsX5_ask wsX5_isWord := goodIn_r _ [6] (by decide +kernel) (by decide +kernel)
set_option maxRecDepth 20000 in
theorem gX5_ask_X5_isWord : GoodIn wsX5_ask (va_wsS RX5 174 yX5_isWord wsX5_isWord) := goodIn_app (goodIn_of _ (by decide +kernel)) ggX5_ask_X5_isWord
set_option maxRecDepth 20000 in
theorem ggX5_ask_X4_add : GoodIn wsX5_ask wsX4_add := goodIn_r _ [11, 12, 13, 14, 15, 26, 27, 28, 29, 30, 31] (by decide +kernel) (by decide +kernel)
set_option maxRecDepth 20000 in
theorem gX5_ask_X4_add : GoodIn wsX5_ask (wsV RX5 180 RX4 yX4_add wsX4_add) := goodIn_app (goodIn_of _ (by decide +kernel)) ggX5_ask_X4_add
theorem dX5_ask_0 : decode cX5_ask 0 = .ok (.iload_n 1, 1) := by decide +kernel
theorem dX5_ask_1 : decode cX5_ask 1 = .ok (.ifCond .lt 9, 3) := by decide +kernel
theorem dX5_ask_4 : decode cX5_ask 4 = .ok (.iload_n 1, 1) := by decide +kernel
theorem dX5_ask_5 : decode cX5_ask 5 = .ok (.bipush 7, 2) := by decide +kernel
theorem dX5_ask_7 : decode cX5_ask 7 = .ok (.if_icmp .le 5, 3) := by decide +kernel
theorem dX5_ask_10 : decode cX5_ask 10 = .ok (.iconst (-1), 1) := by decide +kernel
theorem dX5_ask_11 : decode cX5_ask 11 = .ok (.ireturn, 1) := by decide +kernel
theorem dX5_ask_12 : decode cX5_ask 12 = .ok (.iload_n 1, 1) := by decide +kernel
theorem dX5_ask_13 : decode cX5_ask 13 = .ok (.iconst 1, 1) := by decide +kernel
theorem dX5_ask_14 : decode cX5_ask 14 = .ok (.if_icmp .eq 8, 3) := by decide +kernel
theorem dX5_ask_17 : decode cX5_ask 17 = .ok (.iload_n 1, 1) := by decide +kernel
theorem dX5_ask_18 : decode cX5_ask 18 = .ok (.iconst 2, 1) := by decide +kernel
theorem dX5_ask_19 : decode cX5_ask 19 = .ok (.if_icmp .ne 12, 3) := by decide +kernel
theorem dX5_ask_22 : decode cX5_ask 22 = .ok (.iload_n 2, 1) := by decide +kernel
theorem dX5_ask_23 : decode cX5_ask 23 = .ok (.invokestatic 174, 3) := by decide +kernel
theorem dX5_ask_26 : decode cX5_ask 26 = .ok (.ifCond .ne 5, 3) := by decide +kernel
theorem dX5_ask_29 : decode cX5_ask 29 = .ok (.iconst (-1), 1) := by decide +kernel
theorem dX5_ask_30 : decode cX5_ask 30 = .ok (.ireturn, 1) := by decide +kernel
theorem dX5_ask_31 : decode cX5_ask 31 = .ok (.iload_n 1, 1) := by decide +kernel
theorem dX5_ask_32 : decode cX5_ask 32 = .ok (.iconst 2, 1) := by decide +kernel
theorem dX5_ask_33 : decode cX5_ask 33 = .ok (.if_icmp .ne 12, 3) := by decide +kernel
theorem dX5_ask_36 : decode cX5_ask 36 = .ok (.iload_n 3, 1) := by decide +kernel
theorem dX5_ask_37 : decode cX5_ask 37 = .ok (.invokestatic 174, 3) := by decide +kernel
theorem dX5_ask_40 : decode cX5_ask 40 = .ok (.ifCond .ne 5, 3) := by decide +kernel
theorem dX5_ask_43 : decode cX5_ask 43 = .ok (.iconst (-1), 1) := by decide +kernel
theorem dX5_ask_44 : decode cX5_ask 44 = .ok (.ireturn, 1) := by decide +kernel
theorem dX5_ask_45 : decode cX5_ask 45 = .ok (.iload_n 1, 1) := by decide +kernel
theorem dX5_ask_46 : decode cX5_ask 46 = .ok (.bipush 7, 2) := by decide +kernel
theorem dX5_ask_48 : decode cX5_ask 48 = .ok (.if_icmp .ne 13, 3) := by decide +kernel
theorem dX5_ask_51 : decode cX5_ask 51 = .ok (.aload_n 0, 1) := by decide +kernel
theorem dX5_ask_52 : decode cX5_ask 52 = .ok (.getfield 36, 3) := by decide +kernel
theorem dX5_ask_55 : decode cX5_ask 55 = .ok (.iconst 0, 1) := by decide +kernel
theorem dX5_ask_56 : decode cX5_ask 56 = .ok (.putfield 177, 3) := by decide +kernel
theorem dX5_ask_59 : decode cX5_ask 59 = .ok (.iconst 0, 1) := by decide +kernel
theorem dX5_ask_60 : decode cX5_ask 60 = .ok (.ireturn, 1) := by decide +kernel
theorem dX5_ask_61 : decode cX5_ask 61 = .ok (.aload_n 0, 1) := by decide +kernel
theorem dX5_ask_62 : decode cX5_ask 62 = .ok (.getfield 36, 3) := by decide +kernel
theorem dX5_ask_65 : decode cX5_ask 65 = .ok (.iload_n 1, 1) := by decide +kernel
theorem dX5_ask_66 : decode cX5_ask 66 = .ok (.iload_n 2, 1) := by decide +kernel
theorem dX5_ask_67 : decode cX5_ask 67 = .ok (.iload_n 3, 1) := by decide +kernel
theorem dX5_ask_68 : decode cX5_ask 68 = .ok (.invokevirtual 180, 3) := by decide +kernel
theorem dX5_ask_71 : decode cX5_ask 71 = .ok (.ifCond .eq 13, 3) := by decide +kernel
theorem dX5_ask_74 : decode cX5_ask 74 = .ok (.aload_n 0, 1) := by decide +kernel
theorem dX5_ask_75 : decode cX5_ask 75 = .ok (.getfield 36, 3) := by decide +kernel
theorem dX5_ask_78 : decode cX5_ask 78 = .ok (.getfield 177, 3) := by decide +kernel
theorem dX5_ask_81 : decode cX5_ask 81 = .ok (.goto 5, 3) := by decide +kernel
theorem dX5_ask_84 : decode cX5_ask 84 = .ok (.bipush (-3), 2) := by decide +kernel
theorem dX5_ask_86 : decode cX5_ask 86 = .ok (.ireturn, 1) := by decide +kernel
set_option maxRecDepth 20000 in
theorem ggX5_hit_X5_isSort : GoodIn wsX5_hit wsX5_isSort := goodIn_r _ [7] (by decide +kernel) (by decide +kernel)
set_option maxRecDepth 20000 in
theorem gX5_hit_X5_isSort : GoodIn wsX5_hit (va_wsS RX5 184 yX5_isSort wsX5_isSort) := goodIn_app (goodIn_of _ (by decide +kernel)) ggX5_hit_X5_isSort
set_option maxRecDepth 20000 in
theorem ggX5_hit_X4_isWhole : GoodIn wsX5_hit wsX4_isWhole := goodIn_r _ [12, 13, 14, 15, 16, 11, 17, 98, 99, 100, 101, 102, 103] (by decide +kernel) (by decide +kernel)
set_option maxRecDepth 20000 in
theorem gX5_hit_X4_isWhole : GoodIn wsX5_hit (wsV RX5 187 RX4 yX4_isWhole wsX4_isWhole) := goodIn_app (goodIn_of _ (by decide +kernel)) ggX5_hit_X4_isWhole
set_option maxRecDepth 20000 in
theorem ggX5_hit_X5_scoreAll : GoodIn wsX5_hit wsX5_scoreAll := goodIn_r _ [21, 3, 22, 2, 23, 24, 25, 26, 27, 28, 29, 30, 31, 32, 33, 6, 34, 35, 36, 37, 38, 39, 40, 41, 42, 11, 43, 13, 44, 45, 46, 47, 14, 48, 49, 15, 16, 17, 50, 51, 52, 53, 54, 55, 56, 57, 58, 59, 60, 61, 62, 63, 64, 65, 66, 67, 68, 69, 70, 71, 88, 89, 90, 91, 92, 93, 94, 95, 96, 97, 104, 105, 106, 107, 98, 99, 100, 101, 102, 103] (by decide +kernel) (by decide +kernel)
set_option maxRecDepth 20000 in
theorem gX5_hit_X5_scoreAll : GoodIn wsX5_hit (wsV RX5 190 RX5 yX5_scoreAll wsX5_scoreAll) := goodIn_app (goodIn_of _ (by decide +kernel)) ggX5_hit_X5_scoreAll
set_option maxRecDepth 20000 in
theorem ggX5_hit_X5_countMatches : GoodIn wsX5_hit wsX5_countMatches := goodIn_r _ [75, 3, 88, 89, 90, 91, 92, 93, 94, 95, 96, 97] (by decide +kernel) (by decide +kernel)
set_option maxRecDepth 20000 in
theorem gX5_hit_X5_countMatches : GoodIn wsX5_hit (wsV RX5 193 RX5 yX5_countMatches wsX5_countMatches) := goodIn_app (goodIn_of _ (by decide +kernel)) ggX5_hit_X5_countMatches
set_option maxRecDepth 20000 in
theorem ggX5_hit_X5_rankOf : GoodIn wsX5_hit wsX5_rankOf := goodIn_r _ [79, 3, 80, 81, 82, 6, 83, 22, 84, 33, 34, 35, 36, 37, 26, 38, 39, 85, 86, 87, 88, 89, 90, 91, 92, 93, 94, 95, 96, 97, 104, 105, 106, 107] (by decide +kernel) (by decide +kernel)
set_option maxRecDepth 20000 in
theorem gX5_hit_X5_rankOf : GoodIn wsX5_hit (wsV RX5 196 RX5 yX5_rankOf wsX5_rankOf) := goodIn_app (goodIn_of _ (by decide +kernel)) ggX5_hit_X5_rankOf
theorem dX5_hit_0 : decode cX5_hit 0 = .ok (.aload_n 0, 1) := by decide +kernel
theorem dX5_hit_1 : decode cX5_hit 1 = .ok (.getfield 58, 3) := by decide +kernel
theorem dX5_hit_4 : decode cX5_hit 4 = .ok (.ifCond .eq 6, 3) := by decide +kernel
theorem dX5_hit_7 : decode cX5_hit 7 = .ok (.bipush (-4), 2) := by decide +kernel
theorem dX5_hit_9 : decode cX5_hit 9 = .ok (.ireturn, 1) := by decide +kernel
theorem dX5_hit_10 : decode cX5_hit 10 = .ok (.iload_n 1, 1) := by decide +kernel
theorem dX5_hit_11 : decode cX5_hit 11 = .ok (.invokestatic 184, 3) := by decide +kernel
theorem dX5_hit_14 : decode cX5_hit 14 = .ok (.ifCond .eq 18, 3) := by decide +kernel
theorem dX5_hit_17 : decode cX5_hit 17 = .ok (.iload_n 2, 1) := by decide +kernel
theorem dX5_hit_18 : decode cX5_hit 18 = .ok (.iconst (-1), 1) := by decide +kernel
theorem dX5_hit_19 : decode cX5_hit 19 = .ok (.if_icmp .lt 13, 3) := by decide +kernel
theorem dX5_hit_22 : decode cX5_hit 22 = .ok (.aload_n 0, 1) := by decide +kernel
theorem dX5_hit_23 : decode cX5_hit 23 = .ok (.getfield 36, 3) := by decide +kernel
theorem dX5_hit_26 : decode cX5_hit 26 = .ok (.invokevirtual 187, 3) := by decide +kernel
theorem dX5_hit_29 : decode cX5_hit 29 = .ok (.ifCond .ne 5, 3) := by decide +kernel
theorem dX5_hit_32 : decode cX5_hit 32 = .ok (.iconst (-1), 1) := by decide +kernel
theorem dX5_hit_33 : decode cX5_hit 33 = .ok (.ireturn, 1) := by decide +kernel
theorem dX5_hit_34 : decode cX5_hit 34 = .ok (.aload_n 0, 1) := by decide +kernel
theorem dX5_hit_35 : decode cX5_hit 35 = .ok (.invokevirtual 190, 3) := by decide +kernel
theorem dX5_hit_38 : decode cX5_hit 38 = .ok (.iload_n 2, 1) := by decide +kernel
theorem dX5_hit_39 : decode cX5_hit 39 = .ok (.iconst (-1), 1) := by decide +kernel
theorem dX5_hit_40 : decode cX5_hit 40 = .ok (.if_icmp .ne 8, 3) := by decide +kernel
theorem dX5_hit_43 : decode cX5_hit 43 = .ok (.aload_n 0, 1) := by decide +kernel
theorem dX5_hit_44 : decode cX5_hit 44 = .ok (.invokevirtual 193, 3) := by decide +kernel
theorem dX5_hit_47 : decode cX5_hit 47 = .ok (.ireturn, 1) := by decide +kernel
theorem dX5_hit_48 : decode cX5_hit 48 = .ok (.iconst 0, 1) := by decide +kernel
theorem dX5_hit_49 : decode cX5_hit 49 = .ok (.istore_n 3, 1) := by decide +kernel
theorem dX5_hit_50 : decode cX5_hit 50 = .ok (.iload_n 3, 1) := by decide +kernel
theorem dX5_hit_51 : decode cX5_hit 51 = .ok (.bipush 16, 2) := by decide +kernel
theorem dX5_hit_53 : decode cX5_hit 53 = .ok (.if_icmp .ge 30, 3) := by decide +kernel
theorem dX5_hit_56 : decode cX5_hit 56 = .ok (.aload_n 0, 1) := by decide +kernel
theorem dX5_hit_57 : decode cX5_hit 57 = .ok (.getfield 47, 3) := by decide +kernel
theorem dX5_hit_60 : decode cX5_hit 60 = .ok (.iload_n 3, 1) := by decide +kernel
theorem dX5_hit_61 : decode cX5_hit 61 = .ok (.iaload, 1) := by decide +kernel
theorem dX5_hit_62 : decode cX5_hit 62 = .ok (.ifCond .lt 15, 3) := by decide +kernel
theorem dX5_hit_65 : decode cX5_hit 65 = .ok (.aload_n 0, 1) := by decide +kernel
theorem dX5_hit_66 : decode cX5_hit 66 = .ok (.iload_n 1, 1) := by decide +kernel
theorem dX5_hit_67 : decode cX5_hit 67 = .ok (.iload_n 3, 1) := by decide +kernel
theorem dX5_hit_68 : decode cX5_hit 68 = .ok (.invokevirtual 196, 3) := by decide +kernel
theorem dX5_hit_71 : decode cX5_hit 71 = .ok (.iload_n 2, 1) := by decide +kernel
theorem dX5_hit_72 : decode cX5_hit 72 = .ok (.if_icmp .ne 5, 3) := by decide +kernel
theorem dX5_hit_75 : decode cX5_hit 75 = .ok (.iload_n 3, 1) := by decide +kernel
theorem dX5_hit_76 : decode cX5_hit 76 = .ok (.ireturn, 1) := by decide +kernel
theorem dX5_hit_77 : decode cX5_hit 77 = .ok (.iinc 3 1, 3) := by decide +kernel
theorem dX5_hit_80 : decode cX5_hit 80 = .ok (.goto (-30), 3) := by decide +kernel
theorem dX5_hit_83 : decode cX5_hit 83 = .ok (.iconst (-1), 1) := by decide +kernel
theorem dX5_hit_84 : decode cX5_hit 84 = .ok (.ireturn, 1) := by decide +kernel
set_option maxRecDepth 20000 in
theorem ggX5_after_X5_isSort : GoodIn wsX5_after wsX5_isSort := goodIn_r _ [7] (by decide +kernel) (by decide +kernel)
set_option maxRecDepth 20000 in
theorem gX5_after_X5_isSort : GoodIn wsX5_after (va_wsS RX5 184 yX5_isSort wsX5_isSort) := goodIn_app (goodIn_of _ (by decide +kernel)) ggX5_after_X5_isSort
set_option maxRecDepth 20000 in
theorem ggX5_after_X4_isWhole : GoodIn wsX5_after wsX4_isWhole := goodIn_r _ [12, 13, 14, 15, 16, 11, 17, 90, 91, 92, 93, 94, 95] (by decide +kernel) (by decide +kernel)
set_option maxRecDepth 20000 in
theorem gX5_after_X4_isWhole : GoodIn wsX5_after (wsV RX5 187 RX4 yX4_isWhole wsX4_isWhole) := goodIn_app (goodIn_of _ (by decide +kernel)) ggX5_after_X4_isWhole
set_option maxRecDepth 20000 in
theorem ggX5_after_X5_scoreAll : GoodIn wsX5_after wsX5_scoreAll := goodIn_r _ [21, 3, 22, 2, 23, 24, 25, 26, 27, 28, 29, 30, 31, 32, 33, 6, 34, 35, 36, 37, 38, 39, 40, 41, 42, 11, 43, 13, 44, 45, 46, 47, 14, 48, 49, 15, 16, 17, 50, 51, 52, 53, 54, 55, 56, 57, 58, 59, 60, 61, 62, 63, 64, 65, 66, 67, 68, 69, 70, 71, 80, 81, 82, 83, 84, 85, 86, 87, 88, 89, 96, 97, 98, 99, 90, 91, 92, 93, 94, 95] (by decide +kernel) (by decide +kernel)
set_option maxRecDepth 20000 in
theorem gX5_after_X5_scoreAll : GoodIn wsX5_after (wsV RX5 190 RX5 yX5_scoreAll wsX5_scoreAll) := goodIn_app (goodIn_of _ (by decide +kernel)) ggX5_after_X5_scoreAll
set_option maxRecDepth 20000 in
theorem ggX5_after_X5_keyOf : GoodIn wsX5_after wsX5_keyOf := goodIn_r _ [75, 3, 22, 76, 33, 6, 34, 35, 36, 37, 26, 38, 39, 80, 81, 82, 83, 84, 85, 86, 87, 88, 89, 96, 97, 98, 99] (by decide +kernel) (by decide +kernel)
set_option maxRecDepth 20000 in
theorem gX5_after_X5_keyOf : GoodIn wsX5_after (wsV RX5 199 RX5 yX5_keyOf wsX5_keyOf) := goodIn_app (goodIn_of _ (by decide +kernel)) ggX5_after_X5_keyOf
set_option maxRecDepth 20000 in
theorem ggX5_after_X5_isBehind : GoodIn wsX5_after wsX5_isBehind := goodIn_r _ [79] (by decide +kernel) (by decide +kernel)
set_option maxRecDepth 20000 in
theorem gX5_after_X5_isBehind : GoodIn wsX5_after (va_wsS RX5 202 yX5_isBehind wsX5_isBehind) := goodIn_app (goodIn_of _ (by decide +kernel)) ggX5_after_X5_isBehind
theorem dX5_after_0 : decode cX5_after 0 = .ok (.aload_n 0, 1) := by decide +kernel
theorem dX5_after_1 : decode cX5_after 1 = .ok (.getfield 58, 3) := by decide +kernel
theorem dX5_after_4 : decode cX5_after 4 = .ok (.ifCond .eq 6, 3) := by decide +kernel
theorem dX5_after_7 : decode cX5_after 7 = .ok (.bipush (-4), 2) := by decide +kernel
theorem dX5_after_9 : decode cX5_after 9 = .ok (.ireturn, 1) := by decide +kernel
theorem dX5_after_10 : decode cX5_after 10 = .ok (.iload_n 1, 1) := by decide +kernel
theorem dX5_after_11 : decode cX5_after 11 = .ok (.invokestatic 184, 3) := by decide +kernel
theorem dX5_after_14 : decode cX5_after 14 = .ok (.ifCond .eq 13, 3) := by decide +kernel
theorem dX5_after_17 : decode cX5_after 17 = .ok (.aload_n 0, 1) := by decide +kernel
theorem dX5_after_18 : decode cX5_after 18 = .ok (.getfield 36, 3) := by decide +kernel
theorem dX5_after_21 : decode cX5_after 21 = .ok (.invokevirtual 187, 3) := by decide +kernel
theorem dX5_after_24 : decode cX5_after 24 = .ok (.ifCond .ne 5, 3) := by decide +kernel
theorem dX5_after_27 : decode cX5_after 27 = .ok (.iconst (-1), 1) := by decide +kernel
theorem dX5_after_28 : decode cX5_after 28 = .ok (.ireturn, 1) := by decide +kernel
theorem dX5_after_29 : decode cX5_after 29 = .ok (.aload_n 0, 1) := by decide +kernel
theorem dX5_after_30 : decode cX5_after 30 = .ok (.invokevirtual 190, 3) := by decide +kernel
theorem dX5_after_33 : decode cX5_after 33 = .ok (.iconst (-1), 1) := by decide +kernel
theorem dX5_after_34 : decode cX5_after 34 = .ok (.istore 4, 2) := by decide +kernel
theorem dX5_after_36 : decode cX5_after 36 = .ok (.iconst 0, 1) := by decide +kernel
theorem dX5_after_37 : decode cX5_after 37 = .ok (.istore 5, 2) := by decide +kernel
theorem dX5_after_39 : decode cX5_after 39 = .ok (.iload 5, 2) := by decide +kernel
theorem dX5_after_41 : decode cX5_after 41 = .ok (.bipush 16, 2) := by decide +kernel
theorem dX5_after_43 : decode cX5_after 43 = .ok (.if_icmp .ge 71, 3) := by decide +kernel
theorem dX5_after_46 : decode cX5_after 46 = .ok (.aload_n 0, 1) := by decide +kernel
theorem dX5_after_47 : decode cX5_after 47 = .ok (.getfield 47, 3) := by decide +kernel
theorem dX5_after_50 : decode cX5_after 50 = .ok (.iload 5, 2) := by decide +kernel
theorem dX5_after_52 : decode cX5_after 52 = .ok (.iaload, 1) := by decide +kernel
theorem dX5_after_53 : decode cX5_after 53 = .ok (.ifCond .lt 55, 3) := by decide +kernel
theorem dX5_after_56 : decode cX5_after 56 = .ok (.iload_n 1, 1) := by decide +kernel
theorem dX5_after_57 : decode cX5_after 57 = .ok (.aload_n 0, 1) := by decide +kernel
theorem dX5_after_58 : decode cX5_after 58 = .ok (.iload_n 1, 1) := by decide +kernel
theorem dX5_after_59 : decode cX5_after 59 = .ok (.iload 5, 2) := by decide +kernel
theorem dX5_after_61 : decode cX5_after 61 = .ok (.invokevirtual 199, 3) := by decide +kernel
theorem dX5_after_64 : decode cX5_after 64 = .ok (.iload 5, 2) := by decide +kernel
theorem dX5_after_66 : decode cX5_after 66 = .ok (.iload_n 2, 1) := by decide +kernel
theorem dX5_after_67 : decode cX5_after 67 = .ok (.iload_n 3, 1) := by decide +kernel
theorem dX5_after_68 : decode cX5_after 68 = .ok (.invokestatic 202, 3) := by decide +kernel
theorem dX5_after_71 : decode cX5_after 71 = .ok (.ifCond .eq 37, 3) := by decide +kernel
theorem dX5_after_74 : decode cX5_after 74 = .ok (.iload 4, 2) := by decide +kernel
theorem dX5_after_76 : decode cX5_after 76 = .ok (.ifCond .lt 28, 3) := by decide +kernel
theorem dX5_after_79 : decode cX5_after 79 = .ok (.iload_n 1, 1) := by decide +kernel
theorem dX5_after_80 : decode cX5_after 80 = .ok (.aload_n 0, 1) := by decide +kernel
theorem dX5_after_81 : decode cX5_after 81 = .ok (.iload_n 1, 1) := by decide +kernel
theorem dX5_after_82 : decode cX5_after 82 = .ok (.iload 4, 2) := by decide +kernel
theorem dX5_after_84 : decode cX5_after 84 = .ok (.invokevirtual 199, 3) := by decide +kernel
theorem dX5_after_87 : decode cX5_after 87 = .ok (.iload 4, 2) := by decide +kernel
theorem dX5_after_89 : decode cX5_after 89 = .ok (.aload_n 0, 1) := by decide +kernel
theorem dX5_after_90 : decode cX5_after 90 = .ok (.iload_n 1, 1) := by decide +kernel
theorem dX5_after_91 : decode cX5_after 91 = .ok (.iload 5, 2) := by decide +kernel
theorem dX5_after_93 : decode cX5_after 93 = .ok (.invokevirtual 199, 3) := by decide +kernel
theorem dX5_after_96 : decode cX5_after 96 = .ok (.iload 5, 2) := by decide +kernel
theorem dX5_after_98 : decode cX5_after 98 = .ok (.invokestatic 202, 3) := by decide +kernel
theorem dX5_after_101 : decode cX5_after 101 = .ok (.ifCond .eq 7, 3) := by decide +kernel
theorem dX5_after_104 : decode cX5_after 104 = .ok (.iload 5, 2) := by decide +kernel
theorem dX5_after_106 : decode cX5_after 106 = .ok (.istore 4, 2) := by decide +kernel
theorem dX5_after_108 : decode cX5_after 108 = .ok (.iinc 5 1, 3) := by decide +kernel
theorem dX5_after_111 : decode cX5_after 111 = .ok (.goto (-72), 3) := by decide +kernel
theorem dX5_after_114 : decode cX5_after 114 = .ok (.iload 4, 2) := by decide +kernel
theorem dX5_after_116 : decode cX5_after 116 = .ok (.ireturn, 1) := by decide +kernel
set_option maxRecDepth 20000 in
theorem ggX5_score_X5_isId : GoodIn wsX5_score wsX5_isId := goodIn_r _ [7] (by decide +kernel) (by decide +kernel)
set_option maxRecDepth 20000 in
theorem gX5_score_X5_isId : GoodIn wsX5_score (va_wsS RX5 62 yX5_isId wsX5_isId) := goodIn_app (goodIn_of _ (by decide +kernel)) ggX5_score_X5_isId
set_option maxRecDepth 20000 in
theorem ggX5_score_X4_isWhole : GoodIn wsX5_score wsX4_isWhole := goodIn_r _ [12, 13, 14, 15, 16, 11, 17, 80, 81, 82, 83, 84, 85] (by decide +kernel) (by decide +kernel)
set_option maxRecDepth 20000 in
theorem gX5_score_X4_isWhole : GoodIn wsX5_score (wsV RX5 187 RX4 yX4_isWhole wsX4_isWhole) := goodIn_app (goodIn_of _ (by decide +kernel)) ggX5_score_X4_isWhole
set_option maxRecDepth 20000 in
theorem ggX5_score_X5_scoreAll : GoodIn wsX5_score wsX5_scoreAll := goodIn_r _ [21, 3, 22, 2, 23, 24, 25, 26, 27, 28, 29, 30, 31, 32, 5, 6, 7, 33, 34, 35, 36, 37, 38, 39, 40, 11, 41, 13, 42, 43, 44, 45, 14, 46, 47, 15, 16, 17, 48, 49, 50, 51, 52, 53, 54, 55, 56, 57, 58, 59, 60, 61, 62, 63, 64, 65, 66, 67, 68, 69, 70, 71, 72, 73, 74, 75, 76, 77, 78, 79, 86, 87, 88, 89, 80, 81, 82, 83, 84, 85] (by decide +kernel) (by decide +kernel)
set_option maxRecDepth 20000 in
theorem gX5_score_X5_scoreAll : GoodIn wsX5_score (wsV RX5 190 RX5 yX5_scoreAll wsX5_scoreAll) := goodIn_app (goodIn_of _ (by decide +kernel)) ggX5_score_X5_scoreAll
theorem dX5_score_0 : decode cX5_score 0 = .ok (.aload_n 0, 1) := by decide +kernel
theorem dX5_score_1 : decode cX5_score 1 = .ok (.getfield 58, 3) := by decide +kernel
theorem dX5_score_4 : decode cX5_score 4 = .ok (.ifCond .eq 6, 3) := by decide +kernel
theorem dX5_score_7 : decode cX5_score 7 = .ok (.bipush (-4), 2) := by decide +kernel
theorem dX5_score_9 : decode cX5_score 9 = .ok (.ireturn, 1) := by decide +kernel
theorem dX5_score_10 : decode cX5_score 10 = .ok (.iload_n 1, 1) := by decide +kernel
theorem dX5_score_11 : decode cX5_score 11 = .ok (.invokestatic 62, 3) := by decide +kernel
theorem dX5_score_14 : decode cX5_score 14 = .ok (.ifCond .eq 13, 3) := by decide +kernel
theorem dX5_score_17 : decode cX5_score 17 = .ok (.aload_n 0, 1) := by decide +kernel
theorem dX5_score_18 : decode cX5_score 18 = .ok (.getfield 36, 3) := by decide +kernel
theorem dX5_score_21 : decode cX5_score 21 = .ok (.invokevirtual 187, 3) := by decide +kernel
theorem dX5_score_24 : decode cX5_score 24 = .ok (.ifCond .ne 5, 3) := by decide +kernel
theorem dX5_score_27 : decode cX5_score 27 = .ok (.iconst (-1), 1) := by decide +kernel
theorem dX5_score_28 : decode cX5_score 28 = .ok (.ireturn, 1) := by decide +kernel
theorem dX5_score_29 : decode cX5_score 29 = .ok (.aload_n 0, 1) := by decide +kernel
theorem dX5_score_30 : decode cX5_score 30 = .ok (.invokevirtual 190, 3) := by decide +kernel
theorem dX5_score_33 : decode cX5_score 33 = .ok (.aload_n 0, 1) := by decide +kernel
theorem dX5_score_34 : decode cX5_score 34 = .ok (.getfield 47, 3) := by decide +kernel
theorem dX5_score_37 : decode cX5_score 37 = .ok (.iload_n 1, 1) := by decide +kernel
theorem dX5_score_38 : decode cX5_score 38 = .ok (.iaload, 1) := by decide +kernel
theorem dX5_score_39 : decode cX5_score 39 = .ok (.ifCond .lt 12, 3) := by decide +kernel
theorem dX5_score_42 : decode cX5_score 42 = .ok (.aload_n 0, 1) := by decide +kernel
theorem dX5_score_43 : decode cX5_score 43 = .ok (.getfield 47, 3) := by decide +kernel
theorem dX5_score_46 : decode cX5_score 46 = .ok (.iload_n 1, 1) := by decide +kernel
theorem dX5_score_47 : decode cX5_score 47 = .ok (.iaload, 1) := by decide +kernel
theorem dX5_score_48 : decode cX5_score 48 = .ok (.goto 4, 3) := by decide +kernel
theorem dX5_score_51 : decode cX5_score 51 = .ok (.iconst (-1), 1) := by decide +kernel
theorem dX5_score_52 : decode cX5_score 52 = .ok (.ireturn, 1) := by decide +kernel
set_option maxRecDepth 20000 in
theorem ggX5_info_X2_count : GoodIn wsX5_info wsX2_count := goodIn_r _ [16, 17, 18, 58, 59, 60, 61, 62, 63] (by decide +kernel) (by decide +kernel)
set_option maxRecDepth 20000 in
theorem gX5_info_X2_count : GoodIn wsX5_info (wsV RX5 134 RX2 yX2_count wsX2_count) := goodIn_app (goodIn_of _ (by decide +kernel)) ggX5_info_X2_count
set_option maxRecDepth 20000 in
theorem ggX5_info_X2_lengthOf : GoodIn wsX5_info wsX2_lengthOf := goodIn_r _ [22, 23, 24, 25, 15, 26, 58, 59, 60, 61, 62, 63] (by decide +kernel) (by decide +kernel)
set_option maxRecDepth 20000 in
theorem gX5_info_X2_lengthOf : GoodIn wsX5_info (wsV RX5 206 RX2 yX2_lengthOf wsX2_lengthOf) := goodIn_app (goodIn_of _ (by decide +kernel)) ggX5_info_X2_lengthOf
set_option maxRecDepth 20000 in
theorem ggX5_info_X0_count : GoodIn wsX5_info wsX0_count := goodIn_r _ [31, 32, 33, 34, 30, 35, 36, 37, 38, 39, 40, 41, 42, 43, 64, 65, 66, 67] (by decide +kernel) (by decide +kernel)
set_option maxRecDepth 20000 in
theorem gX5_info_X0_count : GoodIn wsX5_info (wsV RX5 131 RX0 yX0_count wsX0_count) := goodIn_app (goodIn_of _ (by decide +kernel)) ggX5_info_X0_count
theorem dX5_info_0 : decode cX5_info 0 = .ok (.iload_n 1, 1) := by decide +kernel
theorem dX5_info_1 : decode cX5_info 1 = .ok (.tableswitch 200 0 10 #[59, 78, 97, 113, 121, 129, 144, 152, 165, 173, 181], 59) := by decide +kernel
theorem dX5_info_60 : decode cX5_info 60 = .ok (.aload_n 0, 1) := by decide +kernel
theorem dX5_info_61 : decode cX5_info 61 = .ok (.getfield 58, 3) := by decide +kernel
theorem dX5_info_64 : decode cX5_info 64 = .ok (.ifCond .eq 7, 3) := by decide +kernel
theorem dX5_info_67 : decode cX5_info 67 = .ok (.iconst (-1), 1) := by decide +kernel
theorem dX5_info_68 : decode cX5_info 68 = .ok (.goto 10, 3) := by decide +kernel
theorem dX5_info_71 : decode cX5_info 71 = .ok (.aload_n 0, 1) := by decide +kernel
theorem dX5_info_72 : decode cX5_info 72 = .ok (.getfield 10, 3) := by decide +kernel
theorem dX5_info_75 : decode cX5_info 75 = .ok (.getfield 70, 3) := by decide +kernel
theorem dX5_info_78 : decode cX5_info 78 = .ok (.ireturn, 1) := by decide +kernel
theorem dX5_info_79 : decode cX5_info 79 = .ok (.aload_n 0, 1) := by decide +kernel
theorem dX5_info_80 : decode cX5_info 80 = .ok (.getfield 58, 3) := by decide +kernel
theorem dX5_info_83 : decode cX5_info 83 = .ok (.ifCond .eq 7, 3) := by decide +kernel
theorem dX5_info_86 : decode cX5_info 86 = .ok (.iconst (-1), 1) := by decide +kernel
theorem dX5_info_87 : decode cX5_info 87 = .ok (.goto 10, 3) := by decide +kernel
theorem dX5_info_90 : decode cX5_info 90 = .ok (.aload_n 0, 1) := by decide +kernel
theorem dX5_info_91 : decode cX5_info 91 = .ok (.getfield 10, 3) := by decide +kernel
theorem dX5_info_94 : decode cX5_info 94 = .ok (.getfield 81, 3) := by decide +kernel
theorem dX5_info_97 : decode cX5_info 97 = .ok (.ireturn, 1) := by decide +kernel
theorem dX5_info_98 : decode cX5_info 98 = .ok (.aload_n 0, 1) := by decide +kernel
theorem dX5_info_99 : decode cX5_info 99 = .ok (.getfield 58, 3) := by decide +kernel
theorem dX5_info_102 : decode cX5_info 102 = .ok (.ifCond .eq 7, 3) := by decide +kernel
theorem dX5_info_105 : decode cX5_info 105 = .ok (.iconst (-1), 1) := by decide +kernel
theorem dX5_info_106 : decode cX5_info 106 = .ok (.goto 7, 3) := by decide +kernel
theorem dX5_info_109 : decode cX5_info 109 = .ok (.aload_n 0, 1) := by decide +kernel
theorem dX5_info_110 : decode cX5_info 110 = .ok (.getfield 51, 3) := by decide +kernel
theorem dX5_info_113 : decode cX5_info 113 = .ok (.ireturn, 1) := by decide +kernel
theorem dX5_info_114 : decode cX5_info 114 = .ok (.aload_n 0, 1) := by decide +kernel
theorem dX5_info_115 : decode cX5_info 115 = .ok (.getfield 29, 3) := by decide +kernel
theorem dX5_info_118 : decode cX5_info 118 = .ok (.invokevirtual 134, 3) := by decide +kernel
theorem dX5_info_121 : decode cX5_info 121 = .ok (.ireturn, 1) := by decide +kernel
theorem dX5_info_122 : decode cX5_info 122 = .ok (.aload_n 0, 1) := by decide +kernel
theorem dX5_info_123 : decode cX5_info 123 = .ok (.getfield 29, 3) := by decide +kernel
theorem dX5_info_126 : decode cX5_info 126 = .ok (.getfield 151, 3) := by decide +kernel
theorem dX5_info_129 : decode cX5_info 129 = .ok (.ireturn, 1) := by decide +kernel
theorem dX5_info_130 : decode cX5_info 130 = .ok (.aload_n 0, 1) := by decide +kernel
theorem dX5_info_131 : decode cX5_info 131 = .ok (.getfield 29, 3) := by decide +kernel
theorem dX5_info_134 : decode cX5_info 134 = .ok (.aload_n 0, 1) := by decide +kernel
theorem dX5_info_135 : decode cX5_info 135 = .ok (.getfield 29, 3) := by decide +kernel
theorem dX5_info_138 : decode cX5_info 138 = .ok (.getfield 141, 3) := by decide +kernel
theorem dX5_info_141 : decode cX5_info 141 = .ok (.invokevirtual 206, 3) := by decide +kernel
theorem dX5_info_144 : decode cX5_info 144 = .ok (.ireturn, 1) := by decide +kernel
theorem dX5_info_145 : decode cX5_info 145 = .ok (.aload_n 0, 1) := by decide +kernel
theorem dX5_info_146 : decode cX5_info 146 = .ok (.getfield 29, 3) := by decide +kernel
theorem dX5_info_149 : decode cX5_info 149 = .ok (.getfield 157, 3) := by decide +kernel
theorem dX5_info_152 : decode cX5_info 152 = .ok (.ireturn, 1) := by decide +kernel
theorem dX5_info_153 : decode cX5_info 153 = .ok (.aload_n 0, 1) := by decide +kernel
theorem dX5_info_154 : decode cX5_info 154 = .ok (.getfield 58, 3) := by decide +kernel
theorem dX5_info_157 : decode cX5_info 157 = .ok (.ifCond .eq 7, 3) := by decide +kernel
theorem dX5_info_160 : decode cX5_info 160 = .ok (.iconst 1, 1) := by decide +kernel
theorem dX5_info_161 : decode cX5_info 161 = .ok (.goto 4, 3) := by decide +kernel
theorem dX5_info_164 : decode cX5_info 164 = .ok (.iconst 0, 1) := by decide +kernel
theorem dX5_info_165 : decode cX5_info 165 = .ok (.ireturn, 1) := by decide +kernel
theorem dX5_info_166 : decode cX5_info 166 = .ok (.aload_n 0, 1) := by decide +kernel
theorem dX5_info_167 : decode cX5_info 167 = .ok (.getfield 16, 3) := by decide +kernel
theorem dX5_info_170 : decode cX5_info 170 = .ok (.getfield 81, 3) := by decide +kernel
theorem dX5_info_173 : decode cX5_info 173 = .ok (.ireturn, 1) := by decide +kernel
theorem dX5_info_174 : decode cX5_info 174 = .ok (.aload_n 0, 1) := by decide +kernel
theorem dX5_info_175 : decode cX5_info 175 = .ok (.getfield 16, 3) := by decide +kernel
theorem dX5_info_178 : decode cX5_info 178 = .ok (.getfield 70, 3) := by decide +kernel
theorem dX5_info_181 : decode cX5_info 181 = .ok (.ireturn, 1) := by decide +kernel
theorem dX5_info_182 : decode cX5_info 182 = .ok (.aload_n 0, 1) := by decide +kernel
theorem dX5_info_183 : decode cX5_info 183 = .ok (.getfield 58, 3) := by decide +kernel
theorem dX5_info_186 : decode cX5_info 186 = .ok (.ifCond .eq 7, 3) := by decide +kernel
theorem dX5_info_189 : decode cX5_info 189 = .ok (.iconst 0, 1) := by decide +kernel
theorem dX5_info_190 : decode cX5_info 190 = .ok (.goto 10, 3) := by decide +kernel
theorem dX5_info_193 : decode cX5_info 193 = .ok (.aload_n 0, 1) := by decide +kernel
theorem dX5_info_194 : decode cX5_info 194 = .ok (.getfield 22, 3) := by decide +kernel
theorem dX5_info_197 : decode cX5_info 197 = .ok (.invokevirtual 131, 3) := by decide +kernel
theorem dX5_info_200 : decode cX5_info 200 = .ok (.ireturn, 1) := by decide +kernel
theorem dX5_info_201 : decode cX5_info 201 = .ok (.iconst (-1), 1) := by decide +kernel
theorem dX5_info_202 : decode cX5_info 202 = .ok (.ireturn, 1) := by decide +kernel
theorem dX5_isId_0 : decode cX5_isId 0 = .ok (.iload_n 0, 1) := by decide +kernel
theorem dX5_isId_1 : decode cX5_isId 1 = .ok (.ifCond .lt 13, 3) := by decide +kernel
theorem dX5_isId_4 : decode cX5_isId 4 = .ok (.iload_n 0, 1) := by decide +kernel
theorem dX5_isId_5 : decode cX5_isId 5 = .ok (.bipush 16, 2) := by decide +kernel
theorem dX5_isId_7 : decode cX5_isId 7 = .ok (.if_icmp .ge 7, 3) := by decide +kernel
theorem dX5_isId_10 : decode cX5_isId 10 = .ok (.iconst 1, 1) := by decide +kernel
theorem dX5_isId_11 : decode cX5_isId 11 = .ok (.goto 4, 3) := by decide +kernel
theorem dX5_isId_14 : decode cX5_isId 14 = .ok (.iconst 0, 1) := by decide +kernel
theorem dX5_isId_15 : decode cX5_isId 15 = .ok (.ireturn, 1) := by decide +kernel
theorem dX5_isWord_0 : decode cX5_isWord 0 = .ok (.iload_n 0, 1) := by decide +kernel
theorem dX5_isWord_1 : decode cX5_isWord 1 = .ok (.iconst 1, 1) := by decide +kernel
theorem dX5_isWord_2 : decode cX5_isWord 2 = .ok (.if_icmp .lt 13, 3) := by decide +kernel
theorem dX5_isWord_5 : decode cX5_isWord 5 = .ok (.iload_n 0, 1) := by decide +kernel
theorem dX5_isWord_6 : decode cX5_isWord 6 = .ok (.bipush 15, 2) := by decide +kernel
theorem dX5_isWord_8 : decode cX5_isWord 8 = .ok (.if_icmp .gt 7, 3) := by decide +kernel
theorem dX5_isWord_11 : decode cX5_isWord 11 = .ok (.iconst 1, 1) := by decide +kernel
theorem dX5_isWord_12 : decode cX5_isWord 12 = .ok (.goto 4, 3) := by decide +kernel
theorem dX5_isWord_15 : decode cX5_isWord 15 = .ok (.iconst 0, 1) := by decide +kernel
theorem dX5_isWord_16 : decode cX5_isWord 16 = .ok (.ireturn, 1) := by decide +kernel
theorem dX5_isSort_0 : decode cX5_isSort 0 = .ok (.iload_n 0, 1) := by decide +kernel
theorem dX5_isSort_1 : decode cX5_isSort 1 = .ok (.ifCond .lt 12, 3) := by decide +kernel
theorem dX5_isSort_4 : decode cX5_isSort 4 = .ok (.iload_n 0, 1) := by decide +kernel
theorem dX5_isSort_5 : decode cX5_isSort 5 = .ok (.iconst 2, 1) := by decide +kernel
theorem dX5_isSort_6 : decode cX5_isSort 6 = .ok (.if_icmp .gt 7, 3) := by decide +kernel
theorem dX5_isSort_9 : decode cX5_isSort 9 = .ok (.iconst 1, 1) := by decide +kernel
theorem dX5_isSort_10 : decode cX5_isSort 10 = .ok (.goto 4, 3) := by decide +kernel
theorem dX5_isSort_13 : decode cX5_isSort 13 = .ok (.iconst 0, 1) := by decide +kernel
theorem dX5_isSort_14 : decode cX5_isSort 14 = .ok (.ireturn, 1) := by decide +kernel
theorem dX5_sizeOf_0 : decode cX5_sizeOf 0 = .ok (.iload_n 0, 1) := by decide +kernel
theorem dX5_sizeOf_1 : decode cX5_sizeOf 1 = .ok (.tableswitch 36 1 3 #[27, 30, 33], 27) := by decide +kernel
theorem dX5_sizeOf_28 : decode cX5_sizeOf 28 = .ok (.bipush 19, 2) := by decide +kernel
theorem dX5_sizeOf_30 : decode cX5_sizeOf 30 = .ok (.ireturn, 1) := by decide +kernel
theorem dX5_sizeOf_31 : decode cX5_sizeOf 31 = .ok (.bipush 11, 2) := by decide +kernel
theorem dX5_sizeOf_33 : decode cX5_sizeOf 33 = .ok (.ireturn, 1) := by decide +kernel
theorem dX5_sizeOf_34 : decode cX5_sizeOf 34 = .ok (.bipush 8, 2) := by decide +kernel
theorem dX5_sizeOf_36 : decode cX5_sizeOf 36 = .ok (.ireturn, 1) := by decide +kernel
theorem dX5_sizeOf_37 : decode cX5_sizeOf 37 = .ok (.iconst 0, 1) := by decide +kernel
theorem dX5_sizeOf_38 : decode cX5_sizeOf 38 = .ok (.ireturn, 1) := by decide +kernel
set_option maxRecDepth 20000 in
theorem ggX5_holds_X0_isDocument : GoodIn wsX5_holds wsX0_isDocument := goodIn_r _ [7, 8, 9, 10, 6, 11, 12, 13, 14, 15, 35, 36, 37, 38] (by decide +kernel) (by decide +kernel)
set_option maxRecDepth 20000 in
theorem gX5_holds_X0_isDocument : GoodIn wsX5_holds (wsV RX5 120 RX0 yX0_isDocument wsX0_isDocument) := goodIn_app (goodIn_of _ (by decide +kernel)) ggX5_holds_X0_isDocument
set_option maxRecDepth 20000 in
theorem ggX5_holds_X0_seqOf : GoodIn wsX5_holds wsX0_seqOf := goodIn_r _ [19, 20, 13, 14, 15, 35, 36, 37, 38] (by decide +kernel) (by decide +kernel)
set_option maxRecDepth 20000 in
theorem gX5_holds_X0_seqOf : GoodIn wsX5_holds (wsV RX5 117 RX0 yX0_seqOf wsX0_seqOf) := goodIn_app (goodIn_of _ (by decide +kernel)) ggX5_holds_X0_seqOf
theorem dX5_holds_0 : decode cX5_holds 0 = .ok (.iload_n 2, 1) := by decide +kernel
theorem dX5_holds_1 : decode cX5_holds 1 = .ok (.iconst (-1), 1) := by decide +kernel
theorem dX5_holds_2 : decode cX5_holds 2 = .ok (.if_icmp .ne 5, 3) := by decide +kernel
theorem dX5_holds_5 : decode cX5_holds 5 = .ok (.iconst 1, 1) := by decide +kernel
theorem dX5_holds_6 : decode cX5_holds 6 = .ok (.ireturn, 1) := by decide +kernel
theorem dX5_holds_7 : decode cX5_holds 7 = .ok (.iload_n 2, 1) := by decide +kernel
theorem dX5_holds_8 : decode cX5_holds 8 = .ok (.bipush (-2), 2) := by decide +kernel
theorem dX5_holds_10 : decode cX5_holds 10 = .ok (.if_icmp .ne 23, 3) := by decide +kernel
theorem dX5_holds_13 : decode cX5_holds 13 = .ok (.aload_n 0, 1) := by decide +kernel
theorem dX5_holds_14 : decode cX5_holds 14 = .ok (.getfield 10, 3) := by decide +kernel
theorem dX5_holds_17 : decode cX5_holds 17 = .ok (.getfield 84, 3) := by decide +kernel
theorem dX5_holds_20 : decode cX5_holds 20 = .ok (.iload_n 1, 1) := by decide +kernel
theorem dX5_holds_21 : decode cX5_holds 21 = .ok (.invokevirtual 120, 3) := by decide +kernel
theorem dX5_holds_24 : decode cX5_holds 24 = .ok (.ifCond .ne 7, 3) := by decide +kernel
theorem dX5_holds_27 : decode cX5_holds 27 = .ok (.iconst 1, 1) := by decide +kernel
theorem dX5_holds_28 : decode cX5_holds 28 = .ok (.goto 4, 3) := by decide +kernel
theorem dX5_holds_31 : decode cX5_holds 31 = .ok (.iconst 0, 1) := by decide +kernel
theorem dX5_holds_32 : decode cX5_holds 32 = .ok (.ireturn, 1) := by decide +kernel
theorem dX5_holds_33 : decode cX5_holds 33 = .ok (.aload_n 0, 1) := by decide +kernel
theorem dX5_holds_34 : decode cX5_holds 34 = .ok (.getfield 10, 3) := by decide +kernel
theorem dX5_holds_37 : decode cX5_holds 37 = .ok (.getfield 84, 3) := by decide +kernel
theorem dX5_holds_40 : decode cX5_holds 40 = .ok (.iload_n 1, 1) := by decide +kernel
theorem dX5_holds_41 : decode cX5_holds 41 = .ok (.invokevirtual 120, 3) := by decide +kernel
theorem dX5_holds_44 : decode cX5_holds 44 = .ok (.ifCond .eq 22, 3) := by decide +kernel
theorem dX5_holds_47 : decode cX5_holds 47 = .ok (.aload_n 0, 1) := by decide +kernel
theorem dX5_holds_48 : decode cX5_holds 48 = .ok (.getfield 10, 3) := by decide +kernel
theorem dX5_holds_51 : decode cX5_holds 51 = .ok (.getfield 84, 3) := by decide +kernel
theorem dX5_holds_54 : decode cX5_holds 54 = .ok (.iload_n 1, 1) := by decide +kernel
theorem dX5_holds_55 : decode cX5_holds 55 = .ok (.invokevirtual 117, 3) := by decide +kernel
theorem dX5_holds_58 : decode cX5_holds 58 = .ok (.iload_n 2, 1) := by decide +kernel
theorem dX5_holds_59 : decode cX5_holds 59 = .ok (.if_icmp .ne 7, 3) := by decide +kernel
theorem dX5_holds_62 : decode cX5_holds 62 = .ok (.iconst 1, 1) := by decide +kernel
theorem dX5_holds_63 : decode cX5_holds 63 = .ok (.goto 4, 3) := by decide +kernel
theorem dX5_holds_66 : decode cX5_holds 66 = .ok (.iconst 0, 1) := by decide +kernel
theorem dX5_holds_67 : decode cX5_holds 67 = .ok (.ireturn, 1) := by decide +kernel
set_option maxRecDepth 20000 in
theorem ggX5_append_X2_append : GoodIn wsX5_append wsX2_append := goodIn_r _ [8, 9, 10, 11, 12, 13, 14, 15, 16, 17, 7, 18, 19, 20, 21, 22, 23, 24, 25, 26, 27, 28, 29, 30, 31, 32, 33, 34, 35, 36, 37, 38, 39, 40, 41, 42, 43, 44, 45, 46, 47, 48, 90, 91, 92, 93, 94, 95, 96, 97, 98, 99, 100] (by decide +kernel) (by decide +kernel)
set_option maxRecDepth 20000 in
theorem gX5_append_X2_append : GoodIn wsX5_append (wsV RX5 209 RX2 yX2_append wsX2_append) := goodIn_app (goodIn_of _ (by decide +kernel)) ggX5_append_X2_append
set_option maxRecDepth 20000 in
theorem ggX5_append_X1_process : GoodIn wsX5_append wsX1_process := goodIn_r _ [53, 54, 55, 56, 57, 58, 52, 59, 60, 61, 62, 63, 46, 47, 48, 64, 65, 66, 67, 68, 69, 70, 71, 72, 73, 74, 75, 76, 77, 78, 24, 79, 96, 97, 98, 99, 100, 101, 102, 103, 104, 105, 106, 107, 108] (by decide +kernel) (by decide +kernel)
set_option maxRecDepth 20000 in
theorem gX5_append_X1_process : GoodIn wsX5_append (wsV RX5 212 RX1 yX1_process wsX1_process) := goodIn_app (goodIn_of _ (by decide +kernel)) ggX5_append_X1_process
theorem dX5_append_0 : decode cX5_append 0 = .ok (.aload_n 0, 1) := by decide +kernel
theorem dX5_append_1 : decode cX5_append 1 = .ok (.getfield 29, 3) := by decide +kernel
theorem dX5_append_4 : decode cX5_append 4 = .ok (.aload_n 0, 1) := by decide +kernel
theorem dX5_append_5 : decode cX5_append 5 = .ok (.getfield 43, 3) := by decide +kernel
theorem dX5_append_8 : decode cX5_append 8 = .ok (.invokevirtual 209, 3) := by decide +kernel
theorem dX5_append_11 : decode cX5_append 11 = .ok (.aload_n 0, 1) := by decide +kernel
theorem dX5_append_12 : decode cX5_append 12 = .ok (.getfield 10, 3) := by decide +kernel
theorem dX5_append_15 : decode cX5_append 15 = .ok (.aload_n 0, 1) := by decide +kernel
theorem dX5_append_16 : decode cX5_append 16 = .ok (.getfield 43, 3) := by decide +kernel
theorem dX5_append_19 : decode cX5_append 19 = .ok (.invokevirtual 212, 3) := by decide +kernel
theorem dX5_append_22 : decode cX5_append 22 = .ok (.ireturn, 1) := by decide +kernel
set_option maxRecDepth 20000 in
theorem ggX5_replayGeneration_X2_lengthOf : GoodIn wsX5_replayGeneration wsX2_lengthOf := goodIn_r _ [11, 12, 13, 14, 10, 15, 121, 122, 123, 124, 125, 126] (by decide +kernel) (by decide +kernel)
set_option maxRecDepth 20000 in
theorem gX5_replayGeneration_X2_lengthOf : GoodIn wsX5_replayGeneration (wsV RX5 206 RX2 yX2_lengthOf wsX2_lengthOf) := goodIn_app (goodIn_of _ (by decide +kernel)) ggX5_replayGeneration_X2_lengthOf
set_option maxRecDepth 20000 in
theorem ggX5_replayGeneration_X2_forgetSeqs : GoodIn wsX5_replayGeneration wsX2_forgetSeqs := goodIn_r _ [19, 20, 13, 14, 10, 15, 121, 122, 123, 124, 125, 126] (by decide +kernel) (by decide +kernel)
set_option maxRecDepth 20000 in
theorem gX5_replayGeneration_X2_forgetSeqs : GoodIn wsX5_replayGeneration (wsV RX5 216 RX2 yX2_forgetSeqs wsX2_forgetSeqs) := goodIn_app (goodIn_of _ (by decide +kernel)) ggX5_replayGeneration_X2_forgetSeqs
set_option maxRecDepth 20000 in
theorem ggX5_replayGeneration_X2_read : GoodIn wsX5_replayGeneration wsX2_read := goodIn_r _ [24, 25, 8, 9, 10, 11, 12, 13, 14, 15, 26, 27, 28, 29, 30, 31, 32, 33, 34, 35, 36, 37, 38, 39, 40, 41, 42, 43, 44, 45, 46, 47, 48, 49, 50, 51, 52, 53, 54, 121, 122, 123, 124, 125, 126, 112, 113, 114, 115, 116] (by decide +kernel) (by decide +kernel)
set_option maxRecDepth 20000 in
theorem gX5_replayGeneration_X2_read : GoodIn wsX5_replayGeneration (wsV RX5 219 RX2 yX2_read wsX2_read) := goodIn_app (goodIn_of _ (by decide +kernel)) ggX5_replayGeneration_X2_read
set_option maxRecDepth 20000 in
theorem ggX5_replayGeneration_X2_syncedOf : GoodIn wsX5_replayGeneration wsX2_syncedOf := goodIn_r _ [58, 59, 60, 25, 8, 9, 10, 11, 12, 13, 14, 15, 121, 122, 123, 124, 125, 126] (by decide +kernel) (by decide +kernel)
set_option maxRecDepth 20000 in
theorem gX5_replayGeneration_X2_syncedOf : GoodIn wsX5_replayGeneration (wsV RX5 226 RX2 yX2_syncedOf wsX2_syncedOf) := goodIn_app (goodIn_of _ (by decide +kernel)) ggX5_replayGeneration_X2_syncedOf
set_option maxRecDepth 20000 in
theorem ggX5_replayGeneration_X2_noteSeq : GoodIn wsX5_replayGeneration wsX2_noteSeq := goodIn_r _ [64, 20, 65, 66, 67, 68, 13, 14, 10, 15, 121, 122, 123, 124, 125, 126] (by decide +kernel) (by decide +kernel)
set_option maxRecDepth 20000 in
theorem gX5_replayGeneration_X2_noteSeq : GoodIn wsX5_replayGeneration (wsV RX5 229 RX2 yX2_noteSeq wsX2_noteSeq) := goodIn_app (goodIn_of _ (by decide +kernel)) ggX5_replayGeneration_X2_noteSeq
set_option maxRecDepth 20000 in
theorem ggX5_replayGeneration_X1_isProcessed : GoodIn wsX5_replayGeneration wsX1_isProcessed := goodIn_r _ [73, 74, 75, 117, 118, 119, 120] (by decide +kernel) (by decide +kernel)
set_option maxRecDepth 20000 in
theorem gX5_replayGeneration_X1_isProcessed : GoodIn wsX5_replayGeneration (wsV RX5 100 RX1 yX1_isProcessed wsX1_isProcessed) := goodIn_app (goodIn_of _ (by decide +kernel)) ggX5_replayGeneration_X1_isProcessed
set_option maxRecDepth 20000 in
theorem ggX5_replayGeneration_X1_process : GoodIn wsX5_replayGeneration wsX1_process := goodIn_r _ [79, 80, 81, 82, 83, 84, 72, 85, 74, 75, 86, 87, 66, 67, 68, 88, 89, 90, 91, 92, 93, 94, 95, 96, 97, 98, 99, 100, 101, 43, 32, 44, 112, 113, 114, 115, 116, 117, 118, 119, 120, 127, 128, 129, 130] (by decide +kernel) (by decide +kernel)
set_option maxRecDepth 20000 in
theorem gX5_replayGeneration_X1_process : GoodIn wsX5_replayGeneration (wsV RX5 212 RX1 yX1_process wsX1_process) := goodIn_app (goodIn_of _ (by decide +kernel)) ggX5_replayGeneration_X1_process
theorem dX5_replayGeneration_0 : decode cX5_replayGeneration 0 = .ok (.iconst 0, 1) := by decide +kernel
theorem dX5_replayGeneration_1 : decode cX5_replayGeneration 1 = .ok (.istore_n 3, 1) := by decide +kernel
theorem dX5_replayGeneration_2 : decode cX5_replayGeneration 2 = .ok (.aload_n 0, 1) := by decide +kernel
theorem dX5_replayGeneration_3 : decode cX5_replayGeneration 3 = .ok (.getfield 29, 3) := by decide +kernel
theorem dX5_replayGeneration_6 : decode cX5_replayGeneration 6 = .ok (.iload_n 1, 1) := by decide +kernel
theorem dX5_replayGeneration_7 : decode cX5_replayGeneration 7 = .ok (.invokevirtual 206, 3) := by decide +kernel
theorem dX5_replayGeneration_10 : decode cX5_replayGeneration 10 = .ok (.istore 4, 2) := by decide +kernel
theorem dX5_replayGeneration_12 : decode cX5_replayGeneration 12 = .ok (.aload_n 0, 1) := by decide +kernel
theorem dX5_replayGeneration_13 : decode cX5_replayGeneration 13 = .ok (.getfield 29, 3) := by decide +kernel
theorem dX5_replayGeneration_16 : decode cX5_replayGeneration 16 = .ok (.iload_n 1, 1) := by decide +kernel
theorem dX5_replayGeneration_17 : decode cX5_replayGeneration 17 = .ok (.invokevirtual 216, 3) := by decide +kernel
theorem dX5_replayGeneration_20 : decode cX5_replayGeneration 20 = .ok (.iconst 0, 1) := by decide +kernel
theorem dX5_replayGeneration_21 : decode cX5_replayGeneration 21 = .ok (.istore 5, 2) := by decide +kernel
theorem dX5_replayGeneration_23 : decode cX5_replayGeneration 23 = .ok (.iload 5, 2) := by decide +kernel
theorem dX5_replayGeneration_25 : decode cX5_replayGeneration 25 = .ok (.sipush 240, 3) := by decide +kernel
theorem dX5_replayGeneration_28 : decode cX5_replayGeneration 28 = .ok (.if_icmp .ge 148, 3) := by decide +kernel
theorem dX5_replayGeneration_31 : decode cX5_replayGeneration 31 = .ok (.iload_n 3, 1) := by decide +kernel
theorem dX5_replayGeneration_32 : decode cX5_replayGeneration 32 = .ok (.iload 4, 2) := by decide +kernel
theorem dX5_replayGeneration_34 : decode cX5_replayGeneration 34 = .ok (.if_icmp .ge 142, 3) := by decide +kernel
theorem dX5_replayGeneration_37 : decode cX5_replayGeneration 37 = .ok (.aload_n 0, 1) := by decide +kernel
theorem dX5_replayGeneration_38 : decode cX5_replayGeneration 38 = .ok (.getfield 29, 3) := by decide +kernel
theorem dX5_replayGeneration_41 : decode cX5_replayGeneration 41 = .ok (.iload_n 1, 1) := by decide +kernel
theorem dX5_replayGeneration_42 : decode cX5_replayGeneration 42 = .ok (.iload_n 3, 1) := by decide +kernel
theorem dX5_replayGeneration_43 : decode cX5_replayGeneration 43 = .ok (.aload_n 0, 1) := by decide +kernel
theorem dX5_replayGeneration_44 : decode cX5_replayGeneration 44 = .ok (.getfield 43, 3) := by decide +kernel
theorem dX5_replayGeneration_47 : decode cX5_replayGeneration 47 = .ok (.invokevirtual 219, 3) := by decide +kernel
theorem dX5_replayGeneration_50 : decode cX5_replayGeneration 50 = .ok (.istore 6, 2) := by decide +kernel
theorem dX5_replayGeneration_52 : decode cX5_replayGeneration 52 = .ok (.iload 6, 2) := by decide +kernel
theorem dX5_replayGeneration_54 : decode cX5_replayGeneration 54 = .ok (.ifCond .eq 23, 3) := by decide +kernel
theorem dX5_replayGeneration_57 : decode cX5_replayGeneration 57 = .ok (.aload_n 0, 1) := by decide +kernel
theorem dX5_replayGeneration_58 : decode cX5_replayGeneration 58 = .ok (.getfield 43, 3) := by decide +kernel
theorem dX5_replayGeneration_61 : decode cX5_replayGeneration 61 = .ok (.getfield 223, 3) := by decide +kernel
theorem dX5_replayGeneration_64 : decode cX5_replayGeneration 64 = .ok (.aload_n 0, 1) := by decide +kernel
theorem dX5_replayGeneration_65 : decode cX5_replayGeneration 65 = .ok (.getfield 10, 3) := by decide +kernel
theorem dX5_replayGeneration_68 : decode cX5_replayGeneration 68 = .ok (.getfield 81, 3) := by decide +kernel
theorem dX5_replayGeneration_71 : decode cX5_replayGeneration 71 = .ok (.bipush 64, 2) := by decide +kernel
theorem dX5_replayGeneration_73 : decode cX5_replayGeneration 73 = .ok (.iadd, 1) := by decide +kernel
theorem dX5_replayGeneration_74 : decode cX5_replayGeneration 74 = .ok (.if_icmp .le 22, 3) := by decide +kernel
theorem dX5_replayGeneration_77 : decode cX5_replayGeneration 77 = .ok (.iload_n 3, 1) := by decide +kernel
theorem dX5_replayGeneration_78 : decode cX5_replayGeneration 78 = .ok (.aload_n 0, 1) := by decide +kernel
theorem dX5_replayGeneration_79 : decode cX5_replayGeneration 79 = .ok (.getfield 29, 3) := by decide +kernel
theorem dX5_replayGeneration_82 : decode cX5_replayGeneration 82 = .ok (.iload_n 1, 1) := by decide +kernel
theorem dX5_replayGeneration_83 : decode cX5_replayGeneration 83 = .ok (.invokevirtual 226, 3) := by decide +kernel
theorem dX5_replayGeneration_86 : decode cX5_replayGeneration 86 = .ok (.if_icmp .ge 8, 3) := by decide +kernel
theorem dX5_replayGeneration_89 : decode cX5_replayGeneration 89 = .ok (.bipush (-5), 2) := by decide +kernel
theorem dX5_replayGeneration_91 : decode cX5_replayGeneration 91 = .ok (.goto 4, 3) := by decide +kernel
theorem dX5_replayGeneration_94 : decode cX5_replayGeneration 94 = .ok (.iload_n 3, 1) := by decide +kernel
theorem dX5_replayGeneration_95 : decode cX5_replayGeneration 95 = .ok (.ireturn, 1) := by decide +kernel
theorem dX5_replayGeneration_96 : decode cX5_replayGeneration 96 = .ok (.aload_n 0, 1) := by decide +kernel
theorem dX5_replayGeneration_97 : decode cX5_replayGeneration 97 = .ok (.getfield 29, 3) := by decide +kernel
theorem dX5_replayGeneration_100 : decode cX5_replayGeneration 100 = .ok (.iload_n 1, 1) := by decide +kernel
theorem dX5_replayGeneration_101 : decode cX5_replayGeneration 101 = .ok (.aload_n 0, 1) := by decide +kernel
theorem dX5_replayGeneration_102 : decode cX5_replayGeneration 102 = .ok (.getfield 43, 3) := by decide +kernel
theorem dX5_replayGeneration_105 : decode cX5_replayGeneration 105 = .ok (.getfield 223, 3) := by decide +kernel
theorem dX5_replayGeneration_108 : decode cX5_replayGeneration 108 = .ok (.invokevirtual 229, 3) := by decide +kernel
theorem dX5_replayGeneration_111 : decode cX5_replayGeneration 111 = .ok (.aload_n 0, 1) := by decide +kernel
theorem dX5_replayGeneration_112 : decode cX5_replayGeneration 112 = .ok (.getfield 10, 3) := by decide +kernel
theorem dX5_replayGeneration_115 : decode cX5_replayGeneration 115 = .ok (.aload_n 0, 1) := by decide +kernel
theorem dX5_replayGeneration_116 : decode cX5_replayGeneration 116 = .ok (.getfield 43, 3) := by decide +kernel
theorem dX5_replayGeneration_119 : decode cX5_replayGeneration 119 = .ok (.getfield 223, 3) := by decide +kernel
theorem dX5_replayGeneration_122 : decode cX5_replayGeneration 122 = .ok (.invokevirtual 100, 3) := by decide +kernel
theorem dX5_replayGeneration_125 : decode cX5_replayGeneration 125 = .ok (.ifCond .ne 40, 3) := by decide +kernel
theorem dX5_replayGeneration_128 : decode cX5_replayGeneration 128 = .ok (.iload_n 2, 1) := by decide +kernel
theorem dX5_replayGeneration_129 : decode cX5_replayGeneration 129 = .ok (.ifCond .lt 14, 3) := by decide +kernel
theorem dX5_replayGeneration_132 : decode cX5_replayGeneration 132 = .ok (.aload_n 0, 1) := by decide +kernel
theorem dX5_replayGeneration_133 : decode cX5_replayGeneration 133 = .ok (.getfield 55, 3) := by decide +kernel
theorem dX5_replayGeneration_136 : decode cX5_replayGeneration 136 = .ok (.iload_n 2, 1) := by decide +kernel
theorem dX5_replayGeneration_137 : decode cX5_replayGeneration 137 = .ok (.if_icmp .lt 6, 3) := by decide +kernel
theorem dX5_replayGeneration_140 : decode cX5_replayGeneration 140 = .ok (.bipush (-4), 2) := by decide +kernel
theorem dX5_replayGeneration_142 : decode cX5_replayGeneration 142 = .ok (.ireturn, 1) := by decide +kernel
theorem dX5_replayGeneration_143 : decode cX5_replayGeneration 143 = .ok (.aload_n 0, 1) := by decide +kernel
theorem dX5_replayGeneration_144 : decode cX5_replayGeneration 144 = .ok (.getfield 10, 3) := by decide +kernel
theorem dX5_replayGeneration_147 : decode cX5_replayGeneration 147 = .ok (.aload_n 0, 1) := by decide +kernel
theorem dX5_replayGeneration_148 : decode cX5_replayGeneration 148 = .ok (.getfield 43, 3) := by decide +kernel
theorem dX5_replayGeneration_151 : decode cX5_replayGeneration 151 = .ok (.invokevirtual 212, 3) := by decide +kernel
theorem dX5_replayGeneration_154 : decode cX5_replayGeneration 154 = .ok (.pop, 1) := by decide +kernel
theorem dX5_replayGeneration_155 : decode cX5_replayGeneration 155 = .ok (.aload_n 0, 1) := by decide +kernel
theorem dX5_replayGeneration_156 : decode cX5_replayGeneration 156 = .ok (.dup, 1) := by decide +kernel
theorem dX5_replayGeneration_157 : decode cX5_replayGeneration 157 = .ok (.getfield 55, 3) := by decide +kernel
theorem dX5_replayGeneration_160 : decode cX5_replayGeneration 160 = .ok (.iconst 1, 1) := by decide +kernel
theorem dX5_replayGeneration_161 : decode cX5_replayGeneration 161 = .ok (.iadd, 1) := by decide +kernel
theorem dX5_replayGeneration_162 : decode cX5_replayGeneration 162 = .ok (.putfield 55, 3) := by decide +kernel
theorem dX5_replayGeneration_165 : decode cX5_replayGeneration 165 = .ok (.iload_n 3, 1) := by decide +kernel
theorem dX5_replayGeneration_166 : decode cX5_replayGeneration 166 = .ok (.iload 6, 2) := by decide +kernel
theorem dX5_replayGeneration_168 : decode cX5_replayGeneration 168 = .ok (.iadd, 1) := by decide +kernel
theorem dX5_replayGeneration_169 : decode cX5_replayGeneration 169 = .ok (.istore_n 3, 1) := by decide +kernel
theorem dX5_replayGeneration_170 : decode cX5_replayGeneration 170 = .ok (.iinc 5 1, 3) := by decide +kernel
theorem dX5_replayGeneration_173 : decode cX5_replayGeneration 173 = .ok (.goto (-150), 3) := by decide +kernel
theorem dX5_replayGeneration_176 : decode cX5_replayGeneration 176 = .ok (.iload_n 3, 1) := by decide +kernel
theorem dX5_replayGeneration_177 : decode cX5_replayGeneration 177 = .ok (.ireturn, 1) := by decide +kernel
set_option maxRecDepth 20000 in
theorem ggX5_scoreAll_X0_isDocument : GoodIn wsX5_scoreAll wsX0_isDocument := goodIn_r _ [8, 9, 10, 11, 7, 12, 13, 14, 15, 16, 70, 71, 72, 73] (by decide +kernel) (by decide +kernel)
set_option maxRecDepth 20000 in
theorem gX5_scoreAll_X0_isDocument : GoodIn wsX5_scoreAll (wsV RX5 120 RX0 yX0_isDocument wsX0_isDocument) := goodIn_app (goodIn_of _ (by decide +kernel)) ggX5_scoreAll_X0_isDocument
set_option maxRecDepth 20000 in
theorem ggX5_scoreAll_X0_sourceOf : GoodIn wsX5_scoreAll wsX0_sourceOf := goodIn_r _ [20, 21, 14, 15, 16, 70, 71, 72, 73] (by decide +kernel) (by decide +kernel)
set_option maxRecDepth 20000 in
theorem gX5_scoreAll_X0_sourceOf : GoodIn wsX5_scoreAll (wsV RX5 110 RX0 yX0_sourceOf wsX0_sourceOf) := goodIn_app (goodIn_of _ (by decide +kernel)) ggX5_scoreAll_X0_sourceOf
set_option maxRecDepth 20000 in
theorem ggX5_scoreAll_X4_scoreOf : GoodIn wsX5_scoreAll wsX4_scoreOf := goodIn_r _ [26, 27, 28, 29, 30, 31, 32, 33, 34, 35, 36, 25, 37, 38, 39, 40, 41, 42, 43, 44, 45, 46, 47, 48, 49, 50, 51, 52, 53, 54, 55, 56, 57, 58, 59, 74, 75, 76, 77, 78, 79] (by decide +kernel) (by decide +kernel)
set_option maxRecDepth 20000 in
theorem gX5_scoreAll_X4_scoreOf : GoodIn wsX5_scoreAll (wsV RX5 233 RX4 yX4_scoreOf wsX4_scoreOf) := goodIn_app (goodIn_of _ (by decide +kernel)) ggX5_scoreAll_X4_scoreOf
theorem dX5_scoreAll_0 : decode cX5_scoreAll 0 = .ok (.iconst 0, 1) := by decide +kernel
theorem dX5_scoreAll_1 : decode cX5_scoreAll 1 = .ok (.istore_n 1, 1) := by decide +kernel
theorem dX5_scoreAll_2 : decode cX5_scoreAll 2 = .ok (.iload_n 1, 1) := by decide +kernel
theorem dX5_scoreAll_3 : decode cX5_scoreAll 3 = .ok (.bipush 16, 2) := by decide +kernel
theorem dX5_scoreAll_5 : decode cX5_scoreAll 5 = .ok (.if_icmp .ge 45, 3) := by decide +kernel
theorem dX5_scoreAll_8 : decode cX5_scoreAll 8 = .ok (.aload_n 0, 1) := by decide +kernel
theorem dX5_scoreAll_9 : decode cX5_scoreAll 9 = .ok (.getfield 47, 3) := by decide +kernel
theorem dX5_scoreAll_12 : decode cX5_scoreAll 12 = .ok (.iload_n 1, 1) := by decide +kernel
theorem dX5_scoreAll_13 : decode cX5_scoreAll 13 = .ok (.aload_n 0, 1) := by decide +kernel
theorem dX5_scoreAll_14 : decode cX5_scoreAll 14 = .ok (.getfield 22, 3) := by decide +kernel
theorem dX5_scoreAll_17 : decode cX5_scoreAll 17 = .ok (.iload_n 1, 1) := by decide +kernel
theorem dX5_scoreAll_18 : decode cX5_scoreAll 18 = .ok (.invokevirtual 120, 3) := by decide +kernel
theorem dX5_scoreAll_21 : decode cX5_scoreAll 21 = .ok (.ifCond .eq 21, 3) := by decide +kernel
theorem dX5_scoreAll_24 : decode cX5_scoreAll 24 = .ok (.aload_n 0, 1) := by decide +kernel
theorem dX5_scoreAll_25 : decode cX5_scoreAll 25 = .ok (.getfield 36, 3) := by decide +kernel
theorem dX5_scoreAll_28 : decode cX5_scoreAll 28 = .ok (.aload_n 0, 1) := by decide +kernel
theorem dX5_scoreAll_29 : decode cX5_scoreAll 29 = .ok (.getfield 22, 3) := by decide +kernel
theorem dX5_scoreAll_32 : decode cX5_scoreAll 32 = .ok (.iload_n 1, 1) := by decide +kernel
theorem dX5_scoreAll_33 : decode cX5_scoreAll 33 = .ok (.invokevirtual 110, 3) := by decide +kernel
theorem dX5_scoreAll_36 : decode cX5_scoreAll 36 = .ok (.invokevirtual 233, 3) := by decide +kernel
theorem dX5_scoreAll_39 : decode cX5_scoreAll 39 = .ok (.goto 4, 3) := by decide +kernel
theorem dX5_scoreAll_42 : decode cX5_scoreAll 42 = .ok (.iconst (-1), 1) := by decide +kernel
theorem dX5_scoreAll_43 : decode cX5_scoreAll 43 = .ok (.iastore, 1) := by decide +kernel
theorem dX5_scoreAll_44 : decode cX5_scoreAll 44 = .ok (.iinc 1 1, 3) := by decide +kernel
theorem dX5_scoreAll_47 : decode cX5_scoreAll 47 = .ok (.goto (-45), 3) := by decide +kernel
theorem dX5_scoreAll_50 : decode cX5_scoreAll 50 = .ok (.return_, 1) := by decide +kernel
theorem dX5_countMatches_0 : decode cX5_countMatches 0 = .ok (.iconst 0, 1) := by decide +kernel
theorem dX5_countMatches_1 : decode cX5_countMatches 1 = .ok (.istore_n 1, 1) := by decide +kernel
theorem dX5_countMatches_2 : decode cX5_countMatches 2 = .ok (.iconst 0, 1) := by decide +kernel
theorem dX5_countMatches_3 : decode cX5_countMatches 3 = .ok (.istore_n 2, 1) := by decide +kernel
theorem dX5_countMatches_4 : decode cX5_countMatches 4 = .ok (.iload_n 2, 1) := by decide +kernel
theorem dX5_countMatches_5 : decode cX5_countMatches 5 = .ok (.bipush 16, 2) := by decide +kernel
theorem dX5_countMatches_7 : decode cX5_countMatches 7 = .ok (.if_icmp .ge 21, 3) := by decide +kernel
theorem dX5_countMatches_10 : decode cX5_countMatches 10 = .ok (.aload_n 0, 1) := by decide +kernel
theorem dX5_countMatches_11 : decode cX5_countMatches 11 = .ok (.getfield 47, 3) := by decide +kernel
theorem dX5_countMatches_14 : decode cX5_countMatches 14 = .ok (.iload_n 2, 1) := by decide +kernel
theorem dX5_countMatches_15 : decode cX5_countMatches 15 = .ok (.iaload, 1) := by decide +kernel
theorem dX5_countMatches_16 : decode cX5_countMatches 16 = .ok (.ifCond .lt 6, 3) := by decide +kernel
theorem dX5_countMatches_19 : decode cX5_countMatches 19 = .ok (.iinc 1 1, 3) := by decide +kernel
theorem dX5_countMatches_22 : decode cX5_countMatches 22 = .ok (.iinc 2 1, 3) := by decide +kernel
theorem dX5_countMatches_25 : decode cX5_countMatches 25 = .ok (.goto (-21), 3) := by decide +kernel
theorem dX5_countMatches_28 : decode cX5_countMatches 28 = .ok (.iload_n 1, 1) := by decide +kernel
theorem dX5_countMatches_29 : decode cX5_countMatches 29 = .ok (.ireturn, 1) := by decide +kernel
set_option maxRecDepth 20000 in
theorem ggX5_rankOf_X5_keyOf : GoodIn wsX5_rankOf wsX5_keyOf := goodIn_r _ [6, 1, 7, 8, 9, 5, 10, 11, 12, 13, 14, 15, 16, 20, 21, 22, 23, 24, 25, 26, 27, 28, 29, 30, 31, 32, 33] (by decide +kernel) (by decide +kernel)
set_option maxRecDepth 20000 in
theorem gX5_rankOf_X5_keyOf : GoodIn wsX5_rankOf (wsV RX5 199 RX5 yX5_keyOf wsX5_keyOf) := goodIn_app (goodIn_of _ (by decide +kernel)) ggX5_rankOf_X5_keyOf
set_option maxRecDepth 20000 in
theorem ggX5_rankOf_X5_isBehind : GoodIn wsX5_rankOf wsX5_isBehind := goodIn_r _ [19] (by decide +kernel) (by decide +kernel)
set_option maxRecDepth 20000 in
theorem gX5_rankOf_X5_isBehind : GoodIn wsX5_rankOf (va_wsS RX5 202 yX5_isBehind wsX5_isBehind) := goodIn_app (goodIn_of _ (by decide +kernel)) ggX5_rankOf_X5_isBehind
theorem dX5_rankOf_0 : decode cX5_rankOf 0 = .ok (.iconst 0, 1) := by decide +kernel
theorem dX5_rankOf_1 : decode cX5_rankOf 1 = .ok (.istore_n 3, 1) := by decide +kernel
theorem dX5_rankOf_2 : decode cX5_rankOf 2 = .ok (.iconst 0, 1) := by decide +kernel
theorem dX5_rankOf_3 : decode cX5_rankOf 3 = .ok (.istore 4, 2) := by decide +kernel
theorem dX5_rankOf_5 : decode cX5_rankOf 5 = .ok (.iload 4, 2) := by decide +kernel
theorem dX5_rankOf_7 : decode cX5_rankOf 7 = .ok (.bipush 16, 2) := by decide +kernel
theorem dX5_rankOf_9 : decode cX5_rankOf 9 = .ok (.if_icmp .ge 45, 3) := by decide +kernel
theorem dX5_rankOf_12 : decode cX5_rankOf 12 = .ok (.aload_n 0, 1) := by decide +kernel
theorem dX5_rankOf_13 : decode cX5_rankOf 13 = .ok (.getfield 47, 3) := by decide +kernel
theorem dX5_rankOf_16 : decode cX5_rankOf 16 = .ok (.iload 4, 2) := by decide +kernel
theorem dX5_rankOf_18 : decode cX5_rankOf 18 = .ok (.iaload, 1) := by decide +kernel
theorem dX5_rankOf_19 : decode cX5_rankOf 19 = .ok (.ifCond .lt 29, 3) := by decide +kernel
theorem dX5_rankOf_22 : decode cX5_rankOf 22 = .ok (.iload_n 1, 1) := by decide +kernel
theorem dX5_rankOf_23 : decode cX5_rankOf 23 = .ok (.aload_n 0, 1) := by decide +kernel
theorem dX5_rankOf_24 : decode cX5_rankOf 24 = .ok (.iload_n 1, 1) := by decide +kernel
theorem dX5_rankOf_25 : decode cX5_rankOf 25 = .ok (.iload_n 2, 1) := by decide +kernel
theorem dX5_rankOf_26 : decode cX5_rankOf 26 = .ok (.invokevirtual 199, 3) := by decide +kernel
theorem dX5_rankOf_29 : decode cX5_rankOf 29 = .ok (.iload_n 2, 1) := by decide +kernel
theorem dX5_rankOf_30 : decode cX5_rankOf 30 = .ok (.aload_n 0, 1) := by decide +kernel
theorem dX5_rankOf_31 : decode cX5_rankOf 31 = .ok (.iload_n 1, 1) := by decide +kernel
theorem dX5_rankOf_32 : decode cX5_rankOf 32 = .ok (.iload 4, 2) := by decide +kernel
theorem dX5_rankOf_34 : decode cX5_rankOf 34 = .ok (.invokevirtual 199, 3) := by decide +kernel
theorem dX5_rankOf_37 : decode cX5_rankOf 37 = .ok (.iload 4, 2) := by decide +kernel
theorem dX5_rankOf_39 : decode cX5_rankOf 39 = .ok (.invokestatic 202, 3) := by decide +kernel
theorem dX5_rankOf_42 : decode cX5_rankOf 42 = .ok (.ifCond .eq 6, 3) := by decide +kernel
theorem dX5_rankOf_45 : decode cX5_rankOf 45 = .ok (.iinc 3 1, 3) := by decide +kernel
theorem dX5_rankOf_48 : decode cX5_rankOf 48 = .ok (.iinc 4 1, 3) := by decide +kernel
theorem dX5_rankOf_51 : decode cX5_rankOf 51 = .ok (.goto (-46), 3) := by decide +kernel
theorem dX5_rankOf_54 : decode cX5_rankOf 54 = .ok (.iload_n 3, 1) := by decide +kernel
theorem dX5_rankOf_55 : decode cX5_rankOf 55 = .ok (.ireturn, 1) := by decide +kernel
set_option maxRecDepth 20000 in
theorem ggX5_keyOf_X5_isId : GoodIn wsX5_keyOf wsX5_isId := goodIn_r _ [6] (by decide +kernel) (by decide +kernel)
set_option maxRecDepth 20000 in
theorem gX5_keyOf_X5_isId : GoodIn wsX5_keyOf (va_wsS RX5 62 yX5_isId wsX5_isId) := goodIn_app (goodIn_of _ (by decide +kernel)) ggX5_keyOf_X5_isId
set_option maxRecDepth 20000 in
theorem ggX5_keyOf_X0_sourceOf : GoodIn wsX5_keyOf wsX0_sourceOf := goodIn_r _ [11, 12, 4, 5, 6, 23, 24, 25, 26] (by decide +kernel) (by decide +kernel)
set_option maxRecDepth 20000 in
theorem gX5_keyOf_X0_sourceOf : GoodIn wsX5_keyOf (wsV RX5 110 RX0 yX0_sourceOf wsX0_sourceOf) := goodIn_app (goodIn_of _ (by decide +kernel)) ggX5_keyOf_X0_sourceOf
theorem dX5_keyOf_0 : decode cX5_keyOf 0 = .ok (.iload_n 2, 1) := by decide +kernel
theorem dX5_keyOf_1 : decode cX5_keyOf 1 = .ok (.invokestatic 62, 3) := by decide +kernel
theorem dX5_keyOf_4 : decode cX5_keyOf 4 = .ok (.ifCond .ne 5, 3) := by decide +kernel
theorem dX5_keyOf_7 : decode cX5_keyOf 7 = .ok (.iconst 0, 1) := by decide +kernel
theorem dX5_keyOf_8 : decode cX5_keyOf 8 = .ok (.ireturn, 1) := by decide +kernel
theorem dX5_keyOf_9 : decode cX5_keyOf 9 = .ok (.iload_n 1, 1) := by decide +kernel
theorem dX5_keyOf_10 : decode cX5_keyOf 10 = .ok (.ifCond .ne 12, 3) := by decide +kernel
theorem dX5_keyOf_13 : decode cX5_keyOf 13 = .ok (.aload_n 0, 1) := by decide +kernel
theorem dX5_keyOf_14 : decode cX5_keyOf 14 = .ok (.getfield 47, 3) := by decide +kernel
theorem dX5_keyOf_17 : decode cX5_keyOf 17 = .ok (.iload_n 2, 1) := by decide +kernel
theorem dX5_keyOf_18 : decode cX5_keyOf 18 = .ok (.iaload, 1) := by decide +kernel
theorem dX5_keyOf_19 : decode cX5_keyOf 19 = .ok (.goto 12, 3) := by decide +kernel
theorem dX5_keyOf_22 : decode cX5_keyOf 22 = .ok (.aload_n 0, 1) := by decide +kernel
theorem dX5_keyOf_23 : decode cX5_keyOf 23 = .ok (.getfield 22, 3) := by decide +kernel
theorem dX5_keyOf_26 : decode cX5_keyOf 26 = .ok (.iload_n 2, 1) := by decide +kernel
theorem dX5_keyOf_27 : decode cX5_keyOf 27 = .ok (.invokevirtual 110, 3) := by decide +kernel
theorem dX5_keyOf_30 : decode cX5_keyOf 30 = .ok (.l2i, 1) := by decide +kernel
theorem dX5_keyOf_31 : decode cX5_keyOf 31 = .ok (.ireturn, 1) := by decide +kernel
theorem dX5_isBehind_0 : decode cX5_isBehind 0 = .ok (.iload_n 1, 1) := by decide +kernel
theorem dX5_isBehind_1 : decode cX5_isBehind 1 = .ok (.iload_n 3, 1) := by decide +kernel
theorem dX5_isBehind_2 : decode cX5_isBehind 2 = .ok (.if_icmp .ne 15, 3) := by decide +kernel
theorem dX5_isBehind_5 : decode cX5_isBehind 5 = .ok (.iload_n 2, 1) := by decide +kernel
theorem dX5_isBehind_6 : decode cX5_isBehind 6 = .ok (.iload 4, 2) := by decide +kernel
theorem dX5_isBehind_8 : decode cX5_isBehind 8 = .ok (.if_icmp .le 7, 3) := by decide +kernel
theorem dX5_isBehind_11 : decode cX5_isBehind 11 = .ok (.iconst 1, 1) := by decide +kernel
theorem dX5_isBehind_12 : decode cX5_isBehind 12 = .ok (.goto 4, 3) := by decide +kernel
theorem dX5_isBehind_15 : decode cX5_isBehind 15 = .ok (.iconst 0, 1) := by decide +kernel
theorem dX5_isBehind_16 : decode cX5_isBehind 16 = .ok (.ireturn, 1) := by decide +kernel
theorem dX5_isBehind_17 : decode cX5_isBehind 17 = .ok (.iload_n 0, 1) := by decide +kernel
theorem dX5_isBehind_18 : decode cX5_isBehind 18 = .ok (.iconst 1, 1) := by decide +kernel
theorem dX5_isBehind_19 : decode cX5_isBehind 19 = .ok (.if_icmp .ne 16, 3) := by decide +kernel
theorem dX5_isBehind_22 : decode cX5_isBehind 22 = .ok (.iload_n 1, 1) := by decide +kernel
theorem dX5_isBehind_23 : decode cX5_isBehind 23 = .ok (.iload_n 3, 1) := by decide +kernel
theorem dX5_isBehind_24 : decode cX5_isBehind 24 = .ok (.if_icmp .le 7, 3) := by decide +kernel
theorem dX5_isBehind_27 : decode cX5_isBehind 27 = .ok (.iconst 1, 1) := by decide +kernel
theorem dX5_isBehind_28 : decode cX5_isBehind 28 = .ok (.goto 17, 3) := by decide +kernel
theorem dX5_isBehind_31 : decode cX5_isBehind 31 = .ok (.iconst 0, 1) := by decide +kernel
theorem dX5_isBehind_32 : decode cX5_isBehind 32 = .ok (.goto 13, 3) := by decide +kernel
theorem dX5_isBehind_35 : decode cX5_isBehind 35 = .ok (.iload_n 1, 1) := by decide +kernel
theorem dX5_isBehind_36 : decode cX5_isBehind 36 = .ok (.iload_n 3, 1) := by decide +kernel
theorem dX5_isBehind_37 : decode cX5_isBehind 37 = .ok (.if_icmp .ge 7, 3) := by decide +kernel
theorem dX5_isBehind_40 : decode cX5_isBehind 40 = .ok (.iconst 1, 1) := by decide +kernel
theorem dX5_isBehind_41 : decode cX5_isBehind 41 = .ok (.goto 4, 3) := by decide +kernel
theorem dX5_isBehind_44 : decode cX5_isBehind 44 = .ok (.iconst 0, 1) := by decide +kernel
theorem dX5_isBehind_45 : decode cX5_isBehind 45 = .ok (.ireturn, 1) := by decide +kernel
theorem dX6_init_0 : decode cX6_init 0 = .ok (.aload_n 0, 1) := by decide +kernel
theorem dX6_init_1 : decode cX6_init 1 = .ok (.invokespecial 1, 3) := by decide +kernel
theorem dX6_init_4 : decode cX6_init 4 = .ok (.aload_n 0, 1) := by decide +kernel
theorem dX6_init_5 : decode cX6_init 5 = .ok (.bipush 16, 2) := by decide +kernel
theorem dX6_init_7 : decode cX6_init 7 = .ok (.newarray .int, 2) := by decide +kernel
theorem dX6_init_9 : decode cX6_init 9 = .ok (.putfield 7, 3) := by decide +kernel
theorem dX6_init_12 : decode cX6_init 12 = .ok (.aload_n 0, 1) := by decide +kernel
theorem dX6_init_13 : decode cX6_init 13 = .ok (.bipush 16, 2) := by decide +kernel
theorem dX6_init_15 : decode cX6_init 15 = .ok (.newarray .int, 2) := by decide +kernel
theorem dX6_init_17 : decode cX6_init 17 = .ok (.putfield 13, 3) := by decide +kernel
theorem dX6_init_20 : decode cX6_init 20 = .ok (.aload_n 0, 1) := by decide +kernel
theorem dX6_init_21 : decode cX6_init 21 = .ok (.bipush 16, 2) := by decide +kernel
theorem dX6_init_23 : decode cX6_init 23 = .ok (.newarray .int, 2) := by decide +kernel
theorem dX6_init_25 : decode cX6_init 25 = .ok (.putfield 16, 3) := by decide +kernel
theorem dX6_init_28 : decode cX6_init 28 = .ok (.aload_n 0, 1) := by decide +kernel
theorem dX6_init_29 : decode cX6_init 29 = .ok (.bipush 16, 2) := by decide +kernel
theorem dX6_init_31 : decode cX6_init 31 = .ok (.newarray .int, 2) := by decide +kernel
theorem dX6_init_33 : decode cX6_init 33 = .ok (.putfield 19, 3) := by decide +kernel
theorem dX6_init_36 : decode cX6_init 36 = .ok (.aload_n 0, 1) := by decide +kernel
theorem dX6_init_37 : decode cX6_init 37 = .ok (.bipush 16, 2) := by decide +kernel
theorem dX6_init_39 : decode cX6_init 39 = .ok (.newarray .int, 2) := by decide +kernel
theorem dX6_init_41 : decode cX6_init 41 = .ok (.putfield 22, 3) := by decide +kernel
theorem dX6_init_44 : decode cX6_init 44 = .ok (.aload_n 0, 1) := by decide +kernel
theorem dX6_init_45 : decode cX6_init 45 = .ok (.bipush 16, 2) := by decide +kernel
theorem dX6_init_47 : decode cX6_init 47 = .ok (.newarray .int, 2) := by decide +kernel
theorem dX6_init_49 : decode cX6_init 49 = .ok (.putfield 25, 3) := by decide +kernel
theorem dX6_init_52 : decode cX6_init 52 = .ok (.aload_n 0, 1) := by decide +kernel
theorem dX6_init_53 : decode cX6_init 53 = .ok (.bipush 16, 2) := by decide +kernel
theorem dX6_init_55 : decode cX6_init 55 = .ok (.newarray .int, 2) := by decide +kernel
theorem dX6_init_57 : decode cX6_init 57 = .ok (.putfield 28, 3) := by decide +kernel
theorem dX6_init_60 : decode cX6_init 60 = .ok (.aload_n 0, 1) := by decide +kernel
theorem dX6_init_61 : decode cX6_init 61 = .ok (.bipush 16, 2) := by decide +kernel
theorem dX6_init_63 : decode cX6_init 63 = .ok (.newarray .long, 2) := by decide +kernel
theorem dX6_init_65 : decode cX6_init 65 = .ok (.putfield 31, 3) := by decide +kernel
theorem dX6_init_68 : decode cX6_init 68 = .ok (.aload_n 0, 1) := by decide +kernel
theorem dX6_init_69 : decode cX6_init 69 = .ok (.bipush 16, 2) := by decide +kernel
theorem dX6_init_71 : decode cX6_init 71 = .ok (.newarray .long, 2) := by decide +kernel
theorem dX6_init_73 : decode cX6_init 73 = .ok (.putfield 35, 3) := by decide +kernel
theorem dX6_init_76 : decode cX6_init 76 = .ok (.aload_n 0, 1) := by decide +kernel
theorem dX6_init_77 : decode cX6_init 77 = .ok (.bipush 16, 2) := by decide +kernel
theorem dX6_init_79 : decode cX6_init 79 = .ok (.newarray .long, 2) := by decide +kernel
theorem dX6_init_81 : decode cX6_init 81 = .ok (.putfield 38, 3) := by decide +kernel
theorem dX6_init_84 : decode cX6_init 84 = .ok (.aload_n 0, 1) := by decide +kernel
theorem dX6_init_85 : decode cX6_init 85 = .ok (.bipush 65, 2) := by decide +kernel
theorem dX6_init_87 : decode cX6_init 87 = .ok (.newarray .boolean, 2) := by decide +kernel
theorem dX6_init_89 : decode cX6_init 89 = .ok (.putfield 41, 3) := by decide +kernel
theorem dX6_init_92 : decode cX6_init 92 = .ok (.aload_n 0, 1) := by decide +kernel
theorem dX6_init_93 : decode cX6_init 93 = .ok (.iconst (-1), 1) := by decide +kernel
