theorem dX4_countWord_37 : decode cX4_countWord 37 = .ok (.goto (-32), 3) := by decide +kernel
theorem dX4_countWord_40 : decode cX4_countWord 40 = .ok (.iload_n 3, 1) := by decide +kernel
theorem dX4_countWord_41 : decode cX4_countWord 41 = .ok (.ireturn, 1) := by decide +kernel
set_option maxRecDepth 20000 in
theorem ggX4_countPhrase_X4_wordAt : GoodIn wsX4_countPhrase wsX4_wordAt := goodIn_r _ [4] (by decide +kernel) (by decide +kernel)
set_option maxRecDepth 20000 in
theorem gX4_countPhrase_X4_wordAt : GoodIn wsX4_countPhrase (va_wsS RX4 62 yX4_wordAt wsX4_wordAt) := goodIn_app (goodIn_of _ (by decide +kernel)) ggX4_countPhrase_X4_wordAt
theorem dX4_countPhrase_0 : decode cX4_countPhrase 0 = .ok (.iconst 0, 1) := by decide +kernel
theorem dX4_countPhrase_1 : decode cX4_countPhrase 1 = .ok (.istore 4, 2) := by decide +kernel
theorem dX4_countPhrase_3 : decode cX4_countPhrase 3 = .ok (.iconst 0, 1) := by decide +kernel
theorem dX4_countPhrase_4 : decode cX4_countPhrase 4 = .ok (.istore 5, 2) := by decide +kernel
theorem dX4_countPhrase_6 : decode cX4_countPhrase 6 = .ok (.iload 5, 2) := by decide +kernel
theorem dX4_countPhrase_8 : decode cX4_countPhrase 8 = .ok (.iconst 1, 1) := by decide +kernel
theorem dX4_countPhrase_9 : decode cX4_countPhrase 9 = .ok (.iadd, 1) := by decide +kernel
theorem dX4_countPhrase_10 : decode cX4_countPhrase 10 = .ok (.bipush 8, 2) := by decide +kernel
theorem dX4_countPhrase_12 : decode cX4_countPhrase 12 = .ok (.if_icmp .ge 43, 3) := by decide +kernel
theorem dX4_countPhrase_15 : decode cX4_countPhrase 15 = .ok (.iload 5, 2) := by decide +kernel
theorem dX4_countPhrase_17 : decode cX4_countPhrase 17 = .ok (.lload_n 2, 1) := by decide +kernel
theorem dX4_countPhrase_18 : decode cX4_countPhrase 18 = .ok (.invokestatic 62, 3) := by decide +kernel
theorem dX4_countPhrase_21 : decode cX4_countPhrase 21 = .ok (.ifCond .eq 34, 3) := by decide +kernel
theorem dX4_countPhrase_24 : decode cX4_countPhrase 24 = .ok (.iload 5, 2) := by decide +kernel
theorem dX4_countPhrase_26 : decode cX4_countPhrase 26 = .ok (.lload_n 2, 1) := by decide +kernel
theorem dX4_countPhrase_27 : decode cX4_countPhrase 27 = .ok (.invokestatic 62, 3) := by decide +kernel
theorem dX4_countPhrase_30 : decode cX4_countPhrase 30 = .ok (.iload_n 0, 1) := by decide +kernel
theorem dX4_countPhrase_31 : decode cX4_countPhrase 31 = .ok (.if_icmp .ne 18, 3) := by decide +kernel
theorem dX4_countPhrase_34 : decode cX4_countPhrase 34 = .ok (.iload 5, 2) := by decide +kernel
theorem dX4_countPhrase_36 : decode cX4_countPhrase 36 = .ok (.iconst 1, 1) := by decide +kernel
theorem dX4_countPhrase_37 : decode cX4_countPhrase 37 = .ok (.iadd, 1) := by decide +kernel
theorem dX4_countPhrase_38 : decode cX4_countPhrase 38 = .ok (.lload_n 2, 1) := by decide +kernel
theorem dX4_countPhrase_39 : decode cX4_countPhrase 39 = .ok (.invokestatic 62, 3) := by decide +kernel
theorem dX4_countPhrase_42 : decode cX4_countPhrase 42 = .ok (.iload_n 1, 1) := by decide +kernel
theorem dX4_countPhrase_43 : decode cX4_countPhrase 43 = .ok (.if_icmp .ne 6, 3) := by decide +kernel
theorem dX4_countPhrase_46 : decode cX4_countPhrase 46 = .ok (.iinc 4 1, 3) := by decide +kernel
theorem dX4_countPhrase_49 : decode cX4_countPhrase 49 = .ok (.iinc 5 1, 3) := by decide +kernel
theorem dX4_countPhrase_52 : decode cX4_countPhrase 52 = .ok (.goto (-46), 3) := by decide +kernel
theorem dX4_countPhrase_55 : decode cX4_countPhrase 55 = .ok (.iload 4, 2) := by decide +kernel
theorem dX4_countPhrase_57 : decode cX4_countPhrase 57 = .ok (.ireturn, 1) := by decide +kernel
set_option maxRecDepth 20000 in
theorem ggX5_init_X1_init : GoodIn wsX5_init wsX1_init := goodIn_r _ [31, 32, 2, 3, 33, 10, 11, 34, 35, 36, 37, 38, 39, 40, 41, 25, 42, 43, 44, 45, 46, 90, 91, 92, 93, 76, 77, 78, 79] (by decide +kernel) (by decide +kernel)
set_option maxRecDepth 20000 in
theorem gX5_init_X1_init_n9 : GoodIn wsX5_init (wsX1_init) := ggX5_init_X1_init
set_option maxRecDepth 20000 in
theorem ggX5_init_X0_init : GoodIn wsX5_init wsX0_init := goodIn_r _ [40, 41, 2, 3, 25, 42, 43, 44, 45, 46, 90, 91, 92, 93] (by decide +kernel) (by decide +kernel)
set_option maxRecDepth 20000 in
theorem gX5_init_X0_init : GoodIn wsX5_init (wsX0_init) := ggX5_init_X0_init
set_option maxRecDepth 20000 in
theorem ggX5_init_X2_init : GoodIn wsX5_init wsX2_init := goodIn_r _ [50, 51, 2, 3, 52, 53, 54, 25, 55, 56, 57, 94, 95, 96, 97, 98, 99] (by decide +kernel) (by decide +kernel)
set_option maxRecDepth 20000 in
theorem gX5_init_X2_init : GoodIn wsX5_init (wsX2_init) := ggX5_init_X2_init
set_option maxRecDepth 20000 in
theorem ggX5_init_X4_init : GoodIn wsX5_init wsX4_init := goodIn_r _ [59, 60, 2, 3, 61, 25, 62, 63, 64, 65, 66, 67, 100, 101, 102, 103, 104, 105] (by decide +kernel) (by decide +kernel)
set_option maxRecDepth 20000 in
theorem gX5_init_X4_init_n35 : GoodIn wsX5_init (wsX4_init) := ggX5_init_X4_init
set_option maxRecDepth 20000 in
theorem ggX5_init_X3_init : GoodIn wsX5_init wsX3_init := goodIn_r _ [69, 70, 2, 3, 71, 72, 73, 74, 75, 106, 107, 108, 109, 110] (by decide +kernel) (by decide +kernel)
set_option maxRecDepth 20000 in
theorem gX5_init_X3_init_n42 : GoodIn wsX5_init (wsX3_init) := ggX5_init_X3_init
theorem dX5_init_0 : decode cX5_init 0 = .ok (.aload_n 0, 1) := by decide +kernel
theorem dX5_init_1 : decode cX5_init 1 = .ok (.invokespecial 1, 3) := by decide +kernel
theorem dX5_init_4 : decode cX5_init 4 = .ok (.aload_n 0, 1) := by decide +kernel
theorem dX5_init_5 : decode cX5_init 5 = .ok (.new 7, 3) := by decide +kernel
theorem dX5_init_8 : decode cX5_init 8 = .ok (.dup, 1) := by decide +kernel
theorem dX5_init_9 : decode cX5_init 9 = .ok (.invokespecial 9, 3) := by decide +kernel
theorem dX5_init_12 : decode cX5_init 12 = .ok (.putfield 10, 3) := by decide +kernel
theorem dX5_init_15 : decode cX5_init 15 = .ok (.aload_n 0, 1) := by decide +kernel
theorem dX5_init_16 : decode cX5_init 16 = .ok (.new 7, 3) := by decide +kernel
theorem dX5_init_19 : decode cX5_init 19 = .ok (.dup, 1) := by decide +kernel
theorem dX5_init_20 : decode cX5_init 20 = .ok (.invokespecial 9, 3) := by decide +kernel
theorem dX5_init_23 : decode cX5_init 23 = .ok (.putfield 16, 3) := by decide +kernel
theorem dX5_init_26 : decode cX5_init 26 = .ok (.aload_n 0, 1) := by decide +kernel
theorem dX5_init_27 : decode cX5_init 27 = .ok (.new 19, 3) := by decide +kernel
theorem dX5_init_30 : decode cX5_init 30 = .ok (.dup, 1) := by decide +kernel
theorem dX5_init_31 : decode cX5_init 31 = .ok (.invokespecial 21, 3) := by decide +kernel
theorem dX5_init_34 : decode cX5_init 34 = .ok (.putfield 22, 3) := by decide +kernel
theorem dX5_init_37 : decode cX5_init 37 = .ok (.aload_n 0, 1) := by decide +kernel
theorem dX5_init_38 : decode cX5_init 38 = .ok (.new 26, 3) := by decide +kernel
theorem dX5_init_41 : decode cX5_init 41 = .ok (.dup, 1) := by decide +kernel
theorem dX5_init_42 : decode cX5_init 42 = .ok (.invokespecial 28, 3) := by decide +kernel
theorem dX5_init_45 : decode cX5_init 45 = .ok (.putfield 29, 3) := by decide +kernel
theorem dX5_init_48 : decode cX5_init 48 = .ok (.aload_n 0, 1) := by decide +kernel
theorem dX5_init_49 : decode cX5_init 49 = .ok (.new 33, 3) := by decide +kernel
theorem dX5_init_52 : decode cX5_init 52 = .ok (.dup, 1) := by decide +kernel
theorem dX5_init_53 : decode cX5_init 53 = .ok (.invokespecial 35, 3) := by decide +kernel
theorem dX5_init_56 : decode cX5_init 56 = .ok (.putfield 36, 3) := by decide +kernel
theorem dX5_init_59 : decode cX5_init 59 = .ok (.aload_n 0, 1) := by decide +kernel
theorem dX5_init_60 : decode cX5_init 60 = .ok (.new 40, 3) := by decide +kernel
theorem dX5_init_63 : decode cX5_init 63 = .ok (.dup, 1) := by decide +kernel
theorem dX5_init_64 : decode cX5_init 64 = .ok (.invokespecial 42, 3) := by decide +kernel
theorem dX5_init_67 : decode cX5_init 67 = .ok (.putfield 43, 3) := by decide +kernel
theorem dX5_init_70 : decode cX5_init 70 = .ok (.aload_n 0, 1) := by decide +kernel
theorem dX5_init_71 : decode cX5_init 71 = .ok (.bipush 16, 2) := by decide +kernel
theorem dX5_init_73 : decode cX5_init 73 = .ok (.newarray .int, 2) := by decide +kernel
theorem dX5_init_75 : decode cX5_init 75 = .ok (.putfield 47, 3) := by decide +kernel
theorem dX5_init_78 : decode cX5_init 78 = .ok (.aload_n 0, 1) := by decide +kernel
theorem dX5_init_79 : decode cX5_init 79 = .ok (.iconst (-1), 1) := by decide +kernel
theorem dX5_init_80 : decode cX5_init 80 = .ok (.putfield 51, 3) := by decide +kernel
theorem dX5_init_83 : decode cX5_init 83 = .ok (.aload_n 0, 1) := by decide +kernel
theorem dX5_init_84 : decode cX5_init 84 = .ok (.iconst 0, 1) := by decide +kernel
theorem dX5_init_85 : decode cX5_init 85 = .ok (.putfield 55, 3) := by decide +kernel
theorem dX5_init_88 : decode cX5_init 88 = .ok (.aload_n 0, 1) := by decide +kernel
theorem dX5_init_89 : decode cX5_init 89 = .ok (.iconst 0, 1) := by decide +kernel
theorem dX5_init_90 : decode cX5_init 90 = .ok (.putfield 58, 3) := by decide +kernel
theorem dX5_init_93 : decode cX5_init 93 = .ok (.return_, 1) := by decide +kernel
set_option maxRecDepth 20000 in
theorem ggX5_write_X5_isId : GoodIn wsX5_write wsX5_isId := goodIn_r _ [12] (by decide +kernel) (by decide +kernel)
set_option maxRecDepth 20000 in
theorem gX5_write_X5_isId : GoodIn wsX5_write (va_wsS RX5 62 yX5_isId wsX5_isId) := goodIn_app (goodIn_of _ (by decide +kernel)) ggX5_write_X5_isId
set_option maxRecDepth 20000 in
theorem ggX5_write_X5_holds : GoodIn wsX5_write wsX5_holds := goodIn_r _ [16, 2, 6, 17, 18, 19, 20, 21, 22, 23, 24, 25, 26, 10, 11, 12, 27, 28, 29, 30, 31, 125, 126, 127, 128, 129, 130, 131, 132, 133, 134, 135, 136, 137, 138, 139, 140, 141, 142] (by decide +kernel) (by decide +kernel)
set_option maxRecDepth 20000 in
theorem gX5_write_X5_holds : GoodIn wsX5_write (wsV RX5 66 RX5 yX5_holds wsX5_holds) := goodIn_app (goodIn_of _ (by decide +kernel)) ggX5_write_X5_holds
set_option maxRecDepth 20000 in
theorem ggX5_write_X2_room : GoodIn wsX5_write wsX2_room := goodIn_r _ [36, 37, 38, 39, 40, 35, 41, 42, 43, 44, 45, 143, 144, 145, 146, 147, 148] (by decide +kernel) (by decide +kernel)
set_option maxRecDepth 20000 in
theorem gX5_write_X2_room : GoodIn wsX5_write (wsV RX5 73 RX2 yX2_room wsX2_room) := goodIn_app (goodIn_of _ (by decide +kernel)) ggX5_write_X2_room
set_option maxRecDepth 20000 in
theorem ggX5_write_X5_sizeOf : GoodIn wsX5_write wsX5_sizeOf := goodIn_r _ [48] (by decide +kernel) (by decide +kernel)
set_option maxRecDepth 20000 in
theorem gX5_write_X5_sizeOf : GoodIn wsX5_write (va_wsS RX5 77 yX5_sizeOf wsX5_sizeOf) := goodIn_app (goodIn_of _ (by decide +kernel)) ggX5_write_X5_sizeOf
set_option maxRecDepth 20000 in
theorem ggX5_write_X0_versionOf : GoodIn wsX5_write wsX0_versionOf := goodIn_r _ [52, 53, 10, 11, 12, 139, 140, 141, 142] (by decide +kernel) (by decide +kernel)
set_option maxRecDepth 20000 in
theorem gX5_write_X0_versionOf : GoodIn wsX5_write (wsV RX5 87 RX0 yX0_versionOf wsX0_versionOf) := goodIn_app (goodIn_of _ (by decide +kernel)) ggX5_write_X0_versionOf
set_option maxRecDepth 20000 in
theorem ggX5_write_X3_become : GoodIn wsX5_write wsX3_become := goodIn_r _ [58, 59, 60, 61, 62, 63, 149, 150, 151, 152, 153] (by decide +kernel) (by decide +kernel)
set_option maxRecDepth 20000 in
theorem gX5_write_X3_become : GoodIn wsX5_write (wsV RX5 91 RX3 yX3_become wsX3_become) := goodIn_app (goodIn_of _ (by decide +kernel)) ggX5_write_X3_become
set_option maxRecDepth 20000 in
theorem ggX5_write_X5_append : GoodIn wsX5_write wsX5_append := goodIn_r _ [67, 4, 8, 2, 68, 69, 70, 35, 71, 37, 72, 73, 74, 75, 76, 38, 39, 40, 41, 42, 43, 44, 45, 47, 11, 48, 77, 78, 79, 80, 81, 82, 83, 84, 85, 86, 87, 88, 89, 90, 91, 92, 93, 94, 95, 96, 97, 98, 99, 100, 101, 102, 103, 104, 105, 106, 107, 108, 109, 110, 111, 112, 113, 114, 115, 116, 117, 20, 118, 119, 120, 121, 31, 26, 53, 122, 123, 124, 10, 12, 125, 126, 127, 128, 129, 130, 131, 132, 133, 134, 143, 144, 145, 146, 147, 148, 149, 150, 151, 152, 153, 135, 136, 137, 138, 139, 140, 141, 142] (by decide +kernel) (by decide +kernel)
set_option maxRecDepth 20000 in
theorem gX5_write_X5_append : GoodIn wsX5_write (wsV RX5 95 RX5 yX5_append wsX5_append) := goodIn_app (goodIn_of _ (by decide +kernel)) ggX5_write_X5_append
theorem dX5_write_0 : decode cX5_write 0 = .ok (.aload_n 0, 1) := by decide +kernel
theorem dX5_write_1 : decode cX5_write 1 = .ok (.getfield 58, 3) := by decide +kernel
theorem dX5_write_4 : decode cX5_write 4 = .ok (.ifCond .eq 6, 3) := by decide +kernel
theorem dX5_write_7 : decode cX5_write 7 = .ok (.bipush (-4), 2) := by decide +kernel
theorem dX5_write_9 : decode cX5_write 9 = .ok (.ireturn, 1) := by decide +kernel
theorem dX5_write_10 : decode cX5_write 10 = .ok (.iload_n 1, 1) := by decide +kernel
theorem dX5_write_11 : decode cX5_write 11 = .ok (.iconst 1, 1) := by decide +kernel
theorem dX5_write_12 : decode cX5_write 12 = .ok (.if_icmp .eq 8, 3) := by decide +kernel
theorem dX5_write_15 : decode cX5_write 15 = .ok (.iload_n 1, 1) := by decide +kernel
theorem dX5_write_16 : decode cX5_write 16 = .ok (.iconst 2, 1) := by decide +kernel
theorem dX5_write_17 : decode cX5_write 17 = .ok (.if_icmp .ne 17, 3) := by decide +kernel
theorem dX5_write_20 : decode cX5_write 20 = .ok (.iload_n 2, 1) := by decide +kernel
theorem dX5_write_21 : decode cX5_write 21 = .ok (.invokestatic 62, 3) := by decide +kernel
theorem dX5_write_24 : decode cX5_write 24 = .ok (.ifCond .eq 10, 3) := by decide +kernel
theorem dX5_write_27 : decode cX5_write 27 = .ok (.iload 5, 2) := by decide +kernel
theorem dX5_write_29 : decode cX5_write 29 = .ok (.bipush (-2), 2) := by decide +kernel
theorem dX5_write_31 : decode cX5_write 31 = .ok (.if_icmp .ge 5, 3) := by decide +kernel
theorem dX5_write_34 : decode cX5_write 34 = .ok (.iconst (-1), 1) := by decide +kernel
theorem dX5_write_35 : decode cX5_write 35 = .ok (.ireturn, 1) := by decide +kernel
theorem dX5_write_36 : decode cX5_write 36 = .ok (.aload_n 0, 1) := by decide +kernel
theorem dX5_write_37 : decode cX5_write 37 = .ok (.iload_n 2, 1) := by decide +kernel
theorem dX5_write_38 : decode cX5_write 38 = .ok (.iload 5, 2) := by decide +kernel
theorem dX5_write_40 : decode cX5_write 40 = .ok (.invokevirtual 66, 3) := by decide +kernel
theorem dX5_write_43 : decode cX5_write 43 = .ok (.ifCond .ne 6, 3) := by decide +kernel
theorem dX5_write_46 : decode cX5_write 46 = .ok (.bipush (-2), 2) := by decide +kernel
theorem dX5_write_48 : decode cX5_write 48 = .ok (.ireturn, 1) := by decide +kernel
theorem dX5_write_49 : decode cX5_write 49 = .ok (.aload_n 0, 1) := by decide +kernel
theorem dX5_write_50 : decode cX5_write 50 = .ok (.getfield 10, 3) := by decide +kernel
theorem dX5_write_53 : decode cX5_write 53 = .ok (.getfield 70, 3) := by decide +kernel
theorem dX5_write_56 : decode cX5_write 56 = .ok (.iconst 1, 1) := by decide +kernel
theorem dX5_write_57 : decode cX5_write 57 = .ok (.iadd, 1) := by decide +kernel
theorem dX5_write_58 : decode cX5_write 58 = .ok (.istore 6, 2) := by decide +kernel
theorem dX5_write_60 : decode cX5_write 60 = .ok (.aload_n 0, 1) := by decide +kernel
theorem dX5_write_61 : decode cX5_write 61 = .ok (.getfield 29, 3) := by decide +kernel
theorem dX5_write_64 : decode cX5_write 64 = .ok (.invokevirtual 73, 3) := by decide +kernel
theorem dX5_write_67 : decode cX5_write 67 = .ok (.iload_n 1, 1) := by decide +kernel
theorem dX5_write_68 : decode cX5_write 68 = .ok (.invokestatic 77, 3) := by decide +kernel
theorem dX5_write_71 : decode cX5_write 71 = .ok (.if_icmp .lt 18, 3) := by decide +kernel
theorem dX5_write_74 : decode cX5_write 74 = .ok (.iload 6, 2) := by decide +kernel
theorem dX5_write_76 : decode cX5_write 76 = .ok (.aload_n 0, 1) := by decide +kernel
theorem dX5_write_77 : decode cX5_write 77 = .ok (.getfield 10, 3) := by decide +kernel
theorem dX5_write_80 : decode cX5_write 80 = .ok (.getfield 81, 3) := by decide +kernel
theorem dX5_write_83 : decode cX5_write 83 = .ok (.bipush 64, 2) := by decide +kernel
theorem dX5_write_85 : decode cX5_write 85 = .ok (.iadd, 1) := by decide +kernel
theorem dX5_write_86 : decode cX5_write 86 = .ok (.if_icmp .le 6, 3) := by decide +kernel
theorem dX5_write_89 : decode cX5_write 89 = .ok (.bipush (-3), 2) := by decide +kernel
theorem dX5_write_91 : decode cX5_write 91 = .ok (.ireturn, 1) := by decide +kernel
theorem dX5_write_92 : decode cX5_write 92 = .ok (.aload_n 0, 1) := by decide +kernel
theorem dX5_write_93 : decode cX5_write 93 = .ok (.getfield 10, 3) := by decide +kernel
theorem dX5_write_96 : decode cX5_write 96 = .ok (.getfield 84, 3) := by decide +kernel
theorem dX5_write_99 : decode cX5_write 99 = .ok (.iload_n 2, 1) := by decide +kernel
theorem dX5_write_100 : decode cX5_write 100 = .ok (.invokevirtual 87, 3) := by decide +kernel
theorem dX5_write_103 : decode cX5_write 103 = .ok (.iconst 1, 1) := by decide +kernel
theorem dX5_write_104 : decode cX5_write 104 = .ok (.iadd, 1) := by decide +kernel
theorem dX5_write_105 : decode cX5_write 105 = .ok (.ldc 90, 2) := by decide +kernel
theorem dX5_write_107 : decode cX5_write 107 = .ok (.iand, 1) := by decide +kernel
theorem dX5_write_108 : decode cX5_write 108 = .ok (.istore 7, 2) := by decide +kernel
theorem dX5_write_110 : decode cX5_write 110 = .ok (.aload_n 0, 1) := by decide +kernel
theorem dX5_write_111 : decode cX5_write 111 = .ok (.getfield 43, 3) := by decide +kernel
theorem dX5_write_114 : decode cX5_write 114 = .ok (.iload_n 1, 1) := by decide +kernel
theorem dX5_write_115 : decode cX5_write 115 = .ok (.iload 6, 2) := by decide +kernel
theorem dX5_write_117 : decode cX5_write 117 = .ok (.iload_n 2, 1) := by decide +kernel
theorem dX5_write_118 : decode cX5_write 118 = .ok (.iload 7, 2) := by decide +kernel
theorem dX5_write_120 : decode cX5_write 120 = .ok (.lload_n 3, 1) := by decide +kernel
theorem dX5_write_121 : decode cX5_write 121 = .ok (.invokevirtual 91, 3) := by decide +kernel
theorem dX5_write_124 : decode cX5_write 124 = .ok (.aload_n 0, 1) := by decide +kernel
theorem dX5_write_125 : decode cX5_write 125 = .ok (.invokevirtual 95, 3) := by decide +kernel
theorem dX5_write_128 : decode cX5_write 128 = .ok (.pop, 1) := by decide +kernel
theorem dX5_write_129 : decode cX5_write 129 = .ok (.iload 6, 2) := by decide +kernel
theorem dX5_write_131 : decode cX5_write 131 = .ok (.ireturn, 1) := by decide +kernel
set_option maxRecDepth 20000 in
theorem ggX5_get_X5_isId : GoodIn wsX5_get wsX5_isId := goodIn_r _ [9] (by decide +kernel) (by decide +kernel)
set_option maxRecDepth 20000 in
theorem gX5_get_X5_isId : GoodIn wsX5_get (va_wsS RX5 62 yX5_isId wsX5_isId) := goodIn_app (goodIn_of _ (by decide +kernel)) ggX5_get_X5_isId
set_option maxRecDepth 20000 in
theorem ggX5_get_X0_sourceOf : GoodIn wsX5_get wsX0_sourceOf := goodIn_r _ [14, 15, 7, 8, 9, 30, 31, 32, 33] (by decide +kernel) (by decide +kernel)
set_option maxRecDepth 20000 in
theorem gX5_get_X0_sourceOf : GoodIn wsX5_get (wsV RX5 110 RX0 yX0_sourceOf wsX0_sourceOf) := goodIn_app (goodIn_of _ (by decide +kernel)) ggX5_get_X0_sourceOf
theorem dX5_get_0 : decode cX5_get 0 = .ok (.aload_n 0, 1) := by decide +kernel
theorem dX5_get_1 : decode cX5_get 1 = .ok (.getfield 58, 3) := by decide +kernel
theorem dX5_get_4 : decode cX5_get 4 = .ok (.ifCond .eq 7, 3) := by decide +kernel
theorem dX5_get_7 : decode cX5_get 7 = .ok (.ldc2_w 106, 3) := by decide +kernel
theorem dX5_get_10 : decode cX5_get 10 = .ok (.lreturn, 1) := by decide +kernel
theorem dX5_get_11 : decode cX5_get 11 = .ok (.iload_n 1, 1) := by decide +kernel
theorem dX5_get_12 : decode cX5_get 12 = .ok (.invokestatic 62, 3) := by decide +kernel
theorem dX5_get_15 : decode cX5_get 15 = .ok (.ifCond .ne 7, 3) := by decide +kernel
theorem dX5_get_18 : decode cX5_get 18 = .ok (.ldc2_w 108, 3) := by decide +kernel
theorem dX5_get_21 : decode cX5_get 21 = .ok (.lreturn, 1) := by decide +kernel
theorem dX5_get_22 : decode cX5_get 22 = .ok (.aload_n 0, 1) := by decide +kernel
theorem dX5_get_23 : decode cX5_get 23 = .ok (.getfield 10, 3) := by decide +kernel
theorem dX5_get_26 : decode cX5_get 26 = .ok (.getfield 84, 3) := by decide +kernel
theorem dX5_get_29 : decode cX5_get 29 = .ok (.iload_n 1, 1) := by decide +kernel
theorem dX5_get_30 : decode cX5_get 30 = .ok (.invokevirtual 110, 3) := by decide +kernel
theorem dX5_get_33 : decode cX5_get 33 = .ok (.lreturn, 1) := by decide +kernel
set_option maxRecDepth 20000 in
theorem ggX5_known_X5_isId : GoodIn wsX5_known wsX5_isId := goodIn_r _ [8] (by decide +kernel) (by decide +kernel)
set_option maxRecDepth 20000 in
theorem gX5_known_X5_isId : GoodIn wsX5_known (va_wsS RX5 62 yX5_isId wsX5_isId) := goodIn_app (goodIn_of _ (by decide +kernel)) ggX5_known_X5_isId
set_option maxRecDepth 20000 in
theorem ggX5_known_X0_kindOf : GoodIn wsX5_known wsX0_kindOf := goodIn_r _ [13, 14, 6, 7, 8, 44, 45, 46, 47] (by decide +kernel) (by decide +kernel)
set_option maxRecDepth 20000 in
theorem gX5_known_X0_kindOf : GoodIn wsX5_known (wsV RX5 114 RX0 yX0_kindOf wsX0_kindOf) := goodIn_app (goodIn_of _ (by decide +kernel)) ggX5_known_X0_kindOf
set_option maxRecDepth 20000 in
theorem ggX5_known_X0_seqOf : GoodIn wsX5_known wsX0_seqOf := goodIn_r _ [18, 19, 6, 7, 8, 44, 45, 46, 47] (by decide +kernel) (by decide +kernel)
set_option maxRecDepth 20000 in
theorem gX5_known_X0_seqOf : GoodIn wsX5_known (wsV RX5 117 RX0 yX0_seqOf wsX0_seqOf) := goodIn_app (goodIn_of _ (by decide +kernel)) ggX5_known_X0_seqOf
set_option maxRecDepth 20000 in
theorem ggX5_known_X0_versionOf : GoodIn wsX5_known wsX0_versionOf := goodIn_r _ [23, 24, 6, 7, 8, 44, 45, 46, 47] (by decide +kernel) (by decide +kernel)
set_option maxRecDepth 20000 in
theorem gX5_known_X0_versionOf : GoodIn wsX5_known (wsV RX5 87 RX0 yX0_versionOf wsX0_versionOf) := goodIn_app (goodIn_of _ (by decide +kernel)) ggX5_known_X0_versionOf
set_option maxRecDepth 20000 in
theorem ggX5_known_X0_isDocument : GoodIn wsX5_known wsX0_isDocument := goodIn_r _ [28, 29, 10, 11, 12, 13, 14, 6, 7, 8, 44, 45, 46, 47] (by decide +kernel) (by decide +kernel)
set_option maxRecDepth 20000 in
theorem gX5_known_X0_isDocument : GoodIn wsX5_known (wsV RX5 120 RX0 yX0_isDocument wsX0_isDocument) := goodIn_app (goodIn_of _ (by decide +kernel)) ggX5_known_X0_isDocument
theorem dX5_known_0 : decode cX5_known 0 = .ok (.aload_n 0, 1) := by decide +kernel
theorem dX5_known_1 : decode cX5_known 1 = .ok (.getfield 58, 3) := by decide +kernel
theorem dX5_known_4 : decode cX5_known 4 = .ok (.ifCond .eq 6, 3) := by decide +kernel
theorem dX5_known_7 : decode cX5_known 7 = .ok (.bipush (-4), 2) := by decide +kernel
theorem dX5_known_9 : decode cX5_known 9 = .ok (.ireturn, 1) := by decide +kernel
theorem dX5_known_10 : decode cX5_known 10 = .ok (.iload_n 1, 1) := by decide +kernel
theorem dX5_known_11 : decode cX5_known 11 = .ok (.invokestatic 62, 3) := by decide +kernel
theorem dX5_known_14 : decode cX5_known 14 = .ok (.ifCond .ne 5, 3) := by decide +kernel
theorem dX5_known_17 : decode cX5_known 17 = .ok (.iconst (-1), 1) := by decide +kernel
theorem dX5_known_18 : decode cX5_known 18 = .ok (.ireturn, 1) := by decide +kernel
theorem dX5_known_19 : decode cX5_known 19 = .ok (.iload_n 2, 1) := by decide +kernel
theorem dX5_known_20 : decode cX5_known 20 = .ok (.tableswitch 113 0 4 #[36, 48, 60, 72, 89], 36) := by decide +kernel
theorem dX5_known_56 : decode cX5_known 56 = .ok (.aload_n 0, 1) := by decide +kernel
theorem dX5_known_57 : decode cX5_known 57 = .ok (.getfield 10, 3) := by decide +kernel
theorem dX5_known_60 : decode cX5_known 60 = .ok (.getfield 84, 3) := by decide +kernel
theorem dX5_known_63 : decode cX5_known 63 = .ok (.iload_n 1, 1) := by decide +kernel
theorem dX5_known_64 : decode cX5_known 64 = .ok (.invokevirtual 114, 3) := by decide +kernel
theorem dX5_known_67 : decode cX5_known 67 = .ok (.ireturn, 1) := by decide +kernel
theorem dX5_known_68 : decode cX5_known 68 = .ok (.aload_n 0, 1) := by decide +kernel
theorem dX5_known_69 : decode cX5_known 69 = .ok (.getfield 10, 3) := by decide +kernel
theorem dX5_known_72 : decode cX5_known 72 = .ok (.getfield 84, 3) := by decide +kernel
theorem dX5_known_75 : decode cX5_known 75 = .ok (.iload_n 1, 1) := by decide +kernel
theorem dX5_known_76 : decode cX5_known 76 = .ok (.invokevirtual 117, 3) := by decide +kernel
theorem dX5_known_79 : decode cX5_known 79 = .ok (.ireturn, 1) := by decide +kernel
theorem dX5_known_80 : decode cX5_known 80 = .ok (.aload_n 0, 1) := by decide +kernel
theorem dX5_known_81 : decode cX5_known 81 = .ok (.getfield 10, 3) := by decide +kernel
theorem dX5_known_84 : decode cX5_known 84 = .ok (.getfield 84, 3) := by decide +kernel
theorem dX5_known_87 : decode cX5_known 87 = .ok (.iload_n 1, 1) := by decide +kernel
theorem dX5_known_88 : decode cX5_known 88 = .ok (.invokevirtual 87, 3) := by decide +kernel
theorem dX5_known_91 : decode cX5_known 91 = .ok (.ireturn, 1) := by decide +kernel
theorem dX5_known_92 : decode cX5_known 92 = .ok (.aload_n 0, 1) := by decide +kernel
theorem dX5_known_93 : decode cX5_known 93 = .ok (.getfield 22, 3) := by decide +kernel
theorem dX5_known_96 : decode cX5_known 96 = .ok (.iload_n 1, 1) := by decide +kernel
theorem dX5_known_97 : decode cX5_known 97 = .ok (.invokevirtual 120, 3) := by decide +kernel
theorem dX5_known_100 : decode cX5_known 100 = .ok (.ifCond .eq 7, 3) := by decide +kernel
theorem dX5_known_103 : decode cX5_known 103 = .ok (.iconst 1, 1) := by decide +kernel
theorem dX5_known_104 : decode cX5_known 104 = .ok (.goto 4, 3) := by decide +kernel
theorem dX5_known_107 : decode cX5_known 107 = .ok (.iconst 0, 1) := by decide +kernel
theorem dX5_known_108 : decode cX5_known 108 = .ok (.ireturn, 1) := by decide +kernel
theorem dX5_known_109 : decode cX5_known 109 = .ok (.aload_n 0, 1) := by decide +kernel
theorem dX5_known_110 : decode cX5_known 110 = .ok (.getfield 22, 3) := by decide +kernel
theorem dX5_known_113 : decode cX5_known 113 = .ok (.iload_n 1, 1) := by decide +kernel
theorem dX5_known_114 : decode cX5_known 114 = .ok (.invokevirtual 120, 3) := by decide +kernel
theorem dX5_known_117 : decode cX5_known 117 = .ok (.ifCond .eq 14, 3) := by decide +kernel
theorem dX5_known_120 : decode cX5_known 120 = .ok (.aload_n 0, 1) := by decide +kernel
theorem dX5_known_121 : decode cX5_known 121 = .ok (.getfield 22, 3) := by decide +kernel
theorem dX5_known_124 : decode cX5_known 124 = .ok (.iload_n 1, 1) := by decide +kernel
theorem dX5_known_125 : decode cX5_known 125 = .ok (.invokevirtual 117, 3) := by decide +kernel
theorem dX5_known_128 : decode cX5_known 128 = .ok (.goto 4, 3) := by decide +kernel
theorem dX5_known_131 : decode cX5_known 131 = .ok (.iconst (-1), 1) := by decide +kernel
theorem dX5_known_132 : decode cX5_known 132 = .ok (.ireturn, 1) := by decide +kernel
theorem dX5_known_133 : decode cX5_known 133 = .ok (.iconst (-1), 1) := by decide +kernel
theorem dX5_known_134 : decode cX5_known 134 = .ok (.ireturn, 1) := by decide +kernel
set_option maxRecDepth 20000 in
theorem ggX5_refresh_X0_forgetTombstones : GoodIn wsX5_refresh wsX0_forgetTombstones := goodIn_r _ [10, 11, 12, 13, 48, 49, 50, 51] (by decide +kernel) (by decide +kernel)
set_option maxRecDepth 20000 in
theorem gX5_refresh_X0_forgetTombstones : GoodIn wsX5_refresh (wsV RX5 123 RX0 yX0_forgetTombstones wsX0_forgetTombstones) := goodIn_app (goodIn_of _ (by decide +kernel)) ggX5_refresh_X0_forgetTombstones
set_option maxRecDepth 20000 in
theorem ggX5_refresh_X0_copyFrom : GoodIn wsX5_refresh wsX0_copyFrom := goodIn_r _ [17, 11, 12, 13, 18, 48, 49, 50, 51] (by decide +kernel) (by decide +kernel)
set_option maxRecDepth 20000 in
theorem gX5_refresh_X0_copyFrom : GoodIn wsX5_refresh (wsV RX5 127 RX0 yX0_copyFrom wsX0_copyFrom) := goodIn_app (goodIn_of _ (by decide +kernel)) ggX5_refresh_X0_copyFrom
set_option maxRecDepth 20000 in
theorem ggX5_refresh_X0_count : GoodIn wsX5_refresh wsX0_count := goodIn_r _ [22, 23, 24, 25, 9, 26, 27, 28, 29, 30, 11, 31, 32, 33, 48, 49, 50, 51] (by decide +kernel) (by decide +kernel)
set_option maxRecDepth 20000 in
theorem gX5_refresh_X0_count : GoodIn wsX5_refresh (wsV RX5 131 RX0 yX0_count wsX0_count) := goodIn_app (goodIn_of _ (by decide +kernel)) ggX5_refresh_X0_count
theorem dX5_refresh_0 : decode cX5_refresh 0 = .ok (.aload_n 0, 1) := by decide +kernel
theorem dX5_refresh_1 : decode cX5_refresh 1 = .ok (.getfield 58, 3) := by decide +kernel
theorem dX5_refresh_4 : decode cX5_refresh 4 = .ok (.ifCond .eq 6, 3) := by decide +kernel
theorem dX5_refresh_7 : decode cX5_refresh 7 = .ok (.bipush (-4), 2) := by decide +kernel
theorem dX5_refresh_9 : decode cX5_refresh 9 = .ok (.ireturn, 1) := by decide +kernel
theorem dX5_refresh_10 : decode cX5_refresh 10 = .ok (.aload_n 0, 1) := by decide +kernel
theorem dX5_refresh_11 : decode cX5_refresh 11 = .ok (.getfield 10, 3) := by decide +kernel
theorem dX5_refresh_14 : decode cX5_refresh 14 = .ok (.getfield 84, 3) := by decide +kernel
theorem dX5_refresh_17 : decode cX5_refresh 17 = .ok (.aload_n 0, 1) := by decide +kernel
theorem dX5_refresh_18 : decode cX5_refresh 18 = .ok (.getfield 10, 3) := by decide +kernel
theorem dX5_refresh_21 : decode cX5_refresh 21 = .ok (.getfield 81, 3) := by decide +kernel
theorem dX5_refresh_24 : decode cX5_refresh 24 = .ok (.invokevirtual 123, 3) := by decide +kernel
theorem dX5_refresh_27 : decode cX5_refresh 27 = .ok (.aload_n 0, 1) := by decide +kernel
theorem dX5_refresh_28 : decode cX5_refresh 28 = .ok (.getfield 22, 3) := by decide +kernel
theorem dX5_refresh_31 : decode cX5_refresh 31 = .ok (.aload_n 0, 1) := by decide +kernel
theorem dX5_refresh_32 : decode cX5_refresh 32 = .ok (.getfield 10, 3) := by decide +kernel
theorem dX5_refresh_35 : decode cX5_refresh 35 = .ok (.getfield 84, 3) := by decide +kernel
theorem dX5_refresh_38 : decode cX5_refresh 38 = .ok (.invokevirtual 127, 3) := by decide +kernel
theorem dX5_refresh_41 : decode cX5_refresh 41 = .ok (.aload_n 0, 1) := by decide +kernel
theorem dX5_refresh_42 : decode cX5_refresh 42 = .ok (.getfield 22, 3) := by decide +kernel
theorem dX5_refresh_45 : decode cX5_refresh 45 = .ok (.invokevirtual 131, 3) := by decide +kernel
theorem dX5_refresh_48 : decode cX5_refresh 48 = .ok (.ireturn, 1) := by decide +kernel
set_option maxRecDepth 20000 in
theorem ggX5_sync_X2_count : GoodIn wsX5_sync wsX2_count := goodIn_r _ [11, 12, 13, 54, 55, 56, 57, 58, 59] (by decide +kernel) (by decide +kernel)
set_option maxRecDepth 20000 in
theorem gX5_sync_X2_count : GoodIn wsX5_sync (wsV RX5 134 RX2 yX2_count wsX2_count) := goodIn_app (goodIn_of _ (by decide +kernel)) ggX5_sync_X2_count
set_option maxRecDepth 20000 in
theorem ggX5_sync_X2_syncCurrent : GoodIn wsX5_sync wsX2_syncCurrent := goodIn_r _ [17, 12, 18, 19, 20, 21, 10, 22, 23, 24, 25, 26, 27, 28, 29, 30, 54, 55, 56, 57, 58, 59] (by decide +kernel) (by decide +kernel)
set_option maxRecDepth 20000 in
theorem gX5_sync_X2_syncCurrent : GoodIn wsX5_sync (wsV RX5 135 RX2 yX2_syncCurrent wsX2_syncCurrent) := goodIn_app (goodIn_of _ (by decide +kernel)) ggX5_sync_X2_syncCurrent
set_option maxRecDepth 20000 in
theorem ggX5_sync_X2_begin : GoodIn wsX5_sync wsX2_begin := goodIn_r _ [34, 12, 18, 27, 28, 29, 10, 30, 35, 36, 37, 38, 39, 54, 55, 56, 57, 58, 59] (by decide +kernel) (by decide +kernel)
set_option maxRecDepth 20000 in
theorem gX5_sync_X2_begin : GoodIn wsX5_sync (wsV RX5 138 RX2 yX2_begin wsX2_begin) := goodIn_app (goodIn_of _ (by decide +kernel)) ggX5_sync_X2_begin
theorem dX5_sync_0 : decode cX5_sync 0 = .ok (.aload_n 0, 1) := by decide +kernel
theorem dX5_sync_1 : decode cX5_sync 1 = .ok (.getfield 58, 3) := by decide +kernel
theorem dX5_sync_4 : decode cX5_sync 4 = .ok (.ifCond .eq 6, 3) := by decide +kernel
theorem dX5_sync_7 : decode cX5_sync 7 = .ok (.bipush (-4), 2) := by decide +kernel
theorem dX5_sync_9 : decode cX5_sync 9 = .ok (.ireturn, 1) := by decide +kernel
theorem dX5_sync_10 : decode cX5_sync 10 = .ok (.iload_n 1, 1) := by decide +kernel
theorem dX5_sync_11 : decode cX5_sync 11 = .ok (.ifCond .eq 17, 3) := by decide +kernel
theorem dX5_sync_14 : decode cX5_sync 14 = .ok (.aload_n 0, 1) := by decide +kernel
theorem dX5_sync_15 : decode cX5_sync 15 = .ok (.getfield 29, 3) := by decide +kernel
theorem dX5_sync_18 : decode cX5_sync 18 = .ok (.invokevirtual 134, 3) := by decide +kernel
theorem dX5_sync_21 : decode cX5_sync 21 = .ok (.iconst 4, 1) := by decide +kernel
theorem dX5_sync_22 : decode cX5_sync 22 = .ok (.if_icmp .lt 6, 3) := by decide +kernel
theorem dX5_sync_25 : decode cX5_sync 25 = .ok (.bipush (-3), 2) := by decide +kernel
theorem dX5_sync_27 : decode cX5_sync 27 = .ok (.ireturn, 1) := by decide +kernel
theorem dX5_sync_28 : decode cX5_sync 28 = .ok (.aload_n 0, 1) := by decide +kernel
theorem dX5_sync_29 : decode cX5_sync 29 = .ok (.getfield 29, 3) := by decide +kernel
theorem dX5_sync_32 : decode cX5_sync 32 = .ok (.invokevirtual 135, 3) := by decide +kernel
theorem dX5_sync_35 : decode cX5_sync 35 = .ok (.istore_n 2, 1) := by decide +kernel
theorem dX5_sync_36 : decode cX5_sync 36 = .ok (.aload_n 0, 1) := by decide +kernel
theorem dX5_sync_37 : decode cX5_sync 37 = .ok (.aload_n 0, 1) := by decide +kernel
theorem dX5_sync_38 : decode cX5_sync 38 = .ok (.getfield 10, 3) := by decide +kernel
theorem dX5_sync_41 : decode cX5_sync 41 = .ok (.getfield 81, 3) := by decide +kernel
theorem dX5_sync_44 : decode cX5_sync 44 = .ok (.putfield 51, 3) := by decide +kernel
theorem dX5_sync_47 : decode cX5_sync 47 = .ok (.iload_n 1, 1) := by decide +kernel
theorem dX5_sync_48 : decode cX5_sync 48 = .ok (.ifCond .ne 5, 3) := by decide +kernel
theorem dX5_sync_51 : decode cX5_sync 51 = .ok (.iload_n 2, 1) := by decide +kernel
theorem dX5_sync_52 : decode cX5_sync 52 = .ok (.ireturn, 1) := by decide +kernel
theorem dX5_sync_53 : decode cX5_sync 53 = .ok (.aload_n 0, 1) := by decide +kernel
theorem dX5_sync_54 : decode cX5_sync 54 = .ok (.getfield 29, 3) := by decide +kernel
theorem dX5_sync_57 : decode cX5_sync 57 = .ok (.invokevirtual 138, 3) := by decide +kernel
theorem dX5_sync_60 : decode cX5_sync 60 = .ok (.aload_n 0, 1) := by decide +kernel
theorem dX5_sync_61 : decode cX5_sync 61 = .ok (.getfield 29, 3) := by decide +kernel
theorem dX5_sync_64 : decode cX5_sync 64 = .ok (.getfield 141, 3) := by decide +kernel
theorem dX5_sync_67 : decode cX5_sync 67 = .ok (.ireturn, 1) := by decide +kernel
set_option maxRecDepth 20000 in
theorem ggX5_flush_X2_countUpTo : GoodIn wsX5_flush wsX2_countUpTo := goodIn_r _ [12, 13, 14, 15, 16, 17, 11, 18, 77, 78, 79, 80, 81, 82] (by decide +kernel) (by decide +kernel)
set_option maxRecDepth 20000 in
theorem gX5_flush_X2_countUpTo : GoodIn wsX5_flush (wsV RX5 144 RX2 yX2_countUpTo wsX2_countUpTo) := goodIn_app (goodIn_of _ (by decide +kernel)) ggX5_flush_X2_countUpTo
set_option maxRecDepth 20000 in
theorem ggX5_flush_X2_count : GoodIn wsX5_flush wsX2_count := goodIn_r _ [22, 14, 13, 77, 78, 79, 80, 81, 82] (by decide +kernel) (by decide +kernel)
set_option maxRecDepth 20000 in
theorem gX5_flush_X2_count : GoodIn wsX5_flush (wsV RX5 134 RX2 yX2_count wsX2_count) := goodIn_app (goodIn_of _ (by decide +kernel)) ggX5_flush_X2_count
set_option maxRecDepth 20000 in
theorem ggX5_flush_X2_syncCurrent : GoodIn wsX5_flush wsX2_syncCurrent := goodIn_r _ [26, 14, 27, 28, 29, 30, 11, 31, 32, 33, 34, 35, 36, 16, 17, 18, 77, 78, 79, 80, 81, 82] (by decide +kernel) (by decide +kernel)
set_option maxRecDepth 20000 in
theorem gX5_flush_X2_syncCurrent : GoodIn wsX5_flush (wsV RX5 135 RX2 yX2_syncCurrent wsX2_syncCurrent) := goodIn_app (goodIn_of _ (by decide +kernel)) ggX5_flush_X2_syncCurrent
set_option maxRecDepth 20000 in
theorem ggX5_flush_X1_startFrom : GoodIn wsX5_flush wsX1_startFrom := goodIn_r _ [41, 42, 43, 44, 45, 46, 47, 48, 49, 50, 51, 52, 53, 54, 73, 74, 75, 76, 83, 84, 85, 86] (by decide +kernel) (by decide +kernel)
set_option maxRecDepth 20000 in
theorem gX5_flush_X1_startFrom : GoodIn wsX5_flush (wsV RX5 147 RX1 yX1_startFrom wsX1_startFrom) := goodIn_app (goodIn_of _ (by decide +kernel)) ggX5_flush_X1_startFrom
set_option maxRecDepth 20000 in
theorem ggX5_flush_X2_begin : GoodIn wsX5_flush wsX2_begin := goodIn_r _ [58, 14, 27, 36, 16, 17, 11, 18, 59, 60, 61, 62, 15, 77, 78, 79, 80, 81, 82] (by decide +kernel) (by decide +kernel)
set_option maxRecDepth 20000 in
theorem gX5_flush_X2_begin : GoodIn wsX5_flush (wsV RX5 138 RX2 yX2_begin wsX2_begin) := goodIn_app (goodIn_of _ (by decide +kernel)) ggX5_flush_X2_begin
theorem dX5_flush_0 : decode cX5_flush 0 = .ok (.aload_n 0, 1) := by decide +kernel
theorem dX5_flush_1 : decode cX5_flush 1 = .ok (.getfield 58, 3) := by decide +kernel
theorem dX5_flush_4 : decode cX5_flush 4 = .ok (.ifCond .eq 6, 3) := by decide +kernel
theorem dX5_flush_7 : decode cX5_flush 7 = .ok (.bipush (-4), 2) := by decide +kernel
theorem dX5_flush_9 : decode cX5_flush 9 = .ok (.ireturn, 1) := by decide +kernel
theorem dX5_flush_10 : decode cX5_flush 10 = .ok (.aload_n 0, 1) := by decide +kernel
theorem dX5_flush_11 : decode cX5_flush 11 = .ok (.getfield 29, 3) := by decide +kernel
theorem dX5_flush_14 : decode cX5_flush 14 = .ok (.aload_n 0, 1) := by decide +kernel
theorem dX5_flush_15 : decode cX5_flush 15 = .ok (.getfield 10, 3) := by decide +kernel
theorem dX5_flush_18 : decode cX5_flush 18 = .ok (.getfield 81, 3) := by decide +kernel
theorem dX5_flush_21 : decode cX5_flush 21 = .ok (.invokevirtual 144, 3) := by decide +kernel
theorem dX5_flush_24 : decode cX5_flush 24 = .ok (.istore_n 1, 1) := by decide +kernel
theorem dX5_flush_25 : decode cX5_flush 25 = .ok (.aload_n 0, 1) := by decide +kernel
theorem dX5_flush_26 : decode cX5_flush 26 = .ok (.getfield 29, 3) := by decide +kernel
theorem dX5_flush_29 : decode cX5_flush 29 = .ok (.invokevirtual 134, 3) := by decide +kernel
theorem dX5_flush_32 : decode cX5_flush 32 = .ok (.iload_n 1, 1) := by decide +kernel
theorem dX5_flush_33 : decode cX5_flush 33 = .ok (.isub, 1) := by decide +kernel
theorem dX5_flush_34 : decode cX5_flush 34 = .ok (.iconst 4, 1) := by decide +kernel
theorem dX5_flush_35 : decode cX5_flush 35 = .ok (.if_icmp .lt 6, 3) := by decide +kernel
theorem dX5_flush_38 : decode cX5_flush 38 = .ok (.bipush (-3), 2) := by decide +kernel
theorem dX5_flush_40 : decode cX5_flush 40 = .ok (.ireturn, 1) := by decide +kernel
theorem dX5_flush_41 : decode cX5_flush 41 = .ok (.aload_n 0, 1) := by decide +kernel
theorem dX5_flush_42 : decode cX5_flush 42 = .ok (.getfield 29, 3) := by decide +kernel
theorem dX5_flush_45 : decode cX5_flush 45 = .ok (.invokevirtual 135, 3) := by decide +kernel
theorem dX5_flush_48 : decode cX5_flush 48 = .ok (.pop, 1) := by decide +kernel
theorem dX5_flush_49 : decode cX5_flush 49 = .ok (.aload_n 0, 1) := by decide +kernel
theorem dX5_flush_50 : decode cX5_flush 50 = .ok (.aload_n 0, 1) := by decide +kernel
theorem dX5_flush_51 : decode cX5_flush 51 = .ok (.getfield 10, 3) := by decide +kernel
theorem dX5_flush_54 : decode cX5_flush 54 = .ok (.getfield 81, 3) := by decide +kernel
theorem dX5_flush_57 : decode cX5_flush 57 = .ok (.putfield 51, 3) := by decide +kernel
theorem dX5_flush_60 : decode cX5_flush 60 = .ok (.aload_n 0, 1) := by decide +kernel
theorem dX5_flush_61 : decode cX5_flush 61 = .ok (.getfield 16, 3) := by decide +kernel
theorem dX5_flush_64 : decode cX5_flush 64 = .ok (.aload_n 0, 1) := by decide +kernel
theorem dX5_flush_65 : decode cX5_flush 65 = .ok (.getfield 10, 3) := by decide +kernel
theorem dX5_flush_68 : decode cX5_flush 68 = .ok (.invokevirtual 147, 3) := by decide +kernel
theorem dX5_flush_71 : decode cX5_flush 71 = .ok (.aload_n 0, 1) := by decide +kernel
theorem dX5_flush_72 : decode cX5_flush 72 = .ok (.getfield 29, 3) := by decide +kernel
theorem dX5_flush_75 : decode cX5_flush 75 = .ok (.dup, 1) := by decide +kernel
theorem dX5_flush_76 : decode cX5_flush 76 = .ok (.getfield 151, 3) := by decide +kernel
theorem dX5_flush_79 : decode cX5_flush 79 = .ok (.iload_n 1, 1) := by decide +kernel
theorem dX5_flush_80 : decode cX5_flush 80 = .ok (.iadd, 1) := by decide +kernel
theorem dX5_flush_81 : decode cX5_flush 81 = .ok (.putfield 151, 3) := by decide +kernel
theorem dX5_flush_84 : decode cX5_flush 84 = .ok (.aload_n 0, 1) := by decide +kernel
theorem dX5_flush_85 : decode cX5_flush 85 = .ok (.getfield 29, 3) := by decide +kernel
theorem dX5_flush_88 : decode cX5_flush 88 = .ok (.invokevirtual 138, 3) := by decide +kernel
theorem dX5_flush_91 : decode cX5_flush 91 = .ok (.iload_n 1, 1) := by decide +kernel
theorem dX5_flush_92 : decode cX5_flush 92 = .ok (.ireturn, 1) := by decide +kernel
set_option maxRecDepth 20000 in
theorem ggX5_crash_X2_unsynced : GoodIn wsX5_crash wsX2_unsynced := goodIn_r _ [8, 9, 10, 11, 12, 13, 7, 14, 15, 16, 17, 18, 33, 34, 35, 36, 37, 38] (by decide +kernel) (by decide +kernel)
set_option maxRecDepth 20000 in
theorem gX5_crash_X2_unsynced : GoodIn wsX5_crash (wsV RX5 154 RX2 yX2_unsynced wsX2_unsynced) := goodIn_app (goodIn_of _ (by decide +kernel)) ggX5_crash_X2_unsynced
set_option maxRecDepth 20000 in
theorem ggX5_crash_X2_cutCurrent : GoodIn wsX5_crash wsX2_cutCurrent := goodIn_r _ [22, 15, 9, 16, 17, 7, 18, 33, 34, 35, 36, 37, 38] (by decide +kernel) (by decide +kernel)
set_option maxRecDepth 20000 in
theorem gX5_crash_X2_cutCurrent : GoodIn wsX5_crash (wsV RX5 160 RX2 yX2_cutCurrent wsX2_cutCurrent) := goodIn_app (goodIn_of _ (by decide +kernel)) ggX5_crash_X2_cutCurrent
theorem dX5_crash_0 : decode cX5_crash 0 = .ok (.aload_n 0, 1) := by decide +kernel
theorem dX5_crash_1 : decode cX5_crash 1 = .ok (.getfield 58, 3) := by decide +kernel
theorem dX5_crash_4 : decode cX5_crash 4 = .ok (.ifCond .eq 6, 3) := by decide +kernel
theorem dX5_crash_7 : decode cX5_crash 7 = .ok (.bipush (-4), 2) := by decide +kernel
theorem dX5_crash_9 : decode cX5_crash 9 = .ok (.ireturn, 1) := by decide +kernel
theorem dX5_crash_10 : decode cX5_crash 10 = .ok (.aload_n 0, 1) := by decide +kernel
theorem dX5_crash_11 : decode cX5_crash 11 = .ok (.getfield 29, 3) := by decide +kernel
theorem dX5_crash_14 : decode cX5_crash 14 = .ok (.invokevirtual 154, 3) := by decide +kernel
theorem dX5_crash_17 : decode cX5_crash 17 = .ok (.istore_n 2, 1) := by decide +kernel
theorem dX5_crash_18 : decode cX5_crash 18 = .ok (.iload_n 1, 1) := by decide +kernel
theorem dX5_crash_19 : decode cX5_crash 19 = .ok (.ifCond .lt 8, 3) := by decide +kernel
theorem dX5_crash_22 : decode cX5_crash 22 = .ok (.iload_n 1, 1) := by decide +kernel
theorem dX5_crash_23 : decode cX5_crash 23 = .ok (.iload_n 2, 1) := by decide +kernel
theorem dX5_crash_24 : decode cX5_crash 24 = .ok (.if_icmp .le 5, 3) := by decide +kernel
theorem dX5_crash_27 : decode cX5_crash 27 = .ok (.iconst (-1), 1) := by decide +kernel
theorem dX5_crash_28 : decode cX5_crash 28 = .ok (.ireturn, 1) := by decide +kernel
theorem dX5_crash_29 : decode cX5_crash 29 = .ok (.aload_n 0, 1) := by decide +kernel
theorem dX5_crash_30 : decode cX5_crash 30 = .ok (.getfield 29, 3) := by decide +kernel
theorem dX5_crash_33 : decode cX5_crash 33 = .ok (.aload_n 0, 1) := by decide +kernel
theorem dX5_crash_34 : decode cX5_crash 34 = .ok (.getfield 29, 3) := by decide +kernel
theorem dX5_crash_37 : decode cX5_crash 37 = .ok (.getfield 157, 3) := by decide +kernel
theorem dX5_crash_40 : decode cX5_crash 40 = .ok (.iload_n 1, 1) := by decide +kernel
theorem dX5_crash_41 : decode cX5_crash 41 = .ok (.iadd, 1) := by decide +kernel
theorem dX5_crash_42 : decode cX5_crash 42 = .ok (.invokevirtual 160, 3) := by decide +kernel
theorem dX5_crash_45 : decode cX5_crash 45 = .ok (.aload_n 0, 1) := by decide +kernel
theorem dX5_crash_46 : decode cX5_crash 46 = .ok (.iconst 1, 1) := by decide +kernel
theorem dX5_crash_47 : decode cX5_crash 47 = .ok (.putfield 58, 3) := by decide +kernel
theorem dX5_crash_50 : decode cX5_crash 50 = .ok (.iload_n 2, 1) := by decide +kernel
theorem dX5_crash_51 : decode cX5_crash 51 = .ok (.iload_n 1, 1) := by decide +kernel
theorem dX5_crash_52 : decode cX5_crash 52 = .ok (.isub, 1) := by decide +kernel
theorem dX5_crash_53 : decode cX5_crash 53 = .ok (.ireturn, 1) := by decide +kernel
set_option maxRecDepth 20000 in
theorem ggX5_recover_X1_startFrom : GoodIn wsX5_recover wsX1_startFrom := goodIn_r _ [16, 17, 18, 19, 20, 21, 22, 23, 24, 25, 26, 27, 28, 29, 150, 151, 152, 153, 154, 155, 156, 157] (by decide +kernel) (by decide +kernel)
set_option maxRecDepth 20000 in
theorem gX5_recover_X1_startFrom : GoodIn wsX5_recover (wsV RX5 147 RX1 yX1_startFrom wsX1_startFrom) := goodIn_app (goodIn_of _ (by decide +kernel)) ggX5_recover_X1_startFrom
set_option maxRecDepth 20000 in
theorem ggX5_recover_X5_replayGeneration : GoodIn wsX5_recover wsX5_replayGeneration := goodIn_r _ [34, 5, 35, 36, 2, 8, 4, 37, 38, 39, 40, 41, 42, 43, 44, 45, 46, 47, 48, 49, 50, 51, 52, 53, 54, 55, 56, 57, 58, 59, 60, 61, 33, 62, 63, 64, 65, 66, 67, 68, 69, 70, 71, 72, 73, 74, 75, 76, 77, 78, 79, 80, 81, 82, 83, 84, 85, 86, 87, 88, 89, 90, 91, 92, 93, 94, 95, 96, 97, 98, 99, 100, 15, 101, 18, 20, 102, 103, 104, 105, 106, 17, 107, 108, 109, 110, 19, 111, 112, 113, 114, 24, 115, 116, 117, 118, 27, 26, 28, 119, 29, 120, 134, 135, 136, 137, 138, 139, 140, 141, 142, 143, 158, 159, 160, 161, 162, 150, 151, 152, 153, 144, 145, 146, 147, 148, 149, 154, 155, 156, 157] (by decide +kernel) (by decide +kernel)
set_option maxRecDepth 20000 in
theorem gX5_recover_X5_replayGeneration : GoodIn wsX5_recover (wsV RX5 163 RX5 yX5_replayGeneration wsX5_replayGeneration) := goodIn_app (goodIn_of _ (by decide +kernel)) ggX5_recover_X5_replayGeneration
set_option maxRecDepth 20000 in
theorem ggX5_recover_X2_cutCurrent : GoodIn wsX5_recover wsX2_cutCurrent := goodIn_r _ [124, 42, 88, 43, 44, 40, 45, 144, 145, 146, 147, 148, 149] (by decide +kernel) (by decide +kernel)
set_option maxRecDepth 20000 in
theorem gX5_recover_X2_cutCurrent : GoodIn wsX5_recover (wsV RX5 160 RX2 yX2_cutCurrent wsX2_cutCurrent) := goodIn_app (goodIn_of _ (by decide +kernel)) ggX5_recover_X2_cutCurrent
set_option maxRecDepth 20000 in
theorem ggX5_recover_X2_syncCurrent : GoodIn wsX5_recover wsX2_syncCurrent := goodIn_r _ [128, 88, 89, 129, 130, 131, 40, 132, 55, 38, 39, 41, 42, 43, 44, 45, 144, 145, 146, 147, 148, 149] (by decide +kernel) (by decide +kernel)
set_option maxRecDepth 20000 in
theorem gX5_recover_X2_syncCurrent : GoodIn wsX5_recover (wsV RX5 135 RX2 yX2_syncCurrent wsX2_syncCurrent) := goodIn_app (goodIn_of _ (by decide +kernel)) ggX5_recover_X2_syncCurrent
set_option maxRecDepth 20000 in
theorem ggX5_recover_X0_copyFrom : GoodIn wsX5_recover wsX0_copyFrom := goodIn_r _ [25, 26, 27, 28, 29, 154, 155, 156, 157] (by decide +kernel) (by decide +kernel)
set_option maxRecDepth 20000 in
theorem gX5_recover_X0_copyFrom : GoodIn wsX5_recover (wsV RX5 127 RX0 yX0_copyFrom wsX0_copyFrom) := goodIn_app (goodIn_of _ (by decide +kernel)) ggX5_recover_X0_copyFrom
theorem dX5_recover_0 : decode cX5_recover 0 = .ok (.aload_n 0, 1) := by decide +kernel
theorem dX5_recover_1 : decode cX5_recover 1 = .ok (.getfield 58, 3) := by decide +kernel
theorem dX5_recover_4 : decode cX5_recover 4 = .ok (.ifCond .ne 5, 3) := by decide +kernel
theorem dX5_recover_7 : decode cX5_recover 7 = .ok (.iconst (-1), 1) := by decide +kernel
theorem dX5_recover_8 : decode cX5_recover 8 = .ok (.ireturn, 1) := by decide +kernel
theorem dX5_recover_9 : decode cX5_recover 9 = .ok (.aload_n 0, 1) := by decide +kernel
theorem dX5_recover_10 : decode cX5_recover 10 = .ok (.getfield 10, 3) := by decide +kernel
theorem dX5_recover_13 : decode cX5_recover 13 = .ok (.aload_n 0, 1) := by decide +kernel
theorem dX5_recover_14 : decode cX5_recover 14 = .ok (.getfield 16, 3) := by decide +kernel
theorem dX5_recover_17 : decode cX5_recover 17 = .ok (.invokevirtual 147, 3) := by decide +kernel
theorem dX5_recover_20 : decode cX5_recover 20 = .ok (.aload_n 0, 1) := by decide +kernel
theorem dX5_recover_21 : decode cX5_recover 21 = .ok (.iconst 0, 1) := by decide +kernel
theorem dX5_recover_22 : decode cX5_recover 22 = .ok (.putfield 55, 3) := by decide +kernel
theorem dX5_recover_25 : decode cX5_recover 25 = .ok (.iconst 0, 1) := by decide +kernel
theorem dX5_recover_26 : decode cX5_recover 26 = .ok (.istore_n 2, 1) := by decide +kernel
theorem dX5_recover_27 : decode cX5_recover 27 = .ok (.aload_n 0, 1) := by decide +kernel
theorem dX5_recover_28 : decode cX5_recover 28 = .ok (.getfield 29, 3) := by decide +kernel
theorem dX5_recover_31 : decode cX5_recover 31 = .ok (.getfield 151, 3) := by decide +kernel
theorem dX5_recover_34 : decode cX5_recover 34 = .ok (.istore_n 3, 1) := by decide +kernel
theorem dX5_recover_35 : decode cX5_recover 35 = .ok (.iload_n 3, 1) := by decide +kernel
theorem dX5_recover_36 : decode cX5_recover 36 = .ok (.aload_n 0, 1) := by decide +kernel
theorem dX5_recover_37 : decode cX5_recover 37 = .ok (.getfield 29, 3) := by decide +kernel
theorem dX5_recover_40 : decode cX5_recover 40 = .ok (.getfield 141, 3) := by decide +kernel
theorem dX5_recover_43 : decode cX5_recover 43 = .ok (.if_icmp .gt 22, 3) := by decide +kernel
theorem dX5_recover_46 : decode cX5_recover 46 = .ok (.aload_n 0, 1) := by decide +kernel
theorem dX5_recover_47 : decode cX5_recover 47 = .ok (.iload_n 3, 1) := by decide +kernel
theorem dX5_recover_48 : decode cX5_recover 48 = .ok (.iload_n 1, 1) := by decide +kernel
theorem dX5_recover_49 : decode cX5_recover 49 = .ok (.invokevirtual 163, 3) := by decide +kernel
theorem dX5_recover_52 : decode cX5_recover 52 = .ok (.istore_n 2, 1) := by decide +kernel
theorem dX5_recover_53 : decode cX5_recover 53 = .ok (.iload_n 2, 1) := by decide +kernel
theorem dX5_recover_54 : decode cX5_recover 54 = .ok (.ifCond .ge 5, 3) := by decide +kernel
theorem dX5_recover_57 : decode cX5_recover 57 = .ok (.iload_n 2, 1) := by decide +kernel
theorem dX5_recover_58 : decode cX5_recover 58 = .ok (.ireturn, 1) := by decide +kernel
theorem dX5_recover_59 : decode cX5_recover 59 = .ok (.iinc 3 1, 3) := by decide +kernel
theorem dX5_recover_62 : decode cX5_recover 62 = .ok (.goto (-27), 3) := by decide +kernel
theorem dX5_recover_65 : decode cX5_recover 65 = .ok (.aload_n 0, 1) := by decide +kernel
theorem dX5_recover_66 : decode cX5_recover 66 = .ok (.getfield 29, 3) := by decide +kernel
theorem dX5_recover_69 : decode cX5_recover 69 = .ok (.iload_n 2, 1) := by decide +kernel
theorem dX5_recover_70 : decode cX5_recover 70 = .ok (.invokevirtual 160, 3) := by decide +kernel
theorem dX5_recover_73 : decode cX5_recover 73 = .ok (.aload_n 0, 1) := by decide +kernel
theorem dX5_recover_74 : decode cX5_recover 74 = .ok (.getfield 29, 3) := by decide +kernel
theorem dX5_recover_77 : decode cX5_recover 77 = .ok (.invokevirtual 135, 3) := by decide +kernel
theorem dX5_recover_80 : decode cX5_recover 80 = .ok (.pop, 1) := by decide +kernel
theorem dX5_recover_81 : decode cX5_recover 81 = .ok (.aload_n 0, 1) := by decide +kernel
theorem dX5_recover_82 : decode cX5_recover 82 = .ok (.aload_n 0, 1) := by decide +kernel
theorem dX5_recover_83 : decode cX5_recover 83 = .ok (.getfield 10, 3) := by decide +kernel
theorem dX5_recover_86 : decode cX5_recover 86 = .ok (.getfield 81, 3) := by decide +kernel
theorem dX5_recover_89 : decode cX5_recover 89 = .ok (.putfield 51, 3) := by decide +kernel
theorem dX5_recover_92 : decode cX5_recover 92 = .ok (.aload_n 0, 1) := by decide +kernel
theorem dX5_recover_93 : decode cX5_recover 93 = .ok (.getfield 22, 3) := by decide +kernel
theorem dX5_recover_96 : decode cX5_recover 96 = .ok (.aload_n 0, 1) := by decide +kernel
theorem dX5_recover_97 : decode cX5_recover 97 = .ok (.getfield 10, 3) := by decide +kernel
theorem dX5_recover_100 : decode cX5_recover 100 = .ok (.getfield 84, 3) := by decide +kernel
theorem dX5_recover_103 : decode cX5_recover 103 = .ok (.invokevirtual 127, 3) := by decide +kernel
theorem dX5_recover_106 : decode cX5_recover 106 = .ok (.aload_n 0, 1) := by decide +kernel
theorem dX5_recover_107 : decode cX5_recover 107 = .ok (.iconst 0, 1) := by decide +kernel
theorem dX5_recover_108 : decode cX5_recover 108 = .ok (.putfield 58, 3) := by decide +kernel
theorem dX5_recover_111 : decode cX5_recover 111 = .ok (.aload_n 0, 1) := by decide +kernel
theorem dX5_recover_112 : decode cX5_recover 112 = .ok (.getfield 55, 3) := by decide +kernel
theorem dX5_recover_115 : decode cX5_recover 115 = .ok (.ireturn, 1) := by decide +kernel
set_option maxRecDepth 20000 in
theorem ggX5_flip_X2_hasByte : GoodIn wsX5_flip wsX2_hasByte := goodIn_r _ [6, 7, 8, 9, 10, 11, 5, 12, 28, 29, 30, 31, 32, 33] (by decide +kernel) (by decide +kernel)
set_option maxRecDepth 20000 in
theorem gX5_flip_X2_hasByte : GoodIn wsX5_flip (wsV RX5 167 RX2 yX2_hasByte wsX2_hasByte) := goodIn_app (goodIn_of _ (by decide +kernel)) ggX5_flip_X2_hasByte
set_option maxRecDepth 20000 in
theorem ggX5_flip_X2_change : GoodIn wsX5_flip wsX2_change := goodIn_r _ [16, 17, 10, 11, 5, 12, 28, 29, 30, 31, 32, 33] (by decide +kernel) (by decide +kernel)
set_option maxRecDepth 20000 in
theorem gX5_flip_X2_change : GoodIn wsX5_flip (wsV RX5 170 RX2 yX2_change wsX2_change) := goodIn_app (goodIn_of _ (by decide +kernel)) ggX5_flip_X2_change
theorem dX5_flip_0 : decode cX5_flip 0 = .ok (.aload_n 0, 1) := by decide +kernel
theorem dX5_flip_1 : decode cX5_flip 1 = .ok (.getfield 29, 3) := by decide +kernel
theorem dX5_flip_4 : decode cX5_flip 4 = .ok (.iload_n 1, 1) := by decide +kernel
theorem dX5_flip_5 : decode cX5_flip 5 = .ok (.iload_n 2, 1) := by decide +kernel
theorem dX5_flip_6 : decode cX5_flip 6 = .ok (.invokevirtual 167, 3) := by decide +kernel
theorem dX5_flip_9 : decode cX5_flip 9 = .ok (.ifCond .eq 14, 3) := by decide +kernel
theorem dX5_flip_12 : decode cX5_flip 12 = .ok (.iload_n 3, 1) := by decide +kernel
theorem dX5_flip_13 : decode cX5_flip 13 = .ok (.ifCond .lt 10, 3) := by decide +kernel
theorem dX5_flip_16 : decode cX5_flip 16 = .ok (.iload_n 3, 1) := by decide +kernel
theorem dX5_flip_17 : decode cX5_flip 17 = .ok (.sipush 255, 3) := by decide +kernel
theorem dX5_flip_20 : decode cX5_flip 20 = .ok (.if_icmp .le 5, 3) := by decide +kernel
theorem dX5_flip_23 : decode cX5_flip 23 = .ok (.iconst (-1), 1) := by decide +kernel
theorem dX5_flip_24 : decode cX5_flip 24 = .ok (.ireturn, 1) := by decide +kernel
theorem dX5_flip_25 : decode cX5_flip 25 = .ok (.aload_n 0, 1) := by decide +kernel
theorem dX5_flip_26 : decode cX5_flip 26 = .ok (.getfield 29, 3) := by decide +kernel
theorem dX5_flip_29 : decode cX5_flip 29 = .ok (.iload_n 1, 1) := by decide +kernel
theorem dX5_flip_30 : decode cX5_flip 30 = .ok (.iload_n 2, 1) := by decide +kernel
theorem dX5_flip_31 : decode cX5_flip 31 = .ok (.iload_n 3, 1) := by decide +kernel
theorem dX5_flip_32 : decode cX5_flip 32 = .ok (.invokevirtual 170, 3) := by decide +kernel
theorem dX5_flip_35 : decode cX5_flip 35 = .ok (.ireturn, 1) := by decide +kernel
set_option maxRecDepth 20000 in
theorem ggX5_ask_X5_isWord : GoodIn wsX5_ask wsX5_isWord := goodIn_r _ [6] (by decide +kernel) (by decide +kernel)
set_option maxRecDepth 20000 in
theorem gX5_ask_X5_isWord : GoodIn wsX5_ask (va_wsS RX5 174 yX5_isWord wsX5_isWord) := goodIn_app (goodIn_of _ (by decide +kernel)) ggX5_ask_X5_isWord
set_option maxRecDepth 20000 in
theorem ggX5_ask_X4_add : GoodIn wsX5_ask wsX4_add := goodIn_r _ [11, 12, 13, 14, 15, 26, 27, 28, 29, 30, 31] (by decide +kernel) (by decide +kernel)
set_option maxRecDepth 20000 in
theorem gX5_ask_X4_add : GoodIn wsX5_ask (wsV RX5 180 RX4 yX4_add wsX4_add) := goodIn_app (goodIn_of _ (by decide +kernel)) ggX5_ask_X4_add
theorem dX5_ask_0 : decode cX5_ask 0 = .ok (.iload_n 1, 1) := by decide +kernel
theorem dX5_ask_1 : decode cX5_ask 1 = .ok (.ifCond .lt 9, 3) := by decide +kernel
theorem dX5_ask_4 : decode cX5_ask 4 = .ok (.iload_n 1, 1) := by decide +kernel
theorem dX5_ask_5 : decode cX5_ask 5 = .ok (.bipush 7, 2) := by decide +kernel
theorem dX5_ask_7 : decode cX5_ask 7 = .ok (.if_icmp .le 5, 3) := by decide +kernel
theorem dX5_ask_10 : decode cX5_ask 10 = .ok (.iconst (-1), 1) := by decide +kernel
theorem dX5_ask_11 : decode cX5_ask 11 = .ok (.ireturn, 1) := by decide +kernel
theorem dX5_ask_12 : decode cX5_ask 12 = .ok (.iload_n 1, 1) := by decide +kernel
theorem dX5_ask_13 : decode cX5_ask 13 = .ok (.iconst 1, 1) := by decide +kernel
theorem dX5_ask_14 : decode cX5_ask 14 = .ok (.if_icmp .eq 8, 3) := by decide +kernel
theorem dX5_ask_17 : decode cX5_ask 17 = .ok (.iload_n 1, 1) := by decide +kernel
theorem dX5_ask_18 : decode cX5_ask 18 = .ok (.iconst 2, 1) := by decide +kernel
theorem dX5_ask_19 : decode cX5_ask 19 = .ok (.if_icmp .ne 12, 3) := by decide +kernel
theorem dX5_ask_22 : decode cX5_ask 22 = .ok (.iload_n 2, 1) := by decide +kernel
theorem dX5_ask_23 : decode cX5_ask 23 = .ok (.invokestatic 174, 3) := by decide +kernel
theorem dX5_ask_26 : decode cX5_ask 26 = .ok (.ifCond .ne 5, 3) := by decide +kernel
theorem dX5_ask_29 : decode cX5_ask 29 = .ok (.iconst (-1), 1) := by decide +kernel
theorem dX5_ask_30 : decode cX5_ask 30 = .ok (.ireturn, 1) := by decide +kernel
theorem dX5_ask_31 : decode cX5_ask 31 = .ok (.iload_n 1, 1) := by decide +kernel
theorem dX5_ask_32 : decode cX5_ask 32 = .ok (.iconst 2, 1) := by decide +kernel
theorem dX5_ask_33 : decode cX5_ask 33 = .ok (.if_icmp .ne 12, 3) := by decide +kernel
theorem dX5_ask_36 : decode cX5_ask 36 = .ok (.iload_n 3, 1) := by decide +kernel
theorem dX5_ask_37 : decode cX5_ask 37 = .ok (.invokestatic 174, 3) := by decide +kernel
theorem dX5_ask_40 : decode cX5_ask 40 = .ok (.ifCond .ne 5, 3) := by decide +kernel
theorem dX5_ask_43 : decode cX5_ask 43 = .ok (.iconst (-1), 1) := by decide +kernel
theorem dX5_ask_44 : decode cX5_ask 44 = .ok (.ireturn, 1) := by decide +kernel
theorem dX5_ask_45 : decode cX5_ask 45 = .ok (.iload_n 1, 1) := by decide +kernel
theorem dX5_ask_46 : decode cX5_ask 46 = .ok (.bipush 7, 2) := by decide +kernel
theorem dX5_ask_48 : decode cX5_ask 48 = .ok (.if_icmp .ne 13, 3) := by decide +kernel
theorem dX5_ask_51 : decode cX5_ask 51 = .ok (.aload_n 0, 1) := by decide +kernel
theorem dX5_ask_52 : decode cX5_ask 52 = .ok (.getfield 36, 3) := by decide +kernel
theorem dX5_ask_55 : decode cX5_ask 55 = .ok (.iconst 0, 1) := by decide +kernel
theorem dX5_ask_56 : decode cX5_ask 56 = .ok (.putfield 177, 3) := by decide +kernel
theorem dX5_ask_59 : decode cX5_ask 59 = .ok (.iconst 0, 1) := by decide +kernel
theorem dX5_ask_60 : decode cX5_ask 60 = .ok (.ireturn, 1) := by decide +kernel
theorem dX5_ask_61 : decode cX5_ask 61 = .ok (.aload_n 0, 1) := by decide +kernel
theorem dX5_ask_62 : decode cX5_ask 62 = .ok (.getfield 36, 3) := by decide +kernel
theorem dX5_ask_65 : decode cX5_ask 65 = .ok (.iload_n 1, 1) := by decide +kernel
theorem dX5_ask_66 : decode cX5_ask 66 = .ok (.iload_n 2, 1) := by decide +kernel
theorem dX5_ask_67 : decode cX5_ask 67 = .ok (.iload_n 3, 1) := by decide +kernel
theorem dX5_ask_68 : decode cX5_ask 68 = .ok (.invokevirtual 180, 3) := by decide +kernel
theorem dX5_ask_71 : decode cX5_ask 71 = .ok (.ifCond .eq 13, 3) := by decide +kernel
theorem dX5_ask_74 : decode cX5_ask 74 = .ok (.aload_n 0, 1) := by decide +kernel
theorem dX5_ask_75 : decode cX5_ask 75 = .ok (.getfield 36, 3) := by decide +kernel
theorem dX5_ask_78 : decode cX5_ask 78 = .ok (.getfield 177, 3) := by decide +kernel
theorem dX5_ask_81 : decode cX5_ask 81 = .ok (.goto 5, 3) := by decide +kernel
theorem dX5_ask_84 : decode cX5_ask 84 = .ok (.bipush (-3), 2) := by decide +kernel
theorem dX5_ask_86 : decode cX5_ask 86 = .ok (.ireturn, 1) := by decide +kernel
set_option maxRecDepth 20000 in
theorem ggX5_hit_X5_isSort : GoodIn wsX5_hit wsX5_isSort := goodIn_r _ [7] (by decide +kernel) (by decide +kernel)
set_option maxRecDepth 20000 in
theorem gX5_hit_X5_isSort : GoodIn wsX5_hit (va_wsS RX5 184 yX5_isSort wsX5_isSort) := goodIn_app (goodIn_of _ (by decide +kernel)) ggX5_hit_X5_isSort
set_option maxRecDepth 20000 in
theorem ggX5_hit_X4_isWhole : GoodIn wsX5_hit wsX4_isWhole := goodIn_r _ [12, 13, 14, 15, 16, 11, 17, 98, 99, 100, 101, 102, 103] (by decide +kernel) (by decide +kernel)
set_option maxRecDepth 20000 in
theorem gX5_hit_X4_isWhole : GoodIn wsX5_hit (wsV RX5 187 RX4 yX4_isWhole wsX4_isWhole) := goodIn_app (goodIn_of _ (by decide +kernel)) ggX5_hit_X4_isWhole
set_option maxRecDepth 20000 in
theorem ggX5_hit_X5_scoreAll : GoodIn wsX5_hit wsX5_scoreAll := goodIn_r _ [21, 3, 22, 2, 23, 24, 25, 26, 27, 28, 29, 30, 31, 32, 33, 6, 34, 35, 36, 37, 38, 39, 40, 41, 42, 11, 43, 13, 44, 45, 46, 47, 14, 48, 49, 15, 16, 17, 50, 51, 52, 53, 54, 55, 56, 57, 58, 59, 60, 61, 62, 63, 64, 65, 66, 67, 68, 69, 70, 71, 88, 89, 90, 91, 92, 93, 94, 95, 96, 97, 104, 105, 106, 107, 98, 99, 100, 101, 102, 103] (by decide +kernel) (by decide +kernel)
set_option maxRecDepth 20000 in
theorem gX5_hit_X5_scoreAll : GoodIn wsX5_hit (wsV RX5 190 RX5 yX5_scoreAll wsX5_scoreAll) := goodIn_app (goodIn_of _ (by decide +kernel)) ggX5_hit_X5_scoreAll
set_option maxRecDepth 20000 in
theorem ggX5_hit_X5_countMatches : GoodIn wsX5_hit wsX5_countMatches := goodIn_r _ [75, 3, 88, 89, 90, 91, 92, 93, 94, 95, 96, 97] (by decide +kernel) (by decide +kernel)
set_option maxRecDepth 20000 in
theorem gX5_hit_X5_countMatches : GoodIn wsX5_hit (wsV RX5 193 RX5 yX5_countMatches wsX5_countMatches) := goodIn_app (goodIn_of _ (by decide +kernel)) ggX5_hit_X5_countMatches
set_option maxRecDepth 20000 in
theorem ggX5_hit_X5_rankOf : GoodIn wsX5_hit wsX5_rankOf := goodIn_r _ [79, 3, 80, 81, 82, 6, 83, 22, 84, 33, 34, 35, 36, 37, 26, 38, 39, 85, 86, 87, 88, 89, 90, 91, 92, 93, 94, 95, 96, 97, 104, 105, 106, 107] (by decide +kernel) (by decide +kernel)
set_option maxRecDepth 20000 in
theorem gX5_hit_X5_rankOf : GoodIn wsX5_hit (wsV RX5 196 RX5 yX5_rankOf wsX5_rankOf) := goodIn_app (goodIn_of _ (by decide +kernel)) ggX5_hit_X5_rankOf
theorem dX5_hit_0 : decode cX5_hit 0 = .ok (.aload_n 0, 1) := by decide +kernel
theorem dX5_hit_1 : decode cX5_hit 1 = .ok (.getfield 58, 3) := by decide +kernel
theorem dX5_hit_4 : decode cX5_hit 4 = .ok (.ifCond .eq 6, 3) := by decide +kernel
theorem dX5_hit_7 : decode cX5_hit 7 = .ok (.bipush (-4), 2) := by decide +kernel
theorem dX5_hit_9 : decode cX5_hit 9 = .ok (.ireturn, 1) := by decide +kernel
theorem dX5_hit_10 : decode cX5_hit 10 = .ok (.iload_n 1, 1) := by decide +kernel
theorem dX5_hit_11 : decode cX5_hit 11 = .ok (.invokestatic 184, 3) := by decide +kernel
theorem dX5_hit_14 : decode cX5_hit 14 = .ok (.ifCond .eq 18, 3) := by decide +kernel
theorem dX5_hit_17 : decode cX5_hit 17 = .ok (.iload_n 2, 1) := by decide +kernel
theorem dX5_hit_18 : decode cX5_hit 18 = .ok (.iconst (-1), 1) := by decide +kernel
theorem dX5_hit_19 : decode cX5_hit 19 = .ok (.if_icmp .lt 13, 3) := by decide +kernel
theorem dX5_hit_22 : decode cX5_hit 22 = .ok (.aload_n 0, 1) := by decide +kernel
theorem dX5_hit_23 : decode cX5_hit 23 = .ok (.getfield 36, 3) := by decide +kernel
theorem dX5_hit_26 : decode cX5_hit 26 = .ok (.invokevirtual 187, 3) := by decide +kernel
theorem dX5_hit_29 : decode cX5_hit 29 = .ok (.ifCond .ne 5, 3) := by decide +kernel
theorem dX5_hit_32 : decode cX5_hit 32 = .ok (.iconst (-1), 1) := by decide +kernel
theorem dX5_hit_33 : decode cX5_hit 33 = .ok (.ireturn, 1) := by decide +kernel
theorem dX5_hit_34 : decode cX5_hit 34 = .ok (.aload_n 0, 1) := by decide +kernel
theorem dX5_hit_35 : decode cX5_hit 35 = .ok (.invokevirtual 190, 3) := by decide +kernel
theorem dX5_hit_38 : decode cX5_hit 38 = .ok (.iload_n 2, 1) := by decide +kernel
theorem dX5_hit_39 : decode cX5_hit 39 = .ok (.iconst (-1), 1) := by decide +kernel
theorem dX5_hit_40 : decode cX5_hit 40 = .ok (.if_icmp .ne 8, 3) := by decide +kernel
theorem dX5_hit_43 : decode cX5_hit 43 = .ok (.aload_n 0, 1) := by decide +kernel
theorem dX5_hit_44 : decode cX5_hit 44 = .ok (.invokevirtual 193, 3) := by decide +kernel
theorem dX5_hit_47 : decode cX5_hit 47 = .ok (.ireturn, 1) := by decide +kernel
theorem dX5_hit_48 : decode cX5_hit 48 = .ok (.iconst 0, 1) := by decide +kernel
theorem dX5_hit_49 : decode cX5_hit 49 = .ok (.istore_n 3, 1) := by decide +kernel
theorem dX5_hit_50 : decode cX5_hit 50 = .ok (.iload_n 3, 1) := by decide +kernel
theorem dX5_hit_51 : decode cX5_hit 51 = .ok (.bipush 16, 2) := by decide +kernel
theorem dX5_hit_53 : decode cX5_hit 53 = .ok (.if_icmp .ge 30, 3) := by decide +kernel
theorem dX5_hit_56 : decode cX5_hit 56 = .ok (.aload_n 0, 1) := by decide +kernel
theorem dX5_hit_57 : decode cX5_hit 57 = .ok (.getfield 47, 3) := by decide +kernel
theorem dX5_hit_60 : decode cX5_hit 60 = .ok (.iload_n 3, 1) := by decide +kernel
theorem dX5_hit_61 : decode cX5_hit 61 = .ok (.iaload, 1) := by decide +kernel
theorem dX5_hit_62 : decode cX5_hit 62 = .ok (.ifCond .lt 15, 3) := by decide +kernel
theorem dX5_hit_65 : decode cX5_hit 65 = .ok (.aload_n 0, 1) := by decide +kernel
theorem dX5_hit_66 : decode cX5_hit 66 = .ok (.iload_n 1, 1) := by decide +kernel
theorem dX5_hit_67 : decode cX5_hit 67 = .ok (.iload_n 3, 1) := by decide +kernel
theorem dX5_hit_68 : decode cX5_hit 68 = .ok (.invokevirtual 196, 3) := by decide +kernel
theorem dX5_hit_71 : decode cX5_hit 71 = .ok (.iload_n 2, 1) := by decide +kernel
theorem dX5_hit_72 : decode cX5_hit 72 = .ok (.if_icmp .ne 5, 3) := by decide +kernel
theorem dX5_hit_75 : decode cX5_hit 75 = .ok (.iload_n 3, 1) := by decide +kernel
theorem dX5_hit_76 : decode cX5_hit 76 = .ok (.ireturn, 1) := by decide +kernel
theorem dX5_hit_77 : decode cX5_hit 77 = .ok (.iinc 3 1, 3) := by decide +kernel
theorem dX5_hit_80 : decode cX5_hit 80 = .ok (.goto (-30), 3) := by decide +kernel
theorem dX5_hit_83 : decode cX5_hit 83 = .ok (.iconst (-1), 1) := by decide +kernel
theorem dX5_hit_84 : decode cX5_hit 84 = .ok (.ireturn, 1) := by decide +kernel
set_option maxRecDepth 20000 in
theorem ggX5_after_X5_isSort : GoodIn wsX5_after wsX5_isSort := goodIn_r _ [7] (by decide +kernel) (by decide +kernel)
set_option maxRecDepth 20000 in
theorem gX5_after_X5_isSort : GoodIn wsX5_after (va_wsS RX5 184 yX5_isSort wsX5_isSort) := goodIn_app (goodIn_of _ (by decide +kernel)) ggX5_after_X5_isSort
set_option maxRecDepth 20000 in
theorem ggX5_after_X4_isWhole : GoodIn wsX5_after wsX4_isWhole := goodIn_r _ [12, 13, 14, 15, 16, 11, 17, 90, 91, 92, 93, 94, 95] (by decide +kernel) (by decide +kernel)
set_option maxRecDepth 20000 in
theorem gX5_after_X4_isWhole : GoodIn wsX5_after (wsV RX5 187 RX4 yX4_isWhole wsX4_isWhole) := goodIn_app (goodIn_of _ (by decide +kernel)) ggX5_after_X4_isWhole
