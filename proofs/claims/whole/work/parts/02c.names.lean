set_option maxRecDepth 20000 in
theorem gX2_take_X2_byteAt : GoodIn wsX2_take (wsV RX2 85 RX2 yX2_byteAt wsX2_byteAt) := goodIn_app (goodIn_of _ (by decide +kernel)) ggX2_take_X2_byteAt
theorem dX2_take_0 : decode cX2_take 0 = .ok (.lconst 0, 1) := by decide +kernel
theorem dX2_take_1 : decode cX2_take 1 = .ok (.lstore 4, 2) := by decide +kernel
theorem dX2_take_3 : decode cX2_take 3 = .ok (.iconst 0, 1) := by decide +kernel
theorem dX2_take_4 : decode cX2_take 4 = .ok (.istore 6, 2) := by decide +kernel
theorem dX2_take_6 : decode cX2_take 6 = .ok (.iload 6, 2) := by decide +kernel
theorem dX2_take_8 : decode cX2_take 8 = .ok (.iload_n 3, 1) := by decide +kernel
theorem dX2_take_9 : decode cX2_take 9 = .ok (.if_icmp .ge 30, 3) := by decide +kernel
theorem dX2_take_12 : decode cX2_take 12 = .ok (.lload 4, 2) := by decide +kernel
theorem dX2_take_14 : decode cX2_take 14 = .ok (.aload_n 0, 1) := by decide +kernel
theorem dX2_take_15 : decode cX2_take 15 = .ok (.iload_n 1, 1) := by decide +kernel
theorem dX2_take_16 : decode cX2_take 16 = .ok (.iload_n 2, 1) := by decide +kernel
theorem dX2_take_17 : decode cX2_take 17 = .ok (.iload 6, 2) := by decide +kernel
theorem dX2_take_19 : decode cX2_take 19 = .ok (.iadd, 1) := by decide +kernel
theorem dX2_take_20 : decode cX2_take 20 = .ok (.invokevirtual 85, 3) := by decide +kernel
theorem dX2_take_23 : decode cX2_take 23 = .ok (.i2l, 1) := by decide +kernel
theorem dX2_take_24 : decode cX2_take 24 = .ok (.bipush 8, 2) := by decide +kernel
theorem dX2_take_26 : decode cX2_take 26 = .ok (.iload 6, 2) := by decide +kernel
theorem dX2_take_28 : decode cX2_take 28 = .ok (.imul, 1) := by decide +kernel
theorem dX2_take_29 : decode cX2_take 29 = .ok (.lshl, 1) := by decide +kernel
theorem dX2_take_30 : decode cX2_take 30 = .ok (.lor, 1) := by decide +kernel
theorem dX2_take_31 : decode cX2_take 31 = .ok (.lstore 4, 2) := by decide +kernel
theorem dX2_take_33 : decode cX2_take 33 = .ok (.iinc 6 1, 3) := by decide +kernel
theorem dX2_take_36 : decode cX2_take 36 = .ok (.goto (-30), 3) := by decide +kernel
theorem dX2_take_39 : decode cX2_take 39 = .ok (.lload 4, 2) := by decide +kernel
theorem dX2_take_41 : decode cX2_take 41 = .ok (.lreturn, 1) := by decide +kernel
set_option maxRecDepth 20000 in
theorem ggX2_checksum_X2_byteAt : GoodIn wsX2_checksum wsX2_byteAt := goodIn_r _ [6, 7, 8, 9, 5, 10, 11, 12, 13, 14, 15, 16] (by decide +kernel) (by decide +kernel)
set_option maxRecDepth 20000 in
theorem gX2_checksum_X2_byteAt : GoodIn wsX2_checksum (wsV RX2 85 RX2 yX2_byteAt wsX2_byteAt) := goodIn_app (goodIn_of _ (by decide +kernel)) ggX2_checksum_X2_byteAt
theorem dX2_checksum_0 : decode cX2_checksum 0 = .ok (.iconst (-1), 1) := by decide +kernel
theorem dX2_checksum_1 : decode cX2_checksum 1 = .ok (.istore 4, 2) := by decide +kernel
theorem dX2_checksum_3 : decode cX2_checksum 3 = .ok (.iconst 0, 1) := by decide +kernel
theorem dX2_checksum_4 : decode cX2_checksum 4 = .ok (.istore 5, 2) := by decide +kernel
theorem dX2_checksum_6 : decode cX2_checksum 6 = .ok (.iload 5, 2) := by decide +kernel
theorem dX2_checksum_8 : decode cX2_checksum 8 = .ok (.iload_n 3, 1) := by decide +kernel
theorem dX2_checksum_9 : decode cX2_checksum 9 = .ok (.if_icmp .ge 62, 3) := by decide +kernel
theorem dX2_checksum_12 : decode cX2_checksum 12 = .ok (.iload 4, 2) := by decide +kernel
theorem dX2_checksum_14 : decode cX2_checksum 14 = .ok (.aload_n 0, 1) := by decide +kernel
theorem dX2_checksum_15 : decode cX2_checksum 15 = .ok (.iload_n 1, 1) := by decide +kernel
theorem dX2_checksum_16 : decode cX2_checksum 16 = .ok (.iload_n 2, 1) := by decide +kernel
theorem dX2_checksum_17 : decode cX2_checksum 17 = .ok (.iload 5, 2) := by decide +kernel
theorem dX2_checksum_19 : decode cX2_checksum 19 = .ok (.iadd, 1) := by decide +kernel
theorem dX2_checksum_20 : decode cX2_checksum 20 = .ok (.invokevirtual 85, 3) := by decide +kernel
theorem dX2_checksum_23 : decode cX2_checksum 23 = .ok (.ixor, 1) := by decide +kernel
theorem dX2_checksum_24 : decode cX2_checksum 24 = .ok (.istore 4, 2) := by decide +kernel
theorem dX2_checksum_26 : decode cX2_checksum 26 = .ok (.iconst 0, 1) := by decide +kernel
theorem dX2_checksum_27 : decode cX2_checksum 27 = .ok (.istore 6, 2) := by decide +kernel
theorem dX2_checksum_29 : decode cX2_checksum 29 = .ok (.iload 6, 2) := by decide +kernel
theorem dX2_checksum_31 : decode cX2_checksum 31 = .ok (.bipush 8, 2) := by decide +kernel
theorem dX2_checksum_33 : decode cX2_checksum 33 = .ok (.if_icmp .ge 32, 3) := by decide +kernel
theorem dX2_checksum_36 : decode cX2_checksum 36 = .ok (.iload 4, 2) := by decide +kernel
theorem dX2_checksum_38 : decode cX2_checksum 38 = .ok (.iconst 1, 1) := by decide +kernel
theorem dX2_checksum_39 : decode cX2_checksum 39 = .ok (.iand, 1) := by decide +kernel
theorem dX2_checksum_40 : decode cX2_checksum 40 = .ok (.ifCond .eq 13, 3) := by decide +kernel
theorem dX2_checksum_43 : decode cX2_checksum 43 = .ok (.iload 4, 2) := by decide +kernel
theorem dX2_checksum_45 : decode cX2_checksum 45 = .ok (.iconst 1, 1) := by decide +kernel
theorem dX2_checksum_46 : decode cX2_checksum 46 = .ok (.iushr, 1) := by decide +kernel
theorem dX2_checksum_47 : decode cX2_checksum 47 = .ok (.ldc 100, 2) := by decide +kernel
theorem dX2_checksum_49 : decode cX2_checksum 49 = .ok (.ixor, 1) := by decide +kernel
theorem dX2_checksum_50 : decode cX2_checksum 50 = .ok (.goto 7, 3) := by decide +kernel
theorem dX2_checksum_53 : decode cX2_checksum 53 = .ok (.iload 4, 2) := by decide +kernel
theorem dX2_checksum_55 : decode cX2_checksum 55 = .ok (.iconst 1, 1) := by decide +kernel
theorem dX2_checksum_56 : decode cX2_checksum 56 = .ok (.iushr, 1) := by decide +kernel
theorem dX2_checksum_57 : decode cX2_checksum 57 = .ok (.istore 4, 2) := by decide +kernel
theorem dX2_checksum_59 : decode cX2_checksum 59 = .ok (.iinc 6 1, 3) := by decide +kernel
theorem dX2_checksum_62 : decode cX2_checksum 62 = .ok (.goto (-33), 3) := by decide +kernel
theorem dX2_checksum_65 : decode cX2_checksum 65 = .ok (.iinc 5 1, 3) := by decide +kernel
theorem dX2_checksum_68 : decode cX2_checksum 68 = .ok (.goto (-62), 3) := by decide +kernel
theorem dX2_checksum_71 : decode cX2_checksum 71 = .ok (.iload 4, 2) := by decide +kernel
theorem dX2_checksum_73 : decode cX2_checksum 73 = .ok (.iconst (-1), 1) := by decide +kernel
theorem dX2_checksum_74 : decode cX2_checksum 74 = .ok (.ixor, 1) := by decide +kernel
theorem dX2_checksum_75 : decode cX2_checksum 75 = .ok (.ireturn, 1) := by decide +kernel
theorem dX3_init_0 : decode cX3_init 0 = .ok (.aload_n 0, 1) := by decide +kernel
theorem dX3_init_1 : decode cX3_init 1 = .ok (.invokespecial 3, 3) := by decide +kernel
theorem dX3_init_4 : decode cX3_init 4 = .ok (.aload_n 0, 1) := by decide +kernel
theorem dX3_init_5 : decode cX3_init 5 = .ok (.iconst 3, 1) := by decide +kernel
theorem dX3_init_6 : decode cX3_init 6 = .ok (.putfield 9, 3) := by decide +kernel
theorem dX3_init_9 : decode cX3_init 9 = .ok (.aload_n 0, 1) := by decide +kernel
theorem dX3_init_10 : decode cX3_init 10 = .ok (.iconst (-1), 1) := by decide +kernel
theorem dX3_init_11 : decode cX3_init 11 = .ok (.putfield 15, 3) := by decide +kernel
theorem dX3_init_14 : decode cX3_init 14 = .ok (.aload_n 0, 1) := by decide +kernel
theorem dX3_init_15 : decode cX3_init 15 = .ok (.iconst (-1), 1) := by decide +kernel
theorem dX3_init_16 : decode cX3_init 16 = .ok (.putfield 18, 3) := by decide +kernel
theorem dX3_init_19 : decode cX3_init 19 = .ok (.aload_n 0, 1) := by decide +kernel
theorem dX3_init_20 : decode cX3_init 20 = .ok (.iconst 0, 1) := by decide +kernel
theorem dX3_init_21 : decode cX3_init 21 = .ok (.putfield 21, 3) := by decide +kernel
theorem dX3_init_24 : decode cX3_init 24 = .ok (.aload_n 0, 1) := by decide +kernel
theorem dX3_init_25 : decode cX3_init 25 = .ok (.lconst 0, 1) := by decide +kernel
theorem dX3_init_26 : decode cX3_init 26 = .ok (.putfield 24, 3) := by decide +kernel
theorem dX3_init_29 : decode cX3_init 29 = .ok (.return_, 1) := by decide +kernel
theorem dX3_become_0 : decode cX3_become 0 = .ok (.aload_n 0, 1) := by decide +kernel
theorem dX3_become_1 : decode cX3_become 1 = .ok (.iload_n 1, 1) := by decide +kernel
theorem dX3_become_2 : decode cX3_become 2 = .ok (.putfield 9, 3) := by decide +kernel
theorem dX3_become_5 : decode cX3_become 5 = .ok (.aload_n 0, 1) := by decide +kernel
theorem dX3_become_6 : decode cX3_become 6 = .ok (.iload_n 2, 1) := by decide +kernel
theorem dX3_become_7 : decode cX3_become 7 = .ok (.putfield 15, 3) := by decide +kernel
theorem dX3_become_10 : decode cX3_become 10 = .ok (.aload_n 0, 1) := by decide +kernel
theorem dX3_become_11 : decode cX3_become 11 = .ok (.iload_n 3, 1) := by decide +kernel
theorem dX3_become_12 : decode cX3_become 12 = .ok (.putfield 18, 3) := by decide +kernel
theorem dX3_become_15 : decode cX3_become 15 = .ok (.aload_n 0, 1) := by decide +kernel
theorem dX3_become_16 : decode cX3_become 16 = .ok (.iload 4, 2) := by decide +kernel
theorem dX3_become_18 : decode cX3_become 18 = .ok (.putfield 21, 3) := by decide +kernel
theorem dX3_become_21 : decode cX3_become 21 = .ok (.aload_n 0, 1) := by decide +kernel
theorem dX3_become_22 : decode cX3_become 22 = .ok (.lload 5, 2) := by decide +kernel
theorem dX3_become_24 : decode cX3_become 24 = .ok (.putfield 24, 3) := by decide +kernel
theorem dX3_become_27 : decode cX3_become 27 = .ok (.return_, 1) := by decide +kernel
theorem dX4_init_0 : decode cX4_init 0 = .ok (.aload_n 0, 1) := by decide +kernel
theorem dX4_init_1 : decode cX4_init 1 = .ok (.invokespecial 3, 3) := by decide +kernel
theorem dX4_init_4 : decode cX4_init 4 = .ok (.aload_n 0, 1) := by decide +kernel
theorem dX4_init_5 : decode cX4_init 5 = .ok (.iconst 0, 1) := by decide +kernel
theorem dX4_init_6 : decode cX4_init 6 = .ok (.putfield 9, 3) := by decide +kernel
theorem dX4_init_9 : decode cX4_init 9 = .ok (.aload_n 0, 1) := by decide +kernel
theorem dX4_init_10 : decode cX4_init 10 = .ok (.bipush 15, 2) := by decide +kernel
theorem dX4_init_12 : decode cX4_init 12 = .ok (.newarray .int, 2) := by decide +kernel
theorem dX4_init_14 : decode cX4_init 14 = .ok (.putfield 15, 3) := by decide +kernel
theorem dX4_init_17 : decode cX4_init 17 = .ok (.aload_n 0, 1) := by decide +kernel
theorem dX4_init_18 : decode cX4_init 18 = .ok (.bipush 15, 2) := by decide +kernel
theorem dX4_init_20 : decode cX4_init 20 = .ok (.newarray .int, 2) := by decide +kernel
theorem dX4_init_22 : decode cX4_init 22 = .ok (.putfield 19, 3) := by decide +kernel
theorem dX4_init_25 : decode cX4_init 25 = .ok (.aload_n 0, 1) := by decide +kernel
theorem dX4_init_26 : decode cX4_init 26 = .ok (.bipush 15, 2) := by decide +kernel
theorem dX4_init_28 : decode cX4_init 28 = .ok (.newarray .int, 2) := by decide +kernel
theorem dX4_init_30 : decode cX4_init 30 = .ok (.putfield 22, 3) := by decide +kernel
theorem dX4_init_33 : decode cX4_init 33 = .ok (.aload_n 0, 1) := by decide +kernel
theorem dX4_init_34 : decode cX4_init 34 = .ok (.bipush 15, 2) := by decide +kernel
theorem dX4_init_36 : decode cX4_init 36 = .ok (.newarray .boolean, 2) := by decide +kernel
theorem dX4_init_38 : decode cX4_init 38 = .ok (.putfield 25, 3) := by decide +kernel
theorem dX4_init_41 : decode cX4_init 41 = .ok (.aload_n 0, 1) := by decide +kernel
theorem dX4_init_42 : decode cX4_init 42 = .ok (.bipush 15, 2) := by decide +kernel
theorem dX4_init_44 : decode cX4_init 44 = .ok (.newarray .int, 2) := by decide +kernel
theorem dX4_init_46 : decode cX4_init 46 = .ok (.putfield 29, 3) := by decide +kernel
theorem dX4_init_49 : decode cX4_init 49 = .ok (.return_, 1) := by decide +kernel
theorem dX4_add_0 : decode cX4_add 0 = .ok (.aload_n 0, 1) := by decide +kernel
theorem dX4_add_1 : decode cX4_add 1 = .ok (.getfield 9, 3) := by decide +kernel
theorem dX4_add_4 : decode cX4_add 4 = .ok (.ifCond .lt 12, 3) := by decide +kernel
theorem dX4_add_7 : decode cX4_add 7 = .ok (.aload_n 0, 1) := by decide +kernel
theorem dX4_add_8 : decode cX4_add 8 = .ok (.getfield 9, 3) := by decide +kernel
theorem dX4_add_11 : decode cX4_add 11 = .ok (.bipush 15, 2) := by decide +kernel
theorem dX4_add_13 : decode cX4_add 13 = .ok (.if_icmp .lt 5, 3) := by decide +kernel
theorem dX4_add_16 : decode cX4_add 16 = .ok (.iconst 0, 1) := by decide +kernel
theorem dX4_add_17 : decode cX4_add 17 = .ok (.ireturn, 1) := by decide +kernel
theorem dX4_add_18 : decode cX4_add 18 = .ok (.aload_n 0, 1) := by decide +kernel
theorem dX4_add_19 : decode cX4_add 19 = .ok (.getfield 15, 3) := by decide +kernel
theorem dX4_add_22 : decode cX4_add 22 = .ok (.aload_n 0, 1) := by decide +kernel
theorem dX4_add_23 : decode cX4_add 23 = .ok (.getfield 9, 3) := by decide +kernel
theorem dX4_add_26 : decode cX4_add 26 = .ok (.iload_n 1, 1) := by decide +kernel
theorem dX4_add_27 : decode cX4_add 27 = .ok (.iastore, 1) := by decide +kernel
theorem dX4_add_28 : decode cX4_add 28 = .ok (.aload_n 0, 1) := by decide +kernel
theorem dX4_add_29 : decode cX4_add 29 = .ok (.getfield 19, 3) := by decide +kernel
theorem dX4_add_32 : decode cX4_add 32 = .ok (.aload_n 0, 1) := by decide +kernel
theorem dX4_add_33 : decode cX4_add 33 = .ok (.getfield 9, 3) := by decide +kernel
theorem dX4_add_36 : decode cX4_add 36 = .ok (.iload_n 2, 1) := by decide +kernel
theorem dX4_add_37 : decode cX4_add 37 = .ok (.iastore, 1) := by decide +kernel
theorem dX4_add_38 : decode cX4_add 38 = .ok (.aload_n 0, 1) := by decide +kernel
theorem dX4_add_39 : decode cX4_add 39 = .ok (.getfield 22, 3) := by decide +kernel
theorem dX4_add_42 : decode cX4_add 42 = .ok (.aload_n 0, 1) := by decide +kernel
theorem dX4_add_43 : decode cX4_add 43 = .ok (.getfield 9, 3) := by decide +kernel
theorem dX4_add_46 : decode cX4_add 46 = .ok (.iload_n 3, 1) := by decide +kernel
theorem dX4_add_47 : decode cX4_add 47 = .ok (.iastore, 1) := by decide +kernel
theorem dX4_add_48 : decode cX4_add 48 = .ok (.aload_n 0, 1) := by decide +kernel
theorem dX4_add_49 : decode cX4_add 49 = .ok (.dup, 1) := by decide +kernel
theorem dX4_add_50 : decode cX4_add 50 = .ok (.getfield 9, 3) := by decide +kernel
theorem dX4_add_53 : decode cX4_add 53 = .ok (.iconst 1, 1) := by decide +kernel
theorem dX4_add_54 : decode cX4_add 54 = .ok (.iadd, 1) := by decide +kernel
theorem dX4_add_55 : decode cX4_add 55 = .ok (.putfield 9, 3) := by decide +kernel
theorem dX4_add_58 : decode cX4_add 58 = .ok (.iconst 1, 1) := by decide +kernel
theorem dX4_add_59 : decode cX4_add 59 = .ok (.ireturn, 1) := by decide +kernel
set_option maxRecDepth 20000 in
theorem ggX4_isWhole_X4_operandsOf : GoodIn wsX4_isWhole wsX4_operandsOf := goodIn_r _ [6] (by decide +kernel) (by decide +kernel)
set_option maxRecDepth 20000 in
theorem gX4_isWhole_X4_operandsOf : GoodIn wsX4_isWhole (va_wsS RX4 32 yX4_operandsOf wsX4_operandsOf) := goodIn_app (goodIn_of _ (by decide +kernel)) ggX4_isWhole_X4_operandsOf
theorem dX4_isWhole_0 : decode cX4_isWhole 0 = .ok (.iconst 1, 1) := by decide +kernel
theorem dX4_isWhole_1 : decode cX4_isWhole 1 = .ok (.istore_n 1, 1) := by decide +kernel
theorem dX4_isWhole_2 : decode cX4_isWhole 2 = .ok (.iconst 0, 1) := by decide +kernel
theorem dX4_isWhole_3 : decode cX4_isWhole 3 = .ok (.istore_n 2, 1) := by decide +kernel
theorem dX4_isWhole_4 : decode cX4_isWhole 4 = .ok (.iload_n 2, 1) := by decide +kernel
theorem dX4_isWhole_5 : decode cX4_isWhole 5 = .ok (.aload_n 0, 1) := by decide +kernel
theorem dX4_isWhole_6 : decode cX4_isWhole 6 = .ok (.getfield 9, 3) := by decide +kernel
theorem dX4_isWhole_9 : decode cX4_isWhole 9 = .ok (.if_icmp .ge 35, 3) := by decide +kernel
theorem dX4_isWhole_12 : decode cX4_isWhole 12 = .ok (.iload_n 2, 1) := by decide +kernel
theorem dX4_isWhole_13 : decode cX4_isWhole 13 = .ok (.bipush 15, 2) := by decide +kernel
theorem dX4_isWhole_15 : decode cX4_isWhole 15 = .ok (.if_icmp .ge 29, 3) := by decide +kernel
theorem dX4_isWhole_18 : decode cX4_isWhole 18 = .ok (.iload_n 1, 1) := by decide +kernel
theorem dX4_isWhole_19 : decode cX4_isWhole 19 = .ok (.ifCond .ne 5, 3) := by decide +kernel
theorem dX4_isWhole_22 : decode cX4_isWhole 22 = .ok (.iconst 0, 1) := by decide +kernel
theorem dX4_isWhole_23 : decode cX4_isWhole 23 = .ok (.ireturn, 1) := by decide +kernel
theorem dX4_isWhole_24 : decode cX4_isWhole 24 = .ok (.iload_n 1, 1) := by decide +kernel
theorem dX4_isWhole_25 : decode cX4_isWhole 25 = .ok (.aload_n 0, 1) := by decide +kernel
theorem dX4_isWhole_26 : decode cX4_isWhole 26 = .ok (.getfield 15, 3) := by decide +kernel
theorem dX4_isWhole_29 : decode cX4_isWhole 29 = .ok (.iload_n 2, 1) := by decide +kernel
theorem dX4_isWhole_30 : decode cX4_isWhole 30 = .ok (.iaload, 1) := by decide +kernel
theorem dX4_isWhole_31 : decode cX4_isWhole 31 = .ok (.invokestatic 32, 3) := by decide +kernel
theorem dX4_isWhole_34 : decode cX4_isWhole 34 = .ok (.iconst 1, 1) := by decide +kernel
theorem dX4_isWhole_35 : decode cX4_isWhole 35 = .ok (.isub, 1) := by decide +kernel
theorem dX4_isWhole_36 : decode cX4_isWhole 36 = .ok (.iadd, 1) := by decide +kernel
theorem dX4_isWhole_37 : decode cX4_isWhole 37 = .ok (.istore_n 1, 1) := by decide +kernel
theorem dX4_isWhole_38 : decode cX4_isWhole 38 = .ok (.iinc 2 1, 3) := by decide +kernel
theorem dX4_isWhole_41 : decode cX4_isWhole 41 = .ok (.goto (-37), 3) := by decide +kernel
theorem dX4_isWhole_44 : decode cX4_isWhole 44 = .ok (.iload_n 1, 1) := by decide +kernel
theorem dX4_isWhole_45 : decode cX4_isWhole 45 = .ok (.ifCond .ne 7, 3) := by decide +kernel
theorem dX4_isWhole_48 : decode cX4_isWhole 48 = .ok (.iconst 1, 1) := by decide +kernel
theorem dX4_isWhole_49 : decode cX4_isWhole 49 = .ok (.goto 4, 3) := by decide +kernel
theorem dX4_isWhole_52 : decode cX4_isWhole 52 = .ok (.iconst 0, 1) := by decide +kernel
theorem dX4_isWhole_53 : decode cX4_isWhole 53 = .ok (.ireturn, 1) := by decide +kernel
set_option maxRecDepth 20000 in
theorem ggX4_scoreOf_X4_operandsOf : GoodIn wsX4_scoreOf wsX4_operandsOf := goodIn_r _ [12] (by decide +kernel) (by decide +kernel)
set_option maxRecDepth 20000 in
theorem gX4_scoreOf_X4_operandsOf : GoodIn wsX4_scoreOf (va_wsS RX4 32 yX4_operandsOf wsX4_operandsOf) := goodIn_app (goodIn_of _ (by decide +kernel)) ggX4_scoreOf_X4_operandsOf
set_option maxRecDepth 20000 in
theorem ggX4_scoreOf_X4_openLeaf : GoodIn wsX4_scoreOf wsX4_openLeaf := goodIn_r _ [16, 6, 17, 18, 8, 7, 19, 20, 11, 21, 22, 23, 24, 25, 26, 27, 28, 29, 30, 35, 36, 37, 38, 39, 40] (by decide +kernel) (by decide +kernel)
set_option maxRecDepth 20000 in
theorem gX4_scoreOf_X4_openLeaf : GoodIn wsX4_scoreOf (wsV RX4 42 RX4 yX4_openLeaf wsX4_openLeaf) := goodIn_app (goodIn_of _ (by decide +kernel)) ggX4_scoreOf_X4_openLeaf
set_option maxRecDepth 20000 in
theorem ggX4_scoreOf_X4_joinOpen : GoodIn wsX4_scoreOf wsX4_joinOpen := goodIn_r _ [34, 7, 8, 35, 36, 37, 38, 39, 40] (by decide +kernel) (by decide +kernel)
set_option maxRecDepth 20000 in
theorem gX4_scoreOf_X4_joinOpen : GoodIn wsX4_scoreOf (wsV RX4 46 RX4 yX4_joinOpen wsX4_joinOpen) := goodIn_app (goodIn_of _ (by decide +kernel)) ggX4_scoreOf_X4_joinOpen
theorem dX4_scoreOf_0 : decode cX4_scoreOf 0 = .ok (.iconst 0, 1) := by decide +kernel
theorem dX4_scoreOf_1 : decode cX4_scoreOf 1 = .ok (.istore_n 3, 1) := by decide +kernel
theorem dX4_scoreOf_2 : decode cX4_scoreOf 2 = .ok (.aload_n 0, 1) := by decide +kernel
theorem dX4_scoreOf_3 : decode cX4_scoreOf 3 = .ok (.getfield 9, 3) := by decide +kernel
theorem dX4_scoreOf_6 : decode cX4_scoreOf 6 = .ok (.bipush 15, 2) := by decide +kernel
theorem dX4_scoreOf_8 : decode cX4_scoreOf 8 = .ok (.invokestatic 36, 3) := by decide +kernel
theorem dX4_scoreOf_11 : decode cX4_scoreOf 11 = .ok (.iconst 1, 1) := by decide +kernel
theorem dX4_scoreOf_12 : decode cX4_scoreOf 12 = .ok (.isub, 1) := by decide +kernel
theorem dX4_scoreOf_13 : decode cX4_scoreOf 13 = .ok (.istore 4, 2) := by decide +kernel
theorem dX4_scoreOf_15 : decode cX4_scoreOf 15 = .ok (.iload 4, 2) := by decide +kernel
theorem dX4_scoreOf_17 : decode cX4_scoreOf 17 = .ok (.ifCond .lt 77, 3) := by decide +kernel
theorem dX4_scoreOf_20 : decode cX4_scoreOf 20 = .ok (.aload_n 0, 1) := by decide +kernel
theorem dX4_scoreOf_21 : decode cX4_scoreOf 21 = .ok (.getfield 15, 3) := by decide +kernel
theorem dX4_scoreOf_24 : decode cX4_scoreOf 24 = .ok (.iload 4, 2) := by decide +kernel
theorem dX4_scoreOf_26 : decode cX4_scoreOf 26 = .ok (.iaload, 1) := by decide +kernel
theorem dX4_scoreOf_27 : decode cX4_scoreOf 27 = .ok (.invokestatic 32, 3) := by decide +kernel
theorem dX4_scoreOf_30 : decode cX4_scoreOf 30 = .ok (.istore 5, 2) := by decide +kernel
theorem dX4_scoreOf_32 : decode cX4_scoreOf 32 = .ok (.iload_n 3, 1) := by decide +kernel
theorem dX4_scoreOf_33 : decode cX4_scoreOf 33 = .ok (.iload 5, 2) := by decide +kernel
theorem dX4_scoreOf_35 : decode cX4_scoreOf 35 = .ok (.if_icmp .lt 12, 3) := by decide +kernel
theorem dX4_scoreOf_38 : decode cX4_scoreOf 38 = .ok (.iload_n 3, 1) := by decide +kernel
theorem dX4_scoreOf_39 : decode cX4_scoreOf 39 = .ok (.iload 5, 2) := by decide +kernel
theorem dX4_scoreOf_41 : decode cX4_scoreOf 41 = .ok (.isub, 1) := by decide +kernel
theorem dX4_scoreOf_42 : decode cX4_scoreOf 42 = .ok (.bipush 15, 2) := by decide +kernel
theorem dX4_scoreOf_44 : decode cX4_scoreOf 44 = .ok (.if_icmp .lt 5, 3) := by decide +kernel
theorem dX4_scoreOf_47 : decode cX4_scoreOf 47 = .ok (.iconst (-1), 1) := by decide +kernel
theorem dX4_scoreOf_48 : decode cX4_scoreOf 48 = .ok (.ireturn, 1) := by decide +kernel
theorem dX4_scoreOf_49 : decode cX4_scoreOf 49 = .ok (.iload_n 3, 1) := by decide +kernel
theorem dX4_scoreOf_50 : decode cX4_scoreOf 50 = .ok (.iload 5, 2) := by decide +kernel
theorem dX4_scoreOf_52 : decode cX4_scoreOf 52 = .ok (.isub, 1) := by decide +kernel
theorem dX4_scoreOf_53 : decode cX4_scoreOf 53 = .ok (.iconst 1, 1) := by decide +kernel
theorem dX4_scoreOf_54 : decode cX4_scoreOf 54 = .ok (.iadd, 1) := by decide +kernel
theorem dX4_scoreOf_55 : decode cX4_scoreOf 55 = .ok (.istore_n 3, 1) := by decide +kernel
theorem dX4_scoreOf_56 : decode cX4_scoreOf 56 = .ok (.iload 5, 2) := by decide +kernel
theorem dX4_scoreOf_58 : decode cX4_scoreOf 58 = .ok (.ifCond .ne 16, 3) := by decide +kernel
theorem dX4_scoreOf_61 : decode cX4_scoreOf 61 = .ok (.aload_n 0, 1) := by decide +kernel
theorem dX4_scoreOf_62 : decode cX4_scoreOf 62 = .ok (.iload 4, 2) := by decide +kernel
theorem dX4_scoreOf_64 : decode cX4_scoreOf 64 = .ok (.iload_n 3, 1) := by decide +kernel
theorem dX4_scoreOf_65 : decode cX4_scoreOf 65 = .ok (.iconst 1, 1) := by decide +kernel
theorem dX4_scoreOf_66 : decode cX4_scoreOf 66 = .ok (.isub, 1) := by decide +kernel
theorem dX4_scoreOf_67 : decode cX4_scoreOf 67 = .ok (.lload_n 1, 1) := by decide +kernel
theorem dX4_scoreOf_68 : decode cX4_scoreOf 68 = .ok (.invokevirtual 42, 3) := by decide +kernel
theorem dX4_scoreOf_71 : decode cX4_scoreOf 71 = .ok (.goto 17, 3) := by decide +kernel
theorem dX4_scoreOf_74 : decode cX4_scoreOf 74 = .ok (.aload_n 0, 1) := by decide +kernel
theorem dX4_scoreOf_75 : decode cX4_scoreOf 75 = .ok (.aload_n 0, 1) := by decide +kernel
theorem dX4_scoreOf_76 : decode cX4_scoreOf 76 = .ok (.getfield 15, 3) := by decide +kernel
theorem dX4_scoreOf_79 : decode cX4_scoreOf 79 = .ok (.iload 4, 2) := by decide +kernel
theorem dX4_scoreOf_81 : decode cX4_scoreOf 81 = .ok (.iaload, 1) := by decide +kernel
theorem dX4_scoreOf_82 : decode cX4_scoreOf 82 = .ok (.iload_n 3, 1) := by decide +kernel
theorem dX4_scoreOf_83 : decode cX4_scoreOf 83 = .ok (.iconst 1, 1) := by decide +kernel
theorem dX4_scoreOf_84 : decode cX4_scoreOf 84 = .ok (.isub, 1) := by decide +kernel
theorem dX4_scoreOf_85 : decode cX4_scoreOf 85 = .ok (.invokevirtual 46, 3) := by decide +kernel
theorem dX4_scoreOf_88 : decode cX4_scoreOf 88 = .ok (.iinc 4 (-1), 3) := by decide +kernel
theorem dX4_scoreOf_91 : decode cX4_scoreOf 91 = .ok (.goto (-76), 3) := by decide +kernel
theorem dX4_scoreOf_94 : decode cX4_scoreOf 94 = .ok (.iload_n 3, 1) := by decide +kernel
theorem dX4_scoreOf_95 : decode cX4_scoreOf 95 = .ok (.iconst 1, 1) := by decide +kernel
theorem dX4_scoreOf_96 : decode cX4_scoreOf 96 = .ok (.if_icmp .ne 21, 3) := by decide +kernel
theorem dX4_scoreOf_99 : decode cX4_scoreOf 99 = .ok (.aload_n 0, 1) := by decide +kernel
theorem dX4_scoreOf_100 : decode cX4_scoreOf 100 = .ok (.getfield 25, 3) := by decide +kernel
theorem dX4_scoreOf_103 : decode cX4_scoreOf 103 = .ok (.iconst 0, 1) := by decide +kernel
theorem dX4_scoreOf_104 : decode cX4_scoreOf 104 = .ok (.baload, 1) := by decide +kernel
theorem dX4_scoreOf_105 : decode cX4_scoreOf 105 = .ok (.ifCond .eq 12, 3) := by decide +kernel
theorem dX4_scoreOf_108 : decode cX4_scoreOf 108 = .ok (.aload_n 0, 1) := by decide +kernel
theorem dX4_scoreOf_109 : decode cX4_scoreOf 109 = .ok (.getfield 29, 3) := by decide +kernel
theorem dX4_scoreOf_112 : decode cX4_scoreOf 112 = .ok (.iconst 0, 1) := by decide +kernel
theorem dX4_scoreOf_113 : decode cX4_scoreOf 113 = .ok (.iaload, 1) := by decide +kernel
theorem dX4_scoreOf_114 : decode cX4_scoreOf 114 = .ok (.goto 4, 3) := by decide +kernel
theorem dX4_scoreOf_117 : decode cX4_scoreOf 117 = .ok (.iconst (-1), 1) := by decide +kernel
theorem dX4_scoreOf_118 : decode cX4_scoreOf 118 = .ok (.ireturn, 1) := by decide +kernel
theorem dX4_operandsOf_0 : decode cX4_operandsOf 0 = .ok (.iload_n 0, 1) := by decide +kernel
theorem dX4_operandsOf_1 : decode cX4_operandsOf 1 = .ok (.iconst 4, 1) := by decide +kernel
theorem dX4_operandsOf_2 : decode cX4_operandsOf 2 = .ok (.if_icmp .eq 8, 3) := by decide +kernel
theorem dX4_operandsOf_5 : decode cX4_operandsOf 5 = .ok (.iload_n 0, 1) := by decide +kernel
theorem dX4_operandsOf_6 : decode cX4_operandsOf 6 = .ok (.iconst 5, 1) := by decide +kernel
theorem dX4_operandsOf_7 : decode cX4_operandsOf 7 = .ok (.if_icmp .ne 5, 3) := by decide +kernel
theorem dX4_operandsOf_10 : decode cX4_operandsOf 10 = .ok (.iconst 2, 1) := by decide +kernel
theorem dX4_operandsOf_11 : decode cX4_operandsOf 11 = .ok (.ireturn, 1) := by decide +kernel
theorem dX4_operandsOf_12 : decode cX4_operandsOf 12 = .ok (.iload_n 0, 1) := by decide +kernel
theorem dX4_operandsOf_13 : decode cX4_operandsOf 13 = .ok (.bipush 6, 2) := by decide +kernel
theorem dX4_operandsOf_15 : decode cX4_operandsOf 15 = .ok (.if_icmp .ne 7, 3) := by decide +kernel
theorem dX4_operandsOf_18 : decode cX4_operandsOf 18 = .ok (.iconst 1, 1) := by decide +kernel
theorem dX4_operandsOf_19 : decode cX4_operandsOf 19 = .ok (.goto 4, 3) := by decide +kernel
theorem dX4_operandsOf_22 : decode cX4_operandsOf 22 = .ok (.iconst 0, 1) := by decide +kernel
theorem dX4_operandsOf_23 : decode cX4_operandsOf 23 = .ok (.ireturn, 1) := by decide +kernel
set_option maxRecDepth 20000 in
theorem ggX4_openLeaf_X4_leafScore : GoodIn wsX4_openLeaf wsX4_leafScore := goodIn_r _ [9, 10, 11, 8, 12, 13, 14, 15, 16, 17, 18] (by decide +kernel) (by decide +kernel)
set_option maxRecDepth 20000 in
theorem gX4_openLeaf_X4_leafScore : GoodIn wsX4_openLeaf (va_wsS RX4 50 yX4_leafScore wsX4_leafScore) := goodIn_app (goodIn_of _ (by decide +kernel)) ggX4_openLeaf_X4_leafScore
theorem dX4_openLeaf_0 : decode cX4_openLeaf 0 = .ok (.aload_n 0, 1) := by decide +kernel
theorem dX4_openLeaf_1 : decode cX4_openLeaf 1 = .ok (.getfield 15, 3) := by decide +kernel
theorem dX4_openLeaf_4 : decode cX4_openLeaf 4 = .ok (.iload_n 1, 1) := by decide +kernel
theorem dX4_openLeaf_5 : decode cX4_openLeaf 5 = .ok (.iaload, 1) := by decide +kernel
theorem dX4_openLeaf_6 : decode cX4_openLeaf 6 = .ok (.aload_n 0, 1) := by decide +kernel
theorem dX4_openLeaf_7 : decode cX4_openLeaf 7 = .ok (.getfield 19, 3) := by decide +kernel
theorem dX4_openLeaf_10 : decode cX4_openLeaf 10 = .ok (.iload_n 1, 1) := by decide +kernel
theorem dX4_openLeaf_11 : decode cX4_openLeaf 11 = .ok (.iaload, 1) := by decide +kernel
theorem dX4_openLeaf_12 : decode cX4_openLeaf 12 = .ok (.aload_n 0, 1) := by decide +kernel
theorem dX4_openLeaf_13 : decode cX4_openLeaf 13 = .ok (.getfield 22, 3) := by decide +kernel
theorem dX4_openLeaf_16 : decode cX4_openLeaf 16 = .ok (.iload_n 1, 1) := by decide +kernel
theorem dX4_openLeaf_17 : decode cX4_openLeaf 17 = .ok (.iaload, 1) := by decide +kernel
theorem dX4_openLeaf_18 : decode cX4_openLeaf 18 = .ok (.lload_n 3, 1) := by decide +kernel
theorem dX4_openLeaf_19 : decode cX4_openLeaf 19 = .ok (.invokestatic 50, 3) := by decide +kernel
theorem dX4_openLeaf_22 : decode cX4_openLeaf 22 = .ok (.istore 5, 2) := by decide +kernel
theorem dX4_openLeaf_24 : decode cX4_openLeaf 24 = .ok (.aload_n 0, 1) := by decide +kernel
theorem dX4_openLeaf_25 : decode cX4_openLeaf 25 = .ok (.getfield 29, 3) := by decide +kernel
theorem dX4_openLeaf_28 : decode cX4_openLeaf 28 = .ok (.iload_n 2, 1) := by decide +kernel
theorem dX4_openLeaf_29 : decode cX4_openLeaf 29 = .ok (.iload 5, 2) := by decide +kernel
theorem dX4_openLeaf_31 : decode cX4_openLeaf 31 = .ok (.iastore, 1) := by decide +kernel
theorem dX4_openLeaf_32 : decode cX4_openLeaf 32 = .ok (.aload_n 0, 1) := by decide +kernel
theorem dX4_openLeaf_33 : decode cX4_openLeaf 33 = .ok (.getfield 25, 3) := by decide +kernel
theorem dX4_openLeaf_36 : decode cX4_openLeaf 36 = .ok (.iload_n 2, 1) := by decide +kernel
theorem dX4_openLeaf_37 : decode cX4_openLeaf 37 = .ok (.iload 5, 2) := by decide +kernel
theorem dX4_openLeaf_39 : decode cX4_openLeaf 39 = .ok (.ifCond .le 7, 3) := by decide +kernel
theorem dX4_openLeaf_42 : decode cX4_openLeaf 42 = .ok (.iconst 1, 1) := by decide +kernel
theorem dX4_openLeaf_43 : decode cX4_openLeaf 43 = .ok (.goto 4, 3) := by decide +kernel
theorem dX4_openLeaf_46 : decode cX4_openLeaf 46 = .ok (.iconst 0, 1) := by decide +kernel
theorem dX4_openLeaf_47 : decode cX4_openLeaf 47 = .ok (.bastore, 1) := by decide +kernel
theorem dX4_openLeaf_48 : decode cX4_openLeaf 48 = .ok (.return_, 1) := by decide +kernel
theorem dX4_joinOpen_0 : decode cX4_joinOpen 0 = .ok (.iload_n 1, 1) := by decide +kernel
theorem dX4_joinOpen_1 : decode cX4_joinOpen 1 = .ok (.bipush 6, 2) := by decide +kernel
theorem dX4_joinOpen_3 : decode cX4_joinOpen 3 = .ok (.if_icmp .ne 31, 3) := by decide +kernel
theorem dX4_joinOpen_6 : decode cX4_joinOpen 6 = .ok (.aload_n 0, 1) := by decide +kernel
theorem dX4_joinOpen_7 : decode cX4_joinOpen 7 = .ok (.getfield 25, 3) := by decide +kernel
theorem dX4_joinOpen_10 : decode cX4_joinOpen 10 = .ok (.iload_n 2, 1) := by decide +kernel
theorem dX4_joinOpen_11 : decode cX4_joinOpen 11 = .ok (.aload_n 0, 1) := by decide +kernel
theorem dX4_joinOpen_12 : decode cX4_joinOpen 12 = .ok (.getfield 25, 3) := by decide +kernel
theorem dX4_joinOpen_15 : decode cX4_joinOpen 15 = .ok (.iload_n 2, 1) := by decide +kernel
theorem dX4_joinOpen_16 : decode cX4_joinOpen 16 = .ok (.baload, 1) := by decide +kernel
theorem dX4_joinOpen_17 : decode cX4_joinOpen 17 = .ok (.ifCond .ne 7, 3) := by decide +kernel
theorem dX4_joinOpen_20 : decode cX4_joinOpen 20 = .ok (.iconst 1, 1) := by decide +kernel
theorem dX4_joinOpen_21 : decode cX4_joinOpen 21 = .ok (.goto 4, 3) := by decide +kernel
theorem dX4_joinOpen_24 : decode cX4_joinOpen 24 = .ok (.iconst 0, 1) := by decide +kernel
theorem dX4_joinOpen_25 : decode cX4_joinOpen 25 = .ok (.bastore, 1) := by decide +kernel
theorem dX4_joinOpen_26 : decode cX4_joinOpen 26 = .ok (.aload_n 0, 1) := by decide +kernel
theorem dX4_joinOpen_27 : decode cX4_joinOpen 27 = .ok (.getfield 29, 3) := by decide +kernel
theorem dX4_joinOpen_30 : decode cX4_joinOpen 30 = .ok (.iload_n 2, 1) := by decide +kernel
theorem dX4_joinOpen_31 : decode cX4_joinOpen 31 = .ok (.iconst 0, 1) := by decide +kernel
theorem dX4_joinOpen_32 : decode cX4_joinOpen 32 = .ok (.iastore, 1) := by decide +kernel
theorem dX4_joinOpen_33 : decode cX4_joinOpen 33 = .ok (.return_, 1) := by decide +kernel
theorem dX4_joinOpen_34 : decode cX4_joinOpen 34 = .ok (.iload_n 2, 1) := by decide +kernel
theorem dX4_joinOpen_35 : decode cX4_joinOpen 35 = .ok (.iconst 1, 1) := by decide +kernel
theorem dX4_joinOpen_36 : decode cX4_joinOpen 36 = .ok (.iadd, 1) := by decide +kernel
theorem dX4_joinOpen_37 : decode cX4_joinOpen 37 = .ok (.bipush 15, 2) := by decide +kernel
theorem dX4_joinOpen_39 : decode cX4_joinOpen 39 = .ok (.if_icmp .lt 4, 3) := by decide +kernel
theorem dX4_joinOpen_42 : decode cX4_joinOpen 42 = .ok (.return_, 1) := by decide +kernel
theorem dX4_joinOpen_43 : decode cX4_joinOpen 43 = .ok (.aload_n 0, 1) := by decide +kernel
theorem dX4_joinOpen_44 : decode cX4_joinOpen 44 = .ok (.getfield 25, 3) := by decide +kernel
theorem dX4_joinOpen_47 : decode cX4_joinOpen 47 = .ok (.iload_n 2, 1) := by decide +kernel
theorem dX4_joinOpen_48 : decode cX4_joinOpen 48 = .ok (.baload, 1) := by decide +kernel
theorem dX4_joinOpen_49 : decode cX4_joinOpen 49 = .ok (.istore_n 3, 1) := by decide +kernel
theorem dX4_joinOpen_50 : decode cX4_joinOpen 50 = .ok (.aload_n 0, 1) := by decide +kernel
theorem dX4_joinOpen_51 : decode cX4_joinOpen 51 = .ok (.getfield 25, 3) := by decide +kernel
theorem dX4_joinOpen_54 : decode cX4_joinOpen 54 = .ok (.iload_n 2, 1) := by decide +kernel
theorem dX4_joinOpen_55 : decode cX4_joinOpen 55 = .ok (.iconst 1, 1) := by decide +kernel
theorem dX4_joinOpen_56 : decode cX4_joinOpen 56 = .ok (.iadd, 1) := by decide +kernel
theorem dX4_joinOpen_57 : decode cX4_joinOpen 57 = .ok (.baload, 1) := by decide +kernel
theorem dX4_joinOpen_58 : decode cX4_joinOpen 58 = .ok (.istore 4, 2) := by decide +kernel
theorem dX4_joinOpen_60 : decode cX4_joinOpen 60 = .ok (.aload_n 0, 1) := by decide +kernel
theorem dX4_joinOpen_61 : decode cX4_joinOpen 61 = .ok (.getfield 25, 3) := by decide +kernel
theorem dX4_joinOpen_64 : decode cX4_joinOpen 64 = .ok (.iload_n 2, 1) := by decide +kernel
theorem dX4_joinOpen_65 : decode cX4_joinOpen 65 = .ok (.iload_n 1, 1) := by decide +kernel
theorem dX4_joinOpen_66 : decode cX4_joinOpen 66 = .ok (.iconst 4, 1) := by decide +kernel
theorem dX4_joinOpen_67 : decode cX4_joinOpen 67 = .ok (.if_icmp .ne 20, 3) := by decide +kernel
theorem dX4_joinOpen_70 : decode cX4_joinOpen 70 = .ok (.iload_n 3, 1) := by decide +kernel
theorem dX4_joinOpen_71 : decode cX4_joinOpen 71 = .ok (.ifCond .eq 12, 3) := by decide +kernel
theorem dX4_joinOpen_74 : decode cX4_joinOpen 74 = .ok (.iload 4, 2) := by decide +kernel
theorem dX4_joinOpen_76 : decode cX4_joinOpen 76 = .ok (.ifCond .eq 7, 3) := by decide +kernel
theorem dX4_joinOpen_79 : decode cX4_joinOpen 79 = .ok (.iconst 1, 1) := by decide +kernel
theorem dX4_joinOpen_80 : decode cX4_joinOpen 80 = .ok (.goto 21, 3) := by decide +kernel
theorem dX4_joinOpen_83 : decode cX4_joinOpen 83 = .ok (.iconst 0, 1) := by decide +kernel
theorem dX4_joinOpen_84 : decode cX4_joinOpen 84 = .ok (.goto 17, 3) := by decide +kernel
theorem dX4_joinOpen_87 : decode cX4_joinOpen 87 = .ok (.iload_n 3, 1) := by decide +kernel
theorem dX4_joinOpen_88 : decode cX4_joinOpen 88 = .ok (.ifCond .ne 8, 3) := by decide +kernel
theorem dX4_joinOpen_91 : decode cX4_joinOpen 91 = .ok (.iload 4, 2) := by decide +kernel
theorem dX4_joinOpen_93 : decode cX4_joinOpen 93 = .ok (.ifCond .eq 7, 3) := by decide +kernel
theorem dX4_joinOpen_96 : decode cX4_joinOpen 96 = .ok (.iconst 1, 1) := by decide +kernel
theorem dX4_joinOpen_97 : decode cX4_joinOpen 97 = .ok (.goto 4, 3) := by decide +kernel
theorem dX4_joinOpen_100 : decode cX4_joinOpen 100 = .ok (.iconst 0, 1) := by decide +kernel
theorem dX4_joinOpen_101 : decode cX4_joinOpen 101 = .ok (.bastore, 1) := by decide +kernel
theorem dX4_joinOpen_102 : decode cX4_joinOpen 102 = .ok (.aload_n 0, 1) := by decide +kernel
theorem dX4_joinOpen_103 : decode cX4_joinOpen 103 = .ok (.getfield 29, 3) := by decide +kernel
theorem dX4_joinOpen_106 : decode cX4_joinOpen 106 = .ok (.iload_n 2, 1) := by decide +kernel
theorem dX4_joinOpen_107 : decode cX4_joinOpen 107 = .ok (.dup2, 1) := by decide +kernel
theorem dX4_joinOpen_108 : decode cX4_joinOpen 108 = .ok (.iaload, 1) := by decide +kernel
theorem dX4_joinOpen_109 : decode cX4_joinOpen 109 = .ok (.aload_n 0, 1) := by decide +kernel
theorem dX4_joinOpen_110 : decode cX4_joinOpen 110 = .ok (.getfield 29, 3) := by decide +kernel
theorem dX4_joinOpen_113 : decode cX4_joinOpen 113 = .ok (.iload_n 2, 1) := by decide +kernel
theorem dX4_joinOpen_114 : decode cX4_joinOpen 114 = .ok (.iconst 1, 1) := by decide +kernel
theorem dX4_joinOpen_115 : decode cX4_joinOpen 115 = .ok (.iadd, 1) := by decide +kernel
theorem dX4_joinOpen_116 : decode cX4_joinOpen 116 = .ok (.iaload, 1) := by decide +kernel
theorem dX4_joinOpen_117 : decode cX4_joinOpen 117 = .ok (.iadd, 1) := by decide +kernel
theorem dX4_joinOpen_118 : decode cX4_joinOpen 118 = .ok (.iastore, 1) := by decide +kernel
theorem dX4_joinOpen_119 : decode cX4_joinOpen 119 = .ok (.return_, 1) := by decide +kernel
set_option maxRecDepth 20000 in
theorem ggX4_leafScore_X4_countWord : GoodIn wsX4_leafScore wsX4_countWord := goodIn_r _ [4, 5, 6, 3, 7] (by decide +kernel) (by decide +kernel)
set_option maxRecDepth 20000 in
theorem gX4_leafScore_X4_countWord : GoodIn wsX4_leafScore (va_wsS RX4 54 yX4_countWord wsX4_countWord) := goodIn_app (goodIn_of _ (by decide +kernel)) ggX4_leafScore_X4_countWord
set_option maxRecDepth 20000 in
theorem ggX4_leafScore_X4_countPhrase : GoodIn wsX4_leafScore wsX4_countPhrase := goodIn_r _ [10, 5, 6, 3, 7] (by decide +kernel) (by decide +kernel)
set_option maxRecDepth 20000 in
theorem gX4_leafScore_X4_countPhrase : GoodIn wsX4_leafScore (va_wsS RX4 58 yX4_countPhrase wsX4_countPhrase) := goodIn_app (goodIn_of _ (by decide +kernel)) ggX4_leafScore_X4_countPhrase
theorem dX4_leafScore_0 : decode cX4_leafScore 0 = .ok (.iload_n 0, 1) := by decide +kernel
theorem dX4_leafScore_1 : decode cX4_leafScore 1 = .ok (.tableswitch 66 0 3 #[31, 33, 39, 48], 31) := by decide +kernel
theorem dX4_leafScore_32 : decode cX4_leafScore 32 = .ok (.iconst 1, 1) := by decide +kernel
theorem dX4_leafScore_33 : decode cX4_leafScore 33 = .ok (.ireturn, 1) := by decide +kernel
theorem dX4_leafScore_34 : decode cX4_leafScore 34 = .ok (.iload_n 1, 1) := by decide +kernel
theorem dX4_leafScore_35 : decode cX4_leafScore 35 = .ok (.lload_n 3, 1) := by decide +kernel
theorem dX4_leafScore_36 : decode cX4_leafScore 36 = .ok (.invokestatic 54, 3) := by decide +kernel
theorem dX4_leafScore_39 : decode cX4_leafScore 39 = .ok (.ireturn, 1) := by decide +kernel
theorem dX4_leafScore_40 : decode cX4_leafScore 40 = .ok (.iconst 2, 1) := by decide +kernel
theorem dX4_leafScore_41 : decode cX4_leafScore 41 = .ok (.iload_n 1, 1) := by decide +kernel
theorem dX4_leafScore_42 : decode cX4_leafScore 42 = .ok (.iload_n 2, 1) := by decide +kernel
theorem dX4_leafScore_43 : decode cX4_leafScore 43 = .ok (.lload_n 3, 1) := by decide +kernel
theorem dX4_leafScore_44 : decode cX4_leafScore 44 = .ok (.invokestatic 58, 3) := by decide +kernel
theorem dX4_leafScore_47 : decode cX4_leafScore 47 = .ok (.imul, 1) := by decide +kernel
theorem dX4_leafScore_48 : decode cX4_leafScore 48 = .ok (.ireturn, 1) := by decide +kernel
theorem dX4_leafScore_49 : decode cX4_leafScore 49 = .ok (.lload_n 3, 1) := by decide +kernel
theorem dX4_leafScore_50 : decode cX4_leafScore 50 = .ok (.l2i, 1) := by decide +kernel
theorem dX4_leafScore_51 : decode cX4_leafScore 51 = .ok (.iload_n 1, 1) := by decide +kernel
theorem dX4_leafScore_52 : decode cX4_leafScore 52 = .ok (.if_icmp .lt 13, 3) := by decide +kernel
theorem dX4_leafScore_55 : decode cX4_leafScore 55 = .ok (.lload_n 3, 1) := by decide +kernel
theorem dX4_leafScore_56 : decode cX4_leafScore 56 = .ok (.l2i, 1) := by decide +kernel
theorem dX4_leafScore_57 : decode cX4_leafScore 57 = .ok (.iload_n 2, 1) := by decide +kernel
theorem dX4_leafScore_58 : decode cX4_leafScore 58 = .ok (.if_icmp .gt 7, 3) := by decide +kernel
theorem dX4_leafScore_61 : decode cX4_leafScore 61 = .ok (.iconst 1, 1) := by decide +kernel
theorem dX4_leafScore_62 : decode cX4_leafScore 62 = .ok (.goto 4, 3) := by decide +kernel
theorem dX4_leafScore_65 : decode cX4_leafScore 65 = .ok (.iconst 0, 1) := by decide +kernel
theorem dX4_leafScore_66 : decode cX4_leafScore 66 = .ok (.ireturn, 1) := by decide +kernel
theorem dX4_leafScore_67 : decode cX4_leafScore 67 = .ok (.iconst 0, 1) := by decide +kernel
theorem dX4_leafScore_68 : decode cX4_leafScore 68 = .ok (.ireturn, 1) := by decide +kernel
theorem dX4_wordAt_0 : decode cX4_wordAt 0 = .ok (.lload_n 1, 1) := by decide +kernel
theorem dX4_wordAt_1 : decode cX4_wordAt 1 = .ok (.bipush 32, 2) := by decide +kernel
theorem dX4_wordAt_3 : decode cX4_wordAt 3 = .ok (.iconst 4, 1) := by decide +kernel
theorem dX4_wordAt_4 : decode cX4_wordAt 4 = .ok (.iload_n 0, 1) := by decide +kernel
theorem dX4_wordAt_5 : decode cX4_wordAt 5 = .ok (.imul, 1) := by decide +kernel
theorem dX4_wordAt_6 : decode cX4_wordAt 6 = .ok (.iadd, 1) := by decide +kernel
theorem dX4_wordAt_7 : decode cX4_wordAt 7 = .ok (.lushr, 1) := by decide +kernel
theorem dX4_wordAt_8 : decode cX4_wordAt 8 = .ok (.l2i, 1) := by decide +kernel
theorem dX4_wordAt_9 : decode cX4_wordAt 9 = .ok (.bipush 15, 2) := by decide +kernel
theorem dX4_wordAt_11 : decode cX4_wordAt 11 = .ok (.iand, 1) := by decide +kernel
theorem dX4_wordAt_12 : decode cX4_wordAt 12 = .ok (.ireturn, 1) := by decide +kernel
set_option maxRecDepth 20000 in
theorem ggX4_countWord_X4_wordAt : GoodIn wsX4_countWord wsX4_wordAt := goodIn_r _ [4] (by decide +kernel) (by decide +kernel)
set_option maxRecDepth 20000 in
theorem gX4_countWord_X4_wordAt : GoodIn wsX4_countWord (va_wsS RX4 62 yX4_wordAt wsX4_wordAt) := goodIn_app (goodIn_of _ (by decide +kernel)) ggX4_countWord_X4_wordAt
theorem dX4_countWord_0 : decode cX4_countWord 0 = .ok (.iconst 0, 1) := by decide +kernel
theorem dX4_countWord_1 : decode cX4_countWord 1 = .ok (.istore_n 3, 1) := by decide +kernel
theorem dX4_countWord_2 : decode cX4_countWord 2 = .ok (.iconst 0, 1) := by decide +kernel
theorem dX4_countWord_3 : decode cX4_countWord 3 = .ok (.istore 4, 2) := by decide +kernel
theorem dX4_countWord_5 : decode cX4_countWord 5 = .ok (.iload 4, 2) := by decide +kernel
theorem dX4_countWord_7 : decode cX4_countWord 7 = .ok (.bipush 8, 2) := by decide +kernel
theorem dX4_countWord_9 : decode cX4_countWord 9 = .ok (.if_icmp .ge 31, 3) := by decide +kernel
theorem dX4_countWord_12 : decode cX4_countWord 12 = .ok (.iload 4, 2) := by decide +kernel
theorem dX4_countWord_14 : decode cX4_countWord 14 = .ok (.lload_n 1, 1) := by decide +kernel
theorem dX4_countWord_15 : decode cX4_countWord 15 = .ok (.invokestatic 62, 3) := by decide +kernel
theorem dX4_countWord_18 : decode cX4_countWord 18 = .ok (.ifCond .eq 22, 3) := by decide +kernel
theorem dX4_countWord_21 : decode cX4_countWord 21 = .ok (.iload 4, 2) := by decide +kernel
theorem dX4_countWord_23 : decode cX4_countWord 23 = .ok (.lload_n 1, 1) := by decide +kernel
theorem dX4_countWord_24 : decode cX4_countWord 24 = .ok (.invokestatic 62, 3) := by decide +kernel
theorem dX4_countWord_27 : decode cX4_countWord 27 = .ok (.iload_n 0, 1) := by decide +kernel
theorem dX4_countWord_28 : decode cX4_countWord 28 = .ok (.if_icmp .ne 6, 3) := by decide +kernel
theorem dX4_countWord_31 : decode cX4_countWord 31 = .ok (.iinc 3 1, 3) := by decide +kernel
theorem dX4_countWord_34 : decode cX4_countWord 34 = .ok (.iinc 4 1, 3) := by decide +kernel
theorem dX4_countWord_37 : decode cX4_countWord 37 = .ok (.goto (-32), 3) := by decide +kernel
theorem dX4_countWord_40 : decode cX4_countWord 40 = .ok (.iload_n 3, 1) := by decide +kernel
theorem dX4_countWord_41 : decode cX4_countWord 41 = .ok (.ireturn, 1) := by decide +kernel
set_option maxRecDepth 20000 in
theorem ggX4_countPhrase_X4_wordAt : GoodIn wsX4_countPhrase wsX4_wordAt := goodIn_r _ [4] (by decide +kernel) (by decide +kernel)
set_option maxRecDepth 20000 in
theorem gX4_countPhrase_X4_wordAt : GoodIn wsX4_countPhrase (va_wsS RX4 62 yX4_wordAt wsX4_wordAt) := goodIn_app (goodIn_of _ (by decide +kernel)) ggX4_countPhrase_X4_wordAt
theorem dX4_countPhrase_0 : decode cX4_countPhrase 0 = .ok (.iconst 0, 1) := by decide +kernel
theorem dX4_countPhrase_1 : decode cX4_countPhrase 1 = .ok (.istore 4, 2) := by decide +kernel
theorem dX4_countPhrase_3 : decode cX4_countPhrase 3 = .ok (.iconst 0, 1) := by decide +kernel
theorem dX4_countPhrase_4 : decode cX4_countPhrase 4 = .ok (.istore 5, 2) := by decide +kernel
theorem dX4_countPhrase_6 : decode cX4_countPhrase 6 = .ok (.iload 5, 2) := by decide +kernel
theorem dX4_countPhrase_8 : decode cX4_countPhrase 8 = .ok (.iconst 1, 1) := by decide +kernel
theorem dX4_countPhrase_9 : decode cX4_countPhrase 9 = .ok (.iadd, 1) := by decide +kernel
theorem dX4_countPhrase_10 : decode cX4_countPhrase 10 = .ok (.bipush 8, 2) := by decide +kernel
theorem dX4_countPhrase_12 : decode cX4_countPhrase 12 = .ok (.if_icmp .ge 43, 3) := by decide +kernel
theorem dX4_countPhrase_15 : decode cX4_countPhrase 15 = .ok (.iload 5, 2) := by decide +kernel
theorem dX4_countPhrase_17 : decode cX4_countPhrase 17 = .ok (.lload_n 2, 1) := by decide +kernel
theorem dX4_countPhrase_18 : decode cX4_countPhrase 18 = .ok (.invokestatic 62, 3) := by decide +kernel
theorem dX4_countPhrase_21 : decode cX4_countPhrase 21 = .ok (.ifCond .eq 34, 3) := by decide +kernel
theorem dX4_countPhrase_24 : decode cX4_countPhrase 24 = .ok (.iload 5, 2) := by decide +kernel
theorem dX4_countPhrase_26 : decode cX4_countPhrase 26 = .ok (.lload_n 2, 1) := by decide +kernel
theorem dX4_countPhrase_27 : decode cX4_countPhrase 27 = .ok (.invokestatic 62, 3) := by decide +kernel
theorem dX4_countPhrase_30 : decode cX4_countPhrase 30 = .ok (.iload_n 0, 1) := by decide +kernel
theorem dX4_countPhrase_31 : decode cX4_countPhrase 31 = .ok (.if_icmp .ne 18, 3) := by decide +kernel
theorem dX4_countPhrase_34 : decode cX4_countPhrase 34 = .ok (.iload 5, 2) := by decide +kernel
theorem dX4_countPhrase_36 : decode cX4_countPhrase 36 = .ok (.iconst 1, 1) := by decide +kernel
theorem dX4_countPhrase_37 : decode cX4_countPhrase 37 = .ok (.iadd, 1) := by decide +kernel
theorem dX4_countPhrase_38 : decode cX4_countPhrase 38 = .ok (.lload_n 2, 1) := by decide +kernel
theorem dX4_countPhrase_39 : decode cX4_countPhrase 39 = .ok (.invokestatic 62, 3) := by decide +kernel
theorem dX4_countPhrase_42 : decode cX4_countPhrase 42 = .ok (.iload_n 1, 1) := by decide +kernel
theorem dX4_countPhrase_43 : decode cX4_countPhrase 43 = .ok (.if_icmp .ne 6, 3) := by decide +kernel
theorem dX4_countPhrase_46 : decode cX4_countPhrase 46 = .ok (.iinc 4 1, 3) := by decide +kernel
theorem dX4_countPhrase_49 : decode cX4_countPhrase 49 = .ok (.iinc 5 1, 3) := by decide +kernel
theorem dX4_countPhrase_52 : decode cX4_countPhrase 52 = .ok (.goto (-46), 3) := by decide +kernel
theorem dX4_countPhrase_55 : decode cX4_countPhrase 55 = .ok (.iload 4, 2) := by decide +kernel
theorem dX4_countPhrase_57 : decode cX4_countPhrase 57 = .ok (.ireturn, 1) := by decide +kernel
set_option maxRecDepth 20000 in
theorem ggX5_init_X1_init : GoodIn wsX5_init wsX1_init := goodIn_r _ [31, 32, 2, 3, 33, 10, 11, 34, 35, 36, 37, 38, 39, 40, 41, 25, 42, 43, 44, 45, 46, 90, 91, 92, 93, 76, 77, 78, 79] (by decide +kernel) (by decide +kernel)
set_option maxRecDepth 20000 in
theorem gX5_init_X1_init_n9 : GoodIn wsX5_init (wsX1_init) := ggX5_init_X1_init
set_option maxRecDepth 20000 in
theorem ggX5_init_X0_init : GoodIn wsX5_init wsX0_init := goodIn_r _ [40, 41, 2, 3, 25, 42, 43, 44, 45, 46, 90, 91, 92, 93] (by decide +kernel) (by decide +kernel)
set_option maxRecDepth 20000 in
theorem gX5_init_X0_init : GoodIn wsX5_init (wsX0_init) := ggX5_init_X0_init
set_option maxRecDepth 20000 in
theorem ggX5_init_X2_init : GoodIn wsX5_init wsX2_init := goodIn_r _ [50, 51, 2, 3, 52, 53, 54, 25, 55, 56, 57, 94, 95, 96, 97, 98, 99] (by decide +kernel) (by decide +kernel)
set_option maxRecDepth 20000 in
theorem gX5_init_X2_init : GoodIn wsX5_init (wsX2_init) := ggX5_init_X2_init
set_option maxRecDepth 20000 in
theorem ggX5_init_X4_init : GoodIn wsX5_init wsX4_init := goodIn_r _ [59, 60, 2, 3, 61, 25, 62, 63, 64, 65, 66, 67, 100, 101, 102, 103, 104, 105] (by decide +kernel) (by decide +kernel)
set_option maxRecDepth 20000 in
theorem gX5_init_X4_init_n35 : GoodIn wsX5_init (wsX4_init) := ggX5_init_X4_init
set_option maxRecDepth 20000 in
theorem ggX5_init_X3_init : GoodIn wsX5_init wsX3_init := goodIn_r _ [69, 70, 2, 3, 71, 72, 73, 74, 75, 106, 107, 108, 109, 110] (by decide +kernel) (by decide +kernel)
set_option maxRecDepth 20000 in
theorem gX5_init_X3_init_n42 : GoodIn wsX5_init (wsX3_init) := ggX5_init_X3_init
theorem dX5_init_0 : decode cX5_init 0 = .ok (.aload_n 0, 1) := by decide +kernel
theorem dX5_init_1 : decode cX5_init 1 = .ok (.invokespecial 1, 3) := by decide +kernel
theorem dX5_init_4 : decode cX5_init 4 = .ok (.aload_n 0, 1) := by decide +kernel
theorem dX5_init_5 : decode cX5_init 5 = .ok (.new 7, 3) := by decide +kernel
theorem dX5_init_8 : decode cX5_init 8 = .ok (.dup, 1) := by decide +kernel
theorem dX5_init_9 : decode cX5_init 9 = .ok (.invokespecial 9, 3) := by decide +kernel
theorem dX5_init_12 : decode cX5_init 12 = .ok (.putfield 10, 3) := by decide +kernel
theorem dX5_init_15 : decode cX5_init 15 = .ok (.aload_n 0, 1) := by decide +kernel
theorem dX5_init_16 : decode cX5_init 16 = .ok (.new 7, 3) := by decide +kernel
theorem dX5_init_19 : decode cX5_init 19 = .ok (.dup, 1) := by decide +kernel
theorem dX5_init_20 : decode cX5_init 20 = .ok (.invokespecial 9, 3) := by decide +kernel
theorem dX5_init_23 : decode cX5_init 23 = .ok (.putfield 16, 3) := by decide +kernel
theorem dX5_init_26 : decode cX5_init 26 = .ok (.aload_n 0, 1) := by decide +kernel
theorem dX5_init_27 : decode cX5_init 27 = .ok (.new 19, 3) := by decide +kernel
theorem dX5_init_30 : decode cX5_init 30 = .ok (.dup, 1) := by decide +kernel
theorem dX5_init_31 : decode cX5_init 31 = .ok (.invokespecial 21, 3) := by decide +kernel
theorem dX5_init_34 : decode cX5_init 34 = .ok (.putfield 22, 3) := by decide +kernel
theorem dX5_init_37 : decode cX5_init 37 = .ok (.aload_n 0, 1) := by decide +kernel
theorem dX5_init_38 : decode cX5_init 38 = .ok (.new 26, 3) := by decide +kernel
theorem dX5_init_41 : decode cX5_init 41 = .ok (.dup, 1) := by decide +kernel
theorem dX5_init_42 : decode cX5_init 42 = .ok (.invokespecial 28, 3) := by decide +kernel
theorem dX5_init_45 : decode cX5_init 45 = .ok (.putfield 29, 3) := by decide +kernel
theorem dX5_init_48 : decode cX5_init 48 = .ok (.aload_n 0, 1) := by decide +kernel
theorem dX5_init_49 : decode cX5_init 49 = .ok (.new 33, 3) := by decide +kernel
theorem dX5_init_52 : decode cX5_init 52 = .ok (.dup, 1) := by decide +kernel
theorem dX5_init_53 : decode cX5_init 53 = .ok (.invokespecial 35, 3) := by decide +kernel
theorem dX5_init_56 : decode cX5_init 56 = .ok (.putfield 36, 3) := by decide +kernel
theorem dX5_init_59 : decode cX5_init 59 = .ok (.aload_n 0, 1) := by decide +kernel
theorem dX5_init_60 : decode cX5_init 60 = .ok (.new 40, 3) := by decide +kernel
theorem dX5_init_63 : decode cX5_init 63 = .ok (.dup, 1) := by decide +kernel
theorem dX5_init_64 : decode cX5_init 64 = .ok (.invokespecial 42, 3) := by decide +kernel
theorem dX5_init_67 : decode cX5_init 67 = .ok (.putfield 43, 3) := by decide +kernel
theorem dX5_init_70 : decode cX5_init 70 = .ok (.aload_n 0, 1) := by decide +kernel
theorem dX5_init_71 : decode cX5_init 71 = .ok (.bipush 16, 2) := by decide +kernel
theorem dX5_init_73 : decode cX5_init 73 = .ok (.newarray .int, 2) := by decide +kernel
theorem dX5_init_75 : decode cX5_init 75 = .ok (.putfield 47, 3) := by decide +kernel
theorem dX5_init_78 : decode cX5_init 78 = .ok (.aload_n 0, 1) := by decide +kernel
theorem dX5_init_79 : decode cX5_init 79 = .ok (.iconst (-1), 1) := by decide +kernel
theorem dX5_init_80 : decode cX5_init 80 = .ok (.putfield 51, 3) := by decide +kernel
theorem dX5_init_83 : decode cX5_init 83 = .ok (.aload_n 0, 1) := by decide +kernel
theorem dX5_init_84 : decode cX5_init 84 = .ok (.iconst 0, 1) := by decide +kernel
theorem dX5_init_85 : decode cX5_init 85 = .ok (.putfield 55, 3) := by decide +kernel
theorem dX5_init_88 : decode cX5_init 88 = .ok (.aload_n 0, 1) := by decide +kernel
theorem dX5_init_89 : decode cX5_init 89 = .ok (.iconst 0, 1) := by decide +kernel
theorem dX5_init_90 : decode cX5_init 90 = .ok (.putfield 58, 3) := by decide +kernel
theorem dX5_init_93 : decode cX5_init 93 = .ok (.return_, 1) := by decide +kernel
set_option maxRecDepth 20000 in
theorem ggX5_write_X5_isId : GoodIn wsX5_write wsX5_isId := goodIn_r _ [12] (by decide +kernel) (by decide +kernel)
set_option maxRecDepth 20000 in
theorem gX5_write_X5_isId : GoodIn wsX5_write (va_wsS RX5 62 yX5_isId wsX5_isId) := goodIn_app (goodIn_of _ (by decide +kernel)) ggX5_write_X5_isId
set_option maxRecDepth 20000 in
theorem ggX5_write_X5_holds : GoodIn wsX5_write wsX5_holds := goodIn_r _ [16, 2, 6, 17, 18, 19, 20, 21, 22, 23, 24, 25, 26, 10, 11, 12, 27, 28, 29, 30, 31, 125, 126, 127, 128, 129, 130, 131, 132, 133, 134, 135, 136, 137, 138, 139, 140, 141, 142] (by decide +kernel) (by decide +kernel)
set_option maxRecDepth 20000 in
theorem gX5_write_X5_holds : GoodIn wsX5_write (wsV RX5 66 RX5 yX5_holds wsX5_holds) := goodIn_app (goodIn_of _ (by decide +kernel)) ggX5_write_X5_holds
set_option maxRecDepth 20000 in
theorem ggX5_write_X2_room : GoodIn wsX5_write wsX2_room := goodIn_r _ [36, 37, 38, 39, 40, 35, 41, 42, 43, 44, 45, 143, 144, 145, 146, 147, 148] (by decide +kernel) (by decide +kernel)
set_option maxRecDepth 20000 in
theorem gX5_write_X2_room : GoodIn wsX5_write (wsV RX5 73 RX2 yX2_room wsX2_room) := goodIn_app (goodIn_of _ (by decide +kernel)) ggX5_write_X2_room
set_option maxRecDepth 20000 in
theorem ggX5_write_X5_sizeOf : GoodIn wsX5_write wsX5_sizeOf := goodIn_r _ [48] (by decide +kernel) (by decide +kernel)
set_option maxRecDepth 20000 in
theorem gX5_write_X5_sizeOf : GoodIn wsX5_write (va_wsS RX5 77 yX5_sizeOf wsX5_sizeOf) := goodIn_app (goodIn_of _ (by decide +kernel)) ggX5_write_X5_sizeOf
set_option maxRecDepth 20000 in
theorem ggX5_write_X0_versionOf : GoodIn wsX5_write wsX0_versionOf := goodIn_r _ [52, 53, 10, 11, 12, 139, 140, 141, 142] (by decide +kernel) (by decide +kernel)
set_option maxRecDepth 20000 in
theorem gX5_write_X0_versionOf : GoodIn wsX5_write (wsV RX5 87 RX0 yX0_versionOf wsX0_versionOf) := goodIn_app (goodIn_of _ (by decide +kernel)) ggX5_write_X0_versionOf
set_option maxRecDepth 20000 in
theorem ggX5_write_X3_become : GoodIn wsX5_write wsX3_become := goodIn_r _ [58, 59, 60, 61, 62, 63, 149, 150, 151, 152, 153] (by decide +kernel) (by decide +kernel)
set_option maxRecDepth 20000 in
theorem gX5_write_X3_become : GoodIn wsX5_write (wsV RX5 91 RX3 yX3_become wsX3_become) := goodIn_app (goodIn_of _ (by decide +kernel)) ggX5_write_X3_become
set_option maxRecDepth 20000 in
theorem ggX5_write_X5_append : GoodIn wsX5_write wsX5_append := goodIn_r _ [67, 4, 8, 2, 68, 69, 70, 35, 71, 37, 72, 73, 74, 75, 76, 38, 39, 40, 41, 42, 43, 44, 45, 47, 11, 48, 77, 78, 79, 80, 81, 82, 83, 84, 85, 86, 87, 88, 89, 90, 91, 92, 93, 94, 95, 96, 97, 98, 99, 100, 101, 102, 103, 104, 105, 106, 107, 108, 109, 110, 111, 112, 113, 114, 115, 116, 117, 20, 118, 119, 120, 121, 31, 26, 53, 122, 123, 124, 10, 12, 125, 126, 127, 128, 129, 130, 131, 132, 133, 134, 143, 144, 145, 146, 147, 148, 149, 150, 151, 152, 153, 135, 136, 137, 138, 139, 140, 141, 142] (by decide +kernel) (by decide +kernel)
set_option maxRecDepth 20000 in
theorem gX5_write_X5_append : GoodIn wsX5_write (wsV RX5 95 RX5 yX5_append wsX5_append) := goodIn_app (goodIn_of _ (by decide +kernel)) ggX5_write_X5_append
theorem dX5_write_0 : decode cX5_write 0 = .ok (.aload_n 0, 1) := by decide +kernel
theorem dX5_write_1 : decode cX5_write 1 = .ok (.getfield 58, 3) := by decide +kernel
theorem dX5_write_4 : decode cX5_write 4 = .ok (.ifCond .eq 6, 3) := by decide +kernel
theorem dX5_write_7 : decode cX5_write 7 = .ok (.bipush (-4), 2) := by decide +kernel
theorem dX5_write_9 : decode cX5_write 9 = .ok (.ireturn, 1) := by decide +kernel
theorem dX5_write_10 : decode cX5_write 10 = .ok (.iload_n 1, 1) := by decide +kernel
theorem dX5_write_11 : decode cX5_write 11 = .ok (.iconst 1, 1) := by decide +kernel
theorem dX5_write_12 : decode cX5_write 12 = .ok (.if_icmp .eq 8, 3) := by decide +kernel
theorem dX5_write_15 : decode cX5_write 15 = .ok (.iload_n 1, 1) := by decide +kernel
theorem dX5_write_16 : decode cX5_write 16 = .ok (.iconst 2, 1) := by decide +kernel
theorem dX5_write_17 : decode cX5_write 17 = .ok (.if_icmp .ne 17, 3) := by decide +kernel
theorem dX5_write_20 : decode cX5_write 20 = .ok (.iload_n 2, 1) := by decide +kernel
theorem dX5_write_21 : decode cX5_write 21 = .ok (.invokestatic 62, 3) := by decide +kernel
theorem dX5_write_24 : decode cX5_write 24 = .ok (.ifCond .eq 10, 3) := by decide +kernel
theorem dX5_write_27 : decode cX5_write 27 = .ok (.iload 5, 2) := by decide +kernel
theorem dX5_write_29 : decode cX5_write 29 = .ok (.bipush (-2), 2) := by decide +kernel
theorem dX5_write_31 : decode cX5_write 31 = .ok (.if_icmp .ge 5, 3) := by decide +kernel
theorem dX5_write_34 : decode cX5_write 34 = .ok (.iconst (-1), 1) := by decide +kernel
theorem dX5_write_35 : decode cX5_write 35 = .ok (.ireturn, 1) := by decide +kernel
theorem dX5_write_36 : decode cX5_write 36 = .ok (.aload_n 0, 1) := by decide +kernel
theorem dX5_write_37 : decode cX5_write 37 = .ok (.iload_n 2, 1) := by decide +kernel
theorem dX5_write_38 : decode cX5_write 38 = .ok (.iload 5, 2) := by decide +kernel
theorem dX5_write_40 : decode cX5_write 40 = .ok (.invokevirtual 66, 3) := by decide +kernel
theorem dX5_write_43 : decode cX5_write 43 = .ok (.ifCond .ne 6, 3) := by decide +kernel
theorem dX5_write_46 : decode cX5_write 46 = .ok (.bipush (-2), 2) := by decide +kernel
theorem dX5_write_48 : decode cX5_write 48 = .ok (.ireturn, 1) := by decide +kernel
theorem dX5_write_49 : decode cX5_write 49 = .ok (.aload_n 0, 1) := by decide +kernel
theorem dX5_write_50 : decode cX5_write 50 = .ok (.getfield 10, 3) := by decide +kernel
theorem dX5_write_53 : decode cX5_write 53 = .ok (.getfield 70, 3) := by decide +kernel
theorem dX5_write_56 : decode cX5_write 56 = .ok (.iconst 1, 1) := by decide +kernel
theorem dX5_write_57 : decode cX5_write 57 = .ok (.iadd, 1) := by decide +kernel
theorem dX5_write_58 : decode cX5_write 58 = .ok (.istore 6, 2) := by decide +kernel
theorem dX5_write_60 : decode cX5_write 60 = .ok (.aload_n 0, 1) := by decide +kernel
theorem dX5_write_61 : decode cX5_write 61 = .ok (.getfield 29, 3) := by decide +kernel
theorem dX5_write_64 : decode cX5_write 64 = .ok (.invokevirtual 73, 3) := by decide +kernel
theorem dX5_write_67 : decode cX5_write 67 = .ok (.iload_n 1, 1) := by decide +kernel
theorem dX5_write_68 : decode cX5_write 68 = .ok (.invokestatic 77, 3) := by decide +kernel
theorem dX5_write_71 : decode cX5_write 71 = .ok (.if_icmp .lt 18, 3) := by decide +kernel
theorem dX5_write_74 : decode cX5_write 74 = .ok (.iload 6, 2) := by decide +kernel
theorem dX5_write_76 : decode cX5_write 76 = .ok (.aload_n 0, 1) := by decide +kernel
theorem dX5_write_77 : decode cX5_write 77 = .ok (.getfield 10, 3) := by decide +kernel
theorem dX5_write_80 : decode cX5_write 80 = .ok (.getfield 81, 3) := by decide +kernel
theorem dX5_write_83 : decode cX5_write 83 = .ok (.bipush 64, 2) := by decide +kernel
theorem dX5_write_85 : decode cX5_write 85 = .ok (.iadd, 1) := by decide +kernel
theorem dX5_write_86 : decode cX5_write 86 = .ok (.if_icmp .le 6, 3) := by decide +kernel
theorem dX5_write_89 : decode cX5_write 89 = .ok (.bipush (-3), 2) := by decide +kernel
theorem dX5_write_91 : decode cX5_write 91 = .ok (.ireturn, 1) := by decide +kernel
theorem dX5_write_92 : decode cX5_write 92 = .ok (.aload_n 0, 1) := by decide +kernel
theorem dX5_write_93 : decode cX5_write 93 = .ok (.getfield 10, 3) := by decide +kernel
theorem dX5_write_96 : decode cX5_write 96 = .ok (.getfield 84, 3) := by decide +kernel
theorem dX5_write_99 : decode cX5_write 99 = .ok (.iload_n 2, 1) := by decide +kernel
theorem dX5_write_100 : decode cX5_write 100 = .ok (.invokevirtual 87, 3) := by decide +kernel
theorem dX5_write_103 : decode cX5_write 103 = .ok (.iconst 1, 1) := by decide +kernel
theorem dX5_write_104 : decode cX5_write 104 = .ok (.iadd, 1) := by decide +kernel
theorem dX5_write_105 : decode cX5_write 105 = .ok (.ldc 90, 2) := by decide +kernel
theorem dX5_write_107 : decode cX5_write 107 = .ok (.iand, 1) := by decide +kernel
theorem dX5_write_108 : decode cX5_write 108 = .ok (.istore 7, 2) := by decide +kernel
theorem dX5_write_110 : decode cX5_write 110 = .ok (.aload_n 0, 1) := by decide +kernel
theorem dX5_write_111 : decode cX5_write 111 = .ok (.getfield 43, 3) := by decide +kernel
theorem dX5_write_114 : decode cX5_write 114 = .ok (.iload_n 1, 1) := by decide +kernel
theorem dX5_write_115 : decode cX5_write 115 = .ok (.iload 6, 2) := by decide +kernel
theorem dX5_write_117 : decode cX5_write 117 = .ok (.iload_n 2, 1) := by decide +kernel
theorem dX5_write_118 : decode cX5_write 118 = .ok (.iload 7, 2) := by decide +kernel
theorem dX5_write_120 : decode cX5_write 120 = .ok (.lload_n 3, 1) := by decide +kernel
theorem dX5_write_121 : decode cX5_write 121 = .ok (.invokevirtual 91, 3) := by decide +kernel
theorem dX5_write_124 : decode cX5_write 124 = .ok (.aload_n 0, 1) := by decide +kernel
theorem dX5_write_125 : decode cX5_write 125 = .ok (.invokevirtual 95, 3) := by decide +kernel
theorem dX5_write_128 : decode cX5_write 128 = .ok (.pop, 1) := by decide +kernel
theorem dX5_write_129 : decode cX5_write 129 = .ok (.iload 6, 2) := by decide +kernel
theorem dX5_write_131 : decode cX5_write 131 = .ok (.ireturn, 1) := by decide +kernel
set_option maxRecDepth 20000 in
theorem ggX5_replica_X5_sizeOf : GoodIn wsX5_replica wsX5_sizeOf := goodIn_r _ [10] (by decide +kernel) (by decide +kernel)
set_option maxRecDepth 20000 in
theorem gX5_replica_X5_sizeOf : GoodIn wsX5_replica (va_wsS RX5 77 yX5_sizeOf wsX5_sizeOf) := goodIn_app (goodIn_of _ (by decide +kernel)) ggX5_replica_X5_sizeOf
set_option maxRecDepth 20000 in
theorem ggX5_replica_X5_isId : GoodIn wsX5_replica wsX5_isId := goodIn_r _ [13] (by decide +kernel) (by decide +kernel)
set_option maxRecDepth 20000 in
theorem gX5_replica_X5_isId : GoodIn wsX5_replica (va_wsS RX5 62 yX5_isId wsX5_isId) := goodIn_app (goodIn_of _ (by decide +kernel)) ggX5_replica_X5_isId
set_option maxRecDepth 20000 in
theorem ggX5_replica_X1_isProcessed : GoodIn wsX5_replica wsX1_isProcessed := goodIn_r _ [18, 19, 20, 117, 118, 119, 120] (by decide +kernel) (by decide +kernel)
set_option maxRecDepth 20000 in
theorem gX5_replica_X1_isProcessed : GoodIn wsX5_replica (wsV RX5 100 RX1 yX1_isProcessed wsX1_isProcessed) := goodIn_app (goodIn_of _ (by decide +kernel)) ggX5_replica_X1_isProcessed
set_option maxRecDepth 20000 in
theorem ggX5_replica_X2_room : GoodIn wsX5_replica wsX2_room := goodIn_r _ [25, 26, 27, 28, 29, 24, 30, 31, 32, 33, 34, 121, 122, 123, 124, 125, 126] (by decide +kernel) (by decide +kernel)
set_option maxRecDepth 20000 in
theorem gX5_replica_X2_room : GoodIn wsX5_replica (wsV RX5 73 RX2 yX2_room wsX2_room) := goodIn_app (goodIn_of _ (by decide +kernel)) ggX5_replica_X2_room
set_option maxRecDepth 20000 in
theorem ggX5_replica_X3_become : GoodIn wsX5_replica wsX3_become := goodIn_r _ [39, 40, 41, 42, 43, 44, 127, 128, 129, 130, 131] (by decide +kernel) (by decide +kernel)
set_option maxRecDepth 20000 in
theorem gX5_replica_X3_become : GoodIn wsX5_replica (wsV RX5 91 RX3 yX3_become wsX3_become) := goodIn_app (goodIn_of _ (by decide +kernel)) ggX5_replica_X3_become
set_option maxRecDepth 20000 in
theorem ggX5_replica_X5_append : GoodIn wsX5_replica wsX5_append := goodIn_r _ [48, 5, 6, 2, 49, 50, 51, 24, 52, 26, 53, 54, 55, 56, 57, 27, 28, 29, 30, 31, 32, 33, 34, 8, 9, 10, 58, 59, 60, 61, 62, 63, 64, 65, 66, 67, 68, 69, 70, 71, 72, 73, 74, 75, 76, 77, 78, 79, 80, 81, 82, 83, 17, 84, 85, 86, 87, 88, 89, 90, 19, 20, 91, 92, 93, 94, 95, 96, 97, 98, 99, 100, 101, 102, 103, 104, 105, 106, 12, 13, 107, 108, 109, 110, 111, 112, 113, 114, 115, 116, 121, 122, 123, 124, 125, 126, 127, 128, 129, 130, 131, 117, 118, 119, 120, 132, 133, 134, 135] (by decide +kernel) (by decide +kernel)
set_option maxRecDepth 20000 in
theorem gX5_replica_X5_append : GoodIn wsX5_replica (wsV RX5 95 RX5 yX5_append wsX5_append) := goodIn_app (goodIn_of _ (by decide +kernel)) ggX5_replica_X5_append
theorem dX5_replica_0 : decode cX5_replica 0 = .ok (.aload_n 0, 1) := by decide +kernel
theorem dX5_replica_1 : decode cX5_replica 1 = .ok (.getfield 58, 3) := by decide +kernel
theorem dX5_replica_4 : decode cX5_replica 4 = .ok (.ifCond .eq 6, 3) := by decide +kernel
theorem dX5_replica_7 : decode cX5_replica 7 = .ok (.bipush (-4), 2) := by decide +kernel
theorem dX5_replica_9 : decode cX5_replica 9 = .ok (.ireturn, 1) := by decide +kernel
theorem dX5_replica_10 : decode cX5_replica 10 = .ok (.iload_n 1, 1) := by decide +kernel
theorem dX5_replica_11 : decode cX5_replica 11 = .ok (.invokestatic 77, 3) := by decide +kernel
theorem dX5_replica_14 : decode cX5_replica 14 = .ok (.ifCond .eq 21, 3) := by decide +kernel
theorem dX5_replica_17 : decode cX5_replica 17 = .ok (.iload_n 3, 1) := by decide +kernel
theorem dX5_replica_18 : decode cX5_replica 18 = .ok (.ifCond .lt 17, 3) := by decide +kernel
theorem dX5_replica_21 : decode cX5_replica 21 = .ok (.iload_n 3, 1) := by decide +kernel
theorem dX5_replica_22 : decode cX5_replica 22 = .ok (.aload_n 0, 1) := by decide +kernel
theorem dX5_replica_23 : decode cX5_replica 23 = .ok (.getfield 10, 3) := by decide +kernel
theorem dX5_replica_26 : decode cX5_replica 26 = .ok (.getfield 81, 3) := by decide +kernel
theorem dX5_replica_29 : decode cX5_replica 29 = .ok (.bipush 64, 2) := by decide +kernel
theorem dX5_replica_31 : decode cX5_replica 31 = .ok (.iadd, 1) := by decide +kernel
theorem dX5_replica_32 : decode cX5_replica 32 = .ok (.if_icmp .le 5, 3) := by decide +kernel
theorem dX5_replica_35 : decode cX5_replica 35 = .ok (.iconst (-1), 1) := by decide +kernel
theorem dX5_replica_36 : decode cX5_replica 36 = .ok (.ireturn, 1) := by decide +kernel
theorem dX5_replica_37 : decode cX5_replica 37 = .ok (.iload_n 1, 1) := by decide +kernel
theorem dX5_replica_38 : decode cX5_replica 38 = .ok (.iconst 3, 1) := by decide +kernel
theorem dX5_replica_39 : decode cX5_replica 39 = .ok (.if_icmp .eq 25, 3) := by decide +kernel
theorem dX5_replica_42 : decode cX5_replica 42 = .ok (.iload_n 2, 1) := by decide +kernel
theorem dX5_replica_43 : decode cX5_replica 43 = .ok (.invokestatic 62, 3) := by decide +kernel
theorem dX5_replica_46 : decode cX5_replica 46 = .ok (.ifCond .eq 16, 3) := by decide +kernel
theorem dX5_replica_49 : decode cX5_replica 49 = .ok (.iload 4, 2) := by decide +kernel
theorem dX5_replica_51 : decode cX5_replica 51 = .ok (.iconst 1, 1) := by decide +kernel
theorem dX5_replica_52 : decode cX5_replica 52 = .ok (.if_icmp .lt 10, 3) := by decide +kernel
theorem dX5_replica_55 : decode cX5_replica 55 = .ok (.iload 4, 2) := by decide +kernel
theorem dX5_replica_57 : decode cX5_replica 57 = .ok (.ldc 99, 2) := by decide +kernel
theorem dX5_replica_59 : decode cX5_replica 59 = .ok (.if_icmp .le 5, 3) := by decide +kernel
theorem dX5_replica_62 : decode cX5_replica 62 = .ok (.iconst (-1), 1) := by decide +kernel
theorem dX5_replica_63 : decode cX5_replica 63 = .ok (.ireturn, 1) := by decide +kernel
theorem dX5_replica_64 : decode cX5_replica 64 = .ok (.aload_n 0, 1) := by decide +kernel
theorem dX5_replica_65 : decode cX5_replica 65 = .ok (.getfield 10, 3) := by decide +kernel
theorem dX5_replica_68 : decode cX5_replica 68 = .ok (.iload_n 3, 1) := by decide +kernel
theorem dX5_replica_69 : decode cX5_replica 69 = .ok (.invokevirtual 100, 3) := by decide +kernel
theorem dX5_replica_72 : decode cX5_replica 72 = .ok (.ifCond .eq 5, 3) := by decide +kernel
theorem dX5_replica_75 : decode cX5_replica 75 = .ok (.iconst 0, 1) := by decide +kernel
theorem dX5_replica_76 : decode cX5_replica 76 = .ok (.ireturn, 1) := by decide +kernel
theorem dX5_replica_77 : decode cX5_replica 77 = .ok (.aload_n 0, 1) := by decide +kernel
theorem dX5_replica_78 : decode cX5_replica 78 = .ok (.getfield 29, 3) := by decide +kernel
theorem dX5_replica_81 : decode cX5_replica 81 = .ok (.invokevirtual 73, 3) := by decide +kernel
theorem dX5_replica_84 : decode cX5_replica 84 = .ok (.iload_n 1, 1) := by decide +kernel
theorem dX5_replica_85 : decode cX5_replica 85 = .ok (.invokestatic 77, 3) := by decide +kernel
theorem dX5_replica_88 : decode cX5_replica 88 = .ok (.if_icmp .ge 6, 3) := by decide +kernel
theorem dX5_replica_91 : decode cX5_replica 91 = .ok (.bipush (-3), 2) := by decide +kernel
theorem dX5_replica_93 : decode cX5_replica 93 = .ok (.ireturn, 1) := by decide +kernel
theorem dX5_replica_94 : decode cX5_replica 94 = .ok (.aload_n 0, 1) := by decide +kernel
theorem dX5_replica_95 : decode cX5_replica 95 = .ok (.getfield 43, 3) := by decide +kernel
theorem dX5_replica_98 : decode cX5_replica 98 = .ok (.iload_n 1, 1) := by decide +kernel
theorem dX5_replica_99 : decode cX5_replica 99 = .ok (.iload_n 3, 1) := by decide +kernel
theorem dX5_replica_100 : decode cX5_replica 100 = .ok (.iload_n 2, 1) := by decide +kernel
theorem dX5_replica_101 : decode cX5_replica 101 = .ok (.iload 4, 2) := by decide +kernel
theorem dX5_replica_103 : decode cX5_replica 103 = .ok (.lload 5, 2) := by decide +kernel
theorem dX5_replica_105 : decode cX5_replica 105 = .ok (.invokevirtual 91, 3) := by decide +kernel
theorem dX5_replica_108 : decode cX5_replica 108 = .ok (.aload_n 0, 1) := by decide +kernel
theorem dX5_replica_109 : decode cX5_replica 109 = .ok (.invokevirtual 95, 3) := by decide +kernel
theorem dX5_replica_112 : decode cX5_replica 112 = .ok (.ifCond .eq 7, 3) := by decide +kernel
theorem dX5_replica_115 : decode cX5_replica 115 = .ok (.iconst 1, 1) := by decide +kernel
theorem dX5_replica_116 : decode cX5_replica 116 = .ok (.goto 4, 3) := by decide +kernel
theorem dX5_replica_119 : decode cX5_replica 119 = .ok (.iconst 2, 1) := by decide +kernel
theorem dX5_replica_120 : decode cX5_replica 120 = .ok (.ireturn, 1) := by decide +kernel
set_option maxRecDepth 20000 in
theorem ggX5_fill_X1_countMissing : GoodIn wsX5_fill wsX1_countMissing := goodIn_r _ [11, 12, 13, 14, 15, 16, 10, 17, 18, 121, 122, 123, 124] (by decide +kernel) (by decide +kernel)
set_option maxRecDepth 20000 in
theorem gX5_fill_X1_countMissing : GoodIn wsX5_fill (wsV RX5 103 RX1 yX1_countMissing wsX1_countMissing) := goodIn_app (goodIn_of _ (by decide +kernel)) ggX5_fill_X1_countMissing
set_option maxRecDepth 20000 in
theorem ggX5_fill_X2_room : GoodIn wsX5_fill wsX2_room := goodIn_r _ [23, 24, 25, 26, 27, 22, 28, 29, 30, 31, 32, 125, 126, 127, 128, 129, 130] (by decide +kernel) (by decide +kernel)
set_option maxRecDepth 20000 in
theorem gX5_fill_X2_room : GoodIn wsX5_fill (wsV RX5 73 RX2 yX2_room wsX2_room) := goodIn_app (goodIn_of _ (by decide +kernel)) ggX5_fill_X2_room
set_option maxRecDepth 20000 in
theorem ggX5_fill_X5_sizeOf : GoodIn wsX5_fill wsX5_sizeOf := goodIn_r _ [36] (by decide +kernel) (by decide +kernel)
set_option maxRecDepth 20000 in
theorem gX5_fill_X5_sizeOf : GoodIn wsX5_fill (va_wsS RX5 77 yX5_sizeOf wsX5_sizeOf) := goodIn_app (goodIn_of _ (by decide +kernel)) ggX5_fill_X5_sizeOf
set_option maxRecDepth 20000 in
theorem ggX5_fill_X1_isProcessed : GoodIn wsX5_fill wsX1_isProcessed := goodIn_r _ [17, 12, 18, 121, 122, 123, 124] (by decide +kernel) (by decide +kernel)
set_option maxRecDepth 20000 in
theorem gX5_fill_X1_isProcessed : GoodIn wsX5_fill (wsV RX5 100 RX1 yX1_isProcessed wsX1_isProcessed) := goodIn_app (goodIn_of _ (by decide +kernel)) ggX5_fill_X1_isProcessed
set_option maxRecDepth 20000 in
theorem ggX5_fill_X3_become : GoodIn wsX5_fill wsX3_become := goodIn_r _ [42, 43, 44, 45, 46, 47, 131, 132, 133, 134, 135] (by decide +kernel) (by decide +kernel)
set_option maxRecDepth 20000 in
theorem gX5_fill_X3_become : GoodIn wsX5_fill (wsV RX5 91 RX3 yX3_become wsX3_become) := goodIn_app (goodIn_of _ (by decide +kernel)) ggX5_fill_X3_become
set_option maxRecDepth 20000 in
theorem ggX5_fill_X5_append : GoodIn wsX5_fill wsX5_append := goodIn_r _ [51, 3, 6, 2, 52, 53, 54, 22, 55, 24, 56, 57, 58, 59, 60, 25, 26, 27, 28, 29, 30, 31, 32, 34, 35, 36, 61, 62, 63, 64, 65, 66, 67, 68, 69, 70, 71, 72, 73, 74, 75, 76, 77, 78, 79, 80, 81, 82, 83, 84, 85, 86, 10, 87, 88, 89, 90, 91, 92, 93, 12, 18, 13, 94, 95, 96, 97, 98, 99, 100, 101, 102, 103, 104, 105, 106, 107, 108, 109, 110, 111, 112, 113, 114, 115, 116, 117, 118, 119, 120, 125, 126, 127, 128, 129, 130, 131, 132, 133, 134, 135, 121, 122, 123, 124, 136, 137, 138, 139] (by decide +kernel) (by decide +kernel)
set_option maxRecDepth 20000 in
theorem gX5_fill_X5_append : GoodIn wsX5_fill (wsV RX5 95 RX5 yX5_append wsX5_append) := goodIn_app (goodIn_of _ (by decide +kernel)) ggX5_fill_X5_append
theorem dX5_fill_0 : decode cX5_fill 0 = .ok (.aload_n 0, 1) := by decide +kernel
theorem dX5_fill_1 : decode cX5_fill 1 = .ok (.getfield 58, 3) := by decide +kernel
theorem dX5_fill_4 : decode cX5_fill 4 = .ok (.ifCond .eq 6, 3) := by decide +kernel
theorem dX5_fill_7 : decode cX5_fill 7 = .ok (.bipush (-4), 2) := by decide +kernel
theorem dX5_fill_9 : decode cX5_fill 9 = .ok (.ireturn, 1) := by decide +kernel
theorem dX5_fill_10 : decode cX5_fill 10 = .ok (.aload_n 0, 1) := by decide +kernel
theorem dX5_fill_11 : decode cX5_fill 11 = .ok (.getfield 10, 3) := by decide +kernel
theorem dX5_fill_14 : decode cX5_fill 14 = .ok (.invokevirtual 103, 3) := by decide +kernel
theorem dX5_fill_17 : decode cX5_fill 17 = .ok (.istore_n 1, 1) := by decide +kernel
theorem dX5_fill_18 : decode cX5_fill 18 = .ok (.aload_n 0, 1) := by decide +kernel
theorem dX5_fill_19 : decode cX5_fill 19 = .ok (.getfield 29, 3) := by decide +kernel
theorem dX5_fill_22 : decode cX5_fill 22 = .ok (.invokevirtual 73, 3) := by decide +kernel
theorem dX5_fill_25 : decode cX5_fill 25 = .ok (.iload_n 1, 1) := by decide +kernel
theorem dX5_fill_26 : decode cX5_fill 26 = .ok (.iconst 3, 1) := by decide +kernel
theorem dX5_fill_27 : decode cX5_fill 27 = .ok (.invokestatic 77, 3) := by decide +kernel
theorem dX5_fill_30 : decode cX5_fill 30 = .ok (.imul, 1) := by decide +kernel
theorem dX5_fill_31 : decode cX5_fill 31 = .ok (.if_icmp .ge 6, 3) := by decide +kernel
theorem dX5_fill_34 : decode cX5_fill 34 = .ok (.bipush (-3), 2) := by decide +kernel
theorem dX5_fill_36 : decode cX5_fill 36 = .ok (.ireturn, 1) := by decide +kernel
theorem dX5_fill_37 : decode cX5_fill 37 = .ok (.aload_n 0, 1) := by decide +kernel
theorem dX5_fill_38 : decode cX5_fill 38 = .ok (.getfield 10, 3) := by decide +kernel
theorem dX5_fill_41 : decode cX5_fill 41 = .ok (.getfield 70, 3) := by decide +kernel
theorem dX5_fill_44 : decode cX5_fill 44 = .ok (.istore_n 2, 1) := by decide +kernel
theorem dX5_fill_45 : decode cX5_fill 45 = .ok (.aload_n 0, 1) := by decide +kernel
theorem dX5_fill_46 : decode cX5_fill 46 = .ok (.getfield 10, 3) := by decide +kernel
theorem dX5_fill_49 : decode cX5_fill 49 = .ok (.getfield 81, 3) := by decide +kernel
theorem dX5_fill_52 : decode cX5_fill 52 = .ok (.iconst 1, 1) := by decide +kernel
theorem dX5_fill_53 : decode cX5_fill 53 = .ok (.iadd, 1) := by decide +kernel
theorem dX5_fill_54 : decode cX5_fill 54 = .ok (.istore_n 3, 1) := by decide +kernel
theorem dX5_fill_55 : decode cX5_fill 55 = .ok (.iload_n 3, 1) := by decide +kernel
theorem dX5_fill_56 : decode cX5_fill 56 = .ok (.iload_n 2, 1) := by decide +kernel
theorem dX5_fill_57 : decode cX5_fill 57 = .ok (.if_icmp .gt 37, 3) := by decide +kernel
theorem dX5_fill_60 : decode cX5_fill 60 = .ok (.aload_n 0, 1) := by decide +kernel
theorem dX5_fill_61 : decode cX5_fill 61 = .ok (.getfield 10, 3) := by decide +kernel
theorem dX5_fill_64 : decode cX5_fill 64 = .ok (.iload_n 3, 1) := by decide +kernel
theorem dX5_fill_65 : decode cX5_fill 65 = .ok (.invokevirtual 100, 3) := by decide +kernel
theorem dX5_fill_68 : decode cX5_fill 68 = .ok (.ifCond .ne 20, 3) := by decide +kernel
theorem dX5_fill_71 : decode cX5_fill 71 = .ok (.aload_n 0, 1) := by decide +kernel
theorem dX5_fill_72 : decode cX5_fill 72 = .ok (.getfield 43, 3) := by decide +kernel
theorem dX5_fill_75 : decode cX5_fill 75 = .ok (.iconst 3, 1) := by decide +kernel
theorem dX5_fill_76 : decode cX5_fill 76 = .ok (.iload_n 3, 1) := by decide +kernel
theorem dX5_fill_77 : decode cX5_fill 77 = .ok (.iconst (-1), 1) := by decide +kernel
theorem dX5_fill_78 : decode cX5_fill 78 = .ok (.iconst 0, 1) := by decide +kernel
theorem dX5_fill_79 : decode cX5_fill 79 = .ok (.lconst 0, 1) := by decide +kernel
theorem dX5_fill_80 : decode cX5_fill 80 = .ok (.invokevirtual 91, 3) := by decide +kernel
theorem dX5_fill_83 : decode cX5_fill 83 = .ok (.aload_n 0, 1) := by decide +kernel
theorem dX5_fill_84 : decode cX5_fill 84 = .ok (.invokevirtual 95, 3) := by decide +kernel
theorem dX5_fill_87 : decode cX5_fill 87 = .ok (.pop, 1) := by decide +kernel
theorem dX5_fill_88 : decode cX5_fill 88 = .ok (.iinc 3 1, 3) := by decide +kernel
theorem dX5_fill_91 : decode cX5_fill 91 = .ok (.goto (-36), 3) := by decide +kernel
theorem dX5_fill_94 : decode cX5_fill 94 = .ok (.iload_n 1, 1) := by decide +kernel
theorem dX5_fill_95 : decode cX5_fill 95 = .ok (.ireturn, 1) := by decide +kernel
set_option maxRecDepth 20000 in
theorem ggX5_get_X5_isId : GoodIn wsX5_get wsX5_isId := goodIn_r _ [9] (by decide +kernel) (by decide +kernel)
set_option maxRecDepth 20000 in
theorem gX5_get_X5_isId : GoodIn wsX5_get (va_wsS RX5 62 yX5_isId wsX5_isId) := goodIn_app (goodIn_of _ (by decide +kernel)) ggX5_get_X5_isId
set_option maxRecDepth 20000 in
theorem ggX5_get_X0_sourceOf : GoodIn wsX5_get wsX0_sourceOf := goodIn_r _ [14, 15, 7, 8, 9, 30, 31, 32, 33] (by decide +kernel) (by decide +kernel)
set_option maxRecDepth 20000 in
theorem gX5_get_X0_sourceOf : GoodIn wsX5_get (wsV RX5 110 RX0 yX0_sourceOf wsX0_sourceOf) := goodIn_app (goodIn_of _ (by decide +kernel)) ggX5_get_X0_sourceOf
theorem dX5_get_0 : decode cX5_get 0 = .ok (.aload_n 0, 1) := by decide +kernel
theorem dX5_get_1 : decode cX5_get 1 = .ok (.getfield 58, 3) := by decide +kernel
theorem dX5_get_4 : decode cX5_get 4 = .ok (.ifCond .eq 7, 3) := by decide +kernel
theorem dX5_get_7 : decode cX5_get 7 = .ok (.ldc2_w 106, 3) := by decide +kernel
theorem dX5_get_10 : decode cX5_get 10 = .ok (.lreturn, 1) := by decide +kernel
theorem dX5_get_11 : decode cX5_get 11 = .ok (.iload_n 1, 1) := by decide +kernel
theorem dX5_get_12 : decode cX5_get 12 = .ok (.invokestatic 62, 3) := by decide +kernel
theorem dX5_get_15 : decode cX5_get 15 = .ok (.ifCond .ne 7, 3) := by decide +kernel
theorem dX5_get_18 : decode cX5_get 18 = .ok (.ldc2_w 108, 3) := by decide +kernel
theorem dX5_get_21 : decode cX5_get 21 = .ok (.lreturn, 1) := by decide +kernel
theorem dX5_get_22 : decode cX5_get 22 = .ok (.aload_n 0, 1) := by decide +kernel
theorem dX5_get_23 : decode cX5_get 23 = .ok (.getfield 10, 3) := by decide +kernel
theorem dX5_get_26 : decode cX5_get 26 = .ok (.getfield 84, 3) := by decide +kernel
theorem dX5_get_29 : decode cX5_get 29 = .ok (.iload_n 1, 1) := by decide +kernel
theorem dX5_get_30 : decode cX5_get 30 = .ok (.invokevirtual 110, 3) := by decide +kernel
theorem dX5_get_33 : decode cX5_get 33 = .ok (.lreturn, 1) := by decide +kernel
set_option maxRecDepth 20000 in
theorem ggX5_known_X5_isId : GoodIn wsX5_known wsX5_isId := goodIn_r _ [8] (by decide +kernel) (by decide +kernel)
set_option maxRecDepth 20000 in
theorem gX5_known_X5_isId : GoodIn wsX5_known (va_wsS RX5 62 yX5_isId wsX5_isId) := goodIn_app (goodIn_of _ (by decide +kernel)) ggX5_known_X5_isId
set_option maxRecDepth 20000 in
theorem ggX5_known_X0_kindOf : GoodIn wsX5_known wsX0_kindOf := goodIn_r _ [13, 14, 6, 7, 8, 44, 45, 46, 47] (by decide +kernel) (by decide +kernel)
set_option maxRecDepth 20000 in
theorem gX5_known_X0_kindOf : GoodIn wsX5_known (wsV RX5 114 RX0 yX0_kindOf wsX0_kindOf) := goodIn_app (goodIn_of _ (by decide +kernel)) ggX5_known_X0_kindOf
set_option maxRecDepth 20000 in
theorem ggX5_known_X0_seqOf : GoodIn wsX5_known wsX0_seqOf := goodIn_r _ [18, 19, 6, 7, 8, 44, 45, 46, 47] (by decide +kernel) (by decide +kernel)
set_option maxRecDepth 20000 in
theorem gX5_known_X0_seqOf : GoodIn wsX5_known (wsV RX5 117 RX0 yX0_seqOf wsX0_seqOf) := goodIn_app (goodIn_of _ (by decide +kernel)) ggX5_known_X0_seqOf
set_option maxRecDepth 20000 in
theorem ggX5_known_X0_versionOf : GoodIn wsX5_known wsX0_versionOf := goodIn_r _ [23, 24, 6, 7, 8, 44, 45, 46, 47] (by decide +kernel) (by decide +kernel)
set_option maxRecDepth 20000 in
theorem gX5_known_X0_versionOf : GoodIn wsX5_known (wsV RX5 87 RX0 yX0_versionOf wsX0_versionOf) := goodIn_app (goodIn_of _ (by decide +kernel)) ggX5_known_X0_versionOf
set_option maxRecDepth 20000 in
theorem ggX5_known_X0_isDocument : GoodIn wsX5_known wsX0_isDocument := goodIn_r _ [28, 29, 10, 11, 12, 13, 14, 6, 7, 8, 44, 45, 46, 47] (by decide +kernel) (by decide +kernel)
set_option maxRecDepth 20000 in
theorem gX5_known_X0_isDocument : GoodIn wsX5_known (wsV RX5 120 RX0 yX0_isDocument wsX0_isDocument) := goodIn_app (goodIn_of _ (by decide +kernel)) ggX5_known_X0_isDocument
theorem dX5_known_0 : decode cX5_known 0 = .ok (.aload_n 0, 1) := by decide +kernel
theorem dX5_known_1 : decode cX5_known 1 = .ok (.getfield 58, 3) := by decide +kernel
theorem dX5_known_4 : decode cX5_known 4 = .ok (.ifCond .eq 6, 3) := by decide +kernel
theorem dX5_known_7 : decode cX5_known 7 = .ok (.bipush (-4), 2) := by decide +kernel
theorem dX5_known_9 : decode cX5_known 9 = .ok (.ireturn, 1) := by decide +kernel
theorem dX5_known_10 : decode cX5_known 10 = .ok (.iload_n 1, 1) := by decide +kernel
theorem dX5_known_11 : decode cX5_known 11 = .ok (.invokestatic 62, 3) := by decide +kernel
theorem dX5_known_14 : decode cX5_known 14 = .ok (.ifCond .ne 5, 3) := by decide +kernel
theorem dX5_known_17 : decode cX5_known 17 = .ok (.iconst (-1), 1) := by decide +kernel
theorem dX5_known_18 : decode cX5_known 18 = .ok (.ireturn, 1) := by decide +kernel
theorem dX5_known_19 : decode cX5_known 19 = .ok (.iload_n 2, 1) := by decide +kernel
theorem dX5_known_20 : decode cX5_known 20 = .ok (.tableswitch 113 0 4 #[36, 48, 60, 72, 89], 36) := by decide +kernel
theorem dX5_known_56 : decode cX5_known 56 = .ok (.aload_n 0, 1) := by decide +kernel
theorem dX5_known_57 : decode cX5_known 57 = .ok (.getfield 10, 3) := by decide +kernel
theorem dX5_known_60 : decode cX5_known 60 = .ok (.getfield 84, 3) := by decide +kernel
theorem dX5_known_63 : decode cX5_known 63 = .ok (.iload_n 1, 1) := by decide +kernel
theorem dX5_known_64 : decode cX5_known 64 = .ok (.invokevirtual 114, 3) := by decide +kernel
theorem dX5_known_67 : decode cX5_known 67 = .ok (.ireturn, 1) := by decide +kernel
theorem dX5_known_68 : decode cX5_known 68 = .ok (.aload_n 0, 1) := by decide +kernel
theorem dX5_known_69 : decode cX5_known 69 = .ok (.getfield 10, 3) := by decide +kernel
theorem dX5_known_72 : decode cX5_known 72 = .ok (.getfield 84, 3) := by decide +kernel
theorem dX5_known_75 : decode cX5_known 75 = .ok (.iload_n 1, 1) := by decide +kernel
theorem dX5_known_76 : decode cX5_known 76 = .ok (.invokevirtual 117, 3) := by decide +kernel
theorem dX5_known_79 : decode cX5_known 79 = .ok (.ireturn, 1) := by decide +kernel
theorem dX5_known_80 : decode cX5_known 80 = .ok (.aload_n 0, 1) := by decide +kernel
theorem dX5_known_81 : decode cX5_known 81 = .ok (.getfield 10, 3) := by decide +kernel
theorem dX5_known_84 : decode cX5_known 84 = .ok (.getfield 84, 3) := by decide +kernel
theorem dX5_known_87 : decode cX5_known 87 = .ok (.iload_n 1, 1) := by decide +kernel
theorem dX5_known_88 : decode cX5_known 88 = .ok (.invokevirtual 87, 3) := by decide +kernel
theorem dX5_known_91 : decode cX5_known 91 = .ok (.ireturn, 1) := by decide +kernel
theorem dX5_known_92 : decode cX5_known 92 = .ok (.aload_n 0, 1) := by decide +kernel
theorem dX5_known_93 : decode cX5_known 93 = .ok (.getfield 22, 3) := by decide +kernel
theorem dX5_known_96 : decode cX5_known 96 = .ok (.iload_n 1, 1) := by decide +kernel
theorem dX5_known_97 : decode cX5_known 97 = .ok (.invokevirtual 120, 3) := by decide +kernel
theorem dX5_known_100 : decode cX5_known 100 = .ok (.ifCond .eq 7, 3) := by decide +kernel
theorem dX5_known_103 : decode cX5_known 103 = .ok (.iconst 1, 1) := by decide +kernel
theorem dX5_known_104 : decode cX5_known 104 = .ok (.goto 4, 3) := by decide +kernel
theorem dX5_known_107 : decode cX5_known 107 = .ok (.iconst 0, 1) := by decide +kernel
theorem dX5_known_108 : decode cX5_known 108 = .ok (.ireturn, 1) := by decide +kernel
theorem dX5_known_109 : decode cX5_known 109 = .ok (.aload_n 0, 1) := by decide +kernel
theorem dX5_known_110 : decode cX5_known 110 = .ok (.getfield 22, 3) := by decide +kernel
theorem dX5_known_113 : decode cX5_known 113 = .ok (.iload_n 1, 1) := by decide +kernel
theorem dX5_known_114 : decode cX5_known 114 = .ok (.invokevirtual 120, 3) := by decide +kernel
theorem dX5_known_117 : decode cX5_known 117 = .ok (.ifCond .eq 14, 3) := by decide +kernel
theorem dX5_known_120 : decode cX5_known 120 = .ok (.aload_n 0, 1) := by decide +kernel
theorem dX5_known_121 : decode cX5_known 121 = .ok (.getfield 22, 3) := by decide +kernel
theorem dX5_known_124 : decode cX5_known 124 = .ok (.iload_n 1, 1) := by decide +kernel
theorem dX5_known_125 : decode cX5_known 125 = .ok (.invokevirtual 117, 3) := by decide +kernel
theorem dX5_known_128 : decode cX5_known 128 = .ok (.goto 4, 3) := by decide +kernel
theorem dX5_known_131 : decode cX5_known 131 = .ok (.iconst (-1), 1) := by decide +kernel
theorem dX5_known_132 : decode cX5_known 132 = .ok (.ireturn, 1) := by decide +kernel
theorem dX5_known_133 : decode cX5_known 133 = .ok (.iconst (-1), 1) := by decide +kernel
theorem dX5_known_134 : decode cX5_known 134 = .ok (.ireturn, 1) := by decide +kernel
set_option maxRecDepth 20000 in
theorem ggX5_refresh_X0_forgetTombstones : GoodIn wsX5_refresh wsX0_forgetTombstones := goodIn_r _ [10, 11, 12, 13, 48, 49, 50, 51] (by decide +kernel) (by decide +kernel)
set_option maxRecDepth 20000 in
theorem gX5_refresh_X0_forgetTombstones : GoodIn wsX5_refresh (wsV RX5 123 RX0 yX0_forgetTombstones wsX0_forgetTombstones) := goodIn_app (goodIn_of _ (by decide +kernel)) ggX5_refresh_X0_forgetTombstones
set_option maxRecDepth 20000 in
theorem ggX5_refresh_X0_copyFrom : GoodIn wsX5_refresh wsX0_copyFrom := goodIn_r _ [17, 11, 12, 13, 18, 48, 49, 50, 51] (by decide +kernel) (by decide +kernel)
set_option maxRecDepth 20000 in
theorem gX5_refresh_X0_copyFrom : GoodIn wsX5_refresh (wsV RX5 127 RX0 yX0_copyFrom wsX0_copyFrom) := goodIn_app (goodIn_of _ (by decide +kernel)) ggX5_refresh_X0_copyFrom
set_option maxRecDepth 20000 in
theorem ggX5_refresh_X0_count : GoodIn wsX5_refresh wsX0_count := goodIn_r _ [22, 23, 24, 25, 9, 26, 27, 28, 29, 30, 11, 31, 32, 33, 48, 49, 50, 51] (by decide +kernel) (by decide +kernel)
set_option maxRecDepth 20000 in
theorem gX5_refresh_X0_count : GoodIn wsX5_refresh (wsV RX5 131 RX0 yX0_count wsX0_count) := goodIn_app (goodIn_of _ (by decide +kernel)) ggX5_refresh_X0_count
theorem dX5_refresh_0 : decode cX5_refresh 0 = .ok (.aload_n 0, 1) := by decide +kernel
theorem dX5_refresh_1 : decode cX5_refresh 1 = .ok (.getfield 58, 3) := by decide +kernel
theorem dX5_refresh_4 : decode cX5_refresh 4 = .ok (.ifCond .eq 6, 3) := by decide +kernel
theorem dX5_refresh_7 : decode cX5_refresh 7 = .ok (.bipush (-4), 2) := by decide +kernel
theorem dX5_refresh_9 : decode cX5_refresh 9 = .ok (.ireturn, 1) := by decide +kernel
theorem dX5_refresh_10 : decode cX5_refresh 10 = .ok (.aload_n 0, 1) := by decide +kernel
theorem dX5_refresh_11 : decode cX5_refresh 11 = .ok (.getfield 10, 3) := by decide +kernel
theorem dX5_refresh_14 : decode cX5_refresh 14 = .ok (.getfield 84, 3) := by decide +kernel
theorem dX5_refresh_17 : decode cX5_refresh 17 = .ok (.aload_n 0, 1) := by decide +kernel
theorem dX5_refresh_18 : decode cX5_refresh 18 = .ok (.getfield 10, 3) := by decide +kernel
theorem dX5_refresh_21 : decode cX5_refresh 21 = .ok (.getfield 81, 3) := by decide +kernel
theorem dX5_refresh_24 : decode cX5_refresh 24 = .ok (.invokevirtual 123, 3) := by decide +kernel
theorem dX5_refresh_27 : decode cX5_refresh 27 = .ok (.aload_n 0, 1) := by decide +kernel
theorem dX5_refresh_28 : decode cX5_refresh 28 = .ok (.getfield 22, 3) := by decide +kernel
theorem dX5_refresh_31 : decode cX5_refresh 31 = .ok (.aload_n 0, 1) := by decide +kernel
theorem dX5_refresh_32 : decode cX5_refresh 32 = .ok (.getfield 10, 3) := by decide +kernel
theorem dX5_refresh_35 : decode cX5_refresh 35 = .ok (.getfield 84, 3) := by decide +kernel
theorem dX5_refresh_38 : decode cX5_refresh 38 = .ok (.invokevirtual 127, 3) := by decide +kernel
theorem dX5_refresh_41 : decode cX5_refresh 41 = .ok (.aload_n 0, 1) := by decide +kernel
theorem dX5_refresh_42 : decode cX5_refresh 42 = .ok (.getfield 22, 3) := by decide +kernel
theorem dX5_refresh_45 : decode cX5_refresh 45 = .ok (.invokevirtual 131, 3) := by decide +kernel
theorem dX5_refresh_48 : decode cX5_refresh 48 = .ok (.ireturn, 1) := by decide +kernel
set_option maxRecDepth 20000 in
theorem ggX5_sync_X2_count : GoodIn wsX5_sync wsX2_count := goodIn_r _ [11, 12, 13, 54, 55, 56, 57, 58, 59] (by decide +kernel) (by decide +kernel)
set_option maxRecDepth 20000 in
theorem gX5_sync_X2_count : GoodIn wsX5_sync (wsV RX5 134 RX2 yX2_count wsX2_count) := goodIn_app (goodIn_of _ (by decide +kernel)) ggX5_sync_X2_count
set_option maxRecDepth 20000 in
theorem ggX5_sync_X2_syncCurrent : GoodIn wsX5_sync wsX2_syncCurrent := goodIn_r _ [17, 12, 18, 19, 20, 21, 10, 22, 23, 24, 25, 26, 27, 28, 29, 30, 54, 55, 56, 57, 58, 59] (by decide +kernel) (by decide +kernel)
set_option maxRecDepth 20000 in
theorem gX5_sync_X2_syncCurrent : GoodIn wsX5_sync (wsV RX5 135 RX2 yX2_syncCurrent wsX2_syncCurrent) := goodIn_app (goodIn_of _ (by decide +kernel)) ggX5_sync_X2_syncCurrent
set_option maxRecDepth 20000 in
theorem ggX5_sync_X2_begin : GoodIn wsX5_sync wsX2_begin := goodIn_r _ [34, 12, 18, 27, 28, 29, 10, 30, 35, 36, 37, 38, 39, 54, 55, 56, 57, 58, 59] (by decide +kernel) (by decide +kernel)
set_option maxRecDepth 20000 in
theorem gX5_sync_X2_begin : GoodIn wsX5_sync (wsV RX5 138 RX2 yX2_begin wsX2_begin) := goodIn_app (goodIn_of _ (by decide +kernel)) ggX5_sync_X2_begin
