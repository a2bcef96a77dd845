theorem dX2_append_95 : decode cX2_append 95 = .ok (.getfield 15, 3) := by decide +kernel
theorem dX2_append_98 : decode cX2_append 98 = .ok (.iload_n 2, 1) := by decide +kernel
theorem dX2_append_99 : decode cX2_append 99 = .ok (.iload_n 3, 1) := by decide +kernel
theorem dX2_append_100 : decode cX2_append 100 = .ok (.iconst 1, 1) := by decide +kernel
theorem dX2_append_101 : decode cX2_append 101 = .ok (.iadd, 1) := by decide +kernel
theorem dX2_append_102 : decode cX2_append 102 = .ok (.invokevirtual 77, 3) := by decide +kernel
theorem dX2_append_105 : decode cX2_append 105 = .ok (.i2l, 1) := by decide +kernel
theorem dX2_append_106 : decode cX2_append 106 = .ok (.iconst 4, 1) := by decide +kernel
theorem dX2_append_107 : decode cX2_append 107 = .ok (.invokevirtual 60, 3) := by decide +kernel
theorem dX2_append_110 : decode cX2_append 110 = .ok (.aload_n 0, 1) := by decide +kernel
theorem dX2_append_111 : decode cX2_append 111 = .ok (.aload_n 0, 1) := by decide +kernel
theorem dX2_append_112 : decode cX2_append 112 = .ok (.getfield 15, 3) := by decide +kernel
theorem dX2_append_115 : decode cX2_append 115 = .ok (.aload_n 1, 1) := by decide +kernel
theorem dX2_append_116 : decode cX2_append 116 = .ok (.getfield 64, 3) := by decide +kernel
theorem dX2_append_119 : decode cX2_append 119 = .ok (.invokevirtual 81, 3) := by decide +kernel
theorem dX2_append_122 : decode cX2_append 122 = .ok (.return_, 1) := by decide +kernel
set_option maxRecDepth 20000 in
theorem ggX2_read_X2_lengthOf : GoodIn wsX2_read wsX2_lengthOf := goodIn_r _ [5, 6, 7, 8, 4, 9, 39, 40, 41, 42, 43, 44] (by decide +kernel) (by decide +kernel)
set_option maxRecDepth 20000 in
theorem gX2_read_X2_lengthOf : GoodIn wsX2_read (wsV RX2 35 RX2 yX2_lengthOf wsX2_lengthOf) := goodIn_app (goodIn_of _ (by decide +kernel)) ggX2_read_X2_lengthOf
set_option maxRecDepth 20000 in
theorem ggX2_read_X2_byteAt : GoodIn wsX2_read wsX2_byteAt := goodIn_r _ [13, 14, 7, 8, 4, 9, 39, 40, 41, 42, 43, 44] (by decide +kernel) (by decide +kernel)
set_option maxRecDepth 20000 in
theorem gX2_read_X2_byteAt : GoodIn wsX2_read (wsV RX2 85 RX2 yX2_byteAt wsX2_byteAt) := goodIn_app (goodIn_of _ (by decide +kernel)) ggX2_read_X2_byteAt
set_option maxRecDepth 20000 in
theorem ggX2_read_X5_sizeOf : GoodIn wsX2_read wsX5_sizeOf := goodIn_r _ [17] (by decide +kernel) (by decide +kernel)
set_option maxRecDepth 20000 in
theorem gX2_read_X5_sizeOf_n57 : GoodIn wsX2_read (wsX5_sizeOf) := ggX2_read_X5_sizeOf
set_option maxRecDepth 20000 in
theorem ggX2_read_X2_take : GoodIn wsX2_read wsX2_take := goodIn_r _ [21, 10, 11, 12, 4, 13, 14, 7, 8, 9, 39, 40, 41, 42, 43, 44] (by decide +kernel) (by decide +kernel)
set_option maxRecDepth 20000 in
theorem gX2_read_X2_take : GoodIn wsX2_read (wsV RX2 88 RX2 yX2_take wsX2_take) := goodIn_app (goodIn_of _ (by decide +kernel)) ggX2_read_X2_take
set_option maxRecDepth 20000 in
theorem ggX2_read_X2_checksum : GoodIn wsX2_read wsX2_checksum := goodIn_r _ [25, 26, 10, 11, 12, 4, 13, 14, 7, 8, 9, 39, 40, 41, 42, 43, 44] (by decide +kernel) (by decide +kernel)
set_option maxRecDepth 20000 in
theorem gX2_read_X2_checksum : GoodIn wsX2_read (wsV RX2 77 RX2 yX2_checksum wsX2_checksum) := goodIn_app (goodIn_of _ (by decide +kernel)) ggX2_read_X2_checksum
set_option maxRecDepth 20000 in
theorem ggX2_read_X5_isId : GoodIn wsX2_read wsX5_isId := goodIn_r _ [28] (by decide +kernel) (by decide +kernel)
set_option maxRecDepth 20000 in
theorem gX2_read_X5_isId_n92 : GoodIn wsX2_read (wsX5_isId) := ggX2_read_X5_isId
set_option maxRecDepth 20000 in
theorem ggX2_read_X3_become : GoodIn wsX2_read wsX3_become := goodIn_r _ [33, 34, 35, 36, 37, 38, 45, 46, 47, 48, 49] (by decide +kernel) (by decide +kernel)
set_option maxRecDepth 20000 in
theorem gX2_read_X3_become : GoodIn wsX2_read (wsV RX2 96 RX3 yX3_become wsX3_become) := goodIn_app (goodIn_of _ (by decide +kernel)) ggX2_read_X3_become
theorem dX2_read_0 : decode cX2_read 0 = .ok (.aload_n 0, 1) := by decide +kernel
theorem dX2_read_1 : decode cX2_read 1 = .ok (.iload_n 1, 1) := by decide +kernel
theorem dX2_read_2 : decode cX2_read 2 = .ok (.invokevirtual 35, 3) := by decide +kernel
theorem dX2_read_5 : decode cX2_read 5 = .ok (.iload_n 2, 1) := by decide +kernel
theorem dX2_read_6 : decode cX2_read 6 = .ok (.isub, 1) := by decide +kernel
theorem dX2_read_7 : decode cX2_read 7 = .ok (.istore 4, 2) := by decide +kernel
theorem dX2_read_9 : decode cX2_read 9 = .ok (.iload 4, 2) := by decide +kernel
theorem dX2_read_11 : decode cX2_read 11 = .ok (.bipush 8, 2) := by decide +kernel
theorem dX2_read_13 : decode cX2_read 13 = .ok (.if_icmp .ge 5, 3) := by decide +kernel
theorem dX2_read_16 : decode cX2_read 16 = .ok (.iconst 0, 1) := by decide +kernel
theorem dX2_read_17 : decode cX2_read 17 = .ok (.ireturn, 1) := by decide +kernel
theorem dX2_read_18 : decode cX2_read 18 = .ok (.aload_n 0, 1) := by decide +kernel
theorem dX2_read_19 : decode cX2_read 19 = .ok (.iload_n 1, 1) := by decide +kernel
theorem dX2_read_20 : decode cX2_read 20 = .ok (.iload_n 2, 1) := by decide +kernel
theorem dX2_read_21 : decode cX2_read 21 = .ok (.iconst 1, 1) := by decide +kernel
theorem dX2_read_22 : decode cX2_read 22 = .ok (.iadd, 1) := by decide +kernel
theorem dX2_read_23 : decode cX2_read 23 = .ok (.invokevirtual 85, 3) := by decide +kernel
theorem dX2_read_26 : decode cX2_read 26 = .ok (.istore 5, 2) := by decide +kernel
theorem dX2_read_28 : decode cX2_read 28 = .ok (.iload 5, 2) := by decide +kernel
theorem dX2_read_30 : decode cX2_read 30 = .ok (.invokestatic 57, 3) := by decide +kernel
theorem dX2_read_33 : decode cX2_read 33 = .ok (.istore 6, 2) := by decide +kernel
theorem dX2_read_35 : decode cX2_read 35 = .ok (.iload 6, 2) := by decide +kernel
theorem dX2_read_37 : decode cX2_read 37 = .ok (.iconst 5, 1) := by decide +kernel
theorem dX2_read_38 : decode cX2_read 38 = .ok (.isub, 1) := by decide +kernel
theorem dX2_read_39 : decode cX2_read 39 = .ok (.istore 7, 2) := by decide +kernel
theorem dX2_read_41 : decode cX2_read 41 = .ok (.iload 6, 2) := by decide +kernel
theorem dX2_read_43 : decode cX2_read 43 = .ok (.ifCond .eq 21, 3) := by decide +kernel
theorem dX2_read_46 : decode cX2_read 46 = .ok (.iload 6, 2) := by decide +kernel
theorem dX2_read_48 : decode cX2_read 48 = .ok (.iload 4, 2) := by decide +kernel
theorem dX2_read_50 : decode cX2_read 50 = .ok (.if_icmp .gt 14, 3) := by decide +kernel
theorem dX2_read_53 : decode cX2_read 53 = .ok (.aload_n 0, 1) := by decide +kernel
theorem dX2_read_54 : decode cX2_read 54 = .ok (.iload_n 1, 1) := by decide +kernel
theorem dX2_read_55 : decode cX2_read 55 = .ok (.iload_n 2, 1) := by decide +kernel
theorem dX2_read_56 : decode cX2_read 56 = .ok (.invokevirtual 85, 3) := by decide +kernel
theorem dX2_read_59 : decode cX2_read 59 = .ok (.iload 7, 2) := by decide +kernel
theorem dX2_read_61 : decode cX2_read 61 = .ok (.if_icmp .eq 5, 3) := by decide +kernel
theorem dX2_read_64 : decode cX2_read 64 = .ok (.iconst 0, 1) := by decide +kernel
theorem dX2_read_65 : decode cX2_read 65 = .ok (.ireturn, 1) := by decide +kernel
theorem dX2_read_66 : decode cX2_read 66 = .ok (.aload_n 0, 1) := by decide +kernel
theorem dX2_read_67 : decode cX2_read 67 = .ok (.iload_n 1, 1) := by decide +kernel
theorem dX2_read_68 : decode cX2_read 68 = .ok (.iload_n 2, 1) := by decide +kernel
theorem dX2_read_69 : decode cX2_read 69 = .ok (.iconst 1, 1) := by decide +kernel
theorem dX2_read_70 : decode cX2_read 70 = .ok (.iadd, 1) := by decide +kernel
theorem dX2_read_71 : decode cX2_read 71 = .ok (.iload 7, 2) := by decide +kernel
theorem dX2_read_73 : decode cX2_read 73 = .ok (.iadd, 1) := by decide +kernel
theorem dX2_read_74 : decode cX2_read 74 = .ok (.iconst 4, 1) := by decide +kernel
theorem dX2_read_75 : decode cX2_read 75 = .ok (.invokevirtual 88, 3) := by decide +kernel
theorem dX2_read_78 : decode cX2_read 78 = .ok (.l2i, 1) := by decide +kernel
theorem dX2_read_79 : decode cX2_read 79 = .ok (.aload_n 0, 1) := by decide +kernel
theorem dX2_read_80 : decode cX2_read 80 = .ok (.iload_n 1, 1) := by decide +kernel
theorem dX2_read_81 : decode cX2_read 81 = .ok (.iload_n 2, 1) := by decide +kernel
theorem dX2_read_82 : decode cX2_read 82 = .ok (.iload 7, 2) := by decide +kernel
theorem dX2_read_84 : decode cX2_read 84 = .ok (.iconst 1, 1) := by decide +kernel
theorem dX2_read_85 : decode cX2_read 85 = .ok (.iadd, 1) := by decide +kernel
theorem dX2_read_86 : decode cX2_read 86 = .ok (.invokevirtual 77, 3) := by decide +kernel
theorem dX2_read_89 : decode cX2_read 89 = .ok (.if_icmp .eq 5, 3) := by decide +kernel
theorem dX2_read_92 : decode cX2_read 92 = .ok (.iconst 0, 1) := by decide +kernel
theorem dX2_read_93 : decode cX2_read 93 = .ok (.ireturn, 1) := by decide +kernel
theorem dX2_read_94 : decode cX2_read 94 = .ok (.iload 5, 2) := by decide +kernel
theorem dX2_read_96 : decode cX2_read 96 = .ok (.iconst 3, 1) := by decide +kernel
theorem dX2_read_97 : decode cX2_read 97 = .ok (.if_icmp .ne 7, 3) := by decide +kernel
theorem dX2_read_100 : decode cX2_read 100 = .ok (.iconst (-1), 1) := by decide +kernel
theorem dX2_read_101 : decode cX2_read 101 = .ok (.goto 11, 3) := by decide +kernel
theorem dX2_read_104 : decode cX2_read 104 = .ok (.aload_n 0, 1) := by decide +kernel
theorem dX2_read_105 : decode cX2_read 105 = .ok (.iload_n 1, 1) := by decide +kernel
theorem dX2_read_106 : decode cX2_read 106 = .ok (.iload_n 2, 1) := by decide +kernel
theorem dX2_read_107 : decode cX2_read 107 = .ok (.iconst 4, 1) := by decide +kernel
theorem dX2_read_108 : decode cX2_read 108 = .ok (.iadd, 1) := by decide +kernel
theorem dX2_read_109 : decode cX2_read 109 = .ok (.invokevirtual 85, 3) := by decide +kernel
theorem dX2_read_112 : decode cX2_read 112 = .ok (.istore 8, 2) := by decide +kernel
theorem dX2_read_114 : decode cX2_read 114 = .ok (.iload 5, 2) := by decide +kernel
theorem dX2_read_116 : decode cX2_read 116 = .ok (.iconst 3, 1) := by decide +kernel
theorem dX2_read_117 : decode cX2_read 117 = .ok (.if_icmp .eq 13, 3) := by decide +kernel
theorem dX2_read_120 : decode cX2_read 120 = .ok (.iload 8, 2) := by decide +kernel
theorem dX2_read_122 : decode cX2_read 122 = .ok (.invokestatic 92, 3) := by decide +kernel
theorem dX2_read_125 : decode cX2_read 125 = .ok (.ifCond .ne 5, 3) := by decide +kernel
theorem dX2_read_128 : decode cX2_read 128 = .ok (.iconst 0, 1) := by decide +kernel
theorem dX2_read_129 : decode cX2_read 129 = .ok (.ireturn, 1) := by decide +kernel
theorem dX2_read_130 : decode cX2_read 130 = .ok (.iload 5, 2) := by decide +kernel
theorem dX2_read_132 : decode cX2_read 132 = .ok (.iconst 3, 1) := by decide +kernel
theorem dX2_read_133 : decode cX2_read 133 = .ok (.if_icmp .ne 7, 3) := by decide +kernel
theorem dX2_read_136 : decode cX2_read 136 = .ok (.iconst 0, 1) := by decide +kernel
theorem dX2_read_137 : decode cX2_read 137 = .ok (.goto 13, 3) := by decide +kernel
theorem dX2_read_140 : decode cX2_read 140 = .ok (.aload_n 0, 1) := by decide +kernel
theorem dX2_read_141 : decode cX2_read 141 = .ok (.iload_n 1, 1) := by decide +kernel
theorem dX2_read_142 : decode cX2_read 142 = .ok (.iload_n 2, 1) := by decide +kernel
theorem dX2_read_143 : decode cX2_read 143 = .ok (.iconst 5, 1) := by decide +kernel
theorem dX2_read_144 : decode cX2_read 144 = .ok (.iadd, 1) := by decide +kernel
theorem dX2_read_145 : decode cX2_read 145 = .ok (.iconst 2, 1) := by decide +kernel
theorem dX2_read_146 : decode cX2_read 146 = .ok (.invokevirtual 88, 3) := by decide +kernel
theorem dX2_read_149 : decode cX2_read 149 = .ok (.l2i, 1) := by decide +kernel
theorem dX2_read_150 : decode cX2_read 150 = .ok (.istore 9, 2) := by decide +kernel
theorem dX2_read_152 : decode cX2_read 152 = .ok (.iload 5, 2) := by decide +kernel
theorem dX2_read_154 : decode cX2_read 154 = .ok (.iconst 1, 1) := by decide +kernel
theorem dX2_read_155 : decode cX2_read 155 = .ok (.if_icmp .ne 17, 3) := by decide +kernel
theorem dX2_read_158 : decode cX2_read 158 = .ok (.aload_n 0, 1) := by decide +kernel
theorem dX2_read_159 : decode cX2_read 159 = .ok (.iload_n 1, 1) := by decide +kernel
theorem dX2_read_160 : decode cX2_read 160 = .ok (.iload_n 2, 1) := by decide +kernel
theorem dX2_read_161 : decode cX2_read 161 = .ok (.bipush 7, 2) := by decide +kernel
theorem dX2_read_163 : decode cX2_read 163 = .ok (.iadd, 1) := by decide +kernel
theorem dX2_read_164 : decode cX2_read 164 = .ok (.bipush 8, 2) := by decide +kernel
theorem dX2_read_166 : decode cX2_read 166 = .ok (.invokevirtual 88, 3) := by decide +kernel
theorem dX2_read_169 : decode cX2_read 169 = .ok (.goto 4, 3) := by decide +kernel
theorem dX2_read_172 : decode cX2_read 172 = .ok (.lconst 0, 1) := by decide +kernel
theorem dX2_read_173 : decode cX2_read 173 = .ok (.lstore 10, 2) := by decide +kernel
theorem dX2_read_175 : decode cX2_read 175 = .ok (.aload_n 3, 1) := by decide +kernel
theorem dX2_read_176 : decode cX2_read 176 = .ok (.iload 5, 2) := by decide +kernel
theorem dX2_read_178 : decode cX2_read 178 = .ok (.aload_n 0, 1) := by decide +kernel
theorem dX2_read_179 : decode cX2_read 179 = .ok (.iload_n 1, 1) := by decide +kernel
theorem dX2_read_180 : decode cX2_read 180 = .ok (.iload_n 2, 1) := by decide +kernel
theorem dX2_read_181 : decode cX2_read 181 = .ok (.iconst 2, 1) := by decide +kernel
theorem dX2_read_182 : decode cX2_read 182 = .ok (.iadd, 1) := by decide +kernel
theorem dX2_read_183 : decode cX2_read 183 = .ok (.iconst 2, 1) := by decide +kernel
theorem dX2_read_184 : decode cX2_read 184 = .ok (.invokevirtual 88, 3) := by decide +kernel
theorem dX2_read_187 : decode cX2_read 187 = .ok (.l2i, 1) := by decide +kernel
theorem dX2_read_188 : decode cX2_read 188 = .ok (.iload 8, 2) := by decide +kernel
theorem dX2_read_190 : decode cX2_read 190 = .ok (.iload 9, 2) := by decide +kernel
theorem dX2_read_192 : decode cX2_read 192 = .ok (.lload 10, 2) := by decide +kernel
theorem dX2_read_194 : decode cX2_read 194 = .ok (.invokevirtual 96, 3) := by decide +kernel
theorem dX2_read_197 : decode cX2_read 197 = .ok (.iload 6, 2) := by decide +kernel
theorem dX2_read_199 : decode cX2_read 199 = .ok (.ireturn, 1) := by decide +kernel
theorem dX2_rowOf_0 : decode cX2_rowOf 0 = .ok (.iload_n 0, 1) := by decide +kernel
theorem dX2_rowOf_1 : decode cX2_rowOf 1 = .ok (.iconst 3, 1) := by decide +kernel
theorem dX2_rowOf_2 : decode cX2_rowOf 2 = .ok (.iand, 1) := by decide +kernel
theorem dX2_rowOf_3 : decode cX2_rowOf 3 = .ok (.ireturn, 1) := by decide +kernel
set_option maxRecDepth 20000 in
theorem ggX2_byteAt_X2_rowOf : GoodIn wsX2_byteAt wsX2_rowOf := goodIn_r _ [5] (by decide +kernel) (by decide +kernel)
set_option maxRecDepth 20000 in
theorem gX2_byteAt_X2_rowOf : GoodIn wsX2_byteAt (va_wsS RX2 31 yX2_rowOf wsX2_rowOf) := goodIn_app (goodIn_of _ (by decide +kernel)) ggX2_byteAt_X2_rowOf
theorem dX2_byteAt_0 : decode cX2_byteAt 0 = .ok (.iload_n 2, 1) := by decide +kernel
theorem dX2_byteAt_1 : decode cX2_byteAt 1 = .ok (.ifCond .lt 28, 3) := by decide +kernel
theorem dX2_byteAt_4 : decode cX2_byteAt 4 = .ok (.iload_n 2, 1) := by decide +kernel
theorem dX2_byteAt_5 : decode cX2_byteAt 5 = .ok (.sipush 240, 3) := by decide +kernel
theorem dX2_byteAt_8 : decode cX2_byteAt 8 = .ok (.if_icmp .ge 21, 3) := by decide +kernel
theorem dX2_byteAt_11 : decode cX2_byteAt 11 = .ok (.aload_n 0, 1) := by decide +kernel
theorem dX2_byteAt_12 : decode cX2_byteAt 12 = .ok (.getfield 21, 3) := by decide +kernel
theorem dX2_byteAt_15 : decode cX2_byteAt 15 = .ok (.iload_n 1, 1) := by decide +kernel
theorem dX2_byteAt_16 : decode cX2_byteAt 16 = .ok (.invokestatic 31, 3) := by decide +kernel
theorem dX2_byteAt_19 : decode cX2_byteAt 19 = .ok (.sipush 240, 3) := by decide +kernel
theorem dX2_byteAt_22 : decode cX2_byteAt 22 = .ok (.imul, 1) := by decide +kernel
theorem dX2_byteAt_23 : decode cX2_byteAt 23 = .ok (.iload_n 2, 1) := by decide +kernel
theorem dX2_byteAt_24 : decode cX2_byteAt 24 = .ok (.iadd, 1) := by decide +kernel
theorem dX2_byteAt_25 : decode cX2_byteAt 25 = .ok (.iaload, 1) := by decide +kernel
theorem dX2_byteAt_26 : decode cX2_byteAt 26 = .ok (.goto 4, 3) := by decide +kernel
theorem dX2_byteAt_29 : decode cX2_byteAt 29 = .ok (.iconst 0, 1) := by decide +kernel
theorem dX2_byteAt_30 : decode cX2_byteAt 30 = .ok (.ireturn, 1) := by decide +kernel
set_option maxRecDepth 20000 in
theorem ggX2_put_X2_rowOf : GoodIn wsX2_put wsX2_rowOf := goodIn_r _ [7] (by decide +kernel) (by decide +kernel)
set_option maxRecDepth 20000 in
theorem gX2_put_X2_rowOf : GoodIn wsX2_put (va_wsS RX2 31 yX2_rowOf wsX2_rowOf) := goodIn_app (goodIn_of _ (by decide +kernel)) ggX2_put_X2_rowOf
theorem dX2_put_0 : decode cX2_put 0 = .ok (.aload_n 0, 1) := by decide +kernel
theorem dX2_put_1 : decode cX2_put 1 = .ok (.getfield 15, 3) := by decide +kernel
theorem dX2_put_4 : decode cX2_put 4 = .ok (.invokestatic 31, 3) := by decide +kernel
theorem dX2_put_7 : decode cX2_put 7 = .ok (.istore 4, 2) := by decide +kernel
theorem dX2_put_9 : decode cX2_put 9 = .ok (.iconst 0, 1) := by decide +kernel
theorem dX2_put_10 : decode cX2_put 10 = .ok (.istore 5, 2) := by decide +kernel
theorem dX2_put_12 : decode cX2_put 12 = .ok (.iload 5, 2) := by decide +kernel
theorem dX2_put_14 : decode cX2_put 14 = .ok (.iload_n 3, 1) := by decide +kernel
theorem dX2_put_15 : decode cX2_put 15 = .ok (.if_icmp .ge 68, 3) := by decide +kernel
theorem dX2_put_18 : decode cX2_put 18 = .ok (.aload_n 0, 1) := by decide +kernel
theorem dX2_put_19 : decode cX2_put 19 = .ok (.getfield 25, 3) := by decide +kernel
theorem dX2_put_22 : decode cX2_put 22 = .ok (.iload 4, 2) := by decide +kernel
theorem dX2_put_24 : decode cX2_put 24 = .ok (.iaload, 1) := by decide +kernel
theorem dX2_put_25 : decode cX2_put 25 = .ok (.istore 6, 2) := by decide +kernel
theorem dX2_put_27 : decode cX2_put 27 = .ok (.iload 6, 2) := by decide +kernel
theorem dX2_put_29 : decode cX2_put 29 = .ok (.ifCond .lt 48, 3) := by decide +kernel
theorem dX2_put_32 : decode cX2_put 32 = .ok (.iload 6, 2) := by decide +kernel
theorem dX2_put_34 : decode cX2_put 34 = .ok (.sipush 240, 3) := by decide +kernel
theorem dX2_put_37 : decode cX2_put 37 = .ok (.if_icmp .ge 40, 3) := by decide +kernel
theorem dX2_put_40 : decode cX2_put 40 = .ok (.aload_n 0, 1) := by decide +kernel
theorem dX2_put_41 : decode cX2_put 41 = .ok (.getfield 21, 3) := by decide +kernel
theorem dX2_put_44 : decode cX2_put 44 = .ok (.iload 4, 2) := by decide +kernel
theorem dX2_put_46 : decode cX2_put 46 = .ok (.sipush 240, 3) := by decide +kernel
theorem dX2_put_49 : decode cX2_put 49 = .ok (.imul, 1) := by decide +kernel
theorem dX2_put_50 : decode cX2_put 50 = .ok (.iload 6, 2) := by decide +kernel
theorem dX2_put_52 : decode cX2_put 52 = .ok (.iadd, 1) := by decide +kernel
theorem dX2_put_53 : decode cX2_put 53 = .ok (.lload_n 1, 1) := by decide +kernel
theorem dX2_put_54 : decode cX2_put 54 = .ok (.bipush 8, 2) := by decide +kernel
theorem dX2_put_56 : decode cX2_put 56 = .ok (.iload 5, 2) := by decide +kernel
theorem dX2_put_58 : decode cX2_put 58 = .ok (.imul, 1) := by decide +kernel
theorem dX2_put_59 : decode cX2_put 59 = .ok (.lushr, 1) := by decide +kernel
theorem dX2_put_60 : decode cX2_put 60 = .ok (.l2i, 1) := by decide +kernel
theorem dX2_put_61 : decode cX2_put 61 = .ok (.sipush 255, 3) := by decide +kernel
theorem dX2_put_64 : decode cX2_put 64 = .ok (.iand, 1) := by decide +kernel
theorem dX2_put_65 : decode cX2_put 65 = .ok (.iastore, 1) := by decide +kernel
theorem dX2_put_66 : decode cX2_put 66 = .ok (.aload_n 0, 1) := by decide +kernel
theorem dX2_put_67 : decode cX2_put 67 = .ok (.getfield 25, 3) := by decide +kernel
theorem dX2_put_70 : decode cX2_put 70 = .ok (.iload 4, 2) := by decide +kernel
theorem dX2_put_72 : decode cX2_put 72 = .ok (.iload 6, 2) := by decide +kernel
theorem dX2_put_74 : decode cX2_put 74 = .ok (.iconst 1, 1) := by decide +kernel
theorem dX2_put_75 : decode cX2_put 75 = .ok (.iadd, 1) := by decide +kernel
theorem dX2_put_76 : decode cX2_put 76 = .ok (.iastore, 1) := by decide +kernel
theorem dX2_put_77 : decode cX2_put 77 = .ok (.iinc 5 1, 3) := by decide +kernel
theorem dX2_put_80 : decode cX2_put 80 = .ok (.goto (-68), 3) := by decide +kernel
theorem dX2_put_83 : decode cX2_put 83 = .ok (.return_, 1) := by decide +kernel
set_option maxRecDepth 20000 in
theorem ggX2_take_X2_byteAt : GoodIn wsX2_take wsX2_byteAt := goodIn_r _ [5, 6, 7, 8, 4, 9, 10, 11, 12, 13, 14, 15] (by decide +kernel) (by decide +kernel)
set_option maxRecDepth 20000 in
theorem gX2_take_X2_byteAt : GoodIn wsX2_take (wsV RX2 85 RX2 yX2_byteAt wsX2_byteAt) := goodIn_app (goodIn_of _ (by decide +kernel)) ggX2_take_X2_byteAt
theorem dX2_take_0 : decode cX2_take 0 = .ok (.lconst 0, 1) := by decide +kernel
theorem dX2_take_1 : decode cX2_take 1 = .ok (.lstore 4, 2) := by decide +kernel
theorem dX2_take_3 : decode cX2_take 3 = .ok (.iconst 0, 1) := by decide +kernel
theorem dX2_take_4 : decode cX2_take 4 = .ok (.istore 6, 2) := by decide +kernel
theorem dX2_take_6 : decode cX2_take 6 = .ok (.iload 6, 2) := by decide +kernel
theorem dX2_take_8 : decode cX2_take 8 = .ok (.iload_n 3, 1) := by decide +kernel
theorem dX2_take_9 : decode cX2_take 9 = .ok (.if_icmp .ge 30, 3) := by decide +kernel
theorem dX2_take_12 : decode cX2_take 12 = .ok (.lload 4, 2) := by decide +kernel
theorem dX2_take_14 : decode cX2_take 14 = .ok (.aload_n 0, 1) := by decide +kernel
theorem dX2_take_15 : decode cX2_take 15 = .ok (.iload_n 1, 1) := by decide +kernel
theorem dX2_take_16 : decode cX2_take 16 = .ok (.iload_n 2, 1) := by decide +kernel
theorem dX2_take_17 : decode cX2_take 17 = .ok (.iload 6, 2) := by decide +kernel
theorem dX2_take_19 : decode cX2_take 19 = .ok (.iadd, 1) := by decide +kernel
theorem dX2_take_20 : decode cX2_take 20 = .ok (.invokevirtual 85, 3) := by decide +kernel
theorem dX2_take_23 : decode cX2_take 23 = .ok (.i2l, 1) := by decide +kernel
theorem dX2_take_24 : decode cX2_take 24 = .ok (.bipush 8, 2) := by decide +kernel
theorem dX2_take_26 : decode cX2_take 26 = .ok (.iload 6, 2) := by decide +kernel
theorem dX2_take_28 : decode cX2_take 28 = .ok (.imul, 1) := by decide +kernel
theorem dX2_take_29 : decode cX2_take 29 = .ok (.lshl, 1) := by decide +kernel
theorem dX2_take_30 : decode cX2_take 30 = .ok (.lor, 1) := by decide +kernel
theorem dX2_take_31 : decode cX2_take 31 = .ok (.lstore 4, 2) := by decide +kernel
theorem dX2_take_33 : decode cX2_take 33 = .ok (.iinc 6 1, 3) := by decide +kernel
theorem dX2_take_36 : decode cX2_take 36 = .ok (.goto (-30), 3) := by decide +kernel
theorem dX2_take_39 : decode cX2_take 39 = .ok (.lload 4, 2) := by decide +kernel
theorem dX2_take_41 : decode cX2_take 41 = .ok (.lreturn, 1) := by decide +kernel
set_option maxRecDepth 20000 in
theorem ggX2_checksum_X2_byteAt : GoodIn wsX2_checksum wsX2_byteAt := goodIn_r _ [6, 7, 8, 9, 5, 10, 11, 12, 13, 14, 15, 16] (by decide +kernel) (by decide +kernel)
set_option maxRecDepth 20000 in
theorem gX2_checksum_X2_byteAt : GoodIn wsX2_checksum (wsV RX2 85 RX2 yX2_byteAt wsX2_byteAt) := goodIn_app (goodIn_of _ (by decide +kernel)) ggX2_checksum_X2_byteAt
theorem dX2_checksum_0 : decode cX2_checksum 0 = .ok (.iconst (-1), 1) := by decide +kernel
theorem dX2_checksum_1 : decode cX2_checksum 1 = .ok (.istore 4, 2) := by decide +kernel
theorem dX2_checksum_3 : decode cX2_checksum 3 = .ok (.iconst 0, 1) := by decide +kernel
theorem dX2_checksum_4 : decode cX2_checksum 4 = .ok (.istore 5, 2) := by decide +kernel
theorem dX2_checksum_6 : decode cX2_checksum 6 = .ok (.iload 5, 2) := by decide +kernel
theorem dX2_checksum_8 : decode cX2_checksum 8 = .ok (.iload_n 3, 1) := by decide +kernel
theorem dX2_checksum_9 : decode cX2_checksum 9 = .ok (.if_icmp .ge 62, 3) := by decide +kernel
theorem dX2_checksum_12 : decode cX2_checksum 12 = .ok (.iload 4, 2) := by decide +kernel
theorem dX2_checksum_14 : decode cX2_checksum 14 = .ok (.aload_n 0, 1) := by decide +kernel
theorem dX2_checksum_15 : decode cX2_checksum 15 = .ok (.iload_n 1, 1) := by decide +kernel
theorem dX2_checksum_16 : decode cX2_checksum 16 = .ok (.iload_n 2, 1) := by decide +kernel
theorem dX2_checksum_17 : decode cX2_checksum 17 = .ok (.iload 5, 2) := by decide +kernel
theorem dX2_checksum_19 : decode cX2_checksum 19 = .ok (.iadd, 1) := by decide +kernel
theorem dX2_checksum_20 : decode cX2_checksum 20 = .ok (.invokevirtual 85, 3) := by decide +kernel
theorem dX2_checksum_23 : decode cX2_checksum 23 = .ok (.ixor, 1) := by decide +kernel
theorem dX2_checksum_24 : decode cX2_checksum 24 = .ok (.istore 4, 2) := by decide +kernel
theorem dX2_checksum_26 : decode cX2_checksum 26 = .ok (.iconst 0, 1) := by decide +kernel
theorem dX2_checksum_27 : decode cX2_checksum 27 = .ok (.istore 6, 2) := by decide +kernel
theorem dX2_checksum_29 : decode cX2_checksum 29 = .ok (.iload 6, 2) := by decide +kernel
theorem dX2_checksum_31 : decode cX2_checksum 31 = .ok (.bipush 8, 2) := by decide +kernel
theorem dX2_checksum_33 : decode cX2_checksum 33 = .ok (.if_icmp .ge 32, 3) := by decide +kernel
theorem dX2_checksum_36 : decode cX2_checksum 36 = .ok (.iload 4, 2) := by decide +kernel
theorem dX2_checksum_38 : decode cX2_checksum 38 = .ok (.iconst 1, 1) := by decide +kernel
theorem dX2_checksum_39 : decode cX2_checksum 39 = .ok (.iand, 1) := by decide +kernel
theorem dX2_checksum_40 : decode cX2_checksum 40 = .ok (.ifCond .eq 13, 3) := by decide +kernel
theorem dX2_checksum_43 : decode cX2_checksum 43 = .ok (.iload 4, 2) := by decide +kernel
theorem dX2_checksum_45 : decode cX2_checksum 45 = .ok (.iconst 1, 1) := by decide +kernel
theorem dX2_checksum_46 : decode cX2_checksum 46 = .ok (.iushr, 1) := by decide +kernel
theorem dX2_checksum_47 : decode cX2_checksum 47 = .ok (.ldc 100, 2) := by decide +kernel
theorem dX2_checksum_49 : decode cX2_checksum 49 = .ok (.ixor, 1) := by decide +kernel
theorem dX2_checksum_50 : decode cX2_checksum 50 = .ok (.goto 7, 3) := by decide +kernel
theorem dX2_checksum_53 : decode cX2_checksum 53 = .ok (.iload 4, 2) := by decide +kernel
theorem dX2_checksum_55 : decode cX2_checksum 55 = .ok (.iconst 1, 1) := by decide +kernel
theorem dX2_checksum_56 : decode cX2_checksum 56 = .ok (.iushr, 1) := by decide +kernel
theorem dX2_checksum_57 : decode cX2_checksum 57 = .ok (.istore 4, 2) := by decide +kernel
theorem dX2_checksum_59 : decode cX2_checksum 59 = .ok (.iinc 6 1, 3) := by decide +kernel
theorem dX2_checksum_62 : decode cX2_checksum 62 = .ok (.goto (-33), 3) := by decide +kernel
theorem dX2_checksum_65 : decode cX2_checksum 65 = .ok (.iinc 5 1, 3) := by decide +kernel
theorem dX2_checksum_68 : decode cX2_checksum 68 = .ok (.goto (-62), 3) := by decide +kernel
theorem dX2_checksum_71 : decode cX2_checksum 71 = .ok (.iload 4, 2) := by decide +kernel
theorem dX2_checksum_73 : decode cX2_checksum 73 = .ok (.iconst (-1), 1) := by decide +kernel
theorem dX2_checksum_74 : decode cX2_checksum 74 = .ok (.ixor, 1) := by decide +kernel
theorem dX2_checksum_75 : decode cX2_checksum 75 = .ok (.ireturn, 1) := by decide +kernel
theorem dX3_init_0 : decode cX3_init 0 = .ok (.aload_n 0, 1) := by decide +kernel
theorem dX3_init_1 : decode cX3_init 1 = .ok (.invokespecial 3, 3) := by decide +kernel
theorem dX3_init_4 : decode cX3_init 4 = .ok (.aload_n 0, 1) := by decide +kernel
theorem dX3_init_5 : decode cX3_init 5 = .ok (.iconst 3, 1) := by decide +kernel
theorem dX3_init_6 : decode cX3_init 6 = .ok (.putfield 9, 3) := by decide +kernel
theorem dX3_init_9 : decode cX3_init 9 = .ok (.aload_n 0, 1) := by decide +kernel
theorem dX3_init_10 : decode cX3_init 10 = .ok (.iconst (-1), 1) := by decide +kernel
theorem dX3_init_11 : decode cX3_init 11 = .ok (.putfield 15, 3) := by decide +kernel
theorem dX3_init_14 : decode cX3_init 14 = .ok (.aload_n 0, 1) := by decide +kernel
theorem dX3_init_15 : decode cX3_init 15 = .ok (.iconst (-1), 1) := by decide +kernel
theorem dX3_init_16 : decode cX3_init 16 = .ok (.putfield 18, 3) := by decide +kernel
theorem dX3_init_19 : decode cX3_init 19 = .ok (.aload_n 0, 1) := by decide +kernel
theorem dX3_init_20 : decode cX3_init 20 = .ok (.iconst 0, 1) := by decide +kernel
theorem dX3_init_21 : decode cX3_init 21 = .ok (.putfield 21, 3) := by decide +kernel
theorem dX3_init_24 : decode cX3_init 24 = .ok (.aload_n 0, 1) := by decide +kernel
theorem dX3_init_25 : decode cX3_init 25 = .ok (.lconst 0, 1) := by decide +kernel
theorem dX3_init_26 : decode cX3_init 26 = .ok (.putfield 24, 3) := by decide +kernel
theorem dX3_init_29 : decode cX3_init 29 = .ok (.return_, 1) := by decide +kernel
theorem dX3_become_0 : decode cX3_become 0 = .ok (.aload_n 0, 1) := by decide +kernel
theorem dX3_become_1 : decode cX3_become 1 = .ok (.iload_n 1, 1) := by decide +kernel
theorem dX3_become_2 : decode cX3_become 2 = .ok (.putfield 9, 3) := by decide +kernel
theorem dX3_become_5 : decode cX3_become 5 = .ok (.aload_n 0, 1) := by decide +kernel
theorem dX3_become_6 : decode cX3_become 6 = .ok (.iload_n 2, 1) := by decide +kernel
theorem dX3_become_7 : decode cX3_become 7 = .ok (.putfield 15, 3) := by decide +kernel
theorem dX3_become_10 : decode cX3_become 10 = .ok (.aload_n 0, 1) := by decide +kernel
theorem dX3_become_11 : decode cX3_become 11 = .ok (.iload_n 3, 1) := by decide +kernel
theorem dX3_become_12 : decode cX3_become 12 = .ok (.putfield 18, 3) := by decide +kernel
theorem dX3_become_15 : decode cX3_become 15 = .ok (.aload_n 0, 1) := by decide +kernel
theorem dX3_become_16 : decode cX3_become 16 = .ok (.iload 4, 2) := by decide +kernel
theorem dX3_become_18 : decode cX3_become 18 = .ok (.putfield 21, 3) := by decide +kernel
theorem dX3_become_21 : decode cX3_become 21 = .ok (.aload_n 0, 1) := by decide +kernel
theorem dX3_become_22 : decode cX3_become 22 = .ok (.lload 5, 2) := by decide +kernel
theorem dX3_become_24 : decode cX3_become 24 = .ok (.putfield 24, 3) := by decide +kernel
theorem dX3_become_27 : decode cX3_become 27 = .ok (.return_, 1) := by decide +kernel
theorem dX4_init_0 : decode cX4_init 0 = .ok (.aload_n 0, 1) := by decide +kernel
theorem dX4_init_1 : decode cX4_init 1 = .ok (.invokespecial 3, 3) := by decide +kernel
theorem dX4_init_4 : decode cX4_init 4 = .ok (.aload_n 0, 1) := by decide +kernel
theorem dX4_init_5 : decode cX4_init 5 = .ok (.iconst 0, 1) := by decide +kernel
theorem dX4_init_6 : decode cX4_init 6 = .ok (.putfield 9, 3) := by decide +kernel
theorem dX4_init_9 : decode cX4_init 9 = .ok (.aload_n 0, 1) := by decide +kernel
theorem dX4_init_10 : decode cX4_init 10 = .ok (.bipush 15, 2) := by decide +kernel
theorem dX4_init_12 : decode cX4_init 12 = .ok (.newarray .int, 2) := by decide +kernel
theorem dX4_init_14 : decode cX4_init 14 = .ok (.putfield 15, 3) := by decide +kernel
theorem dX4_init_17 : decode cX4_init 17 = .ok (.aload_n 0, 1) := by decide +kernel
theorem dX4_init_18 : decode cX4_init 18 = .ok (.bipush 15, 2) := by decide +kernel
theorem dX4_init_20 : decode cX4_init 20 = .ok (.newarray .int, 2) := by decide +kernel
theorem dX4_init_22 : decode cX4_init 22 = .ok (.putfield 19, 3) := by decide +kernel
theorem dX4_init_25 : decode cX4_init 25 = .ok (.aload_n 0, 1) := by decide +kernel
theorem dX4_init_26 : decode cX4_init 26 = .ok (.bipush 15, 2) := by decide +kernel
theorem dX4_init_28 : decode cX4_init 28 = .ok (.newarray .int, 2) := by decide +kernel
theorem dX4_init_30 : decode cX4_init 30 = .ok (.putfield 22, 3) := by decide +kernel
theorem dX4_init_33 : decode cX4_init 33 = .ok (.aload_n 0, 1) := by decide +kernel
theorem dX4_init_34 : decode cX4_init 34 = .ok (.bipush 15, 2) := by decide +kernel
theorem dX4_init_36 : decode cX4_init 36 = .ok (.newarray .boolean, 2) := by decide +kernel
theorem dX4_init_38 : decode cX4_init 38 = .ok (.putfield 25, 3) := by decide +kernel
theorem dX4_init_41 : decode cX4_init 41 = .ok (.aload_n 0, 1) := by decide +kernel
theorem dX4_init_42 : decode cX4_init 42 = .ok (.bipush 15, 2) := by decide +kernel
theorem dX4_init_44 : decode cX4_init 44 = .ok (.newarray .int, 2) := by decide +kernel
theorem dX4_init_46 : decode cX4_init 46 = .ok (.putfield 29, 3) := by decide +kernel
theorem dX4_init_49 : decode cX4_init 49 = .ok (.return_, 1) := by decide +kernel
theorem dX4_add_0 : decode cX4_add 0 = .ok (.aload_n 0, 1) := by decide +kernel
theorem dX4_add_1 : decode cX4_add 1 = .ok (.getfield 9, 3) := by decide +kernel
theorem dX4_add_4 : decode cX4_add 4 = .ok (.ifCond .lt 12, 3) := by decide +kernel
theorem dX4_add_7 : decode cX4_add 7 = .ok (.aload_n 0, 1) := by decide +kernel
theorem dX4_add_8 : decode cX4_add 8 = .ok (.getfield 9, 3) := by decide +kernel
theorem dX4_add_11 : decode cX4_add 11 = .ok (.bipush 15, 2) := by decide +kernel
theorem dX4_add_13 : decode cX4_add 13 = .ok (.if_icmp .lt 5, 3) := by decide +kernel
theorem dX4_add_16 : decode cX4_add 16 = .ok (.iconst 0, 1) := by decide +kernel
theorem dX4_add_17 : decode cX4_add 17 = .ok (.ireturn, 1) := by decide +kernel
theorem dX4_add_18 : decode cX4_add 18 = .ok (.aload_n 0, 1) := by decide +kernel
theorem dX4_add_19 : decode cX4_add 19 = .ok (.getfield 15, 3) := by decide +kernel
theorem dX4_add_22 : decode cX4_add 22 = .ok (.aload_n 0, 1) := by decide +kernel
theorem dX4_add_23 : decode cX4_add 23 = .ok (.getfield 9, 3) := by decide +kernel
theorem dX4_add_26 : decode cX4_add 26 = .ok (.iload_n 1, 1) := by decide +kernel
theorem dX4_add_27 : decode cX4_add 27 = .ok (.iastore, 1) := by decide +kernel
theorem dX4_add_28 : decode cX4_add 28 = .ok (.aload_n 0, 1) := by decide +kernel
theorem dX4_add_29 : decode cX4_add 29 = .ok (.getfield 19, 3) := by decide +kernel
theorem dX4_add_32 : decode cX4_add 32 = .ok (.aload_n 0, 1) := by decide +kernel
theorem dX4_add_33 : decode cX4_add 33 = .ok (.getfield 9, 3) := by decide +kernel
theorem dX4_add_36 : decode cX4_add 36 = .ok (.iload_n 2, 1) := by decide +kernel
theorem dX4_add_37 : decode cX4_add 37 = .ok (.iastore, 1) := by decide +kernel
theorem dX4_add_38 : decode cX4_add 38 = .ok (.aload_n 0, 1) := by decide +kernel
theorem dX4_add_39 : decode cX4_add 39 = .ok (.getfield 22, 3) := by decide +kernel
theorem dX4_add_42 : decode cX4_add 42 = .ok (.aload_n 0, 1) := by decide +kernel
theorem dX4_add_43 : decode cX4_add 43 = .ok (.getfield 9, 3) := by decide +kernel
theorem dX4_add_46 : decode cX4_add 46 = .ok (.iload_n 3, 1) := by decide +kernel
theorem dX4_add_47 : decode cX4_add 47 = .ok (.iastore, 1) := by decide +kernel
theorem dX4_add_48 : decode cX4_add 48 = .ok (.aload_n 0, 1) := by decide +kernel
theorem dX4_add_49 : decode cX4_add 49 = .ok (.dup, 1) := by decide +kernel
theorem dX4_add_50 : decode cX4_add 50 = .ok (.getfield 9, 3) := by decide +kernel
theorem dX4_add_53 : decode cX4_add 53 = .ok (.iconst 1, 1) := by decide +kernel
theorem dX4_add_54 : decode cX4_add 54 = .ok (.iadd, 1) := by decide +kernel
theorem dX4_add_55 : decode cX4_add 55 = .ok (.putfield 9, 3) := by decide +kernel
theorem dX4_add_58 : decode cX4_add 58 = .ok (.iconst 1, 1) := by decide +kernel
theorem dX4_add_59 : decode cX4_add 59 = .ok (.ireturn, 1) := by decide +kernel
set_option maxRecDepth 20000 in
theorem ggX4_isWhole_X4_operandsOf : GoodIn wsX4_isWhole wsX4_operandsOf := goodIn_r _ [6] (by decide +kernel) (by decide +kernel)
set_option maxRecDepth 20000 in
theorem gX4_isWhole_X4_operandsOf : GoodIn wsX4_isWhole (va_wsS RX4 32 yX4_operandsOf wsX4_operandsOf) := goodIn_app (goodIn_of _ (by decide +kernel)) ggX4_isWhole_X4_operandsOf
theorem dX4_isWhole_0 : decode cX4_isWhole 0 = .ok (.iconst 1, 1) := by decide +kernel
theorem dX4_isWhole_1 : decode cX4_isWhole 1 = .ok (.istore_n 1, 1) := by decide +kernel
theorem dX4_isWhole_2 : decode cX4_isWhole 2 = .ok (.iconst 0, 1) := by decide +kernel
theorem dX4_isWhole_3 : decode cX4_isWhole 3 = .ok (.istore_n 2, 1) := by decide +kernel
theorem dX4_isWhole_4 : decode cX4_isWhole 4 = .ok (.iload_n 2, 1) := by decide +kernel
theorem dX4_isWhole_5 : decode cX4_isWhole 5 = .ok (.aload_n 0, 1) := by decide +kernel
theorem dX4_isWhole_6 : decode cX4_isWhole 6 = .ok (.getfield 9, 3) := by decide +kernel
theorem dX4_isWhole_9 : decode cX4_isWhole 9 = .ok (.if_icmp .ge 35, 3) := by decide +kernel
theorem dX4_isWhole_12 : decode cX4_isWhole 12 = .ok (.iload_n 2, 1) := by decide +kernel
theorem dX4_isWhole_13 : decode cX4_isWhole 13 = .ok (.bipush 15, 2) := by decide +kernel
theorem dX4_isWhole_15 : decode cX4_isWhole 15 = .ok (.if_icmp .ge 29, 3) := by decide +kernel
theorem dX4_isWhole_18 : decode cX4_isWhole 18 = .ok (.iload_n 1, 1) := by decide +kernel
theorem dX4_isWhole_19 : decode cX4_isWhole 19 = .ok (.ifCond .ne 5, 3) := by decide +kernel
theorem dX4_isWhole_22 : decode cX4_isWhole 22 = .ok (.iconst 0, 1) := by decide +kernel
theorem dX4_isWhole_23 : decode cX4_isWhole 23 = .ok (.ireturn, 1) := by decide +kernel
theorem dX4_isWhole_24 : decode cX4_isWhole 24 = .ok (.iload_n 1, 1) := by decide +kernel
theorem dX4_isWhole_25 : decode cX4_isWhole 25 = .ok (.aload_n 0, 1) := by decide +kernel
theorem dX4_isWhole_26 : decode cX4_isWhole 26 = .ok (.getfield 15, 3) := by decide +kernel
theorem dX4_isWhole_29 : decode cX4_isWhole 29 = .ok (.iload_n 2, 1) := by decide +kernel
theorem dX4_isWhole_30 : decode cX4_isWhole 30 = .ok (.iaload, 1) := by decide +kernel
theorem dX4_isWhole_31 : decode cX4_isWhole 31 = .ok (.invokestatic 32, 3) := by decide +kernel
theorem dX4_isWhole_34 : decode cX4_isWhole 34 = .ok (.iconst 1, 1) := by decide +kernel
theorem dX4_isWhole_35 : decode cX4_isWhole 35 = .ok (.isub, 1) := by decide +kernel
theorem dX4_isWhole_36 : decode cX4_isWhole 36 = .ok (.iadd, 1) := by decide +kernel
theorem dX4_isWhole_37 : decode cX4_isWhole 37 = .ok (.istore_n 1, 1) := by decide +kernel
theorem dX4_isWhole_38 : decode cX4_isWhole 38 = .ok (.iinc 2 1, 3) := by decide +kernel
theorem dX4_isWhole_41 : decode cX4_isWhole 41 = .ok (.goto (-37), 3) := by decide +kernel
theorem dX4_isWhole_44 : decode cX4_isWhole 44 = .ok (.iload_n 1, 1) := by decide +kernel
theorem dX4_isWhole_45 : decode cX4_isWhole 45 = .ok (.ifCond .ne 7, 3) := by decide +kernel
theorem dX4_isWhole_48 : decode cX4_isWhole 48 = .ok (.iconst 1, 1) := by decide +kernel
theorem dX4_isWhole_49 : decode cX4_isWhole 49 = .ok (.goto 4, 3) := by decide +kernel
theorem dX4_isWhole_52 : decode cX4_isWhole 52 = .ok (.iconst 0, 1) := by decide +kernel
theorem dX4_isWhole_53 : decode cX4_isWhole 53 = .ok (.ireturn, 1) := by decide +kernel
set_option maxRecDepth 20000 in
theorem ggX4_scoreOf_X4_operandsOf : GoodIn wsX4_scoreOf wsX4_operandsOf := goodIn_r _ [12] (by decide +kernel) (by decide +kernel)
set_option maxRecDepth 20000 in
theorem gX4_scoreOf_X4_operandsOf : GoodIn wsX4_scoreOf (va_wsS RX4 32 yX4_operandsOf wsX4_operandsOf) := goodIn_app (goodIn_of _ (by decide +kernel)) ggX4_scoreOf_X4_operandsOf
set_option maxRecDepth 20000 in
theorem ggX4_scoreOf_X4_openLeaf : GoodIn wsX4_scoreOf wsX4_openLeaf := goodIn_r _ [16, 6, 17, 18, 8, 7, 19, 20, 11, 21, 22, 23, 24, 25, 26, 27, 28, 29, 30, 35, 36, 37, 38, 39, 40] (by decide +kernel) (by decide +kernel)
set_option maxRecDepth 20000 in
theorem gX4_scoreOf_X4_openLeaf : GoodIn wsX4_scoreOf (wsV RX4 42 RX4 yX4_openLeaf wsX4_openLeaf) := goodIn_app (goodIn_of _ (by decide +kernel)) ggX4_scoreOf_X4_openLeaf
set_option maxRecDepth 20000 in
theorem ggX4_scoreOf_X4_joinOpen : GoodIn wsX4_scoreOf wsX4_joinOpen := goodIn_r _ [34, 7, 8, 35, 36, 37, 38, 39, 40] (by decide +kernel) (by decide +kernel)
set_option maxRecDepth 20000 in
theorem gX4_scoreOf_X4_joinOpen : GoodIn wsX4_scoreOf (wsV RX4 46 RX4 yX4_joinOpen wsX4_joinOpen) := goodIn_app (goodIn_of _ (by decide +kernel)) ggX4_scoreOf_X4_joinOpen
theorem dX4_scoreOf_0 : decode cX4_scoreOf 0 = .ok (.iconst 0, 1) := by decide +kernel
theorem dX4_scoreOf_1 : decode cX4_scoreOf 1 = .ok (.istore_n 3, 1) := by decide +kernel
theorem dX4_scoreOf_2 : decode cX4_scoreOf 2 = .ok (.aload_n 0, 1) := by decide +kernel
theorem dX4_scoreOf_3 : decode cX4_scoreOf 3 = .ok (.getfield 9, 3) := by decide +kernel
theorem dX4_scoreOf_6 : decode cX4_scoreOf 6 = .ok (.bipush 15, 2) := by decide +kernel
theorem dX4_scoreOf_8 : decode cX4_scoreOf 8 = .ok (.invokestatic 36, 3) := by decide +kernel
theorem dX4_scoreOf_11 : decode cX4_scoreOf 11 = .ok (.iconst 1, 1) := by decide +kernel
theorem dX4_scoreOf_12 : decode cX4_scoreOf 12 = .ok (.isub, 1) := by decide +kernel
theorem dX4_scoreOf_13 : decode cX4_scoreOf 13 = .ok (.istore 4, 2) := by decide +kernel
theorem dX4_scoreOf_15 : decode cX4_scoreOf 15 = .ok (.iload 4, 2) := by decide +kernel
theorem dX4_scoreOf_17 : decode cX4_scoreOf 17 = .ok (.ifCond .lt 77, 3) := by decide +kernel
theorem dX4_scoreOf_20 : decode cX4_scoreOf 20 = .ok (.aload_n 0, 1) := by decide +kernel
theorem dX4_scoreOf_21 : decode cX4_scoreOf 21 = .ok (.getfield 15, 3) := by decide +kernel
theorem dX4_scoreOf_24 : decode cX4_scoreOf 24 = .ok (.iload 4, 2) := by decide +kernel
theorem dX4_scoreOf_26 : decode cX4_scoreOf 26 = .ok (.iaload, 1) := by decide +kernel
theorem dX4_scoreOf_27 : decode cX4_scoreOf 27 = .ok (.invokestatic 32, 3) := by decide +kernel
theorem dX4_scoreOf_30 : decode cX4_scoreOf 30 = .ok (.istore 5, 2) := by decide +kernel
theorem dX4_scoreOf_32 : decode cX4_scoreOf 32 = .ok (.iload_n 3, 1) := by decide +kernel
theorem dX4_scoreOf_33 : decode cX4_scoreOf 33 = .ok (.iload 5, 2) := by decide +kernel
theorem dX4_scoreOf_35 : decode cX4_scoreOf 35 = .ok (.if_icmp .lt 12, 3) := by decide +kernel
theorem dX4_scoreOf_38 : decode cX4_scoreOf 38 = .ok (.iload_n 3, 1) := by decide +kernel
theorem dX4_scoreOf_39 : decode cX4_scoreOf 39 = .ok (.iload 5, 2) := by decide +kernel
theorem dX4_scoreOf_41 : decode cX4_scoreOf 41 = .ok (.isub, 1) := by decide +kernel
theorem dX4_scoreOf_42 : decode cX4_scoreOf 42 = .ok (.bipush 15, 2) := by decide +kernel
theorem dX4_scoreOf_44 : decode cX4_scoreOf 44 = .ok (.if_icmp .lt 5, 3) := by decide +kernel
theorem dX4_scoreOf_47 : decode cX4_scoreOf 47 = .ok (.iconst (-1), 1) := by decide +kernel
theorem dX4_scoreOf_48 : decode cX4_scoreOf 48 = .ok (.ireturn, 1) := by decide +kernel
theorem dX4_scoreOf_49 : decode cX4_scoreOf 49 = .ok (.iload_n 3, 1) := by decide +kernel
theorem dX4_scoreOf_50 : decode cX4_scoreOf 50 = .ok (.iload 5, 2) := by decide +kernel
theorem dX4_scoreOf_52 : decode cX4_scoreOf 52 = .ok (.isub, 1) := by decide +kernel
theorem dX4_scoreOf_53 : decode cX4_scoreOf 53 = .ok (.iconst 1, 1) := by decide +kernel
theorem dX4_scoreOf_54 : decode cX4_scoreOf 54 = .ok (.iadd, 1) := by decide +kernel
theorem dX4_scoreOf_55 : decode cX4_scoreOf 55 = .ok (.istore_n 3, 1) := by decide +kernel
theorem dX4_scoreOf_56 : decode cX4_scoreOf 56 = .ok (.iload 5, 2) := by decide +kernel
theorem dX4_scoreOf_58 : decode cX4_scoreOf 58 = .ok (.ifCond .ne 16, 3) := by decide +kernel
theorem dX4_scoreOf_61 : decode cX4_scoreOf 61 = .ok (.aload_n 0, 1) := by decide +kernel
theorem dX4_scoreOf_62 : decode cX4_scoreOf 62 = .ok (.iload 4, 2) := by decide +kernel
theorem dX4_scoreOf_64 : decode cX4_scoreOf 64 = .ok (.iload_n 3, 1) := by decide +kernel
theorem dX4_scoreOf_65 : decode cX4_scoreOf 65 = .ok (.iconst 1, 1) := by decide +kernel
theorem dX4_scoreOf_66 : decode cX4_scoreOf 66 = .ok (.isub, 1) := by decide +kernel
theorem dX4_scoreOf_67 : decode cX4_scoreOf 67 = .ok (.lload_n 1, 1) := by decide +kernel
theorem dX4_scoreOf_68 : decode cX4_scoreOf 68 = .ok (.invokevirtual 42, 3) := by decide +kernel
theorem dX4_scoreOf_71 : decode cX4_scoreOf 71 = .ok (.goto 17, 3) := by decide +kernel
theorem dX4_scoreOf_74 : decode cX4_scoreOf 74 = .ok (.aload_n 0, 1) := by decide +kernel
theorem dX4_scoreOf_75 : decode cX4_scoreOf 75 = .ok (.aload_n 0, 1) := by decide +kernel
theorem dX4_scoreOf_76 : decode cX4_scoreOf 76 = .ok (.getfield 15, 3) := by decide +kernel
theorem dX4_scoreOf_79 : decode cX4_scoreOf 79 = .ok (.iload 4, 2) := by decide +kernel
theorem dX4_scoreOf_81 : decode cX4_scoreOf 81 = .ok (.iaload, 1) := by decide +kernel
theorem dX4_scoreOf_82 : decode cX4_scoreOf 82 = .ok (.iload_n 3, 1) := by decide +kernel
theorem dX4_scoreOf_83 : decode cX4_scoreOf 83 = .ok (.iconst 1, 1) := by decide +kernel
theorem dX4_scoreOf_84 : decode cX4_scoreOf 84 = .ok (.isub, 1) := by decide +kernel
theorem dX4_scoreOf_85 : decode cX4_scoreOf 85 = .ok (.invokevirtual 46, 3) := by decide +kernel
theorem dX4_scoreOf_88 : decode cX4_scoreOf 88 = .ok (.iinc 4 (-1), 3) := by decide +kernel
theorem dX4_scoreOf_91 : decode cX4_scoreOf 91 = .ok (.goto (-76), 3) := by decide +kernel
theorem dX4_scoreOf_94 : decode cX4_scoreOf 94 = .ok (.iload_n 3, 1) := by decide +kernel
theorem dX4_scoreOf_95 : decode cX4_scoreOf 95 = .ok (.iconst 1, 1) := by decide +kernel
theorem dX4_scoreOf_96 : decode cX4_scoreOf 96 = .ok (.if_icmp .ne 21, 3) := by decide +kernel
theorem dX4_scoreOf_99 : decode cX4_scoreOf 99 = .ok (.aload_n 0, 1) := by decide +kernel
theorem dX4_scoreOf_100 : decode cX4_scoreOf 100 = .ok (.getfield 25, 3) := by decide +kernel
theorem dX4_scoreOf_103 : decode cX4_scoreOf 103 = .ok (.iconst 0, 1) := by decide +kernel
theorem dX4_scoreOf_104 : decode cX4_scoreOf 104 = .ok (.baload, 1) := by decide +kernel
theorem dX4_scoreOf_105 : decode cX4_scoreOf 105 = .ok (.ifCond .eq 12, 3) := by decide +kernel
theorem dX4_scoreOf_108 : decode cX4_scoreOf 108 = .ok (.aload_n 0, 1) := by decide +kernel
theorem dX4_scoreOf_109 : decode cX4_scoreOf 109 = .ok (.getfield 29, 3) := by decide +kernel
theorem dX4_scoreOf_112 : decode cX4_scoreOf 112 = .ok (.iconst 0, 1) := by decide +kernel
theorem dX4_scoreOf_113 : decode cX4_scoreOf 113 = .ok (.iaload, 1) := by decide +kernel
theorem dX4_scoreOf_114 : decode cX4_scoreOf 114 = .ok (.goto 4, 3) := by decide +kernel
theorem dX4_scoreOf_117 : decode cX4_scoreOf 117 = .ok (.iconst (-1), 1) := by decide +kernel
theorem dX4_scoreOf_118 : decode cX4_scoreOf 118 = .ok (.ireturn, 1) := by decide +kernel
theorem dX4_operandsOf_0 : decode cX4_operandsOf 0 = .ok (.iload_n 0, 1) := by decide +kernel
theorem dX4_operandsOf_1 : decode cX4_operandsOf 1 = .ok (.iconst 4, 1) := by decide +kernel
theorem dX4_operandsOf_2 : decode cX4_operandsOf 2 = .ok (.if_icmp .eq 8, 3) := by decide +kernel
theorem dX4_operandsOf_5 : decode cX4_operandsOf 5 = .ok (.iload_n 0, 1) := by decide +kernel
theorem dX4_operandsOf_6 : decode cX4_operandsOf 6 = .ok (.iconst 5, 1) := by decide +kernel
theorem dX4_operandsOf_7 : decode cX4_operandsOf 7 = .ok (.if_icmp .ne 5, 3) := by decide +kernel
theorem dX4_operandsOf_10 : decode cX4_operandsOf 10 = .ok (.iconst 2, 1) := by decide +kernel
theorem dX4_operandsOf_11 : decode cX4_operandsOf 11 = .ok (.ireturn, 1) := by decide +kernel
theorem dX4_operandsOf_12 : decode cX4_operandsOf 12 = .ok (.iload_n 0, 1) := by decide +kernel
theorem dX4_operandsOf_13 : decode cX4_operandsOf 13 = .ok (.bipush 6, 2) := by decide +kernel
theorem dX4_operandsOf_15 : decode cX4_operandsOf 15 = .ok (.if_icmp .ne 7, 3) := by decide +kernel
theorem dX4_operandsOf_18 : decode cX4_operandsOf 18 = .ok (.iconst 1, 1) := by decide +kernel
theorem dX4_operandsOf_19 : decode cX4_operandsOf 19 = .ok (.goto 4, 3) := by decide +kernel
theorem dX4_operandsOf_22 : decode cX4_operandsOf 22 = .ok (.iconst 0, 1) := by decide +kernel
theorem dX4_operandsOf_23 : decode cX4_operandsOf 23 = .ok (.ireturn, 1) := by decide +kernel
set_option maxRecDepth 20000 in
theorem ggX4_openLeaf_X4_leafScore : GoodIn wsX4_openLeaf wsX4_leafScore := goodIn_r _ [9, 10, 11, 8, 12, 13, 14, 15, 16, 17, 18] (by decide +kernel) (by decide +kernel)
set_option maxRecDepth 20000 in
theorem gX4_openLeaf_X4_leafScore : GoodIn wsX4_openLeaf (va_wsS RX4 50 yX4_leafScore wsX4_leafScore) := goodIn_app (goodIn_of _ (by decide +kernel)) ggX4_openLeaf_X4_leafScore
theorem dX4_openLeaf_0 : decode cX4_openLeaf 0 = .ok (.aload_n 0, 1) := by decide +kernel
theorem dX4_openLeaf_1 : decode cX4_openLeaf 1 = .ok (.getfield 15, 3) := by decide +kernel
theorem dX4_openLeaf_4 : decode cX4_openLeaf 4 = .ok (.iload_n 1, 1) := by decide +kernel
theorem dX4_openLeaf_5 : decode cX4_openLeaf 5 = .ok (.iaload, 1) := by decide +kernel
theorem dX4_openLeaf_6 : decode cX4_openLeaf 6 = .ok (.aload_n 0, 1) := by decide +kernel
theorem dX4_openLeaf_7 : decode cX4_openLeaf 7 = .ok (.getfield 19, 3) := by decide +kernel
theorem dX4_openLeaf_10 : decode cX4_openLeaf 10 = .ok (.iload_n 1, 1) := by decide +kernel
theorem dX4_openLeaf_11 : decode cX4_openLeaf 11 = .ok (.iaload, 1) := by decide +kernel
theorem dX4_openLeaf_12 : decode cX4_openLeaf 12 = .ok (.aload_n 0, 1) := by decide +kernel
theorem dX4_openLeaf_13 : decode cX4_openLeaf 13 = .ok (.getfield 22, 3) := by decide +kernel
theorem dX4_openLeaf_16 : decode cX4_openLeaf 16 = .ok (.iload_n 1, 1) := by decide +kernel
theorem dX4_openLeaf_17 : decode cX4_openLeaf 17 = .ok (.iaload, 1) := by decide +kernel
theorem dX4_openLeaf_18 : decode cX4_openLeaf 18 = .ok (.lload_n 3, 1) := by decide +kernel
theorem dX4_openLeaf_19 : decode cX4_openLeaf 19 = .ok (.invokestatic 50, 3) := by decide +kernel
theorem dX4_openLeaf_22 : decode cX4_openLeaf 22 = .ok (.istore 5, 2) := by decide +kernel
theorem dX4_openLeaf_24 : decode cX4_openLeaf 24 = .ok (.aload_n 0, 1) := by decide +kernel
theorem dX4_openLeaf_25 : decode cX4_openLeaf 25 = .ok (.getfield 29, 3) := by decide +kernel
theorem dX4_openLeaf_28 : decode cX4_openLeaf 28 = .ok (.iload_n 2, 1) := by decide +kernel
theorem dX4_openLeaf_29 : decode cX4_openLeaf 29 = .ok (.iload 5, 2) := by decide +kernel
theorem dX4_openLeaf_31 : decode cX4_openLeaf 31 = .ok (.iastore, 1) := by decide +kernel
theorem dX4_openLeaf_32 : decode cX4_openLeaf 32 = .ok (.aload_n 0, 1) := by decide +kernel
theorem dX4_openLeaf_33 : decode cX4_openLeaf 33 = .ok (.getfield 25, 3) := by decide +kernel
theorem dX4_openLeaf_36 : decode cX4_openLeaf 36 = .ok (.iload_n 2, 1) := by decide +kernel
theorem dX4_openLeaf_37 : decode cX4_openLeaf 37 = .ok (.iload 5, 2) := by decide +kernel
theorem dX4_openLeaf_39 : decode cX4_openLeaf 39 = .ok (.ifCond .le 7, 3) := by decide +kernel
theorem dX4_openLeaf_42 : decode cX4_openLeaf 42 = .ok (.iconst 1, 1) := by decide +kernel
theorem dX4_openLeaf_43 : decode cX4_openLeaf 43 = .ok (.goto 4, 3) := by decide +kernel
theorem dX4_openLeaf_46 : decode cX4_openLeaf 46 = .ok (.iconst 0, 1) := by decide +kernel
theorem dX4_openLeaf_47 : decode cX4_openLeaf 47 = .ok (.bastore, 1) := by decide +kernel
theorem dX4_openLeaf_48 : decode cX4_openLeaf 48 = .ok (.return_, 1) := by decide +kernel
theorem dX4_joinOpen_0 : decode cX4_joinOpen 0 = .ok (.iload_n 1, 1) := by decide +kernel
theorem dX4_joinOpen_1 : decode cX4_joinOpen 1 = .ok (.bipush 6, 2) := by decide +kernel
theorem dX4_joinOpen_3 : decode cX4_joinOpen 3 = .ok (.if_icmp .ne 31, 3) := by decide +kernel
theorem dX4_joinOpen_6 : decode cX4_joinOpen 6 = .ok (.aload_n 0, 1) := by decide +kernel
theorem dX4_joinOpen_7 : decode cX4_joinOpen 7 = .ok (.getfield 25, 3) := by decide +kernel
theorem dX4_joinOpen_10 : decode cX4_joinOpen 10 = .ok (.iload_n 2, 1) := by decide +kernel
theorem dX4_joinOpen_11 : decode cX4_joinOpen 11 = .ok (.aload_n 0, 1) := by decide +kernel
theorem dX4_joinOpen_12 : decode cX4_joinOpen 12 = .ok (.getfield 25, 3) := by decide +kernel
theorem dX4_joinOpen_15 : decode cX4_joinOpen 15 = .ok (.iload_n 2, 1) := by decide +kernel
theorem dX4_joinOpen_16 : decode cX4_joinOpen 16 = .ok (.baload, 1) := by decide +kernel
theorem dX4_joinOpen_17 : decode cX4_joinOpen 17 = .ok (.ifCond .ne 7, 3) := by decide +kernel
theorem dX4_joinOpen_20 : decode cX4_joinOpen 20 = .ok (.iconst 1, 1) := by decide +kernel
theorem dX4_joinOpen_21 : decode cX4_joinOpen 21 = .ok (.goto 4, 3) := by decide +kernel
theorem dX4_joinOpen_24 : decode cX4_joinOpen 24 = .ok (.iconst 0, 1) := by decide +kernel
theorem dX4_joinOpen_25 : decode cX4_joinOpen 25 = .ok (.bastore, 1) := by decide +kernel
theorem dX4_joinOpen_26 : decode cX4_joinOpen 26 = .ok (.aload_n 0, 1) := by decide +kernel
theorem dX4_joinOpen_27 : decode cX4_joinOpen 27 = .ok (.getfield 29, 3) := by decide +kernel
theorem dX4_joinOpen_30 : decode cX4_joinOpen 30 = .ok (.iload_n 2, 1) := by decide +kernel
theorem dX4_joinOpen_31 : decode cX4_joinOpen 31 = .ok (.iconst 0, 1) := by decide +kernel
theorem dX4_joinOpen_32 : decode cX4_joinOpen 32 = .ok (.iastore, 1) := by decide +kernel
theorem dX4_joinOpen_33 : decode cX4_joinOpen 33 = .ok (.return_, 1) := by decide +kernel
theorem dX4_joinOpen_34 : decode cX4_joinOpen 34 = .ok (.iload_n 2, 1) := by decide +kernel
theorem dX4_joinOpen_35 : decode cX4_joinOpen 35 = .ok (.iconst 1, 1) := by decide +kernel
theorem dX4_joinOpen_36 : decode cX4_joinOpen 36 = .ok (.iadd, 1) := by decide +kernel
theorem dX4_joinOpen_37 : decode cX4_joinOpen 37 = .ok (.bipush 15, 2) := by decide +kernel
theorem dX4_joinOpen_39 : decode cX4_joinOpen 39 = .ok (.if_icmp .lt 4, 3) := by decide +kernel
theorem dX4_joinOpen_42 : decode cX4_joinOpen 42 = .ok (.return_, 1) := by decide +kernel
theorem dX4_joinOpen_43 : decode cX4_joinOpen 43 = .ok (.aload_n 0, 1) := by decide +kernel
theorem dX4_joinOpen_44 : decode cX4_joinOpen 44 = .ok (.getfield 25, 3) := by decide +kernel
theorem dX4_joinOpen_47 : decode cX4_joinOpen 47 = .ok (.iload_n 2, 1) := by decide +kernel
theorem dX4_joinOpen_48 : decode cX4_joinOpen 48 = .ok (.baload, 1) := by decide +kernel
theorem dX4_joinOpen_49 : decode cX4_joinOpen 49 = .ok (.istore_n 3, 1) := by decide +kernel
theorem dX4_joinOpen_50 : decode cX4_joinOpen 50 = .ok (.aload_n 0, 1) := by decide +kernel
theorem dX4_joinOpen_51 : decode cX4_joinOpen 51 = .ok (.getfield 25, 3) := by decide +kernel
theorem dX4_joinOpen_54 : decode cX4_joinOpen 54 = .ok (.iload_n 2, 1) := by decide +kernel
theorem dX4_joinOpen_55 : decode cX4_joinOpen 55 = .ok (.iconst 1, 1) := by decide +kernel
theorem dX4_joinOpen_56 : decode cX4_joinOpen 56 = .ok (.iadd, 1) := by decide +kernel
theorem dX4_joinOpen_57 : decode cX4_joinOpen 57 = .ok (.baload, 1) := by decide +kernel
theorem dX4_joinOpen_58 : decode cX4_joinOpen 58 = .ok (.istore 4, 2) := by decide +kernel
theorem dX4_joinOpen_60 : decode cX4_joinOpen 60 = .ok (.aload_n 0, 1) := by decide +kernel
theorem dX4_joinOpen_61 : decode cX4_joinOpen 61 = .ok (.getfield 25, 3) := by decide +kernel
theorem dX4_joinOpen_64 : decode cX4_joinOpen 64 = .ok (.iload_n 2, 1) := by decide +kernel
theorem dX4_joinOpen_65 : decode cX4_joinOpen 65 = .ok (.iload_n 1, 1) := by decide +kernel
theorem dX4_joinOpen_66 : decode cX4_joinOpen 66 = .ok (.iconst 4, 1) := by decide +kernel
theorem dX4_joinOpen_67 : decode cX4_joinOpen 67 = .ok (.if_icmp .ne 20, 3) := by decide +kernel
theorem dX4_joinOpen_70 : decode cX4_joinOpen 70 = .ok (.iload_n 3, 1) := by decide +kernel
theorem dX4_joinOpen_71 : decode cX4_joinOpen 71 = .ok (.ifCond .eq 12, 3) := by decide +kernel
theorem dX4_joinOpen_74 : decode cX4_joinOpen 74 = .ok (.iload 4, 2) := by decide +kernel
theorem dX4_joinOpen_76 : decode cX4_joinOpen 76 = .ok (.ifCond .eq 7, 3) := by decide +kernel
theorem dX4_joinOpen_79 : decode cX4_joinOpen 79 = .ok (.iconst 1, 1) := by decide +kernel
theorem dX4_joinOpen_80 : decode cX4_joinOpen 80 = .ok (.goto 21, 3) := by decide +kernel
theorem dX4_joinOpen_83 : decode cX4_joinOpen 83 = .ok (.iconst 0, 1) := by decide +kernel
theorem dX4_joinOpen_84 : decode cX4_joinOpen 84 = .ok (.goto 17, 3) := by decide +kernel
theorem dX4_joinOpen_87 : decode cX4_joinOpen 87 = .ok (.iload_n 3, 1) := by decide +kernel
theorem dX4_joinOpen_88 : decode cX4_joinOpen 88 = .ok (.ifCond .ne 8, 3) := by decide +kernel
theorem dX4_joinOpen_91 : decode cX4_joinOpen 91 = .ok (.iload 4, 2) := by decide +kernel
theorem dX4_joinOpen_93 : decode cX4_joinOpen 93 = .ok (.ifCond .eq 7, 3) := by decide +kernel
theorem dX4_joinOpen_96 : decode cX4_joinOpen 96 = .ok (.iconst 1, 1) := by decide +kernel
theorem dX4_joinOpen_97 : decode cX4_joinOpen 97 = .ok (.goto 4, 3) := by decide +kernel
theorem dX4_joinOpen_100 : decode cX4_joinOpen 100 = .ok (.iconst 0, 1) := by decide +kernel
theorem dX4_joinOpen_101 : decode cX4_joinOpen 101 = .ok (.bastore, 1) := by decide +kernel
theorem dX4_joinOpen_102 : decode cX4_joinOpen 102 = .ok (.aload_n 0, 1) := by decide +kernel
theorem dX4_joinOpen_103 : decode cX4_joinOpen 103 = .ok (.getfield 29, 3) := by decide +kernel
theorem dX4_joinOpen_106 : decode cX4_joinOpen 106 = .ok (.iload_n 2, 1) := by decide +kernel
theorem dX4_joinOpen_107 : decode cX4_joinOpen 107 = .ok (.dup2, 1) := by decide +kernel
theorem dX4_joinOpen_108 : decode cX4_joinOpen 108 = .ok (.iaload, 1) := by decide +kernel
theorem dX4_joinOpen_109 : decode cX4_joinOpen 109 = .ok (.aload_n 0, 1) := by decide +kernel
theorem dX4_joinOpen_110 : decode cX4_joinOpen 110 = .ok (.getfield 29, 3) := by decide +kernel
theorem dX4_joinOpen_113 : decode cX4_joinOpen 113 = .ok (.iload_n 2, 1) := by decide +kernel
theorem dX4_joinOpen_114 : decode cX4_joinOpen 114 = .ok (.iconst 1, 1) := by decide +kernel
theorem dX4_joinOpen_115 : decode cX4_joinOpen 115 = .ok (.iadd, 1) := by decide +kernel
theorem dX4_joinOpen_116 : decode cX4_joinOpen 116 = .ok (.iaload, 1) := by decide +kernel
theorem dX4_joinOpen_117 : decode cX4_joinOpen 117 = .ok (.iadd, 1) := by decide +kernel
theorem dX4_joinOpen_118 : decode cX4_joinOpen 118 = .ok (.iastore, 1) := by decide +kernel
theorem dX4_joinOpen_119 : decode cX4_joinOpen 119 = .ok (.return_, 1) := by decide +kernel
set_option maxRecDepth 20000 in
theorem ggX4_leafScore_X4_countWord : GoodIn wsX4_leafScore wsX4_countWord := goodIn_r _ [4, 5, 6, 3, 7] (by decide +kernel) (by decide +kernel)
set_option maxRecDepth 20000 in
theorem gX4_leafScore_X4_countWord : GoodIn wsX4_leafScore (va_wsS RX4 54 yX4_countWord wsX4_countWord) := goodIn_app (goodIn_of _ (by decide +kernel)) ggX4_leafScore_X4_countWord
set_option maxRecDepth 20000 in
theorem ggX4_leafScore_X4_countPhrase : GoodIn wsX4_leafScore wsX4_countPhrase := goodIn_r _ [10, 5, 6, 3, 7] (by decide +kernel) (by decide +kernel)
set_option maxRecDepth 20000 in
theorem gX4_leafScore_X4_countPhrase : GoodIn wsX4_leafScore (va_wsS RX4 58 yX4_countPhrase wsX4_countPhrase) := goodIn_app (goodIn_of _ (by decide +kernel)) ggX4_leafScore_X4_countPhrase
theorem dX4_leafScore_0 : decode cX4_leafScore 0 = .ok (.iload_n 0, 1) := by decide +kernel
theorem dX4_leafScore_1 : decode cX4_leafScore 1 = .ok (.tableswitch 66 0 3 #[31, 33, 39, 48], 31) := by decide +kernel
theorem dX4_leafScore_32 : decode cX4_leafScore 32 = .ok (.iconst 1, 1) := by decide +kernel
theorem dX4_leafScore_33 : decode cX4_leafScore 33 = .ok (.ireturn, 1) := by decide +kernel
theorem dX4_leafScore_34 : decode cX4_leafScore 34 = .ok (.iload_n 1, 1) := by decide +kernel
theorem dX4_leafScore_35 : decode cX4_leafScore 35 = .ok (.lload_n 3, 1) := by decide +kernel
theorem dX4_leafScore_36 : decode cX4_leafScore 36 = .ok (.invokestatic 54, 3) := by decide +kernel
theorem dX4_leafScore_39 : decode cX4_leafScore 39 = .ok (.ireturn, 1) := by decide +kernel
theorem dX4_leafScore_40 : decode cX4_leafScore 40 = .ok (.iconst 2, 1) := by decide +kernel
theorem dX4_leafScore_41 : decode cX4_leafScore 41 = .ok (.iload_n 1, 1) := by decide +kernel
theorem dX4_leafScore_42 : decode cX4_leafScore 42 = .ok (.iload_n 2, 1) := by decide +kernel
theorem dX4_leafScore_43 : decode cX4_leafScore 43 = .ok (.lload_n 3, 1) := by decide +kernel
theorem dX4_leafScore_44 : decode cX4_leafScore 44 = .ok (.invokestatic 58, 3) := by decide +kernel
theorem dX4_leafScore_47 : decode cX4_leafScore 47 = .ok (.imul, 1) := by decide +kernel
theorem dX4_leafScore_48 : decode cX4_leafScore 48 = .ok (.ireturn, 1) := by decide +kernel
theorem dX4_leafScore_49 : decode cX4_leafScore 49 = .ok (.lload_n 3, 1) := by decide +kernel
theorem dX4_leafScore_50 : decode cX4_leafScore 50 = .ok (.l2i, 1) := by decide +kernel
theorem dX4_leafScore_51 : decode cX4_leafScore 51 = .ok (.iload_n 1, 1) := by decide +kernel
theorem dX4_leafScore_52 : decode cX4_leafScore 52 = .ok (.if_icmp .lt 13, 3) := by decide +kernel
theorem dX4_leafScore_55 : decode cX4_leafScore 55 = .ok (.lload_n 3, 1) := by decide +kernel
theorem dX4_leafScore_56 : decode cX4_leafScore 56 = .ok (.l2i, 1) := by decide +kernel
theorem dX4_leafScore_57 : decode cX4_leafScore 57 = .ok (.iload_n 2, 1) := by decide +kernel
theorem dX4_leafScore_58 : decode cX4_leafScore 58 = .ok (.if_icmp .gt 7, 3) := by decide +kernel
theorem dX4_leafScore_61 : decode cX4_leafScore 61 = .ok (.iconst 1, 1) := by decide +kernel
theorem dX4_leafScore_62 : decode cX4_leafScore 62 = .ok (.goto 4, 3) := by decide +kernel
theorem dX4_leafScore_65 : decode cX4_leafScore 65 = .ok (.iconst 0, 1) := by decide +kernel
theorem dX4_leafScore_66 : decode cX4_leafScore 66 = .ok (.ireturn, 1) := by decide +kernel
theorem dX4_leafScore_67 : decode cX4_leafScore 67 = .ok (.iconst 0, 1) := by decide +kernel
theorem dX4_leafScore_68 : decode cX4_leafScore 68 = .ok (.ireturn, 1) := by decide +kernel
theorem dX4_wordAt_0 : decode cX4_wordAt 0 = .ok (.lload_n 1, 1) := by decide +kernel
theorem dX4_wordAt_1 : decode cX4_wordAt 1 = .ok (.bipush 32, 2) := by decide +kernel
theorem dX4_wordAt_3 : decode cX4_wordAt 3 = .ok (.iconst 4, 1) := by decide +kernel
theorem dX4_wordAt_4 : decode cX4_wordAt 4 = .ok (.iload_n 0, 1) := by decide +kernel
theorem dX4_wordAt_5 : decode cX4_wordAt 5 = .ok (.imul, 1) := by decide +kernel
theorem dX4_wordAt_6 : decode cX4_wordAt 6 = .ok (.iadd, 1) := by decide +kernel
theorem dX4_wordAt_7 : decode cX4_wordAt 7 = .ok (.lushr, 1) := by decide +kernel
theorem dX4_wordAt_8 : decode cX4_wordAt 8 = .ok (.l2i, 1) := by decide +kernel
theorem dX4_wordAt_9 : decode cX4_wordAt 9 = .ok (.bipush 15, 2) := by decide +kernel
theorem dX4_wordAt_11 : decode cX4_wordAt 11 = .ok (.iand, 1) := by decide +kernel
theorem dX4_wordAt_12 : decode cX4_wordAt 12 = .ok (.ireturn, 1) := by decide +kernel
set_option maxRecDepth 20000 in
theorem ggX4_countWord_X4_wordAt : GoodIn wsX4_countWord wsX4_wordAt := goodIn_r _ [4] (by decide +kernel) (by decide +kernel)
set_option maxRecDepth 20000 in
theorem gX4_countWord_X4_wordAt : GoodIn wsX4_countWord (va_wsS RX4 62 yX4_wordAt wsX4_wordAt) := goodIn_app (goodIn_of _ (by decide +kernel)) ggX4_countWord_X4_wordAt
theorem dX4_countWord_0 : decode cX4_countWord 0 = .ok (.iconst 0, 1) := by decide +kernel
theorem dX4_countWord_1 : decode cX4_countWord 1 = .ok (.istore_n 3, 1) := by decide +kernel
theorem dX4_countWord_2 : decode cX4_countWord 2 = .ok (.iconst 0, 1) := by decide +kernel
theorem dX4_countWord_3 : decode cX4_countWord 3 = .ok (.istore 4, 2) := by decide +kernel
theorem dX4_countWord_5 : decode cX4_countWord 5 = .ok (.iload 4, 2) := by decide +kernel
theorem dX4_countWord_7 : decode cX4_countWord 7 = .ok (.bipush 8, 2) := by decide +kernel
theorem dX4_countWord_9 : decode cX4_countWord 9 = .ok (.if_icmp .ge 31, 3) := by decide +kernel
theorem dX4_countWord_12 : decode cX4_countWord 12 = .ok (.iload 4, 2) := by decide +kernel
theorem dX4_countWord_14 : decode cX4_countWord 14 = .ok (.lload_n 1, 1) := by decide +kernel
theorem dX4_countWord_15 : decode cX4_countWord 15 = .ok (.invokestatic 62, 3) := by decide +kernel
theorem dX4_countWord_18 : decode cX4_countWord 18 = .ok (.ifCond .eq 22, 3) := by decide +kernel
theorem dX4_countWord_21 : decode cX4_countWord 21 = .ok (.iload 4, 2) := by decide +kernel
theorem dX4_countWord_23 : decode cX4_countWord 23 = .ok (.lload_n 1, 1) := by decide +kernel
theorem dX4_countWord_24 : decode cX4_countWord 24 = .ok (.invokestatic 62, 3) := by decide +kernel
theorem dX4_countWord_27 : decode cX4_countWord 27 = .ok (.iload_n 0, 1) := by decide +kernel
theorem dX4_countWord_28 : decode cX4_countWord 28 = .ok (.if_icmp .ne 6, 3) := by decide +kernel
theorem dX4_countWord_31 : decode cX4_countWord 31 = .ok (.iinc 3 1, 3) := by decide +kernel
theorem dX4_countWord_34 : decode cX4_countWord 34 = .ok (.iinc 4 1, 3) := by decide +kernel
