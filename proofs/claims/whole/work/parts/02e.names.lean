theorem dX6_init_94 : decode cX6_init 94 = .ok (.putfield 45, 3) := by decide +kernel
theorem dX6_init_97 : decode cX6_init 97 = .ok (.aload_n 0, 1) := by decide +kernel
theorem dX6_init_98 : decode cX6_init 98 = .ok (.iconst (-1), 1) := by decide +kernel
theorem dX6_init_99 : decode cX6_init 99 = .ok (.putfield 49, 3) := by decide +kernel
theorem dX6_init_102 : decode cX6_init 102 = .ok (.aload_n 0, 1) := by decide +kernel
theorem dX6_init_103 : decode cX6_init 103 = .ok (.iconst (-1), 1) := by decide +kernel
theorem dX6_init_104 : decode cX6_init 104 = .ok (.putfield 52, 3) := by decide +kernel
theorem dX6_init_107 : decode cX6_init 107 = .ok (.aload_n 0, 1) := by decide +kernel
theorem dX6_init_108 : decode cX6_init 108 = .ok (.iconst (-1), 1) := by decide +kernel
theorem dX6_init_109 : decode cX6_init 109 = .ok (.putfield 55, 3) := by decide +kernel
theorem dX6_init_112 : decode cX6_init 112 = .ok (.aload_n 0, 1) := by decide +kernel
theorem dX6_init_113 : decode cX6_init 113 = .ok (.iconst (-1), 1) := by decide +kernel
theorem dX6_init_114 : decode cX6_init 114 = .ok (.putfield 58, 3) := by decide +kernel
theorem dX6_init_117 : decode cX6_init 117 = .ok (.aload_n 0, 1) := by decide +kernel
theorem dX6_init_118 : decode cX6_init 118 = .ok (.sipush 960, 3) := by decide +kernel
theorem dX6_init_121 : decode cX6_init 121 = .ok (.newarray .int, 2) := by decide +kernel
theorem dX6_init_123 : decode cX6_init 123 = .ok (.putfield 61, 3) := by decide +kernel
theorem dX6_init_126 : decode cX6_init 126 = .ok (.aload_n 0, 1) := by decide +kernel
theorem dX6_init_127 : decode cX6_init 127 = .ok (.iconst 4, 1) := by decide +kernel
theorem dX6_init_128 : decode cX6_init 128 = .ok (.newarray .int, 2) := by decide +kernel
theorem dX6_init_130 : decode cX6_init 130 = .ok (.putfield 64, 3) := by decide +kernel
theorem dX6_init_133 : decode cX6_init 133 = .ok (.aload_n 0, 1) := by decide +kernel
theorem dX6_init_134 : decode cX6_init 134 = .ok (.iconst 4, 1) := by decide +kernel
theorem dX6_init_135 : decode cX6_init 135 = .ok (.newarray .int, 2) := by decide +kernel
theorem dX6_init_137 : decode cX6_init 137 = .ok (.putfield 67, 3) := by decide +kernel
theorem dX6_init_140 : decode cX6_init 140 = .ok (.aload_n 0, 1) := by decide +kernel
theorem dX6_init_141 : decode cX6_init 141 = .ok (.iconst 1, 1) := by decide +kernel
theorem dX6_init_142 : decode cX6_init 142 = .ok (.putfield 70, 3) := by decide +kernel
theorem dX6_init_145 : decode cX6_init 145 = .ok (.aload_n 0, 1) := by decide +kernel
theorem dX6_init_146 : decode cX6_init 146 = .ok (.bipush 15, 2) := by decide +kernel
theorem dX6_init_148 : decode cX6_init 148 = .ok (.newarray .int, 2) := by decide +kernel
theorem dX6_init_150 : decode cX6_init 150 = .ok (.putfield 73, 3) := by decide +kernel
theorem dX6_init_153 : decode cX6_init 153 = .ok (.aload_n 0, 1) := by decide +kernel
theorem dX6_init_154 : decode cX6_init 154 = .ok (.bipush 15, 2) := by decide +kernel
theorem dX6_init_156 : decode cX6_init 156 = .ok (.newarray .int, 2) := by decide +kernel
theorem dX6_init_158 : decode cX6_init 158 = .ok (.putfield 76, 3) := by decide +kernel
theorem dX6_init_161 : decode cX6_init 161 = .ok (.aload_n 0, 1) := by decide +kernel
theorem dX6_init_162 : decode cX6_init 162 = .ok (.bipush 15, 2) := by decide +kernel
theorem dX6_init_164 : decode cX6_init 164 = .ok (.newarray .int, 2) := by decide +kernel
theorem dX6_init_166 : decode cX6_init 166 = .ok (.putfield 79, 3) := by decide +kernel
theorem dX6_init_169 : decode cX6_init 169 = .ok (.aload_n 0, 1) := by decide +kernel
theorem dX6_init_170 : decode cX6_init 170 = .ok (.bipush 16, 2) := by decide +kernel
theorem dX6_init_172 : decode cX6_init 172 = .ok (.newarray .int, 2) := by decide +kernel
theorem dX6_init_174 : decode cX6_init 174 = .ok (.putfield 82, 3) := by decide +kernel
theorem dX6_init_177 : decode cX6_init 177 = .ok (.aload_n 0, 1) := by decide +kernel
theorem dX6_init_178 : decode cX6_init 178 = .ok (.bipush 16, 2) := by decide +kernel
theorem dX6_init_180 : decode cX6_init 180 = .ok (.newarray .boolean, 2) := by decide +kernel
theorem dX6_init_182 : decode cX6_init 182 = .ok (.putfield 85, 3) := by decide +kernel
theorem dX6_init_185 : decode cX6_init 185 = .ok (.aload_n 0, 1) := by decide +kernel
theorem dX6_init_186 : decode cX6_init 186 = .ok (.getfield 67, 3) := by decide +kernel
theorem dX6_init_189 : decode cX6_init 189 = .ok (.iconst 0, 1) := by decide +kernel
theorem dX6_init_190 : decode cX6_init 190 = .ok (.iconst (-1), 1) := by decide +kernel
theorem dX6_init_191 : decode cX6_init 191 = .ok (.iastore, 1) := by decide +kernel
theorem dX6_init_192 : decode cX6_init 192 = .ok (.iconst 0, 1) := by decide +kernel
theorem dX6_init_193 : decode cX6_init 193 = .ok (.istore_n 1, 1) := by decide +kernel
theorem dX6_init_194 : decode cX6_init 194 = .ok (.iload_n 1, 1) := by decide +kernel
theorem dX6_init_195 : decode cX6_init 195 = .ok (.bipush 16, 2) := by decide +kernel
theorem dX6_init_197 : decode cX6_init 197 = .ok (.if_icmp .ge 30, 3) := by decide +kernel
theorem dX6_init_200 : decode cX6_init 200 = .ok (.aload_n 0, 1) := by decide +kernel
theorem dX6_init_201 : decode cX6_init 201 = .ok (.getfield 13, 3) := by decide +kernel
theorem dX6_init_204 : decode cX6_init 204 = .ok (.iload_n 1, 1) := by decide +kernel
theorem dX6_init_205 : decode cX6_init 205 = .ok (.iconst (-1), 1) := by decide +kernel
theorem dX6_init_206 : decode cX6_init 206 = .ok (.iastore, 1) := by decide +kernel
theorem dX6_init_207 : decode cX6_init 207 = .ok (.aload_n 0, 1) := by decide +kernel
theorem dX6_init_208 : decode cX6_init 208 = .ok (.getfield 22, 3) := by decide +kernel
theorem dX6_init_211 : decode cX6_init 211 = .ok (.iload_n 1, 1) := by decide +kernel
theorem dX6_init_212 : decode cX6_init 212 = .ok (.iconst (-1), 1) := by decide +kernel
theorem dX6_init_213 : decode cX6_init 213 = .ok (.iastore, 1) := by decide +kernel
theorem dX6_init_214 : decode cX6_init 214 = .ok (.aload_n 0, 1) := by decide +kernel
theorem dX6_init_215 : decode cX6_init 215 = .ok (.getfield 28, 3) := by decide +kernel
theorem dX6_init_218 : decode cX6_init 218 = .ok (.iload_n 1, 1) := by decide +kernel
theorem dX6_init_219 : decode cX6_init 219 = .ok (.iconst (-1), 1) := by decide +kernel
theorem dX6_init_220 : decode cX6_init 220 = .ok (.iastore, 1) := by decide +kernel
theorem dX6_init_221 : decode cX6_init 221 = .ok (.iinc 1 1, 3) := by decide +kernel
theorem dX6_init_224 : decode cX6_init 224 = .ok (.goto (-30), 3) := by decide +kernel
theorem dX6_init_227 : decode cX6_init 227 = .ok (.return_, 1) := by decide +kernel
theorem dX6_in_0 : decode cX6_in 0 = .ok (.iload_n 0, 1) := by decide +kernel
theorem dX6_in_1 : decode cX6_in 1 = .ok (.iload_n 1, 1) := by decide +kernel
theorem dX6_in_2 : decode cX6_in 2 = .ok (.if_icmp .lt 12, 3) := by decide +kernel
theorem dX6_in_5 : decode cX6_in 5 = .ok (.iload_n 0, 1) := by decide +kernel
theorem dX6_in_6 : decode cX6_in 6 = .ok (.iload_n 2, 1) := by decide +kernel
theorem dX6_in_7 : decode cX6_in 7 = .ok (.if_icmp .gt 7, 3) := by decide +kernel
theorem dX6_in_10 : decode cX6_in 10 = .ok (.iconst 1, 1) := by decide +kernel
theorem dX6_in_11 : decode cX6_in 11 = .ok (.goto 4, 3) := by decide +kernel
theorem dX6_in_14 : decode cX6_in 14 = .ok (.iconst 0, 1) := by decide +kernel
theorem dX6_in_15 : decode cX6_in 15 = .ok (.ireturn, 1) := by decide +kernel
theorem dX6_sizeOf_0 : decode cX6_sizeOf 0 = .ok (.iload_n 0, 1) := by decide +kernel
theorem dX6_sizeOf_1 : decode cX6_sizeOf 1 = .ok (.iconst 1, 1) := by decide +kernel
theorem dX6_sizeOf_2 : decode cX6_sizeOf 2 = .ok (.if_icmp .ne 8, 3) := by decide +kernel
theorem dX6_sizeOf_5 : decode cX6_sizeOf 5 = .ok (.bipush 14, 2) := by decide +kernel
theorem dX6_sizeOf_7 : decode cX6_sizeOf 7 = .ok (.goto 14, 3) := by decide +kernel
theorem dX6_sizeOf_10 : decode cX6_sizeOf 10 = .ok (.iload_n 0, 1) := by decide +kernel
theorem dX6_sizeOf_11 : decode cX6_sizeOf 11 = .ok (.iconst 2, 1) := by decide +kernel
theorem dX6_sizeOf_12 : decode cX6_sizeOf 12 = .ok (.if_icmp .ne 8, 3) := by decide +kernel
theorem dX6_sizeOf_15 : decode cX6_sizeOf 15 = .ok (.bipush 6, 2) := by decide +kernel
theorem dX6_sizeOf_17 : decode cX6_sizeOf 17 = .ok (.goto 4, 3) := by decide +kernel
theorem dX6_sizeOf_20 : decode cX6_sizeOf 20 = .ok (.iconst 3, 1) := by decide +kernel
theorem dX6_sizeOf_21 : decode cX6_sizeOf 21 = .ok (.ireturn, 1) := by decide +kernel
theorem dX6_current_0 : decode cX6_current 0 = .ok (.aload_n 0, 1) := by decide +kernel
theorem dX6_current_1 : decode cX6_current 1 = .ok (.getfield 70, 3) := by decide +kernel
theorem dX6_current_4 : decode cX6_current 4 = .ok (.iconst 1, 1) := by decide +kernel
theorem dX6_current_5 : decode cX6_current 5 = .ok (.isub, 1) := by decide +kernel
theorem dX6_current_6 : decode cX6_current 6 = .ok (.ireturn, 1) := by decide +kernel
set_option maxRecDepth 20000 in
theorem ggX6_fits_X6_sizeOf : GoodIn wsX6_fits wsX6_sizeOf := goodIn_r _ [6] (by decide +kernel) (by decide +kernel)
set_option maxRecDepth 20000 in
theorem gX6_fits_X6_sizeOf : GoodIn wsX6_fits (va_wsS RX6 88 yX6_sizeOf wsX6_sizeOf) := goodIn_app (goodIn_of _ (by decide +kernel)) ggX6_fits_X6_sizeOf
theorem dX6_fits_0 : decode cX6_fits 0 = .ok (.aload_n 0, 1) := by decide +kernel
theorem dX6_fits_1 : decode cX6_fits 1 = .ok (.getfield 64, 3) := by decide +kernel
theorem dX6_fits_4 : decode cX6_fits 4 = .ok (.aload_n 0, 1) := by decide +kernel
theorem dX6_fits_5 : decode cX6_fits 5 = .ok (.getfield 70, 3) := by decide +kernel
theorem dX6_fits_8 : decode cX6_fits 8 = .ok (.iconst 1, 1) := by decide +kernel
theorem dX6_fits_9 : decode cX6_fits 9 = .ok (.isub, 1) := by decide +kernel
theorem dX6_fits_10 : decode cX6_fits 10 = .ok (.iaload, 1) := by decide +kernel
theorem dX6_fits_11 : decode cX6_fits 11 = .ok (.iload_n 2, 1) := by decide +kernel
theorem dX6_fits_12 : decode cX6_fits 12 = .ok (.iload_n 1, 1) := by decide +kernel
theorem dX6_fits_13 : decode cX6_fits 13 = .ok (.invokestatic 88, 3) := by decide +kernel
theorem dX6_fits_16 : decode cX6_fits 16 = .ok (.iconst 5, 1) := by decide +kernel
theorem dX6_fits_17 : decode cX6_fits 17 = .ok (.iadd, 1) := by decide +kernel
theorem dX6_fits_18 : decode cX6_fits 18 = .ok (.imul, 1) := by decide +kernel
theorem dX6_fits_19 : decode cX6_fits 19 = .ok (.iadd, 1) := by decide +kernel
theorem dX6_fits_20 : decode cX6_fits 20 = .ok (.sipush 240, 3) := by decide +kernel
theorem dX6_fits_23 : decode cX6_fits 23 = .ok (.if_icmp .gt 7, 3) := by decide +kernel
theorem dX6_fits_26 : decode cX6_fits 26 = .ok (.iconst 1, 1) := by decide +kernel
theorem dX6_fits_27 : decode cX6_fits 27 = .ok (.goto 4, 3) := by decide +kernel
theorem dX6_fits_30 : decode cX6_fits 30 = .ok (.iconst 0, 1) := by decide +kernel
theorem dX6_fits_31 : decode cX6_fits 31 = .ok (.ireturn, 1) := by decide +kernel
theorem dX6_sum_0 : decode cX6_sum 0 = .ok (.iconst (-1), 1) := by decide +kernel
theorem dX6_sum_1 : decode cX6_sum 1 = .ok (.istore_n 3, 1) := by decide +kernel
theorem dX6_sum_2 : decode cX6_sum 2 = .ok (.iload_n 1, 1) := by decide +kernel
theorem dX6_sum_3 : decode cX6_sum 3 = .ok (.istore 4, 2) := by decide +kernel
theorem dX6_sum_5 : decode cX6_sum 5 = .ok (.iload 4, 2) := by decide +kernel
theorem dX6_sum_7 : decode cX6_sum 7 = .ok (.iload_n 1, 1) := by decide +kernel
theorem dX6_sum_8 : decode cX6_sum 8 = .ok (.iload_n 2, 1) := by decide +kernel
theorem dX6_sum_9 : decode cX6_sum 9 = .ok (.iadd, 1) := by decide +kernel
theorem dX6_sum_10 : decode cX6_sum 10 = .ok (.if_icmp .ge 55, 3) := by decide +kernel
theorem dX6_sum_13 : decode cX6_sum 13 = .ok (.iload_n 3, 1) := by decide +kernel
theorem dX6_sum_14 : decode cX6_sum 14 = .ok (.aload_n 0, 1) := by decide +kernel
theorem dX6_sum_15 : decode cX6_sum 15 = .ok (.getfield 61, 3) := by decide +kernel
theorem dX6_sum_18 : decode cX6_sum 18 = .ok (.iload 4, 2) := by decide +kernel
theorem dX6_sum_20 : decode cX6_sum 20 = .ok (.iaload, 1) := by decide +kernel
theorem dX6_sum_21 : decode cX6_sum 21 = .ok (.ixor, 1) := by decide +kernel
theorem dX6_sum_22 : decode cX6_sum 22 = .ok (.istore_n 3, 1) := by decide +kernel
theorem dX6_sum_23 : decode cX6_sum 23 = .ok (.iconst 0, 1) := by decide +kernel
theorem dX6_sum_24 : decode cX6_sum 24 = .ok (.istore 5, 2) := by decide +kernel
theorem dX6_sum_26 : decode cX6_sum 26 = .ok (.iload 5, 2) := by decide +kernel
theorem dX6_sum_28 : decode cX6_sum 28 = .ok (.bipush 8, 2) := by decide +kernel
theorem dX6_sum_30 : decode cX6_sum 30 = .ok (.if_icmp .ge 29, 3) := by decide +kernel
theorem dX6_sum_33 : decode cX6_sum 33 = .ok (.iload_n 3, 1) := by decide +kernel
theorem dX6_sum_34 : decode cX6_sum 34 = .ok (.iconst 1, 1) := by decide +kernel
theorem dX6_sum_35 : decode cX6_sum 35 = .ok (.iand, 1) := by decide +kernel
theorem dX6_sum_36 : decode cX6_sum 36 = .ok (.iconst 1, 1) := by decide +kernel
theorem dX6_sum_37 : decode cX6_sum 37 = .ok (.if_icmp .ne 12, 3) := by decide +kernel
theorem dX6_sum_40 : decode cX6_sum 40 = .ok (.iload_n 3, 1) := by decide +kernel
theorem dX6_sum_41 : decode cX6_sum 41 = .ok (.iconst 1, 1) := by decide +kernel
theorem dX6_sum_42 : decode cX6_sum 42 = .ok (.iushr, 1) := by decide +kernel
theorem dX6_sum_43 : decode cX6_sum 43 = .ok (.ldc 92, 2) := by decide +kernel
theorem dX6_sum_45 : decode cX6_sum 45 = .ok (.ixor, 1) := by decide +kernel
theorem dX6_sum_46 : decode cX6_sum 46 = .ok (.goto 6, 3) := by decide +kernel
theorem dX6_sum_49 : decode cX6_sum 49 = .ok (.iload_n 3, 1) := by decide +kernel
theorem dX6_sum_50 : decode cX6_sum 50 = .ok (.iconst 1, 1) := by decide +kernel
theorem dX6_sum_51 : decode cX6_sum 51 = .ok (.iushr, 1) := by decide +kernel
theorem dX6_sum_52 : decode cX6_sum 52 = .ok (.istore_n 3, 1) := by decide +kernel
theorem dX6_sum_53 : decode cX6_sum 53 = .ok (.iinc 5 1, 3) := by decide +kernel
theorem dX6_sum_56 : decode cX6_sum 56 = .ok (.goto (-30), 3) := by decide +kernel
theorem dX6_sum_59 : decode cX6_sum 59 = .ok (.iinc 4 1, 3) := by decide +kernel
theorem dX6_sum_62 : decode cX6_sum 62 = .ok (.goto (-57), 3) := by decide +kernel
theorem dX6_sum_65 : decode cX6_sum 65 = .ok (.iload_n 3, 1) := by decide +kernel
theorem dX6_sum_66 : decode cX6_sum 66 = .ok (.iconst (-1), 1) := by decide +kernel
theorem dX6_sum_67 : decode cX6_sum 67 = .ok (.ixor, 1) := by decide +kernel
theorem dX6_sum_68 : decode cX6_sum 68 = .ok (.ireturn, 1) := by decide +kernel
set_option maxRecDepth 20000 in
theorem ggX6_put_X6_current : GoodIn wsX6_put wsX6_current := goodIn_r _ [7, 8, 9, 10, 11, 12, 13, 14, 15, 16, 17, 18, 19, 20, 21, 22, 23, 24, 25, 26, 27, 28, 29, 30, 31, 32, 33, 34, 35, 36, 37, 38, 39, 40, 41, 42, 43, 44] (by decide +kernel) (by decide +kernel)
set_option maxRecDepth 20000 in
theorem gX6_put_X6_current : GoodIn wsX6_put (wsV RX6 93 RX6 yX6_current wsX6_current) := goodIn_app (goodIn_of _ (by decide +kernel)) ggX6_put_X6_current
theorem dX6_put_0 : decode cX6_put 0 = .ok (.aload_n 0, 1) := by decide +kernel
theorem dX6_put_1 : decode cX6_put 1 = .ok (.invokevirtual 93, 3) := by decide +kernel
theorem dX6_put_4 : decode cX6_put 4 = .ok (.istore 4, 2) := by decide +kernel
theorem dX6_put_6 : decode cX6_put 6 = .ok (.iconst 0, 1) := by decide +kernel
theorem dX6_put_7 : decode cX6_put 7 = .ok (.istore 5, 2) := by decide +kernel
theorem dX6_put_9 : decode cX6_put 9 = .ok (.iload 5, 2) := by decide +kernel
theorem dX6_put_11 : decode cX6_put 11 = .ok (.iload_n 3, 1) := by decide +kernel
theorem dX6_put_12 : decode cX6_put 12 = .ok (.if_icmp .ge 51, 3) := by decide +kernel
theorem dX6_put_15 : decode cX6_put 15 = .ok (.aload_n 0, 1) := by decide +kernel
theorem dX6_put_16 : decode cX6_put 16 = .ok (.getfield 61, 3) := by decide +kernel
theorem dX6_put_19 : decode cX6_put 19 = .ok (.sipush 240, 3) := by decide +kernel
theorem dX6_put_22 : decode cX6_put 22 = .ok (.iload 4, 2) := by decide +kernel
theorem dX6_put_24 : decode cX6_put 24 = .ok (.imul, 1) := by decide +kernel
theorem dX6_put_25 : decode cX6_put 25 = .ok (.aload_n 0, 1) := by decide +kernel
theorem dX6_put_26 : decode cX6_put 26 = .ok (.getfield 64, 3) := by decide +kernel
theorem dX6_put_29 : decode cX6_put 29 = .ok (.iload 4, 2) := by decide +kernel
theorem dX6_put_31 : decode cX6_put 31 = .ok (.iaload, 1) := by decide +kernel
theorem dX6_put_32 : decode cX6_put 32 = .ok (.iadd, 1) := by decide +kernel
theorem dX6_put_33 : decode cX6_put 33 = .ok (.lload_n 1, 1) := by decide +kernel
theorem dX6_put_34 : decode cX6_put 34 = .ok (.bipush 8, 2) := by decide +kernel
theorem dX6_put_36 : decode cX6_put 36 = .ok (.iload 5, 2) := by decide +kernel
theorem dX6_put_38 : decode cX6_put 38 = .ok (.imul, 1) := by decide +kernel
theorem dX6_put_39 : decode cX6_put 39 = .ok (.lshr, 1) := by decide +kernel
theorem dX6_put_40 : decode cX6_put 40 = .ok (.l2i, 1) := by decide +kernel
theorem dX6_put_41 : decode cX6_put 41 = .ok (.sipush 255, 3) := by decide +kernel
theorem dX6_put_44 : decode cX6_put 44 = .ok (.iand, 1) := by decide +kernel
theorem dX6_put_45 : decode cX6_put 45 = .ok (.iastore, 1) := by decide +kernel
theorem dX6_put_46 : decode cX6_put 46 = .ok (.aload_n 0, 1) := by decide +kernel
theorem dX6_put_47 : decode cX6_put 47 = .ok (.getfield 64, 3) := by decide +kernel
theorem dX6_put_50 : decode cX6_put 50 = .ok (.iload 4, 2) := by decide +kernel
theorem dX6_put_52 : decode cX6_put 52 = .ok (.dup2, 1) := by decide +kernel
theorem dX6_put_53 : decode cX6_put 53 = .ok (.iaload, 1) := by decide +kernel
theorem dX6_put_54 : decode cX6_put 54 = .ok (.iconst 1, 1) := by decide +kernel
theorem dX6_put_55 : decode cX6_put 55 = .ok (.iadd, 1) := by decide +kernel
theorem dX6_put_56 : decode cX6_put 56 = .ok (.iastore, 1) := by decide +kernel
theorem dX6_put_57 : decode cX6_put 57 = .ok (.iinc 5 1, 3) := by decide +kernel
theorem dX6_put_60 : decode cX6_put 60 = .ok (.goto (-51), 3) := by decide +kernel
theorem dX6_put_63 : decode cX6_put 63 = .ok (.return_, 1) := by decide +kernel
set_option maxRecDepth 20000 in
theorem ggX6_append_X6_current : GoodIn wsX6_append wsX6_current := goodIn_r _ [7, 8, 22, 23, 24, 25, 26, 27, 28, 29, 30, 31, 32, 33, 34, 35, 36, 37, 38, 39, 40, 41, 42, 43, 44, 45, 46, 47, 48, 49, 50, 51, 52, 53, 54, 55, 56, 57] (by decide +kernel) (by decide +kernel)
set_option maxRecDepth 20000 in
theorem gX6_append_X6_current : GoodIn wsX6_append (wsV RX6 93 RX6 yX6_current wsX6_current) := goodIn_app (goodIn_of _ (by decide +kernel)) ggX6_append_X6_current
set_option maxRecDepth 20000 in
theorem ggX6_append_X6_sizeOf : GoodIn wsX6_append wsX6_sizeOf := goodIn_r _ [11] (by decide +kernel) (by decide +kernel)
set_option maxRecDepth 20000 in
theorem gX6_append_X6_sizeOf : GoodIn wsX6_append (va_wsS RX6 88 yX6_sizeOf wsX6_sizeOf) := goodIn_app (goodIn_of _ (by decide +kernel)) ggX6_append_X6_sizeOf
set_option maxRecDepth 20000 in
theorem ggX6_append_X6_put : GoodIn wsX6_append wsX6_put := goodIn_r _ [15, 16, 1, 3, 4, 5, 6, 7, 8, 22, 23, 24, 25, 26, 27, 28, 29, 30, 31, 32, 33, 34, 35, 36, 37, 38, 39, 40, 41, 42, 43, 44, 45, 46, 47, 48, 49, 50, 51, 52, 53, 54, 55, 56, 57] (by decide +kernel) (by decide +kernel)
set_option maxRecDepth 20000 in
theorem gX6_append_X6_put : GoodIn wsX6_append (wsV RX6 97 RX6 yX6_put wsX6_put) := goodIn_app (goodIn_of _ (by decide +kernel)) ggX6_append_X6_put
set_option maxRecDepth 20000 in
theorem ggX6_append_X6_sum : GoodIn wsX6_append wsX6_sum := goodIn_r _ [20, 16, 21, 22, 23, 24, 25, 26, 27, 28, 29, 30, 31, 32, 33, 34, 35, 36, 37, 38, 39, 40, 41, 42, 43, 44, 45, 46, 47, 48, 49, 50, 51, 52, 53, 54, 55, 56, 57] (by decide +kernel) (by decide +kernel)
set_option maxRecDepth 20000 in
theorem gX6_append_X6_sum : GoodIn wsX6_append (wsV RX6 101 RX6 yX6_sum wsX6_sum) := goodIn_app (goodIn_of _ (by decide +kernel)) ggX6_append_X6_sum
theorem dX6_append_0 : decode cX6_append 0 = .ok (.aload_n 0, 1) := by decide +kernel
theorem dX6_append_1 : decode cX6_append 1 = .ok (.invokevirtual 93, 3) := by decide +kernel
theorem dX6_append_4 : decode cX6_append 4 = .ok (.istore 7, 2) := by decide +kernel
theorem dX6_append_6 : decode cX6_append 6 = .ok (.sipush 240, 3) := by decide +kernel
theorem dX6_append_9 : decode cX6_append 9 = .ok (.iload 7, 2) := by decide +kernel
theorem dX6_append_11 : decode cX6_append 11 = .ok (.imul, 1) := by decide +kernel
theorem dX6_append_12 : decode cX6_append 12 = .ok (.aload_n 0, 1) := by decide +kernel
theorem dX6_append_13 : decode cX6_append 13 = .ok (.getfield 64, 3) := by decide +kernel
theorem dX6_append_16 : decode cX6_append 16 = .ok (.iload 7, 2) := by decide +kernel
theorem dX6_append_18 : decode cX6_append 18 = .ok (.iaload, 1) := by decide +kernel
theorem dX6_append_19 : decode cX6_append 19 = .ok (.iadd, 1) := by decide +kernel
theorem dX6_append_20 : decode cX6_append 20 = .ok (.istore 8, 2) := by decide +kernel
theorem dX6_append_22 : decode cX6_append 22 = .ok (.iload_n 1, 1) := by decide +kernel
theorem dX6_append_23 : decode cX6_append 23 = .ok (.invokestatic 88, 3) := by decide +kernel
theorem dX6_append_26 : decode cX6_append 26 = .ok (.istore 9, 2) := by decide +kernel
theorem dX6_append_28 : decode cX6_append 28 = .ok (.aload_n 0, 1) := by decide +kernel
theorem dX6_append_29 : decode cX6_append 29 = .ok (.iload 9, 2) := by decide +kernel
theorem dX6_append_31 : decode cX6_append 31 = .ok (.i2l, 1) := by decide +kernel
theorem dX6_append_32 : decode cX6_append 32 = .ok (.iconst 1, 1) := by decide +kernel
theorem dX6_append_33 : decode cX6_append 33 = .ok (.invokevirtual 97, 3) := by decide +kernel
theorem dX6_append_36 : decode cX6_append 36 = .ok (.aload_n 0, 1) := by decide +kernel
theorem dX6_append_37 : decode cX6_append 37 = .ok (.iload_n 1, 1) := by decide +kernel
theorem dX6_append_38 : decode cX6_append 38 = .ok (.i2l, 1) := by decide +kernel
theorem dX6_append_39 : decode cX6_append 39 = .ok (.iconst 1, 1) := by decide +kernel
theorem dX6_append_40 : decode cX6_append 40 = .ok (.invokevirtual 97, 3) := by decide +kernel
theorem dX6_append_43 : decode cX6_append 43 = .ok (.aload_n 0, 1) := by decide +kernel
theorem dX6_append_44 : decode cX6_append 44 = .ok (.iload_n 3, 1) := by decide +kernel
theorem dX6_append_45 : decode cX6_append 45 = .ok (.i2l, 1) := by decide +kernel
theorem dX6_append_46 : decode cX6_append 46 = .ok (.iconst 2, 1) := by decide +kernel
theorem dX6_append_47 : decode cX6_append 47 = .ok (.invokevirtual 97, 3) := by decide +kernel
theorem dX6_append_50 : decode cX6_append 50 = .ok (.iload_n 1, 1) := by decide +kernel
theorem dX6_append_51 : decode cX6_append 51 = .ok (.iconst 3, 1) := by decide +kernel
theorem dX6_append_52 : decode cX6_append 52 = .ok (.if_icmp .eq 18, 3) := by decide +kernel
theorem dX6_append_55 : decode cX6_append 55 = .ok (.aload_n 0, 1) := by decide +kernel
theorem dX6_append_56 : decode cX6_append 56 = .ok (.iload_n 2, 1) := by decide +kernel
theorem dX6_append_57 : decode cX6_append 57 = .ok (.i2l, 1) := by decide +kernel
theorem dX6_append_58 : decode cX6_append 58 = .ok (.iconst 1, 1) := by decide +kernel
theorem dX6_append_59 : decode cX6_append 59 = .ok (.invokevirtual 97, 3) := by decide +kernel
theorem dX6_append_62 : decode cX6_append 62 = .ok (.aload_n 0, 1) := by decide +kernel
theorem dX6_append_63 : decode cX6_append 63 = .ok (.iload 4, 2) := by decide +kernel
theorem dX6_append_65 : decode cX6_append 65 = .ok (.i2l, 1) := by decide +kernel
theorem dX6_append_66 : decode cX6_append 66 = .ok (.iconst 2, 1) := by decide +kernel
theorem dX6_append_67 : decode cX6_append 67 = .ok (.invokevirtual 97, 3) := by decide +kernel
theorem dX6_append_70 : decode cX6_append 70 = .ok (.iload_n 1, 1) := by decide +kernel
theorem dX6_append_71 : decode cX6_append 71 = .ok (.iconst 1, 1) := by decide +kernel
theorem dX6_append_72 : decode cX6_append 72 = .ok (.if_icmp .ne 11, 3) := by decide +kernel
theorem dX6_append_75 : decode cX6_append 75 = .ok (.aload_n 0, 1) := by decide +kernel
theorem dX6_append_76 : decode cX6_append 76 = .ok (.lload 5, 2) := by decide +kernel
theorem dX6_append_78 : decode cX6_append 78 = .ok (.bipush 8, 2) := by decide +kernel
theorem dX6_append_80 : decode cX6_append 80 = .ok (.invokevirtual 97, 3) := by decide +kernel
theorem dX6_append_83 : decode cX6_append 83 = .ok (.aload_n 0, 1) := by decide +kernel
theorem dX6_append_84 : decode cX6_append 84 = .ok (.iload 8, 2) := by decide +kernel
theorem dX6_append_86 : decode cX6_append 86 = .ok (.iload 9, 2) := by decide +kernel
theorem dX6_append_88 : decode cX6_append 88 = .ok (.iconst 1, 1) := by decide +kernel
theorem dX6_append_89 : decode cX6_append 89 = .ok (.iadd, 1) := by decide +kernel
theorem dX6_append_90 : decode cX6_append 90 = .ok (.invokevirtual 101, 3) := by decide +kernel
theorem dX6_append_93 : decode cX6_append 93 = .ok (.istore 10, 2) := by decide +kernel
theorem dX6_append_95 : decode cX6_append 95 = .ok (.aload_n 0, 1) := by decide +kernel
theorem dX6_append_96 : decode cX6_append 96 = .ok (.iload 10, 2) := by decide +kernel
theorem dX6_append_98 : decode cX6_append 98 = .ok (.i2l, 1) := by decide +kernel
theorem dX6_append_99 : decode cX6_append 99 = .ok (.iconst 4, 1) := by decide +kernel
theorem dX6_append_100 : decode cX6_append 100 = .ok (.invokevirtual 97, 3) := by decide +kernel
theorem dX6_append_103 : decode cX6_append 103 = .ok (.iload_n 3, 1) := by decide +kernel
theorem dX6_append_104 : decode cX6_append 104 = .ok (.aload_n 0, 1) := by decide +kernel
theorem dX6_append_105 : decode cX6_append 105 = .ok (.getfield 67, 3) := by decide +kernel
theorem dX6_append_108 : decode cX6_append 108 = .ok (.iload 7, 2) := by decide +kernel
theorem dX6_append_110 : decode cX6_append 110 = .ok (.iaload, 1) := by decide +kernel
theorem dX6_append_111 : decode cX6_append 111 = .ok (.if_icmp .le 11, 3) := by decide +kernel
theorem dX6_append_114 : decode cX6_append 114 = .ok (.aload_n 0, 1) := by decide +kernel
theorem dX6_append_115 : decode cX6_append 115 = .ok (.getfield 67, 3) := by decide +kernel
theorem dX6_append_118 : decode cX6_append 118 = .ok (.iload 7, 2) := by decide +kernel
theorem dX6_append_120 : decode cX6_append 120 = .ok (.iload_n 3, 1) := by decide +kernel
theorem dX6_append_121 : decode cX6_append 121 = .ok (.iastore, 1) := by decide +kernel
theorem dX6_append_122 : decode cX6_append 122 = .ok (.return_, 1) := by decide +kernel
theorem dX6_number_0 : decode cX6_number 0 = .ok (.lconst 0, 1) := by decide +kernel
theorem dX6_number_1 : decode cX6_number 1 = .ok (.lstore_n 3, 1) := by decide +kernel
theorem dX6_number_2 : decode cX6_number 2 = .ok (.iload_n 2, 1) := by decide +kernel
theorem dX6_number_3 : decode cX6_number 3 = .ok (.iconst 1, 1) := by decide +kernel
theorem dX6_number_4 : decode cX6_number 4 = .ok (.isub, 1) := by decide +kernel
theorem dX6_number_5 : decode cX6_number 5 = .ok (.istore 5, 2) := by decide +kernel
theorem dX6_number_7 : decode cX6_number 7 = .ok (.iload 5, 2) := by decide +kernel
theorem dX6_number_9 : decode cX6_number 9 = .ok (.ifCond .lt 25, 3) := by decide +kernel
theorem dX6_number_12 : decode cX6_number 12 = .ok (.lload_n 3, 1) := by decide +kernel
theorem dX6_number_13 : decode cX6_number 13 = .ok (.bipush 8, 2) := by decide +kernel
theorem dX6_number_15 : decode cX6_number 15 = .ok (.lshl, 1) := by decide +kernel
theorem dX6_number_16 : decode cX6_number 16 = .ok (.aload_n 0, 1) := by decide +kernel
theorem dX6_number_17 : decode cX6_number 17 = .ok (.getfield 61, 3) := by decide +kernel
theorem dX6_number_20 : decode cX6_number 20 = .ok (.iload_n 1, 1) := by decide +kernel
theorem dX6_number_21 : decode cX6_number 21 = .ok (.iload 5, 2) := by decide +kernel
theorem dX6_number_23 : decode cX6_number 23 = .ok (.iadd, 1) := by decide +kernel
theorem dX6_number_24 : decode cX6_number 24 = .ok (.iaload, 1) := by decide +kernel
theorem dX6_number_25 : decode cX6_number 25 = .ok (.i2l, 1) := by decide +kernel
theorem dX6_number_26 : decode cX6_number 26 = .ok (.lor, 1) := by decide +kernel
theorem dX6_number_27 : decode cX6_number 27 = .ok (.lstore_n 3, 1) := by decide +kernel
theorem dX6_number_28 : decode cX6_number 28 = .ok (.iinc 5 (-1), 3) := by decide +kernel
theorem dX6_number_31 : decode cX6_number 31 = .ok (.goto (-24), 3) := by decide +kernel
theorem dX6_number_34 : decode cX6_number 34 = .ok (.lload_n 3, 1) := by decide +kernel
theorem dX6_number_35 : decode cX6_number 35 = .ok (.lreturn, 1) := by decide +kernel
set_option maxRecDepth 20000 in
theorem ggX6_reads_X6_in : GoodIn wsX6_reads wsX6_in := goodIn_r _ [13] (by decide +kernel) (by decide +kernel)
set_option maxRecDepth 20000 in
theorem gX6_reads_X6_in : GoodIn wsX6_reads (va_wsS RX6 108 yX6_in wsX6_in) := goodIn_app (goodIn_of _ (by decide +kernel)) ggX6_reads_X6_in
set_option maxRecDepth 20000 in
theorem ggX6_reads_X6_sizeOf : GoodIn wsX6_reads wsX6_sizeOf := goodIn_r _ [16] (by decide +kernel) (by decide +kernel)
set_option maxRecDepth 20000 in
theorem gX6_reads_X6_sizeOf : GoodIn wsX6_reads (va_wsS RX6 88 yX6_sizeOf wsX6_sizeOf) := goodIn_app (goodIn_of _ (by decide +kernel)) ggX6_reads_X6_sizeOf
set_option maxRecDepth 20000 in
theorem ggX6_reads_X6_sum : GoodIn wsX6_reads wsX6_sum := goodIn_r _ [20, 2, 21, 26, 27, 28, 29, 30, 31, 32, 33, 34, 35, 36, 37, 38, 39, 40, 41, 42, 43, 44, 45, 46, 47, 48, 49, 50, 51, 52, 53, 54, 55, 56, 57, 58, 59, 60, 61] (by decide +kernel) (by decide +kernel)
set_option maxRecDepth 20000 in
theorem gX6_reads_X6_sum : GoodIn wsX6_reads (wsV RX6 101 RX6 yX6_sum wsX6_sum) := goodIn_app (goodIn_of _ (by decide +kernel)) ggX6_reads_X6_sum
set_option maxRecDepth 20000 in
theorem ggX6_reads_X6_number : GoodIn wsX6_reads wsX6_number := goodIn_r _ [25, 2, 26, 27, 28, 29, 30, 31, 32, 33, 34, 35, 36, 37, 38, 39, 40, 41, 42, 43, 44, 45, 46, 47, 48, 49, 50, 51, 52, 53, 54, 55, 56, 57, 58, 59, 60, 61] (by decide +kernel) (by decide +kernel)
set_option maxRecDepth 20000 in
theorem gX6_reads_X6_number : GoodIn wsX6_reads (wsV RX6 112 RX6 yX6_number wsX6_number) := goodIn_app (goodIn_of _ (by decide +kernel)) ggX6_reads_X6_number
theorem dX6_reads_0 : decode cX6_reads 0 = .ok (.sipush 240, 3) := by decide +kernel
theorem dX6_reads_3 : decode cX6_reads 3 = .ok (.iload_n 1, 1) := by decide +kernel
theorem dX6_reads_4 : decode cX6_reads 4 = .ok (.imul, 1) := by decide +kernel
theorem dX6_reads_5 : decode cX6_reads 5 = .ok (.iload_n 2, 1) := by decide +kernel
theorem dX6_reads_6 : decode cX6_reads 6 = .ok (.iadd, 1) := by decide +kernel
theorem dX6_reads_7 : decode cX6_reads 7 = .ok (.istore_n 3, 1) := by decide +kernel
theorem dX6_reads_8 : decode cX6_reads 8 = .ok (.aload_n 0, 1) := by decide +kernel
theorem dX6_reads_9 : decode cX6_reads 9 = .ok (.getfield 64, 3) := by decide +kernel
theorem dX6_reads_12 : decode cX6_reads 12 = .ok (.iload_n 1, 1) := by decide +kernel
theorem dX6_reads_13 : decode cX6_reads 13 = .ok (.iaload, 1) := by decide +kernel
theorem dX6_reads_14 : decode cX6_reads 14 = .ok (.iload_n 2, 1) := by decide +kernel
theorem dX6_reads_15 : decode cX6_reads 15 = .ok (.isub, 1) := by decide +kernel
theorem dX6_reads_16 : decode cX6_reads 16 = .ok (.istore 4, 2) := by decide +kernel
theorem dX6_reads_18 : decode cX6_reads 18 = .ok (.iload 4, 2) := by decide +kernel
theorem dX6_reads_20 : decode cX6_reads 20 = .ok (.iconst 2, 1) := by decide +kernel
theorem dX6_reads_21 : decode cX6_reads 21 = .ok (.if_icmp .ge 5, 3) := by decide +kernel
theorem dX6_reads_24 : decode cX6_reads 24 = .ok (.iconst 0, 1) := by decide +kernel
theorem dX6_reads_25 : decode cX6_reads 25 = .ok (.ireturn, 1) := by decide +kernel
theorem dX6_reads_26 : decode cX6_reads 26 = .ok (.aload_n 0, 1) := by decide +kernel
theorem dX6_reads_27 : decode cX6_reads 27 = .ok (.getfield 61, 3) := by decide +kernel
theorem dX6_reads_30 : decode cX6_reads 30 = .ok (.iload_n 3, 1) := by decide +kernel
theorem dX6_reads_31 : decode cX6_reads 31 = .ok (.iaload, 1) := by decide +kernel
theorem dX6_reads_32 : decode cX6_reads 32 = .ok (.istore 5, 2) := by decide +kernel
theorem dX6_reads_34 : decode cX6_reads 34 = .ok (.aload_n 0, 1) := by decide +kernel
theorem dX6_reads_35 : decode cX6_reads 35 = .ok (.aload_n 0, 1) := by decide +kernel
theorem dX6_reads_36 : decode cX6_reads 36 = .ok (.getfield 61, 3) := by decide +kernel
theorem dX6_reads_39 : decode cX6_reads 39 = .ok (.iload_n 3, 1) := by decide +kernel
theorem dX6_reads_40 : decode cX6_reads 40 = .ok (.iconst 1, 1) := by decide +kernel
theorem dX6_reads_41 : decode cX6_reads 41 = .ok (.iadd, 1) := by decide +kernel
theorem dX6_reads_42 : decode cX6_reads 42 = .ok (.iaload, 1) := by decide +kernel
theorem dX6_reads_43 : decode cX6_reads 43 = .ok (.putfield 105, 3) := by decide +kernel
theorem dX6_reads_46 : decode cX6_reads 46 = .ok (.aload_n 0, 1) := by decide +kernel
theorem dX6_reads_47 : decode cX6_reads 47 = .ok (.getfield 105, 3) := by decide +kernel
theorem dX6_reads_50 : decode cX6_reads 50 = .ok (.iconst 1, 1) := by decide +kernel
theorem dX6_reads_51 : decode cX6_reads 51 = .ok (.iconst 3, 1) := by decide +kernel
theorem dX6_reads_52 : decode cX6_reads 52 = .ok (.invokestatic 108, 3) := by decide +kernel
theorem dX6_reads_55 : decode cX6_reads 55 = .ok (.ifCond .eq 24, 3) := by decide +kernel
theorem dX6_reads_58 : decode cX6_reads 58 = .ok (.iload 5, 2) := by decide +kernel
theorem dX6_reads_60 : decode cX6_reads 60 = .ok (.aload_n 0, 1) := by decide +kernel
theorem dX6_reads_61 : decode cX6_reads 61 = .ok (.getfield 105, 3) := by decide +kernel
theorem dX6_reads_64 : decode cX6_reads 64 = .ok (.invokestatic 88, 3) := by decide +kernel
theorem dX6_reads_67 : decode cX6_reads 67 = .ok (.if_icmp .ne 12, 3) := by decide +kernel
theorem dX6_reads_70 : decode cX6_reads 70 = .ok (.iload 4, 2) := by decide +kernel
theorem dX6_reads_72 : decode cX6_reads 72 = .ok (.iload 5, 2) := by decide +kernel
theorem dX6_reads_74 : decode cX6_reads 74 = .ok (.iconst 5, 1) := by decide +kernel
theorem dX6_reads_75 : decode cX6_reads 75 = .ok (.iadd, 1) := by decide +kernel
theorem dX6_reads_76 : decode cX6_reads 76 = .ok (.if_icmp .ge 5, 3) := by decide +kernel
theorem dX6_reads_79 : decode cX6_reads 79 = .ok (.iconst 0, 1) := by decide +kernel
theorem dX6_reads_80 : decode cX6_reads 80 = .ok (.ireturn, 1) := by decide +kernel
theorem dX6_reads_81 : decode cX6_reads 81 = .ok (.aload_n 0, 1) := by decide +kernel
theorem dX6_reads_82 : decode cX6_reads 82 = .ok (.iload_n 3, 1) := by decide +kernel
theorem dX6_reads_83 : decode cX6_reads 83 = .ok (.iload 5, 2) := by decide +kernel
theorem dX6_reads_85 : decode cX6_reads 85 = .ok (.iconst 1, 1) := by decide +kernel
theorem dX6_reads_86 : decode cX6_reads 86 = .ok (.iadd, 1) := by decide +kernel
theorem dX6_reads_87 : decode cX6_reads 87 = .ok (.invokevirtual 101, 3) := by decide +kernel
theorem dX6_reads_90 : decode cX6_reads 90 = .ok (.istore 6, 2) := by decide +kernel
theorem dX6_reads_92 : decode cX6_reads 92 = .ok (.aload_n 0, 1) := by decide +kernel
theorem dX6_reads_93 : decode cX6_reads 93 = .ok (.iload_n 3, 1) := by decide +kernel
theorem dX6_reads_94 : decode cX6_reads 94 = .ok (.iload 5, 2) := by decide +kernel
theorem dX6_reads_96 : decode cX6_reads 96 = .ok (.iadd, 1) := by decide +kernel
theorem dX6_reads_97 : decode cX6_reads 97 = .ok (.iconst 1, 1) := by decide +kernel
theorem dX6_reads_98 : decode cX6_reads 98 = .ok (.iadd, 1) := by decide +kernel
theorem dX6_reads_99 : decode cX6_reads 99 = .ok (.iconst 4, 1) := by decide +kernel
theorem dX6_reads_100 : decode cX6_reads 100 = .ok (.invokevirtual 112, 3) := by decide +kernel
theorem dX6_reads_103 : decode cX6_reads 103 = .ok (.l2i, 1) := by decide +kernel
theorem dX6_reads_104 : decode cX6_reads 104 = .ok (.istore 7, 2) := by decide +kernel
theorem dX6_reads_106 : decode cX6_reads 106 = .ok (.iload 6, 2) := by decide +kernel
theorem dX6_reads_108 : decode cX6_reads 108 = .ok (.iload 7, 2) := by decide +kernel
theorem dX6_reads_110 : decode cX6_reads 110 = .ok (.if_icmp .eq 5, 3) := by decide +kernel
theorem dX6_reads_113 : decode cX6_reads 113 = .ok (.iconst 0, 1) := by decide +kernel
theorem dX6_reads_114 : decode cX6_reads 114 = .ok (.ireturn, 1) := by decide +kernel
theorem dX6_reads_115 : decode cX6_reads 115 = .ok (.aload_n 0, 1) := by decide +kernel
theorem dX6_reads_116 : decode cX6_reads 116 = .ok (.aload_n 0, 1) := by decide +kernel
theorem dX6_reads_117 : decode cX6_reads 117 = .ok (.iload_n 3, 1) := by decide +kernel
theorem dX6_reads_118 : decode cX6_reads 118 = .ok (.iconst 2, 1) := by decide +kernel
theorem dX6_reads_119 : decode cX6_reads 119 = .ok (.iadd, 1) := by decide +kernel
theorem dX6_reads_120 : decode cX6_reads 120 = .ok (.iconst 2, 1) := by decide +kernel
theorem dX6_reads_121 : decode cX6_reads 121 = .ok (.invokevirtual 112, 3) := by decide +kernel
theorem dX6_reads_124 : decode cX6_reads 124 = .ok (.l2i, 1) := by decide +kernel
theorem dX6_reads_125 : decode cX6_reads 125 = .ok (.putfield 116, 3) := by decide +kernel
theorem dX6_reads_128 : decode cX6_reads 128 = .ok (.aload_n 0, 1) := by decide +kernel
theorem dX6_reads_129 : decode cX6_reads 129 = .ok (.aload_n 0, 1) := by decide +kernel
theorem dX6_reads_130 : decode cX6_reads 130 = .ok (.getfield 105, 3) := by decide +kernel
theorem dX6_reads_133 : decode cX6_reads 133 = .ok (.iconst 3, 1) := by decide +kernel
theorem dX6_reads_134 : decode cX6_reads 134 = .ok (.if_icmp .ne 7, 3) := by decide +kernel
theorem dX6_reads_137 : decode cX6_reads 137 = .ok (.iconst 0, 1) := by decide +kernel
theorem dX6_reads_138 : decode cX6_reads 138 = .ok (.goto 11, 3) := by decide +kernel
theorem dX6_reads_141 : decode cX6_reads 141 = .ok (.aload_n 0, 1) := by decide +kernel
theorem dX6_reads_142 : decode cX6_reads 142 = .ok (.getfield 61, 3) := by decide +kernel
theorem dX6_reads_145 : decode cX6_reads 145 = .ok (.iload_n 3, 1) := by decide +kernel
theorem dX6_reads_146 : decode cX6_reads 146 = .ok (.iconst 4, 1) := by decide +kernel
theorem dX6_reads_147 : decode cX6_reads 147 = .ok (.iadd, 1) := by decide +kernel
theorem dX6_reads_148 : decode cX6_reads 148 = .ok (.iaload, 1) := by decide +kernel
theorem dX6_reads_149 : decode cX6_reads 149 = .ok (.putfield 119, 3) := by decide +kernel
theorem dX6_reads_152 : decode cX6_reads 152 = .ok (.aload_n 0, 1) := by decide +kernel
theorem dX6_reads_153 : decode cX6_reads 153 = .ok (.aload_n 0, 1) := by decide +kernel
theorem dX6_reads_154 : decode cX6_reads 154 = .ok (.getfield 105, 3) := by decide +kernel
theorem dX6_reads_157 : decode cX6_reads 157 = .ok (.iconst 3, 1) := by decide +kernel
theorem dX6_reads_158 : decode cX6_reads 158 = .ok (.if_icmp .ne 7, 3) := by decide +kernel
theorem dX6_reads_161 : decode cX6_reads 161 = .ok (.iconst 0, 1) := by decide +kernel
theorem dX6_reads_162 : decode cX6_reads 162 = .ok (.goto 12, 3) := by decide +kernel
theorem dX6_reads_165 : decode cX6_reads 165 = .ok (.aload_n 0, 1) := by decide +kernel
theorem dX6_reads_166 : decode cX6_reads 166 = .ok (.iload_n 3, 1) := by decide +kernel
theorem dX6_reads_167 : decode cX6_reads 167 = .ok (.iconst 5, 1) := by decide +kernel
theorem dX6_reads_168 : decode cX6_reads 168 = .ok (.iadd, 1) := by decide +kernel
theorem dX6_reads_169 : decode cX6_reads 169 = .ok (.iconst 2, 1) := by decide +kernel
theorem dX6_reads_170 : decode cX6_reads 170 = .ok (.invokevirtual 112, 3) := by decide +kernel
theorem dX6_reads_173 : decode cX6_reads 173 = .ok (.l2i, 1) := by decide +kernel
theorem dX6_reads_174 : decode cX6_reads 174 = .ok (.putfield 122, 3) := by decide +kernel
theorem dX6_reads_177 : decode cX6_reads 177 = .ok (.aload_n 0, 1) := by decide +kernel
theorem dX6_reads_178 : decode cX6_reads 178 = .ok (.aload_n 0, 1) := by decide +kernel
theorem dX6_reads_179 : decode cX6_reads 179 = .ok (.getfield 105, 3) := by decide +kernel
theorem dX6_reads_182 : decode cX6_reads 182 = .ok (.iconst 1, 1) := by decide +kernel
theorem dX6_reads_183 : decode cX6_reads 183 = .ok (.if_icmp .ne 16, 3) := by decide +kernel
theorem dX6_reads_186 : decode cX6_reads 186 = .ok (.aload_n 0, 1) := by decide +kernel
theorem dX6_reads_187 : decode cX6_reads 187 = .ok (.iload_n 3, 1) := by decide +kernel
theorem dX6_reads_188 : decode cX6_reads 188 = .ok (.bipush 7, 2) := by decide +kernel
theorem dX6_reads_190 : decode cX6_reads 190 = .ok (.iadd, 1) := by decide +kernel
theorem dX6_reads_191 : decode cX6_reads 191 = .ok (.bipush 8, 2) := by decide +kernel
theorem dX6_reads_193 : decode cX6_reads 193 = .ok (.invokevirtual 112, 3) := by decide +kernel
theorem dX6_reads_196 : decode cX6_reads 196 = .ok (.goto 4, 3) := by decide +kernel
theorem dX6_reads_199 : decode cX6_reads 199 = .ok (.lconst 0, 1) := by decide +kernel
theorem dX6_reads_200 : decode cX6_reads 200 = .ok (.putfield 125, 3) := by decide +kernel
theorem dX6_reads_203 : decode cX6_reads 203 = .ok (.aload_n 0, 1) := by decide +kernel
theorem dX6_reads_204 : decode cX6_reads 204 = .ok (.iload_n 2, 1) := by decide +kernel
theorem dX6_reads_205 : decode cX6_reads 205 = .ok (.iload 5, 2) := by decide +kernel
theorem dX6_reads_207 : decode cX6_reads 207 = .ok (.iadd, 1) := by decide +kernel
theorem dX6_reads_208 : decode cX6_reads 208 = .ok (.iconst 5, 1) := by decide +kernel
theorem dX6_reads_209 : decode cX6_reads 209 = .ok (.iadd, 1) := by decide +kernel
theorem dX6_reads_210 : decode cX6_reads 210 = .ok (.putfield 129, 3) := by decide +kernel
theorem dX6_reads_213 : decode cX6_reads 213 = .ok (.aload_n 0, 1) := by decide +kernel
theorem dX6_reads_214 : decode cX6_reads 214 = .ok (.getfield 119, 3) := by decide +kernel
theorem dX6_reads_217 : decode cX6_reads 217 = .ok (.bipush 16, 2) := by decide +kernel
theorem dX6_reads_219 : decode cX6_reads 219 = .ok (.if_icmp .ge 21, 3) := by decide +kernel
theorem dX6_reads_222 : decode cX6_reads 222 = .ok (.aload_n 0, 1) := by decide +kernel
theorem dX6_reads_223 : decode cX6_reads 223 = .ok (.getfield 116, 3) := by decide +kernel
theorem dX6_reads_226 : decode cX6_reads 226 = .ok (.aload_n 0, 1) := by decide +kernel
theorem dX6_reads_227 : decode cX6_reads 227 = .ok (.getfield 45, 3) := by decide +kernel
theorem dX6_reads_230 : decode cX6_reads 230 = .ok (.bipush 64, 2) := by decide +kernel
theorem dX6_reads_232 : decode cX6_reads 232 = .ok (.iadd, 1) := by decide +kernel
theorem dX6_reads_233 : decode cX6_reads 233 = .ok (.if_icmp .gt 7, 3) := by decide +kernel
theorem dX6_reads_236 : decode cX6_reads 236 = .ok (.iconst 1, 1) := by decide +kernel
theorem dX6_reads_237 : decode cX6_reads 237 = .ok (.goto 4, 3) := by decide +kernel
theorem dX6_reads_240 : decode cX6_reads 240 = .ok (.iconst 0, 1) := by decide +kernel
theorem dX6_reads_241 : decode cX6_reads 241 = .ok (.ireturn, 1) := by decide +kernel
theorem dX6_isDone_0 : decode cX6_isDone 0 = .ok (.iload_n 1, 1) := by decide +kernel
theorem dX6_isDone_1 : decode cX6_isDone 1 = .ok (.aload_n 0, 1) := by decide +kernel
theorem dX6_isDone_2 : decode cX6_isDone 2 = .ok (.getfield 45, 3) := by decide +kernel
theorem dX6_isDone_5 : decode cX6_isDone 5 = .ok (.if_icmp .le 19, 3) := by decide +kernel
theorem dX6_isDone_8 : decode cX6_isDone 8 = .ok (.aload_n 0, 1) := by decide +kernel
theorem dX6_isDone_9 : decode cX6_isDone 9 = .ok (.getfield 41, 3) := by decide +kernel
theorem dX6_isDone_12 : decode cX6_isDone 12 = .ok (.iload_n 1, 1) := by decide +kernel
theorem dX6_isDone_13 : decode cX6_isDone 13 = .ok (.aload_n 0, 1) := by decide +kernel
theorem dX6_isDone_14 : decode cX6_isDone 14 = .ok (.getfield 45, 3) := by decide +kernel
theorem dX6_isDone_17 : decode cX6_isDone 17 = .ok (.isub, 1) := by decide +kernel
theorem dX6_isDone_18 : decode cX6_isDone 18 = .ok (.iconst 1, 1) := by decide +kernel
theorem dX6_isDone_19 : decode cX6_isDone 19 = .ok (.isub, 1) := by decide +kernel
theorem dX6_isDone_20 : decode cX6_isDone 20 = .ok (.baload, 1) := by decide +kernel
theorem dX6_isDone_21 : decode cX6_isDone 21 = .ok (.ifCond .eq 7, 3) := by decide +kernel
theorem dX6_isDone_24 : decode cX6_isDone 24 = .ok (.iconst 1, 1) := by decide +kernel
theorem dX6_isDone_25 : decode cX6_isDone 25 = .ok (.goto 4, 3) := by decide +kernel
theorem dX6_isDone_28 : decode cX6_isDone 28 = .ok (.iconst 0, 1) := by decide +kernel
theorem dX6_isDone_29 : decode cX6_isDone 29 = .ok (.ireturn, 1) := by decide +kernel
theorem dX6_process_0 : decode cX6_process 0 = .ok (.aload_n 0, 1) := by decide +kernel
theorem dX6_process_1 : decode cX6_process 1 = .ok (.getfield 41, 3) := by decide +kernel
theorem dX6_process_4 : decode cX6_process 4 = .ok (.iload_n 3, 1) := by decide +kernel
theorem dX6_process_5 : decode cX6_process 5 = .ok (.aload_n 0, 1) := by decide +kernel
theorem dX6_process_6 : decode cX6_process 6 = .ok (.getfield 45, 3) := by decide +kernel
theorem dX6_process_9 : decode cX6_process 9 = .ok (.isub, 1) := by decide +kernel
theorem dX6_process_10 : decode cX6_process 10 = .ok (.iconst 1, 1) := by decide +kernel
theorem dX6_process_11 : decode cX6_process 11 = .ok (.isub, 1) := by decide +kernel
theorem dX6_process_12 : decode cX6_process 12 = .ok (.iconst 1, 1) := by decide +kernel
theorem dX6_process_13 : decode cX6_process 13 = .ok (.bastore, 1) := by decide +kernel
theorem dX6_process_14 : decode cX6_process 14 = .ok (.aload_n 0, 1) := by decide +kernel
theorem dX6_process_15 : decode cX6_process 15 = .ok (.getfield 41, 3) := by decide +kernel
theorem dX6_process_18 : decode cX6_process 18 = .ok (.iconst 0, 1) := by decide +kernel
theorem dX6_process_19 : decode cX6_process 19 = .ok (.baload, 1) := by decide +kernel
theorem dX6_process_20 : decode cX6_process 20 = .ok (.ifCond .eq 56, 3) := by decide +kernel
theorem dX6_process_23 : decode cX6_process 23 = .ok (.aload_n 0, 1) := by decide +kernel
theorem dX6_process_24 : decode cX6_process 24 = .ok (.dup, 1) := by decide +kernel
theorem dX6_process_25 : decode cX6_process 25 = .ok (.getfield 45, 3) := by decide +kernel
theorem dX6_process_28 : decode cX6_process 28 = .ok (.iconst 1, 1) := by decide +kernel
theorem dX6_process_29 : decode cX6_process 29 = .ok (.iadd, 1) := by decide +kernel
theorem dX6_process_30 : decode cX6_process 30 = .ok (.putfield 45, 3) := by decide +kernel
theorem dX6_process_33 : decode cX6_process 33 = .ok (.iconst 0, 1) := by decide +kernel
theorem dX6_process_34 : decode cX6_process 34 = .ok (.istore 7, 2) := by decide +kernel
theorem dX6_process_36 : decode cX6_process 36 = .ok (.iload 7, 2) := by decide +kernel
theorem dX6_process_38 : decode cX6_process 38 = .ok (.bipush 64, 2) := by decide +kernel
theorem dX6_process_40 : decode cX6_process 40 = .ok (.if_icmp .ge 25, 3) := by decide +kernel
theorem dX6_process_43 : decode cX6_process 43 = .ok (.aload_n 0, 1) := by decide +kernel
theorem dX6_process_44 : decode cX6_process 44 = .ok (.getfield 41, 3) := by decide +kernel
theorem dX6_process_47 : decode cX6_process 47 = .ok (.iload 7, 2) := by decide +kernel
theorem dX6_process_49 : decode cX6_process 49 = .ok (.aload_n 0, 1) := by decide +kernel
theorem dX6_process_50 : decode cX6_process 50 = .ok (.getfield 41, 3) := by decide +kernel
theorem dX6_process_53 : decode cX6_process 53 = .ok (.iload 7, 2) := by decide +kernel
theorem dX6_process_55 : decode cX6_process 55 = .ok (.iconst 1, 1) := by decide +kernel
theorem dX6_process_56 : decode cX6_process 56 = .ok (.iadd, 1) := by decide +kernel
theorem dX6_process_57 : decode cX6_process 57 = .ok (.baload, 1) := by decide +kernel
theorem dX6_process_58 : decode cX6_process 58 = .ok (.bastore, 1) := by decide +kernel
theorem dX6_process_59 : decode cX6_process 59 = .ok (.iinc 7 1, 3) := by decide +kernel
theorem dX6_process_62 : decode cX6_process 62 = .ok (.goto (-26), 3) := by decide +kernel
theorem dX6_process_65 : decode cX6_process 65 = .ok (.aload_n 0, 1) := by decide +kernel
theorem dX6_process_66 : decode cX6_process 66 = .ok (.getfield 41, 3) := by decide +kernel
theorem dX6_process_69 : decode cX6_process 69 = .ok (.bipush 64, 2) := by decide +kernel
theorem dX6_process_71 : decode cX6_process 71 = .ok (.iconst 0, 1) := by decide +kernel
theorem dX6_process_72 : decode cX6_process 72 = .ok (.bastore, 1) := by decide +kernel
theorem dX6_process_73 : decode cX6_process 73 = .ok (.goto (-59), 3) := by decide +kernel
theorem dX6_process_76 : decode cX6_process 76 = .ok (.iload_n 3, 1) := by decide +kernel
theorem dX6_process_77 : decode cX6_process 77 = .ok (.aload_n 0, 1) := by decide +kernel
theorem dX6_process_78 : decode cX6_process 78 = .ok (.getfield 49, 3) := by decide +kernel
theorem dX6_process_81 : decode cX6_process 81 = .ok (.if_icmp .le 8, 3) := by decide +kernel
theorem dX6_process_84 : decode cX6_process 84 = .ok (.aload_n 0, 1) := by decide +kernel
theorem dX6_process_85 : decode cX6_process 85 = .ok (.iload_n 3, 1) := by decide +kernel
theorem dX6_process_86 : decode cX6_process 86 = .ok (.putfield 49, 3) := by decide +kernel
theorem dX6_process_89 : decode cX6_process 89 = .ok (.iload_n 1, 1) := by decide +kernel
theorem dX6_process_90 : decode cX6_process 90 = .ok (.iconst 3, 1) := by decide +kernel
theorem dX6_process_91 : decode cX6_process 91 = .ok (.if_icmp .eq 13, 3) := by decide +kernel
theorem dX6_process_94 : decode cX6_process 94 = .ok (.iload_n 3, 1) := by decide +kernel
theorem dX6_process_95 : decode cX6_process 95 = .ok (.aload_n 0, 1) := by decide +kernel
theorem dX6_process_96 : decode cX6_process 96 = .ok (.getfield 13, 3) := by decide +kernel
theorem dX6_process_99 : decode cX6_process 99 = .ok (.iload_n 2, 1) := by decide +kernel
theorem dX6_process_100 : decode cX6_process 100 = .ok (.iaload, 1) := by decide +kernel
theorem dX6_process_101 : decode cX6_process 101 = .ok (.if_icmp .gt 5, 3) := by decide +kernel
theorem dX6_process_104 : decode cX6_process 104 = .ok (.iconst 0, 1) := by decide +kernel
theorem dX6_process_105 : decode cX6_process 105 = .ok (.ireturn, 1) := by decide +kernel
theorem dX6_process_106 : decode cX6_process 106 = .ok (.aload_n 0, 1) := by decide +kernel
theorem dX6_process_107 : decode cX6_process 107 = .ok (.getfield 7, 3) := by decide +kernel
theorem dX6_process_110 : decode cX6_process 110 = .ok (.iload_n 2, 1) := by decide +kernel
theorem dX6_process_111 : decode cX6_process 111 = .ok (.iload_n 1, 1) := by decide +kernel
theorem dX6_process_112 : decode cX6_process 112 = .ok (.iastore, 1) := by decide +kernel
theorem dX6_process_113 : decode cX6_process 113 = .ok (.aload_n 0, 1) := by decide +kernel
theorem dX6_process_114 : decode cX6_process 114 = .ok (.getfield 13, 3) := by decide +kernel
theorem dX6_process_117 : decode cX6_process 117 = .ok (.iload_n 2, 1) := by decide +kernel
theorem dX6_process_118 : decode cX6_process 118 = .ok (.iload_n 3, 1) := by decide +kernel
theorem dX6_process_119 : decode cX6_process 119 = .ok (.iastore, 1) := by decide +kernel
theorem dX6_process_120 : decode cX6_process 120 = .ok (.aload_n 0, 1) := by decide +kernel
theorem dX6_process_121 : decode cX6_process 121 = .ok (.getfield 16, 3) := by decide +kernel
theorem dX6_process_124 : decode cX6_process 124 = .ok (.iload_n 2, 1) := by decide +kernel
theorem dX6_process_125 : decode cX6_process 125 = .ok (.iload 4, 2) := by decide +kernel
theorem dX6_process_127 : decode cX6_process 127 = .ok (.iastore, 1) := by decide +kernel
theorem dX6_process_128 : decode cX6_process 128 = .ok (.aload_n 0, 1) := by decide +kernel
theorem dX6_process_129 : decode cX6_process 129 = .ok (.getfield 31, 3) := by decide +kernel
theorem dX6_process_132 : decode cX6_process 132 = .ok (.iload_n 2, 1) := by decide +kernel
theorem dX6_process_133 : decode cX6_process 133 = .ok (.iload_n 1, 1) := by decide +kernel
theorem dX6_process_134 : decode cX6_process 134 = .ok (.iconst 1, 1) := by decide +kernel
theorem dX6_process_135 : decode cX6_process 135 = .ok (.if_icmp .ne 8, 3) := by decide +kernel
theorem dX6_process_138 : decode cX6_process 138 = .ok (.lload 5, 2) := by decide +kernel
theorem dX6_process_140 : decode cX6_process 140 = .ok (.goto 4, 3) := by decide +kernel
theorem dX6_process_143 : decode cX6_process 143 = .ok (.lconst 0, 1) := by decide +kernel
theorem dX6_process_144 : decode cX6_process 144 = .ok (.lastore, 1) := by decide +kernel
theorem dX6_process_145 : decode cX6_process 145 = .ok (.iconst 1, 1) := by decide +kernel
theorem dX6_process_146 : decode cX6_process 146 = .ok (.ireturn, 1) := by decide +kernel
set_option maxRecDepth 20000 in
theorem ggX6_write_X6_in : GoodIn wsX6_write wsX6_in := goodIn_r _ [11] (by decide +kernel) (by decide +kernel)
set_option maxRecDepth 20000 in
theorem gX6_write_X6_in : GoodIn wsX6_write (va_wsS RX6 108 yX6_in wsX6_in) := goodIn_app (goodIn_of _ (by decide +kernel)) ggX6_write_X6_in
set_option maxRecDepth 20000 in
theorem ggX6_write_X6_fits : GoodIn wsX6_write wsX6_fits := goodIn_r _ [15, 16, 17, 18, 19, 10, 20, 46, 47, 48, 49, 50, 51, 52, 53, 54, 55, 56, 57, 58, 59, 60, 61, 62, 63, 64, 65, 66, 67, 68, 69, 70, 71, 72, 73, 74, 75, 76, 77, 78, 79, 80, 81] (by decide +kernel) (by decide +kernel)
set_option maxRecDepth 20000 in
theorem gX6_write_X6_fits : GoodIn wsX6_write (wsV RX6 136 RX6 yX6_fits wsX6_fits) := goodIn_app (goodIn_of _ (by decide +kernel)) ggX6_write_X6_fits
set_option maxRecDepth 20000 in
theorem ggX6_write_X6_append : GoodIn wsX6_write wsX6_append := goodIn_r _ [24, 16, 25, 26, 27, 28, 10, 29, 17, 18, 19, 20, 30, 31, 32, 33, 34, 35, 36, 37, 38, 39, 46, 47, 48, 49, 50, 51, 52, 53, 54, 55, 56, 57, 58, 59, 60, 61, 62, 63, 64, 65, 66, 67, 68, 69, 70, 71, 72, 73, 74, 75, 76, 77, 78, 79, 80, 81] (by decide +kernel) (by decide +kernel)
set_option maxRecDepth 20000 in
theorem gX6_write_X6_append : GoodIn wsX6_write (wsV RX6 141 RX6 yX6_append wsX6_append) := goodIn_app (goodIn_of _ (by decide +kernel)) ggX6_write_X6_append
set_option maxRecDepth 20000 in
theorem ggX6_write_X6_process : GoodIn wsX6_write wsX6_process := goodIn_r _ [43, 44, 5, 4, 3, 2, 6, 45, 46, 47, 48, 49, 50, 51, 52, 53, 54, 55, 56, 57, 58, 59, 60, 61, 62, 63, 64, 65, 66, 67, 68, 69, 70, 71, 72, 73, 74, 75, 76, 77, 78, 79, 80, 81] (by decide +kernel) (by decide +kernel)
set_option maxRecDepth 20000 in
theorem gX6_write_X6_process : GoodIn wsX6_write (wsV RX6 145 RX6 yX6_process wsX6_process) := goodIn_app (goodIn_of _ (by decide +kernel)) ggX6_write_X6_process
theorem dX6_write_0 : decode cX6_write 0 = .ok (.aload_n 0, 1) := by decide +kernel
theorem dX6_write_1 : decode cX6_write 1 = .ok (.getfield 132, 3) := by decide +kernel
theorem dX6_write_4 : decode cX6_write 4 = .ok (.ifCond .eq 6, 3) := by decide +kernel
theorem dX6_write_7 : decode cX6_write 7 = .ok (.bipush (-4), 2) := by decide +kernel
theorem dX6_write_9 : decode cX6_write 9 = .ok (.ireturn, 1) := by decide +kernel
theorem dX6_write_10 : decode cX6_write 10 = .ok (.iload_n 1, 1) := by decide +kernel
theorem dX6_write_11 : decode cX6_write 11 = .ok (.iconst 1, 1) := by decide +kernel
theorem dX6_write_12 : decode cX6_write 12 = .ok (.iconst 2, 1) := by decide +kernel
theorem dX6_write_13 : decode cX6_write 13 = .ok (.invokestatic 108, 3) := by decide +kernel
theorem dX6_write_16 : decode cX6_write 16 = .ok (.ifCond .eq 20, 3) := by decide +kernel
theorem dX6_write_19 : decode cX6_write 19 = .ok (.iload_n 2, 1) := by decide +kernel
theorem dX6_write_20 : decode cX6_write 20 = .ok (.iconst 0, 1) := by decide +kernel
theorem dX6_write_21 : decode cX6_write 21 = .ok (.bipush 15, 2) := by decide +kernel
theorem dX6_write_23 : decode cX6_write 23 = .ok (.invokestatic 108, 3) := by decide +kernel
theorem dX6_write_26 : decode cX6_write 26 = .ok (.ifCond .eq 10, 3) := by decide +kernel
theorem dX6_write_29 : decode cX6_write 29 = .ok (.iload 5, 2) := by decide +kernel
theorem dX6_write_31 : decode cX6_write 31 = .ok (.bipush (-2), 2) := by decide +kernel
theorem dX6_write_33 : decode cX6_write 33 = .ok (.if_icmp .ge 5, 3) := by decide +kernel
theorem dX6_write_36 : decode cX6_write 36 = .ok (.iconst (-1), 1) := by decide +kernel
theorem dX6_write_37 : decode cX6_write 37 = .ok (.ireturn, 1) := by decide +kernel
theorem dX6_write_38 : decode cX6_write 38 = .ok (.aload_n 0, 1) := by decide +kernel
theorem dX6_write_39 : decode cX6_write 39 = .ok (.getfield 7, 3) := by decide +kernel
theorem dX6_write_42 : decode cX6_write 42 = .ok (.iload_n 2, 1) := by decide +kernel
theorem dX6_write_43 : decode cX6_write 43 = .ok (.iaload, 1) := by decide +kernel
theorem dX6_write_44 : decode cX6_write 44 = .ok (.iconst 1, 1) := by decide +kernel
theorem dX6_write_45 : decode cX6_write 45 = .ok (.if_icmp .ne 7, 3) := by decide +kernel
theorem dX6_write_48 : decode cX6_write 48 = .ok (.iconst 1, 1) := by decide +kernel
theorem dX6_write_49 : decode cX6_write 49 = .ok (.goto 4, 3) := by decide +kernel
theorem dX6_write_52 : decode cX6_write 52 = .ok (.iconst 0, 1) := by decide +kernel
theorem dX6_write_53 : decode cX6_write 53 = .ok (.istore 6, 2) := by decide +kernel
theorem dX6_write_55 : decode cX6_write 55 = .ok (.iload 5, 2) := by decide +kernel
theorem dX6_write_57 : decode cX6_write 57 = .ok (.bipush (-2), 2) := by decide +kernel
theorem dX6_write_59 : decode cX6_write 59 = .ok (.if_icmp .ne 8, 3) := by decide +kernel
theorem dX6_write_62 : decode cX6_write 62 = .ok (.iload 6, 2) := by decide +kernel
theorem dX6_write_64 : decode cX6_write 64 = .ok (.ifCond .ne 24, 3) := by decide +kernel
theorem dX6_write_67 : decode cX6_write 67 = .ok (.iload 5, 2) := by decide +kernel
theorem dX6_write_69 : decode cX6_write 69 = .ok (.ifCond .lt 22, 3) := by decide +kernel
theorem dX6_write_72 : decode cX6_write 72 = .ok (.iload 6, 2) := by decide +kernel
theorem dX6_write_74 : decode cX6_write 74 = .ok (.ifCond .eq 14, 3) := by decide +kernel
theorem dX6_write_77 : decode cX6_write 77 = .ok (.aload_n 0, 1) := by decide +kernel
theorem dX6_write_78 : decode cX6_write 78 = .ok (.getfield 13, 3) := by decide +kernel
theorem dX6_write_81 : decode cX6_write 81 = .ok (.iload_n 2, 1) := by decide +kernel
theorem dX6_write_82 : decode cX6_write 82 = .ok (.iaload, 1) := by decide +kernel
theorem dX6_write_83 : decode cX6_write 83 = .ok (.iload 5, 2) := by decide +kernel
theorem dX6_write_85 : decode cX6_write 85 = .ok (.if_icmp .eq 6, 3) := by decide +kernel
theorem dX6_write_88 : decode cX6_write 88 = .ok (.bipush (-2), 2) := by decide +kernel
theorem dX6_write_90 : decode cX6_write 90 = .ok (.ireturn, 1) := by decide +kernel
theorem dX6_write_91 : decode cX6_write 91 = .ok (.aload_n 0, 1) := by decide +kernel
theorem dX6_write_92 : decode cX6_write 92 = .ok (.getfield 49, 3) := by decide +kernel
theorem dX6_write_95 : decode cX6_write 95 = .ok (.iconst 1, 1) := by decide +kernel
theorem dX6_write_96 : decode cX6_write 96 = .ok (.iadd, 1) := by decide +kernel
theorem dX6_write_97 : decode cX6_write 97 = .ok (.istore 7, 2) := by decide +kernel
theorem dX6_write_99 : decode cX6_write 99 = .ok (.aload_n 0, 1) := by decide +kernel
theorem dX6_write_100 : decode cX6_write 100 = .ok (.iload_n 1, 1) := by decide +kernel
theorem dX6_write_101 : decode cX6_write 101 = .ok (.iconst 1, 1) := by decide +kernel
theorem dX6_write_102 : decode cX6_write 102 = .ok (.invokevirtual 136, 3) := by decide +kernel
theorem dX6_write_105 : decode cX6_write 105 = .ok (.ifCond .eq 15, 3) := by decide +kernel
theorem dX6_write_108 : decode cX6_write 108 = .ok (.iload 7, 2) := by decide +kernel
theorem dX6_write_110 : decode cX6_write 110 = .ok (.aload_n 0, 1) := by decide +kernel
theorem dX6_write_111 : decode cX6_write 111 = .ok (.getfield 45, 3) := by decide +kernel
theorem dX6_write_114 : decode cX6_write 114 = .ok (.bipush 64, 2) := by decide +kernel
theorem dX6_write_116 : decode cX6_write 116 = .ok (.iadd, 1) := by decide +kernel
theorem dX6_write_117 : decode cX6_write 117 = .ok (.if_icmp .le 6, 3) := by decide +kernel
theorem dX6_write_120 : decode cX6_write 120 = .ok (.bipush (-3), 2) := by decide +kernel
theorem dX6_write_122 : decode cX6_write 122 = .ok (.ireturn, 1) := by decide +kernel
theorem dX6_write_123 : decode cX6_write 123 = .ok (.aload_n 0, 1) := by decide +kernel
theorem dX6_write_124 : decode cX6_write 124 = .ok (.getfield 16, 3) := by decide +kernel
theorem dX6_write_127 : decode cX6_write 127 = .ok (.iload_n 2, 1) := by decide +kernel
theorem dX6_write_128 : decode cX6_write 128 = .ok (.iaload, 1) := by decide +kernel
theorem dX6_write_129 : decode cX6_write 129 = .ok (.iconst 1, 1) := by decide +kernel
theorem dX6_write_130 : decode cX6_write 130 = .ok (.iadd, 1) := by decide +kernel
theorem dX6_write_131 : decode cX6_write 131 = .ok (.ldc 140, 2) := by decide +kernel
theorem dX6_write_133 : decode cX6_write 133 = .ok (.iand, 1) := by decide +kernel
theorem dX6_write_134 : decode cX6_write 134 = .ok (.istore 8, 2) := by decide +kernel
theorem dX6_write_136 : decode cX6_write 136 = .ok (.aload_n 0, 1) := by decide +kernel
theorem dX6_write_137 : decode cX6_write 137 = .ok (.iload_n 1, 1) := by decide +kernel
theorem dX6_write_138 : decode cX6_write 138 = .ok (.iload_n 2, 1) := by decide +kernel
theorem dX6_write_139 : decode cX6_write 139 = .ok (.iload 7, 2) := by decide +kernel
theorem dX6_write_141 : decode cX6_write 141 = .ok (.iload 8, 2) := by decide +kernel
theorem dX6_write_143 : decode cX6_write 143 = .ok (.lload_n 3, 1) := by decide +kernel
theorem dX6_write_144 : decode cX6_write 144 = .ok (.invokevirtual 141, 3) := by decide +kernel
theorem dX6_write_147 : decode cX6_write 147 = .ok (.aload_n 0, 1) := by decide +kernel
theorem dX6_write_148 : decode cX6_write 148 = .ok (.iload_n 1, 1) := by decide +kernel
theorem dX6_write_149 : decode cX6_write 149 = .ok (.iload_n 2, 1) := by decide +kernel
theorem dX6_write_150 : decode cX6_write 150 = .ok (.iload 7, 2) := by decide +kernel
theorem dX6_write_152 : decode cX6_write 152 = .ok (.iload 8, 2) := by decide +kernel
theorem dX6_write_154 : decode cX6_write 154 = .ok (.lload_n 3, 1) := by decide +kernel
theorem dX6_write_155 : decode cX6_write 155 = .ok (.invokevirtual 145, 3) := by decide +kernel
theorem dX6_write_158 : decode cX6_write 158 = .ok (.pop, 1) := by decide +kernel
theorem dX6_write_159 : decode cX6_write 159 = .ok (.iload 7, 2) := by decide +kernel
theorem dX6_write_161 : decode cX6_write 161 = .ok (.ireturn, 1) := by decide +kernel
set_option maxRecDepth 20000 in
theorem ggX6_replica_X6_in : GoodIn wsX6_replica wsX6_in := goodIn_r _ [7] (by decide +kernel) (by decide +kernel)
set_option maxRecDepth 20000 in
theorem gX6_replica_X6_in : GoodIn wsX6_replica (va_wsS RX6 108 yX6_in wsX6_in) := goodIn_app (goodIn_of _ (by decide +kernel)) ggX6_replica_X6_in
set_option maxRecDepth 20000 in
theorem ggX6_replica_X6_isDone : GoodIn wsX6_replica wsX6_isDone := goodIn_r _ [11, 2, 12, 50, 51, 52, 53, 54, 55, 56, 57, 58, 59, 60, 61, 62, 63, 64, 65, 66, 67, 68, 69, 70, 71, 72, 73, 74, 75, 76, 77, 78, 79, 80, 81, 82, 83, 84, 85] (by decide +kernel) (by decide +kernel)
set_option maxRecDepth 20000 in
theorem gX6_replica_X6_isDone : GoodIn wsX6_replica (wsV RX6 150 RX6 yX6_isDone wsX6_isDone) := goodIn_app (goodIn_of _ (by decide +kernel)) ggX6_replica_X6_isDone
set_option maxRecDepth 20000 in
theorem ggX6_replica_X6_fits : GoodIn wsX6_replica wsX6_fits := goodIn_r _ [16, 17, 18, 19, 20, 6, 21, 50, 51, 52, 53, 54, 55, 56, 57, 58, 59, 60, 61, 62, 63, 64, 65, 66, 67, 68, 69, 70, 71, 72, 73, 74, 75, 76, 77, 78, 79, 80, 81, 82, 83, 84, 85] (by decide +kernel) (by decide +kernel)
set_option maxRecDepth 20000 in
theorem gX6_replica_X6_fits : GoodIn wsX6_replica (wsV RX6 136 RX6 yX6_fits wsX6_fits) := goodIn_app (goodIn_of _ (by decide +kernel)) ggX6_replica_X6_fits
set_option maxRecDepth 20000 in
theorem ggX6_replica_X6_append : GoodIn wsX6_replica wsX6_append := goodIn_r _ [25, 17, 26, 27, 28, 29, 6, 30, 18, 19, 20, 21, 31, 32, 33, 34, 35, 36, 37, 38, 39, 40, 50, 51, 52, 53, 54, 55, 56, 57, 58, 59, 60, 61, 62, 63, 64, 65, 66, 67, 68, 69, 70, 71, 72, 73, 74, 75, 76, 77, 78, 79, 80, 81, 82, 83, 84, 85] (by decide +kernel) (by decide +kernel)
set_option maxRecDepth 20000 in
theorem gX6_replica_X6_append : GoodIn wsX6_replica (wsV RX6 141 RX6 yX6_append wsX6_append) := goodIn_app (goodIn_of _ (by decide +kernel)) ggX6_replica_X6_append
set_option maxRecDepth 20000 in
theorem ggX6_replica_X6_process : GoodIn wsX6_replica wsX6_process := goodIn_r _ [44, 12, 2, 45, 46, 47, 48, 49, 50, 51, 52, 53, 54, 55, 56, 57, 58, 59, 60, 61, 62, 63, 64, 65, 66, 67, 68, 69, 70, 71, 72, 73, 74, 75, 76, 77, 78, 79, 80, 81, 82, 83, 84, 85] (by decide +kernel) (by decide +kernel)
set_option maxRecDepth 20000 in
theorem gX6_replica_X6_process : GoodIn wsX6_replica (wsV RX6 145 RX6 yX6_process wsX6_process) := goodIn_app (goodIn_of _ (by decide +kernel)) ggX6_replica_X6_process
theorem dX6_replica_0 : decode cX6_replica 0 = .ok (.aload_n 0, 1) := by decide +kernel
theorem dX6_replica_1 : decode cX6_replica 1 = .ok (.getfield 132, 3) := by decide +kernel
theorem dX6_replica_4 : decode cX6_replica 4 = .ok (.ifCond .eq 6, 3) := by decide +kernel
theorem dX6_replica_7 : decode cX6_replica 7 = .ok (.bipush (-4), 2) := by decide +kernel
theorem dX6_replica_9 : decode cX6_replica 9 = .ok (.ireturn, 1) := by decide +kernel
theorem dX6_replica_10 : decode cX6_replica 10 = .ok (.iload_n 1, 1) := by decide +kernel
theorem dX6_replica_11 : decode cX6_replica 11 = .ok (.iconst 1, 1) := by decide +kernel
theorem dX6_replica_12 : decode cX6_replica 12 = .ok (.iconst 3, 1) := by decide +kernel
theorem dX6_replica_13 : decode cX6_replica 13 = .ok (.invokestatic 108, 3) := by decide +kernel
theorem dX6_replica_16 : decode cX6_replica 16 = .ok (.ifCond .eq 18, 3) := by decide +kernel
theorem dX6_replica_19 : decode cX6_replica 19 = .ok (.iload_n 3, 1) := by decide +kernel
theorem dX6_replica_20 : decode cX6_replica 20 = .ok (.iconst 0, 1) := by decide +kernel
theorem dX6_replica_21 : decode cX6_replica 21 = .ok (.aload_n 0, 1) := by decide +kernel
theorem dX6_replica_22 : decode cX6_replica 22 = .ok (.getfield 45, 3) := by decide +kernel
theorem dX6_replica_25 : decode cX6_replica 25 = .ok (.bipush 64, 2) := by decide +kernel
theorem dX6_replica_27 : decode cX6_replica 27 = .ok (.iadd, 1) := by decide +kernel
theorem dX6_replica_28 : decode cX6_replica 28 = .ok (.invokestatic 108, 3) := by decide +kernel
theorem dX6_replica_31 : decode cX6_replica 31 = .ok (.ifCond .ne 5, 3) := by decide +kernel
theorem dX6_replica_34 : decode cX6_replica 34 = .ok (.iconst (-1), 1) := by decide +kernel
theorem dX6_replica_35 : decode cX6_replica 35 = .ok (.ireturn, 1) := by decide +kernel
theorem dX6_replica_36 : decode cX6_replica 36 = .ok (.iload_n 1, 1) := by decide +kernel
theorem dX6_replica_37 : decode cX6_replica 37 = .ok (.iconst 3, 1) := by decide +kernel
theorem dX6_replica_38 : decode cX6_replica 38 = .ok (.if_icmp .eq 26, 3) := by decide +kernel
theorem dX6_replica_41 : decode cX6_replica 41 = .ok (.iload_n 2, 1) := by decide +kernel
theorem dX6_replica_42 : decode cX6_replica 42 = .ok (.iconst 0, 1) := by decide +kernel
theorem dX6_replica_43 : decode cX6_replica 43 = .ok (.bipush 15, 2) := by decide +kernel
theorem dX6_replica_45 : decode cX6_replica 45 = .ok (.invokestatic 108, 3) := by decide +kernel
theorem dX6_replica_48 : decode cX6_replica 48 = .ok (.ifCond .eq 14, 3) := by decide +kernel
theorem dX6_replica_51 : decode cX6_replica 51 = .ok (.iload 4, 2) := by decide +kernel
theorem dX6_replica_53 : decode cX6_replica 53 = .ok (.iconst 1, 1) := by decide +kernel
theorem dX6_replica_54 : decode cX6_replica 54 = .ok (.ldc 149, 2) := by decide +kernel
theorem dX6_replica_56 : decode cX6_replica 56 = .ok (.invokestatic 108, 3) := by decide +kernel
theorem dX6_replica_59 : decode cX6_replica 59 = .ok (.ifCond .ne 5, 3) := by decide +kernel
theorem dX6_replica_62 : decode cX6_replica 62 = .ok (.iconst (-1), 1) := by decide +kernel
theorem dX6_replica_63 : decode cX6_replica 63 = .ok (.ireturn, 1) := by decide +kernel
theorem dX6_replica_64 : decode cX6_replica 64 = .ok (.aload_n 0, 1) := by decide +kernel
theorem dX6_replica_65 : decode cX6_replica 65 = .ok (.iload_n 3, 1) := by decide +kernel
theorem dX6_replica_66 : decode cX6_replica 66 = .ok (.invokevirtual 150, 3) := by decide +kernel
theorem dX6_replica_69 : decode cX6_replica 69 = .ok (.ifCond .eq 5, 3) := by decide +kernel
theorem dX6_replica_72 : decode cX6_replica 72 = .ok (.iconst 0, 1) := by decide +kernel
theorem dX6_replica_73 : decode cX6_replica 73 = .ok (.ireturn, 1) := by decide +kernel
theorem dX6_replica_74 : decode cX6_replica 74 = .ok (.aload_n 0, 1) := by decide +kernel
theorem dX6_replica_75 : decode cX6_replica 75 = .ok (.iload_n 1, 1) := by decide +kernel
theorem dX6_replica_76 : decode cX6_replica 76 = .ok (.iconst 1, 1) := by decide +kernel
theorem dX6_replica_77 : decode cX6_replica 77 = .ok (.invokevirtual 136, 3) := by decide +kernel
theorem dX6_replica_80 : decode cX6_replica 80 = .ok (.ifCond .ne 6, 3) := by decide +kernel
theorem dX6_replica_83 : decode cX6_replica 83 = .ok (.bipush (-3), 2) := by decide +kernel
theorem dX6_replica_85 : decode cX6_replica 85 = .ok (.ireturn, 1) := by decide +kernel
theorem dX6_replica_86 : decode cX6_replica 86 = .ok (.aload_n 0, 1) := by decide +kernel
theorem dX6_replica_87 : decode cX6_replica 87 = .ok (.iload_n 1, 1) := by decide +kernel
theorem dX6_replica_88 : decode cX6_replica 88 = .ok (.iload_n 2, 1) := by decide +kernel
theorem dX6_replica_89 : decode cX6_replica 89 = .ok (.iload_n 3, 1) := by decide +kernel
theorem dX6_replica_90 : decode cX6_replica 90 = .ok (.iload 4, 2) := by decide +kernel
theorem dX6_replica_92 : decode cX6_replica 92 = .ok (.lload 5, 2) := by decide +kernel
theorem dX6_replica_94 : decode cX6_replica 94 = .ok (.invokevirtual 141, 3) := by decide +kernel
theorem dX6_replica_97 : decode cX6_replica 97 = .ok (.aload_n 0, 1) := by decide +kernel
theorem dX6_replica_98 : decode cX6_replica 98 = .ok (.iload_n 1, 1) := by decide +kernel
theorem dX6_replica_99 : decode cX6_replica 99 = .ok (.iload_n 2, 1) := by decide +kernel
theorem dX6_replica_100 : decode cX6_replica 100 = .ok (.iload_n 3, 1) := by decide +kernel
theorem dX6_replica_101 : decode cX6_replica 101 = .ok (.iload 4, 2) := by decide +kernel
theorem dX6_replica_103 : decode cX6_replica 103 = .ok (.lload 5, 2) := by decide +kernel
theorem dX6_replica_105 : decode cX6_replica 105 = .ok (.invokevirtual 145, 3) := by decide +kernel
theorem dX6_replica_108 : decode cX6_replica 108 = .ok (.ifCond .eq 7, 3) := by decide +kernel
theorem dX6_replica_111 : decode cX6_replica 111 = .ok (.iconst 1, 1) := by decide +kernel
theorem dX6_replica_112 : decode cX6_replica 112 = .ok (.goto 4, 3) := by decide +kernel
theorem dX6_replica_115 : decode cX6_replica 115 = .ok (.iconst 2, 1) := by decide +kernel
theorem dX6_replica_116 : decode cX6_replica 116 = .ok (.ireturn, 1) := by decide +kernel
set_option maxRecDepth 20000 in
theorem ggX6_fill_X6_isDone : GoodIn wsX6_fill wsX6_isDone := goodIn_r _ [8, 2, 9, 46, 47, 48, 49, 50, 51, 52, 53, 54, 55, 56, 57, 58, 59, 60, 61, 62, 63, 64, 65, 66, 67, 68, 69, 70, 71, 72, 73, 74, 75, 76, 77, 78, 79, 80, 81] (by decide +kernel) (by decide +kernel)
set_option maxRecDepth 20000 in
theorem gX6_fill_X6_isDone : GoodIn wsX6_fill (wsV RX6 150 RX6 yX6_isDone wsX6_isDone) := goodIn_app (goodIn_of _ (by decide +kernel)) ggX6_fill_X6_isDone
set_option maxRecDepth 20000 in
theorem ggX6_fill_X6_fits : GoodIn wsX6_fill wsX6_fits := goodIn_r _ [13, 14, 15, 16, 17, 7, 18, 46, 47, 48, 49, 50, 51, 52, 53, 54, 55, 56, 57, 58, 59, 60, 61, 62, 63, 64, 65, 66, 67, 68, 69, 70, 71, 72, 73, 74, 75, 76, 77, 78, 79, 80, 81] (by decide +kernel) (by decide +kernel)
set_option maxRecDepth 20000 in
theorem gX6_fill_X6_fits : GoodIn wsX6_fill (wsV RX6 136 RX6 yX6_fits wsX6_fits) := goodIn_app (goodIn_of _ (by decide +kernel)) ggX6_fill_X6_fits
set_option maxRecDepth 20000 in
theorem ggX6_fill_X6_append : GoodIn wsX6_fill wsX6_append := goodIn_r _ [22, 14, 23, 24, 25, 26, 7, 27, 15, 16, 17, 18, 28, 29, 30, 31, 32, 33, 34, 35, 36, 37, 46, 47, 48, 49, 50, 51, 52, 53, 54, 55, 56, 57, 58, 59, 60, 61, 62, 63, 64, 65, 66, 67, 68, 69, 70, 71, 72, 73, 74, 75, 76, 77, 78, 79, 80, 81] (by decide +kernel) (by decide +kernel)
set_option maxRecDepth 20000 in
theorem gX6_fill_X6_append : GoodIn wsX6_fill (wsV RX6 141 RX6 yX6_append wsX6_append) := goodIn_app (goodIn_of _ (by decide +kernel)) ggX6_fill_X6_append
set_option maxRecDepth 20000 in
theorem ggX6_fill_X6_process : GoodIn wsX6_fill wsX6_process := goodIn_r _ [41, 9, 2, 3, 42, 43, 44, 45, 46, 47, 48, 49, 50, 51, 52, 53, 54, 55, 56, 57, 58, 59, 60, 61, 62, 63, 64, 65, 66, 67, 68, 69, 70, 71, 72, 73, 74, 75, 76, 77, 78, 79, 80, 81] (by decide +kernel) (by decide +kernel)
set_option maxRecDepth 20000 in
theorem gX6_fill_X6_process : GoodIn wsX6_fill (wsV RX6 145 RX6 yX6_process wsX6_process) := goodIn_app (goodIn_of _ (by decide +kernel)) ggX6_fill_X6_process
theorem dX6_fill_0 : decode cX6_fill 0 = .ok (.aload_n 0, 1) := by decide +kernel
theorem dX6_fill_1 : decode cX6_fill 1 = .ok (.getfield 132, 3) := by decide +kernel
theorem dX6_fill_4 : decode cX6_fill 4 = .ok (.ifCond .eq 6, 3) := by decide +kernel
theorem dX6_fill_7 : decode cX6_fill 7 = .ok (.bipush (-4), 2) := by decide +kernel
theorem dX6_fill_9 : decode cX6_fill 9 = .ok (.ireturn, 1) := by decide +kernel
theorem dX6_fill_10 : decode cX6_fill 10 = .ok (.iconst 0, 1) := by decide +kernel
theorem dX6_fill_11 : decode cX6_fill 11 = .ok (.istore_n 1, 1) := by decide +kernel
theorem dX6_fill_12 : decode cX6_fill 12 = .ok (.aload_n 0, 1) := by decide +kernel
theorem dX6_fill_13 : decode cX6_fill 13 = .ok (.getfield 45, 3) := by decide +kernel
theorem dX6_fill_16 : decode cX6_fill 16 = .ok (.iconst 1, 1) := by decide +kernel
theorem dX6_fill_17 : decode cX6_fill 17 = .ok (.iadd, 1) := by decide +kernel
theorem dX6_fill_18 : decode cX6_fill 18 = .ok (.istore_n 2, 1) := by decide +kernel
theorem dX6_fill_19 : decode cX6_fill 19 = .ok (.iload_n 2, 1) := by decide +kernel
theorem dX6_fill_20 : decode cX6_fill 20 = .ok (.aload_n 0, 1) := by decide +kernel
theorem dX6_fill_21 : decode cX6_fill 21 = .ok (.getfield 49, 3) := by decide +kernel
theorem dX6_fill_24 : decode cX6_fill 24 = .ok (.if_icmp .gt 20, 3) := by decide +kernel
theorem dX6_fill_27 : decode cX6_fill 27 = .ok (.aload_n 0, 1) := by decide +kernel
theorem dX6_fill_28 : decode cX6_fill 28 = .ok (.iload_n 2, 1) := by decide +kernel
theorem dX6_fill_29 : decode cX6_fill 29 = .ok (.invokevirtual 150, 3) := by decide +kernel
theorem dX6_fill_32 : decode cX6_fill 32 = .ok (.ifCond .ne 6, 3) := by decide +kernel
theorem dX6_fill_35 : decode cX6_fill 35 = .ok (.iinc 1 1, 3) := by decide +kernel
theorem dX6_fill_38 : decode cX6_fill 38 = .ok (.iinc 2 1, 3) := by decide +kernel
theorem dX6_fill_41 : decode cX6_fill 41 = .ok (.goto (-22), 3) := by decide +kernel
theorem dX6_fill_44 : decode cX6_fill 44 = .ok (.aload_n 0, 1) := by decide +kernel
theorem dX6_fill_45 : decode cX6_fill 45 = .ok (.iconst 3, 1) := by decide +kernel
theorem dX6_fill_46 : decode cX6_fill 46 = .ok (.iload_n 1, 1) := by decide +kernel
theorem dX6_fill_47 : decode cX6_fill 47 = .ok (.invokevirtual 136, 3) := by decide +kernel
theorem dX6_fill_50 : decode cX6_fill 50 = .ok (.ifCond .ne 6, 3) := by decide +kernel
theorem dX6_fill_53 : decode cX6_fill 53 = .ok (.bipush (-3), 2) := by decide +kernel
theorem dX6_fill_55 : decode cX6_fill 55 = .ok (.ireturn, 1) := by decide +kernel
theorem dX6_fill_56 : decode cX6_fill 56 = .ok (.aload_n 0, 1) := by decide +kernel
theorem dX6_fill_57 : decode cX6_fill 57 = .ok (.getfield 45, 3) := by decide +kernel
theorem dX6_fill_60 : decode cX6_fill 60 = .ok (.iconst 1, 1) := by decide +kernel
theorem dX6_fill_61 : decode cX6_fill 61 = .ok (.iadd, 1) := by decide +kernel
theorem dX6_fill_62 : decode cX6_fill 62 = .ok (.istore_n 2, 1) := by decide +kernel
theorem dX6_fill_63 : decode cX6_fill 63 = .ok (.iload_n 2, 1) := by decide +kernel
theorem dX6_fill_64 : decode cX6_fill 64 = .ok (.istore_n 3, 1) := by decide +kernel
theorem dX6_fill_65 : decode cX6_fill 65 = .ok (.iload_n 3, 1) := by decide +kernel
theorem dX6_fill_66 : decode cX6_fill 66 = .ok (.aload_n 0, 1) := by decide +kernel
theorem dX6_fill_67 : decode cX6_fill 67 = .ok (.getfield 49, 3) := by decide +kernel
theorem dX6_fill_70 : decode cX6_fill 70 = .ok (.if_icmp .gt 39, 3) := by decide +kernel
theorem dX6_fill_73 : decode cX6_fill 73 = .ok (.aload_n 0, 1) := by decide +kernel
theorem dX6_fill_74 : decode cX6_fill 74 = .ok (.iload_n 3, 1) := by decide +kernel
theorem dX6_fill_75 : decode cX6_fill 75 = .ok (.invokevirtual 150, 3) := by decide +kernel
theorem dX6_fill_78 : decode cX6_fill 78 = .ok (.ifCond .eq 6, 3) := by decide +kernel
theorem dX6_fill_81 : decode cX6_fill 81 = .ok (.goto 22, 3) := by decide +kernel
theorem dX6_fill_84 : decode cX6_fill 84 = .ok (.aload_n 0, 1) := by decide +kernel
theorem dX6_fill_85 : decode cX6_fill 85 = .ok (.iconst 3, 1) := by decide +kernel
theorem dX6_fill_86 : decode cX6_fill 86 = .ok (.iconst 0, 1) := by decide +kernel
theorem dX6_fill_87 : decode cX6_fill 87 = .ok (.iload_n 3, 1) := by decide +kernel
theorem dX6_fill_88 : decode cX6_fill 88 = .ok (.iconst 0, 1) := by decide +kernel
theorem dX6_fill_89 : decode cX6_fill 89 = .ok (.lconst 0, 1) := by decide +kernel
theorem dX6_fill_90 : decode cX6_fill 90 = .ok (.invokevirtual 141, 3) := by decide +kernel
theorem dX6_fill_93 : decode cX6_fill 93 = .ok (.aload_n 0, 1) := by decide +kernel
theorem dX6_fill_94 : decode cX6_fill 94 = .ok (.iconst 3, 1) := by decide +kernel
theorem dX6_fill_95 : decode cX6_fill 95 = .ok (.iconst 0, 1) := by decide +kernel
theorem dX6_fill_96 : decode cX6_fill 96 = .ok (.iload_n 3, 1) := by decide +kernel
theorem dX6_fill_97 : decode cX6_fill 97 = .ok (.iconst 0, 1) := by decide +kernel
theorem dX6_fill_98 : decode cX6_fill 98 = .ok (.lconst 0, 1) := by decide +kernel
theorem dX6_fill_99 : decode cX6_fill 99 = .ok (.invokevirtual 145, 3) := by decide +kernel
theorem dX6_fill_102 : decode cX6_fill 102 = .ok (.pop, 1) := by decide +kernel
theorem dX6_fill_103 : decode cX6_fill 103 = .ok (.iinc 3 1, 3) := by decide +kernel
theorem dX6_fill_106 : decode cX6_fill 106 = .ok (.goto (-41), 3) := by decide +kernel
theorem dX6_fill_109 : decode cX6_fill 109 = .ok (.iload_n 1, 1) := by decide +kernel
theorem dX6_fill_110 : decode cX6_fill 110 = .ok (.ireturn, 1) := by decide +kernel
set_option maxRecDepth 20000 in
theorem ggX6_get_X6_in : GoodIn wsX6_get wsX6_in := goodIn_r _ [9] (by decide +kernel) (by decide +kernel)
set_option maxRecDepth 20000 in
theorem gX6_get_X6_in : GoodIn wsX6_get (va_wsS RX6 108 yX6_in wsX6_in) := goodIn_app (goodIn_of _ (by decide +kernel)) ggX6_get_X6_in
theorem dX6_get_0 : decode cX6_get 0 = .ok (.aload_n 0, 1) := by decide +kernel
theorem dX6_get_1 : decode cX6_get 1 = .ok (.getfield 132, 3) := by decide +kernel
theorem dX6_get_4 : decode cX6_get 4 = .ok (.ifCond .eq 7, 3) := by decide +kernel
theorem dX6_get_7 : decode cX6_get 7 = .ok (.ldc2_w 154, 3) := by decide +kernel
theorem dX6_get_10 : decode cX6_get 10 = .ok (.lreturn, 1) := by decide +kernel
theorem dX6_get_11 : decode cX6_get 11 = .ok (.iload_n 1, 1) := by decide +kernel
theorem dX6_get_12 : decode cX6_get 12 = .ok (.iconst 0, 1) := by decide +kernel
theorem dX6_get_13 : decode cX6_get 13 = .ok (.bipush 15, 2) := by decide +kernel
theorem dX6_get_15 : decode cX6_get 15 = .ok (.invokestatic 108, 3) := by decide +kernel
theorem dX6_get_18 : decode cX6_get 18 = .ok (.ifCond .eq 26, 3) := by decide +kernel
theorem dX6_get_21 : decode cX6_get 21 = .ok (.aload_n 0, 1) := by decide +kernel
theorem dX6_get_22 : decode cX6_get 22 = .ok (.getfield 7, 3) := by decide +kernel
theorem dX6_get_25 : decode cX6_get 25 = .ok (.iload_n 1, 1) := by decide +kernel
theorem dX6_get_26 : decode cX6_get 26 = .ok (.iaload, 1) := by decide +kernel
theorem dX6_get_27 : decode cX6_get 27 = .ok (.iconst 1, 1) := by decide +kernel
theorem dX6_get_28 : decode cX6_get 28 = .ok (.if_icmp .ne 12, 3) := by decide +kernel
theorem dX6_get_31 : decode cX6_get 31 = .ok (.aload_n 0, 1) := by decide +kernel
theorem dX6_get_32 : decode cX6_get 32 = .ok (.getfield 31, 3) := by decide +kernel
theorem dX6_get_35 : decode cX6_get 35 = .ok (.iload_n 1, 1) := by decide +kernel
theorem dX6_get_36 : decode cX6_get 36 = .ok (.laload, 1) := by decide +kernel
theorem dX6_get_37 : decode cX6_get 37 = .ok (.goto 10, 3) := by decide +kernel
theorem dX6_get_40 : decode cX6_get 40 = .ok (.lconst 0, 1) := by decide +kernel
theorem dX6_get_41 : decode cX6_get 41 = .ok (.goto 6, 3) := by decide +kernel
theorem dX6_get_44 : decode cX6_get 44 = .ok (.ldc2_w 156, 3) := by decide +kernel
theorem dX6_get_47 : decode cX6_get 47 = .ok (.lreturn, 1) := by decide +kernel
set_option maxRecDepth 20000 in
theorem ggX6_known_X6_in : GoodIn wsX6_known wsX6_in := goodIn_r _ [9] (by decide +kernel) (by decide +kernel)
set_option maxRecDepth 20000 in
theorem gX6_known_X6_in : GoodIn wsX6_known (va_wsS RX6 108 yX6_in wsX6_in) := goodIn_app (goodIn_of _ (by decide +kernel)) ggX6_known_X6_in
theorem dX6_known_0 : decode cX6_known 0 = .ok (.aload_n 0, 1) := by decide +kernel
theorem dX6_known_1 : decode cX6_known 1 = .ok (.getfield 132, 3) := by decide +kernel
theorem dX6_known_4 : decode cX6_known 4 = .ok (.ifCond .eq 6, 3) := by decide +kernel
theorem dX6_known_7 : decode cX6_known 7 = .ok (.bipush (-4), 2) := by decide +kernel
theorem dX6_known_9 : decode cX6_known 9 = .ok (.ireturn, 1) := by decide +kernel
theorem dX6_known_10 : decode cX6_known 10 = .ok (.iload_n 1, 1) := by decide +kernel
theorem dX6_known_11 : decode cX6_known 11 = .ok (.iconst 0, 1) := by decide +kernel
theorem dX6_known_12 : decode cX6_known 12 = .ok (.bipush 15, 2) := by decide +kernel
theorem dX6_known_14 : decode cX6_known 14 = .ok (.invokestatic 108, 3) := by decide +kernel
theorem dX6_known_17 : decode cX6_known 17 = .ok (.ifCond .ne 5, 3) := by decide +kernel
theorem dX6_known_20 : decode cX6_known 20 = .ok (.iconst (-1), 1) := by decide +kernel
theorem dX6_known_21 : decode cX6_known 21 = .ok (.ireturn, 1) := by decide +kernel
theorem dX6_known_22 : decode cX6_known 22 = .ok (.iload_n 2, 1) := by decide +kernel
theorem dX6_known_23 : decode cX6_known 23 = .ok (.tableswitch 76 0 4 #[33, 40, 47, 54, 69], 33) := by decide +kernel
theorem dX6_known_56 : decode cX6_known 56 = .ok (.aload_n 0, 1) := by decide +kernel
theorem dX6_known_57 : decode cX6_known 57 = .ok (.getfield 7, 3) := by decide +kernel
theorem dX6_known_60 : decode cX6_known 60 = .ok (.iload_n 1, 1) := by decide +kernel
theorem dX6_known_61 : decode cX6_known 61 = .ok (.iaload, 1) := by decide +kernel
theorem dX6_known_62 : decode cX6_known 62 = .ok (.ireturn, 1) := by decide +kernel
theorem dX6_known_63 : decode cX6_known 63 = .ok (.aload_n 0, 1) := by decide +kernel
theorem dX6_known_64 : decode cX6_known 64 = .ok (.getfield 13, 3) := by decide +kernel
theorem dX6_known_67 : decode cX6_known 67 = .ok (.iload_n 1, 1) := by decide +kernel
theorem dX6_known_68 : decode cX6_known 68 = .ok (.iaload, 1) := by decide +kernel
theorem dX6_known_69 : decode cX6_known 69 = .ok (.ireturn, 1) := by decide +kernel
theorem dX6_known_70 : decode cX6_known 70 = .ok (.aload_n 0, 1) := by decide +kernel
theorem dX6_known_71 : decode cX6_known 71 = .ok (.getfield 16, 3) := by decide +kernel
theorem dX6_known_74 : decode cX6_known 74 = .ok (.iload_n 1, 1) := by decide +kernel
theorem dX6_known_75 : decode cX6_known 75 = .ok (.iaload, 1) := by decide +kernel
theorem dX6_known_76 : decode cX6_known 76 = .ok (.ireturn, 1) := by decide +kernel
theorem dX6_known_77 : decode cX6_known 77 = .ok (.aload_n 0, 1) := by decide +kernel
theorem dX6_known_78 : decode cX6_known 78 = .ok (.getfield 28, 3) := by decide +kernel
theorem dX6_known_81 : decode cX6_known 81 = .ok (.iload_n 1, 1) := by decide +kernel
theorem dX6_known_82 : decode cX6_known 82 = .ok (.iaload, 1) := by decide +kernel
theorem dX6_known_83 : decode cX6_known 83 = .ok (.ifCond .lt 7, 3) := by decide +kernel
theorem dX6_known_86 : decode cX6_known 86 = .ok (.iconst 1, 1) := by decide +kernel
theorem dX6_known_87 : decode cX6_known 87 = .ok (.goto 4, 3) := by decide +kernel
theorem dX6_known_90 : decode cX6_known 90 = .ok (.iconst 0, 1) := by decide +kernel
theorem dX6_known_91 : decode cX6_known 91 = .ok (.ireturn, 1) := by decide +kernel
theorem dX6_known_92 : decode cX6_known 92 = .ok (.aload_n 0, 1) := by decide +kernel
theorem dX6_known_93 : decode cX6_known 93 = .ok (.getfield 28, 3) := by decide +kernel
theorem dX6_known_96 : decode cX6_known 96 = .ok (.iload_n 1, 1) := by decide +kernel
theorem dX6_known_97 : decode cX6_known 97 = .ok (.iaload, 1) := by decide +kernel
theorem dX6_known_98 : decode cX6_known 98 = .ok (.ireturn, 1) := by decide +kernel
theorem dX6_known_99 : decode cX6_known 99 = .ok (.iconst (-1), 1) := by decide +kernel
theorem dX6_known_100 : decode cX6_known 100 = .ok (.ireturn, 1) := by decide +kernel
theorem dX6_show_0 : decode cX6_show 0 = .ok (.aload_n 0, 1) := by decide +kernel
theorem dX6_show_1 : decode cX6_show 1 = .ok (.iconst 0, 1) := by decide +kernel
theorem dX6_show_2 : decode cX6_show 2 = .ok (.putfield 158, 3) := by decide +kernel
theorem dX6_show_5 : decode cX6_show 5 = .ok (.iconst 0, 1) := by decide +kernel
theorem dX6_show_6 : decode cX6_show 6 = .ok (.istore_n 1, 1) := by decide +kernel
theorem dX6_show_7 : decode cX6_show 7 = .ok (.iload_n 1, 1) := by decide +kernel
theorem dX6_show_8 : decode cX6_show 8 = .ok (.bipush 16, 2) := by decide +kernel
theorem dX6_show_10 : decode cX6_show 10 = .ok (.if_icmp .ge 79, 3) := by decide +kernel
theorem dX6_show_13 : decode cX6_show 13 = .ok (.aload_n 0, 1) := by decide +kernel
theorem dX6_show_14 : decode cX6_show 14 = .ok (.getfield 7, 3) := by decide +kernel
theorem dX6_show_17 : decode cX6_show 17 = .ok (.iload_n 1, 1) := by decide +kernel
theorem dX6_show_18 : decode cX6_show 18 = .ok (.iaload, 1) := by decide +kernel
theorem dX6_show_19 : decode cX6_show 19 = .ok (.iconst 1, 1) := by decide +kernel
theorem dX6_show_20 : decode cX6_show 20 = .ok (.if_icmp .ne 7, 3) := by decide +kernel
theorem dX6_show_23 : decode cX6_show 23 = .ok (.iconst 1, 1) := by decide +kernel
theorem dX6_show_24 : decode cX6_show 24 = .ok (.goto 4, 3) := by decide +kernel
theorem dX6_show_27 : decode cX6_show 27 = .ok (.iconst 0, 1) := by decide +kernel
theorem dX6_show_28 : decode cX6_show 28 = .ok (.istore_n 2, 1) := by decide +kernel
theorem dX6_show_29 : decode cX6_show 29 = .ok (.aload_n 0, 1) := by decide +kernel
theorem dX6_show_30 : decode cX6_show 30 = .ok (.getfield 28, 3) := by decide +kernel
theorem dX6_show_33 : decode cX6_show 33 = .ok (.iload_n 1, 1) := by decide +kernel
theorem dX6_show_34 : decode cX6_show 34 = .ok (.iload_n 2, 1) := by decide +kernel
theorem dX6_show_35 : decode cX6_show 35 = .ok (.ifCond .eq 12, 3) := by decide +kernel
theorem dX6_show_38 : decode cX6_show 38 = .ok (.aload_n 0, 1) := by decide +kernel
theorem dX6_show_39 : decode cX6_show 39 = .ok (.getfield 13, 3) := by decide +kernel
theorem dX6_show_42 : decode cX6_show 42 = .ok (.iload_n 1, 1) := by decide +kernel
theorem dX6_show_43 : decode cX6_show 43 = .ok (.iaload, 1) := by decide +kernel
theorem dX6_show_44 : decode cX6_show 44 = .ok (.goto 4, 3) := by decide +kernel
theorem dX6_show_47 : decode cX6_show 47 = .ok (.iconst (-1), 1) := by decide +kernel
theorem dX6_show_48 : decode cX6_show 48 = .ok (.iastore, 1) := by decide +kernel
theorem dX6_show_49 : decode cX6_show 49 = .ok (.aload_n 0, 1) := by decide +kernel
theorem dX6_show_50 : decode cX6_show 50 = .ok (.getfield 38, 3) := by decide +kernel
theorem dX6_show_53 : decode cX6_show 53 = .ok (.iload_n 1, 1) := by decide +kernel
theorem dX6_show_54 : decode cX6_show 54 = .ok (.iload_n 2, 1) := by decide +kernel
theorem dX6_show_55 : decode cX6_show 55 = .ok (.ifCond .eq 12, 3) := by decide +kernel
theorem dX6_show_58 : decode cX6_show 58 = .ok (.aload_n 0, 1) := by decide +kernel
theorem dX6_show_59 : decode cX6_show 59 = .ok (.getfield 31, 3) := by decide +kernel
theorem dX6_show_62 : decode cX6_show 62 = .ok (.iload_n 1, 1) := by decide +kernel
theorem dX6_show_63 : decode cX6_show 63 = .ok (.laload, 1) := by decide +kernel
