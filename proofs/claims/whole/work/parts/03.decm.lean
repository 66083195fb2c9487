theorem dX8_init_0 : decode cX8_init 0 = .ok (.aload_n 0, 1) := by decide +kernel
theorem dX8_init_1 : decode cX8_init 1 = .ok (.invokespecial 1, 3) := by decide +kernel
theorem dX8_init_4 : decode cX8_init 4 = .ok (.aload_n 0, 1) := by decide +kernel
theorem dX8_init_5 : decode cX8_init 5 = .ok (.sipush 240, 3) := by decide +kernel
theorem dX8_init_8 : decode cX8_init 8 = .ok (.newarray .int, 2) := by decide +kernel
theorem dX8_init_10 : decode cX8_init 10 = .ok (.putfield 7, 3) := by decide +kernel
theorem dX8_init_13 : decode cX8_init 13 = .ok (.aload_n 0, 1) := by decide +kernel
theorem dX8_init_14 : decode cX8_init 14 = .ok (.bipush 6, 2) := by decide +kernel
theorem dX8_init_16 : decode cX8_init 16 = .ok (.newarray .int, 2) := by decide +kernel
theorem dX8_init_18 : decode cX8_init 18 = .ok (.putfield 13, 3) := by decide +kernel
theorem dX8_init_21 : decode cX8_init 21 = .ok (.aload_n 0, 1) := by decide +kernel
theorem dX8_init_22 : decode cX8_init 22 = .ok (.sipush 240, 3) := by decide +kernel
theorem dX8_init_25 : decode cX8_init 25 = .ok (.newarray .int, 2) := by decide +kernel
theorem dX8_init_27 : decode cX8_init 27 = .ok (.putfield 16, 3) := by decide +kernel
theorem dX8_init_30 : decode cX8_init 30 = .ok (.aload_n 0, 1) := by decide +kernel
theorem dX8_init_31 : decode cX8_init 31 = .ok (.iconst 4, 1) := by decide +kernel
theorem dX8_init_32 : decode cX8_init 32 = .ok (.newarray .int, 2) := by decide +kernel
theorem dX8_init_34 : decode cX8_init 34 = .ok (.putfield 19, 3) := by decide +kernel
theorem dX8_init_37 : decode cX8_init 37 = .ok (.aload_n 0, 1) := by decide +kernel
theorem dX8_init_38 : decode cX8_init 38 = .ok (.lconst 1, 1) := by decide +kernel
theorem dX8_init_39 : decode cX8_init 39 = .ok (.putfield 22, 3) := by decide +kernel
theorem dX8_init_42 : decode cX8_init 42 = .ok (.aload_n 0, 1) := by decide +kernel
theorem dX8_init_43 : decode cX8_init 43 = .ok (.bipush 6, 2) := by decide +kernel
theorem dX8_init_45 : decode cX8_init 45 = .ok (.newarray .int, 2) := by decide +kernel
theorem dX8_init_47 : decode cX8_init 47 = .ok (.putfield 26, 3) := by decide +kernel
theorem dX8_init_50 : decode cX8_init 50 = .ok (.aload_n 0, 1) := by decide +kernel
theorem dX8_init_51 : decode cX8_init 51 = .ok (.iconst 4, 1) := by decide +kernel
theorem dX8_init_52 : decode cX8_init 52 = .ok (.newarray .int, 2) := by decide +kernel
theorem dX8_init_54 : decode cX8_init 54 = .ok (.putfield 29, 3) := by decide +kernel
theorem dX8_init_57 : decode cX8_init 57 = .ok (.aload_n 0, 1) := by decide +kernel
theorem dX8_init_58 : decode cX8_init 58 = .ok (.iconst 4, 1) := by decide +kernel
theorem dX8_init_59 : decode cX8_init 59 = .ok (.newarray .int, 2) := by decide +kernel
theorem dX8_init_61 : decode cX8_init 61 = .ok (.putfield 32, 3) := by decide +kernel
theorem dX8_init_64 : decode cX8_init 64 = .ok (.aload_n 0, 1) := by decide +kernel
theorem dX8_init_65 : decode cX8_init 65 = .ok (.iconst 4, 1) := by decide +kernel
theorem dX8_init_66 : decode cX8_init 66 = .ok (.newarray .int, 2) := by decide +kernel
theorem dX8_init_68 : decode cX8_init 68 = .ok (.putfield 35, 3) := by decide +kernel
theorem dX8_init_71 : decode cX8_init 71 = .ok (.aload_n 0, 1) := by decide +kernel
theorem dX8_init_72 : decode cX8_init 72 = .ok (.iconst 5, 1) := by decide +kernel
theorem dX8_init_73 : decode cX8_init 73 = .ok (.newarray .int, 2) := by decide +kernel
theorem dX8_init_75 : decode cX8_init 75 = .ok (.putfield 38, 3) := by decide +kernel
theorem dX8_init_78 : decode cX8_init 78 = .ok (.aload_n 0, 1) := by decide +kernel
theorem dX8_init_79 : decode cX8_init 79 = .ok (.iconst 5, 1) := by decide +kernel
theorem dX8_init_80 : decode cX8_init 80 = .ok (.newarray .int, 2) := by decide +kernel
theorem dX8_init_82 : decode cX8_init 82 = .ok (.putfield 41, 3) := by decide +kernel
theorem dX8_init_85 : decode cX8_init 85 = .ok (.aload_n 0, 1) := by decide +kernel
theorem dX8_init_86 : decode cX8_init 86 = .ok (.bipush 12, 2) := by decide +kernel
theorem dX8_init_88 : decode cX8_init 88 = .ok (.newarray .int, 2) := by decide +kernel
theorem dX8_init_90 : decode cX8_init 90 = .ok (.putfield 44, 3) := by decide +kernel
theorem dX8_init_93 : decode cX8_init 93 = .ok (.aload_n 0, 1) := by decide +kernel
theorem dX8_init_94 : decode cX8_init 94 = .ok (.bipush 12, 2) := by decide +kernel
theorem dX8_init_96 : decode cX8_init 96 = .ok (.newarray .int, 2) := by decide +kernel
theorem dX8_init_98 : decode cX8_init 98 = .ok (.putfield 47, 3) := by decide +kernel
theorem dX8_init_101 : decode cX8_init 101 = .ok (.aload_n 0, 1) := by decide +kernel
theorem dX8_init_102 : decode cX8_init 102 = .ok (.sipush 480, 3) := by decide +kernel
theorem dX8_init_105 : decode cX8_init 105 = .ok (.newarray .int, 2) := by decide +kernel
theorem dX8_init_107 : decode cX8_init 107 = .ok (.putfield 50, 3) := by decide +kernel
theorem dX8_init_110 : decode cX8_init 110 = .ok (.aload_n 0, 1) := by decide +kernel
theorem dX8_init_111 : decode cX8_init 111 = .ok (.sipush 1479, 3) := by decide +kernel
theorem dX8_init_114 : decode cX8_init 114 = .ok (.newarray .int, 2) := by decide +kernel
theorem dX8_init_116 : decode cX8_init 116 = .ok (.putfield 53, 3) := by decide +kernel
theorem dX8_init_119 : decode cX8_init 119 = .ok (.aload_n 0, 1) := by decide +kernel
theorem dX8_init_120 : decode cX8_init 120 = .ok (.iconst 4, 1) := by decide +kernel
theorem dX8_init_121 : decode cX8_init 121 = .ok (.newarray .int, 2) := by decide +kernel
theorem dX8_init_123 : decode cX8_init 123 = .ok (.putfield 56, 3) := by decide +kernel
theorem dX8_init_126 : decode cX8_init 126 = .ok (.aload_n 0, 1) := by decide +kernel
theorem dX8_init_127 : decode cX8_init 127 = .ok (.iconst 4, 1) := by decide +kernel
theorem dX8_init_128 : decode cX8_init 128 = .ok (.newarray .int, 2) := by decide +kernel
theorem dX8_init_130 : decode cX8_init 130 = .ok (.putfield 59, 3) := by decide +kernel
theorem dX8_init_133 : decode cX8_init 133 = .ok (.aload_n 0, 1) := by decide +kernel
theorem dX8_init_134 : decode cX8_init 134 = .ok (.iconst 4, 1) := by decide +kernel
theorem dX8_init_135 : decode cX8_init 135 = .ok (.newarray .int, 2) := by decide +kernel
theorem dX8_init_137 : decode cX8_init 137 = .ok (.putfield 62, 3) := by decide +kernel
theorem dX8_init_140 : decode cX8_init 140 = .ok (.aload_n 0, 1) := by decide +kernel
theorem dX8_init_141 : decode cX8_init 141 = .ok (.iconst 5, 1) := by decide +kernel
theorem dX8_init_142 : decode cX8_init 142 = .ok (.newarray .int, 2) := by decide +kernel
theorem dX8_init_144 : decode cX8_init 144 = .ok (.putfield 65, 3) := by decide +kernel
theorem dX8_init_147 : decode cX8_init 147 = .ok (.aload_n 0, 1) := by decide +kernel
theorem dX8_init_148 : decode cX8_init 148 = .ok (.iconst 5, 1) := by decide +kernel
theorem dX8_init_149 : decode cX8_init 149 = .ok (.newarray .int, 2) := by decide +kernel
theorem dX8_init_151 : decode cX8_init 151 = .ok (.putfield 68, 3) := by decide +kernel
theorem dX8_init_154 : decode cX8_init 154 = .ok (.aload_n 0, 1) := by decide +kernel
theorem dX8_init_155 : decode cX8_init 155 = .ok (.iconst 5, 1) := by decide +kernel
theorem dX8_init_156 : decode cX8_init 156 = .ok (.newarray .int, 2) := by decide +kernel
theorem dX8_init_158 : decode cX8_init 158 = .ok (.putfield 71, 3) := by decide +kernel
theorem dX8_init_161 : decode cX8_init 161 = .ok (.aload_n 0, 1) := by decide +kernel
theorem dX8_init_162 : decode cX8_init 162 = .ok (.iconst 5, 1) := by decide +kernel
theorem dX8_init_163 : decode cX8_init 163 = .ok (.newarray .int, 2) := by decide +kernel
theorem dX8_init_165 : decode cX8_init 165 = .ok (.putfield 74, 3) := by decide +kernel
theorem dX8_init_168 : decode cX8_init 168 = .ok (.aload_n 0, 1) := by decide +kernel
theorem dX8_init_169 : decode cX8_init 169 = .ok (.iconst 5, 1) := by decide +kernel
theorem dX8_init_170 : decode cX8_init 170 = .ok (.newarray .int, 2) := by decide +kernel
theorem dX8_init_172 : decode cX8_init 172 = .ok (.putfield 77, 3) := by decide +kernel
theorem dX8_init_175 : decode cX8_init 175 = .ok (.aload_n 0, 1) := by decide +kernel
theorem dX8_init_176 : decode cX8_init 176 = .ok (.iconst 5, 1) := by decide +kernel
theorem dX8_init_177 : decode cX8_init 177 = .ok (.newarray .int, 2) := by decide +kernel
theorem dX8_init_179 : decode cX8_init 179 = .ok (.putfield 80, 3) := by decide +kernel
theorem dX8_init_182 : decode cX8_init 182 = .ok (.iconst 0, 1) := by decide +kernel
theorem dX8_init_183 : decode cX8_init 183 = .ok (.istore_n 1, 1) := by decide +kernel
theorem dX8_init_184 : decode cX8_init 184 = .ok (.iload_n 1, 1) := by decide +kernel
theorem dX8_init_185 : decode cX8_init 185 = .ok (.bipush 6, 2) := by decide +kernel
theorem dX8_init_187 : decode cX8_init 187 = .ok (.if_icmp .ge 16, 3) := by decide +kernel
theorem dX8_init_190 : decode cX8_init 190 = .ok (.aload_n 0, 1) := by decide +kernel
theorem dX8_init_191 : decode cX8_init 191 = .ok (.getfield 13, 3) := by decide +kernel
theorem dX8_init_194 : decode cX8_init 194 = .ok (.iload_n 1, 1) := by decide +kernel
theorem dX8_init_195 : decode cX8_init 195 = .ok (.iconst (-1), 1) := by decide +kernel
theorem dX8_init_196 : decode cX8_init 196 = .ok (.iastore, 1) := by decide +kernel
theorem dX8_init_197 : decode cX8_init 197 = .ok (.iinc 1 1, 3) := by decide +kernel
theorem dX8_init_200 : decode cX8_init 200 = .ok (.goto (-16), 3) := by decide +kernel
theorem dX8_init_203 : decode cX8_init 203 = .ok (.iconst 0, 1) := by decide +kernel
theorem dX8_init_204 : decode cX8_init 204 = .ok (.istore_n 1, 1) := by decide +kernel
theorem dX8_init_205 : decode cX8_init 205 = .ok (.iload_n 1, 1) := by decide +kernel
theorem dX8_init_206 : decode cX8_init 206 = .ok (.iconst 4, 1) := by decide +kernel
theorem dX8_init_207 : decode cX8_init 207 = .ok (.if_icmp .ge 16, 3) := by decide +kernel
theorem dX8_init_210 : decode cX8_init 210 = .ok (.aload_n 0, 1) := by decide +kernel
theorem dX8_init_211 : decode cX8_init 211 = .ok (.getfield 19, 3) := by decide +kernel
theorem dX8_init_214 : decode cX8_init 214 = .ok (.iload_n 1, 1) := by decide +kernel
theorem dX8_init_215 : decode cX8_init 215 = .ok (.iconst (-1), 1) := by decide +kernel
theorem dX8_init_216 : decode cX8_init 216 = .ok (.iastore, 1) := by decide +kernel
theorem dX8_init_217 : decode cX8_init 217 = .ok (.iinc 1 1, 3) := by decide +kernel
theorem dX8_init_220 : decode cX8_init 220 = .ok (.goto (-15), 3) := by decide +kernel
theorem dX8_init_223 : decode cX8_init 223 = .ok (.aload_n 0, 1) := by decide +kernel
theorem dX8_init_224 : decode cX8_init 224 = .ok (.invokevirtual 83, 3) := by decide +kernel
theorem dX8_init_227 : decode cX8_init 227 = .ok (.return_, 1) := by decide +kernel
theorem dX8_in_0 : decode cX8_in 0 = .ok (.lload_n 0, 1) := by decide +kernel
theorem dX8_in_1 : decode cX8_in 1 = .ok (.lload_n 2, 1) := by decide +kernel
theorem dX8_in_2 : decode cX8_in 2 = .ok (.lcmp, 1) := by decide +kernel
theorem dX8_in_3 : decode cX8_in 3 = .ok (.ifCond .lt 14, 3) := by decide +kernel
theorem dX8_in_6 : decode cX8_in 6 = .ok (.lload_n 0, 1) := by decide +kernel
theorem dX8_in_7 : decode cX8_in 7 = .ok (.lload 4, 2) := by decide +kernel
theorem dX8_in_9 : decode cX8_in 9 = .ok (.lcmp, 1) := by decide +kernel
theorem dX8_in_10 : decode cX8_in 10 = .ok (.ifCond .gt 7, 3) := by decide +kernel
theorem dX8_in_13 : decode cX8_in 13 = .ok (.iconst 1, 1) := by decide +kernel
theorem dX8_in_14 : decode cX8_in 14 = .ok (.goto 4, 3) := by decide +kernel
theorem dX8_in_17 : decode cX8_in 17 = .ok (.iconst 0, 1) := by decide +kernel
theorem dX8_in_18 : decode cX8_in 18 = .ok (.ireturn, 1) := by decide +kernel
theorem dX8_has_0 : decode cX8_has 0 = .ok (.iload_n 0, 1) := by decide +kernel
theorem dX8_has_1 : decode cX8_has 1 = .ok (.iload_n 1, 1) := by decide +kernel
theorem dX8_has_2 : decode cX8_has 2 = .ok (.ishr, 1) := by decide +kernel
theorem dX8_has_3 : decode cX8_has 3 = .ok (.iconst 1, 1) := by decide +kernel
theorem dX8_has_4 : decode cX8_has 4 = .ok (.iand, 1) := by decide +kernel
theorem dX8_has_5 : decode cX8_has 5 = .ok (.iconst 1, 1) := by decide +kernel
theorem dX8_has_6 : decode cX8_has 6 = .ok (.if_icmp .ne 7, 3) := by decide +kernel
theorem dX8_has_9 : decode cX8_has 9 = .ok (.iconst 1, 1) := by decide +kernel
theorem dX8_has_10 : decode cX8_has 10 = .ok (.goto 4, 3) := by decide +kernel
theorem dX8_has_13 : decode cX8_has 13 = .ok (.iconst 0, 1) := by decide +kernel
theorem dX8_has_14 : decode cX8_has 14 = .ok (.ireturn, 1) := by decide +kernel
theorem dX8_bits_0 : decode cX8_bits 0 = .ok (.iconst 0, 1) := by decide +kernel
theorem dX8_bits_1 : decode cX8_bits 1 = .ok (.istore_n 1, 1) := by decide +kernel
theorem dX8_bits_2 : decode cX8_bits 2 = .ok (.iload_n 0, 1) := by decide +kernel
theorem dX8_bits_3 : decode cX8_bits 3 = .ok (.istore_n 2, 1) := by decide +kernel
theorem dX8_bits_4 : decode cX8_bits 4 = .ok (.iload_n 2, 1) := by decide +kernel
theorem dX8_bits_5 : decode cX8_bits 5 = .ok (.ifCond .eq 15, 3) := by decide +kernel
theorem dX8_bits_8 : decode cX8_bits 8 = .ok (.iinc 1 1, 3) := by decide +kernel
theorem dX8_bits_11 : decode cX8_bits 11 = .ok (.iload_n 2, 1) := by decide +kernel
theorem dX8_bits_12 : decode cX8_bits 12 = .ok (.iload_n 2, 1) := by decide +kernel
theorem dX8_bits_13 : decode cX8_bits 13 = .ok (.iconst 1, 1) := by decide +kernel
theorem dX8_bits_14 : decode cX8_bits 14 = .ok (.isub, 1) := by decide +kernel
theorem dX8_bits_15 : decode cX8_bits 15 = .ok (.iand, 1) := by decide +kernel
theorem dX8_bits_16 : decode cX8_bits 16 = .ok (.istore_n 2, 1) := by decide +kernel
theorem dX8_bits_17 : decode cX8_bits 17 = .ok (.goto (-13), 3) := by decide +kernel
theorem dX8_bits_20 : decode cX8_bits 20 = .ok (.iload_n 1, 1) := by decide +kernel
theorem dX8_bits_21 : decode cX8_bits 21 = .ok (.ireturn, 1) := by decide +kernel
theorem dX8_found_0 : decode cX8_found 0 = .ok (.aload_n 0, 1) := by decide +kernel
theorem dX8_found_1 : decode cX8_found 1 = .ok (.iload_n 1, 1) := by decide +kernel
theorem dX8_found_2 : decode cX8_found 2 = .ok (.putfield 86, 3) := by decide +kernel
theorem dX8_found_5 : decode cX8_found 5 = .ok (.aload_n 0, 1) := by decide +kernel
theorem dX8_found_6 : decode cX8_found 6 = .ok (.getfield 26, 3) := by decide +kernel
theorem dX8_found_9 : decode cX8_found 9 = .ok (.iload_n 1, 1) := by decide +kernel
theorem dX8_found_10 : decode cX8_found 10 = .ok (.dup2, 1) := by decide +kernel
theorem dX8_found_11 : decode cX8_found 11 = .ok (.iaload, 1) := by decide +kernel
theorem dX8_found_12 : decode cX8_found 12 = .ok (.iconst 1, 1) := by decide +kernel
theorem dX8_found_13 : decode cX8_found 13 = .ok (.iadd, 1) := by decide +kernel
theorem dX8_found_14 : decode cX8_found 14 = .ok (.iastore, 1) := by decide +kernel
theorem dX8_found_15 : decode cX8_found 15 = .ok (.bipush (-3), 2) := by decide +kernel
theorem dX8_found_17 : decode cX8_found 17 = .ok (.ireturn, 1) := by decide +kernel
theorem dX8_tell_0 : decode cX8_tell 0 = .ok (.aload_n 0, 1) := by decide +kernel
theorem dX8_tell_1 : decode cX8_tell 1 = .ok (.iload_n 1, 1) := by decide +kernel
theorem dX8_tell_2 : decode cX8_tell 2 = .ok (.putfield 90, 3) := by decide +kernel
theorem dX8_tell_5 : decode cX8_tell 5 = .ok (.iconst 1, 1) := by decide +kernel
theorem dX8_tell_6 : decode cX8_tell 6 = .ok (.ireturn, 1) := by decide +kernel
theorem dX8_answer_0 : decode cX8_answer 0 = .ok (.aload_n 0, 1) := by decide +kernel
theorem dX8_answer_1 : decode cX8_answer 1 = .ok (.iload_n 2, 1) := by decide +kernel
theorem dX8_answer_2 : decode cX8_answer 2 = .ok (.putfield 90, 3) := by decide +kernel
theorem dX8_answer_5 : decode cX8_answer 5 = .ok (.iload_n 1, 1) := by decide +kernel
theorem dX8_answer_6 : decode cX8_answer 6 = .ok (.ireturn, 1) := by decide +kernel
theorem dX8_isRow_0 : decode cX8_isRow 0 = .ok (.iload_n 0, 1) := by decide +kernel
theorem dX8_isRow_1 : decode cX8_isRow 1 = .ok (.i2l, 1) := by decide +kernel
theorem dX8_isRow_2 : decode cX8_isRow 2 = .ok (.lconst 0, 1) := by decide +kernel
theorem dX8_isRow_3 : decode cX8_isRow 3 = .ok (.ldc2_w 93, 3) := by decide +kernel
theorem dX8_isRow_6 : decode cX8_isRow 6 = .ok (.invokestatic 95, 3) := by decide +kernel
theorem dX8_isRow_9 : decode cX8_isRow 9 = .ok (.ireturn, 1) := by decide +kernel
theorem dX8_isText_0 : decode cX8_isText 0 = .ok (.iload_n 0, 1) := by decide +kernel
theorem dX8_isText_1 : decode cX8_isText 1 = .ok (.i2l, 1) := by decide +kernel
theorem dX8_isText_2 : decode cX8_isText 2 = .ok (.lconst 0, 1) := by decide +kernel
theorem dX8_isText_3 : decode cX8_isText 3 = .ok (.ldc2_w 99, 3) := by decide +kernel
theorem dX8_isText_6 : decode cX8_isText 6 = .ok (.invokestatic 95, 3) := by decide +kernel
theorem dX8_isText_9 : decode cX8_isText 9 = .ok (.ireturn, 1) := by decide +kernel
theorem dX8_row_0 : decode cX8_row 0 = .ok (.iload_n 1, 1) := by decide +kernel
theorem dX8_row_1 : decode cX8_row 1 = .ok (.invokestatic 101, 3) := by decide +kernel
theorem dX8_row_4 : decode cX8_row 4 = .ok (.ifCond .eq 9, 3) := by decide +kernel
theorem dX8_row_7 : decode cX8_row 7 = .ok (.iload_n 2, 1) := by decide +kernel
theorem dX8_row_8 : decode cX8_row 8 = .ok (.bipush 40, 2) := by decide +kernel
theorem dX8_row_10 : decode cX8_row 10 = .ok (.if_icmp .le 5, 3) := by decide +kernel
theorem dX8_row_13 : decode cX8_row 13 = .ok (.iconst (-1), 1) := by decide +kernel
theorem dX8_row_14 : decode cX8_row 14 = .ok (.ireturn, 1) := by decide +kernel
theorem dX8_row_15 : decode cX8_row 15 = .ok (.iload_n 2, 1) := by decide +kernel
theorem dX8_row_16 : decode cX8_row 16 = .ok (.ifCond .ge 9, 3) := by decide +kernel
theorem dX8_row_19 : decode cX8_row 19 = .ok (.aload_n 0, 1) := by decide +kernel
theorem dX8_row_20 : decode cX8_row 20 = .ok (.iconst 5, 1) := by decide +kernel
theorem dX8_row_21 : decode cX8_row 21 = .ok (.invokevirtual 105, 3) := by decide +kernel
theorem dX8_row_24 : decode cX8_row 24 = .ok (.ireturn, 1) := by decide +kernel
theorem dX8_row_25 : decode cX8_row 25 = .ok (.aload_n 0, 1) := by decide +kernel
theorem dX8_row_26 : decode cX8_row 26 = .ok (.getfield 13, 3) := by decide +kernel
theorem dX8_row_29 : decode cX8_row 29 = .ok (.iload_n 1, 1) := by decide +kernel
theorem dX8_row_30 : decode cX8_row 30 = .ok (.iload_n 2, 1) := by decide +kernel
theorem dX8_row_31 : decode cX8_row 31 = .ok (.iastore, 1) := by decide +kernel
theorem dX8_row_32 : decode cX8_row 32 = .ok (.iconst 0, 1) := by decide +kernel
theorem dX8_row_33 : decode cX8_row 33 = .ok (.istore_n 3, 1) := by decide +kernel
theorem dX8_row_34 : decode cX8_row 34 = .ok (.iload_n 3, 1) := by decide +kernel
theorem dX8_row_35 : decode cX8_row 35 = .ok (.bipush 40, 2) := by decide +kernel
theorem dX8_row_37 : decode cX8_row 37 = .ok (.if_icmp .ge 21, 3) := by decide +kernel
theorem dX8_row_40 : decode cX8_row 40 = .ok (.aload_n 0, 1) := by decide +kernel
theorem dX8_row_41 : decode cX8_row 41 = .ok (.getfield 7, 3) := by decide +kernel
theorem dX8_row_44 : decode cX8_row 44 = .ok (.bipush 40, 2) := by decide +kernel
theorem dX8_row_46 : decode cX8_row 46 = .ok (.iload_n 1, 1) := by decide +kernel
theorem dX8_row_47 : decode cX8_row 47 = .ok (.imul, 1) := by decide +kernel
theorem dX8_row_48 : decode cX8_row 48 = .ok (.iload_n 3, 1) := by decide +kernel
theorem dX8_row_49 : decode cX8_row 49 = .ok (.iadd, 1) := by decide +kernel
theorem dX8_row_50 : decode cX8_row 50 = .ok (.iconst 0, 1) := by decide +kernel
theorem dX8_row_51 : decode cX8_row 51 = .ok (.iastore, 1) := by decide +kernel
theorem dX8_row_52 : decode cX8_row 52 = .ok (.iinc 3 1, 3) := by decide +kernel
theorem dX8_row_55 : decode cX8_row 55 = .ok (.goto (-21), 3) := by decide +kernel
theorem dX8_row_58 : decode cX8_row 58 = .ok (.iload_n 2, 1) := by decide +kernel
theorem dX8_row_59 : decode cX8_row 59 = .ok (.ireturn, 1) := by decide +kernel
theorem dX8_lay_0 : decode cX8_lay 0 = .ok (.iload_n 1, 1) := by decide +kernel
theorem dX8_lay_1 : decode cX8_lay 1 = .ok (.invokestatic 101, 3) := by decide +kernel
theorem dX8_lay_4 : decode cX8_lay 4 = .ok (.ifCond .ne 5, 3) := by decide +kernel
theorem dX8_lay_7 : decode cX8_lay 7 = .ok (.iconst (-1), 1) := by decide +kernel
theorem dX8_lay_8 : decode cX8_lay 8 = .ok (.ireturn, 1) := by decide +kernel
theorem dX8_lay_9 : decode cX8_lay 9 = .ok (.aload_n 0, 1) := by decide +kernel
theorem dX8_lay_10 : decode cX8_lay 10 = .ok (.getfield 13, 3) := by decide +kernel
theorem dX8_lay_13 : decode cX8_lay 13 = .ok (.iload_n 1, 1) := by decide +kernel
theorem dX8_lay_14 : decode cX8_lay 14 = .ok (.iaload, 1) := by decide +kernel
theorem dX8_lay_15 : decode cX8_lay 15 = .ok (.ifCond .ge 9, 3) := by decide +kernel
theorem dX8_lay_18 : decode cX8_lay 18 = .ok (.aload_n 0, 1) := by decide +kernel
theorem dX8_lay_19 : decode cX8_lay 19 = .ok (.iconst 1, 1) := by decide +kernel
theorem dX8_lay_20 : decode cX8_lay 20 = .ok (.invokevirtual 105, 3) := by decide +kernel
theorem dX8_lay_23 : decode cX8_lay 23 = .ok (.ireturn, 1) := by decide +kernel
theorem dX8_lay_24 : decode cX8_lay 24 = .ok (.iload_n 2, 1) := by decide +kernel
theorem dX8_lay_25 : decode cX8_lay 25 = .ok (.i2l, 1) := by decide +kernel
theorem dX8_lay_26 : decode cX8_lay 26 = .ok (.lconst 0, 1) := by decide +kernel
theorem dX8_lay_27 : decode cX8_lay 27 = .ok (.aload_n 0, 1) := by decide +kernel
theorem dX8_lay_28 : decode cX8_lay 28 = .ok (.getfield 13, 3) := by decide +kernel
theorem dX8_lay_31 : decode cX8_lay 31 = .ok (.iload_n 1, 1) := by decide +kernel
theorem dX8_lay_32 : decode cX8_lay 32 = .ok (.iaload, 1) := by decide +kernel
theorem dX8_lay_33 : decode cX8_lay 33 = .ok (.iconst 1, 1) := by decide +kernel
theorem dX8_lay_34 : decode cX8_lay 34 = .ok (.isub, 1) := by decide +kernel
theorem dX8_lay_35 : decode cX8_lay 35 = .ok (.i2l, 1) := by decide +kernel
theorem dX8_lay_36 : decode cX8_lay 36 = .ok (.invokestatic 95, 3) := by decide +kernel
theorem dX8_lay_39 : decode cX8_lay 39 = .ok (.ifCond .ne 9, 3) := by decide +kernel
theorem dX8_lay_42 : decode cX8_lay 42 = .ok (.aload_n 0, 1) := by decide +kernel
theorem dX8_lay_43 : decode cX8_lay 43 = .ok (.iconst 2, 1) := by decide +kernel
theorem dX8_lay_44 : decode cX8_lay 44 = .ok (.invokevirtual 105, 3) := by decide +kernel
theorem dX8_lay_47 : decode cX8_lay 47 = .ok (.ireturn, 1) := by decide +kernel
theorem dX8_lay_48 : decode cX8_lay 48 = .ok (.aload_n 0, 1) := by decide +kernel
theorem dX8_lay_49 : decode cX8_lay 49 = .ok (.getfield 7, 3) := by decide +kernel
theorem dX8_lay_52 : decode cX8_lay 52 = .ok (.bipush 40, 2) := by decide +kernel
theorem dX8_lay_54 : decode cX8_lay 54 = .ok (.iload_n 1, 1) := by decide +kernel
theorem dX8_lay_55 : decode cX8_lay 55 = .ok (.imul, 1) := by decide +kernel
theorem dX8_lay_56 : decode cX8_lay 56 = .ok (.iload_n 2, 1) := by decide +kernel
theorem dX8_lay_57 : decode cX8_lay 57 = .ok (.iadd, 1) := by decide +kernel
theorem dX8_lay_58 : decode cX8_lay 58 = .ok (.iaload, 1) := by decide +kernel
theorem dX8_lay_59 : decode cX8_lay 59 = .ok (.istore 4, 2) := by decide +kernel
theorem dX8_lay_61 : decode cX8_lay 61 = .ok (.aload_n 0, 1) := by decide +kernel
theorem dX8_lay_62 : decode cX8_lay 62 = .ok (.getfield 7, 3) := by decide +kernel
theorem dX8_lay_65 : decode cX8_lay 65 = .ok (.bipush 40, 2) := by decide +kernel
theorem dX8_lay_67 : decode cX8_lay 67 = .ok (.iload_n 1, 1) := by decide +kernel
theorem dX8_lay_68 : decode cX8_lay 68 = .ok (.imul, 1) := by decide +kernel
theorem dX8_lay_69 : decode cX8_lay 69 = .ok (.iload_n 2, 1) := by decide +kernel
theorem dX8_lay_70 : decode cX8_lay 70 = .ok (.iadd, 1) := by decide +kernel
theorem dX8_lay_71 : decode cX8_lay 71 = .ok (.iload_n 3, 1) := by decide +kernel
theorem dX8_lay_72 : decode cX8_lay 72 = .ok (.iastore, 1) := by decide +kernel
theorem dX8_lay_73 : decode cX8_lay 73 = .ok (.aload_n 0, 1) := by decide +kernel
theorem dX8_lay_74 : decode cX8_lay 74 = .ok (.iload 4, 2) := by decide +kernel
theorem dX8_lay_76 : decode cX8_lay 76 = .ok (.invokevirtual 109, 3) := by decide +kernel
theorem dX8_lay_79 : decode cX8_lay 79 = .ok (.ireturn, 1) := by decide +kernel
theorem dX8_at_0 : decode cX8_at 0 = .ok (.iload_n 1, 1) := by decide +kernel
theorem dX8_at_1 : decode cX8_at 1 = .ok (.invokestatic 101, 3) := by decide +kernel
theorem dX8_at_4 : decode cX8_at 4 = .ok (.ifCond .ne 5, 3) := by decide +kernel
theorem dX8_at_7 : decode cX8_at 7 = .ok (.iconst (-1), 1) := by decide +kernel
theorem dX8_at_8 : decode cX8_at 8 = .ok (.ireturn, 1) := by decide +kernel
theorem dX8_at_9 : decode cX8_at 9 = .ok (.aload_n 0, 1) := by decide +kernel
theorem dX8_at_10 : decode cX8_at 10 = .ok (.getfield 13, 3) := by decide +kernel
theorem dX8_at_13 : decode cX8_at 13 = .ok (.iload_n 1, 1) := by decide +kernel
theorem dX8_at_14 : decode cX8_at 14 = .ok (.iaload, 1) := by decide +kernel
theorem dX8_at_15 : decode cX8_at 15 = .ok (.ifCond .ge 9, 3) := by decide +kernel
theorem dX8_at_18 : decode cX8_at 18 = .ok (.aload_n 0, 1) := by decide +kernel
theorem dX8_at_19 : decode cX8_at 19 = .ok (.iconst 1, 1) := by decide +kernel
theorem dX8_at_20 : decode cX8_at 20 = .ok (.invokevirtual 105, 3) := by decide +kernel
theorem dX8_at_23 : decode cX8_at 23 = .ok (.ireturn, 1) := by decide +kernel
theorem dX8_at_24 : decode cX8_at 24 = .ok (.iload_n 2, 1) := by decide +kernel
theorem dX8_at_25 : decode cX8_at 25 = .ok (.i2l, 1) := by decide +kernel
theorem dX8_at_26 : decode cX8_at 26 = .ok (.lconst 0, 1) := by decide +kernel
theorem dX8_at_27 : decode cX8_at 27 = .ok (.aload_n 0, 1) := by decide +kernel
theorem dX8_at_28 : decode cX8_at 28 = .ok (.getfield 13, 3) := by decide +kernel
theorem dX8_at_31 : decode cX8_at 31 = .ok (.iload_n 1, 1) := by decide +kernel
theorem dX8_at_32 : decode cX8_at 32 = .ok (.iaload, 1) := by decide +kernel
theorem dX8_at_33 : decode cX8_at 33 = .ok (.iconst 1, 1) := by decide +kernel
theorem dX8_at_34 : decode cX8_at 34 = .ok (.isub, 1) := by decide +kernel
theorem dX8_at_35 : decode cX8_at 35 = .ok (.i2l, 1) := by decide +kernel
theorem dX8_at_36 : decode cX8_at 36 = .ok (.invokestatic 95, 3) := by decide +kernel
theorem dX8_at_39 : decode cX8_at 39 = .ok (.ifCond .eq 21, 3) := by decide +kernel
theorem dX8_at_42 : decode cX8_at 42 = .ok (.aload_n 0, 1) := by decide +kernel
theorem dX8_at_43 : decode cX8_at 43 = .ok (.aload_n 0, 1) := by decide +kernel
theorem dX8_at_44 : decode cX8_at 44 = .ok (.getfield 7, 3) := by decide +kernel
theorem dX8_at_47 : decode cX8_at 47 = .ok (.bipush 40, 2) := by decide +kernel
theorem dX8_at_49 : decode cX8_at 49 = .ok (.iload_n 1, 1) := by decide +kernel
theorem dX8_at_50 : decode cX8_at 50 = .ok (.imul, 1) := by decide +kernel
theorem dX8_at_51 : decode cX8_at 51 = .ok (.iload_n 2, 1) := by decide +kernel
theorem dX8_at_52 : decode cX8_at 52 = .ok (.iadd, 1) := by decide +kernel
theorem dX8_at_53 : decode cX8_at 53 = .ok (.iaload, 1) := by decide +kernel
theorem dX8_at_54 : decode cX8_at 54 = .ok (.invokevirtual 109, 3) := by decide +kernel
theorem dX8_at_57 : decode cX8_at 57 = .ok (.goto 8, 3) := by decide +kernel
theorem dX8_at_60 : decode cX8_at 60 = .ok (.aload_n 0, 1) := by decide +kernel
theorem dX8_at_61 : decode cX8_at 61 = .ok (.iconst 2, 1) := by decide +kernel
theorem dX8_at_62 : decode cX8_at 62 = .ok (.invokevirtual 105, 3) := by decide +kernel
theorem dX8_at_65 : decode cX8_at 65 = .ok (.ireturn, 1) := by decide +kernel
theorem dX8_tear_0 : decode cX8_tear 0 = .ok (.iload_n 1, 1) := by decide +kernel
theorem dX8_tear_1 : decode cX8_tear 1 = .ok (.invokestatic 101, 3) := by decide +kernel
theorem dX8_tear_4 : decode cX8_tear 4 = .ok (.ifCond .ne 5, 3) := by decide +kernel
theorem dX8_tear_7 : decode cX8_tear 7 = .ok (.iconst (-1), 1) := by decide +kernel
theorem dX8_tear_8 : decode cX8_tear 8 = .ok (.ireturn, 1) := by decide +kernel
theorem dX8_tear_9 : decode cX8_tear 9 = .ok (.aload_n 0, 1) := by decide +kernel
theorem dX8_tear_10 : decode cX8_tear 10 = .ok (.getfield 13, 3) := by decide +kernel
theorem dX8_tear_13 : decode cX8_tear 13 = .ok (.iload_n 1, 1) := by decide +kernel
theorem dX8_tear_14 : decode cX8_tear 14 = .ok (.iaload, 1) := by decide +kernel
theorem dX8_tear_15 : decode cX8_tear 15 = .ok (.ifCond .ge 9, 3) := by decide +kernel
theorem dX8_tear_18 : decode cX8_tear 18 = .ok (.aload_n 0, 1) := by decide +kernel
theorem dX8_tear_19 : decode cX8_tear 19 = .ok (.iconst 1, 1) := by decide +kernel
theorem dX8_tear_20 : decode cX8_tear 20 = .ok (.invokevirtual 105, 3) := by decide +kernel
theorem dX8_tear_23 : decode cX8_tear 23 = .ok (.ireturn, 1) := by decide +kernel
theorem dX8_tear_24 : decode cX8_tear 24 = .ok (.aload_n 0, 1) := by decide +kernel
theorem dX8_tear_25 : decode cX8_tear 25 = .ok (.getfield 13, 3) := by decide +kernel
theorem dX8_tear_28 : decode cX8_tear 28 = .ok (.iload_n 1, 1) := by decide +kernel
theorem dX8_tear_29 : decode cX8_tear 29 = .ok (.iconst (-1), 1) := by decide +kernel
theorem dX8_tear_30 : decode cX8_tear 30 = .ok (.iastore, 1) := by decide +kernel
theorem dX8_tear_31 : decode cX8_tear 31 = .ok (.iconst 1, 1) := by decide +kernel
theorem dX8_tear_32 : decode cX8_tear 32 = .ok (.ireturn, 1) := by decide +kernel
theorem dX8_copy_0 : decode cX8_copy 0 = .ok (.iload_n 1, 1) := by decide +kernel
theorem dX8_copy_1 : decode cX8_copy 1 = .ok (.invokestatic 101, 3) := by decide +kernel
theorem dX8_copy_4 : decode cX8_copy 4 = .ok (.ifCond .eq 10, 3) := by decide +kernel
theorem dX8_copy_7 : decode cX8_copy 7 = .ok (.iload_n 3, 1) := by decide +kernel
theorem dX8_copy_8 : decode cX8_copy 8 = .ok (.invokestatic 101, 3) := by decide +kernel
theorem dX8_copy_11 : decode cX8_copy 11 = .ok (.ifCond .ne 5, 3) := by decide +kernel
theorem dX8_copy_14 : decode cX8_copy 14 = .ok (.iconst (-1), 1) := by decide +kernel
theorem dX8_copy_15 : decode cX8_copy 15 = .ok (.ireturn, 1) := by decide +kernel
theorem dX8_copy_16 : decode cX8_copy 16 = .ok (.iload 5, 2) := by decide +kernel
theorem dX8_copy_18 : decode cX8_copy 18 = .ok (.ifCond .ge 9, 3) := by decide +kernel
theorem dX8_copy_21 : decode cX8_copy 21 = .ok (.aload_n 0, 1) := by decide +kernel
theorem dX8_copy_22 : decode cX8_copy 22 = .ok (.iconst 5, 1) := by decide +kernel
theorem dX8_copy_23 : decode cX8_copy 23 = .ok (.invokevirtual 105, 3) := by decide +kernel
theorem dX8_copy_26 : decode cX8_copy 26 = .ok (.ireturn, 1) := by decide +kernel
theorem dX8_copy_27 : decode cX8_copy 27 = .ok (.aload_n 0, 1) := by decide +kernel
theorem dX8_copy_28 : decode cX8_copy 28 = .ok (.getfield 13, 3) := by decide +kernel
theorem dX8_copy_31 : decode cX8_copy 31 = .ok (.iload_n 1, 1) := by decide +kernel
theorem dX8_copy_32 : decode cX8_copy 32 = .ok (.iaload, 1) := by decide +kernel
theorem dX8_copy_33 : decode cX8_copy 33 = .ok (.ifCond .lt 12, 3) := by decide +kernel
theorem dX8_copy_36 : decode cX8_copy 36 = .ok (.aload_n 0, 1) := by decide +kernel
theorem dX8_copy_37 : decode cX8_copy 37 = .ok (.getfield 13, 3) := by decide +kernel
theorem dX8_copy_40 : decode cX8_copy 40 = .ok (.iload_n 3, 1) := by decide +kernel
theorem dX8_copy_41 : decode cX8_copy 41 = .ok (.iaload, 1) := by decide +kernel
theorem dX8_copy_42 : decode cX8_copy 42 = .ok (.ifCond .ge 9, 3) := by decide +kernel
theorem dX8_copy_45 : decode cX8_copy 45 = .ok (.aload_n 0, 1) := by decide +kernel
theorem dX8_copy_46 : decode cX8_copy 46 = .ok (.iconst 1, 1) := by decide +kernel
theorem dX8_copy_47 : decode cX8_copy 47 = .ok (.invokevirtual 105, 3) := by decide +kernel
theorem dX8_copy_50 : decode cX8_copy 50 = .ok (.ireturn, 1) := by decide +kernel
theorem dX8_copy_51 : decode cX8_copy 51 = .ok (.iload_n 2, 1) := by decide +kernel
theorem dX8_copy_52 : decode cX8_copy 52 = .ok (.ifCond .lt 43, 3) := by decide +kernel
theorem dX8_copy_55 : decode cX8_copy 55 = .ok (.iload 4, 2) := by decide +kernel
theorem dX8_copy_57 : decode cX8_copy 57 = .ok (.ifCond .lt 38, 3) := by decide +kernel
theorem dX8_copy_60 : decode cX8_copy 60 = .ok (.iload_n 2, 1) := by decide +kernel
theorem dX8_copy_61 : decode cX8_copy 61 = .ok (.i2l, 1) := by decide +kernel
theorem dX8_copy_62 : decode cX8_copy 62 = .ok (.iload 5, 2) := by decide +kernel
theorem dX8_copy_64 : decode cX8_copy 64 = .ok (.i2l, 1) := by decide +kernel
theorem dX8_copy_65 : decode cX8_copy 65 = .ok (.ladd, 1) := by decide +kernel
theorem dX8_copy_66 : decode cX8_copy 66 = .ok (.aload_n 0, 1) := by decide +kernel
theorem dX8_copy_67 : decode cX8_copy 67 = .ok (.getfield 13, 3) := by decide +kernel
theorem dX8_copy_70 : decode cX8_copy 70 = .ok (.iload_n 1, 1) := by decide +kernel
theorem dX8_copy_71 : decode cX8_copy 71 = .ok (.iaload, 1) := by decide +kernel
theorem dX8_copy_72 : decode cX8_copy 72 = .ok (.i2l, 1) := by decide +kernel
theorem dX8_copy_73 : decode cX8_copy 73 = .ok (.lcmp, 1) := by decide +kernel
theorem dX8_copy_74 : decode cX8_copy 74 = .ok (.ifCond .gt 21, 3) := by decide +kernel
theorem dX8_copy_77 : decode cX8_copy 77 = .ok (.iload 4, 2) := by decide +kernel
theorem dX8_copy_79 : decode cX8_copy 79 = .ok (.i2l, 1) := by decide +kernel
theorem dX8_copy_80 : decode cX8_copy 80 = .ok (.iload 5, 2) := by decide +kernel
theorem dX8_copy_82 : decode cX8_copy 82 = .ok (.i2l, 1) := by decide +kernel
theorem dX8_copy_83 : decode cX8_copy 83 = .ok (.ladd, 1) := by decide +kernel
theorem dX8_copy_84 : decode cX8_copy 84 = .ok (.aload_n 0, 1) := by decide +kernel
theorem dX8_copy_85 : decode cX8_copy 85 = .ok (.getfield 13, 3) := by decide +kernel
theorem dX8_copy_88 : decode cX8_copy 88 = .ok (.iload_n 3, 1) := by decide +kernel
theorem dX8_copy_89 : decode cX8_copy 89 = .ok (.iaload, 1) := by decide +kernel
theorem dX8_copy_90 : decode cX8_copy 90 = .ok (.i2l, 1) := by decide +kernel
theorem dX8_copy_91 : decode cX8_copy 91 = .ok (.lcmp, 1) := by decide +kernel
theorem dX8_copy_92 : decode cX8_copy 92 = .ok (.ifCond .le 9, 3) := by decide +kernel
theorem dX8_copy_95 : decode cX8_copy 95 = .ok (.aload_n 0, 1) := by decide +kernel
theorem dX8_copy_96 : decode cX8_copy 96 = .ok (.iconst 2, 1) := by decide +kernel
theorem dX8_copy_97 : decode cX8_copy 97 = .ok (.invokevirtual 105, 3) := by decide +kernel
theorem dX8_copy_100 : decode cX8_copy 100 = .ok (.ireturn, 1) := by decide +kernel
theorem dX8_copy_101 : decode cX8_copy 101 = .ok (.iconst 0, 1) := by decide +kernel
theorem dX8_copy_102 : decode cX8_copy 102 = .ok (.istore 6, 2) := by decide +kernel
theorem dX8_copy_104 : decode cX8_copy 104 = .ok (.iload 6, 2) := by decide +kernel
theorem dX8_copy_106 : decode cX8_copy 106 = .ok (.iload 5, 2) := by decide +kernel
theorem dX8_copy_108 : decode cX8_copy 108 = .ok (.if_icmp .ge 58, 3) := by decide +kernel
theorem dX8_copy_111 : decode cX8_copy 111 = .ok (.iload 4, 2) := by decide +kernel
theorem dX8_copy_113 : decode cX8_copy 113 = .ok (.iload_n 2, 1) := by decide +kernel
theorem dX8_copy_114 : decode cX8_copy 114 = .ok (.if_icmp .le 13, 3) := by decide +kernel
theorem dX8_copy_117 : decode cX8_copy 117 = .ok (.iload 5, 2) := by decide +kernel
theorem dX8_copy_119 : decode cX8_copy 119 = .ok (.iconst 1, 1) := by decide +kernel
theorem dX8_copy_120 : decode cX8_copy 120 = .ok (.isub, 1) := by decide +kernel
theorem dX8_copy_121 : decode cX8_copy 121 = .ok (.iload 6, 2) := by decide +kernel
theorem dX8_copy_123 : decode cX8_copy 123 = .ok (.isub, 1) := by decide +kernel
theorem dX8_copy_124 : decode cX8_copy 124 = .ok (.goto 5, 3) := by decide +kernel
theorem dX8_copy_127 : decode cX8_copy 127 = .ok (.iload 6, 2) := by decide +kernel
theorem dX8_copy_129 : decode cX8_copy 129 = .ok (.istore 7, 2) := by decide +kernel
theorem dX8_copy_131 : decode cX8_copy 131 = .ok (.aload_n 0, 1) := by decide +kernel
theorem dX8_copy_132 : decode cX8_copy 132 = .ok (.getfield 7, 3) := by decide +kernel
theorem dX8_copy_135 : decode cX8_copy 135 = .ok (.bipush 40, 2) := by decide +kernel
theorem dX8_copy_137 : decode cX8_copy 137 = .ok (.iload_n 3, 1) := by decide +kernel
theorem dX8_copy_138 : decode cX8_copy 138 = .ok (.imul, 1) := by decide +kernel
theorem dX8_copy_139 : decode cX8_copy 139 = .ok (.iload 4, 2) := by decide +kernel
theorem dX8_copy_141 : decode cX8_copy 141 = .ok (.iadd, 1) := by decide +kernel
theorem dX8_copy_142 : decode cX8_copy 142 = .ok (.iload 7, 2) := by decide +kernel
theorem dX8_copy_144 : decode cX8_copy 144 = .ok (.iadd, 1) := by decide +kernel
theorem dX8_copy_145 : decode cX8_copy 145 = .ok (.aload_n 0, 1) := by decide +kernel
theorem dX8_copy_146 : decode cX8_copy 146 = .ok (.getfield 7, 3) := by decide +kernel
theorem dX8_copy_149 : decode cX8_copy 149 = .ok (.bipush 40, 2) := by decide +kernel
theorem dX8_copy_151 : decode cX8_copy 151 = .ok (.iload_n 1, 1) := by decide +kernel
theorem dX8_copy_152 : decode cX8_copy 152 = .ok (.imul, 1) := by decide +kernel
theorem dX8_copy_153 : decode cX8_copy 153 = .ok (.iload_n 2, 1) := by decide +kernel
theorem dX8_copy_154 : decode cX8_copy 154 = .ok (.iadd, 1) := by decide +kernel
theorem dX8_copy_155 : decode cX8_copy 155 = .ok (.iload 7, 2) := by decide +kernel
theorem dX8_copy_157 : decode cX8_copy 157 = .ok (.iadd, 1) := by decide +kernel
theorem dX8_copy_158 : decode cX8_copy 158 = .ok (.iaload, 1) := by decide +kernel
theorem dX8_copy_159 : decode cX8_copy 159 = .ok (.iastore, 1) := by decide +kernel
theorem dX8_copy_160 : decode cX8_copy 160 = .ok (.iinc 6 1, 3) := by decide +kernel
theorem dX8_copy_163 : decode cX8_copy 163 = .ok (.goto (-59), 3) := by decide +kernel
theorem dX8_copy_166 : decode cX8_copy 166 = .ok (.iconst 1, 1) := by decide +kernel
theorem dX8_copy_167 : decode cX8_copy 167 = .ok (.ireturn, 1) := by decide +kernel
theorem dX8_mean_0 : decode cX8_mean 0 = .ok (.iload_n 1, 1) := by decide +kernel
theorem dX8_mean_1 : decode cX8_mean 1 = .ok (.invokestatic 101, 3) := by decide +kernel
theorem dX8_mean_4 : decode cX8_mean 4 = .ok (.ifCond .ne 5, 3) := by decide +kernel
theorem dX8_mean_7 : decode cX8_mean 7 = .ok (.iconst (-1), 1) := by decide +kernel
theorem dX8_mean_8 : decode cX8_mean 8 = .ok (.ireturn, 1) := by decide +kernel
theorem dX8_mean_9 : decode cX8_mean 9 = .ok (.aload_n 0, 1) := by decide +kernel
theorem dX8_mean_10 : decode cX8_mean 10 = .ok (.getfield 13, 3) := by decide +kernel
theorem dX8_mean_13 : decode cX8_mean 13 = .ok (.iload_n 1, 1) := by decide +kernel
theorem dX8_mean_14 : decode cX8_mean 14 = .ok (.iaload, 1) := by decide +kernel
theorem dX8_mean_15 : decode cX8_mean 15 = .ok (.ifCond .ge 9, 3) := by decide +kernel
theorem dX8_mean_18 : decode cX8_mean 18 = .ok (.aload_n 0, 1) := by decide +kernel
theorem dX8_mean_19 : decode cX8_mean 19 = .ok (.iconst 1, 1) := by decide +kernel
theorem dX8_mean_20 : decode cX8_mean 20 = .ok (.invokevirtual 105, 3) := by decide +kernel
theorem dX8_mean_23 : decode cX8_mean 23 = .ok (.ireturn, 1) := by decide +kernel
theorem dX8_mean_24 : decode cX8_mean 24 = .ok (.aload_n 0, 1) := by decide +kernel
theorem dX8_mean_25 : decode cX8_mean 25 = .ok (.getfield 13, 3) := by decide +kernel
theorem dX8_mean_28 : decode cX8_mean 28 = .ok (.iload_n 1, 1) := by decide +kernel
theorem dX8_mean_29 : decode cX8_mean 29 = .ok (.iaload, 1) := by decide +kernel
theorem dX8_mean_30 : decode cX8_mean 30 = .ok (.ifCond .ne 9, 3) := by decide +kernel
theorem dX8_mean_33 : decode cX8_mean 33 = .ok (.aload_n 0, 1) := by decide +kernel
theorem dX8_mean_34 : decode cX8_mean 34 = .ok (.iconst 4, 1) := by decide +kernel
theorem dX8_mean_35 : decode cX8_mean 35 = .ok (.invokevirtual 105, 3) := by decide +kernel
theorem dX8_mean_38 : decode cX8_mean 38 = .ok (.ireturn, 1) := by decide +kernel
theorem dX8_mean_39 : decode cX8_mean 39 = .ok (.lconst 0, 1) := by decide +kernel
theorem dX8_mean_40 : decode cX8_mean 40 = .ok (.lstore_n 2, 1) := by decide +kernel
theorem dX8_mean_41 : decode cX8_mean 41 = .ok (.iconst 0, 1) := by decide +kernel
theorem dX8_mean_42 : decode cX8_mean 42 = .ok (.istore 4, 2) := by decide +kernel
theorem dX8_mean_44 : decode cX8_mean 44 = .ok (.iload 4, 2) := by decide +kernel
theorem dX8_mean_46 : decode cX8_mean 46 = .ok (.aload_n 0, 1) := by decide +kernel
theorem dX8_mean_47 : decode cX8_mean 47 = .ok (.getfield 13, 3) := by decide +kernel
theorem dX8_mean_50 : decode cX8_mean 50 = .ok (.iload_n 1, 1) := by decide +kernel
theorem dX8_mean_51 : decode cX8_mean 51 = .ok (.iaload, 1) := by decide +kernel
theorem dX8_mean_52 : decode cX8_mean 52 = .ok (.if_icmp .ge 25, 3) := by decide +kernel
theorem dX8_mean_55 : decode cX8_mean 55 = .ok (.lload_n 2, 1) := by decide +kernel
theorem dX8_mean_56 : decode cX8_mean 56 = .ok (.aload_n 0, 1) := by decide +kernel
theorem dX8_mean_57 : decode cX8_mean 57 = .ok (.getfield 7, 3) := by decide +kernel
theorem dX8_mean_60 : decode cX8_mean 60 = .ok (.bipush 40, 2) := by decide +kernel
theorem dX8_mean_62 : decode cX8_mean 62 = .ok (.iload_n 1, 1) := by decide +kernel
theorem dX8_mean_63 : decode cX8_mean 63 = .ok (.imul, 1) := by decide +kernel
theorem dX8_mean_64 : decode cX8_mean 64 = .ok (.iload 4, 2) := by decide +kernel
theorem dX8_mean_66 : decode cX8_mean 66 = .ok (.iadd, 1) := by decide +kernel
theorem dX8_mean_67 : decode cX8_mean 67 = .ok (.iaload, 1) := by decide +kernel
theorem dX8_mean_68 : decode cX8_mean 68 = .ok (.i2l, 1) := by decide +kernel
theorem dX8_mean_69 : decode cX8_mean 69 = .ok (.ladd, 1) := by decide +kernel
theorem dX8_mean_70 : decode cX8_mean 70 = .ok (.lstore_n 2, 1) := by decide +kernel
theorem dX8_mean_71 : decode cX8_mean 71 = .ok (.iinc 4 1, 3) := by decide +kernel
theorem dX8_mean_74 : decode cX8_mean 74 = .ok (.goto (-30), 3) := by decide +kernel
theorem dX8_mean_77 : decode cX8_mean 77 = .ok (.aload_n 0, 1) := by decide +kernel
theorem dX8_mean_78 : decode cX8_mean 78 = .ok (.lload_n 2, 1) := by decide +kernel
theorem dX8_mean_79 : decode cX8_mean 79 = .ok (.aload_n 0, 1) := by decide +kernel
theorem dX8_mean_80 : decode cX8_mean 80 = .ok (.getfield 13, 3) := by decide +kernel
theorem dX8_mean_83 : decode cX8_mean 83 = .ok (.iload_n 1, 1) := by decide +kernel
theorem dX8_mean_84 : decode cX8_mean 84 = .ok (.iaload, 1) := by decide +kernel
theorem dX8_mean_85 : decode cX8_mean 85 = .ok (.i2l, 1) := by decide +kernel
theorem dX8_mean_86 : decode cX8_mean 86 = .ok (.ldiv, 1) := by decide +kernel
theorem dX8_mean_87 : decode cX8_mean 87 = .ok (.l2i, 1) := by decide +kernel
theorem dX8_mean_88 : decode cX8_mean 88 = .ok (.invokevirtual 109, 3) := by decide +kernel
theorem dX8_mean_91 : decode cX8_mean 91 = .ok (.ireturn, 1) := by decide +kernel
theorem dX8_text_0 : decode cX8_text 0 = .ok (.iload_n 1, 1) := by decide +kernel
theorem dX8_text_1 : decode cX8_text 1 = .ok (.invokestatic 112, 3) := by decide +kernel
theorem dX8_text_4 : decode cX8_text 4 = .ok (.ifCond .eq 9, 3) := by decide +kernel
theorem dX8_text_7 : decode cX8_text 7 = .ok (.iload_n 2, 1) := by decide +kernel
theorem dX8_text_8 : decode cX8_text 8 = .ok (.bipush 60, 2) := by decide +kernel
theorem dX8_text_10 : decode cX8_text 10 = .ok (.if_icmp .le 5, 3) := by decide +kernel
theorem dX8_text_13 : decode cX8_text 13 = .ok (.iconst (-1), 1) := by decide +kernel
theorem dX8_text_14 : decode cX8_text 14 = .ok (.ireturn, 1) := by decide +kernel
theorem dX8_text_15 : decode cX8_text 15 = .ok (.iload_n 2, 1) := by decide +kernel
theorem dX8_text_16 : decode cX8_text 16 = .ok (.ifCond .ge 9, 3) := by decide +kernel
theorem dX8_text_19 : decode cX8_text 19 = .ok (.aload_n 0, 1) := by decide +kernel
theorem dX8_text_20 : decode cX8_text 20 = .ok (.iconst 5, 1) := by decide +kernel
theorem dX8_text_21 : decode cX8_text 21 = .ok (.invokevirtual 105, 3) := by decide +kernel
theorem dX8_text_24 : decode cX8_text 24 = .ok (.ireturn, 1) := by decide +kernel
theorem dX8_text_25 : decode cX8_text 25 = .ok (.aload_n 0, 1) := by decide +kernel
theorem dX8_text_26 : decode cX8_text 26 = .ok (.getfield 19, 3) := by decide +kernel
theorem dX8_text_29 : decode cX8_text 29 = .ok (.iload_n 1, 1) := by decide +kernel
theorem dX8_text_30 : decode cX8_text 30 = .ok (.iload_n 2, 1) := by decide +kernel
theorem dX8_text_31 : decode cX8_text 31 = .ok (.iastore, 1) := by decide +kernel
theorem dX8_text_32 : decode cX8_text 32 = .ok (.iconst 0, 1) := by decide +kernel
theorem dX8_text_33 : decode cX8_text 33 = .ok (.istore_n 3, 1) := by decide +kernel
theorem dX8_text_34 : decode cX8_text 34 = .ok (.iload_n 3, 1) := by decide +kernel
theorem dX8_text_35 : decode cX8_text 35 = .ok (.bipush 60, 2) := by decide +kernel
theorem dX8_text_37 : decode cX8_text 37 = .ok (.if_icmp .ge 22, 3) := by decide +kernel
theorem dX8_text_40 : decode cX8_text 40 = .ok (.aload_n 0, 1) := by decide +kernel
theorem dX8_text_41 : decode cX8_text 41 = .ok (.getfield 16, 3) := by decide +kernel
theorem dX8_text_44 : decode cX8_text 44 = .ok (.bipush 60, 2) := by decide +kernel
theorem dX8_text_46 : decode cX8_text 46 = .ok (.iload_n 1, 1) := by decide +kernel
theorem dX8_text_47 : decode cX8_text 47 = .ok (.imul, 1) := by decide +kernel
theorem dX8_text_48 : decode cX8_text 48 = .ok (.iload_n 3, 1) := by decide +kernel
theorem dX8_text_49 : decode cX8_text 49 = .ok (.iadd, 1) := by decide +kernel
theorem dX8_text_50 : decode cX8_text 50 = .ok (.bipush 32, 2) := by decide +kernel
theorem dX8_text_52 : decode cX8_text 52 = .ok (.iastore, 1) := by decide +kernel
theorem dX8_text_53 : decode cX8_text 53 = .ok (.iinc 3 1, 3) := by decide +kernel
theorem dX8_text_56 : decode cX8_text 56 = .ok (.goto (-22), 3) := by decide +kernel
theorem dX8_text_59 : decode cX8_text 59 = .ok (.iload_n 2, 1) := by decide +kernel
theorem dX8_text_60 : decode cX8_text 60 = .ok (.ireturn, 1) := by decide +kernel
theorem dX8_put_0 : decode cX8_put 0 = .ok (.iload_n 1, 1) := by decide +kernel
theorem dX8_put_1 : decode cX8_put 1 = .ok (.invokestatic 112, 3) := by decide +kernel
theorem dX8_put_4 : decode cX8_put 4 = .ok (.ifCond .ne 5, 3) := by decide +kernel
theorem dX8_put_7 : decode cX8_put 7 = .ok (.iconst (-1), 1) := by decide +kernel
theorem dX8_put_8 : decode cX8_put 8 = .ok (.ireturn, 1) := by decide +kernel
theorem dX8_put_9 : decode cX8_put 9 = .ok (.aload_n 0, 1) := by decide +kernel
theorem dX8_put_10 : decode cX8_put 10 = .ok (.getfield 19, 3) := by decide +kernel
theorem dX8_put_13 : decode cX8_put 13 = .ok (.iload_n 1, 1) := by decide +kernel
theorem dX8_put_14 : decode cX8_put 14 = .ok (.iaload, 1) := by decide +kernel
theorem dX8_put_15 : decode cX8_put 15 = .ok (.ifCond .ge 9, 3) := by decide +kernel
theorem dX8_put_18 : decode cX8_put 18 = .ok (.aload_n 0, 1) := by decide +kernel
theorem dX8_put_19 : decode cX8_put 19 = .ok (.iconst 1, 1) := by decide +kernel
theorem dX8_put_20 : decode cX8_put 20 = .ok (.invokevirtual 105, 3) := by decide +kernel
theorem dX8_put_23 : decode cX8_put 23 = .ok (.ireturn, 1) := by decide +kernel
theorem dX8_put_24 : decode cX8_put 24 = .ok (.iload_n 2, 1) := by decide +kernel
theorem dX8_put_25 : decode cX8_put 25 = .ok (.i2l, 1) := by decide +kernel
theorem dX8_put_26 : decode cX8_put 26 = .ok (.lconst 0, 1) := by decide +kernel
theorem dX8_put_27 : decode cX8_put 27 = .ok (.aload_n 0, 1) := by decide +kernel
theorem dX8_put_28 : decode cX8_put 28 = .ok (.getfield 19, 3) := by decide +kernel
theorem dX8_put_31 : decode cX8_put 31 = .ok (.iload_n 1, 1) := by decide +kernel
theorem dX8_put_32 : decode cX8_put 32 = .ok (.iaload, 1) := by decide +kernel
theorem dX8_put_33 : decode cX8_put 33 = .ok (.iconst 1, 1) := by decide +kernel
theorem dX8_put_34 : decode cX8_put 34 = .ok (.isub, 1) := by decide +kernel
theorem dX8_put_35 : decode cX8_put 35 = .ok (.i2l, 1) := by decide +kernel
theorem dX8_put_36 : decode cX8_put 36 = .ok (.invokestatic 95, 3) := by decide +kernel
theorem dX8_put_39 : decode cX8_put 39 = .ok (.ifCond .ne 9, 3) := by decide +kernel
theorem dX8_put_42 : decode cX8_put 42 = .ok (.aload_n 0, 1) := by decide +kernel
theorem dX8_put_43 : decode cX8_put 43 = .ok (.iconst 2, 1) := by decide +kernel
theorem dX8_put_44 : decode cX8_put 44 = .ok (.invokevirtual 105, 3) := by decide +kernel
theorem dX8_put_47 : decode cX8_put 47 = .ok (.ireturn, 1) := by decide +kernel
theorem dX8_put_48 : decode cX8_put 48 = .ok (.aload_n 0, 1) := by decide +kernel
theorem dX8_put_49 : decode cX8_put 49 = .ok (.getfield 16, 3) := by decide +kernel
theorem dX8_put_52 : decode cX8_put 52 = .ok (.bipush 60, 2) := by decide +kernel
theorem dX8_put_54 : decode cX8_put 54 = .ok (.iload_n 1, 1) := by decide +kernel
theorem dX8_put_55 : decode cX8_put 55 = .ok (.imul, 1) := by decide +kernel
theorem dX8_put_56 : decode cX8_put 56 = .ok (.iload_n 2, 1) := by decide +kernel
theorem dX8_put_57 : decode cX8_put 57 = .ok (.iadd, 1) := by decide +kernel
theorem dX8_put_58 : decode cX8_put 58 = .ok (.iaload, 1) := by decide +kernel
theorem dX8_put_59 : decode cX8_put 59 = .ok (.istore 4, 2) := by decide +kernel
theorem dX8_put_61 : decode cX8_put 61 = .ok (.aload_n 0, 1) := by decide +kernel
theorem dX8_put_62 : decode cX8_put 62 = .ok (.getfield 16, 3) := by decide +kernel
theorem dX8_put_65 : decode cX8_put 65 = .ok (.bipush 60, 2) := by decide +kernel
theorem dX8_put_67 : decode cX8_put 67 = .ok (.iload_n 1, 1) := by decide +kernel
theorem dX8_put_68 : decode cX8_put 68 = .ok (.imul, 1) := by decide +kernel
theorem dX8_put_69 : decode cX8_put 69 = .ok (.iload_n 2, 1) := by decide +kernel
theorem dX8_put_70 : decode cX8_put 70 = .ok (.iadd, 1) := by decide +kernel
theorem dX8_put_71 : decode cX8_put 71 = .ok (.iload_n 3, 1) := by decide +kernel
theorem dX8_put_72 : decode cX8_put 72 = .ok (.i2b, 1) := by decide +kernel
theorem dX8_put_73 : decode cX8_put 73 = .ok (.iastore, 1) := by decide +kernel
theorem dX8_put_74 : decode cX8_put 74 = .ok (.iload 4, 2) := by decide +kernel
theorem dX8_put_76 : decode cX8_put 76 = .ok (.sipush 1000, 3) := by decide +kernel
theorem dX8_put_79 : decode cX8_put 79 = .ok (.iadd, 1) := by decide +kernel
theorem dX8_put_80 : decode cX8_put 80 = .ok (.ireturn, 1) := by decide +kernel
theorem dX8_begins_0 : decode cX8_begins 0 = .ok (.iconst 0, 1) := by decide +kernel
theorem dX8_begins_1 : decode cX8_begins 1 = .ok (.istore_n 1, 1) := by decide +kernel
theorem dX8_begins_2 : decode cX8_begins 2 = .ok (.iload_n 1, 1) := by decide +kernel
theorem dX8_begins_3 : decode cX8_begins 3 = .ok (.bipush 12, 2) := by decide +kernel
theorem dX8_begins_5 : decode cX8_begins 5 = .ok (.if_icmp .ge 35, 3) := by decide +kernel
theorem dX8_begins_8 : decode cX8_begins 8 = .ok (.aload_n 0, 1) := by decide +kernel
theorem dX8_begins_9 : decode cX8_begins 9 = .ok (.getfield 44, 3) := by decide +kernel
theorem dX8_begins_12 : decode cX8_begins 12 = .ok (.iload_n 1, 1) := by decide +kernel
theorem dX8_begins_13 : decode cX8_begins 13 = .ok (.iload_n 1, 1) := by decide +kernel
theorem dX8_begins_14 : decode cX8_begins 14 = .ok (.i2l, 1) := by decide +kernel
theorem dX8_begins_15 : decode cX8_begins 15 = .ok (.ldc2_w 93, 3) := by decide +kernel
theorem dX8_begins_18 : decode cX8_begins 18 = .ok (.ldc2_w 115, 3) := by decide +kernel
theorem dX8_begins_21 : decode cX8_begins 21 = .ok (.invokestatic 95, 3) := by decide +kernel
theorem dX8_begins_24 : decode cX8_begins 24 = .ok (.ifCond .eq 8, 3) := by decide +kernel
theorem dX8_begins_27 : decode cX8_begins 27 = .ok (.bipush (-9), 2) := by decide +kernel
theorem dX8_begins_29 : decode cX8_begins 29 = .ok (.goto 4, 3) := by decide +kernel
theorem dX8_begins_32 : decode cX8_begins 32 = .ok (.iconst 0, 1) := by decide +kernel
theorem dX8_begins_33 : decode cX8_begins 33 = .ok (.iastore, 1) := by decide +kernel
theorem dX8_begins_34 : decode cX8_begins 34 = .ok (.iinc 1 1, 3) := by decide +kernel
theorem dX8_begins_37 : decode cX8_begins 37 = .ok (.goto (-35), 3) := by decide +kernel
theorem dX8_begins_40 : decode cX8_begins 40 = .ok (.aload_n 0, 1) := by decide +kernel
theorem dX8_begins_41 : decode cX8_begins 41 = .ok (.iconst 0, 1) := by decide +kernel
theorem dX8_begins_42 : decode cX8_begins 42 = .ok (.putfield 117, 3) := by decide +kernel
theorem dX8_begins_45 : decode cX8_begins 45 = .ok (.iconst 0, 1) := by decide +kernel
theorem dX8_begins_46 : decode cX8_begins 46 = .ok (.istore_n 1, 1) := by decide +kernel
theorem dX8_begins_47 : decode cX8_begins 47 = .ok (.iload_n 1, 1) := by decide +kernel
theorem dX8_begins_48 : decode cX8_begins 48 = .ok (.iconst 3, 1) := by decide +kernel
theorem dX8_begins_49 : decode cX8_begins 49 = .ok (.if_icmp .ge 20, 3) := by decide +kernel
theorem dX8_begins_52 : decode cX8_begins 52 = .ok (.aload_n 0, 1) := by decide +kernel
theorem dX8_begins_53 : decode cX8_begins 53 = .ok (.getfield 53, 3) := by decide +kernel
theorem dX8_begins_56 : decode cX8_begins 56 = .ok (.sipush 493, 3) := by decide +kernel
theorem dX8_begins_59 : decode cX8_begins 59 = .ok (.iload_n 1, 1) := by decide +kernel
theorem dX8_begins_60 : decode cX8_begins 60 = .ok (.imul, 1) := by decide +kernel
theorem dX8_begins_61 : decode cX8_begins 61 = .ok (.iconst (-1), 1) := by decide +kernel
theorem dX8_begins_62 : decode cX8_begins 62 = .ok (.iastore, 1) := by decide +kernel
theorem dX8_begins_63 : decode cX8_begins 63 = .ok (.iinc 1 1, 3) := by decide +kernel
theorem dX8_begins_66 : decode cX8_begins 66 = .ok (.goto (-19), 3) := by decide +kernel
theorem dX8_begins_69 : decode cX8_begins 69 = .ok (.return_, 1) := by decide +kernel
theorem dX8_here_0 : decode cX8_here 0 = .ok (.aload_n 0, 1) := by decide +kernel
theorem dX8_here_1 : decode cX8_here 1 = .ok (.getfield 120, 3) := by decide +kernel
theorem dX8_here_4 : decode cX8_here 4 = .ok (.aload_n 0, 1) := by decide +kernel
theorem dX8_here_5 : decode cX8_here 5 = .ok (.getfield 123, 3) := by decide +kernel
theorem dX8_here_8 : decode cX8_here 8 = .ok (.if_icmp .ge 23, 3) := by decide +kernel
theorem dX8_here_11 : decode cX8_here 11 = .ok (.aload_n 0, 1) := by decide +kernel
theorem dX8_here_12 : decode cX8_here 12 = .ok (.getfield 16, 3) := by decide +kernel
theorem dX8_here_15 : decode cX8_here 15 = .ok (.bipush 60, 2) := by decide +kernel
theorem dX8_here_17 : decode cX8_here 17 = .ok (.aload_n 0, 1) := by decide +kernel
theorem dX8_here_18 : decode cX8_here 18 = .ok (.getfield 126, 3) := by decide +kernel
theorem dX8_here_21 : decode cX8_here 21 = .ok (.imul, 1) := by decide +kernel
theorem dX8_here_22 : decode cX8_here 22 = .ok (.aload_n 0, 1) := by decide +kernel
theorem dX8_here_23 : decode cX8_here 23 = .ok (.getfield 120, 3) := by decide +kernel
theorem dX8_here_26 : decode cX8_here 26 = .ok (.iadd, 1) := by decide +kernel
theorem dX8_here_27 : decode cX8_here 27 = .ok (.iaload, 1) := by decide +kernel
theorem dX8_here_28 : decode cX8_here 28 = .ok (.goto 4, 3) := by decide +kernel
theorem dX8_here_31 : decode cX8_here 31 = .ok (.iconst (-1), 1) := by decide +kernel
theorem dX8_here_32 : decode cX8_here 32 = .ok (.ireturn, 1) := by decide +kernel
theorem dX8_kindOf_0 : decode cX8_kindOf 0 = .ok (.iload_n 0, 1) := by decide +kernel
theorem dX8_kindOf_1 : decode cX8_kindOf 1 = .ok (.tableswitch 91 100 115 #[87, 91, 91, 91, 91, 91, 91, 89, 83, 91, 91, 91, 79, 91, 81, 85], 79) := by decide +kernel
theorem dX8_kindOf_80 : decode cX8_kindOf 80 = .ok (.iconst 0, 1) := by decide +kernel
theorem dX8_kindOf_81 : decode cX8_kindOf 81 = .ok (.ireturn, 1) := by decide +kernel
theorem dX8_kindOf_82 : decode cX8_kindOf 82 = .ok (.iconst 1, 1) := by decide +kernel
theorem dX8_kindOf_83 : decode cX8_kindOf 83 = .ok (.ireturn, 1) := by decide +kernel
theorem dX8_kindOf_84 : decode cX8_kindOf 84 = .ok (.iconst 2, 1) := by decide +kernel
theorem dX8_kindOf_85 : decode cX8_kindOf 85 = .ok (.ireturn, 1) := by decide +kernel
theorem dX8_kindOf_86 : decode cX8_kindOf 86 = .ok (.iconst 3, 1) := by decide +kernel
theorem dX8_kindOf_87 : decode cX8_kindOf 87 = .ok (.ireturn, 1) := by decide +kernel
theorem dX8_kindOf_88 : decode cX8_kindOf 88 = .ok (.iconst 4, 1) := by decide +kernel
theorem dX8_kindOf_89 : decode cX8_kindOf 89 = .ok (.ireturn, 1) := by decide +kernel
theorem dX8_kindOf_90 : decode cX8_kindOf 90 = .ok (.iconst 5, 1) := by decide +kernel
theorem dX8_kindOf_91 : decode cX8_kindOf 91 = .ok (.ireturn, 1) := by decide +kernel
theorem dX8_kindOf_92 : decode cX8_kindOf 92 = .ok (.bipush (-9), 2) := by decide +kernel
theorem dX8_kindOf_94 : decode cX8_kindOf 94 = .ok (.ireturn, 1) := by decide +kernel
theorem dX8_isFigure_0 : decode cX8_isFigure 0 = .ok (.aload_n 0, 1) := by decide +kernel
theorem dX8_isFigure_1 : decode cX8_isFigure 1 = .ok (.invokevirtual 129, 3) := by decide +kernel
theorem dX8_isFigure_4 : decode cX8_isFigure 4 = .ok (.i2l, 1) := by decide +kernel
theorem dX8_isFigure_5 : decode cX8_isFigure 5 = .ok (.bipush 48, 2) := by decide +kernel
theorem dX8_isFigure_7 : decode cX8_isFigure 7 = .ok (.iload_n 1, 1) := by decide +kernel
theorem dX8_isFigure_8 : decode cX8_isFigure 8 = .ok (.iadd, 1) := by decide +kernel
theorem dX8_isFigure_9 : decode cX8_isFigure 9 = .ok (.i2l, 1) := by decide +kernel
theorem dX8_isFigure_10 : decode cX8_isFigure 10 = .ok (.ldc2_w 133, 3) := by decide +kernel
theorem dX8_isFigure_13 : decode cX8_isFigure 13 = .ok (.invokestatic 95, 3) := by decide +kernel
theorem dX8_isFigure_16 : decode cX8_isFigure 16 = .ok (.ifCond .ne 5, 3) := by decide +kernel
theorem dX8_isFigure_19 : decode cX8_isFigure 19 = .ok (.iconst 0, 1) := by decide +kernel
theorem dX8_isFigure_20 : decode cX8_isFigure 20 = .ok (.ireturn, 1) := by decide +kernel
theorem dX8_isFigure_21 : decode cX8_isFigure 21 = .ok (.aload_n 0, 1) := by decide +kernel
theorem dX8_isFigure_22 : decode cX8_isFigure 22 = .ok (.dup, 1) := by decide +kernel
theorem dX8_isFigure_23 : decode cX8_isFigure 23 = .ok (.getfield 120, 3) := by decide +kernel
theorem dX8_isFigure_26 : decode cX8_isFigure 26 = .ok (.iconst 1, 1) := by decide +kernel
theorem dX8_isFigure_27 : decode cX8_isFigure 27 = .ok (.iadd, 1) := by decide +kernel
theorem dX8_isFigure_28 : decode cX8_isFigure 28 = .ok (.putfield 120, 3) := by decide +kernel
theorem dX8_isFigure_31 : decode cX8_isFigure 31 = .ok (.iconst 1, 1) := by decide +kernel
theorem dX8_isFigure_32 : decode cX8_isFigure 32 = .ok (.ireturn, 1) := by decide +kernel
theorem dX8_last_0 : decode cX8_last 0 = .ok (.aload_n 0, 1) := by decide +kernel
theorem dX8_last_1 : decode cX8_last 1 = .ok (.getfield 16, 3) := by decide +kernel
theorem dX8_last_4 : decode cX8_last 4 = .ok (.bipush 60, 2) := by decide +kernel
theorem dX8_last_6 : decode cX8_last 6 = .ok (.aload_n 0, 1) := by decide +kernel
theorem dX8_last_7 : decode cX8_last 7 = .ok (.getfield 126, 3) := by decide +kernel
theorem dX8_last_10 : decode cX8_last 10 = .ok (.imul, 1) := by decide +kernel
theorem dX8_last_11 : decode cX8_last 11 = .ok (.aload_n 0, 1) := by decide +kernel
theorem dX8_last_12 : decode cX8_last 12 = .ok (.getfield 120, 3) := by decide +kernel
theorem dX8_last_15 : decode cX8_last 15 = .ok (.iadd, 1) := by decide +kernel
theorem dX8_last_16 : decode cX8_last 16 = .ok (.iconst 1, 1) := by decide +kernel
theorem dX8_last_17 : decode cX8_last 17 = .ok (.isub, 1) := by decide +kernel
theorem dX8_last_18 : decode cX8_last 18 = .ok (.iaload, 1) := by decide +kernel
theorem dX8_last_19 : decode cX8_last 19 = .ok (.bipush 48, 2) := by decide +kernel
theorem dX8_last_21 : decode cX8_last 21 = .ok (.isub, 1) := by decide +kernel
theorem dX8_last_22 : decode cX8_last 22 = .ok (.ireturn, 1) := by decide +kernel
theorem dX8_isStrength_0 : decode cX8_isStrength 0 = .ok (.aload_n 0, 1) := by decide +kernel
theorem dX8_isStrength_1 : decode cX8_isStrength 1 = .ok (.getfield 120, 3) := by decide +kernel
theorem dX8_isStrength_4 : decode cX8_isStrength 4 = .ok (.istore_n 1, 1) := by decide +kernel
theorem dX8_isStrength_5 : decode cX8_isStrength 5 = .ok (.aload_n 0, 1) := by decide +kernel
theorem dX8_isStrength_6 : decode cX8_isStrength 6 = .ok (.iconst 0, 1) := by decide +kernel
theorem dX8_isStrength_7 : decode cX8_isStrength 7 = .ok (.invokevirtual 135, 3) := by decide +kernel
theorem dX8_isStrength_10 : decode cX8_isStrength 10 = .ok (.ifCond .ne 5, 3) := by decide +kernel
theorem dX8_isStrength_13 : decode cX8_isStrength 13 = .ok (.iconst 0, 1) := by decide +kernel
theorem dX8_isStrength_14 : decode cX8_isStrength 14 = .ok (.ireturn, 1) := by decide +kernel
theorem dX8_isStrength_15 : decode cX8_isStrength 15 = .ok (.aload_n 0, 1) := by decide +kernel
theorem dX8_isStrength_16 : decode cX8_isStrength 16 = .ok (.invokevirtual 138, 3) := by decide +kernel
theorem dX8_isStrength_19 : decode cX8_isStrength 19 = .ok (.istore_n 2, 1) := by decide +kernel
theorem dX8_isStrength_20 : decode cX8_isStrength 20 = .ok (.aload_n 0, 1) := by decide +kernel
theorem dX8_isStrength_21 : decode cX8_isStrength 21 = .ok (.iconst 0, 1) := by decide +kernel
theorem dX8_isStrength_22 : decode cX8_isStrength 22 = .ok (.invokevirtual 135, 3) := by decide +kernel
theorem dX8_isStrength_25 : decode cX8_isStrength 25 = .ok (.ifCond .ne 5, 3) := by decide +kernel
theorem dX8_isStrength_28 : decode cX8_isStrength 28 = .ok (.iconst 0, 1) := by decide +kernel
theorem dX8_isStrength_29 : decode cX8_isStrength 29 = .ok (.ireturn, 1) := by decide +kernel
theorem dX8_isStrength_30 : decode cX8_isStrength 30 = .ok (.bipush 10, 2) := by decide +kernel
theorem dX8_isStrength_32 : decode cX8_isStrength 32 = .ok (.iload_n 2, 1) := by decide +kernel
theorem dX8_isStrength_33 : decode cX8_isStrength 33 = .ok (.imul, 1) := by decide +kernel
theorem dX8_isStrength_34 : decode cX8_isStrength 34 = .ok (.aload_n 0, 1) := by decide +kernel
theorem dX8_isStrength_35 : decode cX8_isStrength 35 = .ok (.invokevirtual 138, 3) := by decide +kernel
theorem dX8_isStrength_38 : decode cX8_isStrength 38 = .ok (.iadd, 1) := by decide +kernel
theorem dX8_isStrength_39 : decode cX8_isStrength 39 = .ok (.bipush 60, 2) := by decide +kernel
theorem dX8_isStrength_41 : decode cX8_isStrength 41 = .ok (.if_icmp .le 10, 3) := by decide +kernel
theorem dX8_isStrength_44 : decode cX8_isStrength 44 = .ok (.aload_n 0, 1) := by decide +kernel
theorem dX8_isStrength_45 : decode cX8_isStrength 45 = .ok (.iload_n 1, 1) := by decide +kernel
theorem dX8_isStrength_46 : decode cX8_isStrength 46 = .ok (.putfield 120, 3) := by decide +kernel
theorem dX8_isStrength_49 : decode cX8_isStrength 49 = .ok (.iconst 0, 1) := by decide +kernel
theorem dX8_isStrength_50 : decode cX8_isStrength 50 = .ok (.ireturn, 1) := by decide +kernel
theorem dX8_isStrength_51 : decode cX8_isStrength 51 = .ok (.aload_n 0, 1) := by decide +kernel
theorem dX8_isStrength_52 : decode cX8_isStrength 52 = .ok (.getfield 62, 3) := by decide +kernel
theorem dX8_isStrength_55 : decode cX8_isStrength 55 = .ok (.aload_n 0, 1) := by decide +kernel
theorem dX8_isStrength_56 : decode cX8_isStrength 56 = .ok (.getfield 141, 3) := by decide +kernel
theorem dX8_isStrength_59 : decode cX8_isStrength 59 = .ok (.bipush 10, 2) := by decide +kernel
theorem dX8_isStrength_61 : decode cX8_isStrength 61 = .ok (.iload_n 2, 1) := by decide +kernel
theorem dX8_isStrength_62 : decode cX8_isStrength 62 = .ok (.imul, 1) := by decide +kernel
theorem dX8_isStrength_63 : decode cX8_isStrength 63 = .ok (.aload_n 0, 1) := by decide +kernel
theorem dX8_isStrength_64 : decode cX8_isStrength 64 = .ok (.invokevirtual 138, 3) := by decide +kernel
theorem dX8_isStrength_67 : decode cX8_isStrength 67 = .ok (.iadd, 1) := by decide +kernel
theorem dX8_isStrength_68 : decode cX8_isStrength 68 = .ok (.iastore, 1) := by decide +kernel
theorem dX8_isStrength_69 : decode cX8_isStrength 69 = .ok (.iconst 1, 1) := by decide +kernel
theorem dX8_isStrength_70 : decode cX8_isStrength 70 = .ok (.ireturn, 1) := by decide +kernel
theorem dX8_readsPole_0 : decode cX8_readsPole 0 = .ok (.aload_n 0, 1) := by decide +kernel
theorem dX8_readsPole_1 : decode cX8_readsPole 1 = .ok (.getfield 141, 3) := by decide +kernel
theorem dX8_readsPole_4 : decode cX8_readsPole 4 = .ok (.iconst 4, 1) := by decide +kernel
theorem dX8_readsPole_5 : decode cX8_readsPole 5 = .ok (.if_icmp .ne 5, 3) := by decide +kernel
theorem dX8_readsPole_8 : decode cX8_readsPole 8 = .ok (.iconst 0, 1) := by decide +kernel
theorem dX8_readsPole_9 : decode cX8_readsPole 9 = .ok (.ireturn, 1) := by decide +kernel
theorem dX8_readsPole_10 : decode cX8_readsPole 10 = .ok (.aload_n 0, 1) := by decide +kernel
theorem dX8_readsPole_11 : decode cX8_readsPole 11 = .ok (.invokevirtual 129, 3) := by decide +kernel
theorem dX8_readsPole_14 : decode cX8_readsPole 14 = .ok (.invokestatic 144, 3) := by decide +kernel
theorem dX8_readsPole_17 : decode cX8_readsPole 17 = .ok (.istore_n 1, 1) := by decide +kernel
theorem dX8_readsPole_18 : decode cX8_readsPole 18 = .ok (.aload_n 0, 1) := by decide +kernel
theorem dX8_readsPole_19 : decode cX8_readsPole 19 = .ok (.dup, 1) := by decide +kernel
theorem dX8_readsPole_20 : decode cX8_readsPole 20 = .ok (.getfield 120, 3) := by decide +kernel
theorem dX8_readsPole_23 : decode cX8_readsPole 23 = .ok (.iconst 1, 1) := by decide +kernel
theorem dX8_readsPole_24 : decode cX8_readsPole 24 = .ok (.iadd, 1) := by decide +kernel
theorem dX8_readsPole_25 : decode cX8_readsPole 25 = .ok (.putfield 120, 3) := by decide +kernel
theorem dX8_readsPole_28 : decode cX8_readsPole 28 = .ok (.aload_n 0, 1) := by decide +kernel
theorem dX8_readsPole_29 : decode cX8_readsPole 29 = .ok (.iconst 1, 1) := by decide +kernel
theorem dX8_readsPole_30 : decode cX8_readsPole 30 = .ok (.invokevirtual 135, 3) := by decide +kernel
theorem dX8_readsPole_33 : decode cX8_readsPole 33 = .ok (.ifCond .ne 5, 3) := by decide +kernel
theorem dX8_readsPole_36 : decode cX8_readsPole 36 = .ok (.iconst 0, 1) := by decide +kernel
theorem dX8_readsPole_37 : decode cX8_readsPole 37 = .ok (.ireturn, 1) := by decide +kernel
theorem dX8_readsPole_38 : decode cX8_readsPole 38 = .ok (.aload_n 0, 1) := by decide +kernel
theorem dX8_readsPole_39 : decode cX8_readsPole 39 = .ok (.getfield 56, 3) := by decide +kernel
theorem dX8_readsPole_42 : decode cX8_readsPole 42 = .ok (.aload_n 0, 1) := by decide +kernel
theorem dX8_readsPole_43 : decode cX8_readsPole 43 = .ok (.getfield 141, 3) := by decide +kernel
theorem dX8_readsPole_46 : decode cX8_readsPole 46 = .ok (.iload_n 1, 1) := by decide +kernel
theorem dX8_readsPole_47 : decode cX8_readsPole 47 = .ok (.iastore, 1) := by decide +kernel
theorem dX8_readsPole_48 : decode cX8_readsPole 48 = .ok (.aload_n 0, 1) := by decide +kernel
theorem dX8_readsPole_49 : decode cX8_readsPole 49 = .ok (.getfield 59, 3) := by decide +kernel
theorem dX8_readsPole_52 : decode cX8_readsPole 52 = .ok (.aload_n 0, 1) := by decide +kernel
theorem dX8_readsPole_53 : decode cX8_readsPole 53 = .ok (.getfield 141, 3) := by decide +kernel
theorem dX8_readsPole_56 : decode cX8_readsPole 56 = .ok (.aload_n 0, 1) := by decide +kernel
theorem dX8_readsPole_57 : decode cX8_readsPole 57 = .ok (.invokevirtual 138, 3) := by decide +kernel
theorem dX8_readsPole_60 : decode cX8_readsPole 60 = .ok (.iastore, 1) := by decide +kernel
theorem dX8_readsPole_61 : decode cX8_readsPole 61 = .ok (.aload_n 0, 1) := by decide +kernel
theorem dX8_readsPole_62 : decode cX8_readsPole 62 = .ok (.invokevirtual 147, 3) := by decide +kernel
theorem dX8_readsPole_65 : decode cX8_readsPole 65 = .ok (.ifCond .ne 5, 3) := by decide +kernel
theorem dX8_readsPole_68 : decode cX8_readsPole 68 = .ok (.iconst 0, 1) := by decide +kernel
theorem dX8_readsPole_69 : decode cX8_readsPole 69 = .ok (.ireturn, 1) := by decide +kernel
theorem dX8_readsPole_70 : decode cX8_readsPole 70 = .ok (.aload_n 0, 1) := by decide +kernel
theorem dX8_readsPole_71 : decode cX8_readsPole 71 = .ok (.dup, 1) := by decide +kernel
theorem dX8_readsPole_72 : decode cX8_readsPole 72 = .ok (.getfield 141, 3) := by decide +kernel
theorem dX8_readsPole_75 : decode cX8_readsPole 75 = .ok (.iconst 1, 1) := by decide +kernel
theorem dX8_readsPole_76 : decode cX8_readsPole 76 = .ok (.iadd, 1) := by decide +kernel
theorem dX8_readsPole_77 : decode cX8_readsPole 77 = .ok (.putfield 141, 3) := by decide +kernel
theorem dX8_readsPole_80 : decode cX8_readsPole 80 = .ok (.iconst 1, 1) := by decide +kernel
theorem dX8_readsPole_81 : decode cX8_readsPole 81 = .ok (.ireturn, 1) := by decide +kernel
theorem dX8_readsOne_0 : decode cX8_readsOne 0 = .ok (.aload_n 0, 1) := by decide +kernel
theorem dX8_readsOne_1 : decode cX8_readsOne 1 = .ok (.getfield 151, 3) := by decide +kernel
theorem dX8_readsOne_4 : decode cX8_readsOne 4 = .ok (.iconst 5, 1) := by decide +kernel
theorem dX8_readsOne_5 : decode cX8_readsOne 5 = .ok (.if_icmp .ne 5, 3) := by decide +kernel
theorem dX8_readsOne_8 : decode cX8_readsOne 8 = .ok (.iconst 0, 1) := by decide +kernel
theorem dX8_readsOne_9 : decode cX8_readsOne 9 = .ok (.ireturn, 1) := by decide +kernel
theorem dX8_readsOne_10 : decode cX8_readsOne 10 = .ok (.aload_n 0, 1) := by decide +kernel
theorem dX8_readsOne_11 : decode cX8_readsOne 11 = .ok (.dup, 1) := by decide +kernel
theorem dX8_readsOne_12 : decode cX8_readsOne 12 = .ok (.getfield 120, 3) := by decide +kernel
theorem dX8_readsOne_15 : decode cX8_readsOne 15 = .ok (.iconst 1, 1) := by decide +kernel
theorem dX8_readsOne_16 : decode cX8_readsOne 16 = .ok (.iadd, 1) := by decide +kernel
theorem dX8_readsOne_17 : decode cX8_readsOne 17 = .ok (.putfield 120, 3) := by decide +kernel
theorem dX8_readsOne_20 : decode cX8_readsOne 20 = .ok (.aload_n 0, 1) := by decide +kernel
theorem dX8_readsOne_21 : decode cX8_readsOne 21 = .ok (.iconst 1, 1) := by decide +kernel
theorem dX8_readsOne_22 : decode cX8_readsOne 22 = .ok (.invokevirtual 135, 3) := by decide +kernel
theorem dX8_readsOne_25 : decode cX8_readsOne 25 = .ok (.ifCond .ne 5, 3) := by decide +kernel
theorem dX8_readsOne_28 : decode cX8_readsOne 28 = .ok (.iconst 0, 1) := by decide +kernel
theorem dX8_readsOne_29 : decode cX8_readsOne 29 = .ok (.ireturn, 1) := by decide +kernel
theorem dX8_readsOne_30 : decode cX8_readsOne 30 = .ok (.aload_n 0, 1) := by decide +kernel
theorem dX8_readsOne_31 : decode cX8_readsOne 31 = .ok (.getfield 65, 3) := by decide +kernel
theorem dX8_readsOne_34 : decode cX8_readsOne 34 = .ok (.aload_n 0, 1) := by decide +kernel
theorem dX8_readsOne_35 : decode cX8_readsOne 35 = .ok (.getfield 151, 3) := by decide +kernel
theorem dX8_readsOne_38 : decode cX8_readsOne 38 = .ok (.aload_n 0, 1) := by decide +kernel
theorem dX8_readsOne_39 : decode cX8_readsOne 39 = .ok (.invokevirtual 138, 3) := by decide +kernel
theorem dX8_readsOne_42 : decode cX8_readsOne 42 = .ok (.iastore, 1) := by decide +kernel
theorem dX8_readsOne_43 : decode cX8_readsOne 43 = .ok (.aload_n 0, 1) := by decide +kernel
theorem dX8_readsOne_44 : decode cX8_readsOne 44 = .ok (.iconst 0, 1) := by decide +kernel
theorem dX8_readsOne_45 : decode cX8_readsOne 45 = .ok (.invokevirtual 135, 3) := by decide +kernel
theorem dX8_readsOne_48 : decode cX8_readsOne 48 = .ok (.ifCond .ne 5, 3) := by decide +kernel
theorem dX8_readsOne_51 : decode cX8_readsOne 51 = .ok (.iconst 0, 1) := by decide +kernel
theorem dX8_readsOne_52 : decode cX8_readsOne 52 = .ok (.ireturn, 1) := by decide +kernel
theorem dX8_readsOne_53 : decode cX8_readsOne 53 = .ok (.aload_n 0, 1) := by decide +kernel
theorem dX8_readsOne_54 : decode cX8_readsOne 54 = .ok (.getfield 68, 3) := by decide +kernel
theorem dX8_readsOne_57 : decode cX8_readsOne 57 = .ok (.aload_n 0, 1) := by decide +kernel
theorem dX8_readsOne_58 : decode cX8_readsOne 58 = .ok (.getfield 151, 3) := by decide +kernel
theorem dX8_readsOne_61 : decode cX8_readsOne 61 = .ok (.aload_n 0, 1) := by decide +kernel
theorem dX8_readsOne_62 : decode cX8_readsOne 62 = .ok (.invokevirtual 138, 3) := by decide +kernel
theorem dX8_readsOne_65 : decode cX8_readsOne 65 = .ok (.iastore, 1) := by decide +kernel
theorem dX8_readsOne_66 : decode cX8_readsOne 66 = .ok (.aload_n 0, 1) := by decide +kernel
theorem dX8_readsOne_67 : decode cX8_readsOne 67 = .ok (.dup, 1) := by decide +kernel
theorem dX8_readsOne_68 : decode cX8_readsOne 68 = .ok (.getfield 151, 3) := by decide +kernel
theorem dX8_readsOne_71 : decode cX8_readsOne 71 = .ok (.iconst 1, 1) := by decide +kernel
theorem dX8_readsOne_72 : decode cX8_readsOne 72 = .ok (.iadd, 1) := by decide +kernel
theorem dX8_readsOne_73 : decode cX8_readsOne 73 = .ok (.putfield 151, 3) := by decide +kernel
theorem dX8_readsOne_76 : decode cX8_readsOne 76 = .ok (.iconst 1, 1) := by decide +kernel
theorem dX8_readsOne_77 : decode cX8_readsOne 77 = .ok (.ireturn, 1) := by decide +kernel
theorem dX8_reads_0 : decode cX8_reads 0 = .ok (.aload_n 0, 1) := by decide +kernel
theorem dX8_reads_1 : decode cX8_reads 1 = .ok (.iload_n 1, 1) := by decide +kernel
theorem dX8_reads_2 : decode cX8_reads 2 = .ok (.putfield 126, 3) := by decide +kernel
theorem dX8_reads_5 : decode cX8_reads 5 = .ok (.aload_n 0, 1) := by decide +kernel
theorem dX8_reads_6 : decode cX8_reads 6 = .ok (.aload_n 0, 1) := by decide +kernel
theorem dX8_reads_7 : decode cX8_reads 7 = .ok (.getfield 19, 3) := by decide +kernel
theorem dX8_reads_10 : decode cX8_reads 10 = .ok (.iload_n 1, 1) := by decide +kernel
theorem dX8_reads_11 : decode cX8_reads 11 = .ok (.iaload, 1) := by decide +kernel
theorem dX8_reads_12 : decode cX8_reads 12 = .ok (.putfield 123, 3) := by decide +kernel
theorem dX8_reads_15 : decode cX8_reads 15 = .ok (.aload_n 0, 1) := by decide +kernel
theorem dX8_reads_16 : decode cX8_reads 16 = .ok (.iconst 0, 1) := by decide +kernel
theorem dX8_reads_17 : decode cX8_reads 17 = .ok (.putfield 120, 3) := by decide +kernel
theorem dX8_reads_20 : decode cX8_reads 20 = .ok (.aload_n 0, 1) := by decide +kernel
theorem dX8_reads_21 : decode cX8_reads 21 = .ok (.iconst 0, 1) := by decide +kernel
theorem dX8_reads_22 : decode cX8_reads 22 = .ok (.putfield 141, 3) := by decide +kernel
theorem dX8_reads_25 : decode cX8_reads 25 = .ok (.aload_n 0, 1) := by decide +kernel
theorem dX8_reads_26 : decode cX8_reads 26 = .ok (.iconst 0, 1) := by decide +kernel
theorem dX8_reads_27 : decode cX8_reads 27 = .ok (.putfield 151, 3) := by decide +kernel
theorem dX8_reads_30 : decode cX8_reads 30 = .ok (.iconst 1, 1) := by decide +kernel
theorem dX8_reads_31 : decode cX8_reads 31 = .ok (.istore_n 2, 1) := by decide +kernel
theorem dX8_reads_32 : decode cX8_reads 32 = .ok (.aload_n 0, 1) := by decide +kernel
theorem dX8_reads_33 : decode cX8_reads 33 = .ok (.getfield 120, 3) := by decide +kernel
theorem dX8_reads_36 : decode cX8_reads 36 = .ok (.aload_n 0, 1) := by decide +kernel
theorem dX8_reads_37 : decode cX8_reads 37 = .ok (.getfield 123, 3) := by decide +kernel
theorem dX8_reads_40 : decode cX8_reads 40 = .ok (.if_icmp .ge 74, 3) := by decide +kernel
theorem dX8_reads_43 : decode cX8_reads 43 = .ok (.iload_n 2, 1) := by decide +kernel
theorem dX8_reads_44 : decode cX8_reads 44 = .ok (.ifCond .eq 70, 3) := by decide +kernel
theorem dX8_reads_47 : decode cX8_reads 47 = .ok (.aload_n 0, 1) := by decide +kernel
theorem dX8_reads_48 : decode cX8_reads 48 = .ok (.invokevirtual 129, 3) := by decide +kernel
theorem dX8_reads_51 : decode cX8_reads 51 = .ok (.bipush 32, 2) := by decide +kernel
theorem dX8_reads_53 : decode cX8_reads 53 = .ok (.if_icmp .ne 16, 3) := by decide +kernel
theorem dX8_reads_56 : decode cX8_reads 56 = .ok (.aload_n 0, 1) := by decide +kernel
theorem dX8_reads_57 : decode cX8_reads 57 = .ok (.dup, 1) := by decide +kernel
theorem dX8_reads_58 : decode cX8_reads 58 = .ok (.getfield 120, 3) := by decide +kernel
theorem dX8_reads_61 : decode cX8_reads 61 = .ok (.iconst 1, 1) := by decide +kernel
theorem dX8_reads_62 : decode cX8_reads 62 = .ok (.iadd, 1) := by decide +kernel
theorem dX8_reads_63 : decode cX8_reads 63 = .ok (.putfield 120, 3) := by decide +kernel
theorem dX8_reads_66 : decode cX8_reads 66 = .ok (.goto (-34), 3) := by decide +kernel
theorem dX8_reads_69 : decode cX8_reads 69 = .ok (.aload_n 0, 1) := by decide +kernel
theorem dX8_reads_70 : decode cX8_reads 70 = .ok (.invokevirtual 129, 3) := by decide +kernel
theorem dX8_reads_73 : decode cX8_reads 73 = .ok (.bipush 109, 2) := by decide +kernel
theorem dX8_reads_75 : decode cX8_reads 75 = .ok (.if_icmp .ne 11, 3) := by decide +kernel
theorem dX8_reads_78 : decode cX8_reads 78 = .ok (.aload_n 0, 1) := by decide +kernel
theorem dX8_reads_79 : decode cX8_reads 79 = .ok (.invokevirtual 154, 3) := by decide +kernel
theorem dX8_reads_82 : decode cX8_reads 82 = .ok (.istore_n 2, 1) := by decide +kernel
theorem dX8_reads_83 : decode cX8_reads 83 = .ok (.goto (-51), 3) := by decide +kernel
theorem dX8_reads_86 : decode cX8_reads 86 = .ok (.aload_n 0, 1) := by decide +kernel
theorem dX8_reads_87 : decode cX8_reads 87 = .ok (.invokevirtual 129, 3) := by decide +kernel
theorem dX8_reads_90 : decode cX8_reads 90 = .ok (.invokestatic 144, 3) := by decide +kernel
theorem dX8_reads_93 : decode cX8_reads 93 = .ok (.bipush (-9), 2) := by decide +kernel
theorem dX8_reads_95 : decode cX8_reads 95 = .ok (.if_icmp .eq 14, 3) := by decide +kernel
theorem dX8_reads_98 : decode cX8_reads 98 = .ok (.aload_n 0, 1) := by decide +kernel
theorem dX8_reads_99 : decode cX8_reads 99 = .ok (.invokevirtual 157, 3) := by decide +kernel
theorem dX8_reads_102 : decode cX8_reads 102 = .ok (.ifCond .eq 7, 3) := by decide +kernel
theorem dX8_reads_105 : decode cX8_reads 105 = .ok (.iconst 1, 1) := by decide +kernel
theorem dX8_reads_106 : decode cX8_reads 106 = .ok (.goto 4, 3) := by decide +kernel
theorem dX8_reads_109 : decode cX8_reads 109 = .ok (.iconst 0, 1) := by decide +kernel
theorem dX8_reads_110 : decode cX8_reads 110 = .ok (.istore_n 2, 1) := by decide +kernel
theorem dX8_reads_111 : decode cX8_reads 111 = .ok (.goto (-79), 3) := by decide +kernel
theorem dX8_reads_114 : decode cX8_reads 114 = .ok (.iload_n 2, 1) := by decide +kernel
theorem dX8_reads_115 : decode cX8_reads 115 = .ok (.ifCond .eq 22, 3) := by decide +kernel
theorem dX8_reads_118 : decode cX8_reads 118 = .ok (.aload_n 0, 1) := by decide +kernel
theorem dX8_reads_119 : decode cX8_reads 119 = .ok (.getfield 141, 3) := by decide +kernel
theorem dX8_reads_122 : decode cX8_reads 122 = .ok (.ifCond .le 15, 3) := by decide +kernel
theorem dX8_reads_125 : decode cX8_reads 125 = .ok (.aload_n 0, 1) := by decide +kernel
theorem dX8_reads_126 : decode cX8_reads 126 = .ok (.getfield 151, 3) := by decide +kernel
theorem dX8_reads_129 : decode cX8_reads 129 = .ok (.ifCond .le 8, 3) := by decide +kernel
theorem dX8_reads_132 : decode cX8_reads 132 = .ok (.bipush (-9), 2) := by decide +kernel
theorem dX8_reads_134 : decode cX8_reads 134 = .ok (.goto 7, 3) := by decide +kernel
theorem dX8_reads_137 : decode cX8_reads 137 = .ok (.aload_n 0, 1) := by decide +kernel
theorem dX8_reads_138 : decode cX8_reads 138 = .ok (.getfield 120, 3) := by decide +kernel
theorem dX8_reads_141 : decode cX8_reads 141 = .ok (.ireturn, 1) := by decide +kernel
theorem dX8_fault_0 : decode cX8_fault 0 = .ok (.iload_n 1, 1) := by decide +kernel
theorem dX8_fault_1 : decode cX8_fault 1 = .ok (.invokestatic 112, 3) := by decide +kernel
theorem dX8_fault_4 : decode cX8_fault 4 = .ok (.ifCond .ne 5, 3) := by decide +kernel
theorem dX8_fault_7 : decode cX8_fault 7 = .ok (.iconst (-1), 1) := by decide +kernel
theorem dX8_fault_8 : decode cX8_fault 8 = .ok (.ireturn, 1) := by decide +kernel
theorem dX8_fault_9 : decode cX8_fault 9 = .ok (.aload_n 0, 1) := by decide +kernel
theorem dX8_fault_10 : decode cX8_fault 10 = .ok (.getfield 19, 3) := by decide +kernel
theorem dX8_fault_13 : decode cX8_fault 13 = .ok (.iload_n 1, 1) := by decide +kernel
theorem dX8_fault_14 : decode cX8_fault 14 = .ok (.iaload, 1) := by decide +kernel
theorem dX8_fault_15 : decode cX8_fault 15 = .ok (.ifCond .ge 11, 3) := by decide +kernel
theorem dX8_fault_18 : decode cX8_fault 18 = .ok (.aload_n 0, 1) := by decide +kernel
theorem dX8_fault_19 : decode cX8_fault 19 = .ok (.iconst 1, 1) := by decide +kernel
theorem dX8_fault_20 : decode cX8_fault 20 = .ok (.invokevirtual 105, 3) := by decide +kernel
theorem dX8_fault_23 : decode cX8_fault 23 = .ok (.goto 8, 3) := by decide +kernel
theorem dX8_fault_26 : decode cX8_fault 26 = .ok (.aload_n 0, 1) := by decide +kernel
theorem dX8_fault_27 : decode cX8_fault 27 = .ok (.iload_n 1, 1) := by decide +kernel
theorem dX8_fault_28 : decode cX8_fault 28 = .ok (.invokevirtual 160, 3) := by decide +kernel
theorem dX8_fault_31 : decode cX8_fault 31 = .ok (.ireturn, 1) := by decide +kernel
theorem dX8_nave_0 : decode cX8_nave 0 = .ok (.iload_n 1, 1) := by decide +kernel
theorem dX8_nave_1 : decode cX8_nave 1 = .ok (.invokestatic 112, 3) := by decide +kernel
theorem dX8_nave_4 : decode cX8_nave 4 = .ok (.ifCond .ne 5, 3) := by decide +kernel
theorem dX8_nave_7 : decode cX8_nave 7 = .ok (.iconst (-1), 1) := by decide +kernel
theorem dX8_nave_8 : decode cX8_nave 8 = .ok (.ireturn, 1) := by decide +kernel
theorem dX8_nave_9 : decode cX8_nave 9 = .ok (.aload_n 0, 1) := by decide +kernel
theorem dX8_nave_10 : decode cX8_nave 10 = .ok (.getfield 19, 3) := by decide +kernel
theorem dX8_nave_13 : decode cX8_nave 13 = .ok (.iload_n 1, 1) := by decide +kernel
theorem dX8_nave_14 : decode cX8_nave 14 = .ok (.iaload, 1) := by decide +kernel
theorem dX8_nave_15 : decode cX8_nave 15 = .ok (.ifCond .ge 9, 3) := by decide +kernel
theorem dX8_nave_18 : decode cX8_nave 18 = .ok (.aload_n 0, 1) := by decide +kernel
theorem dX8_nave_19 : decode cX8_nave 19 = .ok (.iconst 1, 1) := by decide +kernel
theorem dX8_nave_20 : decode cX8_nave 20 = .ok (.invokevirtual 105, 3) := by decide +kernel
theorem dX8_nave_23 : decode cX8_nave 23 = .ok (.ireturn, 1) := by decide +kernel
theorem dX8_nave_24 : decode cX8_nave 24 = .ok (.aload_n 0, 1) := by decide +kernel
theorem dX8_nave_25 : decode cX8_nave 25 = .ok (.iload_n 1, 1) := by decide +kernel
theorem dX8_nave_26 : decode cX8_nave 26 = .ok (.invokevirtual 160, 3) := by decide +kernel
theorem dX8_nave_29 : decode cX8_nave 29 = .ok (.bipush (-9), 2) := by decide +kernel
theorem dX8_nave_31 : decode cX8_nave 31 = .ok (.if_icmp .eq 6, 3) := by decide +kernel
theorem dX8_nave_34 : decode cX8_nave 34 = .ok (.bipush (-4), 2) := by decide +kernel
theorem dX8_nave_36 : decode cX8_nave 36 = .ok (.ireturn, 1) := by decide +kernel
theorem dX8_nave_37 : decode cX8_nave 37 = .ok (.aload_n 0, 1) := by decide +kernel
theorem dX8_nave_38 : decode cX8_nave 38 = .ok (.aload_n 0, 1) := by decide +kernel
theorem dX8_nave_39 : decode cX8_nave 39 = .ok (.getfield 141, 3) := by decide +kernel
theorem dX8_nave_42 : decode cX8_nave 42 = .ok (.putfield 163, 3) := by decide +kernel
theorem dX8_nave_45 : decode cX8_nave 45 = .ok (.aload_n 0, 1) := by decide +kernel
theorem dX8_nave_46 : decode cX8_nave 46 = .ok (.aload_n 0, 1) := by decide +kernel
theorem dX8_nave_47 : decode cX8_nave 47 = .ok (.getfield 151, 3) := by decide +kernel
theorem dX8_nave_50 : decode cX8_nave 50 = .ok (.putfield 166, 3) := by decide +kernel
theorem dX8_nave_53 : decode cX8_nave 53 = .ok (.iconst 0, 1) := by decide +kernel
theorem dX8_nave_54 : decode cX8_nave 54 = .ok (.istore_n 2, 1) := by decide +kernel
theorem dX8_nave_55 : decode cX8_nave 55 = .ok (.iload_n 2, 1) := by decide +kernel
theorem dX8_nave_56 : decode cX8_nave 56 = .ok (.iconst 4, 1) := by decide +kernel
theorem dX8_nave_57 : decode cX8_nave 57 = .ok (.if_icmp .ge 45, 3) := by decide +kernel
theorem dX8_nave_60 : decode cX8_nave 60 = .ok (.aload_n 0, 1) := by decide +kernel
theorem dX8_nave_61 : decode cX8_nave 61 = .ok (.getfield 29, 3) := by decide +kernel
theorem dX8_nave_64 : decode cX8_nave 64 = .ok (.iload_n 2, 1) := by decide +kernel
theorem dX8_nave_65 : decode cX8_nave 65 = .ok (.aload_n 0, 1) := by decide +kernel
theorem dX8_nave_66 : decode cX8_nave 66 = .ok (.getfield 56, 3) := by decide +kernel
theorem dX8_nave_69 : decode cX8_nave 69 = .ok (.iload_n 2, 1) := by decide +kernel
theorem dX8_nave_70 : decode cX8_nave 70 = .ok (.iaload, 1) := by decide +kernel
theorem dX8_nave_71 : decode cX8_nave 71 = .ok (.iastore, 1) := by decide +kernel
theorem dX8_nave_72 : decode cX8_nave 72 = .ok (.aload_n 0, 1) := by decide +kernel
theorem dX8_nave_73 : decode cX8_nave 73 = .ok (.getfield 32, 3) := by decide +kernel
theorem dX8_nave_76 : decode cX8_nave 76 = .ok (.iload_n 2, 1) := by decide +kernel
theorem dX8_nave_77 : decode cX8_nave 77 = .ok (.aload_n 0, 1) := by decide +kernel
theorem dX8_nave_78 : decode cX8_nave 78 = .ok (.getfield 59, 3) := by decide +kernel
theorem dX8_nave_81 : decode cX8_nave 81 = .ok (.iload_n 2, 1) := by decide +kernel
theorem dX8_nave_82 : decode cX8_nave 82 = .ok (.iaload, 1) := by decide +kernel
theorem dX8_nave_83 : decode cX8_nave 83 = .ok (.iastore, 1) := by decide +kernel
theorem dX8_nave_84 : decode cX8_nave 84 = .ok (.aload_n 0, 1) := by decide +kernel
theorem dX8_nave_85 : decode cX8_nave 85 = .ok (.getfield 35, 3) := by decide +kernel
theorem dX8_nave_88 : decode cX8_nave 88 = .ok (.iload_n 2, 1) := by decide +kernel
theorem dX8_nave_89 : decode cX8_nave 89 = .ok (.aload_n 0, 1) := by decide +kernel
theorem dX8_nave_90 : decode cX8_nave 90 = .ok (.getfield 62, 3) := by decide +kernel
theorem dX8_nave_93 : decode cX8_nave 93 = .ok (.iload_n 2, 1) := by decide +kernel
theorem dX8_nave_94 : decode cX8_nave 94 = .ok (.iaload, 1) := by decide +kernel
theorem dX8_nave_95 : decode cX8_nave 95 = .ok (.iastore, 1) := by decide +kernel
theorem dX8_nave_96 : decode cX8_nave 96 = .ok (.iinc 2 1, 3) := by decide +kernel
theorem dX8_nave_99 : decode cX8_nave 99 = .ok (.goto (-44), 3) := by decide +kernel
theorem dX8_nave_102 : decode cX8_nave 102 = .ok (.iconst 0, 1) := by decide +kernel
theorem dX8_nave_103 : decode cX8_nave 103 = .ok (.istore_n 2, 1) := by decide +kernel
theorem dX8_nave_104 : decode cX8_nave 104 = .ok (.iload_n 2, 1) := by decide +kernel
theorem dX8_nave_105 : decode cX8_nave 105 = .ok (.iconst 5, 1) := by decide +kernel
theorem dX8_nave_106 : decode cX8_nave 106 = .ok (.if_icmp .ge 33, 3) := by decide +kernel
theorem dX8_nave_109 : decode cX8_nave 109 = .ok (.aload_n 0, 1) := by decide +kernel
theorem dX8_nave_110 : decode cX8_nave 110 = .ok (.getfield 38, 3) := by decide +kernel
theorem dX8_nave_113 : decode cX8_nave 113 = .ok (.iload_n 2, 1) := by decide +kernel
theorem dX8_nave_114 : decode cX8_nave 114 = .ok (.aload_n 0, 1) := by decide +kernel
theorem dX8_nave_115 : decode cX8_nave 115 = .ok (.getfield 65, 3) := by decide +kernel
theorem dX8_nave_118 : decode cX8_nave 118 = .ok (.iload_n 2, 1) := by decide +kernel
theorem dX8_nave_119 : decode cX8_nave 119 = .ok (.iaload, 1) := by decide +kernel
theorem dX8_nave_120 : decode cX8_nave 120 = .ok (.iastore, 1) := by decide +kernel
theorem dX8_nave_121 : decode cX8_nave 121 = .ok (.aload_n 0, 1) := by decide +kernel
theorem dX8_nave_122 : decode cX8_nave 122 = .ok (.getfield 41, 3) := by decide +kernel
theorem dX8_nave_125 : decode cX8_nave 125 = .ok (.iload_n 2, 1) := by decide +kernel
theorem dX8_nave_126 : decode cX8_nave 126 = .ok (.aload_n 0, 1) := by decide +kernel
theorem dX8_nave_127 : decode cX8_nave 127 = .ok (.getfield 68, 3) := by decide +kernel
theorem dX8_nave_130 : decode cX8_nave 130 = .ok (.iload_n 2, 1) := by decide +kernel
theorem dX8_nave_131 : decode cX8_nave 131 = .ok (.iaload, 1) := by decide +kernel
theorem dX8_nave_132 : decode cX8_nave 132 = .ok (.iastore, 1) := by decide +kernel
theorem dX8_nave_133 : decode cX8_nave 133 = .ok (.iinc 2 1, 3) := by decide +kernel
theorem dX8_nave_136 : decode cX8_nave 136 = .ok (.goto (-32), 3) := by decide +kernel
theorem dX8_nave_139 : decode cX8_nave 139 = .ok (.aload_n 0, 1) := by decide +kernel
theorem dX8_nave_140 : decode cX8_nave 140 = .ok (.invokevirtual 83, 3) := by decide +kernel
theorem dX8_nave_143 : decode cX8_nave 143 = .ok (.aload_n 0, 1) := by decide +kernel
theorem dX8_nave_144 : decode cX8_nave 144 = .ok (.getfield 163, 3) := by decide +kernel
theorem dX8_nave_147 : decode cX8_nave 147 = .ok (.ireturn, 1) := by decide +kernel
theorem dX8_isPole_0 : decode cX8_isPole 0 = .ok (.iload_n 1, 1) := by decide +kernel
theorem dX8_isPole_1 : decode cX8_isPole 1 = .ok (.i2l, 1) := by decide +kernel
theorem dX8_isPole_2 : decode cX8_isPole 2 = .ok (.lconst 0, 1) := by decide +kernel
theorem dX8_isPole_3 : decode cX8_isPole 3 = .ok (.aload_n 0, 1) := by decide +kernel
theorem dX8_isPole_4 : decode cX8_isPole 4 = .ok (.getfield 163, 3) := by decide +kernel
theorem dX8_isPole_7 : decode cX8_isPole 7 = .ok (.iconst 1, 1) := by decide +kernel
theorem dX8_isPole_8 : decode cX8_isPole 8 = .ok (.isub, 1) := by decide +kernel
theorem dX8_isPole_9 : decode cX8_isPole 9 = .ok (.i2l, 1) := by decide +kernel
theorem dX8_isPole_10 : decode cX8_isPole 10 = .ok (.invokestatic 95, 3) := by decide +kernel
theorem dX8_isPole_13 : decode cX8_isPole 13 = .ok (.ireturn, 1) := by decide +kernel
theorem dX8_isOne_0 : decode cX8_isOne 0 = .ok (.iload_n 1, 1) := by decide +kernel
theorem dX8_isOne_1 : decode cX8_isOne 1 = .ok (.i2l, 1) := by decide +kernel
theorem dX8_isOne_2 : decode cX8_isOne 2 = .ok (.lconst 0, 1) := by decide +kernel
theorem dX8_isOne_3 : decode cX8_isOne 3 = .ok (.aload_n 0, 1) := by decide +kernel
theorem dX8_isOne_4 : decode cX8_isOne 4 = .ok (.getfield 166, 3) := by decide +kernel
theorem dX8_isOne_7 : decode cX8_isOne 7 = .ok (.iconst 1, 1) := by decide +kernel
theorem dX8_isOne_8 : decode cX8_isOne 8 = .ok (.isub, 1) := by decide +kernel
theorem dX8_isOne_9 : decode cX8_isOne 9 = .ok (.i2l, 1) := by decide +kernel
theorem dX8_isOne_10 : decode cX8_isOne 10 = .ok (.invokestatic 95, 3) := by decide +kernel
theorem dX8_isOne_13 : decode cX8_isOne 13 = .ok (.ireturn, 1) := by decide +kernel
theorem dX8_bearsBy_0 : decode cX8_bearsBy 0 = .ok (.iload_n 2, 1) := by decide +kernel
theorem dX8_bearsBy_1 : decode cX8_bearsBy 1 = .ok (.iconst 2, 1) := by decide +kernel
theorem dX8_bearsBy_2 : decode cX8_bearsBy 2 = .ok (.iload_n 3, 1) := by decide +kernel
theorem dX8_bearsBy_3 : decode cX8_bearsBy 3 = .ok (.imul, 1) := by decide +kernel
theorem dX8_bearsBy_4 : decode cX8_bearsBy 4 = .ok (.isub, 1) := by decide +kernel
theorem dX8_bearsBy_5 : decode cX8_bearsBy 5 = .ok (.ifCond .ge 7, 3) := by decide +kernel
theorem dX8_bearsBy_8 : decode cX8_bearsBy 8 = .ok (.iconst 0, 1) := by decide +kernel
theorem dX8_bearsBy_9 : decode cX8_bearsBy 9 = .ok (.goto 8, 3) := by decide +kernel
theorem dX8_bearsBy_12 : decode cX8_bearsBy 12 = .ok (.iload_n 2, 1) := by decide +kernel
theorem dX8_bearsBy_13 : decode cX8_bearsBy 13 = .ok (.iconst 2, 1) := by decide +kernel
theorem dX8_bearsBy_14 : decode cX8_bearsBy 14 = .ok (.iload_n 3, 1) := by decide +kernel
theorem dX8_bearsBy_15 : decode cX8_bearsBy 15 = .ok (.imul, 1) := by decide +kernel
theorem dX8_bearsBy_16 : decode cX8_bearsBy 16 = .ok (.isub, 1) := by decide +kernel
theorem dX8_bearsBy_17 : decode cX8_bearsBy 17 = .ok (.istore 4, 2) := by decide +kernel
theorem dX8_bearsBy_19 : decode cX8_bearsBy 19 = .ok (.iload_n 2, 1) := by decide +kernel
theorem dX8_bearsBy_20 : decode cX8_bearsBy 20 = .ok (.iload_n 3, 1) := by decide +kernel
theorem dX8_bearsBy_21 : decode cX8_bearsBy 21 = .ok (.isub, 1) := by decide +kernel
theorem dX8_bearsBy_22 : decode cX8_bearsBy 22 = .ok (.ifCond .ge 7, 3) := by decide +kernel
theorem dX8_bearsBy_25 : decode cX8_bearsBy 25 = .ok (.iconst 0, 1) := by decide +kernel
theorem dX8_bearsBy_26 : decode cX8_bearsBy 26 = .ok (.goto 6, 3) := by decide +kernel
theorem dX8_bearsBy_29 : decode cX8_bearsBy 29 = .ok (.iload_n 2, 1) := by decide +kernel
theorem dX8_bearsBy_30 : decode cX8_bearsBy 30 = .ok (.iload_n 3, 1) := by decide +kernel
theorem dX8_bearsBy_31 : decode cX8_bearsBy 31 = .ok (.isub, 1) := by decide +kernel
theorem dX8_bearsBy_32 : decode cX8_bearsBy 32 = .ok (.istore 5, 2) := by decide +kernel
theorem dX8_bearsBy_34 : decode cX8_bearsBy 34 = .ok (.iload_n 3, 1) := by decide +kernel
theorem dX8_bearsBy_35 : decode cX8_bearsBy 35 = .ok (.iconst 3, 1) := by decide +kernel
theorem dX8_bearsBy_36 : decode cX8_bearsBy 36 = .ok (.if_icmp .ge 8, 3) := by decide +kernel
theorem dX8_bearsBy_39 : decode cX8_bearsBy 39 = .ok (.iload 4, 2) := by decide +kernel
theorem dX8_bearsBy_41 : decode cX8_bearsBy 41 = .ok (.goto 10, 3) := by decide +kernel
theorem dX8_bearsBy_44 : decode cX8_bearsBy 44 = .ok (.iload 4, 2) := by decide +kernel
theorem dX8_bearsBy_46 : decode cX8_bearsBy 46 = .ok (.iload 4, 2) := by decide +kernel
theorem dX8_bearsBy_48 : decode cX8_bearsBy 48 = .ok (.iconst 3, 1) := by decide +kernel
theorem dX8_bearsBy_49 : decode cX8_bearsBy 49 = .ok (.idiv, 1) := by decide +kernel
theorem dX8_bearsBy_50 : decode cX8_bearsBy 50 = .ok (.isub, 1) := by decide +kernel
theorem dX8_bearsBy_51 : decode cX8_bearsBy 51 = .ok (.istore 6, 2) := by decide +kernel
theorem dX8_bearsBy_53 : decode cX8_bearsBy 53 = .ok (.iload_n 0, 1) := by decide +kernel
theorem dX8_bearsBy_54 : decode cX8_bearsBy 54 = .ok (.tableswitch 75 1 5 #[34, 37, 40, 55, 62], 34) := by decide +kernel
theorem dX8_bearsBy_88 : decode cX8_bearsBy 88 = .ok (.iload 6, 2) := by decide +kernel
theorem dX8_bearsBy_90 : decode cX8_bearsBy 90 = .ok (.ireturn, 1) := by decide +kernel
theorem dX8_bearsBy_91 : decode cX8_bearsBy 91 = .ok (.iload 5, 2) := by decide +kernel
theorem dX8_bearsBy_93 : decode cX8_bearsBy 93 = .ok (.ireturn, 1) := by decide +kernel
theorem dX8_bearsBy_94 : decode cX8_bearsBy 94 = .ok (.iload 5, 2) := by decide +kernel
theorem dX8_bearsBy_96 : decode cX8_bearsBy 96 = .ok (.iconst 5, 1) := by decide +kernel
theorem dX8_bearsBy_97 : decode cX8_bearsBy 97 = .ok (.if_icmp .ge 7, 3) := by decide +kernel
theorem dX8_bearsBy_100 : decode cX8_bearsBy 100 = .ok (.iconst 0, 1) := by decide +kernel
theorem dX8_bearsBy_101 : decode cX8_bearsBy 101 = .ok (.goto 7, 3) := by decide +kernel
theorem dX8_bearsBy_104 : decode cX8_bearsBy 104 = .ok (.iload 5, 2) := by decide +kernel
theorem dX8_bearsBy_106 : decode cX8_bearsBy 106 = .ok (.iconst 5, 1) := by decide +kernel
theorem dX8_bearsBy_107 : decode cX8_bearsBy 107 = .ok (.isub, 1) := by decide +kernel
theorem dX8_bearsBy_108 : decode cX8_bearsBy 108 = .ok (.ireturn, 1) := by decide +kernel
theorem dX8_bearsBy_109 : decode cX8_bearsBy 109 = .ok (.iload 5, 2) := by decide +kernel
theorem dX8_bearsBy_111 : decode cX8_bearsBy 111 = .ok (.iconst 2, 1) := by decide +kernel
theorem dX8_bearsBy_112 : decode cX8_bearsBy 112 = .ok (.iload_n 1, 1) := by decide +kernel
theorem dX8_bearsBy_113 : decode cX8_bearsBy 113 = .ok (.imul, 1) := by decide +kernel
theorem dX8_bearsBy_114 : decode cX8_bearsBy 114 = .ok (.iadd, 1) := by decide +kernel
theorem dX8_bearsBy_115 : decode cX8_bearsBy 115 = .ok (.ireturn, 1) := by decide +kernel
theorem dX8_bearsBy_116 : decode cX8_bearsBy 116 = .ok (.iload_n 1, 1) := by decide +kernel
theorem dX8_bearsBy_117 : decode cX8_bearsBy 117 = .ok (.iconst 5, 1) := by decide +kernel
theorem dX8_bearsBy_118 : decode cX8_bearsBy 118 = .ok (.if_icmp .le 8, 3) := by decide +kernel
theorem dX8_bearsBy_121 : decode cX8_bearsBy 121 = .ok (.iload 6, 2) := by decide +kernel
theorem dX8_bearsBy_123 : decode cX8_bearsBy 123 = .ok (.goto 5, 3) := by decide +kernel
theorem dX8_bearsBy_126 : decode cX8_bearsBy 126 = .ok (.iload 4, 2) := by decide +kernel
theorem dX8_bearsBy_128 : decode cX8_bearsBy 128 = .ok (.ireturn, 1) := by decide +kernel
theorem dX8_bearsBy_129 : decode cX8_bearsBy 129 = .ok (.iload 4, 2) := by decide +kernel
theorem dX8_bearsBy_131 : decode cX8_bearsBy 131 = .ok (.ireturn, 1) := by decide +kernel
theorem dX8_bearsAs_0 : decode cX8_bearsAs 0 = .ok (.iload_n 1, 1) := by decide +kernel
theorem dX8_bearsAs_1 : decode cX8_bearsAs 1 = .ok (.aload_n 0, 1) := by decide +kernel
theorem dX8_bearsAs_2 : decode cX8_bearsAs 2 = .ok (.getfield 32, 3) := by decide +kernel
theorem dX8_bearsAs_5 : decode cX8_bearsAs 5 = .ok (.iload_n 2, 1) := by decide +kernel
theorem dX8_bearsAs_6 : decode cX8_bearsAs 6 = .ok (.iaload, 1) := by decide +kernel
theorem dX8_bearsAs_7 : decode cX8_bearsAs 7 = .ok (.aload_n 0, 1) := by decide +kernel
theorem dX8_bearsAs_8 : decode cX8_bearsAs 8 = .ok (.getfield 35, 3) := by decide +kernel
theorem dX8_bearsAs_11 : decode cX8_bearsAs 11 = .ok (.iload_n 2, 1) := by decide +kernel
theorem dX8_bearsAs_12 : decode cX8_bearsAs 12 = .ok (.iaload, 1) := by decide +kernel
theorem dX8_bearsAs_13 : decode cX8_bearsAs 13 = .ok (.iload_n 3, 1) := by decide +kernel
theorem dX8_bearsAs_14 : decode cX8_bearsAs 14 = .ok (.invokestatic 169, 3) := by decide +kernel
theorem dX8_bearsAs_17 : decode cX8_bearsAs 17 = .ok (.ireturn, 1) := by decide +kernel
theorem dX8_bearsOn_0 : decode cX8_bearsOn 0 = .ok (.aload_n 0, 1) := by decide +kernel
theorem dX8_bearsOn_1 : decode cX8_bearsOn 1 = .ok (.aload_n 0, 1) := by decide +kernel
theorem dX8_bearsOn_2 : decode cX8_bearsOn 2 = .ok (.getfield 29, 3) := by decide +kernel
theorem dX8_bearsOn_5 : decode cX8_bearsOn 5 = .ok (.iload_n 2, 1) := by decide +kernel
theorem dX8_bearsOn_6 : decode cX8_bearsOn 6 = .ok (.iaload, 1) := by decide +kernel
theorem dX8_bearsOn_7 : decode cX8_bearsOn 7 = .ok (.iload_n 2, 1) := by decide +kernel
theorem dX8_bearsOn_8 : decode cX8_bearsOn 8 = .ok (.aload_n 1, 1) := by decide +kernel
theorem dX8_bearsOn_9 : decode cX8_bearsOn 9 = .ok (.iconst 0, 1) := by decide +kernel
theorem dX8_bearsOn_10 : decode cX8_bearsOn 10 = .ok (.iload_n 2, 1) := by decide +kernel
theorem dX8_bearsOn_11 : decode cX8_bearsOn 11 = .ok (.iadd, 1) := by decide +kernel
theorem dX8_bearsOn_12 : decode cX8_bearsOn 12 = .ok (.iaload, 1) := by decide +kernel
theorem dX8_bearsOn_13 : decode cX8_bearsOn 13 = .ok (.invokevirtual 173, 3) := by decide +kernel
theorem dX8_bearsOn_16 : decode cX8_bearsOn 16 = .ok (.ireturn, 1) := by decide +kernel
theorem dX8_highOn_0 : decode cX8_highOn 0 = .ok (.iload_n 2, 1) := by decide +kernel
theorem dX8_highOn_1 : decode cX8_highOn 1 = .ok (.bipush (-9), 2) := by decide +kernel
theorem dX8_highOn_3 : decode cX8_highOn 3 = .ok (.if_icmp .ne 7, 3) := by decide +kernel
theorem dX8_highOn_6 : decode cX8_highOn 6 = .ok (.iconst 0, 1) := by decide +kernel
theorem dX8_highOn_7 : decode cX8_highOn 7 = .ok (.goto 33, 3) := by decide +kernel
theorem dX8_highOn_10 : decode cX8_highOn 10 = .ok (.aload_n 0, 1) := by decide +kernel
theorem dX8_highOn_11 : decode cX8_highOn 11 = .ok (.getfield 41, 3) := by decide +kernel
theorem dX8_highOn_14 : decode cX8_highOn 14 = .ok (.iload_n 1, 1) := by decide +kernel
theorem dX8_highOn_15 : decode cX8_highOn 15 = .ok (.iaload, 1) := by decide +kernel
theorem dX8_highOn_16 : decode cX8_highOn 16 = .ok (.aload_n 0, 1) := by decide +kernel
theorem dX8_highOn_17 : decode cX8_highOn 17 = .ok (.getfield 32, 3) := by decide +kernel
theorem dX8_highOn_20 : decode cX8_highOn 20 = .ok (.iload_n 2, 1) := by decide +kernel
theorem dX8_highOn_21 : decode cX8_highOn 21 = .ok (.iaload, 1) := by decide +kernel
theorem dX8_highOn_22 : decode cX8_highOn 22 = .ok (.if_icmp .ge 12, 3) := by decide +kernel
theorem dX8_highOn_25 : decode cX8_highOn 25 = .ok (.aload_n 0, 1) := by decide +kernel
theorem dX8_highOn_26 : decode cX8_highOn 26 = .ok (.getfield 41, 3) := by decide +kernel
theorem dX8_highOn_29 : decode cX8_highOn 29 = .ok (.iload_n 1, 1) := by decide +kernel
theorem dX8_highOn_30 : decode cX8_highOn 30 = .ok (.iaload, 1) := by decide +kernel
theorem dX8_highOn_31 : decode cX8_highOn 31 = .ok (.goto 9, 3) := by decide +kernel
theorem dX8_highOn_34 : decode cX8_highOn 34 = .ok (.aload_n 0, 1) := by decide +kernel
theorem dX8_highOn_35 : decode cX8_highOn 35 = .ok (.getfield 32, 3) := by decide +kernel
theorem dX8_highOn_38 : decode cX8_highOn 38 = .ok (.iload_n 2, 1) := by decide +kernel
theorem dX8_highOn_39 : decode cX8_highOn 39 = .ok (.iaload, 1) := by decide +kernel
theorem dX8_highOn_40 : decode cX8_highOn 40 = .ok (.ireturn, 1) := by decide +kernel
theorem dX8_loadOn_0 : decode cX8_loadOn 0 = .ok (.iconst 0, 1) := by decide +kernel
theorem dX8_loadOn_1 : decode cX8_loadOn 1 = .ok (.istore_n 3, 1) := by decide +kernel
theorem dX8_loadOn_2 : decode cX8_loadOn 2 = .ok (.iconst 0, 1) := by decide +kernel
theorem dX8_loadOn_3 : decode cX8_loadOn 3 = .ok (.istore 4, 2) := by decide +kernel
theorem dX8_loadOn_5 : decode cX8_loadOn 5 = .ok (.iload 4, 2) := by decide +kernel
theorem dX8_loadOn_7 : decode cX8_loadOn 7 = .ok (.aload_n 0, 1) := by decide +kernel
theorem dX8_loadOn_8 : decode cX8_loadOn 8 = .ok (.getfield 166, 3) := by decide +kernel
theorem dX8_loadOn_11 : decode cX8_loadOn 11 = .ok (.if_icmp .ge 43, 3) := by decide +kernel
theorem dX8_loadOn_14 : decode cX8_loadOn 14 = .ok (.iload_n 3, 1) := by decide +kernel
theorem dX8_loadOn_15 : decode cX8_loadOn 15 = .ok (.aload_n 1, 1) := by decide +kernel
theorem dX8_loadOn_16 : decode cX8_loadOn 16 = .ok (.iconst 5, 1) := by decide +kernel
theorem dX8_loadOn_17 : decode cX8_loadOn 17 = .ok (.iload 4, 2) := by decide +kernel
theorem dX8_loadOn_19 : decode cX8_loadOn 19 = .ok (.iadd, 1) := by decide +kernel
theorem dX8_loadOn_20 : decode cX8_loadOn 20 = .ok (.iaload, 1) := by decide +kernel
theorem dX8_loadOn_21 : decode cX8_loadOn 21 = .ok (.iload_n 2, 1) := by decide +kernel
theorem dX8_loadOn_22 : decode cX8_loadOn 22 = .ok (.if_icmp .ne 23, 3) := by decide +kernel
theorem dX8_loadOn_25 : decode cX8_loadOn 25 = .ok (.aload_n 0, 1) := by decide +kernel
theorem dX8_loadOn_26 : decode cX8_loadOn 26 = .ok (.getfield 38, 3) := by decide +kernel
theorem dX8_loadOn_29 : decode cX8_loadOn 29 = .ok (.iload 4, 2) := by decide +kernel
theorem dX8_loadOn_31 : decode cX8_loadOn 31 = .ok (.iaload, 1) := by decide +kernel
theorem dX8_loadOn_32 : decode cX8_loadOn 32 = .ok (.aload_n 0, 1) := by decide +kernel
theorem dX8_loadOn_33 : decode cX8_loadOn 33 = .ok (.iload 4, 2) := by decide +kernel
theorem dX8_loadOn_35 : decode cX8_loadOn 35 = .ok (.iload_n 2, 1) := by decide +kernel
theorem dX8_loadOn_36 : decode cX8_loadOn 36 = .ok (.invokevirtual 177, 3) := by decide +kernel
theorem dX8_loadOn_39 : decode cX8_loadOn 39 = .ok (.iconst 2, 1) := by decide +kernel
theorem dX8_loadOn_40 : decode cX8_loadOn 40 = .ok (.idiv, 1) := by decide +kernel
theorem dX8_loadOn_41 : decode cX8_loadOn 41 = .ok (.iadd, 1) := by decide +kernel
theorem dX8_loadOn_42 : decode cX8_loadOn 42 = .ok (.goto 4, 3) := by decide +kernel
theorem dX8_loadOn_45 : decode cX8_loadOn 45 = .ok (.iconst 0, 1) := by decide +kernel
theorem dX8_loadOn_46 : decode cX8_loadOn 46 = .ok (.iadd, 1) := by decide +kernel
theorem dX8_loadOn_47 : decode cX8_loadOn 47 = .ok (.istore_n 3, 1) := by decide +kernel
theorem dX8_loadOn_48 : decode cX8_loadOn 48 = .ok (.iinc 4 1, 3) := by decide +kernel
theorem dX8_loadOn_51 : decode cX8_loadOn 51 = .ok (.goto (-46), 3) := by decide +kernel
theorem dX8_loadOn_54 : decode cX8_loadOn 54 = .ok (.iload_n 3, 1) := by decide +kernel
theorem dX8_loadOn_55 : decode cX8_loadOn 55 = .ok (.ireturn, 1) := by decide +kernel
theorem dX8_isUp_0 : decode cX8_isUp 0 = .ok (.aload_n 0, 1) := by decide +kernel
theorem dX8_isUp_1 : decode cX8_isUp 1 = .ok (.iconst 4, 1) := by decide +kernel
theorem dX8_isUp_2 : decode cX8_isUp 2 = .ok (.iaload, 1) := by decide +kernel
theorem dX8_isUp_3 : decode cX8_isUp 3 = .ok (.iload_n 1, 1) := by decide +kernel
theorem dX8_isUp_4 : decode cX8_isUp 4 = .ok (.invokestatic 181, 3) := by decide +kernel
theorem dX8_isUp_7 : decode cX8_isUp 7 = .ok (.ifCond .ne 7, 3) := by decide +kernel
theorem dX8_isUp_10 : decode cX8_isUp 10 = .ok (.iconst 1, 1) := by decide +kernel
theorem dX8_isUp_11 : decode cX8_isUp 11 = .ok (.goto 4, 3) := by decide +kernel
theorem dX8_isUp_14 : decode cX8_isUp 14 = .ok (.iconst 0, 1) := by decide +kernel
theorem dX8_isUp_15 : decode cX8_isUp 15 = .ok (.ireturn, 1) := by decide +kernel
theorem dX8_holdsOn_0 : decode cX8_holdsOn 0 = .ok (.aload_n 0, 1) := by decide +kernel
theorem dX8_holdsOn_1 : decode cX8_holdsOn 1 = .ok (.aload_n 1, 1) := by decide +kernel
theorem dX8_holdsOn_2 : decode cX8_holdsOn 2 = .ok (.iload_n 2, 1) := by decide +kernel
theorem dX8_holdsOn_3 : decode cX8_holdsOn 3 = .ok (.invokevirtual 185, 3) := by decide +kernel
theorem dX8_holdsOn_6 : decode cX8_holdsOn 6 = .ok (.aload_n 0, 1) := by decide +kernel
theorem dX8_holdsOn_7 : decode cX8_holdsOn 7 = .ok (.aload_n 1, 1) := by decide +kernel
theorem dX8_holdsOn_8 : decode cX8_holdsOn 8 = .ok (.iload_n 2, 1) := by decide +kernel
theorem dX8_holdsOn_9 : decode cX8_holdsOn 9 = .ok (.invokevirtual 189, 3) := by decide +kernel
theorem dX8_holdsOn_12 : decode cX8_holdsOn 12 = .ok (.if_icmp .gt 7, 3) := by decide +kernel
theorem dX8_holdsOn_15 : decode cX8_holdsOn 15 = .ok (.iconst 1, 1) := by decide +kernel
theorem dX8_holdsOn_16 : decode cX8_holdsOn 16 = .ok (.goto 4, 3) := by decide +kernel
theorem dX8_holdsOn_19 : decode cX8_holdsOn 19 = .ok (.iconst 0, 1) := by decide +kernel
theorem dX8_holdsOn_20 : decode cX8_holdsOn 20 = .ok (.ireturn, 1) := by decide +kernel
theorem dX8_sittersOn_0 : decode cX8_sittersOn 0 = .ok (.iconst 0, 1) := by decide +kernel
theorem dX8_sittersOn_1 : decode cX8_sittersOn 1 = .ok (.istore_n 3, 1) := by decide +kernel
theorem dX8_sittersOn_2 : decode cX8_sittersOn 2 = .ok (.iconst 0, 1) := by decide +kernel
theorem dX8_sittersOn_3 : decode cX8_sittersOn 3 = .ok (.istore 4, 2) := by decide +kernel
theorem dX8_sittersOn_5 : decode cX8_sittersOn 5 = .ok (.iload 4, 2) := by decide +kernel
theorem dX8_sittersOn_7 : decode cX8_sittersOn 7 = .ok (.aload_n 0, 1) := by decide +kernel
theorem dX8_sittersOn_8 : decode cX8_sittersOn 8 = .ok (.getfield 166, 3) := by decide +kernel
theorem dX8_sittersOn_11 : decode cX8_sittersOn 11 = .ok (.if_icmp .ge 30, 3) := by decide +kernel
theorem dX8_sittersOn_14 : decode cX8_sittersOn 14 = .ok (.iload_n 3, 1) := by decide +kernel
theorem dX8_sittersOn_15 : decode cX8_sittersOn 15 = .ok (.aload_n 1, 1) := by decide +kernel
theorem dX8_sittersOn_16 : decode cX8_sittersOn 16 = .ok (.iconst 5, 1) := by decide +kernel
theorem dX8_sittersOn_17 : decode cX8_sittersOn 17 = .ok (.iload 4, 2) := by decide +kernel
theorem dX8_sittersOn_19 : decode cX8_sittersOn 19 = .ok (.iadd, 1) := by decide +kernel
theorem dX8_sittersOn_20 : decode cX8_sittersOn 20 = .ok (.iaload, 1) := by decide +kernel
theorem dX8_sittersOn_21 : decode cX8_sittersOn 21 = .ok (.iload_n 2, 1) := by decide +kernel
theorem dX8_sittersOn_22 : decode cX8_sittersOn 22 = .ok (.if_icmp .ne 10, 3) := by decide +kernel
theorem dX8_sittersOn_25 : decode cX8_sittersOn 25 = .ok (.iconst 1, 1) := by decide +kernel
theorem dX8_sittersOn_26 : decode cX8_sittersOn 26 = .ok (.iload 4, 2) := by decide +kernel
theorem dX8_sittersOn_28 : decode cX8_sittersOn 28 = .ok (.ishl, 1) := by decide +kernel
theorem dX8_sittersOn_29 : decode cX8_sittersOn 29 = .ok (.goto 4, 3) := by decide +kernel
theorem dX8_sittersOn_32 : decode cX8_sittersOn 32 = .ok (.iconst 0, 1) := by decide +kernel
theorem dX8_sittersOn_33 : decode cX8_sittersOn 33 = .ok (.ior, 1) := by decide +kernel
theorem dX8_sittersOn_34 : decode cX8_sittersOn 34 = .ok (.istore_n 3, 1) := by decide +kernel
theorem dX8_sittersOn_35 : decode cX8_sittersOn 35 = .ok (.iinc 4 1, 3) := by decide +kernel
theorem dX8_sittersOn_38 : decode cX8_sittersOn 38 = .ok (.goto (-33), 3) := by decide +kernel
theorem dX8_sittersOn_41 : decode cX8_sittersOn 41 = .ok (.iload_n 3, 1) := by decide +kernel
theorem dX8_sittersOn_42 : decode cX8_sittersOn 42 = .ok (.ireturn, 1) := by decide +kernel
theorem dX8_highAll_0 : decode cX8_highAll 0 = .ok (.iconst 0, 1) := by decide +kernel
theorem dX8_highAll_1 : decode cX8_highAll 1 = .ok (.istore_n 2, 1) := by decide +kernel
theorem dX8_highAll_2 : decode cX8_highAll 2 = .ok (.iconst 0, 1) := by decide +kernel
theorem dX8_highAll_3 : decode cX8_highAll 3 = .ok (.istore_n 3, 1) := by decide +kernel
theorem dX8_highAll_4 : decode cX8_highAll 4 = .ok (.iload_n 3, 1) := by decide +kernel
theorem dX8_highAll_5 : decode cX8_highAll 5 = .ok (.aload_n 0, 1) := by decide +kernel
theorem dX8_highAll_6 : decode cX8_highAll 6 = .ok (.getfield 166, 3) := by decide +kernel
theorem dX8_highAll_9 : decode cX8_highAll 9 = .ok (.if_icmp .ge 22, 3) := by decide +kernel
theorem dX8_highAll_12 : decode cX8_highAll 12 = .ok (.iload_n 2, 1) := by decide +kernel
theorem dX8_highAll_13 : decode cX8_highAll 13 = .ok (.aload_n 0, 1) := by decide +kernel
theorem dX8_highAll_14 : decode cX8_highAll 14 = .ok (.iload_n 3, 1) := by decide +kernel
theorem dX8_highAll_15 : decode cX8_highAll 15 = .ok (.aload_n 1, 1) := by decide +kernel
theorem dX8_highAll_16 : decode cX8_highAll 16 = .ok (.iconst 5, 1) := by decide +kernel
theorem dX8_highAll_17 : decode cX8_highAll 17 = .ok (.iload_n 3, 1) := by decide +kernel
theorem dX8_highAll_18 : decode cX8_highAll 18 = .ok (.iadd, 1) := by decide +kernel
theorem dX8_highAll_19 : decode cX8_highAll 19 = .ok (.iaload, 1) := by decide +kernel
theorem dX8_highAll_20 : decode cX8_highAll 20 = .ok (.invokevirtual 177, 3) := by decide +kernel
theorem dX8_highAll_23 : decode cX8_highAll 23 = .ok (.iadd, 1) := by decide +kernel
theorem dX8_highAll_24 : decode cX8_highAll 24 = .ok (.istore_n 2, 1) := by decide +kernel
theorem dX8_highAll_25 : decode cX8_highAll 25 = .ok (.iinc 3 1, 3) := by decide +kernel
theorem dX8_highAll_28 : decode cX8_highAll 28 = .ok (.goto (-24), 3) := by decide +kernel
theorem dX8_highAll_31 : decode cX8_highAll 31 = .ok (.iload_n 2, 1) := by decide +kernel
theorem dX8_highAll_32 : decode cX8_highAll 32 = .ok (.ireturn, 1) := by decide +kernel
theorem dX8_yearGoes_0 : decode cX8_yearGoes 0 = .ok (.iconst 0, 1) := by decide +kernel
theorem dX8_yearGoes_1 : decode cX8_yearGoes 1 = .ok (.istore_n 2, 1) := by decide +kernel
theorem dX8_yearGoes_2 : decode cX8_yearGoes 2 = .ok (.iconst 0, 1) := by decide +kernel
theorem dX8_yearGoes_3 : decode cX8_yearGoes 3 = .ok (.istore_n 3, 1) := by decide +kernel
theorem dX8_yearGoes_4 : decode cX8_yearGoes 4 = .ok (.iload_n 3, 1) := by decide +kernel
theorem dX8_yearGoes_5 : decode cX8_yearGoes 5 = .ok (.aload_n 0, 1) := by decide +kernel
theorem dX8_yearGoes_6 : decode cX8_yearGoes 6 = .ok (.getfield 163, 3) := by decide +kernel
theorem dX8_yearGoes_9 : decode cX8_yearGoes 9 = .ok (.if_icmp .ge 36, 3) := by decide +kernel
theorem dX8_yearGoes_12 : decode cX8_yearGoes 12 = .ok (.iload_n 2, 1) := by decide +kernel
theorem dX8_yearGoes_13 : decode cX8_yearGoes 13 = .ok (.aload_n 1, 1) := by decide +kernel
theorem dX8_yearGoes_14 : decode cX8_yearGoes 14 = .ok (.iload_n 3, 1) := by decide +kernel
theorem dX8_yearGoes_15 : decode cX8_yearGoes 15 = .ok (.invokestatic 192, 3) := by decide +kernel
theorem dX8_yearGoes_18 : decode cX8_yearGoes 18 = .ok (.ifCond .eq 18, 3) := by decide +kernel
theorem dX8_yearGoes_21 : decode cX8_yearGoes 21 = .ok (.aload_n 0, 1) := by decide +kernel
theorem dX8_yearGoes_22 : decode cX8_yearGoes 22 = .ok (.aload_n 1, 1) := by decide +kernel
theorem dX8_yearGoes_23 : decode cX8_yearGoes 23 = .ok (.iload_n 3, 1) := by decide +kernel
theorem dX8_yearGoes_24 : decode cX8_yearGoes 24 = .ok (.invokevirtual 196, 3) := by decide +kernel
theorem dX8_yearGoes_27 : decode cX8_yearGoes 27 = .ok (.ifCond .ne 9, 3) := by decide +kernel
theorem dX8_yearGoes_30 : decode cX8_yearGoes 30 = .ok (.iconst 1, 1) := by decide +kernel
theorem dX8_yearGoes_31 : decode cX8_yearGoes 31 = .ok (.iload_n 3, 1) := by decide +kernel
theorem dX8_yearGoes_32 : decode cX8_yearGoes 32 = .ok (.ishl, 1) := by decide +kernel
theorem dX8_yearGoes_33 : decode cX8_yearGoes 33 = .ok (.goto 4, 3) := by decide +kernel
theorem dX8_yearGoes_36 : decode cX8_yearGoes 36 = .ok (.iconst 0, 1) := by decide +kernel
theorem dX8_yearGoes_37 : decode cX8_yearGoes 37 = .ok (.ior, 1) := by decide +kernel
theorem dX8_yearGoes_38 : decode cX8_yearGoes 38 = .ok (.istore_n 2, 1) := by decide +kernel
theorem dX8_yearGoes_39 : decode cX8_yearGoes 39 = .ok (.iinc 3 1, 3) := by decide +kernel
theorem dX8_yearGoes_42 : decode cX8_yearGoes 42 = .ok (.goto (-38), 3) := by decide +kernel
theorem dX8_yearGoes_45 : decode cX8_yearGoes 45 = .ok (.iconst 0, 1) := by decide +kernel
theorem dX8_yearGoes_46 : decode cX8_yearGoes 46 = .ok (.istore_n 3, 1) := by decide +kernel
theorem dX8_yearGoes_47 : decode cX8_yearGoes 47 = .ok (.iload_n 3, 1) := by decide +kernel
theorem dX8_yearGoes_48 : decode cX8_yearGoes 48 = .ok (.aload_n 0, 1) := by decide +kernel
theorem dX8_yearGoes_49 : decode cX8_yearGoes 49 = .ok (.getfield 163, 3) := by decide +kernel
theorem dX8_yearGoes_52 : decode cX8_yearGoes 52 = .ok (.if_icmp .ge 66, 3) := by decide +kernel
theorem dX8_yearGoes_55 : decode cX8_yearGoes 55 = .ok (.aload_n 1, 1) := by decide +kernel
theorem dX8_yearGoes_56 : decode cX8_yearGoes 56 = .ok (.iload_n 3, 1) := by decide +kernel
theorem dX8_yearGoes_57 : decode cX8_yearGoes 57 = .ok (.invokestatic 192, 3) := by decide +kernel
theorem dX8_yearGoes_60 : decode cX8_yearGoes 60 = .ok (.ifCond .eq 52, 3) := by decide +kernel
theorem dX8_yearGoes_63 : decode cX8_yearGoes 63 = .ok (.iload_n 2, 1) := by decide +kernel
theorem dX8_yearGoes_64 : decode cX8_yearGoes 64 = .ok (.iload_n 3, 1) := by decide +kernel
theorem dX8_yearGoes_65 : decode cX8_yearGoes 65 = .ok (.invokestatic 181, 3) := by decide +kernel
theorem dX8_yearGoes_68 : decode cX8_yearGoes 68 = .ok (.ifCond .ne 44, 3) := by decide +kernel
theorem dX8_yearGoes_71 : decode cX8_yearGoes 71 = .ok (.aload_n 1, 1) := by decide +kernel
theorem dX8_yearGoes_72 : decode cX8_yearGoes 72 = .ok (.iconst 0, 1) := by decide +kernel
theorem dX8_yearGoes_73 : decode cX8_yearGoes 73 = .ok (.iload_n 3, 1) := by decide +kernel
theorem dX8_yearGoes_74 : decode cX8_yearGoes 74 = .ok (.iadd, 1) := by decide +kernel
theorem dX8_yearGoes_75 : decode cX8_yearGoes 75 = .ok (.iaload, 1) := by decide +kernel
theorem dX8_yearGoes_76 : decode cX8_yearGoes 76 = .ok (.aload_n 0, 1) := by decide +kernel
theorem dX8_yearGoes_77 : decode cX8_yearGoes 77 = .ok (.aload_n 1, 1) := by decide +kernel
theorem dX8_yearGoes_78 : decode cX8_yearGoes 78 = .ok (.iload_n 3, 1) := by decide +kernel
theorem dX8_yearGoes_79 : decode cX8_yearGoes 79 = .ok (.invokevirtual 199, 3) := by decide +kernel
theorem dX8_yearGoes_82 : decode cX8_yearGoes 82 = .ok (.ifCond .ne 7, 3) := by decide +kernel
theorem dX8_yearGoes_85 : decode cX8_yearGoes 85 = .ok (.iconst 1, 1) := by decide +kernel
theorem dX8_yearGoes_86 : decode cX8_yearGoes 86 = .ok (.goto 4, 3) := by decide +kernel
theorem dX8_yearGoes_89 : decode cX8_yearGoes 89 = .ok (.iconst 2, 1) := by decide +kernel
theorem dX8_yearGoes_90 : decode cX8_yearGoes 90 = .ok (.iadd, 1) := by decide +kernel
theorem dX8_yearGoes_91 : decode cX8_yearGoes 91 = .ok (.istore 4, 2) := by decide +kernel
theorem dX8_yearGoes_93 : decode cX8_yearGoes 93 = .ok (.aload_n 1, 1) := by decide +kernel
theorem dX8_yearGoes_94 : decode cX8_yearGoes 94 = .ok (.iconst 0, 1) := by decide +kernel
theorem dX8_yearGoes_95 : decode cX8_yearGoes 95 = .ok (.iload_n 3, 1) := by decide +kernel
theorem dX8_yearGoes_96 : decode cX8_yearGoes 96 = .ok (.iadd, 1) := by decide +kernel
theorem dX8_yearGoes_97 : decode cX8_yearGoes 97 = .ok (.iload 4, 2) := by decide +kernel
theorem dX8_yearGoes_99 : decode cX8_yearGoes 99 = .ok (.bipush 20, 2) := by decide +kernel
theorem dX8_yearGoes_101 : decode cX8_yearGoes 101 = .ok (.if_icmp .le 8, 3) := by decide +kernel
theorem dX8_yearGoes_104 : decode cX8_yearGoes 104 = .ok (.bipush 20, 2) := by decide +kernel
theorem dX8_yearGoes_106 : decode cX8_yearGoes 106 = .ok (.goto 5, 3) := by decide +kernel
theorem dX8_yearGoes_109 : decode cX8_yearGoes 109 = .ok (.iload 4, 2) := by decide +kernel
theorem dX8_yearGoes_111 : decode cX8_yearGoes 111 = .ok (.iastore, 1) := by decide +kernel
theorem dX8_yearGoes_112 : decode cX8_yearGoes 112 = .ok (.iinc 3 1, 3) := by decide +kernel
theorem dX8_yearGoes_115 : decode cX8_yearGoes 115 = .ok (.goto (-68), 3) := by decide +kernel
theorem dX8_yearGoes_118 : decode cX8_yearGoes 118 = .ok (.iconst 0, 1) := by decide +kernel
theorem dX8_yearGoes_119 : decode cX8_yearGoes 119 = .ok (.istore_n 3, 1) := by decide +kernel
theorem dX8_yearGoes_120 : decode cX8_yearGoes 120 = .ok (.iload_n 3, 1) := by decide +kernel
theorem dX8_yearGoes_121 : decode cX8_yearGoes 121 = .ok (.aload_n 0, 1) := by decide +kernel
theorem dX8_yearGoes_122 : decode cX8_yearGoes 122 = .ok (.getfield 166, 3) := by decide +kernel
theorem dX8_yearGoes_125 : decode cX8_yearGoes 125 = .ok (.if_icmp .ge 46, 3) := by decide +kernel
theorem dX8_yearGoes_128 : decode cX8_yearGoes 128 = .ok (.aload_n 1, 1) := by decide +kernel
theorem dX8_yearGoes_129 : decode cX8_yearGoes 129 = .ok (.iconst 5, 1) := by decide +kernel
theorem dX8_yearGoes_130 : decode cX8_yearGoes 130 = .ok (.iload_n 3, 1) := by decide +kernel
theorem dX8_yearGoes_131 : decode cX8_yearGoes 131 = .ok (.iadd, 1) := by decide +kernel
theorem dX8_yearGoes_132 : decode cX8_yearGoes 132 = .ok (.aload_n 1, 1) := by decide +kernel
theorem dX8_yearGoes_133 : decode cX8_yearGoes 133 = .ok (.iconst 5, 1) := by decide +kernel
theorem dX8_yearGoes_134 : decode cX8_yearGoes 134 = .ok (.iload_n 3, 1) := by decide +kernel
theorem dX8_yearGoes_135 : decode cX8_yearGoes 135 = .ok (.iadd, 1) := by decide +kernel
theorem dX8_yearGoes_136 : decode cX8_yearGoes 136 = .ok (.iaload, 1) := by decide +kernel
theorem dX8_yearGoes_137 : decode cX8_yearGoes 137 = .ok (.bipush (-9), 2) := by decide +kernel
theorem dX8_yearGoes_139 : decode cX8_yearGoes 139 = .ok (.if_icmp .eq 20, 3) := by decide +kernel
theorem dX8_yearGoes_142 : decode cX8_yearGoes 142 = .ok (.iload_n 2, 1) := by decide +kernel
theorem dX8_yearGoes_143 : decode cX8_yearGoes 143 = .ok (.aload_n 1, 1) := by decide +kernel
theorem dX8_yearGoes_144 : decode cX8_yearGoes 144 = .ok (.iconst 5, 1) := by decide +kernel
theorem dX8_yearGoes_145 : decode cX8_yearGoes 145 = .ok (.iload_n 3, 1) := by decide +kernel
theorem dX8_yearGoes_146 : decode cX8_yearGoes 146 = .ok (.iadd, 1) := by decide +kernel
theorem dX8_yearGoes_147 : decode cX8_yearGoes 147 = .ok (.iaload, 1) := by decide +kernel
theorem dX8_yearGoes_148 : decode cX8_yearGoes 148 = .ok (.invokestatic 181, 3) := by decide +kernel
theorem dX8_yearGoes_151 : decode cX8_yearGoes 151 = .ok (.ifCond .eq 8, 3) := by decide +kernel
theorem dX8_yearGoes_154 : decode cX8_yearGoes 154 = .ok (.bipush (-9), 2) := by decide +kernel
theorem dX8_yearGoes_156 : decode cX8_yearGoes 156 = .ok (.goto 8, 3) := by decide +kernel
theorem dX8_yearGoes_159 : decode cX8_yearGoes 159 = .ok (.aload_n 1, 1) := by decide +kernel
theorem dX8_yearGoes_160 : decode cX8_yearGoes 160 = .ok (.iconst 5, 1) := by decide +kernel
theorem dX8_yearGoes_161 : decode cX8_yearGoes 161 = .ok (.iload_n 3, 1) := by decide +kernel
theorem dX8_yearGoes_162 : decode cX8_yearGoes 162 = .ok (.iadd, 1) := by decide +kernel
theorem dX8_yearGoes_163 : decode cX8_yearGoes 163 = .ok (.iaload, 1) := by decide +kernel
theorem dX8_yearGoes_164 : decode cX8_yearGoes 164 = .ok (.iastore, 1) := by decide +kernel
theorem dX8_yearGoes_165 : decode cX8_yearGoes 165 = .ok (.iinc 3 1, 3) := by decide +kernel
theorem dX8_yearGoes_168 : decode cX8_yearGoes 168 = .ok (.goto (-48), 3) := by decide +kernel
theorem dX8_yearGoes_171 : decode cX8_yearGoes 171 = .ok (.aload_n 1, 1) := by decide +kernel
theorem dX8_yearGoes_172 : decode cX8_yearGoes 172 = .ok (.iconst 4, 1) := by decide +kernel
theorem dX8_yearGoes_173 : decode cX8_yearGoes 173 = .ok (.dup2, 1) := by decide +kernel
theorem dX8_yearGoes_174 : decode cX8_yearGoes 174 = .ok (.iaload, 1) := by decide +kernel
theorem dX8_yearGoes_175 : decode cX8_yearGoes 175 = .ok (.iload_n 2, 1) := by decide +kernel
theorem dX8_yearGoes_176 : decode cX8_yearGoes 176 = .ok (.ior, 1) := by decide +kernel
theorem dX8_yearGoes_177 : decode cX8_yearGoes 177 = .ok (.iastore, 1) := by decide +kernel
theorem dX8_yearGoes_178 : decode cX8_yearGoes 178 = .ok (.aload_n 1, 1) := by decide +kernel
theorem dX8_yearGoes_179 : decode cX8_yearGoes 179 = .ok (.bipush 10, 2) := by decide +kernel
theorem dX8_yearGoes_181 : decode cX8_yearGoes 181 = .ok (.dup2, 1) := by decide +kernel
theorem dX8_yearGoes_182 : decode cX8_yearGoes 182 = .ok (.iaload, 1) := by decide +kernel
theorem dX8_yearGoes_183 : decode cX8_yearGoes 183 = .ok (.iconst 1, 1) := by decide +kernel
theorem dX8_yearGoes_184 : decode cX8_yearGoes 184 = .ok (.iadd, 1) := by decide +kernel
theorem dX8_yearGoes_185 : decode cX8_yearGoes 185 = .ok (.iastore, 1) := by decide +kernel
theorem dX8_yearGoes_186 : decode cX8_yearGoes 186 = .ok (.iload_n 2, 1) := by decide +kernel
theorem dX8_yearGoes_187 : decode cX8_yearGoes 187 = .ok (.ireturn, 1) := by decide +kernel
theorem dX8_copies_0 : decode cX8_copies 0 = .ok (.iconst 0, 1) := by decide +kernel
theorem dX8_copies_1 : decode cX8_copies 1 = .ok (.istore 5, 2) := by decide +kernel
theorem dX8_copies_3 : decode cX8_copies 3 = .ok (.iload 5, 2) := by decide +kernel
theorem dX8_copies_5 : decode cX8_copies 5 = .ok (.iload 4, 2) := by decide +kernel
theorem dX8_copies_7 : decode cX8_copies 7 = .ok (.if_icmp .ge 21, 3) := by decide +kernel
theorem dX8_copies_10 : decode cX8_copies 10 = .ok (.aload_n 2, 1) := by decide +kernel
theorem dX8_copies_11 : decode cX8_copies 11 = .ok (.iload_n 3, 1) := by decide +kernel
theorem dX8_copies_12 : decode cX8_copies 12 = .ok (.iload 5, 2) := by decide +kernel
theorem dX8_copies_14 : decode cX8_copies 14 = .ok (.iadd, 1) := by decide +kernel
theorem dX8_copies_15 : decode cX8_copies 15 = .ok (.aload_n 0, 1) := by decide +kernel
theorem dX8_copies_16 : decode cX8_copies 16 = .ok (.iload_n 1, 1) := by decide +kernel
theorem dX8_copies_17 : decode cX8_copies 17 = .ok (.iload 5, 2) := by decide +kernel
theorem dX8_copies_19 : decode cX8_copies 19 = .ok (.iadd, 1) := by decide +kernel
theorem dX8_copies_20 : decode cX8_copies 20 = .ok (.iaload, 1) := by decide +kernel
theorem dX8_copies_21 : decode cX8_copies 21 = .ok (.iastore, 1) := by decide +kernel
theorem dX8_copies_22 : decode cX8_copies 22 = .ok (.iinc 5 1, 3) := by decide +kernel
theorem dX8_copies_25 : decode cX8_copies 25 = .ok (.goto (-22), 3) := by decide +kernel
theorem dX8_copies_28 : decode cX8_copies 28 = .ok (.return_, 1) := by decide +kernel
theorem dX8_layAside_0 : decode cX8_layAside 0 = .ok (.aload_n 0, 1) := by decide +kernel
theorem dX8_layAside_1 : decode cX8_layAside 1 = .ok (.getfield 44, 3) := by decide +kernel
theorem dX8_layAside_4 : decode cX8_layAside 4 = .ok (.iconst 0, 1) := by decide +kernel
theorem dX8_layAside_5 : decode cX8_layAside 5 = .ok (.aload_n 0, 1) := by decide +kernel
theorem dX8_layAside_6 : decode cX8_layAside 6 = .ok (.getfield 47, 3) := by decide +kernel
theorem dX8_layAside_9 : decode cX8_layAside 9 = .ok (.iconst 0, 1) := by decide +kernel
theorem dX8_layAside_10 : decode cX8_layAside 10 = .ok (.bipush 12, 2) := by decide +kernel
theorem dX8_layAside_12 : decode cX8_layAside 12 = .ok (.invokestatic 202, 3) := by decide +kernel
theorem dX8_layAside_15 : decode cX8_layAside 15 = .ok (.return_, 1) := by decide +kernel
theorem dX8_pole_0 : decode cX8_pole 0 = .ok (.aload_n 0, 1) := by decide +kernel
theorem dX8_pole_1 : decode cX8_pole 1 = .ok (.iload_n 1, 1) := by decide +kernel
theorem dX8_pole_2 : decode cX8_pole 2 = .ok (.invokevirtual 206, 3) := by decide +kernel
theorem dX8_pole_5 : decode cX8_pole 5 = .ok (.ifCond .ne 5, 3) := by decide +kernel
theorem dX8_pole_8 : decode cX8_pole 8 = .ok (.iconst (-1), 1) := by decide +kernel
theorem dX8_pole_9 : decode cX8_pole 9 = .ok (.ireturn, 1) := by decide +kernel
theorem dX8_pole_10 : decode cX8_pole 10 = .ok (.iload_n 2, 1) := by decide +kernel
theorem dX8_pole_11 : decode cX8_pole 11 = .ok (.tableswitch 148 0 7 #[45, 56, 67, 78, 91, 105, 119, 133], 45) := by decide +kernel
theorem dX8_pole_56 : decode cX8_pole 56 = .ok (.aload_n 0, 1) := by decide +kernel
theorem dX8_pole_57 : decode cX8_pole 57 = .ok (.aload_n 0, 1) := by decide +kernel
theorem dX8_pole_58 : decode cX8_pole 58 = .ok (.getfield 29, 3) := by decide +kernel
theorem dX8_pole_61 : decode cX8_pole 61 = .ok (.iload_n 1, 1) := by decide +kernel
theorem dX8_pole_62 : decode cX8_pole 62 = .ok (.iaload, 1) := by decide +kernel
theorem dX8_pole_63 : decode cX8_pole 63 = .ok (.invokevirtual 109, 3) := by decide +kernel
theorem dX8_pole_66 : decode cX8_pole 66 = .ok (.ireturn, 1) := by decide +kernel
theorem dX8_pole_67 : decode cX8_pole 67 = .ok (.aload_n 0, 1) := by decide +kernel
theorem dX8_pole_68 : decode cX8_pole 68 = .ok (.aload_n 0, 1) := by decide +kernel
theorem dX8_pole_69 : decode cX8_pole 69 = .ok (.getfield 32, 3) := by decide +kernel
theorem dX8_pole_72 : decode cX8_pole 72 = .ok (.iload_n 1, 1) := by decide +kernel
theorem dX8_pole_73 : decode cX8_pole 73 = .ok (.iaload, 1) := by decide +kernel
theorem dX8_pole_74 : decode cX8_pole 74 = .ok (.invokevirtual 109, 3) := by decide +kernel
theorem dX8_pole_77 : decode cX8_pole 77 = .ok (.ireturn, 1) := by decide +kernel
theorem dX8_pole_78 : decode cX8_pole 78 = .ok (.aload_n 0, 1) := by decide +kernel
theorem dX8_pole_79 : decode cX8_pole 79 = .ok (.aload_n 0, 1) := by decide +kernel
theorem dX8_pole_80 : decode cX8_pole 80 = .ok (.getfield 35, 3) := by decide +kernel
theorem dX8_pole_83 : decode cX8_pole 83 = .ok (.iload_n 1, 1) := by decide +kernel
theorem dX8_pole_84 : decode cX8_pole 84 = .ok (.iaload, 1) := by decide +kernel
theorem dX8_pole_85 : decode cX8_pole 85 = .ok (.invokevirtual 109, 3) := by decide +kernel
theorem dX8_pole_88 : decode cX8_pole 88 = .ok (.ireturn, 1) := by decide +kernel
theorem dX8_pole_89 : decode cX8_pole 89 = .ok (.aload_n 0, 1) := by decide +kernel
theorem dX8_pole_90 : decode cX8_pole 90 = .ok (.aload_n 0, 1) := by decide +kernel
theorem dX8_pole_91 : decode cX8_pole 91 = .ok (.getfield 44, 3) := by decide +kernel
theorem dX8_pole_94 : decode cX8_pole 94 = .ok (.iconst 0, 1) := by decide +kernel
theorem dX8_pole_95 : decode cX8_pole 95 = .ok (.iload_n 1, 1) := by decide +kernel
theorem dX8_pole_96 : decode cX8_pole 96 = .ok (.iadd, 1) := by decide +kernel
theorem dX8_pole_97 : decode cX8_pole 97 = .ok (.iaload, 1) := by decide +kernel
theorem dX8_pole_98 : decode cX8_pole 98 = .ok (.invokevirtual 109, 3) := by decide +kernel
theorem dX8_pole_101 : decode cX8_pole 101 = .ok (.ireturn, 1) := by decide +kernel
theorem dX8_pole_102 : decode cX8_pole 102 = .ok (.aload_n 0, 1) := by decide +kernel
theorem dX8_pole_103 : decode cX8_pole 103 = .ok (.aload_n 0, 1) := by decide +kernel
theorem dX8_pole_104 : decode cX8_pole 104 = .ok (.aload_n 0, 1) := by decide +kernel
theorem dX8_pole_105 : decode cX8_pole 105 = .ok (.getfield 44, 3) := by decide +kernel
theorem dX8_pole_108 : decode cX8_pole 108 = .ok (.iload_n 1, 1) := by decide +kernel
theorem dX8_pole_109 : decode cX8_pole 109 = .ok (.invokevirtual 189, 3) := by decide +kernel
theorem dX8_pole_112 : decode cX8_pole 112 = .ok (.invokevirtual 109, 3) := by decide +kernel
theorem dX8_pole_115 : decode cX8_pole 115 = .ok (.ireturn, 1) := by decide +kernel
theorem dX8_pole_116 : decode cX8_pole 116 = .ok (.aload_n 0, 1) := by decide +kernel
theorem dX8_pole_117 : decode cX8_pole 117 = .ok (.aload_n 0, 1) := by decide +kernel
theorem dX8_pole_118 : decode cX8_pole 118 = .ok (.aload_n 0, 1) := by decide +kernel
theorem dX8_pole_119 : decode cX8_pole 119 = .ok (.getfield 44, 3) := by decide +kernel
theorem dX8_pole_122 : decode cX8_pole 122 = .ok (.iload_n 1, 1) := by decide +kernel
theorem dX8_pole_123 : decode cX8_pole 123 = .ok (.invokevirtual 185, 3) := by decide +kernel
theorem dX8_pole_126 : decode cX8_pole 126 = .ok (.invokevirtual 109, 3) := by decide +kernel
theorem dX8_pole_129 : decode cX8_pole 129 = .ok (.ireturn, 1) := by decide +kernel
theorem dX8_pole_130 : decode cX8_pole 130 = .ok (.aload_n 0, 1) := by decide +kernel
theorem dX8_pole_131 : decode cX8_pole 131 = .ok (.aload_n 0, 1) := by decide +kernel
theorem dX8_pole_132 : decode cX8_pole 132 = .ok (.aload_n 0, 1) := by decide +kernel
theorem dX8_pole_133 : decode cX8_pole 133 = .ok (.getfield 44, 3) := by decide +kernel
theorem dX8_pole_136 : decode cX8_pole 136 = .ok (.iload_n 1, 1) := by decide +kernel
theorem dX8_pole_137 : decode cX8_pole 137 = .ok (.invokevirtual 199, 3) := by decide +kernel
theorem dX8_pole_140 : decode cX8_pole 140 = .ok (.invokevirtual 109, 3) := by decide +kernel
theorem dX8_pole_143 : decode cX8_pole 143 = .ok (.ireturn, 1) := by decide +kernel
theorem dX8_pole_144 : decode cX8_pole 144 = .ok (.aload_n 0, 1) := by decide +kernel
theorem dX8_pole_145 : decode cX8_pole 145 = .ok (.aload_n 0, 1) := by decide +kernel
theorem dX8_pole_146 : decode cX8_pole 146 = .ok (.getfield 44, 3) := by decide +kernel
theorem dX8_pole_149 : decode cX8_pole 149 = .ok (.iconst 4, 1) := by decide +kernel
theorem dX8_pole_150 : decode cX8_pole 150 = .ok (.iaload, 1) := by decide +kernel
theorem dX8_pole_151 : decode cX8_pole 151 = .ok (.iload_n 1, 1) := by decide +kernel
theorem dX8_pole_152 : decode cX8_pole 152 = .ok (.ishr, 1) := by decide +kernel
theorem dX8_pole_153 : decode cX8_pole 153 = .ok (.iconst 1, 1) := by decide +kernel
theorem dX8_pole_154 : decode cX8_pole 154 = .ok (.iand, 1) := by decide +kernel
theorem dX8_pole_155 : decode cX8_pole 155 = .ok (.invokevirtual 109, 3) := by decide +kernel
theorem dX8_pole_158 : decode cX8_pole 158 = .ok (.ireturn, 1) := by decide +kernel
theorem dX8_pole_159 : decode cX8_pole 159 = .ok (.iconst (-1), 1) := by decide +kernel
theorem dX8_pole_160 : decode cX8_pole 160 = .ok (.ireturn, 1) := by decide +kernel
theorem dX8_one_0 : decode cX8_one 0 = .ok (.aload_n 0, 1) := by decide +kernel
theorem dX8_one_1 : decode cX8_one 1 = .ok (.iload_n 1, 1) := by decide +kernel
theorem dX8_one_2 : decode cX8_one 2 = .ok (.invokevirtual 209, 3) := by decide +kernel
theorem dX8_one_5 : decode cX8_one 5 = .ok (.ifCond .ne 5, 3) := by decide +kernel
theorem dX8_one_8 : decode cX8_one 8 = .ok (.iconst (-1), 1) := by decide +kernel
theorem dX8_one_9 : decode cX8_one 9 = .ok (.ireturn, 1) := by decide +kernel
theorem dX8_one_10 : decode cX8_one 10 = .ok (.iload_n 2, 1) := by decide +kernel
theorem dX8_one_11 : decode cX8_one 11 = .ok (.tableswitch 82 0 3 #[29, 40, 51, 64], 29) := by decide +kernel
theorem dX8_one_40 : decode cX8_one 40 = .ok (.aload_n 0, 1) := by decide +kernel
theorem dX8_one_41 : decode cX8_one 41 = .ok (.aload_n 0, 1) := by decide +kernel
theorem dX8_one_42 : decode cX8_one 42 = .ok (.getfield 38, 3) := by decide +kernel
theorem dX8_one_45 : decode cX8_one 45 = .ok (.iload_n 1, 1) := by decide +kernel
theorem dX8_one_46 : decode cX8_one 46 = .ok (.iaload, 1) := by decide +kernel
theorem dX8_one_47 : decode cX8_one 47 = .ok (.invokevirtual 109, 3) := by decide +kernel
theorem dX8_one_50 : decode cX8_one 50 = .ok (.ireturn, 1) := by decide +kernel
theorem dX8_one_51 : decode cX8_one 51 = .ok (.aload_n 0, 1) := by decide +kernel
theorem dX8_one_52 : decode cX8_one 52 = .ok (.aload_n 0, 1) := by decide +kernel
theorem dX8_one_53 : decode cX8_one 53 = .ok (.getfield 41, 3) := by decide +kernel
theorem dX8_one_56 : decode cX8_one 56 = .ok (.iload_n 1, 1) := by decide +kernel
theorem dX8_one_57 : decode cX8_one 57 = .ok (.iaload, 1) := by decide +kernel
theorem dX8_one_58 : decode cX8_one 58 = .ok (.invokevirtual 109, 3) := by decide +kernel
theorem dX8_one_61 : decode cX8_one 61 = .ok (.ireturn, 1) := by decide +kernel
theorem dX8_one_62 : decode cX8_one 62 = .ok (.aload_n 0, 1) := by decide +kernel
theorem dX8_one_63 : decode cX8_one 63 = .ok (.aload_n 0, 1) := by decide +kernel
theorem dX8_one_64 : decode cX8_one 64 = .ok (.getfield 44, 3) := by decide +kernel
theorem dX8_one_67 : decode cX8_one 67 = .ok (.iconst 5, 1) := by decide +kernel
theorem dX8_one_68 : decode cX8_one 68 = .ok (.iload_n 1, 1) := by decide +kernel
theorem dX8_one_69 : decode cX8_one 69 = .ok (.iadd, 1) := by decide +kernel
theorem dX8_one_70 : decode cX8_one 70 = .ok (.iaload, 1) := by decide +kernel
theorem dX8_one_71 : decode cX8_one 71 = .ok (.invokevirtual 109, 3) := by decide +kernel
theorem dX8_one_74 : decode cX8_one 74 = .ok (.ireturn, 1) := by decide +kernel
theorem dX8_one_75 : decode cX8_one 75 = .ok (.aload_n 0, 1) := by decide +kernel
theorem dX8_one_76 : decode cX8_one 76 = .ok (.aload_n 0, 1) := by decide +kernel
theorem dX8_one_77 : decode cX8_one 77 = .ok (.iload_n 1, 1) := by decide +kernel
theorem dX8_one_78 : decode cX8_one 78 = .ok (.aload_n 0, 1) := by decide +kernel
theorem dX8_one_79 : decode cX8_one 79 = .ok (.getfield 44, 3) := by decide +kernel
theorem dX8_one_82 : decode cX8_one 82 = .ok (.iconst 5, 1) := by decide +kernel
theorem dX8_one_83 : decode cX8_one 83 = .ok (.iload_n 1, 1) := by decide +kernel
theorem dX8_one_84 : decode cX8_one 84 = .ok (.iadd, 1) := by decide +kernel
theorem dX8_one_85 : decode cX8_one 85 = .ok (.iaload, 1) := by decide +kernel
theorem dX8_one_86 : decode cX8_one 86 = .ok (.invokevirtual 177, 3) := by decide +kernel
theorem dX8_one_89 : decode cX8_one 89 = .ok (.invokevirtual 109, 3) := by decide +kernel
theorem dX8_one_92 : decode cX8_one 92 = .ok (.ireturn, 1) := by decide +kernel
theorem dX8_one_93 : decode cX8_one 93 = .ok (.iconst (-1), 1) := by decide +kernel
theorem dX8_one_94 : decode cX8_one 94 = .ok (.ireturn, 1) := by decide +kernel
theorem dX8_isOf_0 : decode cX8_isOf 0 = .ok (.iload_n 0, 1) := by decide +kernel
theorem dX8_isOf_1 : decode cX8_isOf 1 = .ok (.iload_n 1, 1) := by decide +kernel
theorem dX8_isOf_2 : decode cX8_isOf 2 = .ok (.if_icmp .eq 28, 3) := by decide +kernel
theorem dX8_isOf_5 : decode cX8_isOf 5 = .ok (.iload_n 1, 1) := by decide +kernel
theorem dX8_isOf_6 : decode cX8_isOf 6 = .ok (.iconst 1, 1) := by decide +kernel
theorem dX8_isOf_7 : decode cX8_isOf 7 = .ok (.if_icmp .ne 8, 3) := by decide +kernel
theorem dX8_isOf_10 : decode cX8_isOf 10 = .ok (.iload_n 0, 1) := by decide +kernel
theorem dX8_isOf_11 : decode cX8_isOf 11 = .ok (.iconst 5, 1) := by decide +kernel
theorem dX8_isOf_12 : decode cX8_isOf 12 = .ok (.if_icmp .eq 18, 3) := by decide +kernel
theorem dX8_isOf_15 : decode cX8_isOf 15 = .ok (.iload_n 1, 1) := by decide +kernel
theorem dX8_isOf_16 : decode cX8_isOf 16 = .ok (.iconst 2, 1) := by decide +kernel
theorem dX8_isOf_17 : decode cX8_isOf 17 = .ok (.if_icmp .ne 17, 3) := by decide +kernel
theorem dX8_isOf_20 : decode cX8_isOf 20 = .ok (.iload_n 0, 1) := by decide +kernel
theorem dX8_isOf_21 : decode cX8_isOf 21 = .ok (.iconst 3, 1) := by decide +kernel
theorem dX8_isOf_22 : decode cX8_isOf 22 = .ok (.if_icmp .eq 8, 3) := by decide +kernel
theorem dX8_isOf_25 : decode cX8_isOf 25 = .ok (.iload_n 0, 1) := by decide +kernel
theorem dX8_isOf_26 : decode cX8_isOf 26 = .ok (.iconst 4, 1) := by decide +kernel
theorem dX8_isOf_27 : decode cX8_isOf 27 = .ok (.if_icmp .ne 7, 3) := by decide +kernel
theorem dX8_isOf_30 : decode cX8_isOf 30 = .ok (.iconst 1, 1) := by decide +kernel
theorem dX8_isOf_31 : decode cX8_isOf 31 = .ok (.goto 4, 3) := by decide +kernel
theorem dX8_isOf_34 : decode cX8_isOf 34 = .ok (.iconst 0, 1) := by decide +kernel
theorem dX8_isOf_35 : decode cX8_isOf 35 = .ok (.ireturn, 1) := by decide +kernel
theorem dX8_mark_0 : decode cX8_mark 0 = .ok (.aload_n 0, 1) := by decide +kernel
theorem dX8_mark_1 : decode cX8_mark 1 = .ok (.iload_n 1, 1) := by decide +kernel
theorem dX8_mark_2 : decode cX8_mark 2 = .ok (.invokevirtual 206, 3) := by decide +kernel
theorem dX8_mark_5 : decode cX8_mark 5 = .ok (.ifCond .eq 15, 3) := by decide +kernel
theorem dX8_mark_8 : decode cX8_mark 8 = .ok (.iload_n 2, 1) := by decide +kernel
theorem dX8_mark_9 : decode cX8_mark 9 = .ok (.i2l, 1) := by decide +kernel
theorem dX8_mark_10 : decode cX8_mark 10 = .ok (.lconst 1, 1) := by decide +kernel
theorem dX8_mark_11 : decode cX8_mark 11 = .ok (.ldc2_w 93, 3) := by decide +kernel
theorem dX8_mark_14 : decode cX8_mark 14 = .ok (.invokestatic 95, 3) := by decide +kernel
theorem dX8_mark_17 : decode cX8_mark 17 = .ok (.ifCond .ne 5, 3) := by decide +kernel
theorem dX8_mark_20 : decode cX8_mark 20 = .ok (.iconst (-1), 1) := by decide +kernel
theorem dX8_mark_21 : decode cX8_mark 21 = .ok (.ireturn, 1) := by decide +kernel
theorem dX8_mark_22 : decode cX8_mark 22 = .ok (.aload_n 0, 1) := by decide +kernel
theorem dX8_mark_23 : decode cX8_mark 23 = .ok (.getfield 29, 3) := by decide +kernel
theorem dX8_mark_26 : decode cX8_mark 26 = .ok (.iload_n 1, 1) := by decide +kernel
theorem dX8_mark_27 : decode cX8_mark 27 = .ok (.iaload, 1) := by decide +kernel
theorem dX8_mark_28 : decode cX8_mark 28 = .ok (.iload_n 2, 1) := by decide +kernel
theorem dX8_mark_29 : decode cX8_mark 29 = .ok (.invokestatic 212, 3) := by decide +kernel
theorem dX8_mark_32 : decode cX8_mark 32 = .ok (.ifCond .ne 9, 3) := by decide +kernel
theorem dX8_mark_35 : decode cX8_mark 35 = .ok (.aload_n 0, 1) := by decide +kernel
theorem dX8_mark_36 : decode cX8_mark 36 = .ok (.iconst 3, 1) := by decide +kernel
theorem dX8_mark_37 : decode cX8_mark 37 = .ok (.invokevirtual 105, 3) := by decide +kernel
theorem dX8_mark_40 : decode cX8_mark 40 = .ok (.ireturn, 1) := by decide +kernel
theorem dX8_mark_41 : decode cX8_mark 41 = .ok (.aload_n 0, 1) := by decide +kernel
theorem dX8_mark_42 : decode cX8_mark 42 = .ok (.aload_n 0, 1) := by decide +kernel
theorem dX8_mark_43 : decode cX8_mark 43 = .ok (.getfield 44, 3) := by decide +kernel
theorem dX8_mark_46 : decode cX8_mark 46 = .ok (.iload_n 1, 1) := by decide +kernel
theorem dX8_mark_47 : decode cX8_mark 47 = .ok (.invokevirtual 189, 3) := by decide +kernel
theorem dX8_mark_50 : decode cX8_mark 50 = .ok (.istore_n 3, 1) := by decide +kernel
theorem dX8_mark_51 : decode cX8_mark 51 = .ok (.aload_n 0, 1) := by decide +kernel
theorem dX8_mark_52 : decode cX8_mark 52 = .ok (.getfield 44, 3) := by decide +kernel
theorem dX8_mark_55 : decode cX8_mark 55 = .ok (.iconst 0, 1) := by decide +kernel
theorem dX8_mark_56 : decode cX8_mark 56 = .ok (.iload_n 1, 1) := by decide +kernel
theorem dX8_mark_57 : decode cX8_mark 57 = .ok (.iadd, 1) := by decide +kernel
theorem dX8_mark_58 : decode cX8_mark 58 = .ok (.iaload, 1) := by decide +kernel
theorem dX8_mark_59 : decode cX8_mark 59 = .ok (.istore 4, 2) := by decide +kernel
theorem dX8_mark_61 : decode cX8_mark 61 = .ok (.iload_n 2, 1) := by decide +kernel
theorem dX8_mark_62 : decode cX8_mark 62 = .ok (.tableswitch 77 1 4 #[30, 41, 55, 66], 30) := by decide +kernel
theorem dX8_mark_92 : decode cX8_mark 92 = .ok (.aload_n 0, 1) := by decide +kernel
theorem dX8_mark_93 : decode cX8_mark 93 = .ok (.iconst 0, 1) := by decide +kernel
theorem dX8_mark_94 : decode cX8_mark 94 = .ok (.iload_n 1, 1) := by decide +kernel
theorem dX8_mark_95 : decode cX8_mark 95 = .ok (.iload 4, 2) := by decide +kernel
theorem dX8_mark_97 : decode cX8_mark 97 = .ok (.invokevirtual 173, 3) := by decide +kernel
theorem dX8_mark_100 : decode cX8_mark 100 = .ok (.iload_n 3, 1) := by decide +kernel
theorem dX8_mark_101 : decode cX8_mark 101 = .ok (.isub, 1) := by decide +kernel
theorem dX8_mark_102 : decode cX8_mark 102 = .ok (.ireturn, 1) := by decide +kernel
theorem dX8_mark_103 : decode cX8_mark 103 = .ok (.iload_n 3, 1) := by decide +kernel
theorem dX8_mark_104 : decode cX8_mark 104 = .ok (.aload_n 0, 1) := by decide +kernel
theorem dX8_mark_105 : decode cX8_mark 105 = .ok (.iconst 0, 1) := by decide +kernel
theorem dX8_mark_106 : decode cX8_mark 106 = .ok (.iload_n 1, 1) := by decide +kernel
theorem dX8_mark_107 : decode cX8_mark 107 = .ok (.iload 4, 2) := by decide +kernel
theorem dX8_mark_109 : decode cX8_mark 109 = .ok (.invokevirtual 173, 3) := by decide +kernel
theorem dX8_mark_112 : decode cX8_mark 112 = .ok (.isub, 1) := by decide +kernel
theorem dX8_mark_113 : decode cX8_mark 113 = .ok (.bipush 100, 2) := by decide +kernel
theorem dX8_mark_115 : decode cX8_mark 115 = .ok (.iadd, 1) := by decide +kernel
theorem dX8_mark_116 : decode cX8_mark 116 = .ok (.ireturn, 1) := by decide +kernel
theorem dX8_mark_117 : decode cX8_mark 117 = .ok (.aload_n 0, 1) := by decide +kernel
theorem dX8_mark_118 : decode cX8_mark 118 = .ok (.iconst 2, 1) := by decide +kernel
theorem dX8_mark_119 : decode cX8_mark 119 = .ok (.iload_n 1, 1) := by decide +kernel
theorem dX8_mark_120 : decode cX8_mark 120 = .ok (.iload 4, 2) := by decide +kernel
theorem dX8_mark_122 : decode cX8_mark 122 = .ok (.invokevirtual 173, 3) := by decide +kernel
theorem dX8_mark_125 : decode cX8_mark 125 = .ok (.iload_n 3, 1) := by decide +kernel
theorem dX8_mark_126 : decode cX8_mark 126 = .ok (.isub, 1) := by decide +kernel
theorem dX8_mark_127 : decode cX8_mark 127 = .ok (.ireturn, 1) := by decide +kernel
theorem dX8_mark_128 : decode cX8_mark 128 = .ok (.iload_n 3, 1) := by decide +kernel
theorem dX8_mark_129 : decode cX8_mark 129 = .ok (.aload_n 0, 1) := by decide +kernel
theorem dX8_mark_130 : decode cX8_mark 130 = .ok (.iconst 2, 1) := by decide +kernel
theorem dX8_mark_131 : decode cX8_mark 131 = .ok (.iload_n 1, 1) := by decide +kernel
theorem dX8_mark_132 : decode cX8_mark 132 = .ok (.iload 4, 2) := by decide +kernel
theorem dX8_mark_134 : decode cX8_mark 134 = .ok (.invokevirtual 173, 3) := by decide +kernel
theorem dX8_mark_137 : decode cX8_mark 137 = .ok (.isub, 1) := by decide +kernel
theorem dX8_mark_138 : decode cX8_mark 138 = .ok (.ireturn, 1) := by decide +kernel
theorem dX8_mark_139 : decode cX8_mark 139 = .ok (.iload_n 3, 1) := by decide +kernel
theorem dX8_mark_140 : decode cX8_mark 140 = .ok (.aload_n 0, 1) := by decide +kernel
theorem dX8_mark_141 : decode cX8_mark 141 = .ok (.iconst 1, 1) := by decide +kernel
theorem dX8_mark_142 : decode cX8_mark 142 = .ok (.iload_n 1, 1) := by decide +kernel
theorem dX8_mark_143 : decode cX8_mark 143 = .ok (.iload 4, 2) := by decide +kernel
theorem dX8_mark_145 : decode cX8_mark 145 = .ok (.invokevirtual 173, 3) := by decide +kernel
theorem dX8_mark_148 : decode cX8_mark 148 = .ok (.isub, 1) := by decide +kernel
theorem dX8_mark_149 : decode cX8_mark 149 = .ok (.ireturn, 1) := by decide +kernel
theorem dX8_bears_0 : decode cX8_bears 0 = .ok (.aload_n 0, 1) := by decide +kernel
theorem dX8_bears_1 : decode cX8_bears 1 = .ok (.iload_n 1, 1) := by decide +kernel
theorem dX8_bears_2 : decode cX8_bears 2 = .ok (.invokevirtual 206, 3) := by decide +kernel
theorem dX8_bears_5 : decode cX8_bears 5 = .ok (.ifCond .eq 30, 3) := by decide +kernel
theorem dX8_bears_8 : decode cX8_bears 8 = .ok (.iload_n 2, 1) := by decide +kernel
theorem dX8_bears_9 : decode cX8_bears 9 = .ok (.i2l, 1) := by decide +kernel
theorem dX8_bears_10 : decode cX8_bears 10 = .ok (.lconst 0, 1) := by decide +kernel
theorem dX8_bears_11 : decode cX8_bears 11 = .ok (.ldc2_w 215, 3) := by decide +kernel
theorem dX8_bears_14 : decode cX8_bears 14 = .ok (.invokestatic 95, 3) := by decide +kernel
theorem dX8_bears_17 : decode cX8_bears 17 = .ok (.ifCond .eq 18, 3) := by decide +kernel
theorem dX8_bears_20 : decode cX8_bears 20 = .ok (.aload_n 0, 1) := by decide +kernel
theorem dX8_bears_21 : decode cX8_bears 21 = .ok (.aload_n 0, 1) := by decide +kernel
theorem dX8_bears_22 : decode cX8_bears 22 = .ok (.getfield 29, 3) := by decide +kernel
theorem dX8_bears_25 : decode cX8_bears 25 = .ok (.iload_n 1, 1) := by decide +kernel
theorem dX8_bears_26 : decode cX8_bears 26 = .ok (.iaload, 1) := by decide +kernel
theorem dX8_bears_27 : decode cX8_bears 27 = .ok (.iload_n 1, 1) := by decide +kernel
theorem dX8_bears_28 : decode cX8_bears 28 = .ok (.iload_n 2, 1) := by decide +kernel
theorem dX8_bears_29 : decode cX8_bears 29 = .ok (.invokevirtual 173, 3) := by decide +kernel
theorem dX8_bears_32 : decode cX8_bears 32 = .ok (.goto 4, 3) := by decide +kernel
theorem dX8_bears_35 : decode cX8_bears 35 = .ok (.iconst (-1), 1) := by decide +kernel
theorem dX8_bears_36 : decode cX8_bears 36 = .ok (.ireturn, 1) := by decide +kernel
theorem dX8_remember_0 : decode cX8_remember 0 = .ok (.aload_n 0, 1) := by decide +kernel
theorem dX8_remember_1 : decode cX8_remember 1 = .ok (.getfield 44, 3) := by decide +kernel
theorem dX8_remember_4 : decode cX8_remember 4 = .ok (.iconst 0, 1) := by decide +kernel
theorem dX8_remember_5 : decode cX8_remember 5 = .ok (.aload_n 0, 1) := by decide +kernel
theorem dX8_remember_6 : decode cX8_remember 6 = .ok (.getfield 50, 3) := by decide +kernel
theorem dX8_remember_9 : decode cX8_remember 9 = .ok (.bipush 12, 2) := by decide +kernel
theorem dX8_remember_11 : decode cX8_remember 11 = .ok (.aload_n 0, 1) := by decide +kernel
theorem dX8_remember_12 : decode cX8_remember 12 = .ok (.getfield 117, 3) := by decide +kernel
theorem dX8_remember_15 : decode cX8_remember 15 = .ok (.imul, 1) := by decide +kernel
theorem dX8_remember_16 : decode cX8_remember 16 = .ok (.bipush 12, 2) := by decide +kernel
theorem dX8_remember_18 : decode cX8_remember 18 = .ok (.invokestatic 202, 3) := by decide +kernel
theorem dX8_remember_21 : decode cX8_remember 21 = .ok (.aload_n 0, 1) := by decide +kernel
theorem dX8_remember_22 : decode cX8_remember 22 = .ok (.dup, 1) := by decide +kernel
theorem dX8_remember_23 : decode cX8_remember 23 = .ok (.getfield 117, 3) := by decide +kernel
theorem dX8_remember_26 : decode cX8_remember 26 = .ok (.iconst 1, 1) := by decide +kernel
theorem dX8_remember_27 : decode cX8_remember 27 = .ok (.iadd, 1) := by decide +kernel
theorem dX8_remember_28 : decode cX8_remember 28 = .ok (.putfield 117, 3) := by decide +kernel
theorem dX8_remember_31 : decode cX8_remember 31 = .ok (.return_, 1) := by decide +kernel
theorem dX8_sit_0 : decode cX8_sit 0 = .ok (.aload_n 0, 1) := by decide +kernel
theorem dX8_sit_1 : decode cX8_sit 1 = .ok (.iload_n 1, 1) := by decide +kernel
theorem dX8_sit_2 : decode cX8_sit 2 = .ok (.invokevirtual 209, 3) := by decide +kernel
theorem dX8_sit_5 : decode cX8_sit 5 = .ok (.ifCond .eq 11, 3) := by decide +kernel
theorem dX8_sit_8 : decode cX8_sit 8 = .ok (.aload_n 0, 1) := by decide +kernel
theorem dX8_sit_9 : decode cX8_sit 9 = .ok (.iload_n 2, 1) := by decide +kernel
theorem dX8_sit_10 : decode cX8_sit 10 = .ok (.invokevirtual 206, 3) := by decide +kernel
theorem dX8_sit_13 : decode cX8_sit 13 = .ok (.ifCond .ne 5, 3) := by decide +kernel
theorem dX8_sit_16 : decode cX8_sit 16 = .ok (.iconst (-1), 1) := by decide +kernel
theorem dX8_sit_17 : decode cX8_sit 17 = .ok (.ireturn, 1) := by decide +kernel
theorem dX8_sit_18 : decode cX8_sit 18 = .ok (.aload_n 0, 1) := by decide +kernel
theorem dX8_sit_19 : decode cX8_sit 19 = .ok (.getfield 44, 3) := by decide +kernel
theorem dX8_sit_22 : decode cX8_sit 22 = .ok (.iconst 5, 1) := by decide +kernel
theorem dX8_sit_23 : decode cX8_sit 23 = .ok (.iload_n 1, 1) := by decide +kernel
theorem dX8_sit_24 : decode cX8_sit 24 = .ok (.iadd, 1) := by decide +kernel
theorem dX8_sit_25 : decode cX8_sit 25 = .ok (.iaload, 1) := by decide +kernel
theorem dX8_sit_26 : decode cX8_sit 26 = .ok (.bipush (-9), 2) := by decide +kernel
theorem dX8_sit_28 : decode cX8_sit 28 = .ok (.if_icmp .ne 14, 3) := by decide +kernel
theorem dX8_sit_31 : decode cX8_sit 31 = .ok (.aload_n 0, 1) := by decide +kernel
theorem dX8_sit_32 : decode cX8_sit 32 = .ok (.getfield 44, 3) := by decide +kernel
theorem dX8_sit_35 : decode cX8_sit 35 = .ok (.iload_n 2, 1) := by decide +kernel
theorem dX8_sit_36 : decode cX8_sit 36 = .ok (.invokestatic 192, 3) := by decide +kernel
theorem dX8_sit_39 : decode cX8_sit 39 = .ok (.ifCond .ne 6, 3) := by decide +kernel
theorem dX8_sit_42 : decode cX8_sit 42 = .ok (.bipush (-4), 2) := by decide +kernel
theorem dX8_sit_44 : decode cX8_sit 44 = .ok (.ireturn, 1) := by decide +kernel
theorem dX8_sit_45 : decode cX8_sit 45 = .ok (.aload_n 0, 1) := by decide +kernel
theorem dX8_sit_46 : decode cX8_sit 46 = .ok (.getfield 117, 3) := by decide +kernel
theorem dX8_sit_49 : decode cX8_sit 49 = .ok (.bipush 40, 2) := by decide +kernel
theorem dX8_sit_51 : decode cX8_sit 51 = .ok (.if_icmp .ne 6, 3) := by decide +kernel
theorem dX8_sit_54 : decode cX8_sit 54 = .ok (.bipush (-2), 2) := by decide +kernel
theorem dX8_sit_56 : decode cX8_sit 56 = .ok (.ireturn, 1) := by decide +kernel
theorem dX8_sit_57 : decode cX8_sit 57 = .ok (.aload_n 0, 1) := by decide +kernel
theorem dX8_sit_58 : decode cX8_sit 58 = .ok (.invokevirtual 217, 3) := by decide +kernel
theorem dX8_sit_61 : decode cX8_sit 61 = .ok (.aload_n 0, 1) := by decide +kernel
theorem dX8_sit_62 : decode cX8_sit 62 = .ok (.getfield 44, 3) := by decide +kernel
theorem dX8_sit_65 : decode cX8_sit 65 = .ok (.iconst 5, 1) := by decide +kernel
theorem dX8_sit_66 : decode cX8_sit 66 = .ok (.iload_n 1, 1) := by decide +kernel
theorem dX8_sit_67 : decode cX8_sit 67 = .ok (.iadd, 1) := by decide +kernel
theorem dX8_sit_68 : decode cX8_sit 68 = .ok (.iload_n 2, 1) := by decide +kernel
theorem dX8_sit_69 : decode cX8_sit 69 = .ok (.iastore, 1) := by decide +kernel
theorem dX8_sit_70 : decode cX8_sit 70 = .ok (.aload_n 0, 1) := by decide +kernel
theorem dX8_sit_71 : decode cX8_sit 71 = .ok (.aload_n 0, 1) := by decide +kernel
theorem dX8_sit_72 : decode cX8_sit 72 = .ok (.getfield 44, 3) := by decide +kernel
theorem dX8_sit_75 : decode cX8_sit 75 = .ok (.iload_n 2, 1) := by decide +kernel
theorem dX8_sit_76 : decode cX8_sit 76 = .ok (.invokevirtual 185, 3) := by decide +kernel
theorem dX8_sit_79 : decode cX8_sit 79 = .ok (.ireturn, 1) := by decide +kernel
theorem dX8_down_0 : decode cX8_down 0 = .ok (.aload_n 0, 1) := by decide +kernel
theorem dX8_down_1 : decode cX8_down 1 = .ok (.iload_n 1, 1) := by decide +kernel
theorem dX8_down_2 : decode cX8_down 2 = .ok (.invokevirtual 209, 3) := by decide +kernel
theorem dX8_down_5 : decode cX8_down 5 = .ok (.ifCond .ne 5, 3) := by decide +kernel
theorem dX8_down_8 : decode cX8_down 8 = .ok (.iconst (-1), 1) := by decide +kernel
theorem dX8_down_9 : decode cX8_down 9 = .ok (.ireturn, 1) := by decide +kernel
theorem dX8_down_10 : decode cX8_down 10 = .ok (.aload_n 0, 1) := by decide +kernel
theorem dX8_down_11 : decode cX8_down 11 = .ok (.getfield 44, 3) := by decide +kernel
theorem dX8_down_14 : decode cX8_down 14 = .ok (.iconst 5, 1) := by decide +kernel
theorem dX8_down_15 : decode cX8_down 15 = .ok (.iload_n 1, 1) := by decide +kernel
theorem dX8_down_16 : decode cX8_down 16 = .ok (.iadd, 1) := by decide +kernel
theorem dX8_down_17 : decode cX8_down 17 = .ok (.iaload, 1) := by decide +kernel
theorem dX8_down_18 : decode cX8_down 18 = .ok (.bipush (-9), 2) := by decide +kernel
theorem dX8_down_20 : decode cX8_down 20 = .ok (.if_icmp .ne 6, 3) := by decide +kernel
theorem dX8_down_23 : decode cX8_down 23 = .ok (.bipush (-4), 2) := by decide +kernel
theorem dX8_down_25 : decode cX8_down 25 = .ok (.ireturn, 1) := by decide +kernel
theorem dX8_down_26 : decode cX8_down 26 = .ok (.aload_n 0, 1) := by decide +kernel
theorem dX8_down_27 : decode cX8_down 27 = .ok (.getfield 117, 3) := by decide +kernel
theorem dX8_down_30 : decode cX8_down 30 = .ok (.bipush 40, 2) := by decide +kernel
theorem dX8_down_32 : decode cX8_down 32 = .ok (.if_icmp .ne 6, 3) := by decide +kernel
theorem dX8_down_35 : decode cX8_down 35 = .ok (.bipush (-2), 2) := by decide +kernel
theorem dX8_down_37 : decode cX8_down 37 = .ok (.ireturn, 1) := by decide +kernel
theorem dX8_down_38 : decode cX8_down 38 = .ok (.aload_n 0, 1) := by decide +kernel
theorem dX8_down_39 : decode cX8_down 39 = .ok (.invokevirtual 217, 3) := by decide +kernel
theorem dX8_down_42 : decode cX8_down 42 = .ok (.aload_n 0, 1) := by decide +kernel
theorem dX8_down_43 : decode cX8_down 43 = .ok (.iload_n 1, 1) := by decide +kernel
theorem dX8_down_44 : decode cX8_down 44 = .ok (.aload_n 0, 1) := by decide +kernel
theorem dX8_down_45 : decode cX8_down 45 = .ok (.getfield 44, 3) := by decide +kernel
theorem dX8_down_48 : decode cX8_down 48 = .ok (.iconst 5, 1) := by decide +kernel
theorem dX8_down_49 : decode cX8_down 49 = .ok (.iload_n 1, 1) := by decide +kernel
theorem dX8_down_50 : decode cX8_down 50 = .ok (.iadd, 1) := by decide +kernel
theorem dX8_down_51 : decode cX8_down 51 = .ok (.iaload, 1) := by decide +kernel
theorem dX8_down_52 : decode cX8_down 52 = .ok (.invokevirtual 177, 3) := by decide +kernel
theorem dX8_down_55 : decode cX8_down 55 = .ok (.istore_n 2, 1) := by decide +kernel
theorem dX8_down_56 : decode cX8_down 56 = .ok (.aload_n 0, 1) := by decide +kernel
theorem dX8_down_57 : decode cX8_down 57 = .ok (.getfield 44, 3) := by decide +kernel
theorem dX8_down_60 : decode cX8_down 60 = .ok (.iconst 5, 1) := by decide +kernel
theorem dX8_down_61 : decode cX8_down 61 = .ok (.iload_n 1, 1) := by decide +kernel
theorem dX8_down_62 : decode cX8_down 62 = .ok (.iadd, 1) := by decide +kernel
theorem dX8_down_63 : decode cX8_down 63 = .ok (.bipush (-9), 2) := by decide +kernel
theorem dX8_down_65 : decode cX8_down 65 = .ok (.iastore, 1) := by decide +kernel
theorem dX8_down_66 : decode cX8_down 66 = .ok (.iload_n 2, 1) := by decide +kernel
theorem dX8_down_67 : decode cX8_down 67 = .ok (.ireturn, 1) := by decide +kernel
theorem dX8_lace_0 : decode cX8_lace 0 = .ok (.aload_n 0, 1) := by decide +kernel
theorem dX8_lace_1 : decode cX8_lace 1 = .ok (.iload_n 1, 1) := by decide +kernel
theorem dX8_lace_2 : decode cX8_lace 2 = .ok (.invokevirtual 206, 3) := by decide +kernel
theorem dX8_lace_5 : decode cX8_lace 5 = .ok (.ifCond .ne 5, 3) := by decide +kernel
theorem dX8_lace_8 : decode cX8_lace 8 = .ok (.iconst (-1), 1) := by decide +kernel
theorem dX8_lace_9 : decode cX8_lace 9 = .ok (.ireturn, 1) := by decide +kernel
theorem dX8_lace_10 : decode cX8_lace 10 = .ok (.aload_n 0, 1) := by decide +kernel
theorem dX8_lace_11 : decode cX8_lace 11 = .ok (.getfield 44, 3) := by decide +kernel
theorem dX8_lace_14 : decode cX8_lace 14 = .ok (.iload_n 1, 1) := by decide +kernel
theorem dX8_lace_15 : decode cX8_lace 15 = .ok (.invokestatic 192, 3) := by decide +kernel
theorem dX8_lace_18 : decode cX8_lace 18 = .ok (.ifCond .ne 6, 3) := by decide +kernel
theorem dX8_lace_21 : decode cX8_lace 21 = .ok (.bipush (-4), 2) := by decide +kernel
theorem dX8_lace_23 : decode cX8_lace 23 = .ok (.ireturn, 1) := by decide +kernel
theorem dX8_lace_24 : decode cX8_lace 24 = .ok (.aload_n 0, 1) := by decide +kernel
theorem dX8_lace_25 : decode cX8_lace 25 = .ok (.getfield 117, 3) := by decide +kernel
theorem dX8_lace_28 : decode cX8_lace 28 = .ok (.bipush 40, 2) := by decide +kernel
theorem dX8_lace_30 : decode cX8_lace 30 = .ok (.if_icmp .ne 6, 3) := by decide +kernel
theorem dX8_lace_33 : decode cX8_lace 33 = .ok (.bipush (-2), 2) := by decide +kernel
theorem dX8_lace_35 : decode cX8_lace 35 = .ok (.ireturn, 1) := by decide +kernel
theorem dX8_lace_36 : decode cX8_lace 36 = .ok (.aload_n 0, 1) := by decide +kernel
theorem dX8_lace_37 : decode cX8_lace 37 = .ok (.invokevirtual 217, 3) := by decide +kernel
theorem dX8_lace_40 : decode cX8_lace 40 = .ok (.aload_n 0, 1) := by decide +kernel
theorem dX8_lace_41 : decode cX8_lace 41 = .ok (.getfield 44, 3) := by decide +kernel
theorem dX8_lace_44 : decode cX8_lace 44 = .ok (.iconst 0, 1) := by decide +kernel
theorem dX8_lace_45 : decode cX8_lace 45 = .ok (.iload_n 1, 1) := by decide +kernel
theorem dX8_lace_46 : decode cX8_lace 46 = .ok (.iadd, 1) := by decide +kernel
theorem dX8_lace_47 : decode cX8_lace 47 = .ok (.iaload, 1) := by decide +kernel
theorem dX8_lace_48 : decode cX8_lace 48 = .ok (.istore_n 2, 1) := by decide +kernel
theorem dX8_lace_49 : decode cX8_lace 49 = .ok (.aload_n 0, 1) := by decide +kernel
theorem dX8_lace_50 : decode cX8_lace 50 = .ok (.getfield 44, 3) := by decide +kernel
theorem dX8_lace_53 : decode cX8_lace 53 = .ok (.iconst 0, 1) := by decide +kernel
theorem dX8_lace_54 : decode cX8_lace 54 = .ok (.iload_n 1, 1) := by decide +kernel
theorem dX8_lace_55 : decode cX8_lace 55 = .ok (.iadd, 1) := by decide +kernel
theorem dX8_lace_56 : decode cX8_lace 56 = .ok (.iconst 0, 1) := by decide +kernel
theorem dX8_lace_57 : decode cX8_lace 57 = .ok (.iastore, 1) := by decide +kernel
theorem dX8_lace_58 : decode cX8_lace 58 = .ok (.iload_n 2, 1) := by decide +kernel
theorem dX8_lace_59 : decode cX8_lace 59 = .ok (.ireturn, 1) := by decide +kernel
theorem dX8_refuses_0 : decode cX8_refuses 0 = .ok (.aload_n 0, 1) := by decide +kernel
theorem dX8_refuses_1 : decode cX8_refuses 1 = .ok (.getfield 163, 3) := by decide +kernel
theorem dX8_refuses_4 : decode cX8_refuses 4 = .ok (.ifCond .ne 8, 3) := by decide +kernel
theorem dX8_refuses_7 : decode cX8_refuses 7 = .ok (.bipush (-4), 2) := by decide +kernel
theorem dX8_refuses_9 : decode cX8_refuses 9 = .ok (.goto 20, 3) := by decide +kernel
theorem dX8_refuses_12 : decode cX8_refuses 12 = .ok (.aload_n 0, 1) := by decide +kernel
theorem dX8_refuses_13 : decode cX8_refuses 13 = .ok (.getfield 117, 3) := by decide +kernel
theorem dX8_refuses_16 : decode cX8_refuses 16 = .ok (.iload_n 1, 1) := by decide +kernel
theorem dX8_refuses_17 : decode cX8_refuses 17 = .ok (.iadd, 1) := by decide +kernel
theorem dX8_refuses_18 : decode cX8_refuses 18 = .ok (.bipush 40, 2) := by decide +kernel
theorem dX8_refuses_20 : decode cX8_refuses 20 = .ok (.if_icmp .le 8, 3) := by decide +kernel
theorem dX8_refuses_23 : decode cX8_refuses 23 = .ok (.bipush (-2), 2) := by decide +kernel
theorem dX8_refuses_25 : decode cX8_refuses 25 = .ok (.goto 4, 3) := by decide +kernel
theorem dX8_refuses_28 : decode cX8_refuses 28 = .ok (.iconst 0, 1) := by decide +kernel
theorem dX8_refuses_29 : decode cX8_refuses 29 = .ok (.ireturn, 1) := by decide +kernel
theorem dX8_stone_0 : decode cX8_stone 0 = .ok (.aload_n 0, 1) := by decide +kernel
theorem dX8_stone_1 : decode cX8_stone 1 = .ok (.iconst 1, 1) := by decide +kernel
theorem dX8_stone_2 : decode cX8_stone 2 = .ok (.invokevirtual 220, 3) := by decide +kernel
theorem dX8_stone_5 : decode cX8_stone 5 = .ok (.istore_n 1, 1) := by decide +kernel
theorem dX8_stone_6 : decode cX8_stone 6 = .ok (.iload_n 1, 1) := by decide +kernel
theorem dX8_stone_7 : decode cX8_stone 7 = .ok (.ifCond .eq 5, 3) := by decide +kernel
theorem dX8_stone_10 : decode cX8_stone 10 = .ok (.iload_n 1, 1) := by decide +kernel
theorem dX8_stone_11 : decode cX8_stone 11 = .ok (.ireturn, 1) := by decide +kernel
theorem dX8_stone_12 : decode cX8_stone 12 = .ok (.aload_n 0, 1) := by decide +kernel
theorem dX8_stone_13 : decode cX8_stone 13 = .ok (.invokevirtual 217, 3) := by decide +kernel
theorem dX8_stone_16 : decode cX8_stone 16 = .ok (.aload_n 0, 1) := by decide +kernel
theorem dX8_stone_17 : decode cX8_stone 17 = .ok (.getfield 44, 3) := by decide +kernel
theorem dX8_stone_20 : decode cX8_stone 20 = .ok (.bipush 11, 2) := by decide +kernel
theorem dX8_stone_22 : decode cX8_stone 22 = .ok (.dup2, 1) := by decide +kernel
theorem dX8_stone_23 : decode cX8_stone 23 = .ok (.iaload, 1) := by decide +kernel
theorem dX8_stone_24 : decode cX8_stone 24 = .ok (.iconst 1, 1) := by decide +kernel
theorem dX8_stone_25 : decode cX8_stone 25 = .ok (.iadd, 1) := by decide +kernel
theorem dX8_stone_26 : decode cX8_stone 26 = .ok (.iastore, 1) := by decide +kernel
theorem dX8_stone_27 : decode cX8_stone 27 = .ok (.aload_n 0, 1) := by decide +kernel
theorem dX8_stone_28 : decode cX8_stone 28 = .ok (.getfield 44, 3) := by decide +kernel
theorem dX8_stone_31 : decode cX8_stone 31 = .ok (.bipush 11, 2) := by decide +kernel
theorem dX8_stone_33 : decode cX8_stone 33 = .ok (.iaload, 1) := by decide +kernel
theorem dX8_stone_34 : decode cX8_stone 34 = .ok (.ireturn, 1) := by decide +kernel
theorem dX8_year_0 : decode cX8_year 0 = .ok (.aload_n 0, 1) := by decide +kernel
theorem dX8_year_1 : decode cX8_year 1 = .ok (.iconst 1, 1) := by decide +kernel
theorem dX8_year_2 : decode cX8_year 2 = .ok (.invokevirtual 220, 3) := by decide +kernel
theorem dX8_year_5 : decode cX8_year 5 = .ok (.istore_n 1, 1) := by decide +kernel
theorem dX8_year_6 : decode cX8_year 6 = .ok (.iload_n 1, 1) := by decide +kernel
theorem dX8_year_7 : decode cX8_year 7 = .ok (.ifCond .eq 5, 3) := by decide +kernel
theorem dX8_year_10 : decode cX8_year 10 = .ok (.iload_n 1, 1) := by decide +kernel
theorem dX8_year_11 : decode cX8_year 11 = .ok (.ireturn, 1) := by decide +kernel
theorem dX8_year_12 : decode cX8_year 12 = .ok (.aload_n 0, 1) := by decide +kernel
theorem dX8_year_13 : decode cX8_year 13 = .ok (.invokevirtual 217, 3) := by decide +kernel
theorem dX8_year_16 : decode cX8_year 16 = .ok (.aload_n 0, 1) := by decide +kernel
theorem dX8_year_17 : decode cX8_year 17 = .ok (.aload_n 0, 1) := by decide +kernel
theorem dX8_year_18 : decode cX8_year 18 = .ok (.getfield 44, 3) := by decide +kernel
theorem dX8_year_21 : decode cX8_year 21 = .ok (.invokevirtual 223, 3) := by decide +kernel
theorem dX8_year_24 : decode cX8_year 24 = .ok (.ireturn, 1) := by decide +kernel
theorem dX8_undo_0 : decode cX8_undo 0 = .ok (.iload_n 1, 1) := by decide +kernel
theorem dX8_undo_1 : decode cX8_undo 1 = .ok (.i2l, 1) := by decide +kernel
theorem dX8_undo_2 : decode cX8_undo 2 = .ok (.lconst 0, 1) := by decide +kernel
theorem dX8_undo_3 : decode cX8_undo 3 = .ok (.aload_n 0, 1) := by decide +kernel
theorem dX8_undo_4 : decode cX8_undo 4 = .ok (.getfield 117, 3) := by decide +kernel
theorem dX8_undo_7 : decode cX8_undo 7 = .ok (.i2l, 1) := by decide +kernel
theorem dX8_undo_8 : decode cX8_undo 8 = .ok (.invokestatic 95, 3) := by decide +kernel
theorem dX8_undo_11 : decode cX8_undo 11 = .ok (.ifCond .ne 5, 3) := by decide +kernel
theorem dX8_undo_14 : decode cX8_undo 14 = .ok (.iconst (-1), 1) := by decide +kernel
theorem dX8_undo_15 : decode cX8_undo 15 = .ok (.ireturn, 1) := by decide +kernel
theorem dX8_undo_16 : decode cX8_undo 16 = .ok (.aload_n 0, 1) := by decide +kernel
theorem dX8_undo_17 : decode cX8_undo 17 = .ok (.getfield 117, 3) := by decide +kernel
theorem dX8_undo_20 : decode cX8_undo 20 = .ok (.iload_n 1, 1) := by decide +kernel
theorem dX8_undo_21 : decode cX8_undo 21 = .ok (.isub, 1) := by decide +kernel
theorem dX8_undo_22 : decode cX8_undo 22 = .ok (.istore_n 2, 1) := by decide +kernel
theorem dX8_undo_23 : decode cX8_undo 23 = .ok (.iload_n 2, 1) := by decide +kernel
theorem dX8_undo_24 : decode cX8_undo 24 = .ok (.ifCond .le 21, 3) := by decide +kernel
theorem dX8_undo_27 : decode cX8_undo 27 = .ok (.aload_n 0, 1) := by decide +kernel
theorem dX8_undo_28 : decode cX8_undo 28 = .ok (.getfield 50, 3) := by decide +kernel
theorem dX8_undo_31 : decode cX8_undo 31 = .ok (.bipush 12, 2) := by decide +kernel
theorem dX8_undo_33 : decode cX8_undo 33 = .ok (.iload_n 1, 1) := by decide +kernel
theorem dX8_undo_34 : decode cX8_undo 34 = .ok (.imul, 1) := by decide +kernel
theorem dX8_undo_35 : decode cX8_undo 35 = .ok (.aload_n 0, 1) := by decide +kernel
theorem dX8_undo_36 : decode cX8_undo 36 = .ok (.getfield 44, 3) := by decide +kernel
theorem dX8_undo_39 : decode cX8_undo 39 = .ok (.iconst 0, 1) := by decide +kernel
theorem dX8_undo_40 : decode cX8_undo 40 = .ok (.bipush 12, 2) := by decide +kernel
theorem dX8_undo_42 : decode cX8_undo 42 = .ok (.invokestatic 202, 3) := by decide +kernel
theorem dX8_undo_45 : decode cX8_undo 45 = .ok (.aload_n 0, 1) := by decide +kernel
theorem dX8_undo_46 : decode cX8_undo 46 = .ok (.iload_n 1, 1) := by decide +kernel
theorem dX8_undo_47 : decode cX8_undo 47 = .ok (.putfield 117, 3) := by decide +kernel
theorem dX8_undo_50 : decode cX8_undo 50 = .ok (.iload_n 2, 1) := by decide +kernel
theorem dX8_undo_51 : decode cX8_undo 51 = .ok (.ireturn, 1) := by decide +kernel
theorem dX8_keep_0 : decode cX8_keep 0 = .ok (.iload_n 1, 1) := by decide +kernel
theorem dX8_keep_1 : decode cX8_keep 1 = .ok (.i2l, 1) := by decide +kernel
theorem dX8_keep_2 : decode cX8_keep 2 = .ok (.lconst 0, 1) := by decide +kernel
theorem dX8_keep_3 : decode cX8_keep 3 = .ok (.ldc2_w 227, 3) := by decide +kernel
theorem dX8_keep_6 : decode cX8_keep 6 = .ok (.invokestatic 95, 3) := by decide +kernel
theorem dX8_keep_9 : decode cX8_keep 9 = .ok (.ifCond .ne 5, 3) := by decide +kernel
theorem dX8_keep_12 : decode cX8_keep 12 = .ok (.iconst (-1), 1) := by decide +kernel
theorem dX8_keep_13 : decode cX8_keep 13 = .ok (.ireturn, 1) := by decide +kernel
theorem dX8_keep_14 : decode cX8_keep 14 = .ok (.aload_n 0, 1) := by decide +kernel
theorem dX8_keep_15 : decode cX8_keep 15 = .ok (.getfield 163, 3) := by decide +kernel
theorem dX8_keep_18 : decode cX8_keep 18 = .ok (.ifCond .ne 6, 3) := by decide +kernel
theorem dX8_keep_21 : decode cX8_keep 21 = .ok (.bipush (-4), 2) := by decide +kernel
theorem dX8_keep_23 : decode cX8_keep 23 = .ok (.ireturn, 1) := by decide +kernel
theorem dX8_keep_24 : decode cX8_keep 24 = .ok (.aload_n 0, 1) := by decide +kernel
theorem dX8_keep_25 : decode cX8_keep 25 = .ok (.getfield 53, 3) := by decide +kernel
theorem dX8_keep_28 : decode cX8_keep 28 = .ok (.sipush 493, 3) := by decide +kernel
theorem dX8_keep_31 : decode cX8_keep 31 = .ok (.iload_n 1, 1) := by decide +kernel
theorem dX8_keep_32 : decode cX8_keep 32 = .ok (.imul, 1) := by decide +kernel
theorem dX8_keep_33 : decode cX8_keep 33 = .ok (.aload_n 0, 1) := by decide +kernel
theorem dX8_keep_34 : decode cX8_keep 34 = .ok (.getfield 117, 3) := by decide +kernel
theorem dX8_keep_37 : decode cX8_keep 37 = .ok (.iastore, 1) := by decide +kernel
theorem dX8_keep_38 : decode cX8_keep 38 = .ok (.aload_n 0, 1) := by decide +kernel
theorem dX8_keep_39 : decode cX8_keep 39 = .ok (.getfield 44, 3) := by decide +kernel
theorem dX8_keep_42 : decode cX8_keep 42 = .ok (.iconst 0, 1) := by decide +kernel
theorem dX8_keep_43 : decode cX8_keep 43 = .ok (.aload_n 0, 1) := by decide +kernel
theorem dX8_keep_44 : decode cX8_keep 44 = .ok (.getfield 53, 3) := by decide +kernel
theorem dX8_keep_47 : decode cX8_keep 47 = .ok (.sipush 493, 3) := by decide +kernel
theorem dX8_keep_50 : decode cX8_keep 50 = .ok (.iload_n 1, 1) := by decide +kernel
theorem dX8_keep_51 : decode cX8_keep 51 = .ok (.imul, 1) := by decide +kernel
theorem dX8_keep_52 : decode cX8_keep 52 = .ok (.iconst 1, 1) := by decide +kernel
theorem dX8_keep_53 : decode cX8_keep 53 = .ok (.iadd, 1) := by decide +kernel
theorem dX8_keep_54 : decode cX8_keep 54 = .ok (.bipush 12, 2) := by decide +kernel
theorem dX8_keep_56 : decode cX8_keep 56 = .ok (.invokestatic 202, 3) := by decide +kernel
theorem dX8_keep_59 : decode cX8_keep 59 = .ok (.aload_n 0, 1) := by decide +kernel
theorem dX8_keep_60 : decode cX8_keep 60 = .ok (.getfield 50, 3) := by decide +kernel
theorem dX8_keep_63 : decode cX8_keep 63 = .ok (.iconst 0, 1) := by decide +kernel
theorem dX8_keep_64 : decode cX8_keep 64 = .ok (.aload_n 0, 1) := by decide +kernel
theorem dX8_keep_65 : decode cX8_keep 65 = .ok (.getfield 53, 3) := by decide +kernel
theorem dX8_keep_68 : decode cX8_keep 68 = .ok (.sipush 493, 3) := by decide +kernel
theorem dX8_keep_71 : decode cX8_keep 71 = .ok (.iload_n 1, 1) := by decide +kernel
theorem dX8_keep_72 : decode cX8_keep 72 = .ok (.imul, 1) := by decide +kernel
theorem dX8_keep_73 : decode cX8_keep 73 = .ok (.iconst 1, 1) := by decide +kernel
theorem dX8_keep_74 : decode cX8_keep 74 = .ok (.iadd, 1) := by decide +kernel
theorem dX8_keep_75 : decode cX8_keep 75 = .ok (.bipush 12, 2) := by decide +kernel
theorem dX8_keep_77 : decode cX8_keep 77 = .ok (.iadd, 1) := by decide +kernel
theorem dX8_keep_78 : decode cX8_keep 78 = .ok (.sipush 480, 3) := by decide +kernel
theorem dX8_keep_81 : decode cX8_keep 81 = .ok (.invokestatic 202, 3) := by decide +kernel
theorem dX8_keep_84 : decode cX8_keep 84 = .ok (.aload_n 0, 1) := by decide +kernel
theorem dX8_keep_85 : decode cX8_keep 85 = .ok (.getfield 117, 3) := by decide +kernel
theorem dX8_keep_88 : decode cX8_keep 88 = .ok (.ireturn, 1) := by decide +kernel
theorem dX8_on_0 : decode cX8_on 0 = .ok (.iload_n 1, 1) := by decide +kernel
theorem dX8_on_1 : decode cX8_on 1 = .ok (.i2l, 1) := by decide +kernel
theorem dX8_on_2 : decode cX8_on 2 = .ok (.lconst 0, 1) := by decide +kernel
theorem dX8_on_3 : decode cX8_on 3 = .ok (.ldc2_w 227, 3) := by decide +kernel
theorem dX8_on_6 : decode cX8_on 6 = .ok (.invokestatic 95, 3) := by decide +kernel
theorem dX8_on_9 : decode cX8_on 9 = .ok (.ifCond .ne 5, 3) := by decide +kernel
theorem dX8_on_12 : decode cX8_on 12 = .ok (.iconst (-1), 1) := by decide +kernel
theorem dX8_on_13 : decode cX8_on 13 = .ok (.ireturn, 1) := by decide +kernel
theorem dX8_on_14 : decode cX8_on 14 = .ok (.aload_n 0, 1) := by decide +kernel
theorem dX8_on_15 : decode cX8_on 15 = .ok (.getfield 53, 3) := by decide +kernel
theorem dX8_on_18 : decode cX8_on 18 = .ok (.sipush 493, 3) := by decide +kernel
theorem dX8_on_21 : decode cX8_on 21 = .ok (.iload_n 1, 1) := by decide +kernel
theorem dX8_on_22 : decode cX8_on 22 = .ok (.imul, 1) := by decide +kernel
theorem dX8_on_23 : decode cX8_on 23 = .ok (.iaload, 1) := by decide +kernel
theorem dX8_on_24 : decode cX8_on 24 = .ok (.ifCond .ge 9, 3) := by decide +kernel
theorem dX8_on_27 : decode cX8_on 27 = .ok (.aload_n 0, 1) := by decide +kernel
theorem dX8_on_28 : decode cX8_on 28 = .ok (.iconst 1, 1) := by decide +kernel
theorem dX8_on_29 : decode cX8_on 29 = .ok (.invokevirtual 105, 3) := by decide +kernel
theorem dX8_on_32 : decode cX8_on 32 = .ok (.ireturn, 1) := by decide +kernel
theorem dX8_on_33 : decode cX8_on 33 = .ok (.aload_n 0, 1) := by decide +kernel
theorem dX8_on_34 : decode cX8_on 34 = .ok (.aload_n 0, 1) := by decide +kernel
theorem dX8_on_35 : decode cX8_on 35 = .ok (.getfield 53, 3) := by decide +kernel
theorem dX8_on_38 : decode cX8_on 38 = .ok (.sipush 493, 3) := by decide +kernel
theorem dX8_on_41 : decode cX8_on 41 = .ok (.iload_n 1, 1) := by decide +kernel
theorem dX8_on_42 : decode cX8_on 42 = .ok (.imul, 1) := by decide +kernel
theorem dX8_on_43 : decode cX8_on 43 = .ok (.iaload, 1) := by decide +kernel
theorem dX8_on_44 : decode cX8_on 44 = .ok (.putfield 117, 3) := by decide +kernel
theorem dX8_on_47 : decode cX8_on 47 = .ok (.aload_n 0, 1) := by decide +kernel
theorem dX8_on_48 : decode cX8_on 48 = .ok (.getfield 53, 3) := by decide +kernel
theorem dX8_on_51 : decode cX8_on 51 = .ok (.sipush 493, 3) := by decide +kernel
theorem dX8_on_54 : decode cX8_on 54 = .ok (.iload_n 1, 1) := by decide +kernel
theorem dX8_on_55 : decode cX8_on 55 = .ok (.imul, 1) := by decide +kernel
theorem dX8_on_56 : decode cX8_on 56 = .ok (.iconst 1, 1) := by decide +kernel
theorem dX8_on_57 : decode cX8_on 57 = .ok (.iadd, 1) := by decide +kernel
theorem dX8_on_58 : decode cX8_on 58 = .ok (.aload_n 0, 1) := by decide +kernel
theorem dX8_on_59 : decode cX8_on 59 = .ok (.getfield 44, 3) := by decide +kernel
theorem dX8_on_62 : decode cX8_on 62 = .ok (.iconst 0, 1) := by decide +kernel
theorem dX8_on_63 : decode cX8_on 63 = .ok (.bipush 12, 2) := by decide +kernel
theorem dX8_on_65 : decode cX8_on 65 = .ok (.invokestatic 202, 3) := by decide +kernel
theorem dX8_on_68 : decode cX8_on 68 = .ok (.aload_n 0, 1) := by decide +kernel
theorem dX8_on_69 : decode cX8_on 69 = .ok (.getfield 53, 3) := by decide +kernel
theorem dX8_on_72 : decode cX8_on 72 = .ok (.sipush 493, 3) := by decide +kernel
theorem dX8_on_75 : decode cX8_on 75 = .ok (.iload_n 1, 1) := by decide +kernel
theorem dX8_on_76 : decode cX8_on 76 = .ok (.imul, 1) := by decide +kernel
theorem dX8_on_77 : decode cX8_on 77 = .ok (.iconst 1, 1) := by decide +kernel
theorem dX8_on_78 : decode cX8_on 78 = .ok (.iadd, 1) := by decide +kernel
theorem dX8_on_79 : decode cX8_on 79 = .ok (.bipush 12, 2) := by decide +kernel
theorem dX8_on_81 : decode cX8_on 81 = .ok (.iadd, 1) := by decide +kernel
theorem dX8_on_82 : decode cX8_on 82 = .ok (.aload_n 0, 1) := by decide +kernel
theorem dX8_on_83 : decode cX8_on 83 = .ok (.getfield 50, 3) := by decide +kernel
theorem dX8_on_86 : decode cX8_on 86 = .ok (.iconst 0, 1) := by decide +kernel
theorem dX8_on_87 : decode cX8_on 87 = .ok (.sipush 480, 3) := by decide +kernel
theorem dX8_on_90 : decode cX8_on 90 = .ok (.invokestatic 202, 3) := by decide +kernel
theorem dX8_on_93 : decode cX8_on 93 = .ok (.aload_n 0, 1) := by decide +kernel
theorem dX8_on_94 : decode cX8_on 94 = .ok (.getfield 117, 3) := by decide +kernel
theorem dX8_on_97 : decode cX8_on 97 = .ok (.ireturn, 1) := by decide +kernel
theorem dX8_holds_0 : decode cX8_holds 0 = .ok (.aload_n 0, 1) := by decide +kernel
theorem dX8_holds_1 : decode cX8_holds 1 = .ok (.getfield 163, 3) := by decide +kernel
theorem dX8_holds_4 : decode cX8_holds 4 = .ok (.ifCond .ne 6, 3) := by decide +kernel
theorem dX8_holds_7 : decode cX8_holds 7 = .ok (.bipush (-4), 2) := by decide +kernel
theorem dX8_holds_9 : decode cX8_holds 9 = .ok (.ireturn, 1) := by decide +kernel
theorem dX8_holds_10 : decode cX8_holds 10 = .ok (.iconst 0, 1) := by decide +kernel
theorem dX8_holds_11 : decode cX8_holds 11 = .ok (.istore_n 1, 1) := by decide +kernel
theorem dX8_holds_12 : decode cX8_holds 12 = .ok (.iconst 0, 1) := by decide +kernel
theorem dX8_holds_13 : decode cX8_holds 13 = .ok (.istore_n 2, 1) := by decide +kernel
theorem dX8_holds_14 : decode cX8_holds 14 = .ok (.iconst 0, 1) := by decide +kernel
theorem dX8_holds_15 : decode cX8_holds 15 = .ok (.istore_n 3, 1) := by decide +kernel
theorem dX8_holds_16 : decode cX8_holds 16 = .ok (.iload_n 3, 1) := by decide +kernel
theorem dX8_holds_17 : decode cX8_holds 17 = .ok (.aload_n 0, 1) := by decide +kernel
theorem dX8_holds_18 : decode cX8_holds 18 = .ok (.getfield 163, 3) := by decide +kernel
theorem dX8_holds_21 : decode cX8_holds 21 = .ok (.if_icmp .ge 77, 3) := by decide +kernel
theorem dX8_holds_24 : decode cX8_holds 24 = .ok (.aload_n 0, 1) := by decide +kernel
theorem dX8_holds_25 : decode cX8_holds 25 = .ok (.getfield 44, 3) := by decide +kernel
theorem dX8_holds_28 : decode cX8_holds 28 = .ok (.iload_n 3, 1) := by decide +kernel
theorem dX8_holds_29 : decode cX8_holds 29 = .ok (.invokestatic 192, 3) := by decide +kernel
theorem dX8_holds_32 : decode cX8_holds 32 = .ok (.ifCond .eq 60, 3) := by decide +kernel
theorem dX8_holds_35 : decode cX8_holds 35 = .ok (.aload_n 0, 1) := by decide +kernel
theorem dX8_holds_36 : decode cX8_holds 36 = .ok (.aload_n 0, 1) := by decide +kernel
theorem dX8_holds_37 : decode cX8_holds 37 = .ok (.getfield 44, 3) := by decide +kernel
theorem dX8_holds_40 : decode cX8_holds 40 = .ok (.iload_n 3, 1) := by decide +kernel
theorem dX8_holds_41 : decode cX8_holds 41 = .ok (.invokevirtual 196, 3) := by decide +kernel
theorem dX8_holds_44 : decode cX8_holds 44 = .ok (.istore 4, 2) := by decide +kernel
theorem dX8_holds_46 : decode cX8_holds 46 = .ok (.iload_n 1, 1) := by decide +kernel
theorem dX8_holds_47 : decode cX8_holds 47 = .ok (.iload 4, 2) := by decide +kernel
theorem dX8_holds_49 : decode cX8_holds 49 = .ok (.ifCond .eq 9, 3) := by decide +kernel
theorem dX8_holds_52 : decode cX8_holds 52 = .ok (.iconst 1, 1) := by decide +kernel
theorem dX8_holds_53 : decode cX8_holds 53 = .ok (.iload_n 3, 1) := by decide +kernel
theorem dX8_holds_54 : decode cX8_holds 54 = .ok (.ishl, 1) := by decide +kernel
theorem dX8_holds_55 : decode cX8_holds 55 = .ok (.goto 4, 3) := by decide +kernel
theorem dX8_holds_58 : decode cX8_holds 58 = .ok (.iconst 0, 1) := by decide +kernel
theorem dX8_holds_59 : decode cX8_holds 59 = .ok (.ior, 1) := by decide +kernel
theorem dX8_holds_60 : decode cX8_holds 60 = .ok (.istore_n 1, 1) := by decide +kernel
theorem dX8_holds_61 : decode cX8_holds 61 = .ok (.iload_n 2, 1) := by decide +kernel
theorem dX8_holds_62 : decode cX8_holds 62 = .ok (.iload 4, 2) := by decide +kernel
theorem dX8_holds_64 : decode cX8_holds 64 = .ok (.ifCond .eq 7, 3) := by decide +kernel
theorem dX8_holds_67 : decode cX8_holds 67 = .ok (.iconst 0, 1) := by decide +kernel
theorem dX8_holds_68 : decode cX8_holds 68 = .ok (.goto 22, 3) := by decide +kernel
theorem dX8_holds_71 : decode cX8_holds 71 = .ok (.aload_n 0, 1) := by decide +kernel
theorem dX8_holds_72 : decode cX8_holds 72 = .ok (.aload_n 0, 1) := by decide +kernel
theorem dX8_holds_73 : decode cX8_holds 73 = .ok (.getfield 44, 3) := by decide +kernel
theorem dX8_holds_76 : decode cX8_holds 76 = .ok (.iload_n 3, 1) := by decide +kernel
theorem dX8_holds_77 : decode cX8_holds 77 = .ok (.invokevirtual 185, 3) := by decide +kernel
theorem dX8_holds_80 : decode cX8_holds 80 = .ok (.aload_n 0, 1) := by decide +kernel
theorem dX8_holds_81 : decode cX8_holds 81 = .ok (.aload_n 0, 1) := by decide +kernel
theorem dX8_holds_82 : decode cX8_holds 82 = .ok (.getfield 44, 3) := by decide +kernel
theorem dX8_holds_85 : decode cX8_holds 85 = .ok (.iload_n 3, 1) := by decide +kernel
theorem dX8_holds_86 : decode cX8_holds 86 = .ok (.invokevirtual 189, 3) := by decide +kernel
theorem dX8_holds_89 : decode cX8_holds 89 = .ok (.isub, 1) := by decide +kernel
theorem dX8_holds_90 : decode cX8_holds 90 = .ok (.iadd, 1) := by decide +kernel
theorem dX8_holds_91 : decode cX8_holds 91 = .ok (.istore_n 2, 1) := by decide +kernel
theorem dX8_holds_92 : decode cX8_holds 92 = .ok (.iinc 3 1, 3) := by decide +kernel
theorem dX8_holds_95 : decode cX8_holds 95 = .ok (.goto (-79), 3) := by decide +kernel
theorem dX8_holds_98 : decode cX8_holds 98 = .ok (.aload_n 0, 1) := by decide +kernel
theorem dX8_holds_99 : decode cX8_holds 99 = .ok (.iload_n 1, 1) := by decide +kernel
theorem dX8_holds_100 : decode cX8_holds 100 = .ok (.iload_n 2, 1) := by decide +kernel
theorem dX8_holds_101 : decode cX8_holds 101 = .ok (.invokevirtual 229, 3) := by decide +kernel
theorem dX8_holds_104 : decode cX8_holds 104 = .ok (.ireturn, 1) := by decide +kernel
theorem dX8_gives_0 : decode cX8_gives 0 = .ok (.aload_n 0, 1) := by decide +kernel
theorem dX8_gives_1 : decode cX8_gives 1 = .ok (.iload_n 1, 1) := by decide +kernel
theorem dX8_gives_2 : decode cX8_gives 2 = .ok (.invokevirtual 206, 3) := by decide +kernel
theorem dX8_gives_5 : decode cX8_gives 5 = .ok (.ifCond .ne 5, 3) := by decide +kernel
theorem dX8_gives_8 : decode cX8_gives 8 = .ok (.iconst (-1), 1) := by decide +kernel
theorem dX8_gives_9 : decode cX8_gives 9 = .ok (.ireturn, 1) := by decide +kernel
theorem dX8_gives_10 : decode cX8_gives 10 = .ok (.aload_n 0, 1) := by decide +kernel
theorem dX8_gives_11 : decode cX8_gives 11 = .ok (.invokevirtual 232, 3) := by decide +kernel
theorem dX8_gives_14 : decode cX8_gives 14 = .ok (.iconst 1, 1) := by decide +kernel
theorem dX8_gives_15 : decode cX8_gives 15 = .ok (.istore_n 2, 1) := by decide +kernel
theorem dX8_gives_16 : decode cX8_gives 16 = .ok (.iload_n 2, 1) := by decide +kernel
theorem dX8_gives_17 : decode cX8_gives 17 = .ok (.bipush 41, 2) := by decide +kernel
theorem dX8_gives_19 : decode cX8_gives 19 = .ok (.if_icmp .ge 26, 3) := by decide +kernel
theorem dX8_gives_22 : decode cX8_gives 22 = .ok (.aload_n 0, 1) := by decide +kernel
theorem dX8_gives_23 : decode cX8_gives 23 = .ok (.aload_n 0, 1) := by decide +kernel
theorem dX8_gives_24 : decode cX8_gives 24 = .ok (.getfield 47, 3) := by decide +kernel
theorem dX8_gives_27 : decode cX8_gives 27 = .ok (.invokevirtual 223, 3) := by decide +kernel
theorem dX8_gives_30 : decode cX8_gives 30 = .ok (.iload_n 1, 1) := by decide +kernel
theorem dX8_gives_31 : decode cX8_gives 31 = .ok (.invokestatic 181, 3) := by decide +kernel
theorem dX8_gives_34 : decode cX8_gives 34 = .ok (.ifCond .eq 5, 3) := by decide +kernel
theorem dX8_gives_37 : decode cX8_gives 37 = .ok (.iload_n 2, 1) := by decide +kernel
theorem dX8_gives_38 : decode cX8_gives 38 = .ok (.ireturn, 1) := by decide +kernel
theorem dX8_gives_39 : decode cX8_gives 39 = .ok (.iinc 2 1, 3) := by decide +kernel
theorem dX8_gives_42 : decode cX8_gives 42 = .ok (.goto (-26), 3) := by decide +kernel
theorem dX8_gives_45 : decode cX8_gives 45 = .ok (.bipush (-9), 2) := by decide +kernel
theorem dX8_gives_47 : decode cX8_gives 47 = .ok (.ireturn, 1) := by decide +kernel
theorem dX8_later_0 : decode cX8_later 0 = .ok (.iload_n 1, 1) := by decide +kernel
theorem dX8_later_1 : decode cX8_later 1 = .ok (.i2l, 1) := by decide +kernel
theorem dX8_later_2 : decode cX8_later 2 = .ok (.lconst 0, 1) := by decide +kernel
theorem dX8_later_3 : decode cX8_later 3 = .ok (.ldc2_w 235, 3) := by decide +kernel
theorem dX8_later_6 : decode cX8_later 6 = .ok (.invokestatic 95, 3) := by decide +kernel
theorem dX8_later_9 : decode cX8_later 9 = .ok (.ifCond .ne 5, 3) := by decide +kernel
theorem dX8_later_12 : decode cX8_later 12 = .ok (.iconst (-1), 1) := by decide +kernel
theorem dX8_later_13 : decode cX8_later 13 = .ok (.ireturn, 1) := by decide +kernel
theorem dX8_later_14 : decode cX8_later 14 = .ok (.aload_n 0, 1) := by decide +kernel
theorem dX8_later_15 : decode cX8_later 15 = .ok (.getfield 163, 3) := by decide +kernel
theorem dX8_later_18 : decode cX8_later 18 = .ok (.ifCond .ne 6, 3) := by decide +kernel
theorem dX8_later_21 : decode cX8_later 21 = .ok (.bipush (-4), 2) := by decide +kernel
theorem dX8_later_23 : decode cX8_later 23 = .ok (.ireturn, 1) := by decide +kernel
theorem dX8_later_24 : decode cX8_later 24 = .ok (.aload_n 0, 1) := by decide +kernel
theorem dX8_later_25 : decode cX8_later 25 = .ok (.invokevirtual 232, 3) := by decide +kernel
theorem dX8_later_28 : decode cX8_later 28 = .ok (.iconst 0, 1) := by decide +kernel
theorem dX8_later_29 : decode cX8_later 29 = .ok (.istore_n 2, 1) := by decide +kernel
theorem dX8_later_30 : decode cX8_later 30 = .ok (.iload_n 2, 1) := by decide +kernel
theorem dX8_later_31 : decode cX8_later 31 = .ok (.iload_n 1, 1) := by decide +kernel
theorem dX8_later_32 : decode cX8_later 32 = .ok (.if_icmp .ge 18, 3) := by decide +kernel
theorem dX8_later_35 : decode cX8_later 35 = .ok (.aload_n 0, 1) := by decide +kernel
theorem dX8_later_36 : decode cX8_later 36 = .ok (.aload_n 0, 1) := by decide +kernel
theorem dX8_later_37 : decode cX8_later 37 = .ok (.getfield 47, 3) := by decide +kernel
theorem dX8_later_40 : decode cX8_later 40 = .ok (.invokevirtual 223, 3) := by decide +kernel
theorem dX8_later_43 : decode cX8_later 43 = .ok (.istore_n 3, 1) := by decide +kernel
theorem dX8_later_44 : decode cX8_later 44 = .ok (.iinc 2 1, 3) := by decide +kernel
theorem dX8_later_47 : decode cX8_later 47 = .ok (.goto (-17), 3) := by decide +kernel
theorem dX8_later_50 : decode cX8_later 50 = .ok (.aload_n 0, 1) := by decide +kernel
theorem dX8_later_51 : decode cX8_later 51 = .ok (.aload_n 0, 1) := by decide +kernel
theorem dX8_later_52 : decode cX8_later 52 = .ok (.aload_n 0, 1) := by decide +kernel
theorem dX8_later_53 : decode cX8_later 53 = .ok (.getfield 47, 3) := by decide +kernel
theorem dX8_later_56 : decode cX8_later 56 = .ok (.invokevirtual 237, 3) := by decide +kernel
theorem dX8_later_59 : decode cX8_later 59 = .ok (.aload_n 0, 1) := by decide +kernel
theorem dX8_later_60 : decode cX8_later 60 = .ok (.getfield 47, 3) := by decide +kernel
theorem dX8_later_63 : decode cX8_later 63 = .ok (.iconst 4, 1) := by decide +kernel
theorem dX8_later_64 : decode cX8_later 64 = .ok (.iaload, 1) := by decide +kernel
theorem dX8_later_65 : decode cX8_later 65 = .ok (.invokevirtual 229, 3) := by decide +kernel
theorem dX8_later_68 : decode cX8_later 68 = .ok (.ireturn, 1) := by decide +kernel
theorem dX8_failing_0 : decode cX8_failing 0 = .ok (.iconst 0, 1) := by decide +kernel
theorem dX8_failing_1 : decode cX8_failing 1 = .ok (.istore_n 1, 1) := by decide +kernel
theorem dX8_failing_2 : decode cX8_failing 2 = .ok (.iconst 0, 1) := by decide +kernel
theorem dX8_failing_3 : decode cX8_failing 3 = .ok (.istore_n 2, 1) := by decide +kernel
theorem dX8_failing_4 : decode cX8_failing 4 = .ok (.iload_n 2, 1) := by decide +kernel
theorem dX8_failing_5 : decode cX8_failing 5 = .ok (.aload_n 0, 1) := by decide +kernel
theorem dX8_failing_6 : decode cX8_failing 6 = .ok (.getfield 163, 3) := by decide +kernel
theorem dX8_failing_9 : decode cX8_failing 9 = .ok (.if_icmp .ge 40, 3) := by decide +kernel
theorem dX8_failing_12 : decode cX8_failing 12 = .ok (.iload_n 1, 1) := by decide +kernel
theorem dX8_failing_13 : decode cX8_failing 13 = .ok (.aload_n 0, 1) := by decide +kernel
theorem dX8_failing_14 : decode cX8_failing 14 = .ok (.getfield 47, 3) := by decide +kernel
theorem dX8_failing_17 : decode cX8_failing 17 = .ok (.iload_n 2, 1) := by decide +kernel
theorem dX8_failing_18 : decode cX8_failing 18 = .ok (.invokestatic 192, 3) := by decide +kernel
theorem dX8_failing_21 : decode cX8_failing 21 = .ok (.ifCond .eq 19, 3) := by decide +kernel
theorem dX8_failing_24 : decode cX8_failing 24 = .ok (.aload_n 0, 1) := by decide +kernel
theorem dX8_failing_25 : decode cX8_failing 25 = .ok (.aload_n 0, 1) := by decide +kernel
theorem dX8_failing_26 : decode cX8_failing 26 = .ok (.getfield 47, 3) := by decide +kernel
theorem dX8_failing_29 : decode cX8_failing 29 = .ok (.iload_n 2, 1) := by decide +kernel
theorem dX8_failing_30 : decode cX8_failing 30 = .ok (.invokevirtual 196, 3) := by decide +kernel
theorem dX8_failing_33 : decode cX8_failing 33 = .ok (.ifCond .ne 7, 3) := by decide +kernel
theorem dX8_failing_36 : decode cX8_failing 36 = .ok (.iconst 1, 1) := by decide +kernel
theorem dX8_failing_37 : decode cX8_failing 37 = .ok (.goto 4, 3) := by decide +kernel
theorem dX8_failing_40 : decode cX8_failing 40 = .ok (.iconst 0, 1) := by decide +kernel
theorem dX8_failing_41 : decode cX8_failing 41 = .ok (.iadd, 1) := by decide +kernel
theorem dX8_failing_42 : decode cX8_failing 42 = .ok (.istore_n 1, 1) := by decide +kernel
theorem dX8_failing_43 : decode cX8_failing 43 = .ok (.iinc 2 1, 3) := by decide +kernel
theorem dX8_failing_46 : decode cX8_failing 46 = .ok (.goto (-42), 3) := by decide +kernel
theorem dX8_failing_49 : decode cX8_failing 49 = .ok (.iload_n 1, 1) := by decide +kernel
theorem dX8_failing_50 : decode cX8_failing 50 = .ok (.ireturn, 1) := by decide +kernel
theorem dX8_laySeating_0 : decode cX8_laySeating 0 = .ok (.iload_n 2, 1) := by decide +kernel
theorem dX8_laySeating_1 : decode cX8_laySeating 1 = .ok (.ifCond .eq 12, 3) := by decide +kernel
theorem dX8_laySeating_4 : decode cX8_laySeating 4 = .ok (.aload_n 0, 1) := by decide +kernel
theorem dX8_laySeating_5 : decode cX8_laySeating 5 = .ok (.getfield 163, 3) := by decide +kernel
theorem dX8_laySeating_8 : decode cX8_laySeating 8 = .ok (.iconst 1, 1) := by decide +kernel
theorem dX8_laySeating_9 : decode cX8_laySeating 9 = .ok (.iadd, 1) := by decide +kernel
theorem dX8_laySeating_10 : decode cX8_laySeating 10 = .ok (.goto 7, 3) := by decide +kernel
theorem dX8_laySeating_13 : decode cX8_laySeating 13 = .ok (.aload_n 0, 1) := by decide +kernel
theorem dX8_laySeating_14 : decode cX8_laySeating 14 = .ok (.getfield 163, 3) := by decide +kernel
theorem dX8_laySeating_17 : decode cX8_laySeating 17 = .ok (.istore_n 3, 1) := by decide +kernel
theorem dX8_laySeating_18 : decode cX8_laySeating 18 = .ok (.iload_n 1, 1) := by decide +kernel
theorem dX8_laySeating_19 : decode cX8_laySeating 19 = .ok (.istore 4, 2) := by decide +kernel
theorem dX8_laySeating_21 : decode cX8_laySeating 21 = .ok (.iconst 1, 1) := by decide +kernel
theorem dX8_laySeating_22 : decode cX8_laySeating 22 = .ok (.istore 5, 2) := by decide +kernel
theorem dX8_laySeating_24 : decode cX8_laySeating 24 = .ok (.aload_n 0, 1) := by decide +kernel
theorem dX8_laySeating_25 : decode cX8_laySeating 25 = .ok (.getfield 166, 3) := by decide +kernel
theorem dX8_laySeating_28 : decode cX8_laySeating 28 = .ok (.iconst 1, 1) := by decide +kernel
theorem dX8_laySeating_29 : decode cX8_laySeating 29 = .ok (.isub, 1) := by decide +kernel
theorem dX8_laySeating_30 : decode cX8_laySeating 30 = .ok (.istore 6, 2) := by decide +kernel
theorem dX8_laySeating_32 : decode cX8_laySeating 32 = .ok (.iload 6, 2) := by decide +kernel
theorem dX8_laySeating_34 : decode cX8_laySeating 34 = .ok (.ifCond .lt 81, 3) := by decide +kernel
theorem dX8_laySeating_37 : decode cX8_laySeating 37 = .ok (.iload 4, 2) := by decide +kernel
theorem dX8_laySeating_39 : decode cX8_laySeating 39 = .ok (.iload_n 3, 1) := by decide +kernel
theorem dX8_laySeating_40 : decode cX8_laySeating 40 = .ok (.irem, 1) := by decide +kernel
theorem dX8_laySeating_41 : decode cX8_laySeating 41 = .ok (.iload_n 2, 1) := by decide +kernel
theorem dX8_laySeating_42 : decode cX8_laySeating 42 = .ok (.ifCond .eq 7, 3) := by decide +kernel
theorem dX8_laySeating_45 : decode cX8_laySeating 45 = .ok (.iconst 1, 1) := by decide +kernel
theorem dX8_laySeating_46 : decode cX8_laySeating 46 = .ok (.goto 4, 3) := by decide +kernel
theorem dX8_laySeating_49 : decode cX8_laySeating 49 = .ok (.iconst 0, 1) := by decide +kernel
theorem dX8_laySeating_50 : decode cX8_laySeating 50 = .ok (.isub, 1) := by decide +kernel
theorem dX8_laySeating_51 : decode cX8_laySeating 51 = .ok (.istore 7, 2) := by decide +kernel
theorem dX8_laySeating_53 : decode cX8_laySeating 53 = .ok (.iload 4, 2) := by decide +kernel
theorem dX8_laySeating_55 : decode cX8_laySeating 55 = .ok (.iload_n 3, 1) := by decide +kernel
theorem dX8_laySeating_56 : decode cX8_laySeating 56 = .ok (.idiv, 1) := by decide +kernel
theorem dX8_laySeating_57 : decode cX8_laySeating 57 = .ok (.istore 4, 2) := by decide +kernel
theorem dX8_laySeating_59 : decode cX8_laySeating 59 = .ok (.aload_n 0, 1) := by decide +kernel
theorem dX8_laySeating_60 : decode cX8_laySeating 60 = .ok (.getfield 47, 3) := by decide +kernel
theorem dX8_laySeating_63 : decode cX8_laySeating 63 = .ok (.iconst 5, 1) := by decide +kernel
theorem dX8_laySeating_64 : decode cX8_laySeating 64 = .ok (.iload 6, 2) := by decide +kernel
theorem dX8_laySeating_66 : decode cX8_laySeating 66 = .ok (.iadd, 1) := by decide +kernel
theorem dX8_laySeating_67 : decode cX8_laySeating 67 = .ok (.iload 7, 2) := by decide +kernel
theorem dX8_laySeating_69 : decode cX8_laySeating 69 = .ok (.ifCond .ge 8, 3) := by decide +kernel
theorem dX8_laySeating_72 : decode cX8_laySeating 72 = .ok (.bipush (-9), 2) := by decide +kernel
theorem dX8_laySeating_74 : decode cX8_laySeating 74 = .ok (.goto 5, 3) := by decide +kernel
theorem dX8_laySeating_77 : decode cX8_laySeating 77 = .ok (.iload 7, 2) := by decide +kernel
theorem dX8_laySeating_79 : decode cX8_laySeating 79 = .ok (.iastore, 1) := by decide +kernel
theorem dX8_laySeating_80 : decode cX8_laySeating 80 = .ok (.iload 5, 2) := by decide +kernel
theorem dX8_laySeating_82 : decode cX8_laySeating 82 = .ok (.ifCond .eq 24, 3) := by decide +kernel
theorem dX8_laySeating_85 : decode cX8_laySeating 85 = .ok (.iload 7, 2) := by decide +kernel
theorem dX8_laySeating_87 : decode cX8_laySeating 87 = .ok (.ifCond .lt 15, 3) := by decide +kernel
theorem dX8_laySeating_90 : decode cX8_laySeating 90 = .ok (.aload_n 0, 1) := by decide +kernel
theorem dX8_laySeating_91 : decode cX8_laySeating 91 = .ok (.getfield 47, 3) := by decide +kernel
theorem dX8_laySeating_94 : decode cX8_laySeating 94 = .ok (.iload 7, 2) := by decide +kernel
theorem dX8_laySeating_96 : decode cX8_laySeating 96 = .ok (.invokestatic 192, 3) := by decide +kernel
theorem dX8_laySeating_99 : decode cX8_laySeating 99 = .ok (.ifCond .eq 7, 3) := by decide +kernel
theorem dX8_laySeating_102 : decode cX8_laySeating 102 = .ok (.iconst 1, 1) := by decide +kernel
theorem dX8_laySeating_103 : decode cX8_laySeating 103 = .ok (.goto 4, 3) := by decide +kernel
theorem dX8_laySeating_106 : decode cX8_laySeating 106 = .ok (.iconst 0, 1) := by decide +kernel
theorem dX8_laySeating_107 : decode cX8_laySeating 107 = .ok (.istore 5, 2) := by decide +kernel
theorem dX8_laySeating_109 : decode cX8_laySeating 109 = .ok (.iinc 6 (-1), 3) := by decide +kernel
theorem dX8_laySeating_112 : decode cX8_laySeating 112 = .ok (.goto (-80), 3) := by decide +kernel
theorem dX8_laySeating_115 : decode cX8_laySeating 115 = .ok (.iload 5, 2) := by decide +kernel
theorem dX8_laySeating_117 : decode cX8_laySeating 117 = .ok (.ireturn, 1) := by decide +kernel
theorem dX8_power_0 : decode cX8_power 0 = .ok (.iconst 1, 1) := by decide +kernel
theorem dX8_power_1 : decode cX8_power 1 = .ok (.istore_n 2, 1) := by decide +kernel
theorem dX8_power_2 : decode cX8_power 2 = .ok (.iconst 0, 1) := by decide +kernel
theorem dX8_power_3 : decode cX8_power 3 = .ok (.istore_n 3, 1) := by decide +kernel
theorem dX8_power_4 : decode cX8_power 4 = .ok (.iload_n 3, 1) := by decide +kernel
theorem dX8_power_5 : decode cX8_power 5 = .ok (.iload_n 1, 1) := by decide +kernel
theorem dX8_power_6 : decode cX8_power 6 = .ok (.if_icmp .ge 13, 3) := by decide +kernel
theorem dX8_power_9 : decode cX8_power 9 = .ok (.iload_n 2, 1) := by decide +kernel
theorem dX8_power_10 : decode cX8_power 10 = .ok (.iload_n 0, 1) := by decide +kernel
theorem dX8_power_11 : decode cX8_power 11 = .ok (.imul, 1) := by decide +kernel
theorem dX8_power_12 : decode cX8_power 12 = .ok (.istore_n 2, 1) := by decide +kernel
theorem dX8_power_13 : decode cX8_power 13 = .ok (.iinc 3 1, 3) := by decide +kernel
theorem dX8_power_16 : decode cX8_power 16 = .ok (.goto (-12), 3) := by decide +kernel
theorem dX8_power_19 : decode cX8_power 19 = .ok (.iload_n 2, 1) := by decide +kernel
theorem dX8_power_20 : decode cX8_power 20 = .ok (.ireturn, 1) := by decide +kernel
theorem dX8_layRow_0 : decode cX8_layRow 0 = .ok (.aload_n 0, 1) := by decide +kernel
theorem dX8_layRow_1 : decode cX8_layRow 1 = .ok (.getfield 13, 3) := by decide +kernel
theorem dX8_layRow_4 : decode cX8_layRow 4 = .ok (.iload_n 1, 1) := by decide +kernel
theorem dX8_layRow_5 : decode cX8_layRow 5 = .ok (.iload_n 2, 1) := by decide +kernel
theorem dX8_layRow_6 : decode cX8_layRow 6 = .ok (.iastore, 1) := by decide +kernel
theorem dX8_layRow_7 : decode cX8_layRow 7 = .ok (.iconst 0, 1) := by decide +kernel
theorem dX8_layRow_8 : decode cX8_layRow 8 = .ok (.istore_n 3, 1) := by decide +kernel
theorem dX8_layRow_9 : decode cX8_layRow 9 = .ok (.iload_n 3, 1) := by decide +kernel
theorem dX8_layRow_10 : decode cX8_layRow 10 = .ok (.bipush 40, 2) := by decide +kernel
theorem dX8_layRow_12 : decode cX8_layRow 12 = .ok (.if_icmp .ge 21, 3) := by decide +kernel
theorem dX8_layRow_15 : decode cX8_layRow 15 = .ok (.aload_n 0, 1) := by decide +kernel
theorem dX8_layRow_16 : decode cX8_layRow 16 = .ok (.getfield 7, 3) := by decide +kernel
theorem dX8_layRow_19 : decode cX8_layRow 19 = .ok (.bipush 40, 2) := by decide +kernel
theorem dX8_layRow_21 : decode cX8_layRow 21 = .ok (.iload_n 1, 1) := by decide +kernel
theorem dX8_layRow_22 : decode cX8_layRow 22 = .ok (.imul, 1) := by decide +kernel
theorem dX8_layRow_23 : decode cX8_layRow 23 = .ok (.iload_n 3, 1) := by decide +kernel
theorem dX8_layRow_24 : decode cX8_layRow 24 = .ok (.iadd, 1) := by decide +kernel
theorem dX8_layRow_25 : decode cX8_layRow 25 = .ok (.iconst 0, 1) := by decide +kernel
theorem dX8_layRow_26 : decode cX8_layRow 26 = .ok (.iastore, 1) := by decide +kernel
theorem dX8_layRow_27 : decode cX8_layRow 27 = .ok (.iinc 3 1, 3) := by decide +kernel
theorem dX8_layRow_30 : decode cX8_layRow 30 = .ok (.goto (-21), 3) := by decide +kernel
theorem dX8_layRow_33 : decode cX8_layRow 33 = .ok (.return_, 1) := by decide +kernel
theorem dX8_best_0 : decode cX8_best 0 = .ok (.iload_n 1, 1) := by decide +kernel
theorem dX8_best_1 : decode cX8_best 1 = .ok (.invokestatic 101, 3) := by decide +kernel
theorem dX8_best_4 : decode cX8_best 4 = .ok (.ifCond .ne 5, 3) := by decide +kernel
theorem dX8_best_7 : decode cX8_best 7 = .ok (.iconst (-1), 1) := by decide +kernel
theorem dX8_best_8 : decode cX8_best 8 = .ok (.ireturn, 1) := by decide +kernel
theorem dX8_best_9 : decode cX8_best 9 = .ok (.aload_n 0, 1) := by decide +kernel
theorem dX8_best_10 : decode cX8_best 10 = .ok (.getfield 163, 3) := by decide +kernel
theorem dX8_best_13 : decode cX8_best 13 = .ok (.ifCond .ne 6, 3) := by decide +kernel
theorem dX8_best_16 : decode cX8_best 16 = .ok (.bipush (-4), 2) := by decide +kernel
theorem dX8_best_18 : decode cX8_best 18 = .ok (.ireturn, 1) := by decide +kernel
theorem dX8_best_19 : decode cX8_best 19 = .ok (.aload_n 0, 1) := by decide +kernel
theorem dX8_best_20 : decode cX8_best 20 = .ok (.iload_n 1, 1) := by decide +kernel
theorem dX8_best_21 : decode cX8_best 21 = .ok (.aload_n 0, 1) := by decide +kernel
theorem dX8_best_22 : decode cX8_best 22 = .ok (.getfield 166, 3) := by decide +kernel
theorem dX8_best_25 : decode cX8_best 25 = .ok (.invokevirtual 240, 3) := by decide +kernel
theorem dX8_best_28 : decode cX8_best 28 = .ok (.iconst (-1), 1) := by decide +kernel
theorem dX8_best_29 : decode cX8_best 29 = .ok (.istore_n 2, 1) := by decide +kernel
theorem dX8_best_30 : decode cX8_best 30 = .ok (.aload_n 0, 1) := by decide +kernel
theorem dX8_best_31 : decode cX8_best 31 = .ok (.invokevirtual 232, 3) := by decide +kernel
theorem dX8_best_34 : decode cX8_best 34 = .ok (.iconst 0, 1) := by decide +kernel
theorem dX8_best_35 : decode cX8_best 35 = .ok (.istore_n 3, 1) := by decide +kernel
theorem dX8_best_36 : decode cX8_best 36 = .ok (.iload_n 3, 1) := by decide +kernel
theorem dX8_best_37 : decode cX8_best 37 = .ok (.aload_n 0, 1) := by decide +kernel
theorem dX8_best_38 : decode cX8_best 38 = .ok (.getfield 163, 3) := by decide +kernel
theorem dX8_best_41 : decode cX8_best 41 = .ok (.iconst 1, 1) := by decide +kernel
theorem dX8_best_42 : decode cX8_best 42 = .ok (.iadd, 1) := by decide +kernel
theorem dX8_best_43 : decode cX8_best 43 = .ok (.aload_n 0, 1) := by decide +kernel
theorem dX8_best_44 : decode cX8_best 44 = .ok (.getfield 166, 3) := by decide +kernel
theorem dX8_best_47 : decode cX8_best 47 = .ok (.invokestatic 244, 3) := by decide +kernel
theorem dX8_best_50 : decode cX8_best 50 = .ok (.if_icmp .ge 66, 3) := by decide +kernel
theorem dX8_best_53 : decode cX8_best 53 = .ok (.aload_n 0, 1) := by decide +kernel
theorem dX8_best_54 : decode cX8_best 54 = .ok (.iload_n 3, 1) := by decide +kernel
theorem dX8_best_55 : decode cX8_best 55 = .ok (.iconst 1, 1) := by decide +kernel
theorem dX8_best_56 : decode cX8_best 56 = .ok (.invokevirtual 247, 3) := by decide +kernel
theorem dX8_best_59 : decode cX8_best 59 = .ok (.ifCond .eq 51, 3) := by decide +kernel
theorem dX8_best_62 : decode cX8_best 62 = .ok (.aload_n 0, 1) := by decide +kernel
theorem dX8_best_63 : decode cX8_best 63 = .ok (.aload_n 0, 1) := by decide +kernel
theorem dX8_best_64 : decode cX8_best 64 = .ok (.getfield 47, 3) := by decide +kernel
theorem dX8_best_67 : decode cX8_best 67 = .ok (.invokevirtual 237, 3) := by decide +kernel
theorem dX8_best_70 : decode cX8_best 70 = .ok (.iload_n 2, 1) := by decide +kernel
theorem dX8_best_71 : decode cX8_best 71 = .ok (.if_icmp .le 39, 3) := by decide +kernel
theorem dX8_best_74 : decode cX8_best 74 = .ok (.aload_n 0, 1) := by decide +kernel
theorem dX8_best_75 : decode cX8_best 75 = .ok (.invokevirtual 251, 3) := by decide +kernel
theorem dX8_best_78 : decode cX8_best 78 = .ok (.ifCond .ne 32, 3) := by decide +kernel
theorem dX8_best_81 : decode cX8_best 81 = .ok (.aload_n 0, 1) := by decide +kernel
theorem dX8_best_82 : decode cX8_best 82 = .ok (.aload_n 0, 1) := by decide +kernel
theorem dX8_best_83 : decode cX8_best 83 = .ok (.getfield 47, 3) := by decide +kernel
theorem dX8_best_86 : decode cX8_best 86 = .ok (.invokevirtual 237, 3) := by decide +kernel
theorem dX8_best_89 : decode cX8_best 89 = .ok (.istore_n 2, 1) := by decide +kernel
theorem dX8_best_90 : decode cX8_best 90 = .ok (.aload_n 0, 1) := by decide +kernel
theorem dX8_best_91 : decode cX8_best 91 = .ok (.getfield 47, 3) := by decide +kernel
theorem dX8_best_94 : decode cX8_best 94 = .ok (.iconst 5, 1) := by decide +kernel
theorem dX8_best_95 : decode cX8_best 95 = .ok (.aload_n 0, 1) := by decide +kernel
theorem dX8_best_96 : decode cX8_best 96 = .ok (.getfield 7, 3) := by decide +kernel
theorem dX8_best_99 : decode cX8_best 99 = .ok (.bipush 40, 2) := by decide +kernel
theorem dX8_best_101 : decode cX8_best 101 = .ok (.iload_n 1, 1) := by decide +kernel
theorem dX8_best_102 : decode cX8_best 102 = .ok (.imul, 1) := by decide +kernel
theorem dX8_best_103 : decode cX8_best 103 = .ok (.aload_n 0, 1) := by decide +kernel
theorem dX8_best_104 : decode cX8_best 104 = .ok (.getfield 166, 3) := by decide +kernel
theorem dX8_best_107 : decode cX8_best 107 = .ok (.invokestatic 202, 3) := by decide +kernel
theorem dX8_best_110 : decode cX8_best 110 = .ok (.iinc 3 1, 3) := by decide +kernel
theorem dX8_best_113 : decode cX8_best 113 = .ok (.goto (-77), 3) := by decide +kernel
theorem dX8_best_116 : decode cX8_best 116 = .ok (.iload_n 2, 1) := by decide +kernel
theorem dX8_best_117 : decode cX8_best 117 = .ok (.ireturn, 1) := by decide +kernel
theorem dX8_fewest_0 : decode cX8_fewest 0 = .ok (.aload_n 0, 1) := by decide +kernel
theorem dX8_fewest_1 : decode cX8_fewest 1 = .ok (.getfield 163, 3) := by decide +kernel
theorem dX8_fewest_4 : decode cX8_fewest 4 = .ok (.ifCond .ne 6, 3) := by decide +kernel
theorem dX8_fewest_7 : decode cX8_fewest 7 = .ok (.bipush (-4), 2) := by decide +kernel
theorem dX8_fewest_9 : decode cX8_fewest 9 = .ok (.ireturn, 1) := by decide +kernel
theorem dX8_fewest_10 : decode cX8_fewest 10 = .ok (.ldc 254, 2) := by decide +kernel
theorem dX8_fewest_12 : decode cX8_fewest 12 = .ok (.istore_n 1, 1) := by decide +kernel
theorem dX8_fewest_13 : decode cX8_fewest 13 = .ok (.iconst 0, 1) := by decide +kernel
theorem dX8_fewest_14 : decode cX8_fewest 14 = .ok (.istore_n 2, 1) := by decide +kernel
theorem dX8_fewest_15 : decode cX8_fewest 15 = .ok (.aload_n 0, 1) := by decide +kernel
theorem dX8_fewest_16 : decode cX8_fewest 16 = .ok (.invokevirtual 232, 3) := by decide +kernel
theorem dX8_fewest_19 : decode cX8_fewest 19 = .ok (.iconst 0, 1) := by decide +kernel
theorem dX8_fewest_20 : decode cX8_fewest 20 = .ok (.istore_n 3, 1) := by decide +kernel
theorem dX8_fewest_21 : decode cX8_fewest 21 = .ok (.iload_n 3, 1) := by decide +kernel
theorem dX8_fewest_22 : decode cX8_fewest 22 = .ok (.aload_n 0, 1) := by decide +kernel
theorem dX8_fewest_23 : decode cX8_fewest 23 = .ok (.getfield 163, 3) := by decide +kernel
theorem dX8_fewest_26 : decode cX8_fewest 26 = .ok (.aload_n 0, 1) := by decide +kernel
theorem dX8_fewest_27 : decode cX8_fewest 27 = .ok (.getfield 166, 3) := by decide +kernel
theorem dX8_fewest_30 : decode cX8_fewest 30 = .ok (.invokestatic 244, 3) := by decide +kernel
theorem dX8_fewest_33 : decode cX8_fewest 33 = .ok (.if_icmp .ge 120, 3) := by decide +kernel
theorem dX8_fewest_36 : decode cX8_fewest 36 = .ok (.aload_n 0, 1) := by decide +kernel
theorem dX8_fewest_37 : decode cX8_fewest 37 = .ok (.iload_n 3, 1) := by decide +kernel
theorem dX8_fewest_38 : decode cX8_fewest 38 = .ok (.iconst 0, 1) := by decide +kernel
theorem dX8_fewest_39 : decode cX8_fewest 39 = .ok (.invokevirtual 247, 3) := by decide +kernel
theorem dX8_fewest_42 : decode cX8_fewest 42 = .ok (.ifCond .eq 105, 3) := by decide +kernel
theorem dX8_fewest_45 : decode cX8_fewest 45 = .ok (.aload_n 0, 1) := by decide +kernel
theorem dX8_fewest_46 : decode cX8_fewest 46 = .ok (.invokevirtual 251, 3) := by decide +kernel
theorem dX8_fewest_49 : decode cX8_fewest 49 = .ok (.ifCond .ne 98, 3) := by decide +kernel
theorem dX8_fewest_52 : decode cX8_fewest 52 = .ok (.iconst 0, 1) := by decide +kernel
theorem dX8_fewest_53 : decode cX8_fewest 53 = .ok (.istore 4, 2) := by decide +kernel
theorem dX8_fewest_55 : decode cX8_fewest 55 = .ok (.iconst 0, 1) := by decide +kernel
theorem dX8_fewest_56 : decode cX8_fewest 56 = .ok (.istore 5, 2) := by decide +kernel
theorem dX8_fewest_58 : decode cX8_fewest 58 = .ok (.iload 5, 2) := by decide +kernel
theorem dX8_fewest_60 : decode cX8_fewest 60 = .ok (.aload_n 0, 1) := by decide +kernel
theorem dX8_fewest_61 : decode cX8_fewest 61 = .ok (.getfield 166, 3) := by decide +kernel
theorem dX8_fewest_64 : decode cX8_fewest 64 = .ok (.if_icmp .ge 25, 3) := by decide +kernel
theorem dX8_fewest_67 : decode cX8_fewest 67 = .ok (.iload 4, 2) := by decide +kernel
theorem dX8_fewest_69 : decode cX8_fewest 69 = .ok (.iconst 1, 1) := by decide +kernel
theorem dX8_fewest_70 : decode cX8_fewest 70 = .ok (.aload_n 0, 1) := by decide +kernel
theorem dX8_fewest_71 : decode cX8_fewest 71 = .ok (.getfield 47, 3) := by decide +kernel
theorem dX8_fewest_74 : decode cX8_fewest 74 = .ok (.iconst 5, 1) := by decide +kernel
theorem dX8_fewest_75 : decode cX8_fewest 75 = .ok (.iload 5, 2) := by decide +kernel
theorem dX8_fewest_77 : decode cX8_fewest 77 = .ok (.iadd, 1) := by decide +kernel
theorem dX8_fewest_78 : decode cX8_fewest 78 = .ok (.iaload, 1) := by decide +kernel
theorem dX8_fewest_79 : decode cX8_fewest 79 = .ok (.ishl, 1) := by decide +kernel
theorem dX8_fewest_80 : decode cX8_fewest 80 = .ok (.ior, 1) := by decide +kernel
theorem dX8_fewest_81 : decode cX8_fewest 81 = .ok (.istore 4, 2) := by decide +kernel
theorem dX8_fewest_83 : decode cX8_fewest 83 = .ok (.iinc 5 1, 3) := by decide +kernel
theorem dX8_fewest_86 : decode cX8_fewest 86 = .ok (.goto (-28), 3) := by decide +kernel
theorem dX8_fewest_89 : decode cX8_fewest 89 = .ok (.iload 4, 2) := by decide +kernel
theorem dX8_fewest_91 : decode cX8_fewest 91 = .ok (.invokestatic 255, 3) := by decide +kernel
theorem dX8_fewest_94 : decode cX8_fewest 94 = .ok (.iload_n 1, 1) := by decide +kernel
theorem dX8_fewest_95 : decode cX8_fewest 95 = .ok (.if_icmp .lt 18, 3) := by decide +kernel
theorem dX8_fewest_98 : decode cX8_fewest 98 = .ok (.iload 4, 2) := by decide +kernel
theorem dX8_fewest_100 : decode cX8_fewest 100 = .ok (.invokestatic 255, 3) := by decide +kernel
theorem dX8_fewest_103 : decode cX8_fewest 103 = .ok (.iload_n 1, 1) := by decide +kernel
theorem dX8_fewest_104 : decode cX8_fewest 104 = .ok (.if_icmp .ne 13, 3) := by decide +kernel
theorem dX8_fewest_107 : decode cX8_fewest 107 = .ok (.iload 4, 2) := by decide +kernel
theorem dX8_fewest_109 : decode cX8_fewest 109 = .ok (.iload_n 2, 1) := by decide +kernel
theorem dX8_fewest_110 : decode cX8_fewest 110 = .ok (.if_icmp .ge 7, 3) := by decide +kernel
theorem dX8_fewest_113 : decode cX8_fewest 113 = .ok (.iconst 1, 1) := by decide +kernel
theorem dX8_fewest_114 : decode cX8_fewest 114 = .ok (.goto 4, 3) := by decide +kernel
theorem dX8_fewest_117 : decode cX8_fewest 117 = .ok (.iconst 0, 1) := by decide +kernel
theorem dX8_fewest_118 : decode cX8_fewest 118 = .ok (.istore 5, 2) := by decide +kernel
theorem dX8_fewest_120 : decode cX8_fewest 120 = .ok (.iload 5, 2) := by decide +kernel
theorem dX8_fewest_122 : decode cX8_fewest 122 = .ok (.ifCond .eq 11, 3) := by decide +kernel
theorem dX8_fewest_125 : decode cX8_fewest 125 = .ok (.iload 4, 2) := by decide +kernel
theorem dX8_fewest_127 : decode cX8_fewest 127 = .ok (.invokestatic 255, 3) := by decide +kernel
theorem dX8_fewest_130 : decode cX8_fewest 130 = .ok (.goto 4, 3) := by decide +kernel
theorem dX8_fewest_133 : decode cX8_fewest 133 = .ok (.iload_n 1, 1) := by decide +kernel
theorem dX8_fewest_134 : decode cX8_fewest 134 = .ok (.istore_n 1, 1) := by decide +kernel
theorem dX8_fewest_135 : decode cX8_fewest 135 = .ok (.iload 5, 2) := by decide +kernel
theorem dX8_fewest_137 : decode cX8_fewest 137 = .ok (.ifCond .eq 8, 3) := by decide +kernel
theorem dX8_fewest_140 : decode cX8_fewest 140 = .ok (.iload 4, 2) := by decide +kernel
theorem dX8_fewest_142 : decode cX8_fewest 142 = .ok (.goto 4, 3) := by decide +kernel
theorem dX8_fewest_145 : decode cX8_fewest 145 = .ok (.iload_n 2, 1) := by decide +kernel
theorem dX8_fewest_146 : decode cX8_fewest 146 = .ok (.istore_n 2, 1) := by decide +kernel
theorem dX8_fewest_147 : decode cX8_fewest 147 = .ok (.iinc 3 1, 3) := by decide +kernel
theorem dX8_fewest_150 : decode cX8_fewest 150 = .ok (.goto (-129), 3) := by decide +kernel
theorem dX8_fewest_153 : decode cX8_fewest 153 = .ok (.iload_n 1, 1) := by decide +kernel
theorem dX8_fewest_154 : decode cX8_fewest 154 = .ok (.ldc 254, 2) := by decide +kernel
theorem dX8_fewest_156 : decode cX8_fewest 156 = .ok (.if_icmp .ne 8, 3) := by decide +kernel
theorem dX8_fewest_159 : decode cX8_fewest 159 = .ok (.bipush (-9), 2) := by decide +kernel
theorem dX8_fewest_161 : decode cX8_fewest 161 = .ok (.goto 9, 3) := by decide +kernel
theorem dX8_fewest_164 : decode cX8_fewest 164 = .ok (.aload_n 0, 1) := by decide +kernel
theorem dX8_fewest_165 : decode cX8_fewest 165 = .ok (.iload_n 1, 1) := by decide +kernel
theorem dX8_fewest_166 : decode cX8_fewest 166 = .ok (.iload_n 2, 1) := by decide +kernel
theorem dX8_fewest_167 : decode cX8_fewest 167 = .ok (.invokevirtual 229, 3) := by decide +kernel
theorem dX8_fewest_170 : decode cX8_fewest 170 = .ok (.ireturn, 1) := by decide +kernel
theorem dX8_seated_0 : decode cX8_seated 0 = .ok (.iload_n 1, 1) := by decide +kernel
theorem dX8_seated_1 : decode cX8_seated 1 = .ok (.invokestatic 101, 3) := by decide +kernel
theorem dX8_seated_4 : decode cX8_seated 4 = .ok (.ifCond .ne 5, 3) := by decide +kernel
theorem dX8_seated_7 : decode cX8_seated 7 = .ok (.iconst (-1), 1) := by decide +kernel
theorem dX8_seated_8 : decode cX8_seated 8 = .ok (.ireturn, 1) := by decide +kernel
theorem dX8_seated_9 : decode cX8_seated 9 = .ok (.aload_n 0, 1) := by decide +kernel
theorem dX8_seated_10 : decode cX8_seated 10 = .ok (.getfield 163, 3) := by decide +kernel
theorem dX8_seated_13 : decode cX8_seated 13 = .ok (.ifCond .ne 6, 3) := by decide +kernel
theorem dX8_seated_16 : decode cX8_seated 16 = .ok (.bipush (-4), 2) := by decide +kernel
theorem dX8_seated_18 : decode cX8_seated 18 = .ok (.ireturn, 1) := by decide +kernel
theorem dX8_seated_19 : decode cX8_seated 19 = .ok (.aload_n 0, 1) := by decide +kernel
theorem dX8_seated_20 : decode cX8_seated 20 = .ok (.getfield 13, 3) := by decide +kernel
theorem dX8_seated_23 : decode cX8_seated 23 = .ok (.iload_n 1, 1) := by decide +kernel
theorem dX8_seated_24 : decode cX8_seated 24 = .ok (.iaload, 1) := by decide +kernel
theorem dX8_seated_25 : decode cX8_seated 25 = .ok (.ifCond .ge 9, 3) := by decide +kernel
theorem dX8_seated_28 : decode cX8_seated 28 = .ok (.aload_n 0, 1) := by decide +kernel
theorem dX8_seated_29 : decode cX8_seated 29 = .ok (.iconst 1, 1) := by decide +kernel
theorem dX8_seated_30 : decode cX8_seated 30 = .ok (.invokevirtual 105, 3) := by decide +kernel
theorem dX8_seated_33 : decode cX8_seated 33 = .ok (.ireturn, 1) := by decide +kernel
theorem dX8_seated_34 : decode cX8_seated 34 = .ok (.aload_n 0, 1) := by decide +kernel
theorem dX8_seated_35 : decode cX8_seated 35 = .ok (.getfield 13, 3) := by decide +kernel
theorem dX8_seated_38 : decode cX8_seated 38 = .ok (.iload_n 1, 1) := by decide +kernel
theorem dX8_seated_39 : decode cX8_seated 39 = .ok (.iaload, 1) := by decide +kernel
theorem dX8_seated_40 : decode cX8_seated 40 = .ok (.aload_n 0, 1) := by decide +kernel
theorem dX8_seated_41 : decode cX8_seated 41 = .ok (.getfield 166, 3) := by decide +kernel
theorem dX8_seated_44 : decode cX8_seated 44 = .ok (.if_icmp .eq 9, 3) := by decide +kernel
theorem dX8_seated_47 : decode cX8_seated 47 = .ok (.aload_n 0, 1) := by decide +kernel
theorem dX8_seated_48 : decode cX8_seated 48 = .ok (.iconst 5, 1) := by decide +kernel
theorem dX8_seated_49 : decode cX8_seated 49 = .ok (.invokevirtual 105, 3) := by decide +kernel
theorem dX8_seated_52 : decode cX8_seated 52 = .ok (.ireturn, 1) := by decide +kernel
theorem dX8_seated_53 : decode cX8_seated 53 = .ok (.aload_n 0, 1) := by decide +kernel
theorem dX8_seated_54 : decode cX8_seated 54 = .ok (.invokevirtual 232, 3) := by decide +kernel
theorem dX8_seated_57 : decode cX8_seated 57 = .ok (.iconst 0, 1) := by decide +kernel
theorem dX8_seated_58 : decode cX8_seated 58 = .ok (.istore_n 2, 1) := by decide +kernel
theorem dX8_seated_59 : decode cX8_seated 59 = .ok (.iload_n 2, 1) := by decide +kernel
theorem dX8_seated_60 : decode cX8_seated 60 = .ok (.aload_n 0, 1) := by decide +kernel
theorem dX8_seated_61 : decode cX8_seated 61 = .ok (.getfield 166, 3) := by decide +kernel
theorem dX8_seated_64 : decode cX8_seated 64 = .ok (.if_icmp .ge 61, 3) := by decide +kernel
theorem dX8_seated_67 : decode cX8_seated 67 = .ok (.aload_n 0, 1) := by decide +kernel
theorem dX8_seated_68 : decode cX8_seated 68 = .ok (.getfield 7, 3) := by decide +kernel
theorem dX8_seated_71 : decode cX8_seated 71 = .ok (.bipush 40, 2) := by decide +kernel
theorem dX8_seated_73 : decode cX8_seated 73 = .ok (.iload_n 1, 1) := by decide +kernel
theorem dX8_seated_74 : decode cX8_seated 74 = .ok (.imul, 1) := by decide +kernel
theorem dX8_seated_75 : decode cX8_seated 75 = .ok (.iload_n 2, 1) := by decide +kernel
theorem dX8_seated_76 : decode cX8_seated 76 = .ok (.iadd, 1) := by decide +kernel
theorem dX8_seated_77 : decode cX8_seated 77 = .ok (.iaload, 1) := by decide +kernel
theorem dX8_seated_78 : decode cX8_seated 78 = .ok (.istore_n 3, 1) := by decide +kernel
theorem dX8_seated_79 : decode cX8_seated 79 = .ok (.iload_n 3, 1) := by decide +kernel
theorem dX8_seated_80 : decode cX8_seated 80 = .ok (.bipush (-9), 2) := by decide +kernel
theorem dX8_seated_82 : decode cX8_seated 82 = .ok (.if_icmp .eq 28, 3) := by decide +kernel
theorem dX8_seated_85 : decode cX8_seated 85 = .ok (.aload_n 0, 1) := by decide +kernel
theorem dX8_seated_86 : decode cX8_seated 86 = .ok (.iload_n 3, 1) := by decide +kernel
theorem dX8_seated_87 : decode cX8_seated 87 = .ok (.invokevirtual 206, 3) := by decide +kernel
theorem dX8_seated_90 : decode cX8_seated 90 = .ok (.ifCond .eq 14, 3) := by decide +kernel
theorem dX8_seated_93 : decode cX8_seated 93 = .ok (.aload_n 0, 1) := by decide +kernel
theorem dX8_seated_94 : decode cX8_seated 94 = .ok (.getfield 44, 3) := by decide +kernel
theorem dX8_seated_97 : decode cX8_seated 97 = .ok (.iload_n 3, 1) := by decide +kernel
theorem dX8_seated_98 : decode cX8_seated 98 = .ok (.invokestatic 192, 3) := by decide +kernel
theorem dX8_seated_101 : decode cX8_seated 101 = .ok (.ifCond .ne 9, 3) := by decide +kernel
theorem dX8_seated_104 : decode cX8_seated 104 = .ok (.aload_n 0, 1) := by decide +kernel
theorem dX8_seated_105 : decode cX8_seated 105 = .ok (.iconst 3, 1) := by decide +kernel
theorem dX8_seated_106 : decode cX8_seated 106 = .ok (.invokevirtual 105, 3) := by decide +kernel
theorem dX8_seated_109 : decode cX8_seated 109 = .ok (.ireturn, 1) := by decide +kernel
theorem dX8_seated_110 : decode cX8_seated 110 = .ok (.aload_n 0, 1) := by decide +kernel
theorem dX8_seated_111 : decode cX8_seated 111 = .ok (.getfield 47, 3) := by decide +kernel
theorem dX8_seated_114 : decode cX8_seated 114 = .ok (.iconst 5, 1) := by decide +kernel
theorem dX8_seated_115 : decode cX8_seated 115 = .ok (.iload_n 2, 1) := by decide +kernel
theorem dX8_seated_116 : decode cX8_seated 116 = .ok (.iadd, 1) := by decide +kernel
theorem dX8_seated_117 : decode cX8_seated 117 = .ok (.iload_n 3, 1) := by decide +kernel
theorem dX8_seated_118 : decode cX8_seated 118 = .ok (.iastore, 1) := by decide +kernel
theorem dX8_seated_119 : decode cX8_seated 119 = .ok (.iinc 2 1, 3) := by decide +kernel
theorem dX8_seated_122 : decode cX8_seated 122 = .ok (.goto (-63), 3) := by decide +kernel
theorem dX8_seated_125 : decode cX8_seated 125 = .ok (.aload_n 0, 1) := by decide +kernel
theorem dX8_seated_126 : decode cX8_seated 126 = .ok (.aload_n 0, 1) := by decide +kernel
theorem dX8_seated_127 : decode cX8_seated 127 = .ok (.invokevirtual 251, 3) := by decide +kernel
theorem dX8_seated_130 : decode cX8_seated 130 = .ok (.aload_n 0, 1) := by decide +kernel
theorem dX8_seated_131 : decode cX8_seated 131 = .ok (.aload_n 0, 1) := by decide +kernel
theorem dX8_seated_132 : decode cX8_seated 132 = .ok (.getfield 47, 3) := by decide +kernel
theorem dX8_seated_135 : decode cX8_seated 135 = .ok (.invokevirtual 237, 3) := by decide +kernel
theorem dX8_seated_138 : decode cX8_seated 138 = .ok (.invokevirtual 229, 3) := by decide +kernel
theorem dX8_seated_141 : decode cX8_seated 141 = .ok (.ireturn, 1) := by decide +kernel
theorem dX8_lacingsBy_0 : decode cX8_lacingsBy 0 = .ok (.iload_n 1, 1) := by decide +kernel
theorem dX8_lacingsBy_1 : decode cX8_lacingsBy 1 = .ok (.istore_n 3, 1) := by decide +kernel
theorem dX8_lacingsBy_2 : decode cX8_lacingsBy 2 = .ok (.iconst 0, 1) := by decide +kernel
theorem dX8_lacingsBy_3 : decode cX8_lacingsBy 3 = .ok (.istore 4, 2) := by decide +kernel
theorem dX8_lacingsBy_5 : decode cX8_lacingsBy 5 = .ok (.iload_n 2, 1) := by decide +kernel
theorem dX8_lacingsBy_6 : decode cX8_lacingsBy 6 = .ok (.iconst 1, 1) := by decide +kernel
theorem dX8_lacingsBy_7 : decode cX8_lacingsBy 7 = .ok (.isub, 1) := by decide +kernel
theorem dX8_lacingsBy_8 : decode cX8_lacingsBy 8 = .ok (.istore 5, 2) := by decide +kernel
theorem dX8_lacingsBy_10 : decode cX8_lacingsBy 10 = .ok (.iload 5, 2) := by decide +kernel
theorem dX8_lacingsBy_12 : decode cX8_lacingsBy 12 = .ok (.ifCond .lt 55, 3) := by decide +kernel
theorem dX8_lacingsBy_15 : decode cX8_lacingsBy 15 = .ok (.aload_n 0, 1) := by decide +kernel
theorem dX8_lacingsBy_16 : decode cX8_lacingsBy 16 = .ok (.getfield 71, 3) := by decide +kernel
theorem dX8_lacingsBy_19 : decode cX8_lacingsBy 19 = .ok (.iload 5, 2) := by decide +kernel
theorem dX8_lacingsBy_21 : decode cX8_lacingsBy 21 = .ok (.iload_n 3, 1) := by decide +kernel
theorem dX8_lacingsBy_22 : decode cX8_lacingsBy 22 = .ok (.aload_n 0, 1) := by decide +kernel
theorem dX8_lacingsBy_23 : decode cX8_lacingsBy 23 = .ok (.getfield 163, 3) := by decide +kernel
theorem dX8_lacingsBy_26 : decode cX8_lacingsBy 26 = .ok (.iconst 1, 1) := by decide +kernel
theorem dX8_lacingsBy_27 : decode cX8_lacingsBy 27 = .ok (.iadd, 1) := by decide +kernel
theorem dX8_lacingsBy_28 : decode cX8_lacingsBy 28 = .ok (.irem, 1) := by decide +kernel
theorem dX8_lacingsBy_29 : decode cX8_lacingsBy 29 = .ok (.iconst 1, 1) := by decide +kernel
theorem dX8_lacingsBy_30 : decode cX8_lacingsBy 30 = .ok (.isub, 1) := by decide +kernel
theorem dX8_lacingsBy_31 : decode cX8_lacingsBy 31 = .ok (.iastore, 1) := by decide +kernel
theorem dX8_lacingsBy_32 : decode cX8_lacingsBy 32 = .ok (.iload_n 3, 1) := by decide +kernel
theorem dX8_lacingsBy_33 : decode cX8_lacingsBy 33 = .ok (.aload_n 0, 1) := by decide +kernel
theorem dX8_lacingsBy_34 : decode cX8_lacingsBy 34 = .ok (.getfield 163, 3) := by decide +kernel
theorem dX8_lacingsBy_37 : decode cX8_lacingsBy 37 = .ok (.iconst 1, 1) := by decide +kernel
theorem dX8_lacingsBy_38 : decode cX8_lacingsBy 38 = .ok (.iadd, 1) := by decide +kernel
theorem dX8_lacingsBy_39 : decode cX8_lacingsBy 39 = .ok (.idiv, 1) := by decide +kernel
theorem dX8_lacingsBy_40 : decode cX8_lacingsBy 40 = .ok (.istore_n 3, 1) := by decide +kernel
theorem dX8_lacingsBy_41 : decode cX8_lacingsBy 41 = .ok (.iload 4, 2) := by decide +kernel
theorem dX8_lacingsBy_43 : decode cX8_lacingsBy 43 = .ok (.aload_n 0, 1) := by decide +kernel
theorem dX8_lacingsBy_44 : decode cX8_lacingsBy 44 = .ok (.getfield 71, 3) := by decide +kernel
theorem dX8_lacingsBy_47 : decode cX8_lacingsBy 47 = .ok (.iload 5, 2) := by decide +kernel
theorem dX8_lacingsBy_49 : decode cX8_lacingsBy 49 = .ok (.iaload, 1) := by decide +kernel
theorem dX8_lacingsBy_50 : decode cX8_lacingsBy 50 = .ok (.ifCond .ge 7, 3) := by decide +kernel
theorem dX8_lacingsBy_53 : decode cX8_lacingsBy 53 = .ok (.iconst 0, 1) := by decide +kernel
theorem dX8_lacingsBy_54 : decode cX8_lacingsBy 54 = .ok (.goto 4, 3) := by decide +kernel
theorem dX8_lacingsBy_57 : decode cX8_lacingsBy 57 = .ok (.iconst 1, 1) := by decide +kernel
theorem dX8_lacingsBy_58 : decode cX8_lacingsBy 58 = .ok (.iadd, 1) := by decide +kernel
theorem dX8_lacingsBy_59 : decode cX8_lacingsBy 59 = .ok (.istore 4, 2) := by decide +kernel
theorem dX8_lacingsBy_61 : decode cX8_lacingsBy 61 = .ok (.iinc 5 (-1), 3) := by decide +kernel
theorem dX8_lacingsBy_64 : decode cX8_lacingsBy 64 = .ok (.goto (-54), 3) := by decide +kernel
theorem dX8_lacingsBy_67 : decode cX8_lacingsBy 67 = .ok (.aload_n 0, 1) := by decide +kernel
theorem dX8_lacingsBy_68 : decode cX8_lacingsBy 68 = .ok (.invokevirtual 232, 3) := by decide +kernel
theorem dX8_lacingsBy_71 : decode cX8_lacingsBy 71 = .ok (.iconst 0, 1) := by decide +kernel
theorem dX8_lacingsBy_72 : decode cX8_lacingsBy 72 = .ok (.istore 5, 2) := by decide +kernel
theorem dX8_lacingsBy_74 : decode cX8_lacingsBy 74 = .ok (.iload 5, 2) := by decide +kernel
theorem dX8_lacingsBy_76 : decode cX8_lacingsBy 76 = .ok (.iload_n 2, 1) := by decide +kernel
theorem dX8_lacingsBy_77 : decode cX8_lacingsBy 77 = .ok (.if_icmp .ge 68, 3) := by decide +kernel
theorem dX8_lacingsBy_80 : decode cX8_lacingsBy 80 = .ok (.aload_n 0, 1) := by decide +kernel
theorem dX8_lacingsBy_81 : decode cX8_lacingsBy 81 = .ok (.getfield 71, 3) := by decide +kernel
theorem dX8_lacingsBy_84 : decode cX8_lacingsBy 84 = .ok (.iload 5, 2) := by decide +kernel
theorem dX8_lacingsBy_86 : decode cX8_lacingsBy 86 = .ok (.iaload, 1) := by decide +kernel
theorem dX8_lacingsBy_87 : decode cX8_lacingsBy 87 = .ok (.ifCond .lt 38, 3) := by decide +kernel
theorem dX8_lacingsBy_90 : decode cX8_lacingsBy 90 = .ok (.aload_n 0, 1) := by decide +kernel
theorem dX8_lacingsBy_91 : decode cX8_lacingsBy 91 = .ok (.getfield 47, 3) := by decide +kernel
theorem dX8_lacingsBy_94 : decode cX8_lacingsBy 94 = .ok (.aload_n 0, 1) := by decide +kernel
theorem dX8_lacingsBy_95 : decode cX8_lacingsBy 95 = .ok (.getfield 71, 3) := by decide +kernel
theorem dX8_lacingsBy_98 : decode cX8_lacingsBy 98 = .ok (.iload 5, 2) := by decide +kernel
theorem dX8_lacingsBy_100 : decode cX8_lacingsBy 100 = .ok (.iaload, 1) := by decide +kernel
theorem dX8_lacingsBy_101 : decode cX8_lacingsBy 101 = .ok (.invokestatic 192, 3) := by decide +kernel
theorem dX8_lacingsBy_104 : decode cX8_lacingsBy 104 = .ok (.ifCond .ne 6, 3) := by decide +kernel
theorem dX8_lacingsBy_107 : decode cX8_lacingsBy 107 = .ok (.ldc 254, 2) := by decide +kernel
theorem dX8_lacingsBy_109 : decode cX8_lacingsBy 109 = .ok (.ireturn, 1) := by decide +kernel
theorem dX8_lacingsBy_110 : decode cX8_lacingsBy 110 = .ok (.aload_n 0, 1) := by decide +kernel
theorem dX8_lacingsBy_111 : decode cX8_lacingsBy 111 = .ok (.getfield 47, 3) := by decide +kernel
theorem dX8_lacingsBy_114 : decode cX8_lacingsBy 114 = .ok (.iconst 0, 1) := by decide +kernel
theorem dX8_lacingsBy_115 : decode cX8_lacingsBy 115 = .ok (.aload_n 0, 1) := by decide +kernel
theorem dX8_lacingsBy_116 : decode cX8_lacingsBy 116 = .ok (.getfield 71, 3) := by decide +kernel
theorem dX8_lacingsBy_119 : decode cX8_lacingsBy 119 = .ok (.iload 5, 2) := by decide +kernel
theorem dX8_lacingsBy_121 : decode cX8_lacingsBy 121 = .ok (.iaload, 1) := by decide +kernel
theorem dX8_lacingsBy_122 : decode cX8_lacingsBy 122 = .ok (.iadd, 1) := by decide +kernel
theorem dX8_lacingsBy_123 : decode cX8_lacingsBy 123 = .ok (.iconst 0, 1) := by decide +kernel
theorem dX8_lacingsBy_124 : decode cX8_lacingsBy 124 = .ok (.iastore, 1) := by decide +kernel
theorem dX8_lacingsBy_125 : decode cX8_lacingsBy 125 = .ok (.aload_n 0, 1) := by decide +kernel
theorem dX8_lacingsBy_126 : decode cX8_lacingsBy 126 = .ok (.aload_n 0, 1) := by decide +kernel
theorem dX8_lacingsBy_127 : decode cX8_lacingsBy 127 = .ok (.getfield 47, 3) := by decide +kernel
theorem dX8_lacingsBy_130 : decode cX8_lacingsBy 130 = .ok (.invokevirtual 223, 3) := by decide +kernel
theorem dX8_lacingsBy_133 : decode cX8_lacingsBy 133 = .ok (.ifCond .eq 6, 3) := by decide +kernel
theorem dX8_lacingsBy_136 : decode cX8_lacingsBy 136 = .ok (.ldc 254, 2) := by decide +kernel
theorem dX8_lacingsBy_138 : decode cX8_lacingsBy 138 = .ok (.ireturn, 1) := by decide +kernel
theorem dX8_lacingsBy_139 : decode cX8_lacingsBy 139 = .ok (.iinc 5 1, 3) := by decide +kernel
theorem dX8_lacingsBy_142 : decode cX8_lacingsBy 142 = .ok (.goto (-68), 3) := by decide +kernel
theorem dX8_lacingsBy_145 : decode cX8_lacingsBy 145 = .ok (.iload 4, 2) := by decide +kernel
theorem dX8_lacingsBy_147 : decode cX8_lacingsBy 147 = .ok (.ireturn, 1) := by decide +kernel
theorem dX8_laces_0 : decode cX8_laces 0 = .ok (.iload_n 1, 1) := by decide +kernel
theorem dX8_laces_1 : decode cX8_laces 1 = .ok (.i2l, 1) := by decide +kernel
theorem dX8_laces_2 : decode cX8_laces 2 = .ok (.lconst 0, 1) := by decide +kernel
theorem dX8_laces_3 : decode cX8_laces 3 = .ok (.ldc2_w 93, 3) := by decide +kernel
theorem dX8_laces_6 : decode cX8_laces 6 = .ok (.invokestatic 95, 3) := by decide +kernel
theorem dX8_laces_9 : decode cX8_laces 9 = .ok (.ifCond .eq 10, 3) := by decide +kernel
theorem dX8_laces_12 : decode cX8_laces 12 = .ok (.iload_n 2, 1) := by decide +kernel
theorem dX8_laces_13 : decode cX8_laces 13 = .ok (.invokestatic 101, 3) := by decide +kernel
theorem dX8_laces_16 : decode cX8_laces 16 = .ok (.ifCond .ne 5, 3) := by decide +kernel
theorem dX8_laces_19 : decode cX8_laces 19 = .ok (.iconst (-1), 1) := by decide +kernel
theorem dX8_laces_20 : decode cX8_laces 20 = .ok (.ireturn, 1) := by decide +kernel
theorem dX8_laces_21 : decode cX8_laces 21 = .ok (.aload_n 0, 1) := by decide +kernel
theorem dX8_laces_22 : decode cX8_laces 22 = .ok (.getfield 163, 3) := by decide +kernel
theorem dX8_laces_25 : decode cX8_laces 25 = .ok (.ifCond .ne 6, 3) := by decide +kernel
theorem dX8_laces_28 : decode cX8_laces 28 = .ok (.bipush (-4), 2) := by decide +kernel
theorem dX8_laces_30 : decode cX8_laces 30 = .ok (.ireturn, 1) := by decide +kernel
theorem dX8_laces_31 : decode cX8_laces 31 = .ok (.ldc 254, 2) := by decide +kernel
theorem dX8_laces_33 : decode cX8_laces 33 = .ok (.istore_n 3, 1) := by decide +kernel
theorem dX8_laces_34 : decode cX8_laces 34 = .ok (.iconst 0, 1) := by decide +kernel
theorem dX8_laces_35 : decode cX8_laces 35 = .ok (.istore 4, 2) := by decide +kernel
theorem dX8_laces_37 : decode cX8_laces 37 = .ok (.iconst 0, 1) := by decide +kernel
theorem dX8_laces_38 : decode cX8_laces 38 = .ok (.istore 5, 2) := by decide +kernel
theorem dX8_laces_40 : decode cX8_laces 40 = .ok (.iload 5, 2) := by decide +kernel
theorem dX8_laces_42 : decode cX8_laces 42 = .ok (.aload_n 0, 1) := by decide +kernel
theorem dX8_laces_43 : decode cX8_laces 43 = .ok (.getfield 163, 3) := by decide +kernel
theorem dX8_laces_46 : decode cX8_laces 46 = .ok (.iconst 1, 1) := by decide +kernel
theorem dX8_laces_47 : decode cX8_laces 47 = .ok (.iadd, 1) := by decide +kernel
theorem dX8_laces_48 : decode cX8_laces 48 = .ok (.iload_n 1, 1) := by decide +kernel
theorem dX8_laces_49 : decode cX8_laces 49 = .ok (.invokestatic 244, 3) := by decide +kernel
theorem dX8_laces_52 : decode cX8_laces 52 = .ok (.if_icmp .ge 46, 3) := by decide +kernel
theorem dX8_laces_55 : decode cX8_laces 55 = .ok (.aload_n 0, 1) := by decide +kernel
theorem dX8_laces_56 : decode cX8_laces 56 = .ok (.iload 5, 2) := by decide +kernel
theorem dX8_laces_58 : decode cX8_laces 58 = .ok (.iload_n 1, 1) := by decide +kernel
theorem dX8_laces_59 : decode cX8_laces 59 = .ok (.invokevirtual 258, 3) := by decide +kernel
theorem dX8_laces_62 : decode cX8_laces 62 = .ok (.istore 6, 2) := by decide +kernel
theorem dX8_laces_64 : decode cX8_laces 64 = .ok (.iload 6, 2) := by decide +kernel
theorem dX8_laces_66 : decode cX8_laces 66 = .ok (.iload_n 3, 1) := by decide +kernel
theorem dX8_laces_67 : decode cX8_laces 67 = .ok (.if_icmp .ge 8, 3) := by decide +kernel
theorem dX8_laces_70 : decode cX8_laces 70 = .ok (.iload 5, 2) := by decide +kernel
theorem dX8_laces_72 : decode cX8_laces 72 = .ok (.goto 5, 3) := by decide +kernel
theorem dX8_laces_75 : decode cX8_laces 75 = .ok (.iload 4, 2) := by decide +kernel
theorem dX8_laces_77 : decode cX8_laces 77 = .ok (.istore 4, 2) := by decide +kernel
theorem dX8_laces_79 : decode cX8_laces 79 = .ok (.iload 6, 2) := by decide +kernel
theorem dX8_laces_81 : decode cX8_laces 81 = .ok (.iload_n 3, 1) := by decide +kernel
theorem dX8_laces_82 : decode cX8_laces 82 = .ok (.if_icmp .ge 8, 3) := by decide +kernel
theorem dX8_laces_85 : decode cX8_laces 85 = .ok (.iload 6, 2) := by decide +kernel
theorem dX8_laces_87 : decode cX8_laces 87 = .ok (.goto 4, 3) := by decide +kernel
theorem dX8_laces_90 : decode cX8_laces 90 = .ok (.iload_n 3, 1) := by decide +kernel
theorem dX8_laces_91 : decode cX8_laces 91 = .ok (.istore_n 3, 1) := by decide +kernel
theorem dX8_laces_92 : decode cX8_laces 92 = .ok (.iinc 5 1, 3) := by decide +kernel
theorem dX8_laces_95 : decode cX8_laces 95 = .ok (.goto (-55), 3) := by decide +kernel
theorem dX8_laces_98 : decode cX8_laces 98 = .ok (.iload_n 3, 1) := by decide +kernel
theorem dX8_laces_99 : decode cX8_laces 99 = .ok (.ldc 254, 2) := by decide +kernel
theorem dX8_laces_101 : decode cX8_laces 101 = .ok (.if_icmp .ne 6, 3) := by decide +kernel
theorem dX8_laces_104 : decode cX8_laces 104 = .ok (.bipush (-9), 2) := by decide +kernel
theorem dX8_laces_106 : decode cX8_laces 106 = .ok (.ireturn, 1) := by decide +kernel
theorem dX8_laces_107 : decode cX8_laces 107 = .ok (.aload_n 0, 1) := by decide +kernel
theorem dX8_laces_108 : decode cX8_laces 108 = .ok (.iload_n 2, 1) := by decide +kernel
theorem dX8_laces_109 : decode cX8_laces 109 = .ok (.iload_n 1, 1) := by decide +kernel
theorem dX8_laces_110 : decode cX8_laces 110 = .ok (.invokevirtual 240, 3) := by decide +kernel
theorem dX8_laces_113 : decode cX8_laces 113 = .ok (.aload_n 0, 1) := by decide +kernel
theorem dX8_laces_114 : decode cX8_laces 114 = .ok (.iload 4, 2) := by decide +kernel
theorem dX8_laces_116 : decode cX8_laces 116 = .ok (.iload_n 1, 1) := by decide +kernel
theorem dX8_laces_117 : decode cX8_laces 117 = .ok (.invokevirtual 258, 3) := by decide +kernel
theorem dX8_laces_120 : decode cX8_laces 120 = .ok (.istore 5, 2) := by decide +kernel
theorem dX8_laces_122 : decode cX8_laces 122 = .ok (.iconst 0, 1) := by decide +kernel
theorem dX8_laces_123 : decode cX8_laces 123 = .ok (.istore 6, 2) := by decide +kernel
theorem dX8_laces_125 : decode cX8_laces 125 = .ok (.iload 6, 2) := by decide +kernel
theorem dX8_laces_127 : decode cX8_laces 127 = .ok (.iload_n 1, 1) := by decide +kernel
theorem dX8_laces_128 : decode cX8_laces 128 = .ok (.if_icmp .ge 43, 3) := by decide +kernel
theorem dX8_laces_131 : decode cX8_laces 131 = .ok (.aload_n 0, 1) := by decide +kernel
theorem dX8_laces_132 : decode cX8_laces 132 = .ok (.getfield 7, 3) := by decide +kernel
theorem dX8_laces_135 : decode cX8_laces 135 = .ok (.bipush 40, 2) := by decide +kernel
theorem dX8_laces_137 : decode cX8_laces 137 = .ok (.iload_n 2, 1) := by decide +kernel
theorem dX8_laces_138 : decode cX8_laces 138 = .ok (.imul, 1) := by decide +kernel
theorem dX8_laces_139 : decode cX8_laces 139 = .ok (.iload 6, 2) := by decide +kernel
theorem dX8_laces_141 : decode cX8_laces 141 = .ok (.iadd, 1) := by decide +kernel
theorem dX8_laces_142 : decode cX8_laces 142 = .ok (.aload_n 0, 1) := by decide +kernel
theorem dX8_laces_143 : decode cX8_laces 143 = .ok (.getfield 71, 3) := by decide +kernel
theorem dX8_laces_146 : decode cX8_laces 146 = .ok (.iload 6, 2) := by decide +kernel
theorem dX8_laces_148 : decode cX8_laces 148 = .ok (.iaload, 1) := by decide +kernel
theorem dX8_laces_149 : decode cX8_laces 149 = .ok (.ifCond .ge 8, 3) := by decide +kernel
theorem dX8_laces_152 : decode cX8_laces 152 = .ok (.bipush (-9), 2) := by decide +kernel
theorem dX8_laces_154 : decode cX8_laces 154 = .ok (.goto 10, 3) := by decide +kernel
theorem dX8_laces_157 : decode cX8_laces 157 = .ok (.aload_n 0, 1) := by decide +kernel
theorem dX8_laces_158 : decode cX8_laces 158 = .ok (.getfield 71, 3) := by decide +kernel
theorem dX8_laces_161 : decode cX8_laces 161 = .ok (.iload 6, 2) := by decide +kernel
theorem dX8_laces_163 : decode cX8_laces 163 = .ok (.iaload, 1) := by decide +kernel
theorem dX8_laces_164 : decode cX8_laces 164 = .ok (.iastore, 1) := by decide +kernel
theorem dX8_laces_165 : decode cX8_laces 165 = .ok (.iinc 6 1, 3) := by decide +kernel
theorem dX8_laces_168 : decode cX8_laces 168 = .ok (.goto (-43), 3) := by decide +kernel
theorem dX8_laces_171 : decode cX8_laces 171 = .ok (.iload_n 3, 1) := by decide +kernel
theorem dX8_laces_172 : decode cX8_laces 172 = .ok (.ireturn, 1) := by decide +kernel
theorem dX8_refusesTriples_0 : decode cX8_refusesTriples 0 = .ok (.aload_n 0, 1) := by decide +kernel
theorem dX8_refusesTriples_1 : decode cX8_refusesTriples 1 = .ok (.getfield 13, 3) := by decide +kernel
theorem dX8_refusesTriples_4 : decode cX8_refusesTriples 4 = .ok (.iload_n 1, 1) := by decide +kernel
theorem dX8_refusesTriples_5 : decode cX8_refusesTriples 5 = .ok (.iaload, 1) := by decide +kernel
theorem dX8_refusesTriples_6 : decode cX8_refusesTriples 6 = .ok (.ifCond .ge 9, 3) := by decide +kernel
theorem dX8_refusesTriples_9 : decode cX8_refusesTriples 9 = .ok (.aload_n 0, 1) := by decide +kernel
theorem dX8_refusesTriples_10 : decode cX8_refusesTriples 10 = .ok (.iconst 1, 1) := by decide +kernel
theorem dX8_refusesTriples_11 : decode cX8_refusesTriples 11 = .ok (.invokevirtual 105, 3) := by decide +kernel
theorem dX8_refusesTriples_14 : decode cX8_refusesTriples 14 = .ok (.ireturn, 1) := by decide +kernel
theorem dX8_refusesTriples_15 : decode cX8_refusesTriples 15 = .ok (.aload_n 0, 1) := by decide +kernel
theorem dX8_refusesTriples_16 : decode cX8_refusesTriples 16 = .ok (.getfield 13, 3) := by decide +kernel
theorem dX8_refusesTriples_19 : decode cX8_refusesTriples 19 = .ok (.iload_n 1, 1) := by decide +kernel
theorem dX8_refusesTriples_20 : decode cX8_refusesTriples 20 = .ok (.iaload, 1) := by decide +kernel
theorem dX8_refusesTriples_21 : decode cX8_refusesTriples 21 = .ok (.iconst 3, 1) := by decide +kernel
theorem dX8_refusesTriples_22 : decode cX8_refusesTriples 22 = .ok (.irem, 1) := by decide +kernel
theorem dX8_refusesTriples_23 : decode cX8_refusesTriples 23 = .ok (.ifCond .eq 9, 3) := by decide +kernel
theorem dX8_refusesTriples_26 : decode cX8_refusesTriples 26 = .ok (.aload_n 0, 1) := by decide +kernel
theorem dX8_refusesTriples_27 : decode cX8_refusesTriples 27 = .ok (.iconst 5, 1) := by decide +kernel
theorem dX8_refusesTriples_28 : decode cX8_refusesTriples 28 = .ok (.invokevirtual 105, 3) := by decide +kernel
theorem dX8_refusesTriples_31 : decode cX8_refusesTriples 31 = .ok (.ireturn, 1) := by decide +kernel
theorem dX8_refusesTriples_32 : decode cX8_refusesTriples 32 = .ok (.bipush 40, 2) := by decide +kernel
theorem dX8_refusesTriples_34 : decode cX8_refusesTriples 34 = .ok (.iload_n 1, 1) := by decide +kernel
theorem dX8_refusesTriples_35 : decode cX8_refusesTriples 35 = .ok (.imul, 1) := by decide +kernel
theorem dX8_refusesTriples_36 : decode cX8_refusesTriples 36 = .ok (.istore_n 2, 1) := by decide +kernel
theorem dX8_refusesTriples_37 : decode cX8_refusesTriples 37 = .ok (.iload_n 2, 1) := by decide +kernel
theorem dX8_refusesTriples_38 : decode cX8_refusesTriples 38 = .ok (.bipush 40, 2) := by decide +kernel
theorem dX8_refusesTriples_40 : decode cX8_refusesTriples 40 = .ok (.iload_n 1, 1) := by decide +kernel
theorem dX8_refusesTriples_41 : decode cX8_refusesTriples 41 = .ok (.imul, 1) := by decide +kernel
theorem dX8_refusesTriples_42 : decode cX8_refusesTriples 42 = .ok (.aload_n 0, 1) := by decide +kernel
theorem dX8_refusesTriples_43 : decode cX8_refusesTriples 43 = .ok (.getfield 13, 3) := by decide +kernel
theorem dX8_refusesTriples_46 : decode cX8_refusesTriples 46 = .ok (.iload_n 1, 1) := by decide +kernel
theorem dX8_refusesTriples_47 : decode cX8_refusesTriples 47 = .ok (.iaload, 1) := by decide +kernel
theorem dX8_refusesTriples_48 : decode cX8_refusesTriples 48 = .ok (.iadd, 1) := by decide +kernel
theorem dX8_refusesTriples_49 : decode cX8_refusesTriples 49 = .ok (.if_icmp .ge 68, 3) := by decide +kernel
theorem dX8_refusesTriples_52 : decode cX8_refusesTriples 52 = .ok (.aload_n 0, 1) := by decide +kernel
theorem dX8_refusesTriples_53 : decode cX8_refusesTriples 53 = .ok (.getfield 7, 3) := by decide +kernel
theorem dX8_refusesTriples_56 : decode cX8_refusesTriples 56 = .ok (.iload_n 2, 1) := by decide +kernel
theorem dX8_refusesTriples_57 : decode cX8_refusesTriples 57 = .ok (.iaload, 1) := by decide +kernel
theorem dX8_refusesTriples_58 : decode cX8_refusesTriples 58 = .ok (.i2l, 1) := by decide +kernel
theorem dX8_refusesTriples_59 : decode cX8_refusesTriples 59 = .ok (.lconst 0, 1) := by decide +kernel
theorem dX8_refusesTriples_60 : decode cX8_refusesTriples 60 = .ok (.ldc2_w 215, 3) := by decide +kernel
theorem dX8_refusesTriples_63 : decode cX8_refusesTriples 63 = .ok (.invokestatic 95, 3) := by decide +kernel
theorem dX8_refusesTriples_66 : decode cX8_refusesTriples 66 = .ok (.ifCond .eq 39, 3) := by decide +kernel
theorem dX8_refusesTriples_69 : decode cX8_refusesTriples 69 = .ok (.aload_n 0, 1) := by decide +kernel
theorem dX8_refusesTriples_70 : decode cX8_refusesTriples 70 = .ok (.getfield 7, 3) := by decide +kernel
theorem dX8_refusesTriples_73 : decode cX8_refusesTriples 73 = .ok (.iload_n 2, 1) := by decide +kernel
theorem dX8_refusesTriples_74 : decode cX8_refusesTriples 74 = .ok (.iconst 1, 1) := by decide +kernel
theorem dX8_refusesTriples_75 : decode cX8_refusesTriples 75 = .ok (.iadd, 1) := by decide +kernel
theorem dX8_refusesTriples_76 : decode cX8_refusesTriples 76 = .ok (.iaload, 1) := by decide +kernel
theorem dX8_refusesTriples_77 : decode cX8_refusesTriples 77 = .ok (.i2l, 1) := by decide +kernel
theorem dX8_refusesTriples_78 : decode cX8_refusesTriples 78 = .ok (.lconst 0, 1) := by decide +kernel
theorem dX8_refusesTriples_79 : decode cX8_refusesTriples 79 = .ok (.ldc2_w 261, 3) := by decide +kernel
theorem dX8_refusesTriples_82 : decode cX8_refusesTriples 82 = .ok (.invokestatic 95, 3) := by decide +kernel
theorem dX8_refusesTriples_85 : decode cX8_refusesTriples 85 = .ok (.ifCond .eq 20, 3) := by decide +kernel
theorem dX8_refusesTriples_88 : decode cX8_refusesTriples 88 = .ok (.aload_n 0, 1) := by decide +kernel
theorem dX8_refusesTriples_89 : decode cX8_refusesTriples 89 = .ok (.getfield 7, 3) := by decide +kernel
theorem dX8_refusesTriples_92 : decode cX8_refusesTriples 92 = .ok (.iload_n 2, 1) := by decide +kernel
theorem dX8_refusesTriples_93 : decode cX8_refusesTriples 93 = .ok (.iconst 2, 1) := by decide +kernel
theorem dX8_refusesTriples_94 : decode cX8_refusesTriples 94 = .ok (.iadd, 1) := by decide +kernel
theorem dX8_refusesTriples_95 : decode cX8_refusesTriples 95 = .ok (.iaload, 1) := by decide +kernel
theorem dX8_refusesTriples_96 : decode cX8_refusesTriples 96 = .ok (.i2l, 1) := by decide +kernel
theorem dX8_refusesTriples_97 : decode cX8_refusesTriples 97 = .ok (.lconst 0, 1) := by decide +kernel
theorem dX8_refusesTriples_98 : decode cX8_refusesTriples 98 = .ok (.lconst 1, 1) := by decide +kernel
theorem dX8_refusesTriples_99 : decode cX8_refusesTriples 99 = .ok (.invokestatic 95, 3) := by decide +kernel
theorem dX8_refusesTriples_102 : decode cX8_refusesTriples 102 = .ok (.ifCond .ne 9, 3) := by decide +kernel
theorem dX8_refusesTriples_105 : decode cX8_refusesTriples 105 = .ok (.aload_n 0, 1) := by decide +kernel
theorem dX8_refusesTriples_106 : decode cX8_refusesTriples 106 = .ok (.iconst 3, 1) := by decide +kernel
theorem dX8_refusesTriples_107 : decode cX8_refusesTriples 107 = .ok (.invokevirtual 105, 3) := by decide +kernel
theorem dX8_refusesTriples_110 : decode cX8_refusesTriples 110 = .ok (.ireturn, 1) := by decide +kernel
theorem dX8_refusesTriples_111 : decode cX8_refusesTriples 111 = .ok (.iinc 2 3, 3) := by decide +kernel
theorem dX8_refusesTriples_114 : decode cX8_refusesTriples 114 = .ok (.goto (-77), 3) := by decide +kernel
theorem dX8_refusesTriples_117 : decode cX8_refusesTriples 117 = .ok (.iconst 0, 1) := by decide +kernel
theorem dX8_refusesTriples_118 : decode cX8_refusesTriples 118 = .ok (.ireturn, 1) := by decide +kernel
theorem dX8_fits_0 : decode cX8_fits 0 = .ok (.iconst 1, 1) := by decide +kernel
theorem dX8_fits_1 : decode cX8_fits 1 = .ok (.istore 5, 2) := by decide +kernel
theorem dX8_fits_3 : decode cX8_fits 3 = .ok (.bipush 40, 2) := by decide +kernel
theorem dX8_fits_5 : decode cX8_fits 5 = .ok (.iload 4, 2) := by decide +kernel
theorem dX8_fits_7 : decode cX8_fits 7 = .ok (.imul, 1) := by decide +kernel
theorem dX8_fits_8 : decode cX8_fits 8 = .ok (.istore 6, 2) := by decide +kernel
theorem dX8_fits_10 : decode cX8_fits 10 = .ok (.iload 6, 2) := by decide +kernel
theorem dX8_fits_12 : decode cX8_fits 12 = .ok (.bipush 40, 2) := by decide +kernel
theorem dX8_fits_14 : decode cX8_fits 14 = .ok (.iload 4, 2) := by decide +kernel
theorem dX8_fits_16 : decode cX8_fits 16 = .ok (.imul, 1) := by decide +kernel
theorem dX8_fits_17 : decode cX8_fits 17 = .ok (.aload_n 0, 1) := by decide +kernel
theorem dX8_fits_18 : decode cX8_fits 18 = .ok (.getfield 13, 3) := by decide +kernel
theorem dX8_fits_21 : decode cX8_fits 21 = .ok (.iload 4, 2) := by decide +kernel
theorem dX8_fits_23 : decode cX8_fits 23 = .ok (.iaload, 1) := by decide +kernel
theorem dX8_fits_24 : decode cX8_fits 24 = .ok (.iadd, 1) := by decide +kernel
theorem dX8_fits_25 : decode cX8_fits 25 = .ok (.if_icmp .ge 77, 3) := by decide +kernel
theorem dX8_fits_28 : decode cX8_fits 28 = .ok (.iload 5, 2) := by decide +kernel
theorem dX8_fits_30 : decode cX8_fits 30 = .ok (.ifCond .eq 63, 3) := by decide +kernel
theorem dX8_fits_33 : decode cX8_fits 33 = .ok (.iload_n 1, 1) := by decide +kernel
theorem dX8_fits_34 : decode cX8_fits 34 = .ok (.aload_n 0, 1) := by decide +kernel
theorem dX8_fits_35 : decode cX8_fits 35 = .ok (.getfield 32, 3) := by decide +kernel
theorem dX8_fits_38 : decode cX8_fits 38 = .ok (.iload_n 2, 1) := by decide +kernel
theorem dX8_fits_39 : decode cX8_fits 39 = .ok (.iaload, 1) := by decide +kernel
theorem dX8_fits_40 : decode cX8_fits 40 = .ok (.iload_n 3, 1) := by decide +kernel
theorem dX8_fits_41 : decode cX8_fits 41 = .ok (.aload_n 0, 1) := by decide +kernel
theorem dX8_fits_42 : decode cX8_fits 42 = .ok (.getfield 7, 3) := by decide +kernel
theorem dX8_fits_45 : decode cX8_fits 45 = .ok (.iload 6, 2) := by decide +kernel
theorem dX8_fits_47 : decode cX8_fits 47 = .ok (.iaload, 1) := by decide +kernel
theorem dX8_fits_48 : decode cX8_fits 48 = .ok (.invokestatic 169, 3) := by decide +kernel
theorem dX8_fits_51 : decode cX8_fits 51 = .ok (.aload_n 0, 1) := by decide +kernel
theorem dX8_fits_52 : decode cX8_fits 52 = .ok (.getfield 7, 3) := by decide +kernel
theorem dX8_fits_55 : decode cX8_fits 55 = .ok (.iload 6, 2) := by decide +kernel
theorem dX8_fits_57 : decode cX8_fits 57 = .ok (.iconst 1, 1) := by decide +kernel
theorem dX8_fits_58 : decode cX8_fits 58 = .ok (.iadd, 1) := by decide +kernel
theorem dX8_fits_59 : decode cX8_fits 59 = .ok (.iaload, 1) := by decide +kernel
theorem dX8_fits_60 : decode cX8_fits 60 = .ok (.if_icmp .lt 7, 3) := by decide +kernel
theorem dX8_fits_63 : decode cX8_fits 63 = .ok (.iconst 1, 1) := by decide +kernel
theorem dX8_fits_64 : decode cX8_fits 64 = .ok (.goto 4, 3) := by decide +kernel
theorem dX8_fits_67 : decode cX8_fits 67 = .ok (.iconst 0, 1) := by decide +kernel
theorem dX8_fits_68 : decode cX8_fits 68 = .ok (.aload_n 0, 1) := by decide +kernel
theorem dX8_fits_69 : decode cX8_fits 69 = .ok (.getfield 7, 3) := by decide +kernel
theorem dX8_fits_72 : decode cX8_fits 72 = .ok (.iload 6, 2) := by decide +kernel
theorem dX8_fits_74 : decode cX8_fits 74 = .ok (.iconst 2, 1) := by decide +kernel
theorem dX8_fits_75 : decode cX8_fits 75 = .ok (.iadd, 1) := by decide +kernel
theorem dX8_fits_76 : decode cX8_fits 76 = .ok (.iaload, 1) := by decide +kernel
theorem dX8_fits_77 : decode cX8_fits 77 = .ok (.iconst 1, 1) := by decide +kernel
theorem dX8_fits_78 : decode cX8_fits 78 = .ok (.if_icmp .ne 7, 3) := by decide +kernel
theorem dX8_fits_81 : decode cX8_fits 81 = .ok (.iconst 1, 1) := by decide +kernel
theorem dX8_fits_82 : decode cX8_fits 82 = .ok (.goto 4, 3) := by decide +kernel
theorem dX8_fits_85 : decode cX8_fits 85 = .ok (.iconst 0, 1) := by decide +kernel
theorem dX8_fits_86 : decode cX8_fits 86 = .ok (.if_icmp .ne 7, 3) := by decide +kernel
theorem dX8_fits_89 : decode cX8_fits 89 = .ok (.iconst 1, 1) := by decide +kernel
theorem dX8_fits_90 : decode cX8_fits 90 = .ok (.goto 4, 3) := by decide +kernel
theorem dX8_fits_93 : decode cX8_fits 93 = .ok (.iconst 0, 1) := by decide +kernel
theorem dX8_fits_94 : decode cX8_fits 94 = .ok (.istore 5, 2) := by decide +kernel
theorem dX8_fits_96 : decode cX8_fits 96 = .ok (.iinc 6 3, 3) := by decide +kernel
theorem dX8_fits_99 : decode cX8_fits 99 = .ok (.goto (-89), 3) := by decide +kernel
theorem dX8_fits_102 : decode cX8_fits 102 = .ok (.iload 5, 2) := by decide +kernel
theorem dX8_fits_104 : decode cX8_fits 104 = .ok (.ireturn, 1) := by decide +kernel
theorem dX8_strengths_0 : decode cX8_strengths 0 = .ok (.aload_n 0, 1) := by decide +kernel
theorem dX8_strengths_1 : decode cX8_strengths 1 = .ok (.iload_n 1, 1) := by decide +kernel
theorem dX8_strengths_2 : decode cX8_strengths 2 = .ok (.invokevirtual 206, 3) := by decide +kernel
theorem dX8_strengths_5 : decode cX8_strengths 5 = .ok (.ifCond .eq 10, 3) := by decide +kernel
theorem dX8_strengths_8 : decode cX8_strengths 8 = .ok (.iload_n 2, 1) := by decide +kernel
theorem dX8_strengths_9 : decode cX8_strengths 9 = .ok (.invokestatic 101, 3) := by decide +kernel
theorem dX8_strengths_12 : decode cX8_strengths 12 = .ok (.ifCond .ne 5, 3) := by decide +kernel
theorem dX8_strengths_15 : decode cX8_strengths 15 = .ok (.iconst (-1), 1) := by decide +kernel
theorem dX8_strengths_16 : decode cX8_strengths 16 = .ok (.ireturn, 1) := by decide +kernel
theorem dX8_strengths_17 : decode cX8_strengths 17 = .ok (.aload_n 0, 1) := by decide +kernel
theorem dX8_strengths_18 : decode cX8_strengths 18 = .ok (.iload_n 2, 1) := by decide +kernel
theorem dX8_strengths_19 : decode cX8_strengths 19 = .ok (.invokevirtual 263, 3) := by decide +kernel
theorem dX8_strengths_22 : decode cX8_strengths 22 = .ok (.istore_n 3, 1) := by decide +kernel
theorem dX8_strengths_23 : decode cX8_strengths 23 = .ok (.iload_n 3, 1) := by decide +kernel
theorem dX8_strengths_24 : decode cX8_strengths 24 = .ok (.ifCond .eq 5, 3) := by decide +kernel
theorem dX8_strengths_27 : decode cX8_strengths 27 = .ok (.iload_n 3, 1) := by decide +kernel
theorem dX8_strengths_28 : decode cX8_strengths 28 = .ok (.ireturn, 1) := by decide +kernel
theorem dX8_strengths_29 : decode cX8_strengths 29 = .ok (.iconst 0, 1) := by decide +kernel
theorem dX8_strengths_30 : decode cX8_strengths 30 = .ok (.istore 4, 2) := by decide +kernel
theorem dX8_strengths_32 : decode cX8_strengths 32 = .ok (.iconst 0, 1) := by decide +kernel
theorem dX8_strengths_33 : decode cX8_strengths 33 = .ok (.istore 5, 2) := by decide +kernel
theorem dX8_strengths_35 : decode cX8_strengths 35 = .ok (.bipush 60, 2) := by decide +kernel
theorem dX8_strengths_37 : decode cX8_strengths 37 = .ok (.istore 6, 2) := by decide +kernel
theorem dX8_strengths_39 : decode cX8_strengths 39 = .ok (.iload 6, 2) := by decide +kernel
theorem dX8_strengths_41 : decode cX8_strengths 41 = .ok (.ifCond .lt 54, 3) := by decide +kernel
theorem dX8_strengths_44 : decode cX8_strengths 44 = .ok (.aload_n 0, 1) := by decide +kernel
theorem dX8_strengths_45 : decode cX8_strengths 45 = .ok (.aload_n 0, 1) := by decide +kernel
theorem dX8_strengths_46 : decode cX8_strengths 46 = .ok (.getfield 29, 3) := by decide +kernel
theorem dX8_strengths_49 : decode cX8_strengths 49 = .ok (.iload_n 1, 1) := by decide +kernel
theorem dX8_strengths_50 : decode cX8_strengths 50 = .ok (.iaload, 1) := by decide +kernel
theorem dX8_strengths_51 : decode cX8_strengths 51 = .ok (.iload_n 1, 1) := by decide +kernel
theorem dX8_strengths_52 : decode cX8_strengths 52 = .ok (.iload 6, 2) := by decide +kernel
theorem dX8_strengths_54 : decode cX8_strengths 54 = .ok (.iload_n 2, 1) := by decide +kernel
theorem dX8_strengths_55 : decode cX8_strengths 55 = .ok (.invokevirtual 266, 3) := by decide +kernel
theorem dX8_strengths_58 : decode cX8_strengths 58 = .ok (.istore 7, 2) := by decide +kernel
theorem dX8_strengths_60 : decode cX8_strengths 60 = .ok (.iload 4, 2) := by decide +kernel
theorem dX8_strengths_62 : decode cX8_strengths 62 = .ok (.iload 7, 2) := by decide +kernel
theorem dX8_strengths_64 : decode cX8_strengths 64 = .ok (.ifCond .eq 7, 3) := by decide +kernel
theorem dX8_strengths_67 : decode cX8_strengths 67 = .ok (.iconst 1, 1) := by decide +kernel
theorem dX8_strengths_68 : decode cX8_strengths 68 = .ok (.goto 4, 3) := by decide +kernel
theorem dX8_strengths_71 : decode cX8_strengths 71 = .ok (.iconst 0, 1) := by decide +kernel
theorem dX8_strengths_72 : decode cX8_strengths 72 = .ok (.iadd, 1) := by decide +kernel
theorem dX8_strengths_73 : decode cX8_strengths 73 = .ok (.istore 4, 2) := by decide +kernel
theorem dX8_strengths_75 : decode cX8_strengths 75 = .ok (.iload 7, 2) := by decide +kernel
theorem dX8_strengths_77 : decode cX8_strengths 77 = .ok (.ifCond .eq 8, 3) := by decide +kernel
theorem dX8_strengths_80 : decode cX8_strengths 80 = .ok (.iload 6, 2) := by decide +kernel
theorem dX8_strengths_82 : decode cX8_strengths 82 = .ok (.goto 5, 3) := by decide +kernel
theorem dX8_strengths_85 : decode cX8_strengths 85 = .ok (.iload 5, 2) := by decide +kernel
theorem dX8_strengths_87 : decode cX8_strengths 87 = .ok (.istore 5, 2) := by decide +kernel
theorem dX8_strengths_89 : decode cX8_strengths 89 = .ok (.iinc 6 (-1), 3) := by decide +kernel
theorem dX8_strengths_92 : decode cX8_strengths 92 = .ok (.goto (-53), 3) := by decide +kernel
theorem dX8_strengths_95 : decode cX8_strengths 95 = .ok (.iload 4, 2) := by decide +kernel
theorem dX8_strengths_97 : decode cX8_strengths 97 = .ok (.ifCond .ne 8, 3) := by decide +kernel
theorem dX8_strengths_100 : decode cX8_strengths 100 = .ok (.bipush (-9), 2) := by decide +kernel
theorem dX8_strengths_102 : decode cX8_strengths 102 = .ok (.goto 11, 3) := by decide +kernel
theorem dX8_strengths_105 : decode cX8_strengths 105 = .ok (.aload_n 0, 1) := by decide +kernel
theorem dX8_strengths_106 : decode cX8_strengths 106 = .ok (.iload 4, 2) := by decide +kernel
theorem dX8_strengths_108 : decode cX8_strengths 108 = .ok (.iload 5, 2) := by decide +kernel
theorem dX8_strengths_110 : decode cX8_strengths 110 = .ok (.invokevirtual 229, 3) := by decide +kernel
theorem dX8_strengths_113 : decode cX8_strengths 113 = .ok (.ireturn, 1) := by decide +kernel
theorem dX8_kindsBy_0 : decode cX8_kindsBy 0 = .ok (.iconst 0, 1) := by decide +kernel
theorem dX8_kindsBy_1 : decode cX8_kindsBy 1 = .ok (.istore_n 3, 1) := by decide +kernel
theorem dX8_kindsBy_2 : decode cX8_kindsBy 2 = .ok (.iconst 0, 1) := by decide +kernel
theorem dX8_kindsBy_3 : decode cX8_kindsBy 3 = .ok (.istore 4, 2) := by decide +kernel
theorem dX8_kindsBy_5 : decode cX8_kindsBy 5 = .ok (.iload 4, 2) := by decide +kernel
theorem dX8_kindsBy_7 : decode cX8_kindsBy 7 = .ok (.bipush 6, 2) := by decide +kernel
theorem dX8_kindsBy_9 : decode cX8_kindsBy 9 = .ok (.if_icmp .ge 37, 3) := by decide +kernel
theorem dX8_kindsBy_12 : decode cX8_kindsBy 12 = .ok (.iload_n 3, 1) := by decide +kernel
theorem dX8_kindsBy_13 : decode cX8_kindsBy 13 = .ok (.aload_n 0, 1) := by decide +kernel
theorem dX8_kindsBy_14 : decode cX8_kindsBy 14 = .ok (.iload 4, 2) := by decide +kernel
theorem dX8_kindsBy_16 : decode cX8_kindsBy 16 = .ok (.iload_n 1, 1) := by decide +kernel
theorem dX8_kindsBy_17 : decode cX8_kindsBy 17 = .ok (.aload_n 0, 1) := by decide +kernel
theorem dX8_kindsBy_18 : decode cX8_kindsBy 18 = .ok (.getfield 35, 3) := by decide +kernel
theorem dX8_kindsBy_21 : decode cX8_kindsBy 21 = .ok (.iload_n 1, 1) := by decide +kernel
theorem dX8_kindsBy_22 : decode cX8_kindsBy 22 = .ok (.iaload, 1) := by decide +kernel
theorem dX8_kindsBy_23 : decode cX8_kindsBy 23 = .ok (.iload_n 2, 1) := by decide +kernel
theorem dX8_kindsBy_24 : decode cX8_kindsBy 24 = .ok (.invokevirtual 266, 3) := by decide +kernel
theorem dX8_kindsBy_27 : decode cX8_kindsBy 27 = .ok (.ifCond .eq 10, 3) := by decide +kernel
theorem dX8_kindsBy_30 : decode cX8_kindsBy 30 = .ok (.iconst 1, 1) := by decide +kernel
theorem dX8_kindsBy_31 : decode cX8_kindsBy 31 = .ok (.iload 4, 2) := by decide +kernel
theorem dX8_kindsBy_33 : decode cX8_kindsBy 33 = .ok (.ishl, 1) := by decide +kernel
theorem dX8_kindsBy_34 : decode cX8_kindsBy 34 = .ok (.goto 4, 3) := by decide +kernel
theorem dX8_kindsBy_37 : decode cX8_kindsBy 37 = .ok (.iconst 0, 1) := by decide +kernel
theorem dX8_kindsBy_38 : decode cX8_kindsBy 38 = .ok (.ior, 1) := by decide +kernel
theorem dX8_kindsBy_39 : decode cX8_kindsBy 39 = .ok (.istore_n 3, 1) := by decide +kernel
theorem dX8_kindsBy_40 : decode cX8_kindsBy 40 = .ok (.iinc 4 1, 3) := by decide +kernel
theorem dX8_kindsBy_43 : decode cX8_kindsBy 43 = .ok (.goto (-38), 3) := by decide +kernel
theorem dX8_kindsBy_46 : decode cX8_kindsBy 46 = .ok (.iload_n 3, 1) := by decide +kernel
theorem dX8_kindsBy_47 : decode cX8_kindsBy 47 = .ok (.ireturn, 1) := by decide +kernel
theorem dX8_kinds_0 : decode cX8_kinds 0 = .ok (.aload_n 0, 1) := by decide +kernel
theorem dX8_kinds_1 : decode cX8_kinds 1 = .ok (.iload_n 1, 1) := by decide +kernel
theorem dX8_kinds_2 : decode cX8_kinds 2 = .ok (.invokevirtual 206, 3) := by decide +kernel
theorem dX8_kinds_5 : decode cX8_kinds 5 = .ok (.ifCond .eq 10, 3) := by decide +kernel
theorem dX8_kinds_8 : decode cX8_kinds 8 = .ok (.iload_n 2, 1) := by decide +kernel
theorem dX8_kinds_9 : decode cX8_kinds 9 = .ok (.invokestatic 101, 3) := by decide +kernel
theorem dX8_kinds_12 : decode cX8_kinds 12 = .ok (.ifCond .ne 5, 3) := by decide +kernel
theorem dX8_kinds_15 : decode cX8_kinds 15 = .ok (.iconst (-1), 1) := by decide +kernel
theorem dX8_kinds_16 : decode cX8_kinds 16 = .ok (.ireturn, 1) := by decide +kernel
theorem dX8_kinds_17 : decode cX8_kinds 17 = .ok (.aload_n 0, 1) := by decide +kernel
theorem dX8_kinds_18 : decode cX8_kinds 18 = .ok (.iload_n 2, 1) := by decide +kernel
theorem dX8_kinds_19 : decode cX8_kinds 19 = .ok (.invokevirtual 263, 3) := by decide +kernel
theorem dX8_kinds_22 : decode cX8_kinds 22 = .ok (.istore_n 3, 1) := by decide +kernel
theorem dX8_kinds_23 : decode cX8_kinds 23 = .ok (.iload_n 3, 1) := by decide +kernel
theorem dX8_kinds_24 : decode cX8_kinds 24 = .ok (.ifCond .eq 7, 3) := by decide +kernel
theorem dX8_kinds_27 : decode cX8_kinds 27 = .ok (.iload_n 3, 1) := by decide +kernel
theorem dX8_kinds_28 : decode cX8_kinds 28 = .ok (.goto 9, 3) := by decide +kernel
theorem dX8_kinds_31 : decode cX8_kinds 31 = .ok (.aload_n 0, 1) := by decide +kernel
theorem dX8_kinds_32 : decode cX8_kinds 32 = .ok (.iload_n 1, 1) := by decide +kernel
theorem dX8_kinds_33 : decode cX8_kinds 33 = .ok (.iload_n 2, 1) := by decide +kernel
theorem dX8_kinds_34 : decode cX8_kinds 34 = .ok (.invokevirtual 270, 3) := by decide +kernel
theorem dX8_kinds_37 : decode cX8_kinds 37 = .ok (.ireturn, 1) := by decide +kernel
theorem dX8_test_0 : decode cX8_test 0 = .ok (.aload_n 0, 1) := by decide +kernel
theorem dX8_test_1 : decode cX8_test 1 = .ok (.iload_n 1, 1) := by decide +kernel
theorem dX8_test_2 : decode cX8_test 2 = .ok (.invokevirtual 206, 3) := by decide +kernel
theorem dX8_test_5 : decode cX8_test 5 = .ok (.ifCond .eq 10, 3) := by decide +kernel
theorem dX8_test_8 : decode cX8_test 8 = .ok (.iload_n 2, 1) := by decide +kernel
theorem dX8_test_9 : decode cX8_test 9 = .ok (.invokestatic 101, 3) := by decide +kernel
theorem dX8_test_12 : decode cX8_test 12 = .ok (.ifCond .ne 5, 3) := by decide +kernel
theorem dX8_test_15 : decode cX8_test 15 = .ok (.iconst (-1), 1) := by decide +kernel
theorem dX8_test_16 : decode cX8_test 16 = .ok (.ireturn, 1) := by decide +kernel
theorem dX8_test_17 : decode cX8_test 17 = .ok (.aload_n 0, 1) := by decide +kernel
theorem dX8_test_18 : decode cX8_test 18 = .ok (.iload_n 2, 1) := by decide +kernel
theorem dX8_test_19 : decode cX8_test 19 = .ok (.invokevirtual 263, 3) := by decide +kernel
theorem dX8_test_22 : decode cX8_test 22 = .ok (.istore_n 3, 1) := by decide +kernel
theorem dX8_test_23 : decode cX8_test 23 = .ok (.iload_n 3, 1) := by decide +kernel
theorem dX8_test_24 : decode cX8_test 24 = .ok (.ifCond .eq 5, 3) := by decide +kernel
theorem dX8_test_27 : decode cX8_test 27 = .ok (.iload_n 3, 1) := by decide +kernel
theorem dX8_test_28 : decode cX8_test 28 = .ok (.ireturn, 1) := by decide +kernel
theorem dX8_test_29 : decode cX8_test 29 = .ok (.aload_n 0, 1) := by decide +kernel
theorem dX8_test_30 : decode cX8_test 30 = .ok (.iload_n 1, 1) := by decide +kernel
theorem dX8_test_31 : decode cX8_test 31 = .ok (.iload_n 2, 1) := by decide +kernel
theorem dX8_test_32 : decode cX8_test 32 = .ok (.invokevirtual 270, 3) := by decide +kernel
theorem dX8_test_35 : decode cX8_test 35 = .ok (.istore 4, 2) := by decide +kernel
theorem dX8_test_37 : decode cX8_test 37 = .ok (.iconst 0, 1) := by decide +kernel
theorem dX8_test_38 : decode cX8_test 38 = .ok (.istore 5, 2) := by decide +kernel
theorem dX8_test_40 : decode cX8_test 40 = .ok (.ldc 254, 2) := by decide +kernel
theorem dX8_test_42 : decode cX8_test 42 = .ok (.istore 6, 2) := by decide +kernel
theorem dX8_test_44 : decode cX8_test 44 = .ok (.iconst 0, 1) := by decide +kernel
theorem dX8_test_45 : decode cX8_test 45 = .ok (.istore 7, 2) := by decide +kernel
theorem dX8_test_47 : decode cX8_test 47 = .ok (.iload 7, 2) := by decide +kernel
theorem dX8_test_49 : decode cX8_test 49 = .ok (.bipush 100, 2) := by decide +kernel
theorem dX8_test_51 : decode cX8_test 51 = .ok (.if_icmp .ge 128, 3) := by decide +kernel
theorem dX8_test_54 : decode cX8_test 54 = .ok (.iconst 0, 1) := by decide +kernel
theorem dX8_test_55 : decode cX8_test 55 = .ok (.istore 8, 2) := by decide +kernel
theorem dX8_test_57 : decode cX8_test 57 = .ok (.iconst 0, 1) := by decide +kernel
theorem dX8_test_58 : decode cX8_test 58 = .ok (.istore 9, 2) := by decide +kernel
theorem dX8_test_60 : decode cX8_test 60 = .ok (.iload 9, 2) := by decide +kernel
theorem dX8_test_62 : decode cX8_test 62 = .ok (.bipush 6, 2) := by decide +kernel
theorem dX8_test_64 : decode cX8_test 64 = .ok (.if_icmp .ge 49, 3) := by decide +kernel
theorem dX8_test_67 : decode cX8_test 67 = .ok (.iload 8, 2) := by decide +kernel
theorem dX8_test_69 : decode cX8_test 69 = .ok (.iload 4, 2) := by decide +kernel
theorem dX8_test_71 : decode cX8_test 71 = .ok (.iload 9, 2) := by decide +kernel
theorem dX8_test_73 : decode cX8_test 73 = .ok (.invokestatic 181, 3) := by decide +kernel
theorem dX8_test_76 : decode cX8_test 76 = .ok (.ifCond .eq 27, 3) := by decide +kernel
theorem dX8_test_79 : decode cX8_test 79 = .ok (.aload_n 0, 1) := by decide +kernel
theorem dX8_test_80 : decode cX8_test 80 = .ok (.iload 9, 2) := by decide +kernel
theorem dX8_test_82 : decode cX8_test 82 = .ok (.iload_n 1, 1) := by decide +kernel
theorem dX8_test_83 : decode cX8_test 83 = .ok (.aload_n 0, 1) := by decide +kernel
theorem dX8_test_84 : decode cX8_test 84 = .ok (.getfield 44, 3) := by decide +kernel
theorem dX8_test_87 : decode cX8_test 87 = .ok (.iconst 0, 1) := by decide +kernel
theorem dX8_test_88 : decode cX8_test 88 = .ok (.iload_n 1, 1) := by decide +kernel
theorem dX8_test_89 : decode cX8_test 89 = .ok (.iadd, 1) := by decide +kernel
theorem dX8_test_90 : decode cX8_test 90 = .ok (.iaload, 1) := by decide +kernel
theorem dX8_test_91 : decode cX8_test 91 = .ok (.invokevirtual 173, 3) := by decide +kernel
theorem dX8_test_94 : decode cX8_test 94 = .ok (.iload 7, 2) := by decide +kernel
theorem dX8_test_96 : decode cX8_test 96 = .ok (.if_icmp .lt 7, 3) := by decide +kernel
theorem dX8_test_99 : decode cX8_test 99 = .ok (.iconst 1, 1) := by decide +kernel
theorem dX8_test_100 : decode cX8_test 100 = .ok (.goto 4, 3) := by decide +kernel
theorem dX8_test_103 : decode cX8_test 103 = .ok (.iconst 0, 1) := by decide +kernel
theorem dX8_test_104 : decode cX8_test 104 = .ok (.iadd, 1) := by decide +kernel
theorem dX8_test_105 : decode cX8_test 105 = .ok (.istore 8, 2) := by decide +kernel
theorem dX8_test_107 : decode cX8_test 107 = .ok (.iinc 9 1, 3) := by decide +kernel
theorem dX8_test_110 : decode cX8_test 110 = .ok (.goto (-50), 3) := by decide +kernel
theorem dX8_test_113 : decode cX8_test 113 = .ok (.iload 8, 2) := by decide +kernel
theorem dX8_test_115 : decode cX8_test 115 = .ok (.iload 4, 2) := by decide +kernel
theorem dX8_test_117 : decode cX8_test 117 = .ok (.invokestatic 255, 3) := by decide +kernel
theorem dX8_test_120 : decode cX8_test 120 = .ok (.iload 8, 2) := by decide +kernel
theorem dX8_test_122 : decode cX8_test 122 = .ok (.isub, 1) := by decide +kernel
theorem dX8_test_123 : decode cX8_test 123 = .ok (.if_icmp .le 8, 3) := by decide +kernel
theorem dX8_test_126 : decode cX8_test 126 = .ok (.iload 8, 2) := by decide +kernel
theorem dX8_test_128 : decode cX8_test 128 = .ok (.goto 11, 3) := by decide +kernel
theorem dX8_test_131 : decode cX8_test 131 = .ok (.iload 4, 2) := by decide +kernel
theorem dX8_test_133 : decode cX8_test 133 = .ok (.invokestatic 255, 3) := by decide +kernel
theorem dX8_test_136 : decode cX8_test 136 = .ok (.iload 8, 2) := by decide +kernel
theorem dX8_test_138 : decode cX8_test 138 = .ok (.isub, 1) := by decide +kernel
theorem dX8_test_139 : decode cX8_test 139 = .ok (.istore 9, 2) := by decide +kernel
theorem dX8_test_141 : decode cX8_test 141 = .ok (.iload 9, 2) := by decide +kernel
theorem dX8_test_143 : decode cX8_test 143 = .ok (.iload 6, 2) := by decide +kernel
theorem dX8_test_145 : decode cX8_test 145 = .ok (.if_icmp .ge 8, 3) := by decide +kernel
theorem dX8_test_148 : decode cX8_test 148 = .ok (.iload 7, 2) := by decide +kernel
theorem dX8_test_150 : decode cX8_test 150 = .ok (.goto 5, 3) := by decide +kernel
theorem dX8_test_153 : decode cX8_test 153 = .ok (.iload 5, 2) := by decide +kernel
theorem dX8_test_155 : decode cX8_test 155 = .ok (.istore 5, 2) := by decide +kernel
theorem dX8_test_157 : decode cX8_test 157 = .ok (.iload 9, 2) := by decide +kernel
theorem dX8_test_159 : decode cX8_test 159 = .ok (.iload 6, 2) := by decide +kernel
theorem dX8_test_161 : decode cX8_test 161 = .ok (.if_icmp .ge 8, 3) := by decide +kernel
theorem dX8_test_164 : decode cX8_test 164 = .ok (.iload 9, 2) := by decide +kernel
theorem dX8_test_166 : decode cX8_test 166 = .ok (.goto 5, 3) := by decide +kernel
theorem dX8_test_169 : decode cX8_test 169 = .ok (.iload 6, 2) := by decide +kernel
theorem dX8_test_171 : decode cX8_test 171 = .ok (.istore 6, 2) := by decide +kernel
theorem dX8_test_173 : decode cX8_test 173 = .ok (.iinc 7 1, 3) := by decide +kernel
theorem dX8_test_176 : decode cX8_test 176 = .ok (.goto (-129), 3) := by decide +kernel
theorem dX8_test_179 : decode cX8_test 179 = .ok (.iload 4, 2) := by decide +kernel
theorem dX8_test_181 : decode cX8_test 181 = .ok (.ifCond .ne 8, 3) := by decide +kernel
theorem dX8_test_184 : decode cX8_test 184 = .ok (.bipush (-9), 2) := by decide +kernel
theorem dX8_test_186 : decode cX8_test 186 = .ok (.goto 11, 3) := by decide +kernel
theorem dX8_test_189 : decode cX8_test 189 = .ok (.aload_n 0, 1) := by decide +kernel
theorem dX8_test_190 : decode cX8_test 190 = .ok (.iload 5, 2) := by decide +kernel
theorem dX8_test_192 : decode cX8_test 192 = .ok (.iload 6, 2) := by decide +kernel
theorem dX8_test_194 : decode cX8_test 194 = .ok (.invokevirtual 229, 3) := by decide +kernel
theorem dX8_test_197 : decode cX8_test 197 = .ok (.ireturn, 1) := by decide +kernel
theorem dX8_worth_0 : decode cX8_worth 0 = .ok (.iconst 0, 1) := by decide +kernel
theorem dX8_worth_1 : decode cX8_worth 1 = .ok (.istore_n 1, 1) := by decide +kernel
theorem dX8_worth_2 : decode cX8_worth 2 = .ok (.iconst 0, 1) := by decide +kernel
theorem dX8_worth_3 : decode cX8_worth 3 = .ok (.istore_n 2, 1) := by decide +kernel
theorem dX8_worth_4 : decode cX8_worth 4 = .ok (.iload_n 2, 1) := by decide +kernel
theorem dX8_worth_5 : decode cX8_worth 5 = .ok (.aload_n 0, 1) := by decide +kernel
theorem dX8_worth_6 : decode cX8_worth 6 = .ok (.getfield 166, 3) := by decide +kernel
theorem dX8_worth_9 : decode cX8_worth 9 = .ok (.if_icmp .ge 49, 3) := by decide +kernel
theorem dX8_worth_12 : decode cX8_worth 12 = .ok (.aload_n 0, 1) := by decide +kernel
theorem dX8_worth_13 : decode cX8_worth 13 = .ok (.getfield 47, 3) := by decide +kernel
theorem dX8_worth_16 : decode cX8_worth 16 = .ok (.iconst 5, 1) := by decide +kernel
theorem dX8_worth_17 : decode cX8_worth 17 = .ok (.iload_n 2, 1) := by decide +kernel
theorem dX8_worth_18 : decode cX8_worth 18 = .ok (.iadd, 1) := by decide +kernel
theorem dX8_worth_19 : decode cX8_worth 19 = .ok (.iaload, 1) := by decide +kernel
theorem dX8_worth_20 : decode cX8_worth 20 = .ok (.istore_n 3, 1) := by decide +kernel
theorem dX8_worth_21 : decode cX8_worth 21 = .ok (.iload_n 1, 1) := by decide +kernel
theorem dX8_worth_22 : decode cX8_worth 22 = .ok (.iload_n 3, 1) := by decide +kernel
theorem dX8_worth_23 : decode cX8_worth 23 = .ok (.bipush (-9), 2) := by decide +kernel
theorem dX8_worth_25 : decode cX8_worth 25 = .ok (.if_icmp .eq 24, 3) := by decide +kernel
theorem dX8_worth_28 : decode cX8_worth 28 = .ok (.aload_n 0, 1) := by decide +kernel
theorem dX8_worth_29 : decode cX8_worth 29 = .ok (.aload_n 0, 1) := by decide +kernel
theorem dX8_worth_30 : decode cX8_worth 30 = .ok (.getfield 47, 3) := by decide +kernel
theorem dX8_worth_33 : decode cX8_worth 33 = .ok (.iload_n 3, 1) := by decide +kernel
theorem dX8_worth_34 : decode cX8_worth 34 = .ok (.invokevirtual 196, 3) := by decide +kernel
theorem dX8_worth_37 : decode cX8_worth 37 = .ok (.ifCond .eq 12, 3) := by decide +kernel
theorem dX8_worth_40 : decode cX8_worth 40 = .ok (.aload_n 0, 1) := by decide +kernel
theorem dX8_worth_41 : decode cX8_worth 41 = .ok (.iload_n 2, 1) := by decide +kernel
theorem dX8_worth_42 : decode cX8_worth 42 = .ok (.iload_n 3, 1) := by decide +kernel
theorem dX8_worth_43 : decode cX8_worth 43 = .ok (.invokevirtual 177, 3) := by decide +kernel
theorem dX8_worth_46 : decode cX8_worth 46 = .ok (.goto 4, 3) := by decide +kernel
theorem dX8_worth_49 : decode cX8_worth 49 = .ok (.iconst 0, 1) := by decide +kernel
theorem dX8_worth_50 : decode cX8_worth 50 = .ok (.iadd, 1) := by decide +kernel
theorem dX8_worth_51 : decode cX8_worth 51 = .ok (.istore_n 1, 1) := by decide +kernel
theorem dX8_worth_52 : decode cX8_worth 52 = .ok (.iinc 2 1, 3) := by decide +kernel
theorem dX8_worth_55 : decode cX8_worth 55 = .ok (.goto (-51), 3) := by decide +kernel
theorem dX8_worth_58 : decode cX8_worth 58 = .ok (.iload_n 1, 1) := by decide +kernel
theorem dX8_worth_59 : decode cX8_worth 59 = .ok (.ireturn, 1) := by decide +kernel
theorem dX8_opens_0 : decode cX8_opens 0 = .ok (.aload_n 0, 1) := by decide +kernel
theorem dX8_opens_1 : decode cX8_opens 1 = .ok (.getfield 74, 3) := by decide +kernel
theorem dX8_opens_4 : decode cX8_opens 4 = .ok (.iload_n 1, 1) := by decide +kernel
theorem dX8_opens_5 : decode cX8_opens 5 = .ok (.iconst (-1), 1) := by decide +kernel
theorem dX8_opens_6 : decode cX8_opens 6 = .ok (.iastore, 1) := by decide +kernel
theorem dX8_opens_7 : decode cX8_opens 7 = .ok (.aload_n 0, 1) := by decide +kernel
theorem dX8_opens_8 : decode cX8_opens 8 = .ok (.getfield 77, 3) := by decide +kernel
theorem dX8_opens_11 : decode cX8_opens 11 = .ok (.iload_n 1, 1) := by decide +kernel
theorem dX8_opens_12 : decode cX8_opens 12 = .ok (.iload_n 1, 1) := by decide +kernel
theorem dX8_opens_13 : decode cX8_opens 13 = .ok (.iconst 2, 1) := by decide +kernel
theorem dX8_opens_14 : decode cX8_opens 14 = .ok (.irem, 1) := by decide +kernel
theorem dX8_opens_15 : decode cX8_opens 15 = .ok (.ifCond .ne 9, 3) := by decide +kernel
theorem dX8_opens_18 : decode cX8_opens 18 = .ok (.ldc_w 273, 3) := by decide +kernel
theorem dX8_opens_21 : decode cX8_opens 21 = .ok (.goto 5, 3) := by decide +kernel
theorem dX8_opens_24 : decode cX8_opens 24 = .ok (.ldc 254, 2) := by decide +kernel
theorem dX8_opens_26 : decode cX8_opens 26 = .ok (.iastore, 1) := by decide +kernel
theorem dX8_opens_27 : decode cX8_opens 27 = .ok (.return_, 1) := by decide +kernel
theorem dX8_whoMoves_0 : decode cX8_whoMoves 0 = .ok (.iload_n 1, 1) := by decide +kernel
theorem dX8_whoMoves_1 : decode cX8_whoMoves 1 = .ok (.iconst 2, 1) := by decide +kernel
theorem dX8_whoMoves_2 : decode cX8_whoMoves 2 = .ok (.irem, 1) := by decide +kernel
theorem dX8_whoMoves_3 : decode cX8_whoMoves 3 = .ok (.ifCond .ne 19, 3) := by decide +kernel
theorem dX8_whoMoves_6 : decode cX8_whoMoves 6 = .ok (.aload_n 0, 1) := by decide +kernel
theorem dX8_whoMoves_7 : decode cX8_whoMoves 7 = .ok (.getfield 74, 3) := by decide +kernel
theorem dX8_whoMoves_10 : decode cX8_whoMoves 10 = .ok (.iload_n 1, 1) := by decide +kernel
theorem dX8_whoMoves_11 : decode cX8_whoMoves 11 = .ok (.iaload, 1) := by decide +kernel
theorem dX8_whoMoves_12 : decode cX8_whoMoves 12 = .ok (.iconst 1, 1) := by decide +kernel
theorem dX8_whoMoves_13 : decode cX8_whoMoves 13 = .ok (.isub, 1) := by decide +kernel
theorem dX8_whoMoves_14 : decode cX8_whoMoves 14 = .ok (.aload_n 0, 1) := by decide +kernel
theorem dX8_whoMoves_15 : decode cX8_whoMoves 15 = .ok (.getfield 163, 3) := by decide +kernel
theorem dX8_whoMoves_18 : decode cX8_whoMoves 18 = .ok (.idiv, 1) := by decide +kernel
theorem dX8_whoMoves_19 : decode cX8_whoMoves 19 = .ok (.goto 11, 3) := by decide +kernel
theorem dX8_whoMoves_22 : decode cX8_whoMoves 22 = .ok (.aload_n 0, 1) := by decide +kernel
theorem dX8_whoMoves_23 : decode cX8_whoMoves 23 = .ok (.getfield 74, 3) := by decide +kernel
theorem dX8_whoMoves_26 : decode cX8_whoMoves 26 = .ok (.iload_n 1, 1) := by decide +kernel
theorem dX8_whoMoves_27 : decode cX8_whoMoves 27 = .ok (.iaload, 1) := by decide +kernel
theorem dX8_whoMoves_28 : decode cX8_whoMoves 28 = .ok (.iconst 1, 1) := by decide +kernel
theorem dX8_whoMoves_29 : decode cX8_whoMoves 29 = .ok (.isub, 1) := by decide +kernel
theorem dX8_whoMoves_30 : decode cX8_whoMoves 30 = .ok (.ireturn, 1) := by decide +kernel
theorem dX8_moves_0 : decode cX8_moves 0 = .ok (.aload_n 0, 1) := by decide +kernel
theorem dX8_moves_1 : decode cX8_moves 1 = .ok (.getfield 74, 3) := by decide +kernel
theorem dX8_moves_4 : decode cX8_moves 4 = .ok (.iload_n 1, 1) := by decide +kernel
theorem dX8_moves_5 : decode cX8_moves 5 = .ok (.iaload, 1) := by decide +kernel
theorem dX8_moves_6 : decode cX8_moves 6 = .ok (.ifCond .ne 5, 3) := by decide +kernel
theorem dX8_moves_9 : decode cX8_moves 9 = .ok (.iconst 1, 1) := by decide +kernel
theorem dX8_moves_10 : decode cX8_moves 10 = .ok (.ireturn, 1) := by decide +kernel
theorem dX8_moves_11 : decode cX8_moves 11 = .ok (.iconst 5, 1) := by decide +kernel
theorem dX8_moves_12 : decode cX8_moves 12 = .ok (.aload_n 0, 1) := by decide +kernel
theorem dX8_moves_13 : decode cX8_moves 13 = .ok (.iload_n 1, 1) := by decide +kernel
theorem dX8_moves_14 : decode cX8_moves 14 = .ok (.invokevirtual 274, 3) := by decide +kernel
theorem dX8_moves_17 : decode cX8_moves 17 = .ok (.iadd, 1) := by decide +kernel
theorem dX8_moves_18 : decode cX8_moves 18 = .ok (.istore_n 2, 1) := by decide +kernel
theorem dX8_moves_19 : decode cX8_moves 19 = .ok (.iload_n 1, 1) := by decide +kernel
theorem dX8_moves_20 : decode cX8_moves 20 = .ok (.iconst 2, 1) := by decide +kernel
theorem dX8_moves_21 : decode cX8_moves 21 = .ok (.irem, 1) := by decide +kernel
theorem dX8_moves_22 : decode cX8_moves 22 = .ok (.ifCond .ne 19, 3) := by decide +kernel
theorem dX8_moves_25 : decode cX8_moves 25 = .ok (.aload_n 0, 1) := by decide +kernel
theorem dX8_moves_26 : decode cX8_moves 26 = .ok (.getfield 74, 3) := by decide +kernel
theorem dX8_moves_29 : decode cX8_moves 29 = .ok (.iload_n 1, 1) := by decide +kernel
theorem dX8_moves_30 : decode cX8_moves 30 = .ok (.iaload, 1) := by decide +kernel
theorem dX8_moves_31 : decode cX8_moves 31 = .ok (.iconst 1, 1) := by decide +kernel
theorem dX8_moves_32 : decode cX8_moves 32 = .ok (.isub, 1) := by decide +kernel
theorem dX8_moves_33 : decode cX8_moves 33 = .ok (.aload_n 0, 1) := by decide +kernel
theorem dX8_moves_34 : decode cX8_moves 34 = .ok (.getfield 163, 3) := by decide +kernel
theorem dX8_moves_37 : decode cX8_moves 37 = .ok (.irem, 1) := by decide +kernel
theorem dX8_moves_38 : decode cX8_moves 38 = .ok (.goto 5, 3) := by decide +kernel
theorem dX8_moves_41 : decode cX8_moves 41 = .ok (.bipush (-9), 2) := by decide +kernel
theorem dX8_moves_43 : decode cX8_moves 43 = .ok (.istore_n 3, 1) := by decide +kernel
theorem dX8_moves_44 : decode cX8_moves 44 = .ok (.aload_n 0, 1) := by decide +kernel
theorem dX8_moves_45 : decode cX8_moves 45 = .ok (.getfield 47, 3) := by decide +kernel
theorem dX8_moves_48 : decode cX8_moves 48 = .ok (.iload_n 2, 1) := by decide +kernel
theorem dX8_moves_49 : decode cX8_moves 49 = .ok (.iaload, 1) := by decide +kernel
theorem dX8_moves_50 : decode cX8_moves 50 = .ok (.bipush (-9), 2) := by decide +kernel
theorem dX8_moves_52 : decode cX8_moves 52 = .ok (.if_icmp .ne 7, 3) := by decide +kernel
theorem dX8_moves_55 : decode cX8_moves 55 = .ok (.iconst 1, 1) := by decide +kernel
theorem dX8_moves_56 : decode cX8_moves 56 = .ok (.goto 4, 3) := by decide +kernel
theorem dX8_moves_59 : decode cX8_moves 59 = .ok (.iconst 0, 1) := by decide +kernel
theorem dX8_moves_60 : decode cX8_moves 60 = .ok (.iload_n 1, 1) := by decide +kernel
theorem dX8_moves_61 : decode cX8_moves 61 = .ok (.iconst 2, 1) := by decide +kernel
theorem dX8_moves_62 : decode cX8_moves 62 = .ok (.irem, 1) := by decide +kernel
theorem dX8_moves_63 : decode cX8_moves 63 = .ok (.ifCond .ne 7, 3) := by decide +kernel
theorem dX8_moves_66 : decode cX8_moves 66 = .ok (.iconst 1, 1) := by decide +kernel
theorem dX8_moves_67 : decode cX8_moves 67 = .ok (.goto 4, 3) := by decide +kernel
theorem dX8_moves_70 : decode cX8_moves 70 = .ok (.iconst 0, 1) := by decide +kernel
theorem dX8_moves_71 : decode cX8_moves 71 = .ok (.if_icmp .ne 20, 3) := by decide +kernel
theorem dX8_moves_74 : decode cX8_moves 74 = .ok (.iload_n 3, 1) := by decide +kernel
theorem dX8_moves_75 : decode cX8_moves 75 = .ok (.bipush (-9), 2) := by decide +kernel
theorem dX8_moves_77 : decode cX8_moves 77 = .ok (.if_icmp .eq 16, 3) := by decide +kernel
theorem dX8_moves_80 : decode cX8_moves 80 = .ok (.aload_n 0, 1) := by decide +kernel
theorem dX8_moves_81 : decode cX8_moves 81 = .ok (.getfield 47, 3) := by decide +kernel
theorem dX8_moves_84 : decode cX8_moves 84 = .ok (.iload_n 3, 1) := by decide +kernel
theorem dX8_moves_85 : decode cX8_moves 85 = .ok (.invokestatic 192, 3) := by decide +kernel
theorem dX8_moves_88 : decode cX8_moves 88 = .ok (.ifCond .ne 5, 3) := by decide +kernel
theorem dX8_moves_91 : decode cX8_moves 91 = .ok (.iconst 0, 1) := by decide +kernel
theorem dX8_moves_92 : decode cX8_moves 92 = .ok (.ireturn, 1) := by decide +kernel
theorem dX8_moves_93 : decode cX8_moves 93 = .ok (.aload_n 0, 1) := by decide +kernel
theorem dX8_moves_94 : decode cX8_moves 94 = .ok (.getfield 80, 3) := by decide +kernel
theorem dX8_moves_97 : decode cX8_moves 97 = .ok (.iload_n 1, 1) := by decide +kernel
theorem dX8_moves_98 : decode cX8_moves 98 = .ok (.aload_n 0, 1) := by decide +kernel
theorem dX8_moves_99 : decode cX8_moves 99 = .ok (.getfield 47, 3) := by decide +kernel
theorem dX8_moves_102 : decode cX8_moves 102 = .ok (.iload_n 2, 1) := by decide +kernel
theorem dX8_moves_103 : decode cX8_moves 103 = .ok (.iaload, 1) := by decide +kernel
theorem dX8_moves_104 : decode cX8_moves 104 = .ok (.iastore, 1) := by decide +kernel
theorem dX8_moves_105 : decode cX8_moves 105 = .ok (.aload_n 0, 1) := by decide +kernel
theorem dX8_moves_106 : decode cX8_moves 106 = .ok (.getfield 47, 3) := by decide +kernel
theorem dX8_moves_109 : decode cX8_moves 109 = .ok (.iload_n 2, 1) := by decide +kernel
theorem dX8_moves_110 : decode cX8_moves 110 = .ok (.iload_n 3, 1) := by decide +kernel
theorem dX8_moves_111 : decode cX8_moves 111 = .ok (.iastore, 1) := by decide +kernel
theorem dX8_moves_112 : decode cX8_moves 112 = .ok (.iconst 1, 1) := by decide +kernel
theorem dX8_moves_113 : decode cX8_moves 113 = .ok (.ireturn, 1) := by decide +kernel
theorem dX8_weighs_0 : decode cX8_weighs 0 = .ok (.aload_n 0, 1) := by decide +kernel
theorem dX8_weighs_1 : decode cX8_weighs 1 = .ok (.getfield 74, 3) := by decide +kernel
theorem dX8_weighs_4 : decode cX8_weighs 4 = .ok (.iload_n 1, 1) := by decide +kernel
theorem dX8_weighs_5 : decode cX8_weighs 5 = .ok (.iaload, 1) := by decide +kernel
theorem dX8_weighs_6 : decode cX8_weighs 6 = .ok (.ifCond .le 21, 3) := by decide +kernel
theorem dX8_weighs_9 : decode cX8_weighs 9 = .ok (.aload_n 0, 1) := by decide +kernel
theorem dX8_weighs_10 : decode cX8_weighs 10 = .ok (.getfield 47, 3) := by decide +kernel
theorem dX8_weighs_13 : decode cX8_weighs 13 = .ok (.iconst 5, 1) := by decide +kernel
theorem dX8_weighs_14 : decode cX8_weighs 14 = .ok (.aload_n 0, 1) := by decide +kernel
theorem dX8_weighs_15 : decode cX8_weighs 15 = .ok (.iload_n 1, 1) := by decide +kernel
theorem dX8_weighs_16 : decode cX8_weighs 16 = .ok (.invokevirtual 274, 3) := by decide +kernel
theorem dX8_weighs_19 : decode cX8_weighs 19 = .ok (.iadd, 1) := by decide +kernel
theorem dX8_weighs_20 : decode cX8_weighs 20 = .ok (.aload_n 0, 1) := by decide +kernel
theorem dX8_weighs_21 : decode cX8_weighs 21 = .ok (.getfield 80, 3) := by decide +kernel
theorem dX8_weighs_24 : decode cX8_weighs 24 = .ok (.iload_n 1, 1) := by decide +kernel
theorem dX8_weighs_25 : decode cX8_weighs 25 = .ok (.iaload, 1) := by decide +kernel
theorem dX8_weighs_26 : decode cX8_weighs 26 = .ok (.iastore, 1) := by decide +kernel
theorem dX8_weighs_27 : decode cX8_weighs 27 = .ok (.iload_n 1, 1) := by decide +kernel
theorem dX8_weighs_28 : decode cX8_weighs 28 = .ok (.iconst 2, 1) := by decide +kernel
theorem dX8_weighs_29 : decode cX8_weighs 29 = .ok (.irem, 1) := by decide +kernel
theorem dX8_weighs_30 : decode cX8_weighs 30 = .ok (.ifCond .ne 21, 3) := by decide +kernel
theorem dX8_weighs_33 : decode cX8_weighs 33 = .ok (.iload_n 2, 1) := by decide +kernel
theorem dX8_weighs_34 : decode cX8_weighs 34 = .ok (.aload_n 0, 1) := by decide +kernel
theorem dX8_weighs_35 : decode cX8_weighs 35 = .ok (.getfield 77, 3) := by decide +kernel
theorem dX8_weighs_38 : decode cX8_weighs 38 = .ok (.iload_n 1, 1) := by decide +kernel
theorem dX8_weighs_39 : decode cX8_weighs 39 = .ok (.iaload, 1) := by decide +kernel
theorem dX8_weighs_40 : decode cX8_weighs 40 = .ok (.if_icmp .le 7, 3) := by decide +kernel
theorem dX8_weighs_43 : decode cX8_weighs 43 = .ok (.iconst 1, 1) := by decide +kernel
theorem dX8_weighs_44 : decode cX8_weighs 44 = .ok (.goto 22, 3) := by decide +kernel
theorem dX8_weighs_47 : decode cX8_weighs 47 = .ok (.iconst 0, 1) := by decide +kernel
theorem dX8_weighs_48 : decode cX8_weighs 48 = .ok (.goto 18, 3) := by decide +kernel
theorem dX8_weighs_51 : decode cX8_weighs 51 = .ok (.iload_n 2, 1) := by decide +kernel
theorem dX8_weighs_52 : decode cX8_weighs 52 = .ok (.aload_n 0, 1) := by decide +kernel
theorem dX8_weighs_53 : decode cX8_weighs 53 = .ok (.getfield 77, 3) := by decide +kernel
theorem dX8_weighs_56 : decode cX8_weighs 56 = .ok (.iload_n 1, 1) := by decide +kernel
theorem dX8_weighs_57 : decode cX8_weighs 57 = .ok (.iaload, 1) := by decide +kernel
theorem dX8_weighs_58 : decode cX8_weighs 58 = .ok (.if_icmp .ge 7, 3) := by decide +kernel
theorem dX8_weighs_61 : decode cX8_weighs 61 = .ok (.iconst 1, 1) := by decide +kernel
theorem dX8_weighs_62 : decode cX8_weighs 62 = .ok (.goto 4, 3) := by decide +kernel
theorem dX8_weighs_65 : decode cX8_weighs 65 = .ok (.iconst 0, 1) := by decide +kernel
theorem dX8_weighs_66 : decode cX8_weighs 66 = .ok (.istore_n 3, 1) := by decide +kernel
theorem dX8_weighs_67 : decode cX8_weighs 67 = .ok (.aload_n 0, 1) := by decide +kernel
theorem dX8_weighs_68 : decode cX8_weighs 68 = .ok (.getfield 77, 3) := by decide +kernel
theorem dX8_weighs_71 : decode cX8_weighs 71 = .ok (.iload_n 1, 1) := by decide +kernel
theorem dX8_weighs_72 : decode cX8_weighs 72 = .ok (.iload_n 3, 1) := by decide +kernel
theorem dX8_weighs_73 : decode cX8_weighs 73 = .ok (.ifCond .eq 7, 3) := by decide +kernel
theorem dX8_weighs_76 : decode cX8_weighs 76 = .ok (.iload_n 2, 1) := by decide +kernel
theorem dX8_weighs_77 : decode cX8_weighs 77 = .ok (.goto 9, 3) := by decide +kernel
theorem dX8_weighs_80 : decode cX8_weighs 80 = .ok (.aload_n 0, 1) := by decide +kernel
theorem dX8_weighs_81 : decode cX8_weighs 81 = .ok (.getfield 77, 3) := by decide +kernel
theorem dX8_weighs_84 : decode cX8_weighs 84 = .ok (.iload_n 1, 1) := by decide +kernel
theorem dX8_weighs_85 : decode cX8_weighs 85 = .ok (.iaload, 1) := by decide +kernel
theorem dX8_weighs_86 : decode cX8_weighs 86 = .ok (.iastore, 1) := by decide +kernel
theorem dX8_weighs_87 : decode cX8_weighs 87 = .ok (.return_, 1) := by decide +kernel
theorem dX8_nextMove_0 : decode cX8_nextMove 0 = .ok (.iload_n 1, 1) := by decide +kernel
theorem dX8_nextMove_1 : decode cX8_nextMove 1 = .ok (.iconst 2, 1) := by decide +kernel
theorem dX8_nextMove_2 : decode cX8_nextMove 2 = .ok (.irem, 1) := by decide +kernel
theorem dX8_nextMove_3 : decode cX8_nextMove 3 = .ok (.ifCond .ne 15, 3) := by decide +kernel
theorem dX8_nextMove_6 : decode cX8_nextMove 6 = .ok (.aload_n 0, 1) := by decide +kernel
theorem dX8_nextMove_7 : decode cX8_nextMove 7 = .ok (.getfield 166, 3) := by decide +kernel
theorem dX8_nextMove_10 : decode cX8_nextMove 10 = .ok (.aload_n 0, 1) := by decide +kernel
theorem dX8_nextMove_11 : decode cX8_nextMove 11 = .ok (.getfield 163, 3) := by decide +kernel
theorem dX8_nextMove_14 : decode cX8_nextMove 14 = .ok (.imul, 1) := by decide +kernel
theorem dX8_nextMove_15 : decode cX8_nextMove 15 = .ok (.goto 7, 3) := by decide +kernel
theorem dX8_nextMove_18 : decode cX8_nextMove 18 = .ok (.aload_n 0, 1) := by decide +kernel
theorem dX8_nextMove_19 : decode cX8_nextMove 19 = .ok (.getfield 166, 3) := by decide +kernel
theorem dX8_nextMove_22 : decode cX8_nextMove 22 = .ok (.istore_n 2, 1) := by decide +kernel
theorem dX8_nextMove_23 : decode cX8_nextMove 23 = .ok (.aload_n 0, 1) := by decide +kernel
theorem dX8_nextMove_24 : decode cX8_nextMove 24 = .ok (.getfield 74, 3) := by decide +kernel
theorem dX8_nextMove_27 : decode cX8_nextMove 27 = .ok (.iload_n 1, 1) := by decide +kernel
theorem dX8_nextMove_28 : decode cX8_nextMove 28 = .ok (.dup2, 1) := by decide +kernel
theorem dX8_nextMove_29 : decode cX8_nextMove 29 = .ok (.iaload, 1) := by decide +kernel
theorem dX8_nextMove_30 : decode cX8_nextMove 30 = .ok (.iconst 1, 1) := by decide +kernel
theorem dX8_nextMove_31 : decode cX8_nextMove 31 = .ok (.iadd, 1) := by decide +kernel
theorem dX8_nextMove_32 : decode cX8_nextMove 32 = .ok (.iastore, 1) := by decide +kernel
theorem dX8_nextMove_33 : decode cX8_nextMove 33 = .ok (.aload_n 0, 1) := by decide +kernel
theorem dX8_nextMove_34 : decode cX8_nextMove 34 = .ok (.getfield 74, 3) := by decide +kernel
theorem dX8_nextMove_37 : decode cX8_nextMove 37 = .ok (.iload_n 1, 1) := by decide +kernel
theorem dX8_nextMove_38 : decode cX8_nextMove 38 = .ok (.iaload, 1) := by decide +kernel
theorem dX8_nextMove_39 : decode cX8_nextMove 39 = .ok (.iload_n 2, 1) := by decide +kernel
theorem dX8_nextMove_40 : decode cX8_nextMove 40 = .ok (.if_icmp .gt 24, 3) := by decide +kernel
theorem dX8_nextMove_43 : decode cX8_nextMove 43 = .ok (.aload_n 0, 1) := by decide +kernel
theorem dX8_nextMove_44 : decode cX8_nextMove 44 = .ok (.iload_n 1, 1) := by decide +kernel
theorem dX8_nextMove_45 : decode cX8_nextMove 45 = .ok (.invokevirtual 277, 3) := by decide +kernel
theorem dX8_nextMove_48 : decode cX8_nextMove 48 = .ok (.ifCond .ne 16, 3) := by decide +kernel
theorem dX8_nextMove_51 : decode cX8_nextMove 51 = .ok (.aload_n 0, 1) := by decide +kernel
theorem dX8_nextMove_52 : decode cX8_nextMove 52 = .ok (.getfield 74, 3) := by decide +kernel
theorem dX8_nextMove_55 : decode cX8_nextMove 55 = .ok (.iload_n 1, 1) := by decide +kernel
theorem dX8_nextMove_56 : decode cX8_nextMove 56 = .ok (.dup2, 1) := by decide +kernel
theorem dX8_nextMove_57 : decode cX8_nextMove 57 = .ok (.iaload, 1) := by decide +kernel
theorem dX8_nextMove_58 : decode cX8_nextMove 58 = .ok (.iconst 1, 1) := by decide +kernel
theorem dX8_nextMove_59 : decode cX8_nextMove 59 = .ok (.iadd, 1) := by decide +kernel
theorem dX8_nextMove_60 : decode cX8_nextMove 60 = .ok (.iastore, 1) := by decide +kernel
theorem dX8_nextMove_61 : decode cX8_nextMove 61 = .ok (.goto (-28), 3) := by decide +kernel
theorem dX8_nextMove_64 : decode cX8_nextMove 64 = .ok (.aload_n 0, 1) := by decide +kernel
theorem dX8_nextMove_65 : decode cX8_nextMove 65 = .ok (.getfield 74, 3) := by decide +kernel
theorem dX8_nextMove_68 : decode cX8_nextMove 68 = .ok (.iload_n 1, 1) := by decide +kernel
theorem dX8_nextMove_69 : decode cX8_nextMove 69 = .ok (.iaload, 1) := by decide +kernel
theorem dX8_nextMove_70 : decode cX8_nextMove 70 = .ok (.iload_n 2, 1) := by decide +kernel
theorem dX8_nextMove_71 : decode cX8_nextMove 71 = .ok (.if_icmp .gt 7, 3) := by decide +kernel
theorem dX8_nextMove_74 : decode cX8_nextMove 74 = .ok (.iconst 1, 1) := by decide +kernel
theorem dX8_nextMove_75 : decode cX8_nextMove 75 = .ok (.goto 4, 3) := by decide +kernel
theorem dX8_nextMove_78 : decode cX8_nextMove 78 = .ok (.iconst 0, 1) := by decide +kernel
theorem dX8_nextMove_79 : decode cX8_nextMove 79 = .ok (.ireturn, 1) := by decide +kernel
theorem dX8_duel_0 : decode cX8_duel 0 = .ok (.iload_n 1, 1) := by decide +kernel
theorem dX8_duel_1 : decode cX8_duel 1 = .ok (.i2l, 1) := by decide +kernel
theorem dX8_duel_2 : decode cX8_duel 2 = .ok (.lconst 0, 1) := by decide +kernel
theorem dX8_duel_3 : decode cX8_duel 3 = .ok (.ldc2_w 280, 3) := by decide +kernel
theorem dX8_duel_6 : decode cX8_duel 6 = .ok (.invokestatic 95, 3) := by decide +kernel
theorem dX8_duel_9 : decode cX8_duel 9 = .ok (.ifCond .ne 5, 3) := by decide +kernel
theorem dX8_duel_12 : decode cX8_duel 12 = .ok (.iconst (-1), 1) := by decide +kernel
theorem dX8_duel_13 : decode cX8_duel 13 = .ok (.ireturn, 1) := by decide +kernel
theorem dX8_duel_14 : decode cX8_duel 14 = .ok (.aload_n 0, 1) := by decide +kernel
theorem dX8_duel_15 : decode cX8_duel 15 = .ok (.getfield 163, 3) := by decide +kernel
theorem dX8_duel_18 : decode cX8_duel 18 = .ok (.ifCond .ne 6, 3) := by decide +kernel
theorem dX8_duel_21 : decode cX8_duel 21 = .ok (.bipush (-4), 2) := by decide +kernel
theorem dX8_duel_23 : decode cX8_duel 23 = .ok (.ireturn, 1) := by decide +kernel
theorem dX8_duel_24 : decode cX8_duel 24 = .ok (.aload_n 0, 1) := by decide +kernel
theorem dX8_duel_25 : decode cX8_duel 25 = .ok (.invokevirtual 232, 3) := by decide +kernel
theorem dX8_duel_28 : decode cX8_duel 28 = .ok (.iconst 0, 1) := by decide +kernel
theorem dX8_duel_29 : decode cX8_duel 29 = .ok (.istore_n 2, 1) := by decide +kernel
theorem dX8_duel_30 : decode cX8_duel 30 = .ok (.aload_n 0, 1) := by decide +kernel
theorem dX8_duel_31 : decode cX8_duel 31 = .ok (.iconst 0, 1) := by decide +kernel
theorem dX8_duel_32 : decode cX8_duel 32 = .ok (.invokevirtual 282, 3) := by decide +kernel
theorem dX8_duel_35 : decode cX8_duel 35 = .ok (.iconst 0, 1) := by decide +kernel
theorem dX8_duel_36 : decode cX8_duel 36 = .ok (.istore_n 3, 1) := by decide +kernel
theorem dX8_duel_37 : decode cX8_duel 37 = .ok (.iload_n 2, 1) := by decide +kernel
theorem dX8_duel_38 : decode cX8_duel 38 = .ok (.ifCond .lt 62, 3) := by decide +kernel
theorem dX8_duel_41 : decode cX8_duel 41 = .ok (.iload_n 2, 1) := by decide +kernel
theorem dX8_duel_42 : decode cX8_duel 42 = .ok (.iload_n 1, 1) := by decide +kernel
theorem dX8_duel_43 : decode cX8_duel 43 = .ok (.if_icmp .ge 22, 3) := by decide +kernel
theorem dX8_duel_46 : decode cX8_duel 46 = .ok (.aload_n 0, 1) := by decide +kernel
theorem dX8_duel_47 : decode cX8_duel 47 = .ok (.iload_n 2, 1) := by decide +kernel
theorem dX8_duel_48 : decode cX8_duel 48 = .ok (.invokevirtual 286, 3) := by decide +kernel
theorem dX8_duel_51 : decode cX8_duel 51 = .ok (.ifCond .eq 14, 3) := by decide +kernel
theorem dX8_duel_54 : decode cX8_duel 54 = .ok (.iinc 2 1, 3) := by decide +kernel
theorem dX8_duel_57 : decode cX8_duel 57 = .ok (.aload_n 0, 1) := by decide +kernel
theorem dX8_duel_58 : decode cX8_duel 58 = .ok (.iload_n 2, 1) := by decide +kernel
theorem dX8_duel_59 : decode cX8_duel 59 = .ok (.invokevirtual 282, 3) := by decide +kernel
theorem dX8_duel_62 : decode cX8_duel 62 = .ok (.goto (-25), 3) := by decide +kernel
theorem dX8_duel_65 : decode cX8_duel 65 = .ok (.iload_n 2, 1) := by decide +kernel
theorem dX8_duel_66 : decode cX8_duel 66 = .ok (.iload_n 1, 1) := by decide +kernel
theorem dX8_duel_67 : decode cX8_duel 67 = .ok (.if_icmp .ne 10, 3) := by decide +kernel
theorem dX8_duel_70 : decode cX8_duel 70 = .ok (.aload_n 0, 1) := by decide +kernel
theorem dX8_duel_71 : decode cX8_duel 71 = .ok (.invokevirtual 289, 3) := by decide +kernel
theorem dX8_duel_74 : decode cX8_duel 74 = .ok (.goto 9, 3) := by decide +kernel
theorem dX8_duel_77 : decode cX8_duel 77 = .ok (.aload_n 0, 1) := by decide +kernel
theorem dX8_duel_78 : decode cX8_duel 78 = .ok (.getfield 77, 3) := by decide +kernel
theorem dX8_duel_81 : decode cX8_duel 81 = .ok (.iload_n 2, 1) := by decide +kernel
theorem dX8_duel_82 : decode cX8_duel 82 = .ok (.iaload, 1) := by decide +kernel
theorem dX8_duel_83 : decode cX8_duel 83 = .ok (.istore_n 3, 1) := by decide +kernel
theorem dX8_duel_84 : decode cX8_duel 84 = .ok (.iinc 2 (-1), 3) := by decide +kernel
theorem dX8_duel_87 : decode cX8_duel 87 = .ok (.iload_n 2, 1) := by decide +kernel
theorem dX8_duel_88 : decode cX8_duel 88 = .ok (.ifCond .lt (-51), 3) := by decide +kernel
theorem dX8_duel_91 : decode cX8_duel 91 = .ok (.aload_n 0, 1) := by decide +kernel
theorem dX8_duel_92 : decode cX8_duel 92 = .ok (.iload_n 2, 1) := by decide +kernel
theorem dX8_duel_93 : decode cX8_duel 93 = .ok (.iload_n 3, 1) := by decide +kernel
theorem dX8_duel_94 : decode cX8_duel 94 = .ok (.invokevirtual 292, 3) := by decide +kernel
theorem dX8_duel_97 : decode cX8_duel 97 = .ok (.goto (-60), 3) := by decide +kernel
theorem dX8_duel_100 : decode cX8_duel 100 = .ok (.iload_n 3, 1) := by decide +kernel
theorem dX8_duel_101 : decode cX8_duel 101 = .ok (.ireturn, 1) := by decide +kernel
theorem dX8_fraction_0 : decode cX8_fraction 0 = .ok (.iload_n 1, 1) := by decide +kernel
theorem dX8_fraction_1 : decode cX8_fraction 1 = .ok (.istore_n 3, 1) := by decide +kernel
theorem dX8_fraction_2 : decode cX8_fraction 2 = .ok (.iload_n 2, 1) := by decide +kernel
theorem dX8_fraction_3 : decode cX8_fraction 3 = .ok (.istore 4, 2) := by decide +kernel
theorem dX8_fraction_5 : decode cX8_fraction 5 = .ok (.iload 4, 2) := by decide +kernel
theorem dX8_fraction_7 : decode cX8_fraction 7 = .ok (.ifCond .eq 19, 3) := by decide +kernel
theorem dX8_fraction_10 : decode cX8_fraction 10 = .ok (.iload_n 3, 1) := by decide +kernel
theorem dX8_fraction_11 : decode cX8_fraction 11 = .ok (.iload 4, 2) := by decide +kernel
theorem dX8_fraction_13 : decode cX8_fraction 13 = .ok (.irem, 1) := by decide +kernel
theorem dX8_fraction_14 : decode cX8_fraction 14 = .ok (.istore 5, 2) := by decide +kernel
theorem dX8_fraction_16 : decode cX8_fraction 16 = .ok (.iload 4, 2) := by decide +kernel
theorem dX8_fraction_18 : decode cX8_fraction 18 = .ok (.istore_n 3, 1) := by decide +kernel
theorem dX8_fraction_19 : decode cX8_fraction 19 = .ok (.iload 5, 2) := by decide +kernel
theorem dX8_fraction_21 : decode cX8_fraction 21 = .ok (.istore 4, 2) := by decide +kernel
theorem dX8_fraction_23 : decode cX8_fraction 23 = .ok (.goto (-18), 3) := by decide +kernel
theorem dX8_fraction_26 : decode cX8_fraction 26 = .ok (.aload_n 0, 1) := by decide +kernel
theorem dX8_fraction_27 : decode cX8_fraction 27 = .ok (.iload_n 1, 1) := by decide +kernel
theorem dX8_fraction_28 : decode cX8_fraction 28 = .ok (.iload_n 3, 1) := by decide +kernel
theorem dX8_fraction_29 : decode cX8_fraction 29 = .ok (.idiv, 1) := by decide +kernel
theorem dX8_fraction_30 : decode cX8_fraction 30 = .ok (.i2l, 1) := by decide +kernel
theorem dX8_fraction_31 : decode cX8_fraction 31 = .ok (.putfield 295, 3) := by decide +kernel
theorem dX8_fraction_34 : decode cX8_fraction 34 = .ok (.aload_n 0, 1) := by decide +kernel
theorem dX8_fraction_35 : decode cX8_fraction 35 = .ok (.iload_n 2, 1) := by decide +kernel
theorem dX8_fraction_36 : decode cX8_fraction 36 = .ok (.iload_n 3, 1) := by decide +kernel
theorem dX8_fraction_37 : decode cX8_fraction 37 = .ok (.idiv, 1) := by decide +kernel
theorem dX8_fraction_38 : decode cX8_fraction 38 = .ok (.i2l, 1) := by decide +kernel
theorem dX8_fraction_39 : decode cX8_fraction 39 = .ok (.putfield 22, 3) := by decide +kernel
theorem dX8_fraction_42 : decode cX8_fraction 42 = .ok (.iconst 1, 1) := by decide +kernel
theorem dX8_fraction_43 : decode cX8_fraction 43 = .ok (.ireturn, 1) := by decide +kernel
theorem dX8_odds_0 : decode cX8_odds 0 = .ok (.aload_n 0, 1) := by decide +kernel
theorem dX8_odds_1 : decode cX8_odds 1 = .ok (.iload_n 1, 1) := by decide +kernel
theorem dX8_odds_2 : decode cX8_odds 2 = .ok (.invokevirtual 209, 3) := by decide +kernel
theorem dX8_odds_5 : decode cX8_odds 5 = .ok (.ifCond .eq 15, 3) := by decide +kernel
theorem dX8_odds_8 : decode cX8_odds 8 = .ok (.iload_n 2, 1) := by decide +kernel
theorem dX8_odds_9 : decode cX8_odds 9 = .ok (.i2l, 1) := by decide +kernel
theorem dX8_odds_10 : decode cX8_odds 10 = .ok (.lconst 0, 1) := by decide +kernel
theorem dX8_odds_11 : decode cX8_odds 11 = .ok (.ldc2_w 298, 3) := by decide +kernel
theorem dX8_odds_14 : decode cX8_odds 14 = .ok (.invokestatic 95, 3) := by decide +kernel
theorem dX8_odds_17 : decode cX8_odds 17 = .ok (.ifCond .ne 5, 3) := by decide +kernel
theorem dX8_odds_20 : decode cX8_odds 20 = .ok (.iconst (-1), 1) := by decide +kernel
theorem dX8_odds_21 : decode cX8_odds 21 = .ok (.ireturn, 1) := by decide +kernel
theorem dX8_odds_22 : decode cX8_odds 22 = .ok (.aload_n 0, 1) := by decide +kernel
theorem dX8_odds_23 : decode cX8_odds 23 = .ok (.getfield 44, 3) := by decide +kernel
theorem dX8_odds_26 : decode cX8_odds 26 = .ok (.iconst 5, 1) := by decide +kernel
theorem dX8_odds_27 : decode cX8_odds 27 = .ok (.iload_n 1, 1) := by decide +kernel
theorem dX8_odds_28 : decode cX8_odds 28 = .ok (.iadd, 1) := by decide +kernel
theorem dX8_odds_29 : decode cX8_odds 29 = .ok (.iaload, 1) := by decide +kernel
theorem dX8_odds_30 : decode cX8_odds 30 = .ok (.istore_n 3, 1) := by decide +kernel
theorem dX8_odds_31 : decode cX8_odds 31 = .ok (.aload_n 0, 1) := by decide +kernel
theorem dX8_odds_32 : decode cX8_odds 32 = .ok (.iload_n 3, 1) := by decide +kernel
theorem dX8_odds_33 : decode cX8_odds 33 = .ok (.bipush (-9), 2) := by decide +kernel
theorem dX8_odds_35 : decode cX8_odds 35 = .ok (.if_icmp .eq 22, 3) := by decide +kernel
theorem dX8_odds_38 : decode cX8_odds 38 = .ok (.aload_n 0, 1) := by decide +kernel
theorem dX8_odds_39 : decode cX8_odds 39 = .ok (.aload_n 0, 1) := by decide +kernel
theorem dX8_odds_40 : decode cX8_odds 40 = .ok (.getfield 44, 3) := by decide +kernel
theorem dX8_odds_43 : decode cX8_odds 43 = .ok (.iload_n 3, 1) := by decide +kernel
theorem dX8_odds_44 : decode cX8_odds 44 = .ok (.invokevirtual 196, 3) := by decide +kernel
theorem dX8_odds_47 : decode cX8_odds 47 = .ok (.ifCond .eq 10, 3) := by decide +kernel
theorem dX8_odds_50 : decode cX8_odds 50 = .ok (.bipush 12, 2) := by decide +kernel
theorem dX8_odds_52 : decode cX8_odds 52 = .ok (.iload_n 2, 1) := by decide +kernel
theorem dX8_odds_53 : decode cX8_odds 53 = .ok (.isub, 1) := by decide +kernel
theorem dX8_odds_54 : decode cX8_odds 54 = .ok (.goto 4, 3) := by decide +kernel
theorem dX8_odds_57 : decode cX8_odds 57 = .ok (.iconst 0, 1) := by decide +kernel
theorem dX8_odds_58 : decode cX8_odds 58 = .ok (.bipush 12, 2) := by decide +kernel
theorem dX8_odds_60 : decode cX8_odds 60 = .ok (.invokevirtual 300, 3) := by decide +kernel
theorem dX8_odds_63 : decode cX8_odds 63 = .ok (.ireturn, 1) := by decide +kernel
theorem dX8_mid_0 : decode cX8_mid 0 = .ok (.iload_n 1, 1) := by decide +kernel
theorem dX8_mid_1 : decode cX8_mid 1 = .ok (.i2l, 1) := by decide +kernel
theorem dX8_mid_2 : decode cX8_mid 2 = .ok (.lconst 0, 1) := by decide +kernel
theorem dX8_mid_3 : decode cX8_mid 3 = .ok (.ldc2_w 298, 3) := by decide +kernel
theorem dX8_mid_6 : decode cX8_mid 6 = .ok (.invokestatic 95, 3) := by decide +kernel
theorem dX8_mid_9 : decode cX8_mid 9 = .ok (.ifCond .ne 5, 3) := by decide +kernel
theorem dX8_mid_12 : decode cX8_mid 12 = .ok (.iconst (-1), 1) := by decide +kernel
theorem dX8_mid_13 : decode cX8_mid 13 = .ok (.ireturn, 1) := by decide +kernel
theorem dX8_mid_14 : decode cX8_mid 14 = .ok (.aload_n 0, 1) := by decide +kernel
theorem dX8_mid_15 : decode cX8_mid 15 = .ok (.getfield 163, 3) := by decide +kernel
theorem dX8_mid_18 : decode cX8_mid 18 = .ok (.ifCond .ne 6, 3) := by decide +kernel
theorem dX8_mid_21 : decode cX8_mid 21 = .ok (.bipush (-4), 2) := by decide +kernel
theorem dX8_mid_23 : decode cX8_mid 23 = .ok (.ireturn, 1) := by decide +kernel
theorem dX8_mid_24 : decode cX8_mid 24 = .ok (.aload_n 0, 1) := by decide +kernel
theorem dX8_mid_25 : decode cX8_mid 25 = .ok (.invokevirtual 232, 3) := by decide +kernel
theorem dX8_mid_28 : decode cX8_mid 28 = .ok (.aload_n 0, 1) := by decide +kernel
theorem dX8_mid_29 : decode cX8_mid 29 = .ok (.aload_n 0, 1) := by decide +kernel
theorem dX8_mid_30 : decode cX8_mid 30 = .ok (.invokevirtual 289, 3) := by decide +kernel
theorem dX8_mid_33 : decode cX8_mid 33 = .ok (.bipush 12, 2) := by decide +kernel
theorem dX8_mid_35 : decode cX8_mid 35 = .ok (.iload_n 1, 1) := by decide +kernel
theorem dX8_mid_36 : decode cX8_mid 36 = .ok (.isub, 1) := by decide +kernel
theorem dX8_mid_37 : decode cX8_mid 37 = .ok (.imul, 1) := by decide +kernel
theorem dX8_mid_38 : decode cX8_mid 38 = .ok (.bipush 12, 2) := by decide +kernel
theorem dX8_mid_40 : decode cX8_mid 40 = .ok (.invokevirtual 300, 3) := by decide +kernel
theorem dX8_mid_43 : decode cX8_mid 43 = .ok (.ireturn, 1) := by decide +kernel
theorem dX8_lot_0 : decode cX8_lot 0 = .ok (.iload_n 1, 1) := by decide +kernel
theorem dX8_lot_1 : decode cX8_lot 1 = .ok (.bipush 8, 2) := by decide +kernel
theorem dX8_lot_3 : decode cX8_lot 3 = .ok (.idiv, 1) := by decide +kernel
theorem dX8_lot_4 : decode cX8_lot 4 = .ok (.aload_n 0, 1) := by decide +kernel
theorem dX8_lot_5 : decode cX8_lot 5 = .ok (.getfield 166, 3) := by decide +kernel
theorem dX8_lot_8 : decode cX8_lot 8 = .ok (.irem, 1) := by decide +kernel
theorem dX8_lot_9 : decode cX8_lot 9 = .ok (.istore_n 2, 1) := by decide +kernel
theorem dX8_lot_10 : decode cX8_lot 10 = .ok (.iload_n 1, 1) := by decide +kernel
theorem dX8_lot_11 : decode cX8_lot 11 = .ok (.bipush 64, 2) := by decide +kernel
theorem dX8_lot_13 : decode cX8_lot 13 = .ok (.idiv, 1) := by decide +kernel
theorem dX8_lot_14 : decode cX8_lot 14 = .ok (.aload_n 0, 1) := by decide +kernel
theorem dX8_lot_15 : decode cX8_lot 15 = .ok (.getfield 163, 3) := by decide +kernel
theorem dX8_lot_18 : decode cX8_lot 18 = .ok (.irem, 1) := by decide +kernel
theorem dX8_lot_19 : decode cX8_lot 19 = .ok (.istore_n 3, 1) := by decide +kernel
theorem dX8_lot_20 : decode cX8_lot 20 = .ok (.aload_n 0, 1) := by decide +kernel
theorem dX8_lot_21 : decode cX8_lot 21 = .ok (.invokevirtual 217, 3) := by decide +kernel
theorem dX8_lot_24 : decode cX8_lot 24 = .ok (.iload_n 1, 1) := by decide +kernel
theorem dX8_lot_25 : decode cX8_lot 25 = .ok (.iconst 3, 1) := by decide +kernel
theorem dX8_lot_26 : decode cX8_lot 26 = .ok (.irem, 1) := by decide +kernel
theorem dX8_lot_27 : decode cX8_lot 27 = .ok (.ifCond .ne 16, 3) := by decide +kernel
theorem dX8_lot_30 : decode cX8_lot 30 = .ok (.aload_n 0, 1) := by decide +kernel
theorem dX8_lot_31 : decode cX8_lot 31 = .ok (.aload_n 0, 1) := by decide +kernel
theorem dX8_lot_32 : decode cX8_lot 32 = .ok (.getfield 44, 3) := by decide +kernel
theorem dX8_lot_35 : decode cX8_lot 35 = .ok (.invokevirtual 223, 3) := by decide +kernel
theorem dX8_lot_38 : decode cX8_lot 38 = .ok (.istore 4, 2) := by decide +kernel
theorem dX8_lot_40 : decode cX8_lot 40 = .ok (.goto 63, 3) := by decide +kernel
theorem dX8_lot_43 : decode cX8_lot 43 = .ok (.aload_n 0, 1) := by decide +kernel
theorem dX8_lot_44 : decode cX8_lot 44 = .ok (.getfield 44, 3) := by decide +kernel
theorem dX8_lot_47 : decode cX8_lot 47 = .ok (.iconst 5, 1) := by decide +kernel
theorem dX8_lot_48 : decode cX8_lot 48 = .ok (.iload_n 2, 1) := by decide +kernel
theorem dX8_lot_49 : decode cX8_lot 49 = .ok (.iadd, 1) := by decide +kernel
theorem dX8_lot_50 : decode cX8_lot 50 = .ok (.iaload, 1) := by decide +kernel
theorem dX8_lot_51 : decode cX8_lot 51 = .ok (.bipush (-9), 2) := by decide +kernel
theorem dX8_lot_53 : decode cX8_lot 53 = .ok (.if_icmp .eq 16, 3) := by decide +kernel
theorem dX8_lot_56 : decode cX8_lot 56 = .ok (.aload_n 0, 1) := by decide +kernel
theorem dX8_lot_57 : decode cX8_lot 57 = .ok (.getfield 44, 3) := by decide +kernel
theorem dX8_lot_60 : decode cX8_lot 60 = .ok (.iconst 5, 1) := by decide +kernel
theorem dX8_lot_61 : decode cX8_lot 61 = .ok (.iload_n 2, 1) := by decide +kernel
theorem dX8_lot_62 : decode cX8_lot 62 = .ok (.iadd, 1) := by decide +kernel
theorem dX8_lot_63 : decode cX8_lot 63 = .ok (.bipush (-9), 2) := by decide +kernel
theorem dX8_lot_65 : decode cX8_lot 65 = .ok (.iastore, 1) := by decide +kernel
theorem dX8_lot_66 : decode cX8_lot 66 = .ok (.goto 37, 3) := by decide +kernel
theorem dX8_lot_69 : decode cX8_lot 69 = .ok (.aload_n 0, 1) := by decide +kernel
theorem dX8_lot_70 : decode cX8_lot 70 = .ok (.getfield 44, 3) := by decide +kernel
theorem dX8_lot_73 : decode cX8_lot 73 = .ok (.iload_n 3, 1) := by decide +kernel
theorem dX8_lot_74 : decode cX8_lot 74 = .ok (.invokestatic 192, 3) := by decide +kernel
theorem dX8_lot_77 : decode cX8_lot 77 = .ok (.ifCond .eq 15, 3) := by decide +kernel
theorem dX8_lot_80 : decode cX8_lot 80 = .ok (.aload_n 0, 1) := by decide +kernel
theorem dX8_lot_81 : decode cX8_lot 81 = .ok (.getfield 44, 3) := by decide +kernel
theorem dX8_lot_84 : decode cX8_lot 84 = .ok (.iconst 5, 1) := by decide +kernel
theorem dX8_lot_85 : decode cX8_lot 85 = .ok (.iload_n 2, 1) := by decide +kernel
theorem dX8_lot_86 : decode cX8_lot 86 = .ok (.iadd, 1) := by decide +kernel
theorem dX8_lot_87 : decode cX8_lot 87 = .ok (.iload_n 3, 1) := by decide +kernel
theorem dX8_lot_88 : decode cX8_lot 88 = .ok (.iastore, 1) := by decide +kernel
theorem dX8_lot_89 : decode cX8_lot 89 = .ok (.goto 14, 3) := by decide +kernel
theorem dX8_lot_92 : decode cX8_lot 92 = .ok (.aload_n 0, 1) := by decide +kernel
theorem dX8_lot_93 : decode cX8_lot 93 = .ok (.getfield 44, 3) := by decide +kernel
theorem dX8_lot_96 : decode cX8_lot 96 = .ok (.bipush 11, 2) := by decide +kernel
theorem dX8_lot_98 : decode cX8_lot 98 = .ok (.dup2, 1) := by decide +kernel
theorem dX8_lot_99 : decode cX8_lot 99 = .ok (.iaload, 1) := by decide +kernel
theorem dX8_lot_100 : decode cX8_lot 100 = .ok (.iconst 1, 1) := by decide +kernel
theorem dX8_lot_101 : decode cX8_lot 101 = .ok (.iadd, 1) := by decide +kernel
theorem dX8_lot_102 : decode cX8_lot 102 = .ok (.iastore, 1) := by decide +kernel
theorem dX8_lot_103 : decode cX8_lot 103 = .ok (.return_, 1) := by decide +kernel
theorem dX8_lots_0 : decode cX8_lots 0 = .ok (.iload_n 1, 1) := by decide +kernel
theorem dX8_lots_1 : decode cX8_lots 1 = .ok (.i2l, 1) := by decide +kernel
theorem dX8_lots_2 : decode cX8_lots 2 = .ok (.lconst 1, 1) := by decide +kernel
theorem dX8_lots_3 : decode cX8_lots 3 = .ok (.ldc2_w 215, 3) := by decide +kernel
theorem dX8_lots_6 : decode cX8_lots 6 = .ok (.invokestatic 95, 3) := by decide +kernel
theorem dX8_lots_9 : decode cX8_lots 9 = .ok (.ifCond .eq 15, 3) := by decide +kernel
theorem dX8_lots_12 : decode cX8_lots 12 = .ok (.iload_n 2, 1) := by decide +kernel
theorem dX8_lots_13 : decode cX8_lots 13 = .ok (.i2l, 1) := by decide +kernel
theorem dX8_lots_14 : decode cX8_lots 14 = .ok (.lconst 1, 1) := by decide +kernel
theorem dX8_lots_15 : decode cX8_lots 15 = .ok (.ldc2_w 303, 3) := by decide +kernel
theorem dX8_lots_18 : decode cX8_lots 18 = .ok (.invokestatic 95, 3) := by decide +kernel
theorem dX8_lots_21 : decode cX8_lots 21 = .ok (.ifCond .ne 5, 3) := by decide +kernel
theorem dX8_lots_24 : decode cX8_lots 24 = .ok (.iconst (-1), 1) := by decide +kernel
theorem dX8_lots_25 : decode cX8_lots 25 = .ok (.ireturn, 1) := by decide +kernel
theorem dX8_lots_26 : decode cX8_lots 26 = .ok (.aload_n 0, 1) := by decide +kernel
theorem dX8_lots_27 : decode cX8_lots 27 = .ok (.iload_n 1, 1) := by decide +kernel
theorem dX8_lots_28 : decode cX8_lots 28 = .ok (.invokevirtual 220, 3) := by decide +kernel
theorem dX8_lots_31 : decode cX8_lots 31 = .ok (.istore_n 3, 1) := by decide +kernel
theorem dX8_lots_32 : decode cX8_lots 32 = .ok (.iload_n 3, 1) := by decide +kernel
theorem dX8_lots_33 : decode cX8_lots 33 = .ok (.ifCond .eq 5, 3) := by decide +kernel
theorem dX8_lots_36 : decode cX8_lots 36 = .ok (.iload_n 3, 1) := by decide +kernel
theorem dX8_lots_37 : decode cX8_lots 37 = .ok (.ireturn, 1) := by decide +kernel
theorem dX8_lots_38 : decode cX8_lots 38 = .ok (.iload_n 2, 1) := by decide +kernel
theorem dX8_lots_39 : decode cX8_lots 39 = .ok (.i2l, 1) := by decide +kernel
theorem dX8_lots_40 : decode cX8_lots 40 = .ok (.lstore 4, 2) := by decide +kernel
theorem dX8_lots_42 : decode cX8_lots 42 = .ok (.iconst 0, 1) := by decide +kernel
theorem dX8_lots_43 : decode cX8_lots 43 = .ok (.istore 6, 2) := by decide +kernel
theorem dX8_lots_45 : decode cX8_lots 45 = .ok (.iload 6, 2) := by decide +kernel
theorem dX8_lots_47 : decode cX8_lots 47 = .ok (.iload_n 1, 1) := by decide +kernel
theorem dX8_lots_48 : decode cX8_lots 48 = .ok (.if_icmp .ge 28, 3) := by decide +kernel
theorem dX8_lots_51 : decode cX8_lots 51 = .ok (.lload 4, 2) := by decide +kernel
theorem dX8_lots_53 : decode cX8_lots 53 = .ok (.ldc2_w 305, 3) := by decide +kernel
theorem dX8_lots_56 : decode cX8_lots 56 = .ok (.lmul, 1) := by decide +kernel
theorem dX8_lots_57 : decode cX8_lots 57 = .ok (.ldc2_w 307, 3) := by decide +kernel
theorem dX8_lots_60 : decode cX8_lots 60 = .ok (.lrem, 1) := by decide +kernel
theorem dX8_lots_61 : decode cX8_lots 61 = .ok (.lstore 4, 2) := by decide +kernel
theorem dX8_lots_63 : decode cX8_lots 63 = .ok (.aload_n 0, 1) := by decide +kernel
theorem dX8_lots_64 : decode cX8_lots 64 = .ok (.lload 4, 2) := by decide +kernel
theorem dX8_lots_66 : decode cX8_lots 66 = .ok (.l2i, 1) := by decide +kernel
theorem dX8_lots_67 : decode cX8_lots 67 = .ok (.invokevirtual 309, 3) := by decide +kernel
theorem dX8_lots_70 : decode cX8_lots 70 = .ok (.iinc 6 1, 3) := by decide +kernel
theorem dX8_lots_73 : decode cX8_lots 73 = .ok (.goto (-28), 3) := by decide +kernel
theorem dX8_lots_76 : decode cX8_lots 76 = .ok (.aload_n 0, 1) := by decide +kernel
theorem dX8_lots_77 : decode cX8_lots 77 = .ok (.aload_n 0, 1) := by decide +kernel
theorem dX8_lots_78 : decode cX8_lots 78 = .ok (.getfield 44, 3) := by decide +kernel
theorem dX8_lots_81 : decode cX8_lots 81 = .ok (.invokevirtual 237, 3) := by decide +kernel
theorem dX8_lots_84 : decode cX8_lots 84 = .ok (.ireturn, 1) := by decide +kernel
theorem dX8_asked_0 : decode cX8_asked 0 = .ok (.aload_n 0, 1) := by decide +kernel
theorem dX8_asked_1 : decode cX8_asked 1 = .ok (.getfield 90, 3) := by decide +kernel
theorem dX8_asked_4 : decode cX8_asked 4 = .ok (.ireturn, 1) := by decide +kernel
theorem dX8_upper_0 : decode cX8_upper 0 = .ok (.aload_n 0, 1) := by decide +kernel
theorem dX8_upper_1 : decode cX8_upper 1 = .ok (.getfield 295, 3) := by decide +kernel
theorem dX8_upper_4 : decode cX8_upper 4 = .ok (.lreturn, 1) := by decide +kernel
theorem dX8_lower_0 : decode cX8_lower 0 = .ok (.aload_n 0, 1) := by decide +kernel
theorem dX8_lower_1 : decode cX8_lower 1 = .ok (.getfield 22, 3) := by decide +kernel
theorem dX8_lower_4 : decode cX8_lower 4 = .ok (.lreturn, 1) := by decide +kernel
theorem dX8_there_0 : decode cX8_there 0 = .ok (.iconst 0, 1) := by decide +kernel
theorem dX8_there_1 : decode cX8_there 1 = .ok (.istore_n 3, 1) := by decide +kernel
theorem dX8_there_2 : decode cX8_there 2 = .ok (.iconst 0, 1) := by decide +kernel
theorem dX8_there_3 : decode cX8_there 3 = .ok (.istore 4, 2) := by decide +kernel
theorem dX8_there_5 : decode cX8_there 5 = .ok (.iload 4, 2) := by decide +kernel
theorem dX8_there_7 : decode cX8_there 7 = .ok (.iload_n 1, 1) := by decide +kernel
theorem dX8_there_8 : decode cX8_there 8 = .ok (.if_icmp .ge 26, 3) := by decide +kernel
theorem dX8_there_11 : decode cX8_there 11 = .ok (.iload_n 3, 1) := by decide +kernel
theorem dX8_there_12 : decode cX8_there 12 = .ok (.aload_n 0, 1) := by decide +kernel
theorem dX8_there_13 : decode cX8_there 13 = .ok (.iload_n 2, 1) := by decide +kernel
theorem dX8_there_14 : decode cX8_there 14 = .ok (.iload 4, 2) := by decide +kernel
theorem dX8_there_16 : decode cX8_there 16 = .ok (.imul, 1) := by decide +kernel
theorem dX8_there_17 : decode cX8_there 17 = .ok (.iaload, 1) := by decide +kernel
theorem dX8_there_18 : decode cX8_there 18 = .ok (.ifCond .ge 7, 3) := by decide +kernel
theorem dX8_there_21 : decode cX8_there 21 = .ok (.iconst 0, 1) := by decide +kernel
theorem dX8_there_22 : decode cX8_there 22 = .ok (.goto 4, 3) := by decide +kernel
theorem dX8_there_25 : decode cX8_there 25 = .ok (.iconst 1, 1) := by decide +kernel
theorem dX8_there_26 : decode cX8_there 26 = .ok (.iadd, 1) := by decide +kernel
theorem dX8_there_27 : decode cX8_there 27 = .ok (.istore_n 3, 1) := by decide +kernel
theorem dX8_there_28 : decode cX8_there 28 = .ok (.iinc 4 1, 3) := by decide +kernel
theorem dX8_there_31 : decode cX8_there 31 = .ok (.goto (-26), 3) := by decide +kernel
theorem dX8_there_34 : decode cX8_there 34 = .ok (.iload_n 3, 1) := by decide +kernel
theorem dX8_there_35 : decode cX8_there 35 = .ok (.ireturn, 1) := by decide +kernel
theorem dX8_whoAreUp_0 : decode cX8_whoAreUp 0 = .ok (.iconst 0, 1) := by decide +kernel
theorem dX8_whoAreUp_1 : decode cX8_whoAreUp 1 = .ok (.istore_n 1, 1) := by decide +kernel
theorem dX8_whoAreUp_2 : decode cX8_whoAreUp 2 = .ok (.iconst 0, 1) := by decide +kernel
theorem dX8_whoAreUp_3 : decode cX8_whoAreUp 3 = .ok (.istore_n 2, 1) := by decide +kernel
theorem dX8_whoAreUp_4 : decode cX8_whoAreUp 4 = .ok (.iload_n 2, 1) := by decide +kernel
theorem dX8_whoAreUp_5 : decode cX8_whoAreUp 5 = .ok (.aload_n 0, 1) := by decide +kernel
theorem dX8_whoAreUp_6 : decode cX8_whoAreUp 6 = .ok (.getfield 166, 3) := by decide +kernel
theorem dX8_whoAreUp_9 : decode cX8_whoAreUp 9 = .ok (.if_icmp .ge 32, 3) := by decide +kernel
theorem dX8_whoAreUp_12 : decode cX8_whoAreUp 12 = .ok (.iload_n 1, 1) := by decide +kernel
theorem dX8_whoAreUp_13 : decode cX8_whoAreUp 13 = .ok (.aload_n 0, 1) := by decide +kernel
theorem dX8_whoAreUp_14 : decode cX8_whoAreUp 14 = .ok (.getfield 44, 3) := by decide +kernel
theorem dX8_whoAreUp_17 : decode cX8_whoAreUp 17 = .ok (.iconst 5, 1) := by decide +kernel
theorem dX8_whoAreUp_18 : decode cX8_whoAreUp 18 = .ok (.iload_n 2, 1) := by decide +kernel
theorem dX8_whoAreUp_19 : decode cX8_whoAreUp 19 = .ok (.iadd, 1) := by decide +kernel
theorem dX8_whoAreUp_20 : decode cX8_whoAreUp 20 = .ok (.iaload, 1) := by decide +kernel
theorem dX8_whoAreUp_21 : decode cX8_whoAreUp 21 = .ok (.bipush (-9), 2) := by decide +kernel
theorem dX8_whoAreUp_23 : decode cX8_whoAreUp 23 = .ok (.if_icmp .ne 7, 3) := by decide +kernel
theorem dX8_whoAreUp_26 : decode cX8_whoAreUp 26 = .ok (.iconst 0, 1) := by decide +kernel
theorem dX8_whoAreUp_27 : decode cX8_whoAreUp 27 = .ok (.goto 6, 3) := by decide +kernel
theorem dX8_whoAreUp_30 : decode cX8_whoAreUp 30 = .ok (.iconst 1, 1) := by decide +kernel
theorem dX8_whoAreUp_31 : decode cX8_whoAreUp 31 = .ok (.iload_n 2, 1) := by decide +kernel
theorem dX8_whoAreUp_32 : decode cX8_whoAreUp 32 = .ok (.ishl, 1) := by decide +kernel
theorem dX8_whoAreUp_33 : decode cX8_whoAreUp 33 = .ok (.ior, 1) := by decide +kernel
theorem dX8_whoAreUp_34 : decode cX8_whoAreUp 34 = .ok (.istore_n 1, 1) := by decide +kernel
theorem dX8_whoAreUp_35 : decode cX8_whoAreUp 35 = .ok (.iinc 2 1, 3) := by decide +kernel
theorem dX8_whoAreUp_38 : decode cX8_whoAreUp 38 = .ok (.goto (-34), 3) := by decide +kernel
theorem dX8_whoAreUp_41 : decode cX8_whoAreUp 41 = .ok (.iload_n 1, 1) := by decide +kernel
theorem dX8_whoAreUp_42 : decode cX8_whoAreUp 42 = .ok (.ireturn, 1) := by decide +kernel
theorem dX8_laced_0 : decode cX8_laced 0 = .ok (.iconst 0, 1) := by decide +kernel
theorem dX8_laced_1 : decode cX8_laced 1 = .ok (.istore_n 1, 1) := by decide +kernel
theorem dX8_laced_2 : decode cX8_laced 2 = .ok (.iconst 0, 1) := by decide +kernel
theorem dX8_laced_3 : decode cX8_laced 3 = .ok (.istore_n 2, 1) := by decide +kernel
theorem dX8_laced_4 : decode cX8_laced 4 = .ok (.iload_n 2, 1) := by decide +kernel
theorem dX8_laced_5 : decode cX8_laced 5 = .ok (.aload_n 0, 1) := by decide +kernel
theorem dX8_laced_6 : decode cX8_laced 6 = .ok (.getfield 163, 3) := by decide +kernel
theorem dX8_laced_9 : decode cX8_laced 9 = .ok (.if_icmp .ge 30, 3) := by decide +kernel
theorem dX8_laced_12 : decode cX8_laced 12 = .ok (.iload_n 1, 1) := by decide +kernel
theorem dX8_laced_13 : decode cX8_laced 13 = .ok (.aload_n 0, 1) := by decide +kernel
theorem dX8_laced_14 : decode cX8_laced 14 = .ok (.getfield 29, 3) := by decide +kernel
theorem dX8_laced_17 : decode cX8_laced 17 = .ok (.iload_n 2, 1) := by decide +kernel
theorem dX8_laced_18 : decode cX8_laced 18 = .ok (.iaload, 1) := by decide +kernel
theorem dX8_laced_19 : decode cX8_laced 19 = .ok (.iconst 2, 1) := by decide +kernel
theorem dX8_laced_20 : decode cX8_laced 20 = .ok (.invokestatic 212, 3) := by decide +kernel
theorem dX8_laced_23 : decode cX8_laced 23 = .ok (.ifCond .eq 7, 3) := by decide +kernel
theorem dX8_laced_26 : decode cX8_laced 26 = .ok (.iconst 1, 1) := by decide +kernel
theorem dX8_laced_27 : decode cX8_laced 27 = .ok (.goto 4, 3) := by decide +kernel
theorem dX8_laced_30 : decode cX8_laced 30 = .ok (.iconst 0, 1) := by decide +kernel
theorem dX8_laced_31 : decode cX8_laced 31 = .ok (.iadd, 1) := by decide +kernel
theorem dX8_laced_32 : decode cX8_laced 32 = .ok (.istore_n 1, 1) := by decide +kernel
theorem dX8_laced_33 : decode cX8_laced 33 = .ok (.iinc 2 1, 3) := by decide +kernel
theorem dX8_laced_36 : decode cX8_laced 36 = .ok (.goto (-32), 3) := by decide +kernel
theorem dX8_laced_39 : decode cX8_laced 39 = .ok (.iload_n 1, 1) := by decide +kernel
theorem dX8_laced_40 : decode cX8_laced 40 = .ok (.ireturn, 1) := by decide +kernel
theorem dX8_count_0 : decode cX8_count 0 = .ok (.iload_n 1, 1) := by decide +kernel
theorem dX8_count_1 : decode cX8_count 1 = .ok (.tableswitch 153 0 11 #[63, 68, 73, 78, 86, 93, 98, 107, 115, 126, 136, 148], 63) := by decide +kernel
theorem dX8_count_64 : decode cX8_count 64 = .ok (.aload_n 0, 1) := by decide +kernel
theorem dX8_count_65 : decode cX8_count 65 = .ok (.getfield 163, 3) := by decide +kernel
theorem dX8_count_68 : decode cX8_count 68 = .ok (.ireturn, 1) := by decide +kernel
theorem dX8_count_69 : decode cX8_count 69 = .ok (.aload_n 0, 1) := by decide +kernel
theorem dX8_count_70 : decode cX8_count 70 = .ok (.getfield 166, 3) := by decide +kernel
theorem dX8_count_73 : decode cX8_count 73 = .ok (.ireturn, 1) := by decide +kernel
theorem dX8_count_74 : decode cX8_count 74 = .ok (.aload_n 0, 1) := by decide +kernel
theorem dX8_count_75 : decode cX8_count 75 = .ok (.getfield 117, 3) := by decide +kernel
theorem dX8_count_78 : decode cX8_count 78 = .ok (.ireturn, 1) := by decide +kernel
theorem dX8_count_79 : decode cX8_count 79 = .ok (.aload_n 0, 1) := by decide +kernel
theorem dX8_count_80 : decode cX8_count 80 = .ok (.getfield 44, 3) := by decide +kernel
theorem dX8_count_83 : decode cX8_count 83 = .ok (.bipush 10, 2) := by decide +kernel
theorem dX8_count_85 : decode cX8_count 85 = .ok (.iaload, 1) := by decide +kernel
theorem dX8_count_86 : decode cX8_count 86 = .ok (.ireturn, 1) := by decide +kernel
theorem dX8_count_87 : decode cX8_count 87 = .ok (.aload_n 0, 1) := by decide +kernel
theorem dX8_count_88 : decode cX8_count 88 = .ok (.getfield 44, 3) := by decide +kernel
theorem dX8_count_91 : decode cX8_count 91 = .ok (.iconst 4, 1) := by decide +kernel
theorem dX8_count_92 : decode cX8_count 92 = .ok (.iaload, 1) := by decide +kernel
theorem dX8_count_93 : decode cX8_count 93 = .ok (.ireturn, 1) := by decide +kernel
theorem dX8_count_94 : decode cX8_count 94 = .ok (.aload_n 0, 1) := by decide +kernel
theorem dX8_count_95 : decode cX8_count 95 = .ok (.invokevirtual 312, 3) := by decide +kernel
theorem dX8_count_98 : decode cX8_count 98 = .ok (.ireturn, 1) := by decide +kernel
theorem dX8_count_99 : decode cX8_count 99 = .ok (.aload_n 0, 1) := by decide +kernel
theorem dX8_count_100 : decode cX8_count 100 = .ok (.aload_n 0, 1) := by decide +kernel
theorem dX8_count_101 : decode cX8_count 101 = .ok (.getfield 44, 3) := by decide +kernel
theorem dX8_count_104 : decode cX8_count 104 = .ok (.invokevirtual 237, 3) := by decide +kernel
theorem dX8_count_107 : decode cX8_count 107 = .ok (.ireturn, 1) := by decide +kernel
theorem dX8_count_108 : decode cX8_count 108 = .ok (.aload_n 0, 1) := by decide +kernel
theorem dX8_count_109 : decode cX8_count 109 = .ok (.getfield 44, 3) := by decide +kernel
theorem dX8_count_112 : decode cX8_count 112 = .ok (.bipush 11, 2) := by decide +kernel
theorem dX8_count_114 : decode cX8_count 114 = .ok (.iaload, 1) := by decide +kernel
theorem dX8_count_115 : decode cX8_count 115 = .ok (.ireturn, 1) := by decide +kernel
theorem dX8_count_116 : decode cX8_count 116 = .ok (.aload_n 0, 1) := by decide +kernel
theorem dX8_count_117 : decode cX8_count 117 = .ok (.getfield 13, 3) := by decide +kernel
theorem dX8_count_120 : decode cX8_count 120 = .ok (.bipush 6, 2) := by decide +kernel
theorem dX8_count_122 : decode cX8_count 122 = .ok (.iconst 1, 1) := by decide +kernel
theorem dX8_count_123 : decode cX8_count 123 = .ok (.invokestatic 315, 3) := by decide +kernel
theorem dX8_count_126 : decode cX8_count 126 = .ok (.ireturn, 1) := by decide +kernel
theorem dX8_count_127 : decode cX8_count 127 = .ok (.aload_n 0, 1) := by decide +kernel
theorem dX8_count_128 : decode cX8_count 128 = .ok (.getfield 19, 3) := by decide +kernel
theorem dX8_count_131 : decode cX8_count 131 = .ok (.iconst 4, 1) := by decide +kernel
theorem dX8_count_132 : decode cX8_count 132 = .ok (.iconst 1, 1) := by decide +kernel
theorem dX8_count_133 : decode cX8_count 133 = .ok (.invokestatic 315, 3) := by decide +kernel
theorem dX8_count_136 : decode cX8_count 136 = .ok (.ireturn, 1) := by decide +kernel
theorem dX8_count_137 : decode cX8_count 137 = .ok (.aload_n 0, 1) := by decide +kernel
theorem dX8_count_138 : decode cX8_count 138 = .ok (.getfield 53, 3) := by decide +kernel
theorem dX8_count_141 : decode cX8_count 141 = .ok (.iconst 3, 1) := by decide +kernel
theorem dX8_count_142 : decode cX8_count 142 = .ok (.sipush 493, 3) := by decide +kernel
theorem dX8_count_145 : decode cX8_count 145 = .ok (.invokestatic 315, 3) := by decide +kernel
theorem dX8_count_148 : decode cX8_count 148 = .ok (.ireturn, 1) := by decide +kernel
theorem dX8_count_149 : decode cX8_count 149 = .ok (.aload_n 0, 1) := by decide +kernel
theorem dX8_count_150 : decode cX8_count 150 = .ok (.invokevirtual 319, 3) := by decide +kernel
theorem dX8_count_153 : decode cX8_count 153 = .ok (.ireturn, 1) := by decide +kernel
theorem dX8_count_154 : decode cX8_count 154 = .ok (.iconst (-1), 1) := by decide +kernel
theorem dX8_count_155 : decode cX8_count 155 = .ok (.ireturn, 1) := by decide +kernel
theorem dX8_finding_0 : decode cX8_finding 0 = .ok (.aload_n 0, 1) := by decide +kernel
theorem dX8_finding_1 : decode cX8_finding 1 = .ok (.getfield 86, 3) := by decide +kernel
theorem dX8_finding_4 : decode cX8_finding 4 = .ok (.ireturn, 1) := by decide +kernel
theorem dX8_findings_0 : decode cX8_findings 0 = .ok (.iload_n 1, 1) := by decide +kernel
theorem dX8_findings_1 : decode cX8_findings 1 = .ok (.i2l, 1) := by decide +kernel
theorem dX8_findings_2 : decode cX8_findings 2 = .ok (.lconst 1, 1) := by decide +kernel
theorem dX8_findings_3 : decode cX8_findings 3 = .ok (.ldc2_w 93, 3) := by decide +kernel
theorem dX8_findings_6 : decode cX8_findings 6 = .ok (.invokestatic 95, 3) := by decide +kernel
theorem dX8_findings_9 : decode cX8_findings 9 = .ok (.ifCond .eq 12, 3) := by decide +kernel
theorem dX8_findings_12 : decode cX8_findings 12 = .ok (.aload_n 0, 1) := by decide +kernel
theorem dX8_findings_13 : decode cX8_findings 13 = .ok (.getfield 26, 3) := by decide +kernel
theorem dX8_findings_16 : decode cX8_findings 16 = .ok (.iload_n 1, 1) := by decide +kernel
theorem dX8_findings_17 : decode cX8_findings 17 = .ok (.iaload, 1) := by decide +kernel
theorem dX8_findings_18 : decode cX8_findings 18 = .ok (.goto 4, 3) := by decide +kernel
theorem dX8_findings_21 : decode cX8_findings 21 = .ok (.iconst (-1), 1) := by decide +kernel
theorem dX8_findings_22 : decode cX8_findings 22 = .ok (.ireturn, 1) := by decide +kernel
theorem dX8_digest_0 : decode cX8_digest 0 = .ok (.ldc2_w 322, 3) := by decide +kernel
theorem dX8_digest_3 : decode cX8_digest 3 = .ok (.lstore_n 1, 1) := by decide +kernel
theorem dX8_digest_4 : decode cX8_digest 4 = .ok (.iconst 0, 1) := by decide +kernel
theorem dX8_digest_5 : decode cX8_digest 5 = .ok (.istore_n 3, 1) := by decide +kernel
theorem dX8_digest_6 : decode cX8_digest 6 = .ok (.iload_n 3, 1) := by decide +kernel
theorem dX8_digest_7 : decode cX8_digest 7 = .ok (.bipush 12, 2) := by decide +kernel
theorem dX8_digest_9 : decode cX8_digest 9 = .ok (.if_icmp .ge 22, 3) := by decide +kernel
theorem dX8_digest_12 : decode cX8_digest 12 = .ok (.ldc2_w 324, 3) := by decide +kernel
theorem dX8_digest_15 : decode cX8_digest 15 = .ok (.lload_n 1, 1) := by decide +kernel
theorem dX8_digest_16 : decode cX8_digest 16 = .ok (.lmul, 1) := by decide +kernel
theorem dX8_digest_17 : decode cX8_digest 17 = .ok (.aload_n 0, 1) := by decide +kernel
theorem dX8_digest_18 : decode cX8_digest 18 = .ok (.iload_n 3, 1) := by decide +kernel
theorem dX8_digest_19 : decode cX8_digest 19 = .ok (.invokevirtual 326, 3) := by decide +kernel
theorem dX8_digest_22 : decode cX8_digest 22 = .ok (.i2l, 1) := by decide +kernel
theorem dX8_digest_23 : decode cX8_digest 23 = .ok (.ladd, 1) := by decide +kernel
theorem dX8_digest_24 : decode cX8_digest 24 = .ok (.lstore_n 1, 1) := by decide +kernel
theorem dX8_digest_25 : decode cX8_digest 25 = .ok (.iinc 3 1, 3) := by decide +kernel
theorem dX8_digest_28 : decode cX8_digest 28 = .ok (.goto (-22), 3) := by decide +kernel
theorem dX8_digest_31 : decode cX8_digest 31 = .ok (.iconst 0, 1) := by decide +kernel
theorem dX8_digest_32 : decode cX8_digest 32 = .ok (.istore_n 3, 1) := by decide +kernel
theorem dX8_digest_33 : decode cX8_digest 33 = .ok (.iload_n 3, 1) := by decide +kernel
theorem dX8_digest_34 : decode cX8_digest 34 = .ok (.aload_n 0, 1) := by decide +kernel
theorem dX8_digest_35 : decode cX8_digest 35 = .ok (.getfield 163, 3) := by decide +kernel
theorem dX8_digest_38 : decode cX8_digest 38 = .ok (.if_icmp .ge 124, 3) := by decide +kernel
theorem dX8_digest_41 : decode cX8_digest 41 = .ok (.ldc2_w 324, 3) := by decide +kernel
theorem dX8_digest_44 : decode cX8_digest 44 = .ok (.ldc2_w 324, 3) := by decide +kernel
theorem dX8_digest_47 : decode cX8_digest 47 = .ok (.ldc2_w 324, 3) := by decide +kernel
theorem dX8_digest_50 : decode cX8_digest 50 = .ok (.ldc2_w 324, 3) := by decide +kernel
theorem dX8_digest_53 : decode cX8_digest 53 = .ok (.lload_n 1, 1) := by decide +kernel
theorem dX8_digest_54 : decode cX8_digest 54 = .ok (.lmul, 1) := by decide +kernel
theorem dX8_digest_55 : decode cX8_digest 55 = .ok (.aload_n 0, 1) := by decide +kernel
theorem dX8_digest_56 : decode cX8_digest 56 = .ok (.getfield 29, 3) := by decide +kernel
theorem dX8_digest_59 : decode cX8_digest 59 = .ok (.iload_n 3, 1) := by decide +kernel
theorem dX8_digest_60 : decode cX8_digest 60 = .ok (.iaload, 1) := by decide +kernel
theorem dX8_digest_61 : decode cX8_digest 61 = .ok (.i2l, 1) := by decide +kernel
theorem dX8_digest_62 : decode cX8_digest 62 = .ok (.ladd, 1) := by decide +kernel
theorem dX8_digest_63 : decode cX8_digest 63 = .ok (.lmul, 1) := by decide +kernel
theorem dX8_digest_64 : decode cX8_digest 64 = .ok (.aload_n 0, 1) := by decide +kernel
theorem dX8_digest_65 : decode cX8_digest 65 = .ok (.getfield 32, 3) := by decide +kernel
theorem dX8_digest_68 : decode cX8_digest 68 = .ok (.iload_n 3, 1) := by decide +kernel
theorem dX8_digest_69 : decode cX8_digest 69 = .ok (.iaload, 1) := by decide +kernel
theorem dX8_digest_70 : decode cX8_digest 70 = .ok (.i2l, 1) := by decide +kernel
theorem dX8_digest_71 : decode cX8_digest 71 = .ok (.ladd, 1) := by decide +kernel
theorem dX8_digest_72 : decode cX8_digest 72 = .ok (.lmul, 1) := by decide +kernel
theorem dX8_digest_73 : decode cX8_digest 73 = .ok (.aload_n 0, 1) := by decide +kernel
theorem dX8_digest_74 : decode cX8_digest 74 = .ok (.getfield 35, 3) := by decide +kernel
theorem dX8_digest_77 : decode cX8_digest 77 = .ok (.iload_n 3, 1) := by decide +kernel
theorem dX8_digest_78 : decode cX8_digest 78 = .ok (.iaload, 1) := by decide +kernel
theorem dX8_digest_79 : decode cX8_digest 79 = .ok (.i2l, 1) := by decide +kernel
theorem dX8_digest_80 : decode cX8_digest 80 = .ok (.ladd, 1) := by decide +kernel
theorem dX8_digest_81 : decode cX8_digest 81 = .ok (.lmul, 1) := by decide +kernel
theorem dX8_digest_82 : decode cX8_digest 82 = .ok (.aload_n 0, 1) := by decide +kernel
theorem dX8_digest_83 : decode cX8_digest 83 = .ok (.getfield 44, 3) := by decide +kernel
theorem dX8_digest_86 : decode cX8_digest 86 = .ok (.iconst 0, 1) := by decide +kernel
theorem dX8_digest_87 : decode cX8_digest 87 = .ok (.iload_n 3, 1) := by decide +kernel
theorem dX8_digest_88 : decode cX8_digest 88 = .ok (.iadd, 1) := by decide +kernel
theorem dX8_digest_89 : decode cX8_digest 89 = .ok (.iaload, 1) := by decide +kernel
theorem dX8_digest_90 : decode cX8_digest 90 = .ok (.i2l, 1) := by decide +kernel
theorem dX8_digest_91 : decode cX8_digest 91 = .ok (.ladd, 1) := by decide +kernel
theorem dX8_digest_92 : decode cX8_digest 92 = .ok (.lstore_n 1, 1) := by decide +kernel
theorem dX8_digest_93 : decode cX8_digest 93 = .ok (.ldc2_w 324, 3) := by decide +kernel
theorem dX8_digest_96 : decode cX8_digest 96 = .ok (.ldc2_w 324, 3) := by decide +kernel
theorem dX8_digest_99 : decode cX8_digest 99 = .ok (.ldc2_w 324, 3) := by decide +kernel
theorem dX8_digest_102 : decode cX8_digest 102 = .ok (.ldc2_w 324, 3) := by decide +kernel
theorem dX8_digest_105 : decode cX8_digest 105 = .ok (.lload_n 1, 1) := by decide +kernel
theorem dX8_digest_106 : decode cX8_digest 106 = .ok (.lmul, 1) := by decide +kernel
theorem dX8_digest_107 : decode cX8_digest 107 = .ok (.aload_n 0, 1) := by decide +kernel
theorem dX8_digest_108 : decode cX8_digest 108 = .ok (.aload_n 0, 1) := by decide +kernel
theorem dX8_digest_109 : decode cX8_digest 109 = .ok (.getfield 44, 3) := by decide +kernel
theorem dX8_digest_112 : decode cX8_digest 112 = .ok (.iload_n 3, 1) := by decide +kernel
theorem dX8_digest_113 : decode cX8_digest 113 = .ok (.invokevirtual 189, 3) := by decide +kernel
theorem dX8_digest_116 : decode cX8_digest 116 = .ok (.i2l, 1) := by decide +kernel
theorem dX8_digest_117 : decode cX8_digest 117 = .ok (.ladd, 1) := by decide +kernel
theorem dX8_digest_118 : decode cX8_digest 118 = .ok (.lmul, 1) := by decide +kernel
theorem dX8_digest_119 : decode cX8_digest 119 = .ok (.aload_n 0, 1) := by decide +kernel
theorem dX8_digest_120 : decode cX8_digest 120 = .ok (.aload_n 0, 1) := by decide +kernel
theorem dX8_digest_121 : decode cX8_digest 121 = .ok (.getfield 44, 3) := by decide +kernel
theorem dX8_digest_124 : decode cX8_digest 124 = .ok (.iload_n 3, 1) := by decide +kernel
theorem dX8_digest_125 : decode cX8_digest 125 = .ok (.invokevirtual 185, 3) := by decide +kernel
theorem dX8_digest_128 : decode cX8_digest 128 = .ok (.i2l, 1) := by decide +kernel
theorem dX8_digest_129 : decode cX8_digest 129 = .ok (.ladd, 1) := by decide +kernel
theorem dX8_digest_130 : decode cX8_digest 130 = .ok (.lmul, 1) := by decide +kernel
theorem dX8_digest_131 : decode cX8_digest 131 = .ok (.aload_n 0, 1) := by decide +kernel
theorem dX8_digest_132 : decode cX8_digest 132 = .ok (.aload_n 0, 1) := by decide +kernel
theorem dX8_digest_133 : decode cX8_digest 133 = .ok (.getfield 44, 3) := by decide +kernel
theorem dX8_digest_136 : decode cX8_digest 136 = .ok (.iload_n 3, 1) := by decide +kernel
theorem dX8_digest_137 : decode cX8_digest 137 = .ok (.invokevirtual 199, 3) := by decide +kernel
theorem dX8_digest_140 : decode cX8_digest 140 = .ok (.i2l, 1) := by decide +kernel
theorem dX8_digest_141 : decode cX8_digest 141 = .ok (.ladd, 1) := by decide +kernel
theorem dX8_digest_142 : decode cX8_digest 142 = .ok (.lmul, 1) := by decide +kernel
theorem dX8_digest_143 : decode cX8_digest 143 = .ok (.aload_n 0, 1) := by decide +kernel
theorem dX8_digest_144 : decode cX8_digest 144 = .ok (.getfield 44, 3) := by decide +kernel
theorem dX8_digest_147 : decode cX8_digest 147 = .ok (.iconst 4, 1) := by decide +kernel
theorem dX8_digest_148 : decode cX8_digest 148 = .ok (.iaload, 1) := by decide +kernel
theorem dX8_digest_149 : decode cX8_digest 149 = .ok (.iload_n 3, 1) := by decide +kernel
theorem dX8_digest_150 : decode cX8_digest 150 = .ok (.ishr, 1) := by decide +kernel
theorem dX8_digest_151 : decode cX8_digest 151 = .ok (.iconst 1, 1) := by decide +kernel
theorem dX8_digest_152 : decode cX8_digest 152 = .ok (.iand, 1) := by decide +kernel
theorem dX8_digest_153 : decode cX8_digest 153 = .ok (.i2l, 1) := by decide +kernel
theorem dX8_digest_154 : decode cX8_digest 154 = .ok (.ladd, 1) := by decide +kernel
theorem dX8_digest_155 : decode cX8_digest 155 = .ok (.lstore_n 1, 1) := by decide +kernel
theorem dX8_digest_156 : decode cX8_digest 156 = .ok (.iinc 3 1, 3) := by decide +kernel
theorem dX8_digest_159 : decode cX8_digest 159 = .ok (.goto (-126), 3) := by decide +kernel
theorem dX8_digest_162 : decode cX8_digest 162 = .ok (.iconst 0, 1) := by decide +kernel
theorem dX8_digest_163 : decode cX8_digest 163 = .ok (.istore_n 3, 1) := by decide +kernel
theorem dX8_digest_164 : decode cX8_digest 164 = .ok (.iload_n 3, 1) := by decide +kernel
theorem dX8_digest_165 : decode cX8_digest 165 = .ok (.aload_n 0, 1) := by decide +kernel
theorem dX8_digest_166 : decode cX8_digest 166 = .ok (.getfield 166, 3) := by decide +kernel
theorem dX8_digest_169 : decode cX8_digest 169 = .ok (.if_icmp .ge 68, 3) := by decide +kernel
theorem dX8_digest_172 : decode cX8_digest 172 = .ok (.ldc2_w 324, 3) := by decide +kernel
theorem dX8_digest_175 : decode cX8_digest 175 = .ok (.ldc2_w 324, 3) := by decide +kernel
theorem dX8_digest_178 : decode cX8_digest 178 = .ok (.ldc2_w 324, 3) := by decide +kernel
theorem dX8_digest_181 : decode cX8_digest 181 = .ok (.ldc2_w 324, 3) := by decide +kernel
theorem dX8_digest_184 : decode cX8_digest 184 = .ok (.lload_n 1, 1) := by decide +kernel
theorem dX8_digest_185 : decode cX8_digest 185 = .ok (.lmul, 1) := by decide +kernel
theorem dX8_digest_186 : decode cX8_digest 186 = .ok (.aload_n 0, 1) := by decide +kernel
theorem dX8_digest_187 : decode cX8_digest 187 = .ok (.getfield 38, 3) := by decide +kernel
theorem dX8_digest_190 : decode cX8_digest 190 = .ok (.iload_n 3, 1) := by decide +kernel
theorem dX8_digest_191 : decode cX8_digest 191 = .ok (.iaload, 1) := by decide +kernel
theorem dX8_digest_192 : decode cX8_digest 192 = .ok (.i2l, 1) := by decide +kernel
theorem dX8_digest_193 : decode cX8_digest 193 = .ok (.ladd, 1) := by decide +kernel
theorem dX8_digest_194 : decode cX8_digest 194 = .ok (.lmul, 1) := by decide +kernel
theorem dX8_digest_195 : decode cX8_digest 195 = .ok (.aload_n 0, 1) := by decide +kernel
theorem dX8_digest_196 : decode cX8_digest 196 = .ok (.getfield 41, 3) := by decide +kernel
theorem dX8_digest_199 : decode cX8_digest 199 = .ok (.iload_n 3, 1) := by decide +kernel
theorem dX8_digest_200 : decode cX8_digest 200 = .ok (.iaload, 1) := by decide +kernel
theorem dX8_digest_201 : decode cX8_digest 201 = .ok (.i2l, 1) := by decide +kernel
theorem dX8_digest_202 : decode cX8_digest 202 = .ok (.ladd, 1) := by decide +kernel
theorem dX8_digest_203 : decode cX8_digest 203 = .ok (.lmul, 1) := by decide +kernel
theorem dX8_digest_204 : decode cX8_digest 204 = .ok (.aload_n 0, 1) := by decide +kernel
theorem dX8_digest_205 : decode cX8_digest 205 = .ok (.getfield 44, 3) := by decide +kernel
theorem dX8_digest_208 : decode cX8_digest 208 = .ok (.iconst 5, 1) := by decide +kernel
theorem dX8_digest_209 : decode cX8_digest 209 = .ok (.iload_n 3, 1) := by decide +kernel
theorem dX8_digest_210 : decode cX8_digest 210 = .ok (.iadd, 1) := by decide +kernel
theorem dX8_digest_211 : decode cX8_digest 211 = .ok (.iaload, 1) := by decide +kernel
theorem dX8_digest_212 : decode cX8_digest 212 = .ok (.i2l, 1) := by decide +kernel
theorem dX8_digest_213 : decode cX8_digest 213 = .ok (.ladd, 1) := by decide +kernel
theorem dX8_digest_214 : decode cX8_digest 214 = .ok (.lmul, 1) := by decide +kernel
theorem dX8_digest_215 : decode cX8_digest 215 = .ok (.aload_n 0, 1) := by decide +kernel
theorem dX8_digest_216 : decode cX8_digest 216 = .ok (.iload_n 3, 1) := by decide +kernel
theorem dX8_digest_217 : decode cX8_digest 217 = .ok (.aload_n 0, 1) := by decide +kernel
theorem dX8_digest_218 : decode cX8_digest 218 = .ok (.getfield 44, 3) := by decide +kernel
theorem dX8_digest_221 : decode cX8_digest 221 = .ok (.iconst 5, 1) := by decide +kernel
theorem dX8_digest_222 : decode cX8_digest 222 = .ok (.iload_n 3, 1) := by decide +kernel
theorem dX8_digest_223 : decode cX8_digest 223 = .ok (.iadd, 1) := by decide +kernel
theorem dX8_digest_224 : decode cX8_digest 224 = .ok (.iaload, 1) := by decide +kernel
theorem dX8_digest_225 : decode cX8_digest 225 = .ok (.invokevirtual 177, 3) := by decide +kernel
theorem dX8_digest_228 : decode cX8_digest 228 = .ok (.i2l, 1) := by decide +kernel
theorem dX8_digest_229 : decode cX8_digest 229 = .ok (.ladd, 1) := by decide +kernel
theorem dX8_digest_230 : decode cX8_digest 230 = .ok (.lstore_n 1, 1) := by decide +kernel
theorem dX8_digest_231 : decode cX8_digest 231 = .ok (.iinc 3 1, 3) := by decide +kernel
theorem dX8_digest_234 : decode cX8_digest 234 = .ok (.goto (-70), 3) := by decide +kernel
theorem dX8_digest_237 : decode cX8_digest 237 = .ok (.iconst 0, 1) := by decide +kernel
theorem dX8_digest_238 : decode cX8_digest 238 = .ok (.istore_n 3, 1) := by decide +kernel
theorem dX8_digest_239 : decode cX8_digest 239 = .ok (.iload_n 3, 1) := by decide +kernel
theorem dX8_digest_240 : decode cX8_digest 240 = .ok (.iconst 3, 1) := by decide +kernel
theorem dX8_digest_241 : decode cX8_digest 241 = .ok (.if_icmp .ge 27, 3) := by decide +kernel
theorem dX8_digest_244 : decode cX8_digest 244 = .ok (.ldc2_w 324, 3) := by decide +kernel
theorem dX8_digest_247 : decode cX8_digest 247 = .ok (.lload_n 1, 1) := by decide +kernel
theorem dX8_digest_248 : decode cX8_digest 248 = .ok (.lmul, 1) := by decide +kernel
theorem dX8_digest_249 : decode cX8_digest 249 = .ok (.aload_n 0, 1) := by decide +kernel
theorem dX8_digest_250 : decode cX8_digest 250 = .ok (.getfield 53, 3) := by decide +kernel
theorem dX8_digest_253 : decode cX8_digest 253 = .ok (.sipush 493, 3) := by decide +kernel
theorem dX8_digest_256 : decode cX8_digest 256 = .ok (.iload_n 3, 1) := by decide +kernel
theorem dX8_digest_257 : decode cX8_digest 257 = .ok (.imul, 1) := by decide +kernel
theorem dX8_digest_258 : decode cX8_digest 258 = .ok (.iaload, 1) := by decide +kernel
theorem dX8_digest_259 : decode cX8_digest 259 = .ok (.i2l, 1) := by decide +kernel
theorem dX8_digest_260 : decode cX8_digest 260 = .ok (.ladd, 1) := by decide +kernel
theorem dX8_digest_261 : decode cX8_digest 261 = .ok (.lstore_n 1, 1) := by decide +kernel
theorem dX8_digest_262 : decode cX8_digest 262 = .ok (.iinc 3 1, 3) := by decide +kernel
theorem dX8_digest_265 : decode cX8_digest 265 = .ok (.goto (-26), 3) := by decide +kernel
theorem dX8_digest_268 : decode cX8_digest 268 = .ok (.iconst 0, 1) := by decide +kernel
theorem dX8_digest_269 : decode cX8_digest 269 = .ok (.istore_n 3, 1) := by decide +kernel
theorem dX8_digest_270 : decode cX8_digest 270 = .ok (.iload_n 3, 1) := by decide +kernel
theorem dX8_digest_271 : decode cX8_digest 271 = .ok (.bipush 6, 2) := by decide +kernel
theorem dX8_digest_273 : decode cX8_digest 273 = .ok (.if_icmp .ge 63, 3) := by decide +kernel
theorem dX8_digest_276 : decode cX8_digest 276 = .ok (.ldc2_w 324, 3) := by decide +kernel
theorem dX8_digest_279 : decode cX8_digest 279 = .ok (.lload_n 1, 1) := by decide +kernel
theorem dX8_digest_280 : decode cX8_digest 280 = .ok (.lmul, 1) := by decide +kernel
theorem dX8_digest_281 : decode cX8_digest 281 = .ok (.aload_n 0, 1) := by decide +kernel
theorem dX8_digest_282 : decode cX8_digest 282 = .ok (.getfield 13, 3) := by decide +kernel
theorem dX8_digest_285 : decode cX8_digest 285 = .ok (.iload_n 3, 1) := by decide +kernel
theorem dX8_digest_286 : decode cX8_digest 286 = .ok (.iaload, 1) := by decide +kernel
theorem dX8_digest_287 : decode cX8_digest 287 = .ok (.i2l, 1) := by decide +kernel
theorem dX8_digest_288 : decode cX8_digest 288 = .ok (.ladd, 1) := by decide +kernel
theorem dX8_digest_289 : decode cX8_digest 289 = .ok (.lstore_n 1, 1) := by decide +kernel
theorem dX8_digest_290 : decode cX8_digest 290 = .ok (.iconst 0, 1) := by decide +kernel
theorem dX8_digest_291 : decode cX8_digest 291 = .ok (.istore 4, 2) := by decide +kernel
theorem dX8_digest_293 : decode cX8_digest 293 = .ok (.iload 4, 2) := by decide +kernel
theorem dX8_digest_295 : decode cX8_digest 295 = .ok (.aload_n 0, 1) := by decide +kernel
theorem dX8_digest_296 : decode cX8_digest 296 = .ok (.getfield 13, 3) := by decide +kernel
theorem dX8_digest_299 : decode cX8_digest 299 = .ok (.iload_n 3, 1) := by decide +kernel
theorem dX8_digest_300 : decode cX8_digest 300 = .ok (.iaload, 1) := by decide +kernel
theorem dX8_digest_301 : decode cX8_digest 301 = .ok (.if_icmp .ge 29, 3) := by decide +kernel
theorem dX8_digest_304 : decode cX8_digest 304 = .ok (.ldc2_w 324, 3) := by decide +kernel
theorem dX8_digest_307 : decode cX8_digest 307 = .ok (.lload_n 1, 1) := by decide +kernel
theorem dX8_digest_308 : decode cX8_digest 308 = .ok (.lmul, 1) := by decide +kernel
theorem dX8_digest_309 : decode cX8_digest 309 = .ok (.aload_n 0, 1) := by decide +kernel
theorem dX8_digest_310 : decode cX8_digest 310 = .ok (.getfield 7, 3) := by decide +kernel
theorem dX8_digest_313 : decode cX8_digest 313 = .ok (.bipush 40, 2) := by decide +kernel
theorem dX8_digest_315 : decode cX8_digest 315 = .ok (.iload_n 3, 1) := by decide +kernel
theorem dX8_digest_316 : decode cX8_digest 316 = .ok (.imul, 1) := by decide +kernel
theorem dX8_digest_317 : decode cX8_digest 317 = .ok (.iload 4, 2) := by decide +kernel
theorem dX8_digest_319 : decode cX8_digest 319 = .ok (.iadd, 1) := by decide +kernel
theorem dX8_digest_320 : decode cX8_digest 320 = .ok (.iaload, 1) := by decide +kernel
theorem dX8_digest_321 : decode cX8_digest 321 = .ok (.i2l, 1) := by decide +kernel
theorem dX8_digest_322 : decode cX8_digest 322 = .ok (.ladd, 1) := by decide +kernel
theorem dX8_digest_323 : decode cX8_digest 323 = .ok (.lstore_n 1, 1) := by decide +kernel
theorem dX8_digest_324 : decode cX8_digest 324 = .ok (.iinc 4 1, 3) := by decide +kernel
theorem dX8_digest_327 : decode cX8_digest 327 = .ok (.goto (-34), 3) := by decide +kernel
theorem dX8_digest_330 : decode cX8_digest 330 = .ok (.iinc 3 1, 3) := by decide +kernel
theorem dX8_digest_333 : decode cX8_digest 333 = .ok (.goto (-63), 3) := by decide +kernel
theorem dX8_digest_336 : decode cX8_digest 336 = .ok (.iconst 0, 1) := by decide +kernel
theorem dX8_digest_337 : decode cX8_digest 337 = .ok (.istore_n 3, 1) := by decide +kernel
theorem dX8_digest_338 : decode cX8_digest 338 = .ok (.iload_n 3, 1) := by decide +kernel
theorem dX8_digest_339 : decode cX8_digest 339 = .ok (.iconst 4, 1) := by decide +kernel
theorem dX8_digest_340 : decode cX8_digest 340 = .ok (.if_icmp .ge 63, 3) := by decide +kernel
theorem dX8_digest_343 : decode cX8_digest 343 = .ok (.ldc2_w 324, 3) := by decide +kernel
theorem dX8_digest_346 : decode cX8_digest 346 = .ok (.lload_n 1, 1) := by decide +kernel
theorem dX8_digest_347 : decode cX8_digest 347 = .ok (.lmul, 1) := by decide +kernel
theorem dX8_digest_348 : decode cX8_digest 348 = .ok (.aload_n 0, 1) := by decide +kernel
theorem dX8_digest_349 : decode cX8_digest 349 = .ok (.getfield 19, 3) := by decide +kernel
theorem dX8_digest_352 : decode cX8_digest 352 = .ok (.iload_n 3, 1) := by decide +kernel
theorem dX8_digest_353 : decode cX8_digest 353 = .ok (.iaload, 1) := by decide +kernel
theorem dX8_digest_354 : decode cX8_digest 354 = .ok (.i2l, 1) := by decide +kernel
theorem dX8_digest_355 : decode cX8_digest 355 = .ok (.ladd, 1) := by decide +kernel
theorem dX8_digest_356 : decode cX8_digest 356 = .ok (.lstore_n 1, 1) := by decide +kernel
theorem dX8_digest_357 : decode cX8_digest 357 = .ok (.iconst 0, 1) := by decide +kernel
theorem dX8_digest_358 : decode cX8_digest 358 = .ok (.istore 4, 2) := by decide +kernel
theorem dX8_digest_360 : decode cX8_digest 360 = .ok (.iload 4, 2) := by decide +kernel
theorem dX8_digest_362 : decode cX8_digest 362 = .ok (.aload_n 0, 1) := by decide +kernel
theorem dX8_digest_363 : decode cX8_digest 363 = .ok (.getfield 19, 3) := by decide +kernel
theorem dX8_digest_366 : decode cX8_digest 366 = .ok (.iload_n 3, 1) := by decide +kernel
theorem dX8_digest_367 : decode cX8_digest 367 = .ok (.iaload, 1) := by decide +kernel
theorem dX8_digest_368 : decode cX8_digest 368 = .ok (.if_icmp .ge 29, 3) := by decide +kernel
theorem dX8_digest_371 : decode cX8_digest 371 = .ok (.ldc2_w 324, 3) := by decide +kernel
theorem dX8_digest_374 : decode cX8_digest 374 = .ok (.lload_n 1, 1) := by decide +kernel
theorem dX8_digest_375 : decode cX8_digest 375 = .ok (.lmul, 1) := by decide +kernel
theorem dX8_digest_376 : decode cX8_digest 376 = .ok (.aload_n 0, 1) := by decide +kernel
theorem dX8_digest_377 : decode cX8_digest 377 = .ok (.getfield 16, 3) := by decide +kernel
theorem dX8_digest_380 : decode cX8_digest 380 = .ok (.bipush 60, 2) := by decide +kernel
theorem dX8_digest_382 : decode cX8_digest 382 = .ok (.iload_n 3, 1) := by decide +kernel
theorem dX8_digest_383 : decode cX8_digest 383 = .ok (.imul, 1) := by decide +kernel
theorem dX8_digest_384 : decode cX8_digest 384 = .ok (.iload 4, 2) := by decide +kernel
theorem dX8_digest_386 : decode cX8_digest 386 = .ok (.iadd, 1) := by decide +kernel
theorem dX8_digest_387 : decode cX8_digest 387 = .ok (.iaload, 1) := by decide +kernel
theorem dX8_digest_388 : decode cX8_digest 388 = .ok (.i2l, 1) := by decide +kernel
theorem dX8_digest_389 : decode cX8_digest 389 = .ok (.ladd, 1) := by decide +kernel
theorem dX8_digest_390 : decode cX8_digest 390 = .ok (.lstore_n 1, 1) := by decide +kernel
theorem dX8_digest_391 : decode cX8_digest 391 = .ok (.iinc 4 1, 3) := by decide +kernel
theorem dX8_digest_394 : decode cX8_digest 394 = .ok (.goto (-34), 3) := by decide +kernel
theorem dX8_digest_397 : decode cX8_digest 397 = .ok (.iinc 3 1, 3) := by decide +kernel
theorem dX8_digest_400 : decode cX8_digest 400 = .ok (.goto (-62), 3) := by decide +kernel
theorem dX8_digest_403 : decode cX8_digest 403 = .ok (.lload_n 1, 1) := by decide +kernel
theorem dX8_digest_404 : decode cX8_digest 404 = .ok (.lreturn, 1) := by decide +kernel
theorem dL_law_0 : decode cL_law 0 = .ok (.new 7, 3) := by decide +kernel
theorem dL_law_3 : decode cL_law 3 = .ok (.dup, 1) := by decide +kernel
theorem dL_law_4 : decode cL_law 4 = .ok (.invokespecial 9, 3) := by decide +kernel
theorem dL_law_7 : decode cL_law 7 = .ok (.astore_n 1, 1) := by decide +kernel
theorem dL_law_8 : decode cL_law 8 = .ok (.new 10, 3) := by decide +kernel
theorem dL_law_11 : decode cL_law 11 = .ok (.dup, 1) := by decide +kernel
theorem dL_law_12 : decode cL_law 12 = .ok (.invokespecial 12, 3) := by decide +kernel
theorem dL_law_15 : decode cL_law 15 = .ok (.astore_n 2, 1) := by decide +kernel
theorem dL_law_16 : decode cL_law 16 = .ok (.iconst 0, 1) := by decide +kernel
theorem dL_law_17 : decode cL_law 17 = .ok (.istore_n 3, 1) := by decide +kernel
theorem dL_law_18 : decode cL_law 18 = .ok (.iload_n 3, 1) := by decide +kernel
theorem dL_law_19 : decode cL_law 19 = .ok (.aload_n 0, 1) := by decide +kernel
theorem dL_law_20 : decode cL_law 20 = .ok (.arraylength, 1) := by decide +kernel
theorem dL_law_21 : decode cL_law 21 = .ok (.bipush 6, 2) := by decide +kernel
theorem dL_law_23 : decode cL_law 23 = .ok (.isub, 1) := by decide +kernel
theorem dL_law_24 : decode cL_law 24 = .ok (.if_icmp .gt 1324, 3) := by decide +kernel
theorem dL_law_27 : decode cL_law 27 = .ok (.aload_n 0, 1) := by decide +kernel
theorem dL_law_28 : decode cL_law 28 = .ok (.iload_n 3, 1) := by decide +kernel
theorem dL_law_29 : decode cL_law 29 = .ok (.iaload, 1) := by decide +kernel
theorem dL_law_30 : decode cL_law 30 = .ok (.bipush 63, 2) := by decide +kernel
theorem dL_law_32 : decode cL_law 32 = .ok (.iand, 1) := by decide +kernel
theorem dL_law_33 : decode cL_law 33 = .ok (.tableswitch 1309 0 42 #[187, 220, 263, 296, 319, 382, 405, 438, 481, 504, 527, 560, 593, 626, 659, 692, 715, 738, 751, 764, 787, 810, 833, 846, 869, 892, 915, 928, 951, 984, 1017, 1050, 1083, 1106, 1139, 1162, 1195, 1208, 1222, 1236, 1259, 1272, 1295], 187) := by decide +kernel
theorem dL_law_220 : decode cL_law 220 = .ok (.aload_n 1, 1) := by decide +kernel
theorem dL_law_221 : decode cL_law 221 = .ok (.aload_n 0, 1) := by decide +kernel
theorem dL_law_222 : decode cL_law 222 = .ok (.iload_n 3, 1) := by decide +kernel
theorem dL_law_223 : decode cL_law 223 = .ok (.iconst 1, 1) := by decide +kernel
theorem dL_law_224 : decode cL_law 224 = .ok (.iadd, 1) := by decide +kernel
theorem dL_law_225 : decode cL_law 225 = .ok (.iaload, 1) := by decide +kernel
theorem dL_law_226 : decode cL_law 226 = .ok (.aload_n 0, 1) := by decide +kernel
theorem dL_law_227 : decode cL_law 227 = .ok (.iload_n 3, 1) := by decide +kernel
theorem dL_law_228 : decode cL_law 228 = .ok (.iconst 2, 1) := by decide +kernel
theorem dL_law_229 : decode cL_law 229 = .ok (.iadd, 1) := by decide +kernel
theorem dL_law_230 : decode cL_law 230 = .ok (.iaload, 1) := by decide +kernel
theorem dL_law_231 : decode cL_law 231 = .ok (.invokevirtual 13, 3) := by decide +kernel
theorem dL_law_234 : decode cL_law 234 = .ok (.aload_n 2, 1) := by decide +kernel
theorem dL_law_235 : decode cL_law 235 = .ok (.aload_n 0, 1) := by decide +kernel
theorem dL_law_236 : decode cL_law 236 = .ok (.iload_n 3, 1) := by decide +kernel
theorem dL_law_237 : decode cL_law 237 = .ok (.iconst 1, 1) := by decide +kernel
theorem dL_law_238 : decode cL_law 238 = .ok (.iadd, 1) := by decide +kernel
theorem dL_law_239 : decode cL_law 239 = .ok (.iaload, 1) := by decide +kernel
theorem dL_law_240 : decode cL_law 240 = .ok (.aload_n 0, 1) := by decide +kernel
theorem dL_law_241 : decode cL_law 241 = .ok (.iload_n 3, 1) := by decide +kernel
theorem dL_law_242 : decode cL_law 242 = .ok (.iconst 2, 1) := by decide +kernel
theorem dL_law_243 : decode cL_law 243 = .ok (.iadd, 1) := by decide +kernel
theorem dL_law_244 : decode cL_law 244 = .ok (.iaload, 1) := by decide +kernel
theorem dL_law_245 : decode cL_law 245 = .ok (.invokevirtual 17, 3) := by decide +kernel
theorem dL_law_248 : decode cL_law 248 = .ok (.if_icmp .eq 1094, 3) := by decide +kernel
theorem dL_law_251 : decode cL_law 251 = .ok (.iconst 0, 1) := by decide +kernel
theorem dL_law_252 : decode cL_law 252 = .ok (.ireturn, 1) := by decide +kernel
theorem dL_law_253 : decode cL_law 253 = .ok (.aload_n 1, 1) := by decide +kernel
theorem dL_law_254 : decode cL_law 254 = .ok (.aload_n 0, 1) := by decide +kernel
theorem dL_law_255 : decode cL_law 255 = .ok (.iload_n 3, 1) := by decide +kernel
theorem dL_law_256 : decode cL_law 256 = .ok (.iconst 1, 1) := by decide +kernel
theorem dL_law_257 : decode cL_law 257 = .ok (.iadd, 1) := by decide +kernel
theorem dL_law_258 : decode cL_law 258 = .ok (.iaload, 1) := by decide +kernel
theorem dL_law_259 : decode cL_law 259 = .ok (.aload_n 0, 1) := by decide +kernel
theorem dL_law_260 : decode cL_law 260 = .ok (.iload_n 3, 1) := by decide +kernel
theorem dL_law_261 : decode cL_law 261 = .ok (.iconst 2, 1) := by decide +kernel
theorem dL_law_262 : decode cL_law 262 = .ok (.iadd, 1) := by decide +kernel
theorem dL_law_263 : decode cL_law 263 = .ok (.iaload, 1) := by decide +kernel
theorem dL_law_264 : decode cL_law 264 = .ok (.aload_n 0, 1) := by decide +kernel
theorem dL_law_265 : decode cL_law 265 = .ok (.iload_n 3, 1) := by decide +kernel
theorem dL_law_266 : decode cL_law 266 = .ok (.iconst 3, 1) := by decide +kernel
theorem dL_law_267 : decode cL_law 267 = .ok (.iadd, 1) := by decide +kernel
theorem dL_law_268 : decode cL_law 268 = .ok (.iaload, 1) := by decide +kernel
theorem dL_law_269 : decode cL_law 269 = .ok (.invokevirtual 18, 3) := by decide +kernel
theorem dL_law_272 : decode cL_law 272 = .ok (.aload_n 2, 1) := by decide +kernel
theorem dL_law_273 : decode cL_law 273 = .ok (.aload_n 0, 1) := by decide +kernel
theorem dL_law_274 : decode cL_law 274 = .ok (.iload_n 3, 1) := by decide +kernel
theorem dL_law_275 : decode cL_law 275 = .ok (.iconst 1, 1) := by decide +kernel
theorem dL_law_276 : decode cL_law 276 = .ok (.iadd, 1) := by decide +kernel
theorem dL_law_277 : decode cL_law 277 = .ok (.iaload, 1) := by decide +kernel
theorem dL_law_278 : decode cL_law 278 = .ok (.aload_n 0, 1) := by decide +kernel
theorem dL_law_279 : decode cL_law 279 = .ok (.iload_n 3, 1) := by decide +kernel
theorem dL_law_280 : decode cL_law 280 = .ok (.iconst 2, 1) := by decide +kernel
theorem dL_law_281 : decode cL_law 281 = .ok (.iadd, 1) := by decide +kernel
theorem dL_law_282 : decode cL_law 282 = .ok (.iaload, 1) := by decide +kernel
theorem dL_law_283 : decode cL_law 283 = .ok (.aload_n 0, 1) := by decide +kernel
theorem dL_law_284 : decode cL_law 284 = .ok (.iload_n 3, 1) := by decide +kernel
theorem dL_law_285 : decode cL_law 285 = .ok (.iconst 3, 1) := by decide +kernel
theorem dL_law_286 : decode cL_law 286 = .ok (.iadd, 1) := by decide +kernel
theorem dL_law_287 : decode cL_law 287 = .ok (.iaload, 1) := by decide +kernel
theorem dL_law_288 : decode cL_law 288 = .ok (.invokevirtual 22, 3) := by decide +kernel
theorem dL_law_291 : decode cL_law 291 = .ok (.if_icmp .eq 1051, 3) := by decide +kernel
theorem dL_law_294 : decode cL_law 294 = .ok (.iconst 0, 1) := by decide +kernel
theorem dL_law_295 : decode cL_law 295 = .ok (.ireturn, 1) := by decide +kernel
theorem dL_law_296 : decode cL_law 296 = .ok (.aload_n 1, 1) := by decide +kernel
theorem dL_law_297 : decode cL_law 297 = .ok (.aload_n 0, 1) := by decide +kernel
theorem dL_law_298 : decode cL_law 298 = .ok (.iload_n 3, 1) := by decide +kernel
theorem dL_law_299 : decode cL_law 299 = .ok (.iconst 1, 1) := by decide +kernel
theorem dL_law_300 : decode cL_law 300 = .ok (.iadd, 1) := by decide +kernel
theorem dL_law_301 : decode cL_law 301 = .ok (.iaload, 1) := by decide +kernel
theorem dL_law_302 : decode cL_law 302 = .ok (.aload_n 0, 1) := by decide +kernel
theorem dL_law_303 : decode cL_law 303 = .ok (.iload_n 3, 1) := by decide +kernel
theorem dL_law_304 : decode cL_law 304 = .ok (.iconst 2, 1) := by decide +kernel
theorem dL_law_305 : decode cL_law 305 = .ok (.iadd, 1) := by decide +kernel
theorem dL_law_306 : decode cL_law 306 = .ok (.iaload, 1) := by decide +kernel
theorem dL_law_307 : decode cL_law 307 = .ok (.invokevirtual 23, 3) := by decide +kernel
theorem dL_law_310 : decode cL_law 310 = .ok (.aload_n 2, 1) := by decide +kernel
theorem dL_law_311 : decode cL_law 311 = .ok (.aload_n 0, 1) := by decide +kernel
theorem dL_law_312 : decode cL_law 312 = .ok (.iload_n 3, 1) := by decide +kernel
theorem dL_law_313 : decode cL_law 313 = .ok (.iconst 1, 1) := by decide +kernel
theorem dL_law_314 : decode cL_law 314 = .ok (.iadd, 1) := by decide +kernel
theorem dL_law_315 : decode cL_law 315 = .ok (.iaload, 1) := by decide +kernel
theorem dL_law_316 : decode cL_law 316 = .ok (.aload_n 0, 1) := by decide +kernel
theorem dL_law_317 : decode cL_law 317 = .ok (.iload_n 3, 1) := by decide +kernel
theorem dL_law_318 : decode cL_law 318 = .ok (.iconst 2, 1) := by decide +kernel
theorem dL_law_319 : decode cL_law 319 = .ok (.iadd, 1) := by decide +kernel
theorem dL_law_320 : decode cL_law 320 = .ok (.iaload, 1) := by decide +kernel
theorem dL_law_321 : decode cL_law 321 = .ok (.invokevirtual 26, 3) := by decide +kernel
theorem dL_law_324 : decode cL_law 324 = .ok (.if_icmp .eq 1018, 3) := by decide +kernel
theorem dL_law_327 : decode cL_law 327 = .ok (.iconst 0, 1) := by decide +kernel
theorem dL_law_328 : decode cL_law 328 = .ok (.ireturn, 1) := by decide +kernel
theorem dL_law_329 : decode cL_law 329 = .ok (.aload_n 1, 1) := by decide +kernel
theorem dL_law_330 : decode cL_law 330 = .ok (.aload_n 0, 1) := by decide +kernel
theorem dL_law_331 : decode cL_law 331 = .ok (.iload_n 3, 1) := by decide +kernel
theorem dL_law_332 : decode cL_law 332 = .ok (.iconst 1, 1) := by decide +kernel
theorem dL_law_333 : decode cL_law 333 = .ok (.iadd, 1) := by decide +kernel
theorem dL_law_334 : decode cL_law 334 = .ok (.iaload, 1) := by decide +kernel
theorem dL_law_335 : decode cL_law 335 = .ok (.invokevirtual 27, 3) := by decide +kernel
theorem dL_law_338 : decode cL_law 338 = .ok (.aload_n 2, 1) := by decide +kernel
theorem dL_law_339 : decode cL_law 339 = .ok (.aload_n 0, 1) := by decide +kernel
theorem dL_law_340 : decode cL_law 340 = .ok (.iload_n 3, 1) := by decide +kernel
theorem dL_law_341 : decode cL_law 341 = .ok (.iconst 1, 1) := by decide +kernel
theorem dL_law_342 : decode cL_law 342 = .ok (.iadd, 1) := by decide +kernel
theorem dL_law_343 : decode cL_law 343 = .ok (.iaload, 1) := by decide +kernel
theorem dL_law_344 : decode cL_law 344 = .ok (.invokevirtual 31, 3) := by decide +kernel
theorem dL_law_347 : decode cL_law 347 = .ok (.if_icmp .eq 995, 3) := by decide +kernel
theorem dL_law_350 : decode cL_law 350 = .ok (.iconst 0, 1) := by decide +kernel
theorem dL_law_351 : decode cL_law 351 = .ok (.ireturn, 1) := by decide +kernel
theorem dL_law_352 : decode cL_law 352 = .ok (.aload_n 1, 1) := by decide +kernel
theorem dL_law_353 : decode cL_law 353 = .ok (.aload_n 0, 1) := by decide +kernel
theorem dL_law_354 : decode cL_law 354 = .ok (.iload_n 3, 1) := by decide +kernel
theorem dL_law_355 : decode cL_law 355 = .ok (.iconst 1, 1) := by decide +kernel
theorem dL_law_356 : decode cL_law 356 = .ok (.iadd, 1) := by decide +kernel
theorem dL_law_357 : decode cL_law 357 = .ok (.iaload, 1) := by decide +kernel
theorem dL_law_358 : decode cL_law 358 = .ok (.aload_n 0, 1) := by decide +kernel
theorem dL_law_359 : decode cL_law 359 = .ok (.iload_n 3, 1) := by decide +kernel
theorem dL_law_360 : decode cL_law 360 = .ok (.iconst 2, 1) := by decide +kernel
theorem dL_law_361 : decode cL_law 361 = .ok (.iadd, 1) := by decide +kernel
theorem dL_law_362 : decode cL_law 362 = .ok (.iaload, 1) := by decide +kernel
theorem dL_law_363 : decode cL_law 363 = .ok (.aload_n 0, 1) := by decide +kernel
theorem dL_law_364 : decode cL_law 364 = .ok (.iload_n 3, 1) := by decide +kernel
theorem dL_law_365 : decode cL_law 365 = .ok (.iconst 3, 1) := by decide +kernel
theorem dL_law_366 : decode cL_law 366 = .ok (.iadd, 1) := by decide +kernel
theorem dL_law_367 : decode cL_law 367 = .ok (.iaload, 1) := by decide +kernel
theorem dL_law_368 : decode cL_law 368 = .ok (.aload_n 0, 1) := by decide +kernel
theorem dL_law_369 : decode cL_law 369 = .ok (.iload_n 3, 1) := by decide +kernel
theorem dL_law_370 : decode cL_law 370 = .ok (.iconst 4, 1) := by decide +kernel
theorem dL_law_371 : decode cL_law 371 = .ok (.iadd, 1) := by decide +kernel
theorem dL_law_372 : decode cL_law 372 = .ok (.iaload, 1) := by decide +kernel
theorem dL_law_373 : decode cL_law 373 = .ok (.aload_n 0, 1) := by decide +kernel
theorem dL_law_374 : decode cL_law 374 = .ok (.iload_n 3, 1) := by decide +kernel
theorem dL_law_375 : decode cL_law 375 = .ok (.iconst 5, 1) := by decide +kernel
theorem dL_law_376 : decode cL_law 376 = .ok (.iadd, 1) := by decide +kernel
theorem dL_law_377 : decode cL_law 377 = .ok (.iaload, 1) := by decide +kernel
theorem dL_law_378 : decode cL_law 378 = .ok (.invokevirtual 32, 3) := by decide +kernel
theorem dL_law_381 : decode cL_law 381 = .ok (.aload_n 2, 1) := by decide +kernel
theorem dL_law_382 : decode cL_law 382 = .ok (.aload_n 0, 1) := by decide +kernel
theorem dL_law_383 : decode cL_law 383 = .ok (.iload_n 3, 1) := by decide +kernel
theorem dL_law_384 : decode cL_law 384 = .ok (.iconst 1, 1) := by decide +kernel
theorem dL_law_385 : decode cL_law 385 = .ok (.iadd, 1) := by decide +kernel
theorem dL_law_386 : decode cL_law 386 = .ok (.iaload, 1) := by decide +kernel
theorem dL_law_387 : decode cL_law 387 = .ok (.aload_n 0, 1) := by decide +kernel
theorem dL_law_388 : decode cL_law 388 = .ok (.iload_n 3, 1) := by decide +kernel
theorem dL_law_389 : decode cL_law 389 = .ok (.iconst 2, 1) := by decide +kernel
theorem dL_law_390 : decode cL_law 390 = .ok (.iadd, 1) := by decide +kernel
theorem dL_law_391 : decode cL_law 391 = .ok (.iaload, 1) := by decide +kernel
theorem dL_law_392 : decode cL_law 392 = .ok (.aload_n 0, 1) := by decide +kernel
theorem dL_law_393 : decode cL_law 393 = .ok (.iload_n 3, 1) := by decide +kernel
theorem dL_law_394 : decode cL_law 394 = .ok (.iconst 3, 1) := by decide +kernel
theorem dL_law_395 : decode cL_law 395 = .ok (.iadd, 1) := by decide +kernel
theorem dL_law_396 : decode cL_law 396 = .ok (.iaload, 1) := by decide +kernel
theorem dL_law_397 : decode cL_law 397 = .ok (.aload_n 0, 1) := by decide +kernel
theorem dL_law_398 : decode cL_law 398 = .ok (.iload_n 3, 1) := by decide +kernel
theorem dL_law_399 : decode cL_law 399 = .ok (.iconst 4, 1) := by decide +kernel
theorem dL_law_400 : decode cL_law 400 = .ok (.iadd, 1) := by decide +kernel
theorem dL_law_401 : decode cL_law 401 = .ok (.iaload, 1) := by decide +kernel
theorem dL_law_402 : decode cL_law 402 = .ok (.aload_n 0, 1) := by decide +kernel
theorem dL_law_403 : decode cL_law 403 = .ok (.iload_n 3, 1) := by decide +kernel
theorem dL_law_404 : decode cL_law 404 = .ok (.iconst 5, 1) := by decide +kernel
theorem dL_law_405 : decode cL_law 405 = .ok (.iadd, 1) := by decide +kernel
theorem dL_law_406 : decode cL_law 406 = .ok (.iaload, 1) := by decide +kernel
theorem dL_law_407 : decode cL_law 407 = .ok (.invokevirtual 36, 3) := by decide +kernel
theorem dL_law_410 : decode cL_law 410 = .ok (.if_icmp .eq 932, 3) := by decide +kernel
theorem dL_law_413 : decode cL_law 413 = .ok (.iconst 0, 1) := by decide +kernel
theorem dL_law_414 : decode cL_law 414 = .ok (.ireturn, 1) := by decide +kernel
theorem dL_law_415 : decode cL_law 415 = .ok (.aload_n 1, 1) := by decide +kernel
theorem dL_law_416 : decode cL_law 416 = .ok (.aload_n 0, 1) := by decide +kernel
theorem dL_law_417 : decode cL_law 417 = .ok (.iload_n 3, 1) := by decide +kernel
theorem dL_law_418 : decode cL_law 418 = .ok (.iconst 1, 1) := by decide +kernel
theorem dL_law_419 : decode cL_law 419 = .ok (.iadd, 1) := by decide +kernel
theorem dL_law_420 : decode cL_law 420 = .ok (.iaload, 1) := by decide +kernel
theorem dL_law_421 : decode cL_law 421 = .ok (.invokevirtual 37, 3) := by decide +kernel
theorem dL_law_424 : decode cL_law 424 = .ok (.aload_n 2, 1) := by decide +kernel
theorem dL_law_425 : decode cL_law 425 = .ok (.aload_n 0, 1) := by decide +kernel
theorem dL_law_426 : decode cL_law 426 = .ok (.iload_n 3, 1) := by decide +kernel
theorem dL_law_427 : decode cL_law 427 = .ok (.iconst 1, 1) := by decide +kernel
theorem dL_law_428 : decode cL_law 428 = .ok (.iadd, 1) := by decide +kernel
theorem dL_law_429 : decode cL_law 429 = .ok (.iaload, 1) := by decide +kernel
theorem dL_law_430 : decode cL_law 430 = .ok (.invokevirtual 40, 3) := by decide +kernel
theorem dL_law_433 : decode cL_law 433 = .ok (.if_icmp .eq 909, 3) := by decide +kernel
theorem dL_law_436 : decode cL_law 436 = .ok (.iconst 0, 1) := by decide +kernel
theorem dL_law_437 : decode cL_law 437 = .ok (.ireturn, 1) := by decide +kernel
theorem dL_law_438 : decode cL_law 438 = .ok (.aload_n 1, 1) := by decide +kernel
theorem dL_law_439 : decode cL_law 439 = .ok (.aload_n 0, 1) := by decide +kernel
theorem dL_law_440 : decode cL_law 440 = .ok (.iload_n 3, 1) := by decide +kernel
theorem dL_law_441 : decode cL_law 441 = .ok (.iconst 1, 1) := by decide +kernel
theorem dL_law_442 : decode cL_law 442 = .ok (.iadd, 1) := by decide +kernel
theorem dL_law_443 : decode cL_law 443 = .ok (.iaload, 1) := by decide +kernel
theorem dL_law_444 : decode cL_law 444 = .ok (.aload_n 0, 1) := by decide +kernel
theorem dL_law_445 : decode cL_law 445 = .ok (.iload_n 3, 1) := by decide +kernel
theorem dL_law_446 : decode cL_law 446 = .ok (.iconst 2, 1) := by decide +kernel
theorem dL_law_447 : decode cL_law 447 = .ok (.iadd, 1) := by decide +kernel
theorem dL_law_448 : decode cL_law 448 = .ok (.iaload, 1) := by decide +kernel
theorem dL_law_449 : decode cL_law 449 = .ok (.invokevirtual 41, 3) := by decide +kernel
theorem dL_law_452 : decode cL_law 452 = .ok (.aload_n 2, 1) := by decide +kernel
theorem dL_law_453 : decode cL_law 453 = .ok (.aload_n 0, 1) := by decide +kernel
theorem dL_law_454 : decode cL_law 454 = .ok (.iload_n 3, 1) := by decide +kernel
theorem dL_law_455 : decode cL_law 455 = .ok (.iconst 1, 1) := by decide +kernel
theorem dL_law_456 : decode cL_law 456 = .ok (.iadd, 1) := by decide +kernel
theorem dL_law_457 : decode cL_law 457 = .ok (.iaload, 1) := by decide +kernel
theorem dL_law_458 : decode cL_law 458 = .ok (.aload_n 0, 1) := by decide +kernel
theorem dL_law_459 : decode cL_law 459 = .ok (.iload_n 3, 1) := by decide +kernel
theorem dL_law_460 : decode cL_law 460 = .ok (.iconst 2, 1) := by decide +kernel
theorem dL_law_461 : decode cL_law 461 = .ok (.iadd, 1) := by decide +kernel
theorem dL_law_462 : decode cL_law 462 = .ok (.iaload, 1) := by decide +kernel
theorem dL_law_463 : decode cL_law 463 = .ok (.invokevirtual 44, 3) := by decide +kernel
theorem dL_law_466 : decode cL_law 466 = .ok (.if_icmp .eq 876, 3) := by decide +kernel
theorem dL_law_469 : decode cL_law 469 = .ok (.iconst 0, 1) := by decide +kernel
theorem dL_law_470 : decode cL_law 470 = .ok (.ireturn, 1) := by decide +kernel
theorem dL_law_471 : decode cL_law 471 = .ok (.aload_n 1, 1) := by decide +kernel
theorem dL_law_472 : decode cL_law 472 = .ok (.aload_n 0, 1) := by decide +kernel
theorem dL_law_473 : decode cL_law 473 = .ok (.iload_n 3, 1) := by decide +kernel
theorem dL_law_474 : decode cL_law 474 = .ok (.iconst 1, 1) := by decide +kernel
theorem dL_law_475 : decode cL_law 475 = .ok (.iadd, 1) := by decide +kernel
theorem dL_law_476 : decode cL_law 476 = .ok (.iaload, 1) := by decide +kernel
theorem dL_law_477 : decode cL_law 477 = .ok (.aload_n 0, 1) := by decide +kernel
theorem dL_law_478 : decode cL_law 478 = .ok (.iload_n 3, 1) := by decide +kernel
theorem dL_law_479 : decode cL_law 479 = .ok (.iconst 2, 1) := by decide +kernel
theorem dL_law_480 : decode cL_law 480 = .ok (.iadd, 1) := by decide +kernel
theorem dL_law_481 : decode cL_law 481 = .ok (.iaload, 1) := by decide +kernel
theorem dL_law_482 : decode cL_law 482 = .ok (.aload_n 0, 1) := by decide +kernel
theorem dL_law_483 : decode cL_law 483 = .ok (.iload_n 3, 1) := by decide +kernel
theorem dL_law_484 : decode cL_law 484 = .ok (.iconst 3, 1) := by decide +kernel
theorem dL_law_485 : decode cL_law 485 = .ok (.iadd, 1) := by decide +kernel
theorem dL_law_486 : decode cL_law 486 = .ok (.iaload, 1) := by decide +kernel
theorem dL_law_487 : decode cL_law 487 = .ok (.invokevirtual 45, 3) := by decide +kernel
theorem dL_law_490 : decode cL_law 490 = .ok (.aload_n 2, 1) := by decide +kernel
theorem dL_law_491 : decode cL_law 491 = .ok (.aload_n 0, 1) := by decide +kernel
theorem dL_law_492 : decode cL_law 492 = .ok (.iload_n 3, 1) := by decide +kernel
theorem dL_law_493 : decode cL_law 493 = .ok (.iconst 1, 1) := by decide +kernel
theorem dL_law_494 : decode cL_law 494 = .ok (.iadd, 1) := by decide +kernel
theorem dL_law_495 : decode cL_law 495 = .ok (.iaload, 1) := by decide +kernel
theorem dL_law_496 : decode cL_law 496 = .ok (.aload_n 0, 1) := by decide +kernel
theorem dL_law_497 : decode cL_law 497 = .ok (.iload_n 3, 1) := by decide +kernel
theorem dL_law_498 : decode cL_law 498 = .ok (.iconst 2, 1) := by decide +kernel
theorem dL_law_499 : decode cL_law 499 = .ok (.iadd, 1) := by decide +kernel
theorem dL_law_500 : decode cL_law 500 = .ok (.iaload, 1) := by decide +kernel
theorem dL_law_501 : decode cL_law 501 = .ok (.aload_n 0, 1) := by decide +kernel
theorem dL_law_502 : decode cL_law 502 = .ok (.iload_n 3, 1) := by decide +kernel
theorem dL_law_503 : decode cL_law 503 = .ok (.iconst 3, 1) := by decide +kernel
theorem dL_law_504 : decode cL_law 504 = .ok (.iadd, 1) := by decide +kernel
theorem dL_law_505 : decode cL_law 505 = .ok (.iaload, 1) := by decide +kernel
theorem dL_law_506 : decode cL_law 506 = .ok (.invokevirtual 48, 3) := by decide +kernel
theorem dL_law_509 : decode cL_law 509 = .ok (.if_icmp .eq 833, 3) := by decide +kernel
theorem dL_law_512 : decode cL_law 512 = .ok (.iconst 0, 1) := by decide +kernel
theorem dL_law_513 : decode cL_law 513 = .ok (.ireturn, 1) := by decide +kernel
theorem dL_law_514 : decode cL_law 514 = .ok (.aload_n 1, 1) := by decide +kernel
theorem dL_law_515 : decode cL_law 515 = .ok (.aload_n 0, 1) := by decide +kernel
theorem dL_law_516 : decode cL_law 516 = .ok (.iload_n 3, 1) := by decide +kernel
theorem dL_law_517 : decode cL_law 517 = .ok (.iconst 1, 1) := by decide +kernel
theorem dL_law_518 : decode cL_law 518 = .ok (.iadd, 1) := by decide +kernel
theorem dL_law_519 : decode cL_law 519 = .ok (.iaload, 1) := by decide +kernel
theorem dL_law_520 : decode cL_law 520 = .ok (.invokevirtual 49, 3) := by decide +kernel
theorem dL_law_523 : decode cL_law 523 = .ok (.aload_n 2, 1) := by decide +kernel
theorem dL_law_524 : decode cL_law 524 = .ok (.aload_n 0, 1) := by decide +kernel
theorem dL_law_525 : decode cL_law 525 = .ok (.iload_n 3, 1) := by decide +kernel
theorem dL_law_526 : decode cL_law 526 = .ok (.iconst 1, 1) := by decide +kernel
theorem dL_law_527 : decode cL_law 527 = .ok (.iadd, 1) := by decide +kernel
theorem dL_law_528 : decode cL_law 528 = .ok (.iaload, 1) := by decide +kernel
theorem dL_law_529 : decode cL_law 529 = .ok (.invokevirtual 52, 3) := by decide +kernel
theorem dL_law_532 : decode cL_law 532 = .ok (.if_icmp .eq 810, 3) := by decide +kernel
theorem dL_law_535 : decode cL_law 535 = .ok (.iconst 0, 1) := by decide +kernel
theorem dL_law_536 : decode cL_law 536 = .ok (.ireturn, 1) := by decide +kernel
theorem dL_law_537 : decode cL_law 537 = .ok (.aload_n 1, 1) := by decide +kernel
theorem dL_law_538 : decode cL_law 538 = .ok (.aload_n 0, 1) := by decide +kernel
theorem dL_law_539 : decode cL_law 539 = .ok (.iload_n 3, 1) := by decide +kernel
theorem dL_law_540 : decode cL_law 540 = .ok (.iconst 1, 1) := by decide +kernel
theorem dL_law_541 : decode cL_law 541 = .ok (.iadd, 1) := by decide +kernel
theorem dL_law_542 : decode cL_law 542 = .ok (.iaload, 1) := by decide +kernel
theorem dL_law_543 : decode cL_law 543 = .ok (.invokevirtual 53, 3) := by decide +kernel
theorem dL_law_546 : decode cL_law 546 = .ok (.aload_n 2, 1) := by decide +kernel
theorem dL_law_547 : decode cL_law 547 = .ok (.aload_n 0, 1) := by decide +kernel
theorem dL_law_548 : decode cL_law 548 = .ok (.iload_n 3, 1) := by decide +kernel
theorem dL_law_549 : decode cL_law 549 = .ok (.iconst 1, 1) := by decide +kernel
theorem dL_law_550 : decode cL_law 550 = .ok (.iadd, 1) := by decide +kernel
theorem dL_law_551 : decode cL_law 551 = .ok (.iaload, 1) := by decide +kernel
theorem dL_law_552 : decode cL_law 552 = .ok (.invokevirtual 56, 3) := by decide +kernel
theorem dL_law_555 : decode cL_law 555 = .ok (.if_icmp .eq 787, 3) := by decide +kernel
theorem dL_law_558 : decode cL_law 558 = .ok (.iconst 0, 1) := by decide +kernel
theorem dL_law_559 : decode cL_law 559 = .ok (.ireturn, 1) := by decide +kernel
theorem dL_law_560 : decode cL_law 560 = .ok (.aload_n 1, 1) := by decide +kernel
theorem dL_law_561 : decode cL_law 561 = .ok (.aload_n 0, 1) := by decide +kernel
theorem dL_law_562 : decode cL_law 562 = .ok (.iload_n 3, 1) := by decide +kernel
theorem dL_law_563 : decode cL_law 563 = .ok (.iconst 1, 1) := by decide +kernel
theorem dL_law_564 : decode cL_law 564 = .ok (.iadd, 1) := by decide +kernel
theorem dL_law_565 : decode cL_law 565 = .ok (.iaload, 1) := by decide +kernel
theorem dL_law_566 : decode cL_law 566 = .ok (.aload_n 0, 1) := by decide +kernel
theorem dL_law_567 : decode cL_law 567 = .ok (.iload_n 3, 1) := by decide +kernel
theorem dL_law_568 : decode cL_law 568 = .ok (.iconst 2, 1) := by decide +kernel
theorem dL_law_569 : decode cL_law 569 = .ok (.iadd, 1) := by decide +kernel
theorem dL_law_570 : decode cL_law 570 = .ok (.iaload, 1) := by decide +kernel
theorem dL_law_571 : decode cL_law 571 = .ok (.invokevirtual 57, 3) := by decide +kernel
theorem dL_law_574 : decode cL_law 574 = .ok (.aload_n 2, 1) := by decide +kernel
theorem dL_law_575 : decode cL_law 575 = .ok (.aload_n 0, 1) := by decide +kernel
theorem dL_law_576 : decode cL_law 576 = .ok (.iload_n 3, 1) := by decide +kernel
theorem dL_law_577 : decode cL_law 577 = .ok (.iconst 1, 1) := by decide +kernel
theorem dL_law_578 : decode cL_law 578 = .ok (.iadd, 1) := by decide +kernel
theorem dL_law_579 : decode cL_law 579 = .ok (.iaload, 1) := by decide +kernel
theorem dL_law_580 : decode cL_law 580 = .ok (.aload_n 0, 1) := by decide +kernel
theorem dL_law_581 : decode cL_law 581 = .ok (.iload_n 3, 1) := by decide +kernel
theorem dL_law_582 : decode cL_law 582 = .ok (.iconst 2, 1) := by decide +kernel
theorem dL_law_583 : decode cL_law 583 = .ok (.iadd, 1) := by decide +kernel
theorem dL_law_584 : decode cL_law 584 = .ok (.iaload, 1) := by decide +kernel
theorem dL_law_585 : decode cL_law 585 = .ok (.invokevirtual 60, 3) := by decide +kernel
theorem dL_law_588 : decode cL_law 588 = .ok (.if_icmp .eq 754, 3) := by decide +kernel
theorem dL_law_591 : decode cL_law 591 = .ok (.iconst 0, 1) := by decide +kernel
theorem dL_law_592 : decode cL_law 592 = .ok (.ireturn, 1) := by decide +kernel
theorem dL_law_593 : decode cL_law 593 = .ok (.aload_n 1, 1) := by decide +kernel
theorem dL_law_594 : decode cL_law 594 = .ok (.aload_n 0, 1) := by decide +kernel
theorem dL_law_595 : decode cL_law 595 = .ok (.iload_n 3, 1) := by decide +kernel
theorem dL_law_596 : decode cL_law 596 = .ok (.iconst 1, 1) := by decide +kernel
theorem dL_law_597 : decode cL_law 597 = .ok (.iadd, 1) := by decide +kernel
theorem dL_law_598 : decode cL_law 598 = .ok (.iaload, 1) := by decide +kernel
theorem dL_law_599 : decode cL_law 599 = .ok (.aload_n 0, 1) := by decide +kernel
theorem dL_law_600 : decode cL_law 600 = .ok (.iload_n 3, 1) := by decide +kernel
theorem dL_law_601 : decode cL_law 601 = .ok (.iconst 2, 1) := by decide +kernel
theorem dL_law_602 : decode cL_law 602 = .ok (.iadd, 1) := by decide +kernel
theorem dL_law_603 : decode cL_law 603 = .ok (.iaload, 1) := by decide +kernel
theorem dL_law_604 : decode cL_law 604 = .ok (.invokevirtual 61, 3) := by decide +kernel
theorem dL_law_607 : decode cL_law 607 = .ok (.aload_n 2, 1) := by decide +kernel
theorem dL_law_608 : decode cL_law 608 = .ok (.aload_n 0, 1) := by decide +kernel
theorem dL_law_609 : decode cL_law 609 = .ok (.iload_n 3, 1) := by decide +kernel
theorem dL_law_610 : decode cL_law 610 = .ok (.iconst 1, 1) := by decide +kernel
theorem dL_law_611 : decode cL_law 611 = .ok (.iadd, 1) := by decide +kernel
theorem dL_law_612 : decode cL_law 612 = .ok (.iaload, 1) := by decide +kernel
theorem dL_law_613 : decode cL_law 613 = .ok (.aload_n 0, 1) := by decide +kernel
theorem dL_law_614 : decode cL_law 614 = .ok (.iload_n 3, 1) := by decide +kernel
theorem dL_law_615 : decode cL_law 615 = .ok (.iconst 2, 1) := by decide +kernel
theorem dL_law_616 : decode cL_law 616 = .ok (.iadd, 1) := by decide +kernel
theorem dL_law_617 : decode cL_law 617 = .ok (.iaload, 1) := by decide +kernel
theorem dL_law_618 : decode cL_law 618 = .ok (.invokevirtual 64, 3) := by decide +kernel
theorem dL_law_621 : decode cL_law 621 = .ok (.if_icmp .eq 721, 3) := by decide +kernel
theorem dL_law_624 : decode cL_law 624 = .ok (.iconst 0, 1) := by decide +kernel
theorem dL_law_625 : decode cL_law 625 = .ok (.ireturn, 1) := by decide +kernel
theorem dL_law_626 : decode cL_law 626 = .ok (.aload_n 1, 1) := by decide +kernel
theorem dL_law_627 : decode cL_law 627 = .ok (.aload_n 0, 1) := by decide +kernel
theorem dL_law_628 : decode cL_law 628 = .ok (.iload_n 3, 1) := by decide +kernel
theorem dL_law_629 : decode cL_law 629 = .ok (.iconst 1, 1) := by decide +kernel
theorem dL_law_630 : decode cL_law 630 = .ok (.iadd, 1) := by decide +kernel
theorem dL_law_631 : decode cL_law 631 = .ok (.iaload, 1) := by decide +kernel
theorem dL_law_632 : decode cL_law 632 = .ok (.aload_n 0, 1) := by decide +kernel
theorem dL_law_633 : decode cL_law 633 = .ok (.iload_n 3, 1) := by decide +kernel
theorem dL_law_634 : decode cL_law 634 = .ok (.iconst 2, 1) := by decide +kernel
theorem dL_law_635 : decode cL_law 635 = .ok (.iadd, 1) := by decide +kernel
theorem dL_law_636 : decode cL_law 636 = .ok (.iaload, 1) := by decide +kernel
theorem dL_law_637 : decode cL_law 637 = .ok (.invokevirtual 65, 3) := by decide +kernel
theorem dL_law_640 : decode cL_law 640 = .ok (.aload_n 2, 1) := by decide +kernel
theorem dL_law_641 : decode cL_law 641 = .ok (.aload_n 0, 1) := by decide +kernel
theorem dL_law_642 : decode cL_law 642 = .ok (.iload_n 3, 1) := by decide +kernel
theorem dL_law_643 : decode cL_law 643 = .ok (.iconst 1, 1) := by decide +kernel
theorem dL_law_644 : decode cL_law 644 = .ok (.iadd, 1) := by decide +kernel
theorem dL_law_645 : decode cL_law 645 = .ok (.iaload, 1) := by decide +kernel
theorem dL_law_646 : decode cL_law 646 = .ok (.aload_n 0, 1) := by decide +kernel
theorem dL_law_647 : decode cL_law 647 = .ok (.iload_n 3, 1) := by decide +kernel
theorem dL_law_648 : decode cL_law 648 = .ok (.iconst 2, 1) := by decide +kernel
theorem dL_law_649 : decode cL_law 649 = .ok (.iadd, 1) := by decide +kernel
theorem dL_law_650 : decode cL_law 650 = .ok (.iaload, 1) := by decide +kernel
theorem dL_law_651 : decode cL_law 651 = .ok (.invokevirtual 68, 3) := by decide +kernel
theorem dL_law_654 : decode cL_law 654 = .ok (.if_icmp .eq 688, 3) := by decide +kernel
theorem dL_law_657 : decode cL_law 657 = .ok (.iconst 0, 1) := by decide +kernel
theorem dL_law_658 : decode cL_law 658 = .ok (.ireturn, 1) := by decide +kernel
theorem dL_law_659 : decode cL_law 659 = .ok (.aload_n 1, 1) := by decide +kernel
theorem dL_law_660 : decode cL_law 660 = .ok (.aload_n 0, 1) := by decide +kernel
theorem dL_law_661 : decode cL_law 661 = .ok (.iload_n 3, 1) := by decide +kernel
theorem dL_law_662 : decode cL_law 662 = .ok (.iconst 1, 1) := by decide +kernel
theorem dL_law_663 : decode cL_law 663 = .ok (.iadd, 1) := by decide +kernel
theorem dL_law_664 : decode cL_law 664 = .ok (.iaload, 1) := by decide +kernel
theorem dL_law_665 : decode cL_law 665 = .ok (.aload_n 0, 1) := by decide +kernel
theorem dL_law_666 : decode cL_law 666 = .ok (.iload_n 3, 1) := by decide +kernel
theorem dL_law_667 : decode cL_law 667 = .ok (.iconst 2, 1) := by decide +kernel
theorem dL_law_668 : decode cL_law 668 = .ok (.iadd, 1) := by decide +kernel
theorem dL_law_669 : decode cL_law 669 = .ok (.iaload, 1) := by decide +kernel
theorem dL_law_670 : decode cL_law 670 = .ok (.invokevirtual 69, 3) := by decide +kernel
theorem dL_law_673 : decode cL_law 673 = .ok (.aload_n 2, 1) := by decide +kernel
theorem dL_law_674 : decode cL_law 674 = .ok (.aload_n 0, 1) := by decide +kernel
theorem dL_law_675 : decode cL_law 675 = .ok (.iload_n 3, 1) := by decide +kernel
theorem dL_law_676 : decode cL_law 676 = .ok (.iconst 1, 1) := by decide +kernel
theorem dL_law_677 : decode cL_law 677 = .ok (.iadd, 1) := by decide +kernel
theorem dL_law_678 : decode cL_law 678 = .ok (.iaload, 1) := by decide +kernel
theorem dL_law_679 : decode cL_law 679 = .ok (.aload_n 0, 1) := by decide +kernel
theorem dL_law_680 : decode cL_law 680 = .ok (.iload_n 3, 1) := by decide +kernel
theorem dL_law_681 : decode cL_law 681 = .ok (.iconst 2, 1) := by decide +kernel
theorem dL_law_682 : decode cL_law 682 = .ok (.iadd, 1) := by decide +kernel
theorem dL_law_683 : decode cL_law 683 = .ok (.iaload, 1) := by decide +kernel
theorem dL_law_684 : decode cL_law 684 = .ok (.invokevirtual 72, 3) := by decide +kernel
theorem dL_law_687 : decode cL_law 687 = .ok (.if_icmp .eq 655, 3) := by decide +kernel
theorem dL_law_690 : decode cL_law 690 = .ok (.iconst 0, 1) := by decide +kernel
theorem dL_law_691 : decode cL_law 691 = .ok (.ireturn, 1) := by decide +kernel
theorem dL_law_692 : decode cL_law 692 = .ok (.aload_n 1, 1) := by decide +kernel
theorem dL_law_693 : decode cL_law 693 = .ok (.aload_n 0, 1) := by decide +kernel
theorem dL_law_694 : decode cL_law 694 = .ok (.iload_n 3, 1) := by decide +kernel
theorem dL_law_695 : decode cL_law 695 = .ok (.iconst 1, 1) := by decide +kernel
theorem dL_law_696 : decode cL_law 696 = .ok (.iadd, 1) := by decide +kernel
theorem dL_law_697 : decode cL_law 697 = .ok (.iaload, 1) := by decide +kernel
theorem dL_law_698 : decode cL_law 698 = .ok (.aload_n 0, 1) := by decide +kernel
theorem dL_law_699 : decode cL_law 699 = .ok (.iload_n 3, 1) := by decide +kernel
theorem dL_law_700 : decode cL_law 700 = .ok (.iconst 2, 1) := by decide +kernel
theorem dL_law_701 : decode cL_law 701 = .ok (.iadd, 1) := by decide +kernel
theorem dL_law_702 : decode cL_law 702 = .ok (.iaload, 1) := by decide +kernel
theorem dL_law_703 : decode cL_law 703 = .ok (.invokevirtual 73, 3) := by decide +kernel
theorem dL_law_706 : decode cL_law 706 = .ok (.aload_n 2, 1) := by decide +kernel
theorem dL_law_707 : decode cL_law 707 = .ok (.aload_n 0, 1) := by decide +kernel
theorem dL_law_708 : decode cL_law 708 = .ok (.iload_n 3, 1) := by decide +kernel
theorem dL_law_709 : decode cL_law 709 = .ok (.iconst 1, 1) := by decide +kernel
theorem dL_law_710 : decode cL_law 710 = .ok (.iadd, 1) := by decide +kernel
theorem dL_law_711 : decode cL_law 711 = .ok (.iaload, 1) := by decide +kernel
theorem dL_law_712 : decode cL_law 712 = .ok (.aload_n 0, 1) := by decide +kernel
theorem dL_law_713 : decode cL_law 713 = .ok (.iload_n 3, 1) := by decide +kernel
theorem dL_law_714 : decode cL_law 714 = .ok (.iconst 2, 1) := by decide +kernel
theorem dL_law_715 : decode cL_law 715 = .ok (.iadd, 1) := by decide +kernel
theorem dL_law_716 : decode cL_law 716 = .ok (.iaload, 1) := by decide +kernel
theorem dL_law_717 : decode cL_law 717 = .ok (.invokevirtual 76, 3) := by decide +kernel
theorem dL_law_720 : decode cL_law 720 = .ok (.if_icmp .eq 622, 3) := by decide +kernel
theorem dL_law_723 : decode cL_law 723 = .ok (.iconst 0, 1) := by decide +kernel
theorem dL_law_724 : decode cL_law 724 = .ok (.ireturn, 1) := by decide +kernel
theorem dL_law_725 : decode cL_law 725 = .ok (.aload_n 1, 1) := by decide +kernel
theorem dL_law_726 : decode cL_law 726 = .ok (.aload_n 0, 1) := by decide +kernel
theorem dL_law_727 : decode cL_law 727 = .ok (.iload_n 3, 1) := by decide +kernel
theorem dL_law_728 : decode cL_law 728 = .ok (.iconst 1, 1) := by decide +kernel
theorem dL_law_729 : decode cL_law 729 = .ok (.iadd, 1) := by decide +kernel
theorem dL_law_730 : decode cL_law 730 = .ok (.iaload, 1) := by decide +kernel
theorem dL_law_731 : decode cL_law 731 = .ok (.invokevirtual 77, 3) := by decide +kernel
theorem dL_law_734 : decode cL_law 734 = .ok (.aload_n 2, 1) := by decide +kernel
theorem dL_law_735 : decode cL_law 735 = .ok (.aload_n 0, 1) := by decide +kernel
theorem dL_law_736 : decode cL_law 736 = .ok (.iload_n 3, 1) := by decide +kernel
theorem dL_law_737 : decode cL_law 737 = .ok (.iconst 1, 1) := by decide +kernel
theorem dL_law_738 : decode cL_law 738 = .ok (.iadd, 1) := by decide +kernel
theorem dL_law_739 : decode cL_law 739 = .ok (.iaload, 1) := by decide +kernel
theorem dL_law_740 : decode cL_law 740 = .ok (.invokevirtual 80, 3) := by decide +kernel
theorem dL_law_743 : decode cL_law 743 = .ok (.if_icmp .eq 599, 3) := by decide +kernel
theorem dL_law_746 : decode cL_law 746 = .ok (.iconst 0, 1) := by decide +kernel
theorem dL_law_747 : decode cL_law 747 = .ok (.ireturn, 1) := by decide +kernel
theorem dL_law_748 : decode cL_law 748 = .ok (.aload_n 1, 1) := by decide +kernel
theorem dL_law_749 : decode cL_law 749 = .ok (.aload_n 0, 1) := by decide +kernel
theorem dL_law_750 : decode cL_law 750 = .ok (.iload_n 3, 1) := by decide +kernel
theorem dL_law_751 : decode cL_law 751 = .ok (.iconst 1, 1) := by decide +kernel
theorem dL_law_752 : decode cL_law 752 = .ok (.iadd, 1) := by decide +kernel
theorem dL_law_753 : decode cL_law 753 = .ok (.iaload, 1) := by decide +kernel
theorem dL_law_754 : decode cL_law 754 = .ok (.invokevirtual 81, 3) := by decide +kernel
theorem dL_law_757 : decode cL_law 757 = .ok (.aload_n 2, 1) := by decide +kernel
theorem dL_law_758 : decode cL_law 758 = .ok (.aload_n 0, 1) := by decide +kernel
theorem dL_law_759 : decode cL_law 759 = .ok (.iload_n 3, 1) := by decide +kernel
theorem dL_law_760 : decode cL_law 760 = .ok (.iconst 1, 1) := by decide +kernel
theorem dL_law_761 : decode cL_law 761 = .ok (.iadd, 1) := by decide +kernel
theorem dL_law_762 : decode cL_law 762 = .ok (.iaload, 1) := by decide +kernel
theorem dL_law_763 : decode cL_law 763 = .ok (.invokevirtual 84, 3) := by decide +kernel
theorem dL_law_766 : decode cL_law 766 = .ok (.if_icmp .eq 576, 3) := by decide +kernel
theorem dL_law_769 : decode cL_law 769 = .ok (.iconst 0, 1) := by decide +kernel
theorem dL_law_770 : decode cL_law 770 = .ok (.ireturn, 1) := by decide +kernel
theorem dL_law_771 : decode cL_law 771 = .ok (.aload_n 1, 1) := by decide +kernel
theorem dL_law_772 : decode cL_law 772 = .ok (.invokevirtual 85, 3) := by decide +kernel
theorem dL_law_775 : decode cL_law 775 = .ok (.aload_n 2, 1) := by decide +kernel
theorem dL_law_776 : decode cL_law 776 = .ok (.invokevirtual 89, 3) := by decide +kernel
theorem dL_law_779 : decode cL_law 779 = .ok (.if_icmp .eq 563, 3) := by decide +kernel
theorem dL_law_782 : decode cL_law 782 = .ok (.iconst 0, 1) := by decide +kernel
theorem dL_law_783 : decode cL_law 783 = .ok (.ireturn, 1) := by decide +kernel
theorem dL_law_784 : decode cL_law 784 = .ok (.aload_n 1, 1) := by decide +kernel
theorem dL_law_785 : decode cL_law 785 = .ok (.invokevirtual 90, 3) := by decide +kernel
theorem dL_law_788 : decode cL_law 788 = .ok (.aload_n 2, 1) := by decide +kernel
theorem dL_law_789 : decode cL_law 789 = .ok (.invokevirtual 93, 3) := by decide +kernel
theorem dL_law_792 : decode cL_law 792 = .ok (.if_icmp .eq 550, 3) := by decide +kernel
theorem dL_law_795 : decode cL_law 795 = .ok (.iconst 0, 1) := by decide +kernel
theorem dL_law_796 : decode cL_law 796 = .ok (.ireturn, 1) := by decide +kernel
theorem dL_law_797 : decode cL_law 797 = .ok (.aload_n 1, 1) := by decide +kernel
theorem dL_law_798 : decode cL_law 798 = .ok (.aload_n 0, 1) := by decide +kernel
theorem dL_law_799 : decode cL_law 799 = .ok (.iload_n 3, 1) := by decide +kernel
theorem dL_law_800 : decode cL_law 800 = .ok (.iconst 1, 1) := by decide +kernel
theorem dL_law_801 : decode cL_law 801 = .ok (.iadd, 1) := by decide +kernel
theorem dL_law_802 : decode cL_law 802 = .ok (.iaload, 1) := by decide +kernel
theorem dL_law_803 : decode cL_law 803 = .ok (.invokevirtual 94, 3) := by decide +kernel
theorem dL_law_806 : decode cL_law 806 = .ok (.aload_n 2, 1) := by decide +kernel
theorem dL_law_807 : decode cL_law 807 = .ok (.aload_n 0, 1) := by decide +kernel
theorem dL_law_808 : decode cL_law 808 = .ok (.iload_n 3, 1) := by decide +kernel
theorem dL_law_809 : decode cL_law 809 = .ok (.iconst 1, 1) := by decide +kernel
theorem dL_law_810 : decode cL_law 810 = .ok (.iadd, 1) := by decide +kernel
theorem dL_law_811 : decode cL_law 811 = .ok (.iaload, 1) := by decide +kernel
theorem dL_law_812 : decode cL_law 812 = .ok (.invokevirtual 97, 3) := by decide +kernel
theorem dL_law_815 : decode cL_law 815 = .ok (.if_icmp .eq 527, 3) := by decide +kernel
theorem dL_law_818 : decode cL_law 818 = .ok (.iconst 0, 1) := by decide +kernel
theorem dL_law_819 : decode cL_law 819 = .ok (.ireturn, 1) := by decide +kernel
theorem dL_law_820 : decode cL_law 820 = .ok (.aload_n 1, 1) := by decide +kernel
theorem dL_law_821 : decode cL_law 821 = .ok (.aload_n 0, 1) := by decide +kernel
theorem dL_law_822 : decode cL_law 822 = .ok (.iload_n 3, 1) := by decide +kernel
theorem dL_law_823 : decode cL_law 823 = .ok (.iconst 1, 1) := by decide +kernel
theorem dL_law_824 : decode cL_law 824 = .ok (.iadd, 1) := by decide +kernel
theorem dL_law_825 : decode cL_law 825 = .ok (.iaload, 1) := by decide +kernel
theorem dL_law_826 : decode cL_law 826 = .ok (.invokevirtual 98, 3) := by decide +kernel
theorem dL_law_829 : decode cL_law 829 = .ok (.aload_n 2, 1) := by decide +kernel
theorem dL_law_830 : decode cL_law 830 = .ok (.aload_n 0, 1) := by decide +kernel
theorem dL_law_831 : decode cL_law 831 = .ok (.iload_n 3, 1) := by decide +kernel
theorem dL_law_832 : decode cL_law 832 = .ok (.iconst 1, 1) := by decide +kernel
theorem dL_law_833 : decode cL_law 833 = .ok (.iadd, 1) := by decide +kernel
theorem dL_law_834 : decode cL_law 834 = .ok (.iaload, 1) := by decide +kernel
theorem dL_law_835 : decode cL_law 835 = .ok (.invokevirtual 101, 3) := by decide +kernel
theorem dL_law_838 : decode cL_law 838 = .ok (.if_icmp .eq 504, 3) := by decide +kernel
theorem dL_law_841 : decode cL_law 841 = .ok (.iconst 0, 1) := by decide +kernel
theorem dL_law_842 : decode cL_law 842 = .ok (.ireturn, 1) := by decide +kernel
theorem dL_law_843 : decode cL_law 843 = .ok (.aload_n 1, 1) := by decide +kernel
theorem dL_law_844 : decode cL_law 844 = .ok (.aload_n 0, 1) := by decide +kernel
theorem dL_law_845 : decode cL_law 845 = .ok (.iload_n 3, 1) := by decide +kernel
theorem dL_law_846 : decode cL_law 846 = .ok (.iconst 1, 1) := by decide +kernel
theorem dL_law_847 : decode cL_law 847 = .ok (.iadd, 1) := by decide +kernel
theorem dL_law_848 : decode cL_law 848 = .ok (.iaload, 1) := by decide +kernel
theorem dL_law_849 : decode cL_law 849 = .ok (.invokevirtual 102, 3) := by decide +kernel
theorem dL_law_852 : decode cL_law 852 = .ok (.aload_n 2, 1) := by decide +kernel
theorem dL_law_853 : decode cL_law 853 = .ok (.aload_n 0, 1) := by decide +kernel
theorem dL_law_854 : decode cL_law 854 = .ok (.iload_n 3, 1) := by decide +kernel
theorem dL_law_855 : decode cL_law 855 = .ok (.iconst 1, 1) := by decide +kernel
theorem dL_law_856 : decode cL_law 856 = .ok (.iadd, 1) := by decide +kernel
theorem dL_law_857 : decode cL_law 857 = .ok (.iaload, 1) := by decide +kernel
theorem dL_law_858 : decode cL_law 858 = .ok (.invokevirtual 105, 3) := by decide +kernel
theorem dL_law_861 : decode cL_law 861 = .ok (.if_icmp .eq 481, 3) := by decide +kernel
theorem dL_law_864 : decode cL_law 864 = .ok (.iconst 0, 1) := by decide +kernel
theorem dL_law_865 : decode cL_law 865 = .ok (.ireturn, 1) := by decide +kernel
theorem dL_law_866 : decode cL_law 866 = .ok (.aload_n 1, 1) := by decide +kernel
theorem dL_law_867 : decode cL_law 867 = .ok (.invokevirtual 106, 3) := by decide +kernel
theorem dL_law_870 : decode cL_law 870 = .ok (.aload_n 2, 1) := by decide +kernel
theorem dL_law_871 : decode cL_law 871 = .ok (.invokevirtual 109, 3) := by decide +kernel
theorem dL_law_874 : decode cL_law 874 = .ok (.if_icmp .eq 468, 3) := by decide +kernel
theorem dL_law_877 : decode cL_law 877 = .ok (.iconst 0, 1) := by decide +kernel
theorem dL_law_878 : decode cL_law 878 = .ok (.ireturn, 1) := by decide +kernel
theorem dL_law_879 : decode cL_law 879 = .ok (.aload_n 1, 1) := by decide +kernel
theorem dL_law_880 : decode cL_law 880 = .ok (.aload_n 0, 1) := by decide +kernel
theorem dL_law_881 : decode cL_law 881 = .ok (.iload_n 3, 1) := by decide +kernel
theorem dL_law_882 : decode cL_law 882 = .ok (.iconst 1, 1) := by decide +kernel
theorem dL_law_883 : decode cL_law 883 = .ok (.iadd, 1) := by decide +kernel
theorem dL_law_884 : decode cL_law 884 = .ok (.iaload, 1) := by decide +kernel
theorem dL_law_885 : decode cL_law 885 = .ok (.invokevirtual 110, 3) := by decide +kernel
theorem dL_law_888 : decode cL_law 888 = .ok (.aload_n 2, 1) := by decide +kernel
theorem dL_law_889 : decode cL_law 889 = .ok (.aload_n 0, 1) := by decide +kernel
theorem dL_law_890 : decode cL_law 890 = .ok (.iload_n 3, 1) := by decide +kernel
theorem dL_law_891 : decode cL_law 891 = .ok (.iconst 1, 1) := by decide +kernel
theorem dL_law_892 : decode cL_law 892 = .ok (.iadd, 1) := by decide +kernel
theorem dL_law_893 : decode cL_law 893 = .ok (.iaload, 1) := by decide +kernel
theorem dL_law_894 : decode cL_law 894 = .ok (.invokevirtual 113, 3) := by decide +kernel
theorem dL_law_897 : decode cL_law 897 = .ok (.if_icmp .eq 445, 3) := by decide +kernel
theorem dL_law_900 : decode cL_law 900 = .ok (.iconst 0, 1) := by decide +kernel
theorem dL_law_901 : decode cL_law 901 = .ok (.ireturn, 1) := by decide +kernel
theorem dL_law_902 : decode cL_law 902 = .ok (.aload_n 1, 1) := by decide +kernel
theorem dL_law_903 : decode cL_law 903 = .ok (.aload_n 0, 1) := by decide +kernel
theorem dL_law_904 : decode cL_law 904 = .ok (.iload_n 3, 1) := by decide +kernel
theorem dL_law_905 : decode cL_law 905 = .ok (.iconst 1, 1) := by decide +kernel
theorem dL_law_906 : decode cL_law 906 = .ok (.iadd, 1) := by decide +kernel
theorem dL_law_907 : decode cL_law 907 = .ok (.iaload, 1) := by decide +kernel
theorem dL_law_908 : decode cL_law 908 = .ok (.invokevirtual 114, 3) := by decide +kernel
theorem dL_law_911 : decode cL_law 911 = .ok (.aload_n 2, 1) := by decide +kernel
theorem dL_law_912 : decode cL_law 912 = .ok (.aload_n 0, 1) := by decide +kernel
theorem dL_law_913 : decode cL_law 913 = .ok (.iload_n 3, 1) := by decide +kernel
theorem dL_law_914 : decode cL_law 914 = .ok (.iconst 1, 1) := by decide +kernel
theorem dL_law_915 : decode cL_law 915 = .ok (.iadd, 1) := by decide +kernel
theorem dL_law_916 : decode cL_law 916 = .ok (.iaload, 1) := by decide +kernel
theorem dL_law_917 : decode cL_law 917 = .ok (.invokevirtual 117, 3) := by decide +kernel
theorem dL_law_920 : decode cL_law 920 = .ok (.if_icmp .eq 422, 3) := by decide +kernel
theorem dL_law_923 : decode cL_law 923 = .ok (.iconst 0, 1) := by decide +kernel
theorem dL_law_924 : decode cL_law 924 = .ok (.ireturn, 1) := by decide +kernel
theorem dL_law_925 : decode cL_law 925 = .ok (.aload_n 1, 1) := by decide +kernel
theorem dL_law_926 : decode cL_law 926 = .ok (.aload_n 0, 1) := by decide +kernel
theorem dL_law_927 : decode cL_law 927 = .ok (.iload_n 3, 1) := by decide +kernel
theorem dL_law_928 : decode cL_law 928 = .ok (.iconst 1, 1) := by decide +kernel
theorem dL_law_929 : decode cL_law 929 = .ok (.iadd, 1) := by decide +kernel
theorem dL_law_930 : decode cL_law 930 = .ok (.iaload, 1) := by decide +kernel
theorem dL_law_931 : decode cL_law 931 = .ok (.invokevirtual 118, 3) := by decide +kernel
theorem dL_law_934 : decode cL_law 934 = .ok (.aload_n 2, 1) := by decide +kernel
theorem dL_law_935 : decode cL_law 935 = .ok (.aload_n 0, 1) := by decide +kernel
theorem dL_law_936 : decode cL_law 936 = .ok (.iload_n 3, 1) := by decide +kernel
theorem dL_law_937 : decode cL_law 937 = .ok (.iconst 1, 1) := by decide +kernel
theorem dL_law_938 : decode cL_law 938 = .ok (.iadd, 1) := by decide +kernel
theorem dL_law_939 : decode cL_law 939 = .ok (.iaload, 1) := by decide +kernel
theorem dL_law_940 : decode cL_law 940 = .ok (.invokevirtual 121, 3) := by decide +kernel
theorem dL_law_943 : decode cL_law 943 = .ok (.if_icmp .eq 399, 3) := by decide +kernel
theorem dL_law_946 : decode cL_law 946 = .ok (.iconst 0, 1) := by decide +kernel
theorem dL_law_947 : decode cL_law 947 = .ok (.ireturn, 1) := by decide +kernel
theorem dL_law_948 : decode cL_law 948 = .ok (.aload_n 1, 1) := by decide +kernel
theorem dL_law_949 : decode cL_law 949 = .ok (.invokevirtual 122, 3) := by decide +kernel
theorem dL_law_952 : decode cL_law 952 = .ok (.aload_n 2, 1) := by decide +kernel
theorem dL_law_953 : decode cL_law 953 = .ok (.invokevirtual 125, 3) := by decide +kernel
theorem dL_law_956 : decode cL_law 956 = .ok (.if_icmp .eq 386, 3) := by decide +kernel
theorem dL_law_959 : decode cL_law 959 = .ok (.iconst 0, 1) := by decide +kernel
theorem dL_law_960 : decode cL_law 960 = .ok (.ireturn, 1) := by decide +kernel
theorem dL_law_961 : decode cL_law 961 = .ok (.aload_n 1, 1) := by decide +kernel
theorem dL_law_962 : decode cL_law 962 = .ok (.aload_n 0, 1) := by decide +kernel
theorem dL_law_963 : decode cL_law 963 = .ok (.iload_n 3, 1) := by decide +kernel
theorem dL_law_964 : decode cL_law 964 = .ok (.iconst 1, 1) := by decide +kernel
theorem dL_law_965 : decode cL_law 965 = .ok (.iadd, 1) := by decide +kernel
theorem dL_law_966 : decode cL_law 966 = .ok (.iaload, 1) := by decide +kernel
theorem dL_law_967 : decode cL_law 967 = .ok (.invokevirtual 126, 3) := by decide +kernel
theorem dL_law_970 : decode cL_law 970 = .ok (.aload_n 2, 1) := by decide +kernel
theorem dL_law_971 : decode cL_law 971 = .ok (.aload_n 0, 1) := by decide +kernel
theorem dL_law_972 : decode cL_law 972 = .ok (.iload_n 3, 1) := by decide +kernel
theorem dL_law_973 : decode cL_law 973 = .ok (.iconst 1, 1) := by decide +kernel
theorem dL_law_974 : decode cL_law 974 = .ok (.iadd, 1) := by decide +kernel
theorem dL_law_975 : decode cL_law 975 = .ok (.iaload, 1) := by decide +kernel
theorem dL_law_976 : decode cL_law 976 = .ok (.invokevirtual 129, 3) := by decide +kernel
theorem dL_law_979 : decode cL_law 979 = .ok (.if_icmp .eq 363, 3) := by decide +kernel
theorem dL_law_982 : decode cL_law 982 = .ok (.iconst 0, 1) := by decide +kernel
theorem dL_law_983 : decode cL_law 983 = .ok (.ireturn, 1) := by decide +kernel
theorem dL_law_984 : decode cL_law 984 = .ok (.aload_n 1, 1) := by decide +kernel
theorem dL_law_985 : decode cL_law 985 = .ok (.aload_n 0, 1) := by decide +kernel
theorem dL_law_986 : decode cL_law 986 = .ok (.iload_n 3, 1) := by decide +kernel
theorem dL_law_987 : decode cL_law 987 = .ok (.iconst 1, 1) := by decide +kernel
theorem dL_law_988 : decode cL_law 988 = .ok (.iadd, 1) := by decide +kernel
theorem dL_law_989 : decode cL_law 989 = .ok (.iaload, 1) := by decide +kernel
theorem dL_law_990 : decode cL_law 990 = .ok (.aload_n 0, 1) := by decide +kernel
theorem dL_law_991 : decode cL_law 991 = .ok (.iload_n 3, 1) := by decide +kernel
theorem dL_law_992 : decode cL_law 992 = .ok (.iconst 2, 1) := by decide +kernel
theorem dL_law_993 : decode cL_law 993 = .ok (.iadd, 1) := by decide +kernel
theorem dL_law_994 : decode cL_law 994 = .ok (.iaload, 1) := by decide +kernel
theorem dL_law_995 : decode cL_law 995 = .ok (.invokevirtual 130, 3) := by decide +kernel
theorem dL_law_998 : decode cL_law 998 = .ok (.aload_n 2, 1) := by decide +kernel
theorem dL_law_999 : decode cL_law 999 = .ok (.aload_n 0, 1) := by decide +kernel
theorem dL_law_1000 : decode cL_law 1000 = .ok (.iload_n 3, 1) := by decide +kernel
theorem dL_law_1001 : decode cL_law 1001 = .ok (.iconst 1, 1) := by decide +kernel
theorem dL_law_1002 : decode cL_law 1002 = .ok (.iadd, 1) := by decide +kernel
theorem dL_law_1003 : decode cL_law 1003 = .ok (.iaload, 1) := by decide +kernel
theorem dL_law_1004 : decode cL_law 1004 = .ok (.aload_n 0, 1) := by decide +kernel
theorem dL_law_1005 : decode cL_law 1005 = .ok (.iload_n 3, 1) := by decide +kernel
theorem dL_law_1006 : decode cL_law 1006 = .ok (.iconst 2, 1) := by decide +kernel
theorem dL_law_1007 : decode cL_law 1007 = .ok (.iadd, 1) := by decide +kernel
theorem dL_law_1008 : decode cL_law 1008 = .ok (.iaload, 1) := by decide +kernel
theorem dL_law_1009 : decode cL_law 1009 = .ok (.invokevirtual 133, 3) := by decide +kernel
theorem dL_law_1012 : decode cL_law 1012 = .ok (.if_icmp .eq 330, 3) := by decide +kernel
theorem dL_law_1015 : decode cL_law 1015 = .ok (.iconst 0, 1) := by decide +kernel
theorem dL_law_1016 : decode cL_law 1016 = .ok (.ireturn, 1) := by decide +kernel
theorem dL_law_1017 : decode cL_law 1017 = .ok (.aload_n 1, 1) := by decide +kernel
theorem dL_law_1018 : decode cL_law 1018 = .ok (.aload_n 0, 1) := by decide +kernel
theorem dL_law_1019 : decode cL_law 1019 = .ok (.iload_n 3, 1) := by decide +kernel
theorem dL_law_1020 : decode cL_law 1020 = .ok (.iconst 1, 1) := by decide +kernel
theorem dL_law_1021 : decode cL_law 1021 = .ok (.iadd, 1) := by decide +kernel
theorem dL_law_1022 : decode cL_law 1022 = .ok (.iaload, 1) := by decide +kernel
theorem dL_law_1023 : decode cL_law 1023 = .ok (.aload_n 0, 1) := by decide +kernel
theorem dL_law_1024 : decode cL_law 1024 = .ok (.iload_n 3, 1) := by decide +kernel
theorem dL_law_1025 : decode cL_law 1025 = .ok (.iconst 2, 1) := by decide +kernel
theorem dL_law_1026 : decode cL_law 1026 = .ok (.iadd, 1) := by decide +kernel
theorem dL_law_1027 : decode cL_law 1027 = .ok (.iaload, 1) := by decide +kernel
theorem dL_law_1028 : decode cL_law 1028 = .ok (.invokevirtual 134, 3) := by decide +kernel
theorem dL_law_1031 : decode cL_law 1031 = .ok (.aload_n 2, 1) := by decide +kernel
theorem dL_law_1032 : decode cL_law 1032 = .ok (.aload_n 0, 1) := by decide +kernel
theorem dL_law_1033 : decode cL_law 1033 = .ok (.iload_n 3, 1) := by decide +kernel
theorem dL_law_1034 : decode cL_law 1034 = .ok (.iconst 1, 1) := by decide +kernel
theorem dL_law_1035 : decode cL_law 1035 = .ok (.iadd, 1) := by decide +kernel
theorem dL_law_1036 : decode cL_law 1036 = .ok (.iaload, 1) := by decide +kernel
theorem dL_law_1037 : decode cL_law 1037 = .ok (.aload_n 0, 1) := by decide +kernel
theorem dL_law_1038 : decode cL_law 1038 = .ok (.iload_n 3, 1) := by decide +kernel
theorem dL_law_1039 : decode cL_law 1039 = .ok (.iconst 2, 1) := by decide +kernel
theorem dL_law_1040 : decode cL_law 1040 = .ok (.iadd, 1) := by decide +kernel
theorem dL_law_1041 : decode cL_law 1041 = .ok (.iaload, 1) := by decide +kernel
theorem dL_law_1042 : decode cL_law 1042 = .ok (.invokevirtual 137, 3) := by decide +kernel
theorem dL_law_1045 : decode cL_law 1045 = .ok (.if_icmp .eq 297, 3) := by decide +kernel
theorem dL_law_1048 : decode cL_law 1048 = .ok (.iconst 0, 1) := by decide +kernel
theorem dL_law_1049 : decode cL_law 1049 = .ok (.ireturn, 1) := by decide +kernel
theorem dL_law_1050 : decode cL_law 1050 = .ok (.aload_n 1, 1) := by decide +kernel
theorem dL_law_1051 : decode cL_law 1051 = .ok (.aload_n 0, 1) := by decide +kernel
theorem dL_law_1052 : decode cL_law 1052 = .ok (.iload_n 3, 1) := by decide +kernel
theorem dL_law_1053 : decode cL_law 1053 = .ok (.iconst 1, 1) := by decide +kernel
theorem dL_law_1054 : decode cL_law 1054 = .ok (.iadd, 1) := by decide +kernel
theorem dL_law_1055 : decode cL_law 1055 = .ok (.iaload, 1) := by decide +kernel
theorem dL_law_1056 : decode cL_law 1056 = .ok (.aload_n 0, 1) := by decide +kernel
theorem dL_law_1057 : decode cL_law 1057 = .ok (.iload_n 3, 1) := by decide +kernel
theorem dL_law_1058 : decode cL_law 1058 = .ok (.iconst 2, 1) := by decide +kernel
theorem dL_law_1059 : decode cL_law 1059 = .ok (.iadd, 1) := by decide +kernel
theorem dL_law_1060 : decode cL_law 1060 = .ok (.iaload, 1) := by decide +kernel
theorem dL_law_1061 : decode cL_law 1061 = .ok (.invokevirtual 138, 3) := by decide +kernel
theorem dL_law_1064 : decode cL_law 1064 = .ok (.aload_n 2, 1) := by decide +kernel
theorem dL_law_1065 : decode cL_law 1065 = .ok (.aload_n 0, 1) := by decide +kernel
theorem dL_law_1066 : decode cL_law 1066 = .ok (.iload_n 3, 1) := by decide +kernel
theorem dL_law_1067 : decode cL_law 1067 = .ok (.iconst 1, 1) := by decide +kernel
theorem dL_law_1068 : decode cL_law 1068 = .ok (.iadd, 1) := by decide +kernel
theorem dL_law_1069 : decode cL_law 1069 = .ok (.iaload, 1) := by decide +kernel
theorem dL_law_1070 : decode cL_law 1070 = .ok (.aload_n 0, 1) := by decide +kernel
theorem dL_law_1071 : decode cL_law 1071 = .ok (.iload_n 3, 1) := by decide +kernel
theorem dL_law_1072 : decode cL_law 1072 = .ok (.iconst 2, 1) := by decide +kernel
theorem dL_law_1073 : decode cL_law 1073 = .ok (.iadd, 1) := by decide +kernel
theorem dL_law_1074 : decode cL_law 1074 = .ok (.iaload, 1) := by decide +kernel
theorem dL_law_1075 : decode cL_law 1075 = .ok (.invokevirtual 141, 3) := by decide +kernel
theorem dL_law_1078 : decode cL_law 1078 = .ok (.if_icmp .eq 264, 3) := by decide +kernel
theorem dL_law_1081 : decode cL_law 1081 = .ok (.iconst 0, 1) := by decide +kernel
theorem dL_law_1082 : decode cL_law 1082 = .ok (.ireturn, 1) := by decide +kernel
theorem dL_law_1083 : decode cL_law 1083 = .ok (.aload_n 1, 1) := by decide +kernel
theorem dL_law_1084 : decode cL_law 1084 = .ok (.aload_n 0, 1) := by decide +kernel
theorem dL_law_1085 : decode cL_law 1085 = .ok (.iload_n 3, 1) := by decide +kernel
theorem dL_law_1086 : decode cL_law 1086 = .ok (.iconst 1, 1) := by decide +kernel
theorem dL_law_1087 : decode cL_law 1087 = .ok (.iadd, 1) := by decide +kernel
theorem dL_law_1088 : decode cL_law 1088 = .ok (.iaload, 1) := by decide +kernel
theorem dL_law_1089 : decode cL_law 1089 = .ok (.aload_n 0, 1) := by decide +kernel
theorem dL_law_1090 : decode cL_law 1090 = .ok (.iload_n 3, 1) := by decide +kernel
theorem dL_law_1091 : decode cL_law 1091 = .ok (.iconst 2, 1) := by decide +kernel
theorem dL_law_1092 : decode cL_law 1092 = .ok (.iadd, 1) := by decide +kernel
theorem dL_law_1093 : decode cL_law 1093 = .ok (.iaload, 1) := by decide +kernel
theorem dL_law_1094 : decode cL_law 1094 = .ok (.invokevirtual 142, 3) := by decide +kernel
theorem dL_law_1097 : decode cL_law 1097 = .ok (.aload_n 2, 1) := by decide +kernel
theorem dL_law_1098 : decode cL_law 1098 = .ok (.aload_n 0, 1) := by decide +kernel
theorem dL_law_1099 : decode cL_law 1099 = .ok (.iload_n 3, 1) := by decide +kernel
theorem dL_law_1100 : decode cL_law 1100 = .ok (.iconst 1, 1) := by decide +kernel
theorem dL_law_1101 : decode cL_law 1101 = .ok (.iadd, 1) := by decide +kernel
theorem dL_law_1102 : decode cL_law 1102 = .ok (.iaload, 1) := by decide +kernel
theorem dL_law_1103 : decode cL_law 1103 = .ok (.aload_n 0, 1) := by decide +kernel
theorem dL_law_1104 : decode cL_law 1104 = .ok (.iload_n 3, 1) := by decide +kernel
theorem dL_law_1105 : decode cL_law 1105 = .ok (.iconst 2, 1) := by decide +kernel
theorem dL_law_1106 : decode cL_law 1106 = .ok (.iadd, 1) := by decide +kernel
theorem dL_law_1107 : decode cL_law 1107 = .ok (.iaload, 1) := by decide +kernel
theorem dL_law_1108 : decode cL_law 1108 = .ok (.invokevirtual 145, 3) := by decide +kernel
theorem dL_law_1111 : decode cL_law 1111 = .ok (.if_icmp .eq 231, 3) := by decide +kernel
theorem dL_law_1114 : decode cL_law 1114 = .ok (.iconst 0, 1) := by decide +kernel
theorem dL_law_1115 : decode cL_law 1115 = .ok (.ireturn, 1) := by decide +kernel
theorem dL_law_1116 : decode cL_law 1116 = .ok (.aload_n 1, 1) := by decide +kernel
theorem dL_law_1117 : decode cL_law 1117 = .ok (.aload_n 0, 1) := by decide +kernel
theorem dL_law_1118 : decode cL_law 1118 = .ok (.iload_n 3, 1) := by decide +kernel
theorem dL_law_1119 : decode cL_law 1119 = .ok (.iconst 1, 1) := by decide +kernel
theorem dL_law_1120 : decode cL_law 1120 = .ok (.iadd, 1) := by decide +kernel
theorem dL_law_1121 : decode cL_law 1121 = .ok (.iaload, 1) := by decide +kernel
theorem dL_law_1122 : decode cL_law 1122 = .ok (.invokevirtual 146, 3) := by decide +kernel
theorem dL_law_1125 : decode cL_law 1125 = .ok (.aload_n 2, 1) := by decide +kernel
theorem dL_law_1126 : decode cL_law 1126 = .ok (.aload_n 0, 1) := by decide +kernel
theorem dL_law_1127 : decode cL_law 1127 = .ok (.iload_n 3, 1) := by decide +kernel
theorem dL_law_1128 : decode cL_law 1128 = .ok (.iconst 1, 1) := by decide +kernel
theorem dL_law_1129 : decode cL_law 1129 = .ok (.iadd, 1) := by decide +kernel
theorem dL_law_1130 : decode cL_law 1130 = .ok (.iaload, 1) := by decide +kernel
theorem dL_law_1131 : decode cL_law 1131 = .ok (.invokevirtual 149, 3) := by decide +kernel
theorem dL_law_1134 : decode cL_law 1134 = .ok (.if_icmp .eq 208, 3) := by decide +kernel
theorem dL_law_1137 : decode cL_law 1137 = .ok (.iconst 0, 1) := by decide +kernel
theorem dL_law_1138 : decode cL_law 1138 = .ok (.ireturn, 1) := by decide +kernel
theorem dL_law_1139 : decode cL_law 1139 = .ok (.aload_n 1, 1) := by decide +kernel
theorem dL_law_1140 : decode cL_law 1140 = .ok (.aload_n 0, 1) := by decide +kernel
theorem dL_law_1141 : decode cL_law 1141 = .ok (.iload_n 3, 1) := by decide +kernel
theorem dL_law_1142 : decode cL_law 1142 = .ok (.iconst 1, 1) := by decide +kernel
theorem dL_law_1143 : decode cL_law 1143 = .ok (.iadd, 1) := by decide +kernel
theorem dL_law_1144 : decode cL_law 1144 = .ok (.iaload, 1) := by decide +kernel
theorem dL_law_1145 : decode cL_law 1145 = .ok (.aload_n 0, 1) := by decide +kernel
theorem dL_law_1146 : decode cL_law 1146 = .ok (.iload_n 3, 1) := by decide +kernel
theorem dL_law_1147 : decode cL_law 1147 = .ok (.iconst 2, 1) := by decide +kernel
theorem dL_law_1148 : decode cL_law 1148 = .ok (.iadd, 1) := by decide +kernel
theorem dL_law_1149 : decode cL_law 1149 = .ok (.iaload, 1) := by decide +kernel
theorem dL_law_1150 : decode cL_law 1150 = .ok (.invokevirtual 150, 3) := by decide +kernel
theorem dL_law_1153 : decode cL_law 1153 = .ok (.aload_n 2, 1) := by decide +kernel
theorem dL_law_1154 : decode cL_law 1154 = .ok (.aload_n 0, 1) := by decide +kernel
theorem dL_law_1155 : decode cL_law 1155 = .ok (.iload_n 3, 1) := by decide +kernel
theorem dL_law_1156 : decode cL_law 1156 = .ok (.iconst 1, 1) := by decide +kernel
theorem dL_law_1157 : decode cL_law 1157 = .ok (.iadd, 1) := by decide +kernel
theorem dL_law_1158 : decode cL_law 1158 = .ok (.iaload, 1) := by decide +kernel
theorem dL_law_1159 : decode cL_law 1159 = .ok (.aload_n 0, 1) := by decide +kernel
theorem dL_law_1160 : decode cL_law 1160 = .ok (.iload_n 3, 1) := by decide +kernel
theorem dL_law_1161 : decode cL_law 1161 = .ok (.iconst 2, 1) := by decide +kernel
theorem dL_law_1162 : decode cL_law 1162 = .ok (.iadd, 1) := by decide +kernel
theorem dL_law_1163 : decode cL_law 1163 = .ok (.iaload, 1) := by decide +kernel
theorem dL_law_1164 : decode cL_law 1164 = .ok (.invokevirtual 153, 3) := by decide +kernel
theorem dL_law_1167 : decode cL_law 1167 = .ok (.if_icmp .eq 175, 3) := by decide +kernel
theorem dL_law_1170 : decode cL_law 1170 = .ok (.iconst 0, 1) := by decide +kernel
theorem dL_law_1171 : decode cL_law 1171 = .ok (.ireturn, 1) := by decide +kernel
theorem dL_law_1172 : decode cL_law 1172 = .ok (.aload_n 1, 1) := by decide +kernel
theorem dL_law_1173 : decode cL_law 1173 = .ok (.aload_n 0, 1) := by decide +kernel
theorem dL_law_1174 : decode cL_law 1174 = .ok (.iload_n 3, 1) := by decide +kernel
theorem dL_law_1175 : decode cL_law 1175 = .ok (.iconst 1, 1) := by decide +kernel
theorem dL_law_1176 : decode cL_law 1176 = .ok (.iadd, 1) := by decide +kernel
theorem dL_law_1177 : decode cL_law 1177 = .ok (.iaload, 1) := by decide +kernel
theorem dL_law_1178 : decode cL_law 1178 = .ok (.invokevirtual 154, 3) := by decide +kernel
theorem dL_law_1181 : decode cL_law 1181 = .ok (.aload_n 2, 1) := by decide +kernel
theorem dL_law_1182 : decode cL_law 1182 = .ok (.aload_n 0, 1) := by decide +kernel
theorem dL_law_1183 : decode cL_law 1183 = .ok (.iload_n 3, 1) := by decide +kernel
theorem dL_law_1184 : decode cL_law 1184 = .ok (.iconst 1, 1) := by decide +kernel
theorem dL_law_1185 : decode cL_law 1185 = .ok (.iadd, 1) := by decide +kernel
theorem dL_law_1186 : decode cL_law 1186 = .ok (.iaload, 1) := by decide +kernel
theorem dL_law_1187 : decode cL_law 1187 = .ok (.invokevirtual 157, 3) := by decide +kernel
theorem dL_law_1190 : decode cL_law 1190 = .ok (.if_icmp .eq 152, 3) := by decide +kernel
theorem dL_law_1193 : decode cL_law 1193 = .ok (.iconst 0, 1) := by decide +kernel
theorem dL_law_1194 : decode cL_law 1194 = .ok (.ireturn, 1) := by decide +kernel
theorem dL_law_1195 : decode cL_law 1195 = .ok (.aload_n 1, 1) := by decide +kernel
theorem dL_law_1196 : decode cL_law 1196 = .ok (.aload_n 0, 1) := by decide +kernel
theorem dL_law_1197 : decode cL_law 1197 = .ok (.iload_n 3, 1) := by decide +kernel
theorem dL_law_1198 : decode cL_law 1198 = .ok (.iconst 1, 1) := by decide +kernel
theorem dL_law_1199 : decode cL_law 1199 = .ok (.iadd, 1) := by decide +kernel
theorem dL_law_1200 : decode cL_law 1200 = .ok (.iaload, 1) := by decide +kernel
theorem dL_law_1201 : decode cL_law 1201 = .ok (.aload_n 0, 1) := by decide +kernel
theorem dL_law_1202 : decode cL_law 1202 = .ok (.iload_n 3, 1) := by decide +kernel
theorem dL_law_1203 : decode cL_law 1203 = .ok (.iconst 2, 1) := by decide +kernel
theorem dL_law_1204 : decode cL_law 1204 = .ok (.iadd, 1) := by decide +kernel
theorem dL_law_1205 : decode cL_law 1205 = .ok (.iaload, 1) := by decide +kernel
theorem dL_law_1206 : decode cL_law 1206 = .ok (.invokevirtual 158, 3) := by decide +kernel
theorem dL_law_1209 : decode cL_law 1209 = .ok (.aload_n 2, 1) := by decide +kernel
theorem dL_law_1210 : decode cL_law 1210 = .ok (.aload_n 0, 1) := by decide +kernel
theorem dL_law_1211 : decode cL_law 1211 = .ok (.iload_n 3, 1) := by decide +kernel
theorem dL_law_1212 : decode cL_law 1212 = .ok (.iconst 1, 1) := by decide +kernel
theorem dL_law_1213 : decode cL_law 1213 = .ok (.iadd, 1) := by decide +kernel
theorem dL_law_1214 : decode cL_law 1214 = .ok (.iaload, 1) := by decide +kernel
theorem dL_law_1215 : decode cL_law 1215 = .ok (.aload_n 0, 1) := by decide +kernel
theorem dL_law_1216 : decode cL_law 1216 = .ok (.iload_n 3, 1) := by decide +kernel
theorem dL_law_1217 : decode cL_law 1217 = .ok (.iconst 2, 1) := by decide +kernel
theorem dL_law_1218 : decode cL_law 1218 = .ok (.iadd, 1) := by decide +kernel
theorem dL_law_1219 : decode cL_law 1219 = .ok (.iaload, 1) := by decide +kernel
theorem dL_law_1220 : decode cL_law 1220 = .ok (.invokevirtual 161, 3) := by decide +kernel
theorem dL_law_1223 : decode cL_law 1223 = .ok (.if_icmp .eq 119, 3) := by decide +kernel
theorem dL_law_1226 : decode cL_law 1226 = .ok (.iconst 0, 1) := by decide +kernel
theorem dL_law_1227 : decode cL_law 1227 = .ok (.ireturn, 1) := by decide +kernel
theorem dL_law_1228 : decode cL_law 1228 = .ok (.aload_n 1, 1) := by decide +kernel
theorem dL_law_1229 : decode cL_law 1229 = .ok (.invokevirtual 162, 3) := by decide +kernel
theorem dL_law_1232 : decode cL_law 1232 = .ok (.aload_n 2, 1) := by decide +kernel
theorem dL_law_1233 : decode cL_law 1233 = .ok (.invokevirtual 165, 3) := by decide +kernel
theorem dL_law_1236 : decode cL_law 1236 = .ok (.if_icmp .eq 106, 3) := by decide +kernel
theorem dL_law_1239 : decode cL_law 1239 = .ok (.iconst 0, 1) := by decide +kernel
theorem dL_law_1240 : decode cL_law 1240 = .ok (.ireturn, 1) := by decide +kernel
theorem dL_law_1241 : decode cL_law 1241 = .ok (.aload_n 1, 1) := by decide +kernel
theorem dL_law_1242 : decode cL_law 1242 = .ok (.invokevirtual 166, 3) := by decide +kernel
theorem dL_law_1245 : decode cL_law 1245 = .ok (.aload_n 2, 1) := by decide +kernel
theorem dL_law_1246 : decode cL_law 1246 = .ok (.invokevirtual 170, 3) := by decide +kernel
theorem dL_law_1249 : decode cL_law 1249 = .ok (.lcmp, 1) := by decide +kernel
theorem dL_law_1250 : decode cL_law 1250 = .ok (.ifCond .eq 92, 3) := by decide +kernel
theorem dL_law_1253 : decode cL_law 1253 = .ok (.iconst 0, 1) := by decide +kernel
theorem dL_law_1254 : decode cL_law 1254 = .ok (.ireturn, 1) := by decide +kernel
theorem dL_law_1255 : decode cL_law 1255 = .ok (.aload_n 1, 1) := by decide +kernel
theorem dL_law_1256 : decode cL_law 1256 = .ok (.invokevirtual 171, 3) := by decide +kernel
theorem dL_law_1259 : decode cL_law 1259 = .ok (.aload_n 2, 1) := by decide +kernel
theorem dL_law_1260 : decode cL_law 1260 = .ok (.invokevirtual 174, 3) := by decide +kernel
theorem dL_law_1263 : decode cL_law 1263 = .ok (.lcmp, 1) := by decide +kernel
theorem dL_law_1264 : decode cL_law 1264 = .ok (.ifCond .eq 78, 3) := by decide +kernel
theorem dL_law_1267 : decode cL_law 1267 = .ok (.iconst 0, 1) := by decide +kernel
theorem dL_law_1268 : decode cL_law 1268 = .ok (.ireturn, 1) := by decide +kernel
theorem dL_law_1269 : decode cL_law 1269 = .ok (.aload_n 1, 1) := by decide +kernel
theorem dL_law_1270 : decode cL_law 1270 = .ok (.aload_n 0, 1) := by decide +kernel
theorem dL_law_1271 : decode cL_law 1271 = .ok (.iload_n 3, 1) := by decide +kernel
theorem dL_law_1272 : decode cL_law 1272 = .ok (.iconst 1, 1) := by decide +kernel
theorem dL_law_1273 : decode cL_law 1273 = .ok (.iadd, 1) := by decide +kernel
theorem dL_law_1274 : decode cL_law 1274 = .ok (.iaload, 1) := by decide +kernel
theorem dL_law_1275 : decode cL_law 1275 = .ok (.invokevirtual 175, 3) := by decide +kernel
theorem dL_law_1278 : decode cL_law 1278 = .ok (.aload_n 2, 1) := by decide +kernel
theorem dL_law_1279 : decode cL_law 1279 = .ok (.aload_n 0, 1) := by decide +kernel
theorem dL_law_1280 : decode cL_law 1280 = .ok (.iload_n 3, 1) := by decide +kernel
theorem dL_law_1281 : decode cL_law 1281 = .ok (.iconst 1, 1) := by decide +kernel
theorem dL_law_1282 : decode cL_law 1282 = .ok (.iadd, 1) := by decide +kernel
theorem dL_law_1283 : decode cL_law 1283 = .ok (.iaload, 1) := by decide +kernel
theorem dL_law_1284 : decode cL_law 1284 = .ok (.invokevirtual 178, 3) := by decide +kernel
theorem dL_law_1287 : decode cL_law 1287 = .ok (.if_icmp .eq 55, 3) := by decide +kernel
theorem dL_law_1290 : decode cL_law 1290 = .ok (.iconst 0, 1) := by decide +kernel
theorem dL_law_1291 : decode cL_law 1291 = .ok (.ireturn, 1) := by decide +kernel
theorem dL_law_1292 : decode cL_law 1292 = .ok (.aload_n 1, 1) := by decide +kernel
theorem dL_law_1293 : decode cL_law 1293 = .ok (.invokevirtual 179, 3) := by decide +kernel
theorem dL_law_1296 : decode cL_law 1296 = .ok (.aload_n 2, 1) := by decide +kernel
theorem dL_law_1297 : decode cL_law 1297 = .ok (.invokevirtual 182, 3) := by decide +kernel
theorem dL_law_1300 : decode cL_law 1300 = .ok (.if_icmp .eq 42, 3) := by decide +kernel
theorem dL_law_1303 : decode cL_law 1303 = .ok (.iconst 0, 1) := by decide +kernel
theorem dL_law_1304 : decode cL_law 1304 = .ok (.ireturn, 1) := by decide +kernel
theorem dL_law_1305 : decode cL_law 1305 = .ok (.aload_n 1, 1) := by decide +kernel
theorem dL_law_1306 : decode cL_law 1306 = .ok (.aload_n 0, 1) := by decide +kernel
theorem dL_law_1307 : decode cL_law 1307 = .ok (.iload_n 3, 1) := by decide +kernel
theorem dL_law_1308 : decode cL_law 1308 = .ok (.iconst 1, 1) := by decide +kernel
theorem dL_law_1309 : decode cL_law 1309 = .ok (.iadd, 1) := by decide +kernel
theorem dL_law_1310 : decode cL_law 1310 = .ok (.iaload, 1) := by decide +kernel
theorem dL_law_1311 : decode cL_law 1311 = .ok (.invokevirtual 183, 3) := by decide +kernel
theorem dL_law_1314 : decode cL_law 1314 = .ok (.aload_n 2, 1) := by decide +kernel
theorem dL_law_1315 : decode cL_law 1315 = .ok (.aload_n 0, 1) := by decide +kernel
theorem dL_law_1316 : decode cL_law 1316 = .ok (.iload_n 3, 1) := by decide +kernel
theorem dL_law_1317 : decode cL_law 1317 = .ok (.iconst 1, 1) := by decide +kernel
theorem dL_law_1318 : decode cL_law 1318 = .ok (.iadd, 1) := by decide +kernel
theorem dL_law_1319 : decode cL_law 1319 = .ok (.iaload, 1) := by decide +kernel
theorem dL_law_1320 : decode cL_law 1320 = .ok (.invokevirtual 186, 3) := by decide +kernel
theorem dL_law_1323 : decode cL_law 1323 = .ok (.if_icmp .eq 19, 3) := by decide +kernel
theorem dL_law_1326 : decode cL_law 1326 = .ok (.iconst 0, 1) := by decide +kernel
theorem dL_law_1327 : decode cL_law 1327 = .ok (.ireturn, 1) := by decide +kernel
theorem dL_law_1328 : decode cL_law 1328 = .ok (.aload_n 1, 1) := by decide +kernel
theorem dL_law_1329 : decode cL_law 1329 = .ok (.invokevirtual 187, 3) := by decide +kernel
theorem dL_law_1332 : decode cL_law 1332 = .ok (.aload_n 2, 1) := by decide +kernel
theorem dL_law_1333 : decode cL_law 1333 = .ok (.invokevirtual 190, 3) := by decide +kernel
theorem dL_law_1336 : decode cL_law 1336 = .ok (.lcmp, 1) := by decide +kernel
theorem dL_law_1337 : decode cL_law 1337 = .ok (.ifCond .eq 5, 3) := by decide +kernel
theorem dL_law_1340 : decode cL_law 1340 = .ok (.iconst 0, 1) := by decide +kernel
theorem dL_law_1341 : decode cL_law 1341 = .ok (.ireturn, 1) := by decide +kernel
theorem dL_law_1342 : decode cL_law 1342 = .ok (.iinc 3 6, 3) := by decide +kernel
theorem dL_law_1345 : decode cL_law 1345 = .ok (.goto (-1327), 3) := by decide +kernel
theorem dL_law_1348 : decode cL_law 1348 = .ok (.iconst 1, 1) := by decide +kernel
theorem dL_law_1349 : decode cL_law 1349 = .ok (.ireturn, 1) := by decide +kernel
