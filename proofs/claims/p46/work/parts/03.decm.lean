theorem dL_part_0 : decode cL_part 0 = .ok (.iload_n 0, 1) := by decide +kernel
theorem dL_part_1 : decode cL_part 1 = .ok (.ldc 7, 2) := by decide +kernel
theorem dL_part_3 : decode cL_part 3 = .ok (.iand, 1) := by decide +kernel
theorem dL_part_4 : decode cL_part 4 = .ok (.iload_n 1, 1) := by decide +kernel
theorem dL_part_5 : decode cL_part 5 = .ok (.irem, 1) := by decide +kernel
theorem dL_part_6 : decode cL_part 6 = .ok (.ireturn, 1) := by decide +kernel
theorem dL_cell_0 : decode cL_cell 0 = .ok (.aload_n 0, 1) := by decide +kernel
theorem dL_cell_1 : decode cL_cell 1 = .ok (.arraylength, 1) := by decide +kernel
theorem dL_cell_2 : decode cL_cell 2 = .ok (.ifCond .ne 13, 3) := by decide +kernel
theorem dL_cell_5 : decode cL_cell 5 = .ok (.sipush 7919, 3) := by decide +kernel
theorem dL_cell_8 : decode cL_cell 8 = .ok (.iload_n 1, 1) := by decide +kernel
theorem dL_cell_9 : decode cL_cell 9 = .ok (.imul, 1) := by decide +kernel
theorem dL_cell_10 : decode cL_cell 10 = .ok (.iconst 3, 1) := by decide +kernel
theorem dL_cell_11 : decode cL_cell 11 = .ok (.iadd, 1) := by decide +kernel
theorem dL_cell_12 : decode cL_cell 12 = .ok (.goto 27, 3) := by decide +kernel
theorem dL_cell_15 : decode cL_cell 15 = .ok (.aload_n 0, 1) := by decide +kernel
theorem dL_cell_16 : decode cL_cell 16 = .ok (.iload_n 1, 1) := by decide +kernel
theorem dL_cell_17 : decode cL_cell 17 = .ok (.aload_n 0, 1) := by decide +kernel
theorem dL_cell_18 : decode cL_cell 18 = .ok (.arraylength, 1) := by decide +kernel
theorem dL_cell_19 : decode cL_cell 19 = .ok (.irem, 1) := by decide +kernel
theorem dL_cell_20 : decode cL_cell 20 = .ok (.iaload, 1) := by decide +kernel
theorem dL_cell_21 : decode cL_cell 21 = .ok (.iload_n 1, 1) := by decide +kernel
theorem dL_cell_22 : decode cL_cell 22 = .ok (.bipush 7, 2) := by decide +kernel
theorem dL_cell_24 : decode cL_cell 24 = .ok (.irem, 1) := by decide +kernel
theorem dL_cell_25 : decode cL_cell 25 = .ok (.ishr, 1) := by decide +kernel
theorem dL_cell_26 : decode cL_cell 26 = .ok (.iload_n 1, 1) := by decide +kernel
theorem dL_cell_27 : decode cL_cell 27 = .ok (.aload_n 0, 1) := by decide +kernel
theorem dL_cell_28 : decode cL_cell 28 = .ok (.arraylength, 1) := by decide +kernel
theorem dL_cell_29 : decode cL_cell 29 = .ok (.idiv, 1) := by decide +kernel
theorem dL_cell_30 : decode cL_cell 30 = .ok (.bipush 31, 2) := by decide +kernel
theorem dL_cell_32 : decode cL_cell 32 = .ok (.imul, 1) := by decide +kernel
theorem dL_cell_33 : decode cL_cell 33 = .ok (.ixor, 1) := by decide +kernel
theorem dL_cell_34 : decode cL_cell 34 = .ok (.iload_n 1, 1) := by decide +kernel
theorem dL_cell_35 : decode cL_cell 35 = .ok (.ldc 8, 2) := by decide +kernel
theorem dL_cell_37 : decode cL_cell 37 = .ok (.imul, 1) := by decide +kernel
theorem dL_cell_38 : decode cL_cell 38 = .ok (.ixor, 1) := by decide +kernel
theorem dL_cell_39 : decode cL_cell 39 = .ok (.ireturn, 1) := by decide +kernel
theorem dL_letter_0 : decode cL_letter 0 = .ok (.iload_n 0, 1) := by decide +kernel
theorem dL_letter_1 : decode cL_letter 1 = .ok (.ifCond .ne 8, 3) := by decide +kernel
theorem dL_letter_4 : decode cL_letter 4 = .ok (.bipush 112, 2) := by decide +kernel
theorem dL_letter_6 : decode cL_letter 6 = .ok (.goto 45, 3) := by decide +kernel
theorem dL_letter_9 : decode cL_letter 9 = .ok (.iload_n 0, 1) := by decide +kernel
theorem dL_letter_10 : decode cL_letter 10 = .ok (.iconst 1, 1) := by decide +kernel
theorem dL_letter_11 : decode cL_letter 11 = .ok (.if_icmp .ne 8, 3) := by decide +kernel
theorem dL_letter_14 : decode cL_letter 14 = .ok (.bipush 114, 2) := by decide +kernel
theorem dL_letter_16 : decode cL_letter 16 = .ok (.goto 35, 3) := by decide +kernel
theorem dL_letter_19 : decode cL_letter 19 = .ok (.iload_n 0, 1) := by decide +kernel
theorem dL_letter_20 : decode cL_letter 20 = .ok (.iconst 2, 1) := by decide +kernel
theorem dL_letter_21 : decode cL_letter 21 = .ok (.if_icmp .ne 8, 3) := by decide +kernel
theorem dL_letter_24 : decode cL_letter 24 = .ok (.bipush 108, 2) := by decide +kernel
theorem dL_letter_26 : decode cL_letter 26 = .ok (.goto 25, 3) := by decide +kernel
theorem dL_letter_29 : decode cL_letter 29 = .ok (.iload_n 0, 1) := by decide +kernel
theorem dL_letter_30 : decode cL_letter 30 = .ok (.iconst 3, 1) := by decide +kernel
theorem dL_letter_31 : decode cL_letter 31 = .ok (.if_icmp .ne 8, 3) := by decide +kernel
theorem dL_letter_34 : decode cL_letter 34 = .ok (.bipush 115, 2) := by decide +kernel
theorem dL_letter_36 : decode cL_letter 36 = .ok (.goto 15, 3) := by decide +kernel
theorem dL_letter_39 : decode cL_letter 39 = .ok (.iload_n 0, 1) := by decide +kernel
theorem dL_letter_40 : decode cL_letter 40 = .ok (.iconst 4, 1) := by decide +kernel
theorem dL_letter_41 : decode cL_letter 41 = .ok (.if_icmp .ne 8, 3) := by decide +kernel
theorem dL_letter_44 : decode cL_letter 44 = .ok (.bipush 100, 2) := by decide +kernel
theorem dL_letter_46 : decode cL_letter 46 = .ok (.goto 5, 3) := by decide +kernel
theorem dL_letter_49 : decode cL_letter 49 = .ok (.bipush 107, 2) := by decide +kernel
theorem dL_letter_51 : decode cL_letter 51 = .ok (.ireturn, 1) := by decide +kernel
theorem dL_byte0_0 : decode cL_byte0 0 = .ok (.aload_n 0, 1) := by decide +kernel
theorem dL_byte0_1 : decode cL_byte0 1 = .ok (.iconst 3, 1) := by decide +kernel
theorem dL_byte0_2 : decode cL_byte0 2 = .ok (.iload_n 1, 1) := by decide +kernel
theorem dL_byte0_3 : decode cL_byte0 3 = .ok (.iload_n 2, 1) := by decide +kernel
theorem dL_byte0_4 : decode cL_byte0 4 = .ok (.invokevirtual 9, 3) := by decide +kernel
theorem dL_byte0_7 : decode cL_byte0 7 = .ok (.sipush 1032, 3) := by decide +kernel
theorem dL_byte0_10 : decode cL_byte0 10 = .ok (.if_icmp .ne 9, 3) := by decide +kernel
theorem dL_byte0_13 : decode cL_byte0 13 = .ok (.iload_n 1, 1) := by decide +kernel
theorem dL_byte0_14 : decode cL_byte0 14 = .ok (.iconst 1, 1) := by decide +kernel
theorem dL_byte0_15 : decode cL_byte0 15 = .ok (.iadd, 1) := by decide +kernel
theorem dL_byte0_16 : decode cL_byte0 16 = .ok (.goto 6, 3) := by decide +kernel
theorem dL_byte0_19 : decode cL_byte0 19 = .ok (.sipush (-1000), 3) := by decide +kernel
theorem dL_byte0_22 : decode cL_byte0 22 = .ok (.ireturn, 1) := by decide +kernel
theorem dL_tells_0 : decode cL_tells 0 = .ok (.iconst 0, 1) := by decide +kernel
theorem dL_tells_1 : decode cL_tells 1 = .ok (.istore 6, 2) := by decide +kernel
theorem dL_tells_3 : decode cL_tells 3 = .ok (.iload 6, 2) := by decide +kernel
theorem dL_tells_5 : decode cL_tells 5 = .ok (.bipush 24, 2) := by decide +kernel
theorem dL_tells_7 : decode cL_tells 7 = .ok (.if_icmp .ge 14, 3) := by decide +kernel
theorem dL_tells_10 : decode cL_tells 10 = .ok (.aload_n 2, 1) := by decide +kernel
theorem dL_tells_11 : decode cL_tells 11 = .ok (.iload 6, 2) := by decide +kernel
theorem dL_tells_13 : decode cL_tells 13 = .ok (.iconst 0, 1) := by decide +kernel
theorem dL_tells_14 : decode cL_tells 14 = .ok (.iastore, 1) := by decide +kernel
theorem dL_tells_15 : decode cL_tells 15 = .ok (.iinc 6 1, 3) := by decide +kernel
theorem dL_tells_18 : decode cL_tells 18 = .ok (.goto (-15), 3) := by decide +kernel
theorem dL_tells_21 : decode cL_tells 21 = .ok (.iconst 0, 1) := by decide +kernel
theorem dL_tells_22 : decode cL_tells 22 = .ok (.istore 6, 2) := by decide +kernel
theorem dL_tells_24 : decode cL_tells 24 = .ok (.iload 6, 2) := by decide +kernel
theorem dL_tells_26 : decode cL_tells 26 = .ok (.bipush 12, 2) := by decide +kernel
theorem dL_tells_28 : decode cL_tells 28 = .ok (.if_icmp .ge 32, 3) := by decide +kernel
theorem dL_tells_31 : decode cL_tells 31 = .ok (.aload_n 3, 1) := by decide +kernel
theorem dL_tells_32 : decode cL_tells 32 = .ok (.iload 6, 2) := by decide +kernel
theorem dL_tells_34 : decode cL_tells 34 = .ok (.iload 6, 2) := by decide +kernel
theorem dL_tells_36 : decode cL_tells 36 = .ok (.iconst 4, 1) := by decide +kernel
theorem dL_tells_37 : decode cL_tells 37 = .ok (.if_icmp .le 15, 3) := by decide +kernel
theorem dL_tells_40 : decode cL_tells 40 = .ok (.iload 6, 2) := by decide +kernel
theorem dL_tells_42 : decode cL_tells 42 = .ok (.bipush 10, 2) := by decide +kernel
theorem dL_tells_44 : decode cL_tells 44 = .ok (.if_icmp .ge 8, 3) := by decide +kernel
theorem dL_tells_47 : decode cL_tells 47 = .ok (.bipush (-9), 2) := by decide +kernel
theorem dL_tells_49 : decode cL_tells 49 = .ok (.goto 4, 3) := by decide +kernel
theorem dL_tells_52 : decode cL_tells 52 = .ok (.iconst 0, 1) := by decide +kernel
theorem dL_tells_53 : decode cL_tells 53 = .ok (.iastore, 1) := by decide +kernel
theorem dL_tells_54 : decode cL_tells 54 = .ok (.iinc 6 1, 3) := by decide +kernel
theorem dL_tells_57 : decode cL_tells 57 = .ok (.goto (-33), 3) := by decide +kernel
theorem dL_tells_60 : decode cL_tells 60 = .ok (.aload_n 1, 1) := by decide +kernel
theorem dL_tells_61 : decode cL_tells 61 = .ok (.iconst 0, 1) := by decide +kernel
theorem dL_tells_62 : decode cL_tells 62 = .ok (.invokestatic 15, 3) := by decide +kernel
theorem dL_tells_65 : decode cL_tells 65 = .ok (.istore 6, 2) := by decide +kernel
theorem dL_tells_67 : decode cL_tells 67 = .ok (.aload_n 2, 1) := by decide +kernel
theorem dL_tells_68 : decode cL_tells 68 = .ok (.iconst 0, 1) := by decide +kernel
theorem dL_tells_69 : decode cL_tells 69 = .ok (.iconst 1, 1) := by decide +kernel
theorem dL_tells_70 : decode cL_tells 70 = .ok (.iload 6, 2) := by decide +kernel
theorem dL_tells_72 : decode cL_tells 72 = .ok (.iload 4, 2) := by decide +kernel
theorem dL_tells_74 : decode cL_tells 74 = .ok (.invokestatic 21, 3) := by decide +kernel
theorem dL_tells_77 : decode cL_tells 77 = .ok (.iadd, 1) := by decide +kernel
theorem dL_tells_78 : decode cL_tells 78 = .ok (.iastore, 1) := by decide +kernel
theorem dL_tells_79 : decode cL_tells 79 = .ok (.aload_n 2, 1) := by decide +kernel
theorem dL_tells_80 : decode cL_tells 80 = .ok (.iconst 1, 1) := by decide +kernel
theorem dL_tells_81 : decode cL_tells 81 = .ok (.iconst 1, 1) := by decide +kernel
theorem dL_tells_82 : decode cL_tells 82 = .ok (.iload 6, 2) := by decide +kernel
theorem dL_tells_84 : decode cL_tells 84 = .ok (.iconst 3, 1) := by decide +kernel
theorem dL_tells_85 : decode cL_tells 85 = .ok (.ishr, 1) := by decide +kernel
theorem dL_tells_86 : decode cL_tells 86 = .ok (.iload 5, 2) := by decide +kernel
theorem dL_tells_88 : decode cL_tells 88 = .ok (.invokestatic 21, 3) := by decide +kernel
theorem dL_tells_91 : decode cL_tells 91 = .ok (.iadd, 1) := by decide +kernel
theorem dL_tells_92 : decode cL_tells 92 = .ok (.iastore, 1) := by decide +kernel
theorem dL_tells_93 : decode cL_tells 93 = .ok (.aload_n 0, 1) := by decide +kernel
theorem dL_tells_94 : decode cL_tells 94 = .ok (.iconst 3, 1) := by decide +kernel
theorem dL_tells_95 : decode cL_tells 95 = .ok (.bipush 60, 2) := by decide +kernel
theorem dL_tells_97 : decode cL_tells 97 = .ok (.invokevirtual 25, 3) := by decide +kernel
theorem dL_tells_100 : decode cL_tells 100 = .ok (.bipush 60, 2) := by decide +kernel
theorem dL_tells_102 : decode cL_tells 102 = .ok (.if_icmp .eq 5, 3) := by decide +kernel
theorem dL_tells_105 : decode cL_tells 105 = .ok (.iconst 0, 1) := by decide +kernel
theorem dL_tells_106 : decode cL_tells 106 = .ok (.ireturn, 1) := by decide +kernel
theorem dL_tells_107 : decode cL_tells 107 = .ok (.iload 6, 2) := by decide +kernel
theorem dL_tells_109 : decode cL_tells 109 = .ok (.bipush 6, 2) := by decide +kernel
theorem dL_tells_111 : decode cL_tells 111 = .ok (.ishr, 1) := by decide +kernel
theorem dL_tells_112 : decode cL_tells 112 = .ok (.iconst 3, 1) := by decide +kernel
theorem dL_tells_113 : decode cL_tells 113 = .ok (.invokestatic 21, 3) := by decide +kernel
theorem dL_tells_116 : decode cL_tells 116 = .ok (.istore 7, 2) := by decide +kernel
theorem dL_tells_118 : decode cL_tells 118 = .ok (.iconst 0, 1) := by decide +kernel
theorem dL_tells_119 : decode cL_tells 119 = .ok (.istore 8, 2) := by decide +kernel
theorem dL_tells_121 : decode cL_tells 121 = .ok (.iload 8, 2) := by decide +kernel
theorem dL_tells_123 : decode cL_tells 123 = .ok (.aload_n 2, 1) := by decide +kernel
theorem dL_tells_124 : decode cL_tells 124 = .ok (.iconst 0, 1) := by decide +kernel
theorem dL_tells_125 : decode cL_tells 125 = .ok (.iaload, 1) := by decide +kernel
theorem dL_tells_126 : decode cL_tells 126 = .ok (.if_icmp .ge 183, 3) := by decide +kernel
theorem dL_tells_129 : decode cL_tells 129 = .ok (.aload_n 1, 1) := by decide +kernel
theorem dL_tells_130 : decode cL_tells 130 = .ok (.iconst 1, 1) := by decide +kernel
theorem dL_tells_131 : decode cL_tells 131 = .ok (.iload 8, 2) := by decide +kernel
theorem dL_tells_133 : decode cL_tells 133 = .ok (.iadd, 1) := by decide +kernel
theorem dL_tells_134 : decode cL_tells 134 = .ok (.invokestatic 15, 3) := by decide +kernel
theorem dL_tells_137 : decode cL_tells 137 = .ok (.istore 6, 2) := by decide +kernel
theorem dL_tells_139 : decode cL_tells 139 = .ok (.aload_n 2, 1) := by decide +kernel
theorem dL_tells_140 : decode cL_tells 140 = .ok (.iconst 2, 1) := by decide +kernel
theorem dL_tells_141 : decode cL_tells 141 = .ok (.iload 8, 2) := by decide +kernel
theorem dL_tells_143 : decode cL_tells 143 = .ok (.iadd, 1) := by decide +kernel
theorem dL_tells_144 : decode cL_tells 144 = .ok (.iload 6, 2) := by decide +kernel
theorem dL_tells_146 : decode cL_tells 146 = .ok (.bipush 6, 2) := by decide +kernel
theorem dL_tells_148 : decode cL_tells 148 = .ok (.invokestatic 21, 3) := by decide +kernel
theorem dL_tells_151 : decode cL_tells 151 = .ok (.iastore, 1) := by decide +kernel
theorem dL_tells_152 : decode cL_tells 152 = .ok (.aload_n 2, 1) := by decide +kernel
theorem dL_tells_153 : decode cL_tells 153 = .ok (.bipush 6, 2) := by decide +kernel
theorem dL_tells_155 : decode cL_tells 155 = .ok (.iload 8, 2) := by decide +kernel
theorem dL_tells_157 : decode cL_tells 157 = .ok (.iadd, 1) := by decide +kernel
theorem dL_tells_158 : decode cL_tells 158 = .ok (.iconst 1, 1) := by decide +kernel
theorem dL_tells_159 : decode cL_tells 159 = .ok (.iload 6, 2) := by decide +kernel
theorem dL_tells_161 : decode cL_tells 161 = .ok (.iconst 3, 1) := by decide +kernel
theorem dL_tells_162 : decode cL_tells 162 = .ok (.ishr, 1) := by decide +kernel
theorem dL_tells_163 : decode cL_tells 163 = .ok (.bipush 9, 2) := by decide +kernel
theorem dL_tells_165 : decode cL_tells 165 = .ok (.invokestatic 21, 3) := by decide +kernel
theorem dL_tells_168 : decode cL_tells 168 = .ok (.iadd, 1) := by decide +kernel
theorem dL_tells_169 : decode cL_tells 169 = .ok (.iastore, 1) := by decide +kernel
theorem dL_tells_170 : decode cL_tells 170 = .ok (.aload_n 2, 1) := by decide +kernel
theorem dL_tells_171 : decode cL_tells 171 = .ok (.bipush 10, 2) := by decide +kernel
theorem dL_tells_173 : decode cL_tells 173 = .ok (.iload 8, 2) := by decide +kernel
theorem dL_tells_175 : decode cL_tells 175 = .ok (.iadd, 1) := by decide +kernel
theorem dL_tells_176 : decode cL_tells 176 = .ok (.iload 6, 2) := by decide +kernel
theorem dL_tells_178 : decode cL_tells 178 = .ok (.bipush 7, 2) := by decide +kernel
theorem dL_tells_180 : decode cL_tells 180 = .ok (.ishr, 1) := by decide +kernel
theorem dL_tells_181 : decode cL_tells 181 = .ok (.iload 6, 2) := by decide +kernel
theorem dL_tells_183 : decode cL_tells 183 = .ok (.bipush 20, 2) := by decide +kernel
theorem dL_tells_185 : decode cL_tells 185 = .ok (.ishr, 1) := by decide +kernel
theorem dL_tells_186 : decode cL_tells 186 = .ok (.iconst 2, 1) := by decide +kernel
theorem dL_tells_187 : decode cL_tells 187 = .ok (.invokestatic 21, 3) := by decide +kernel
theorem dL_tells_190 : decode cL_tells 190 = .ok (.ifCond .ne 8, 3) := by decide +kernel
theorem dL_tells_193 : decode cL_tells 193 = .ok (.bipush 61, 2) := by decide +kernel
theorem dL_tells_195 : decode cL_tells 195 = .ok (.goto 5, 3) := by decide +kernel
theorem dL_tells_198 : decode cL_tells 198 = .ok (.bipush 25, 2) := by decide +kernel
theorem dL_tells_200 : decode cL_tells 200 = .ok (.invokestatic 21, 3) := by decide +kernel
theorem dL_tells_203 : decode cL_tells 203 = .ok (.iastore, 1) := by decide +kernel
theorem dL_tells_204 : decode cL_tells 204 = .ok (.aload_n 0, 1) := by decide +kernel
theorem dL_tells_205 : decode cL_tells 205 = .ok (.iload 7, 2) := by decide +kernel
theorem dL_tells_207 : decode cL_tells 207 = .ok (.aload_n 2, 1) := by decide +kernel
theorem dL_tells_208 : decode cL_tells 208 = .ok (.iconst 2, 1) := by decide +kernel
theorem dL_tells_209 : decode cL_tells 209 = .ok (.iload 8, 2) := by decide +kernel
theorem dL_tells_211 : decode cL_tells 211 = .ok (.iadd, 1) := by decide +kernel
theorem dL_tells_212 : decode cL_tells 212 = .ok (.iaload, 1) := by decide +kernel
theorem dL_tells_213 : decode cL_tells 213 = .ok (.invokestatic 28, 3) := by decide +kernel
theorem dL_tells_216 : decode cL_tells 216 = .ok (.invokestatic 32, 3) := by decide +kernel
theorem dL_tells_219 : decode cL_tells 219 = .ok (.istore 7, 2) := by decide +kernel
theorem dL_tells_221 : decode cL_tells 221 = .ok (.aload_n 0, 1) := by decide +kernel
theorem dL_tells_222 : decode cL_tells 222 = .ok (.iload 7, 2) := by decide +kernel
theorem dL_tells_224 : decode cL_tells 224 = .ok (.bipush 48, 2) := by decide +kernel
theorem dL_tells_226 : decode cL_tells 226 = .ok (.aload_n 2, 1) := by decide +kernel
theorem dL_tells_227 : decode cL_tells 227 = .ok (.bipush 6, 2) := by decide +kernel
theorem dL_tells_229 : decode cL_tells 229 = .ok (.iload 8, 2) := by decide +kernel
theorem dL_tells_231 : decode cL_tells 231 = .ok (.iadd, 1) := by decide +kernel
theorem dL_tells_232 : decode cL_tells 232 = .ok (.iaload, 1) := by decide +kernel
theorem dL_tells_233 : decode cL_tells 233 = .ok (.iadd, 1) := by decide +kernel
theorem dL_tells_234 : decode cL_tells 234 = .ok (.invokestatic 32, 3) := by decide +kernel
theorem dL_tells_237 : decode cL_tells 237 = .ok (.istore 7, 2) := by decide +kernel
theorem dL_tells_239 : decode cL_tells 239 = .ok (.aload_n 0, 1) := by decide +kernel
theorem dL_tells_240 : decode cL_tells 240 = .ok (.iload 7, 2) := by decide +kernel
theorem dL_tells_242 : decode cL_tells 242 = .ok (.bipush 48, 2) := by decide +kernel
theorem dL_tells_244 : decode cL_tells 244 = .ok (.aload_n 2, 1) := by decide +kernel
theorem dL_tells_245 : decode cL_tells 245 = .ok (.bipush 10, 2) := by decide +kernel
theorem dL_tells_247 : decode cL_tells 247 = .ok (.iload 8, 2) := by decide +kernel
theorem dL_tells_249 : decode cL_tells 249 = .ok (.iadd, 1) := by decide +kernel
theorem dL_tells_250 : decode cL_tells 250 = .ok (.iaload, 1) := by decide +kernel
theorem dL_tells_251 : decode cL_tells 251 = .ok (.bipush 10, 2) := by decide +kernel
theorem dL_tells_253 : decode cL_tells 253 = .ok (.idiv, 1) := by decide +kernel
theorem dL_tells_254 : decode cL_tells 254 = .ok (.iadd, 1) := by decide +kernel
theorem dL_tells_255 : decode cL_tells 255 = .ok (.invokestatic 32, 3) := by decide +kernel
theorem dL_tells_258 : decode cL_tells 258 = .ok (.istore 7, 2) := by decide +kernel
theorem dL_tells_260 : decode cL_tells 260 = .ok (.aload_n 0, 1) := by decide +kernel
theorem dL_tells_261 : decode cL_tells 261 = .ok (.iload 7, 2) := by decide +kernel
theorem dL_tells_263 : decode cL_tells 263 = .ok (.bipush 48, 2) := by decide +kernel
theorem dL_tells_265 : decode cL_tells 265 = .ok (.aload_n 2, 1) := by decide +kernel
theorem dL_tells_266 : decode cL_tells 266 = .ok (.bipush 10, 2) := by decide +kernel
theorem dL_tells_268 : decode cL_tells 268 = .ok (.iload 8, 2) := by decide +kernel
theorem dL_tells_270 : decode cL_tells 270 = .ok (.iadd, 1) := by decide +kernel
theorem dL_tells_271 : decode cL_tells 271 = .ok (.iaload, 1) := by decide +kernel
theorem dL_tells_272 : decode cL_tells 272 = .ok (.bipush 10, 2) := by decide +kernel
theorem dL_tells_274 : decode cL_tells 274 = .ok (.irem, 1) := by decide +kernel
theorem dL_tells_275 : decode cL_tells 275 = .ok (.iadd, 1) := by decide +kernel
theorem dL_tells_276 : decode cL_tells 276 = .ok (.invokestatic 32, 3) := by decide +kernel
theorem dL_tells_279 : decode cL_tells 279 = .ok (.istore 7, 2) := by decide +kernel
theorem dL_tells_281 : decode cL_tells 281 = .ok (.iload 7, 2) := by decide +kernel
theorem dL_tells_283 : decode cL_tells 283 = .ok (.iload 6, 2) := by decide +kernel
theorem dL_tells_285 : decode cL_tells 285 = .ok (.bipush 24, 2) := by decide +kernel
theorem dL_tells_287 : decode cL_tells 287 = .ok (.ishr, 1) := by decide +kernel
theorem dL_tells_288 : decode cL_tells 288 = .ok (.iconst 3, 1) := by decide +kernel
theorem dL_tells_289 : decode cL_tells 289 = .ok (.invokestatic 21, 3) := by decide +kernel
theorem dL_tells_292 : decode cL_tells 292 = .ok (.ifCond .ne 7, 3) := by decide +kernel
theorem dL_tells_295 : decode cL_tells 295 = .ok (.iconst 2, 1) := by decide +kernel
theorem dL_tells_296 : decode cL_tells 296 = .ok (.goto 4, 3) := by decide +kernel
theorem dL_tells_299 : decode cL_tells 299 = .ok (.iconst 0, 1) := by decide +kernel
theorem dL_tells_300 : decode cL_tells 300 = .ok (.iadd, 1) := by decide +kernel
theorem dL_tells_301 : decode cL_tells 301 = .ok (.istore 7, 2) := by decide +kernel
theorem dL_tells_303 : decode cL_tells 303 = .ok (.iinc 8 1, 3) := by decide +kernel
theorem dL_tells_306 : decode cL_tells 306 = .ok (.goto (-185), 3) := by decide +kernel
theorem dL_tells_309 : decode cL_tells 309 = .ok (.iconst 0, 1) := by decide +kernel
theorem dL_tells_310 : decode cL_tells 310 = .ok (.istore 8, 2) := by decide +kernel
theorem dL_tells_312 : decode cL_tells 312 = .ok (.iload 8, 2) := by decide +kernel
theorem dL_tells_314 : decode cL_tells 314 = .ok (.aload_n 2, 1) := by decide +kernel
theorem dL_tells_315 : decode cL_tells 315 = .ok (.iconst 1, 1) := by decide +kernel
theorem dL_tells_316 : decode cL_tells 316 = .ok (.iaload, 1) := by decide +kernel
theorem dL_tells_317 : decode cL_tells 317 = .ok (.if_icmp .ge 119, 3) := by decide +kernel
theorem dL_tells_320 : decode cL_tells 320 = .ok (.aload_n 1, 1) := by decide +kernel
theorem dL_tells_321 : decode cL_tells 321 = .ok (.iconst 5, 1) := by decide +kernel
theorem dL_tells_322 : decode cL_tells 322 = .ok (.iload 8, 2) := by decide +kernel
theorem dL_tells_324 : decode cL_tells 324 = .ok (.iadd, 1) := by decide +kernel
theorem dL_tells_325 : decode cL_tells 325 = .ok (.invokestatic 15, 3) := by decide +kernel
theorem dL_tells_328 : decode cL_tells 328 = .ok (.istore 6, 2) := by decide +kernel
theorem dL_tells_330 : decode cL_tells 330 = .ok (.aload_n 2, 1) := by decide +kernel
theorem dL_tells_331 : decode cL_tells 331 = .ok (.bipush 14, 2) := by decide +kernel
theorem dL_tells_333 : decode cL_tells 333 = .ok (.iload 8, 2) := by decide +kernel
theorem dL_tells_335 : decode cL_tells 335 = .ok (.iadd, 1) := by decide +kernel
theorem dL_tells_336 : decode cL_tells 336 = .ok (.iconst 1, 1) := by decide +kernel
theorem dL_tells_337 : decode cL_tells 337 = .ok (.iload 6, 2) := by decide +kernel
theorem dL_tells_339 : decode cL_tells 339 = .ok (.bipush 9, 2) := by decide +kernel
theorem dL_tells_341 : decode cL_tells 341 = .ok (.invokestatic 21, 3) := by decide +kernel
theorem dL_tells_344 : decode cL_tells 344 = .ok (.iadd, 1) := by decide +kernel
theorem dL_tells_345 : decode cL_tells 345 = .ok (.iastore, 1) := by decide +kernel
theorem dL_tells_346 : decode cL_tells 346 = .ok (.aload_n 2, 1) := by decide +kernel
theorem dL_tells_347 : decode cL_tells 347 = .ok (.bipush 19, 2) := by decide +kernel
theorem dL_tells_349 : decode cL_tells 349 = .ok (.iload 8, 2) := by decide +kernel
theorem dL_tells_351 : decode cL_tells 351 = .ok (.iadd, 1) := by decide +kernel
theorem dL_tells_352 : decode cL_tells 352 = .ok (.iload 6, 2) := by decide +kernel
theorem dL_tells_354 : decode cL_tells 354 = .ok (.iconst 4, 1) := by decide +kernel
theorem dL_tells_355 : decode cL_tells 355 = .ok (.ishr, 1) := by decide +kernel
theorem dL_tells_356 : decode cL_tells 356 = .ok (.bipush 10, 2) := by decide +kernel
theorem dL_tells_358 : decode cL_tells 358 = .ok (.invokestatic 21, 3) := by decide +kernel
theorem dL_tells_361 : decode cL_tells 361 = .ok (.iastore, 1) := by decide +kernel
theorem dL_tells_362 : decode cL_tells 362 = .ok (.aload_n 0, 1) := by decide +kernel
theorem dL_tells_363 : decode cL_tells 363 = .ok (.iload 7, 2) := by decide +kernel
theorem dL_tells_365 : decode cL_tells 365 = .ok (.bipush 109, 2) := by decide +kernel
theorem dL_tells_367 : decode cL_tells 367 = .ok (.invokestatic 32, 3) := by decide +kernel
theorem dL_tells_370 : decode cL_tells 370 = .ok (.istore 7, 2) := by decide +kernel
theorem dL_tells_372 : decode cL_tells 372 = .ok (.aload_n 0, 1) := by decide +kernel
theorem dL_tells_373 : decode cL_tells 373 = .ok (.iload 7, 2) := by decide +kernel
theorem dL_tells_375 : decode cL_tells 375 = .ok (.bipush 48, 2) := by decide +kernel
theorem dL_tells_377 : decode cL_tells 377 = .ok (.aload_n 2, 1) := by decide +kernel
theorem dL_tells_378 : decode cL_tells 378 = .ok (.bipush 14, 2) := by decide +kernel
theorem dL_tells_380 : decode cL_tells 380 = .ok (.iload 8, 2) := by decide +kernel
theorem dL_tells_382 : decode cL_tells 382 = .ok (.iadd, 1) := by decide +kernel
theorem dL_tells_383 : decode cL_tells 383 = .ok (.iaload, 1) := by decide +kernel
theorem dL_tells_384 : decode cL_tells 384 = .ok (.iadd, 1) := by decide +kernel
theorem dL_tells_385 : decode cL_tells 385 = .ok (.invokestatic 32, 3) := by decide +kernel
theorem dL_tells_388 : decode cL_tells 388 = .ok (.istore 7, 2) := by decide +kernel
theorem dL_tells_390 : decode cL_tells 390 = .ok (.aload_n 0, 1) := by decide +kernel
theorem dL_tells_391 : decode cL_tells 391 = .ok (.iload 7, 2) := by decide +kernel
theorem dL_tells_393 : decode cL_tells 393 = .ok (.bipush 48, 2) := by decide +kernel
theorem dL_tells_395 : decode cL_tells 395 = .ok (.aload_n 2, 1) := by decide +kernel
theorem dL_tells_396 : decode cL_tells 396 = .ok (.bipush 19, 2) := by decide +kernel
theorem dL_tells_398 : decode cL_tells 398 = .ok (.iload 8, 2) := by decide +kernel
theorem dL_tells_400 : decode cL_tells 400 = .ok (.iadd, 1) := by decide +kernel
theorem dL_tells_401 : decode cL_tells 401 = .ok (.iaload, 1) := by decide +kernel
theorem dL_tells_402 : decode cL_tells 402 = .ok (.iadd, 1) := by decide +kernel
theorem dL_tells_403 : decode cL_tells 403 = .ok (.invokestatic 32, 3) := by decide +kernel
theorem dL_tells_406 : decode cL_tells 406 = .ok (.istore 7, 2) := by decide +kernel
theorem dL_tells_408 : decode cL_tells 408 = .ok (.iload 7, 2) := by decide +kernel
theorem dL_tells_410 : decode cL_tells 410 = .ok (.iload 6, 2) := by decide +kernel
theorem dL_tells_412 : decode cL_tells 412 = .ok (.bipush 24, 2) := by decide +kernel
theorem dL_tells_414 : decode cL_tells 414 = .ok (.ishr, 1) := by decide +kernel
theorem dL_tells_415 : decode cL_tells 415 = .ok (.iconst 3, 1) := by decide +kernel
theorem dL_tells_416 : decode cL_tells 416 = .ok (.invokestatic 21, 3) := by decide +kernel
theorem dL_tells_419 : decode cL_tells 419 = .ok (.ifCond .ne 7, 3) := by decide +kernel
theorem dL_tells_422 : decode cL_tells 422 = .ok (.iconst 2, 1) := by decide +kernel
theorem dL_tells_423 : decode cL_tells 423 = .ok (.goto 4, 3) := by decide +kernel
theorem dL_tells_426 : decode cL_tells 426 = .ok (.iconst 0, 1) := by decide +kernel
theorem dL_tells_427 : decode cL_tells 427 = .ok (.iadd, 1) := by decide +kernel
theorem dL_tells_428 : decode cL_tells 428 = .ok (.istore 7, 2) := by decide +kernel
theorem dL_tells_430 : decode cL_tells 430 = .ok (.iinc 8 1, 3) := by decide +kernel
theorem dL_tells_433 : decode cL_tells 433 = .ok (.goto (-121), 3) := by decide +kernel
theorem dL_tells_436 : decode cL_tells 436 = .ok (.iload 7, 2) := by decide +kernel
theorem dL_tells_438 : decode cL_tells 438 = .ok (.ifCond .le 100, 3) := by decide +kernel
theorem dL_tells_441 : decode cL_tells 441 = .ok (.aload_n 0, 1) := by decide +kernel
theorem dL_tells_442 : decode cL_tells 442 = .ok (.iconst 3, 1) := by decide +kernel
theorem dL_tells_443 : decode cL_tells 443 = .ok (.invokevirtual 36, 3) := by decide +kernel
theorem dL_tells_446 : decode cL_tells 446 = .ok (.bipush (-9), 2) := by decide +kernel
theorem dL_tells_448 : decode cL_tells 448 = .ok (.if_icmp .ne 90, 3) := by decide +kernel
theorem dL_tells_451 : decode cL_tells 451 = .ok (.aload_n 0, 1) := by decide +kernel
theorem dL_tells_452 : decode cL_tells 452 = .ok (.iconst 3, 1) := by decide +kernel
theorem dL_tells_453 : decode cL_tells 453 = .ok (.invokevirtual 39, 3) := by decide +kernel
theorem dL_tells_456 : decode cL_tells 456 = .ok (.aload_n 2, 1) := by decide +kernel
theorem dL_tells_457 : decode cL_tells 457 = .ok (.iconst 0, 1) := by decide +kernel
theorem dL_tells_458 : decode cL_tells 458 = .ok (.iaload, 1) := by decide +kernel
theorem dL_tells_459 : decode cL_tells 459 = .ok (.if_icmp .ne 79, 3) := by decide +kernel
theorem dL_tells_462 : decode cL_tells 462 = .ok (.aload_n 0, 1) := by decide +kernel
theorem dL_tells_463 : decode cL_tells 463 = .ok (.iconst 0, 1) := by decide +kernel
theorem dL_tells_464 : decode cL_tells 464 = .ok (.invokevirtual 42, 3) := by decide +kernel
theorem dL_tells_467 : decode cL_tells 467 = .ok (.aload_n 2, 1) := by decide +kernel
theorem dL_tells_468 : decode cL_tells 468 = .ok (.iconst 0, 1) := by decide +kernel
theorem dL_tells_469 : decode cL_tells 469 = .ok (.iaload, 1) := by decide +kernel
theorem dL_tells_470 : decode cL_tells 470 = .ok (.if_icmp .ne 68, 3) := by decide +kernel
theorem dL_tells_473 : decode cL_tells 473 = .ok (.aload_n 0, 1) := by decide +kernel
theorem dL_tells_474 : decode cL_tells 474 = .ok (.iconst 1, 1) := by decide +kernel
theorem dL_tells_475 : decode cL_tells 475 = .ok (.invokevirtual 42, 3) := by decide +kernel
theorem dL_tells_478 : decode cL_tells 478 = .ok (.aload_n 2, 1) := by decide +kernel
theorem dL_tells_479 : decode cL_tells 479 = .ok (.iconst 1, 1) := by decide +kernel
theorem dL_tells_480 : decode cL_tells 480 = .ok (.iaload, 1) := by decide +kernel
theorem dL_tells_481 : decode cL_tells 481 = .ok (.if_icmp .ne 57, 3) := by decide +kernel
theorem dL_tells_484 : decode cL_tells 484 = .ok (.aload_n 0, 1) := by decide +kernel
theorem dL_tells_485 : decode cL_tells 485 = .ok (.iconst 2, 1) := by decide +kernel
theorem dL_tells_486 : decode cL_tells 486 = .ok (.invokevirtual 42, 3) := by decide +kernel
theorem dL_tells_489 : decode cL_tells 489 = .ok (.ifCond .ne 49, 3) := by decide +kernel
theorem dL_tells_492 : decode cL_tells 492 = .ok (.aload_n 0, 1) := by decide +kernel
theorem dL_tells_493 : decode cL_tells 493 = .ok (.iconst 3, 1) := by decide +kernel
theorem dL_tells_494 : decode cL_tells 494 = .ok (.invokevirtual 42, 3) := by decide +kernel
theorem dL_tells_497 : decode cL_tells 497 = .ok (.ifCond .ne 41, 3) := by decide +kernel
theorem dL_tells_500 : decode cL_tells 500 = .ok (.aload_n 0, 1) := by decide +kernel
theorem dL_tells_501 : decode cL_tells 501 = .ok (.iconst 4, 1) := by decide +kernel
theorem dL_tells_502 : decode cL_tells 502 = .ok (.invokevirtual 42, 3) := by decide +kernel
theorem dL_tells_505 : decode cL_tells 505 = .ok (.ifCond .ne 33, 3) := by decide +kernel
theorem dL_tells_508 : decode cL_tells 508 = .ok (.aload_n 0, 1) := by decide +kernel
theorem dL_tells_509 : decode cL_tells 509 = .ok (.iconst 5, 1) := by decide +kernel
theorem dL_tells_510 : decode cL_tells 510 = .ok (.invokevirtual 42, 3) := by decide +kernel
theorem dL_tells_513 : decode cL_tells 513 = .ok (.ifCond .ne 25, 3) := by decide +kernel
theorem dL_tells_516 : decode cL_tells 516 = .ok (.aload_n 0, 1) := by decide +kernel
theorem dL_tells_517 : decode cL_tells 517 = .ok (.bipush 7, 2) := by decide +kernel
theorem dL_tells_519 : decode cL_tells 519 = .ok (.invokevirtual 42, 3) := by decide +kernel
theorem dL_tells_522 : decode cL_tells 522 = .ok (.ifCond .ne 16, 3) := by decide +kernel
theorem dL_tells_525 : decode cL_tells 525 = .ok (.aload_n 0, 1) := by decide +kernel
theorem dL_tells_526 : decode cL_tells 526 = .ok (.bipush 10, 2) := by decide +kernel
theorem dL_tells_528 : decode cL_tells 528 = .ok (.invokevirtual 42, 3) := by decide +kernel
theorem dL_tells_531 : decode cL_tells 531 = .ok (.ifCond .ne 7, 3) := by decide +kernel
theorem dL_tells_534 : decode cL_tells 534 = .ok (.iconst 1, 1) := by decide +kernel
theorem dL_tells_535 : decode cL_tells 535 = .ok (.goto 4, 3) := by decide +kernel
theorem dL_tells_538 : decode cL_tells 538 = .ok (.iconst 0, 1) := by decide +kernel
theorem dL_tells_539 : decode cL_tells 539 = .ok (.ireturn, 1) := by decide +kernel
theorem dL_many_0 : decode cL_many 0 = .ok (.iconst 0, 1) := by decide +kernel
theorem dL_many_1 : decode cL_many 1 = .ok (.istore_n 1, 1) := by decide +kernel
theorem dL_many_2 : decode cL_many 2 = .ok (.iconst 0, 1) := by decide +kernel
theorem dL_many_3 : decode cL_many 3 = .ok (.istore_n 2, 1) := by decide +kernel
theorem dL_many_4 : decode cL_many 4 = .ok (.iload_n 2, 1) := by decide +kernel
theorem dL_many_5 : decode cL_many 5 = .ok (.bipush 6, 2) := by decide +kernel
theorem dL_many_7 : decode cL_many 7 = .ok (.if_icmp .ge 17, 3) := by decide +kernel
theorem dL_many_10 : decode cL_many 10 = .ok (.iload_n 1, 1) := by decide +kernel
theorem dL_many_11 : decode cL_many 11 = .ok (.iload_n 0, 1) := by decide +kernel
theorem dL_many_12 : decode cL_many 12 = .ok (.iload_n 2, 1) := by decide +kernel
theorem dL_many_13 : decode cL_many 13 = .ok (.ishr, 1) := by decide +kernel
theorem dL_many_14 : decode cL_many 14 = .ok (.iconst 1, 1) := by decide +kernel
theorem dL_many_15 : decode cL_many 15 = .ok (.iand, 1) := by decide +kernel
theorem dL_many_16 : decode cL_many 16 = .ok (.iadd, 1) := by decide +kernel
theorem dL_many_17 : decode cL_many 17 = .ok (.istore_n 1, 1) := by decide +kernel
theorem dL_many_18 : decode cL_many 18 = .ok (.iinc 2 1, 3) := by decide +kernel
theorem dL_many_21 : decode cL_many 21 = .ok (.goto (-17), 3) := by decide +kernel
theorem dL_many_24 : decode cL_many 24 = .ok (.iload_n 1, 1) := by decide +kernel
theorem dL_many_25 : decode cL_many 25 = .ok (.ireturn, 1) := by decide +kernel
theorem dL_law_0 : decode cL_law 0 = .ok (.new 10, 3) := by decide +kernel
theorem dL_law_3 : decode cL_law 3 = .ok (.dup, 1) := by decide +kernel
theorem dL_law_4 : decode cL_law 4 = .ok (.invokespecial 90, 3) := by decide +kernel
theorem dL_law_7 : decode cL_law 7 = .ok (.astore_n 1, 1) := by decide +kernel
theorem dL_law_8 : decode cL_law 8 = .ok (.bipush 24, 2) := by decide +kernel
theorem dL_law_10 : decode cL_law 10 = .ok (.newarray .int, 2) := by decide +kernel
theorem dL_law_12 : decode cL_law 12 = .ok (.astore_n 2, 1) := by decide +kernel
theorem dL_law_13 : decode cL_law 13 = .ok (.bipush 12, 2) := by decide +kernel
theorem dL_law_15 : decode cL_law 15 = .ok (.newarray .int, 2) := by decide +kernel
theorem dL_law_17 : decode cL_law 17 = .ok (.astore_n 3, 1) := by decide +kernel
theorem dL_law_18 : decode cL_law 18 = .ok (.aload_n 1, 1) := by decide +kernel
theorem dL_law_19 : decode cL_law 19 = .ok (.aload_n 0, 1) := by decide +kernel
theorem dL_law_20 : decode cL_law 20 = .ok (.aload_n 2, 1) := by decide +kernel
theorem dL_law_21 : decode cL_law 21 = .ok (.aload_n 3, 1) := by decide +kernel
theorem dL_law_22 : decode cL_law 22 = .ok (.iconst 4, 1) := by decide +kernel
theorem dL_law_23 : decode cL_law 23 = .ok (.iconst 5, 1) := by decide +kernel
theorem dL_law_24 : decode cL_law 24 = .ok (.invokestatic 91, 3) := by decide +kernel
theorem dL_law_27 : decode cL_law 27 = .ok (.ifCond .eq 11, 3) := by decide +kernel
theorem dL_law_30 : decode cL_law 30 = .ok (.aload_n 1, 1) := by decide +kernel
theorem dL_law_31 : decode cL_law 31 = .ok (.iconst 0, 1) := by decide +kernel
theorem dL_law_32 : decode cL_law 32 = .ok (.invokevirtual 95, 3) := by decide +kernel
theorem dL_law_35 : decode cL_law 35 = .ok (.ifCond .eq 5, 3) := by decide +kernel
theorem dL_law_38 : decode cL_law 38 = .ok (.iconst 0, 1) := by decide +kernel
theorem dL_law_39 : decode cL_law 39 = .ok (.ireturn, 1) := by decide +kernel
theorem dL_law_40 : decode cL_law 40 = .ok (.aload_n 2, 1) := by decide +kernel
theorem dL_law_41 : decode cL_law 41 = .ok (.iconst 0, 1) := by decide +kernel
theorem dL_law_42 : decode cL_law 42 = .ok (.iaload, 1) := by decide +kernel
theorem dL_law_43 : decode cL_law 43 = .ok (.istore 4, 2) := by decide +kernel
theorem dL_law_45 : decode cL_law 45 = .ok (.aload_n 2, 1) := by decide +kernel
theorem dL_law_46 : decode cL_law 46 = .ok (.iconst 1, 1) := by decide +kernel
theorem dL_law_47 : decode cL_law 47 = .ok (.iaload, 1) := by decide +kernel
theorem dL_law_48 : decode cL_law 48 = .ok (.istore 5, 2) := by decide +kernel
theorem dL_law_50 : decode cL_law 50 = .ok (.aload_n 0, 1) := by decide +kernel
theorem dL_law_51 : decode cL_law 51 = .ok (.bipush 10, 2) := by decide +kernel
theorem dL_law_53 : decode cL_law 53 = .ok (.invokestatic 15, 3) := by decide +kernel
theorem dL_law_56 : decode cL_law 56 = .ok (.bipush 22, 2) := by decide +kernel
theorem dL_law_58 : decode cL_law 58 = .ok (.invokestatic 21, 3) := by decide +kernel
theorem dL_law_61 : decode cL_law 61 = .ok (.istore 6, 2) := by decide +kernel
theorem dL_law_63 : decode cL_law 63 = .ok (.iconst 0, 1) := by decide +kernel
theorem dL_law_64 : decode cL_law 64 = .ok (.istore 7, 2) := by decide +kernel
theorem dL_law_66 : decode cL_law 66 = .ok (.iload 7, 2) := by decide +kernel
theorem dL_law_68 : decode cL_law 68 = .ok (.iload 6, 2) := by decide +kernel
theorem dL_law_70 : decode cL_law 70 = .ok (.if_icmp .ge 1077, 3) := by decide +kernel
theorem dL_law_73 : decode cL_law 73 = .ok (.aload_n 0, 1) := by decide +kernel
theorem dL_law_74 : decode cL_law 74 = .ok (.bipush 11, 2) := by decide +kernel
theorem dL_law_76 : decode cL_law 76 = .ok (.iload 7, 2) := by decide +kernel
theorem dL_law_78 : decode cL_law 78 = .ok (.iadd, 1) := by decide +kernel
theorem dL_law_79 : decode cL_law 79 = .ok (.invokestatic 15, 3) := by decide +kernel
theorem dL_law_82 : decode cL_law 82 = .ok (.istore 8, 2) := by decide +kernel
theorem dL_law_84 : decode cL_law 84 = .ok (.aload_n 1, 1) := by decide +kernel
theorem dL_law_85 : decode cL_law 85 = .ok (.iconst 2, 1) := by decide +kernel
theorem dL_law_86 : decode cL_law 86 = .ok (.invokevirtual 42, 3) := by decide +kernel
theorem dL_law_89 : decode cL_law 89 = .ok (.istore 9, 2) := by decide +kernel
theorem dL_law_91 : decode cL_law 91 = .ok (.aload_n 1, 1) := by decide +kernel
theorem dL_law_92 : decode cL_law 92 = .ok (.iconst 3, 1) := by decide +kernel
theorem dL_law_93 : decode cL_law 93 = .ok (.invokevirtual 42, 3) := by decide +kernel
theorem dL_law_96 : decode cL_law 96 = .ok (.istore 10, 2) := by decide +kernel
theorem dL_law_98 : decode cL_law 98 = .ok (.aload_n 1, 1) := by decide +kernel
theorem dL_law_99 : decode cL_law 99 = .ok (.iconst 4, 1) := by decide +kernel
theorem dL_law_100 : decode cL_law 100 = .ok (.invokevirtual 42, 3) := by decide +kernel
theorem dL_law_103 : decode cL_law 103 = .ok (.istore 11, 2) := by decide +kernel
theorem dL_law_105 : decode cL_law 105 = .ok (.aload_n 1, 1) := by decide +kernel
theorem dL_law_106 : decode cL_law 106 = .ok (.iconst 5, 1) := by decide +kernel
theorem dL_law_107 : decode cL_law 107 = .ok (.invokevirtual 42, 3) := by decide +kernel
theorem dL_law_110 : decode cL_law 110 = .ok (.istore 12, 2) := by decide +kernel
theorem dL_law_112 : decode cL_law 112 = .ok (.aload_n 1, 1) := by decide +kernel
theorem dL_law_113 : decode cL_law 113 = .ok (.bipush 6, 2) := by decide +kernel
theorem dL_law_115 : decode cL_law 115 = .ok (.invokevirtual 42, 3) := by decide +kernel
theorem dL_law_118 : decode cL_law 118 = .ok (.istore 13, 2) := by decide +kernel
theorem dL_law_120 : decode cL_law 120 = .ok (.aload_n 1, 1) := by decide +kernel
theorem dL_law_121 : decode cL_law 121 = .ok (.bipush 7, 2) := by decide +kernel
theorem dL_law_123 : decode cL_law 123 = .ok (.invokevirtual 42, 3) := by decide +kernel
theorem dL_law_126 : decode cL_law 126 = .ok (.istore 14, 2) := by decide +kernel
theorem dL_law_128 : decode cL_law 128 = .ok (.iload 8, 2) := by decide +kernel
theorem dL_law_130 : decode cL_law 130 = .ok (.iconst 4, 1) := by decide +kernel
theorem dL_law_131 : decode cL_law 131 = .ok (.ishr, 1) := by decide +kernel
theorem dL_law_132 : decode cL_law 132 = .ok (.iload 5, 2) := by decide +kernel
theorem dL_law_134 : decode cL_law 134 = .ok (.invokestatic 21, 3) := by decide +kernel
theorem dL_law_137 : decode cL_law 137 = .ok (.istore 15, 2) := by decide +kernel
theorem dL_law_139 : decode cL_law 139 = .ok (.iload 8, 2) := by decide +kernel
theorem dL_law_141 : decode cL_law 141 = .ok (.bipush 7, 2) := by decide +kernel
theorem dL_law_143 : decode cL_law 143 = .ok (.ishr, 1) := by decide +kernel
theorem dL_law_144 : decode cL_law 144 = .ok (.iload 4, 2) := by decide +kernel
theorem dL_law_146 : decode cL_law 146 = .ok (.invokestatic 21, 3) := by decide +kernel
theorem dL_law_149 : decode cL_law 149 = .ok (.istore 16, 2) := by decide +kernel
theorem dL_law_151 : decode cL_law 151 = .ok (.aload_n 1, 1) := by decide +kernel
theorem dL_law_152 : decode cL_law 152 = .ok (.aload_n 1, 1) := by decide +kernel
theorem dL_law_153 : decode cL_law 153 = .ok (.iload 15, 2) := by decide +kernel
theorem dL_law_155 : decode cL_law 155 = .ok (.iconst 2, 1) := by decide +kernel
theorem dL_law_156 : decode cL_law 156 = .ok (.invokevirtual 98, 3) := by decide +kernel
theorem dL_law_159 : decode cL_law 159 = .ok (.invokestatic 101, 3) := by decide +kernel
theorem dL_law_162 : decode cL_law 162 = .ok (.istore 17, 2) := by decide +kernel
theorem dL_law_164 : decode cL_law 164 = .ok (.aload_n 1, 1) := by decide +kernel
theorem dL_law_165 : decode cL_law 165 = .ok (.aload_n 1, 1) := by decide +kernel
theorem dL_law_166 : decode cL_law 166 = .ok (.iload 16, 2) := by decide +kernel
theorem dL_law_168 : decode cL_law 168 = .ok (.iconst 5, 1) := by decide +kernel
theorem dL_law_169 : decode cL_law 169 = .ok (.invokevirtual 105, 3) := by decide +kernel
theorem dL_law_172 : decode cL_law 172 = .ok (.invokestatic 101, 3) := by decide +kernel
theorem dL_law_175 : decode cL_law 175 = .ok (.istore 18, 2) := by decide +kernel
theorem dL_law_177 : decode cL_law 177 = .ok (.aload_n 1, 1) := by decide +kernel
theorem dL_law_178 : decode cL_law 178 = .ok (.aload_n 1, 1) := by decide +kernel
theorem dL_law_179 : decode cL_law 179 = .ok (.iload 16, 2) := by decide +kernel
theorem dL_law_181 : decode cL_law 181 = .ok (.iconst 3, 1) := by decide +kernel
theorem dL_law_182 : decode cL_law 182 = .ok (.invokevirtual 105, 3) := by decide +kernel
theorem dL_law_185 : decode cL_law 185 = .ok (.invokestatic 101, 3) := by decide +kernel
theorem dL_law_188 : decode cL_law 188 = .ok (.istore 19, 2) := by decide +kernel
theorem dL_law_190 : decode cL_law 190 = .ok (.iload 11, 2) := by decide +kernel
theorem dL_law_192 : decode cL_law 192 = .ok (.iload 16, 2) := by decide +kernel
theorem dL_law_194 : decode cL_law 194 = .ok (.ishr, 1) := by decide +kernel
theorem dL_law_195 : decode cL_law 195 = .ok (.iconst 1, 1) := by decide +kernel
theorem dL_law_196 : decode cL_law 196 = .ok (.iand, 1) := by decide +kernel
theorem dL_law_197 : decode cL_law 197 = .ok (.iconst 1, 1) := by decide +kernel
theorem dL_law_198 : decode cL_law 198 = .ok (.if_icmp .ne 7, 3) := by decide +kernel
theorem dL_law_201 : decode cL_law 201 = .ok (.iconst 1, 1) := by decide +kernel
theorem dL_law_202 : decode cL_law 202 = .ok (.goto 4, 3) := by decide +kernel
theorem dL_law_205 : decode cL_law 205 = .ok (.iconst 0, 1) := by decide +kernel
theorem dL_law_206 : decode cL_law 206 = .ok (.istore 20, 2) := by decide +kernel
theorem dL_law_208 : decode cL_law 208 = .ok (.aload_n 1, 1) := by decide +kernel
theorem dL_law_209 : decode cL_law 209 = .ok (.invokevirtual 108, 3) := by decide +kernel
theorem dL_law_212 : decode cL_law 212 = .ok (.istore 21, 2) := by decide +kernel
theorem dL_law_214 : decode cL_law 214 = .ok (.iload 8, 2) := by decide +kernel
theorem dL_law_216 : decode cL_law 216 = .ok (.bipush 12, 2) := by decide +kernel
theorem dL_law_218 : decode cL_law 218 = .ok (.invokestatic 21, 3) := by decide +kernel
theorem dL_law_221 : decode cL_law 221 = .ok (.istore 22, 2) := by decide +kernel
theorem dL_law_223 : decode cL_law 223 = .ok (.iconst 1, 1) := by decide +kernel
theorem dL_law_224 : decode cL_law 224 = .ok (.istore 23, 2) := by decide +kernel
theorem dL_law_226 : decode cL_law 226 = .ok (.iload 22, 2) := by decide +kernel
theorem dL_law_228 : decode cL_law 228 = .ok (.iconst 5, 1) := by decide +kernel
theorem dL_law_229 : decode cL_law 229 = .ok (.if_icmp .ge 176, 3) := by decide +kernel
theorem dL_law_232 : decode cL_law 232 = .ok (.aload_n 1, 1) := by decide +kernel
theorem dL_law_233 : decode cL_law 233 = .ok (.iload 15, 2) := by decide +kernel
theorem dL_law_235 : decode cL_law 235 = .ok (.iload 16, 2) := by decide +kernel
theorem dL_law_237 : decode cL_law 237 = .ok (.invokevirtual 68, 3) := by decide +kernel
theorem dL_law_240 : decode cL_law 240 = .ok (.istore 24, 2) := by decide +kernel
theorem dL_law_242 : decode cL_law 242 = .ok (.iload 17, 2) := by decide +kernel
theorem dL_law_244 : decode cL_law 244 = .ok (.ifCond .ge 12, 3) := by decide +kernel
theorem dL_law_247 : decode cL_law 247 = .ok (.iload 20, 2) := by decide +kernel
theorem dL_law_249 : decode cL_law 249 = .ok (.ifCond .ne 7, 3) := by decide +kernel
theorem dL_law_252 : decode cL_law 252 = .ok (.iconst 1, 1) := by decide +kernel
theorem dL_law_253 : decode cL_law 253 = .ok (.goto 4, 3) := by decide +kernel
theorem dL_law_256 : decode cL_law 256 = .ok (.iconst 0, 1) := by decide +kernel
theorem dL_law_257 : decode cL_law 257 = .ok (.istore 23, 2) := by decide +kernel
theorem dL_law_259 : decode cL_law 259 = .ok (.iload 23, 2) := by decide +kernel
theorem dL_law_261 : decode cL_law 261 = .ok (.ifCond .eq 17, 3) := by decide +kernel
theorem dL_law_264 : decode cL_law 264 = .ok (.aload_n 1, 1) := by decide +kernel
theorem dL_law_265 : decode cL_law 265 = .ok (.aload_n 1, 1) := by decide +kernel
theorem dL_law_266 : decode cL_law 266 = .ok (.iload 15, 2) := by decide +kernel
theorem dL_law_268 : decode cL_law 268 = .ok (.iconst 3, 1) := by decide +kernel
theorem dL_law_269 : decode cL_law 269 = .ok (.invokevirtual 98, 3) := by decide +kernel
theorem dL_law_272 : decode cL_law 272 = .ok (.invokestatic 101, 3) := by decide +kernel
theorem dL_law_275 : decode cL_law 275 = .ok (.goto 4, 3) := by decide +kernel
theorem dL_law_278 : decode cL_law 278 = .ok (.iconst 0, 1) := by decide +kernel
theorem dL_law_279 : decode cL_law 279 = .ok (.istore 25, 2) := by decide +kernel
theorem dL_law_281 : decode cL_law 281 = .ok (.iload 24, 2) := by decide +kernel
theorem dL_law_283 : decode cL_law 283 = .ok (.iload 23, 2) := by decide +kernel
theorem dL_law_285 : decode cL_law 285 = .ok (.ifCond .eq 21, 3) := by decide +kernel
theorem dL_law_288 : decode cL_law 288 = .ok (.iload 18, 2) := by decide +kernel
theorem dL_law_290 : decode cL_law 290 = .ok (.aload_n 2, 1) := by decide +kernel
theorem dL_law_291 : decode cL_law 291 = .ok (.bipush 14, 2) := by decide +kernel
theorem dL_law_293 : decode cL_law 293 = .ok (.iload 15, 2) := by decide +kernel
theorem dL_law_295 : decode cL_law 295 = .ok (.iadd, 1) := by decide +kernel
theorem dL_law_296 : decode cL_law 296 = .ok (.iaload, 1) := by decide +kernel
theorem dL_law_297 : decode cL_law 297 = .ok (.iadd, 1) := by decide +kernel
theorem dL_law_298 : decode cL_law 298 = .ok (.iload 25, 2) := by decide +kernel
theorem dL_law_300 : decode cL_law 300 = .ok (.iconst 2, 1) := by decide +kernel
theorem dL_law_301 : decode cL_law 301 = .ok (.idiv, 1) := by decide +kernel
theorem dL_law_302 : decode cL_law 302 = .ok (.iadd, 1) := by decide +kernel
theorem dL_law_303 : decode cL_law 303 = .ok (.goto 5, 3) := by decide +kernel
theorem dL_law_306 : decode cL_law 306 = .ok (.bipush (-4), 2) := by decide +kernel
theorem dL_law_308 : decode cL_law 308 = .ok (.if_icmp .ne 92, 3) := by decide +kernel
theorem dL_law_311 : decode cL_law 311 = .ok (.iload 23, 2) := by decide +kernel
theorem dL_law_313 : decode cL_law 313 = .ok (.ifCond .eq 89, 3) := by decide +kernel
theorem dL_law_316 : decode cL_law 316 = .ok (.iload 25, 2) := by decide +kernel
theorem dL_law_318 : decode cL_law 318 = .ok (.aload_n 2, 1) := by decide +kernel
theorem dL_law_319 : decode cL_law 319 = .ok (.bipush 19, 2) := by decide +kernel
theorem dL_law_321 : decode cL_law 321 = .ok (.iload 15, 2) := by decide +kernel
theorem dL_law_323 : decode cL_law 323 = .ok (.iadd, 1) := by decide +kernel
theorem dL_law_324 : decode cL_law 324 = .ok (.iaload, 1) := by decide +kernel
theorem dL_law_325 : decode cL_law 325 = .ok (.aload_n 2, 1) := by decide +kernel
theorem dL_law_326 : decode cL_law 326 = .ok (.bipush 6, 2) := by decide +kernel
theorem dL_law_328 : decode cL_law 328 = .ok (.iload 16, 2) := by decide +kernel
theorem dL_law_330 : decode cL_law 330 = .ok (.iadd, 1) := by decide +kernel
theorem dL_law_331 : decode cL_law 331 = .ok (.iaload, 1) := by decide +kernel
theorem dL_law_332 : decode cL_law 332 = .ok (.if_icmp .ge 13, 3) := by decide +kernel
theorem dL_law_335 : decode cL_law 335 = .ok (.aload_n 2, 1) := by decide +kernel
theorem dL_law_336 : decode cL_law 336 = .ok (.bipush 19, 2) := by decide +kernel
theorem dL_law_338 : decode cL_law 338 = .ok (.iload 15, 2) := by decide +kernel
theorem dL_law_340 : decode cL_law 340 = .ok (.iadd, 1) := by decide +kernel
theorem dL_law_341 : decode cL_law 341 = .ok (.iaload, 1) := by decide +kernel
theorem dL_law_342 : decode cL_law 342 = .ok (.goto 10, 3) := by decide +kernel
theorem dL_law_345 : decode cL_law 345 = .ok (.aload_n 2, 1) := by decide +kernel
theorem dL_law_346 : decode cL_law 346 = .ok (.bipush 6, 2) := by decide +kernel
theorem dL_law_348 : decode cL_law 348 = .ok (.iload 16, 2) := by decide +kernel
theorem dL_law_350 : decode cL_law 350 = .ok (.iadd, 1) := by decide +kernel
theorem dL_law_351 : decode cL_law 351 = .ok (.iaload, 1) := by decide +kernel
theorem dL_law_352 : decode cL_law 352 = .ok (.if_icmp .ne 48, 3) := by decide +kernel
theorem dL_law_355 : decode cL_law 355 = .ok (.aload_n 1, 1) := by decide +kernel
theorem dL_law_356 : decode cL_law 356 = .ok (.bipush 6, 2) := by decide +kernel
theorem dL_law_358 : decode cL_law 358 = .ok (.invokevirtual 42, 3) := by decide +kernel
theorem dL_law_361 : decode cL_law 361 = .ok (.iload 13, 2) := by decide +kernel
theorem dL_law_363 : decode cL_law 363 = .ok (.iload 25, 2) := by decide +kernel
theorem dL_law_365 : decode cL_law 365 = .ok (.iadd, 1) := by decide +kernel
theorem dL_law_366 : decode cL_law 366 = .ok (.if_icmp .ne 34, 3) := by decide +kernel
theorem dL_law_369 : decode cL_law 369 = .ok (.aload_n 1, 1) := by decide +kernel
theorem dL_law_370 : decode cL_law 370 = .ok (.iconst 5, 1) := by decide +kernel
theorem dL_law_371 : decode cL_law 371 = .ok (.invokevirtual 42, 3) := by decide +kernel
theorem dL_law_374 : decode cL_law 374 = .ok (.iload 12, 2) := by decide +kernel
theorem dL_law_376 : decode cL_law 376 = .ok (.iconst 1, 1) := by decide +kernel
theorem dL_law_377 : decode cL_law 377 = .ok (.iload 15, 2) := by decide +kernel
theorem dL_law_379 : decode cL_law 379 = .ok (.ishl, 1) := by decide +kernel
theorem dL_law_380 : decode cL_law 380 = .ok (.ior, 1) := by decide +kernel
theorem dL_law_381 : decode cL_law 381 = .ok (.if_icmp .ne 19, 3) := by decide +kernel
theorem dL_law_384 : decode cL_law 384 = .ok (.aload_n 1, 1) := by decide +kernel
theorem dL_law_385 : decode cL_law 385 = .ok (.aload_n 1, 1) := by decide +kernel
theorem dL_law_386 : decode cL_law 386 = .ok (.iload 15, 2) := by decide +kernel
theorem dL_law_388 : decode cL_law 388 = .ok (.iconst 2, 1) := by decide +kernel
theorem dL_law_389 : decode cL_law 389 = .ok (.invokevirtual 98, 3) := by decide +kernel
theorem dL_law_392 : decode cL_law 392 = .ok (.invokestatic 101, 3) := by decide +kernel
theorem dL_law_395 : decode cL_law 395 = .ok (.iload 16, 2) := by decide +kernel
theorem dL_law_397 : decode cL_law 397 = .ok (.if_icmp .eq 5, 3) := by decide +kernel
theorem dL_law_400 : decode cL_law 400 = .ok (.iconst 0, 1) := by decide +kernel
theorem dL_law_401 : decode cL_law 401 = .ok (.ireturn, 1) := by decide +kernel
theorem dL_law_402 : decode cL_law 402 = .ok (.goto 275, 3) := by decide +kernel
theorem dL_law_405 : decode cL_law 405 = .ok (.iload 22, 2) := by decide +kernel
theorem dL_law_407 : decode cL_law 407 = .ok (.bipush 7, 2) := by decide +kernel
theorem dL_law_409 : decode cL_law 409 = .ok (.if_icmp .ge 108, 3) := by decide +kernel
theorem dL_law_412 : decode cL_law 412 = .ok (.aload_n 1, 1) := by decide +kernel
theorem dL_law_413 : decode cL_law 413 = .ok (.aload_n 1, 1) := by decide +kernel
theorem dL_law_414 : decode cL_law 414 = .ok (.iload 15, 2) := by decide +kernel
theorem dL_law_416 : decode cL_law 416 = .ok (.iconst 3, 1) := by decide +kernel
theorem dL_law_417 : decode cL_law 417 = .ok (.invokevirtual 98, 3) := by decide +kernel
theorem dL_law_420 : decode cL_law 420 = .ok (.invokestatic 101, 3) := by decide +kernel
theorem dL_law_423 : decode cL_law 423 = .ok (.istore 24, 2) := by decide +kernel
theorem dL_law_425 : decode cL_law 425 = .ok (.aload_n 1, 1) := by decide +kernel
theorem dL_law_426 : decode cL_law 426 = .ok (.iload 15, 2) := by decide +kernel
theorem dL_law_428 : decode cL_law 428 = .ok (.invokevirtual 71, 3) := by decide +kernel
theorem dL_law_431 : decode cL_law 431 = .ok (.istore 25, 2) := by decide +kernel
theorem dL_law_433 : decode cL_law 433 = .ok (.iload 17, 2) := by decide +kernel
theorem dL_law_435 : decode cL_law 435 = .ok (.ifCond .lt 7, 3) := by decide +kernel
theorem dL_law_438 : decode cL_law 438 = .ok (.iconst 1, 1) := by decide +kernel
theorem dL_law_439 : decode cL_law 439 = .ok (.goto 4, 3) := by decide +kernel
theorem dL_law_442 : decode cL_law 442 = .ok (.iconst 0, 1) := by decide +kernel
theorem dL_law_443 : decode cL_law 443 = .ok (.istore 23, 2) := by decide +kernel
theorem dL_law_445 : decode cL_law 445 = .ok (.iload 25, 2) := by decide +kernel
theorem dL_law_447 : decode cL_law 447 = .ok (.iload 23, 2) := by decide +kernel
theorem dL_law_449 : decode cL_law 449 = .ok (.ifCond .eq 8, 3) := by decide +kernel
theorem dL_law_452 : decode cL_law 452 = .ok (.iload 24, 2) := by decide +kernel
theorem dL_law_454 : decode cL_law 454 = .ok (.goto 5, 3) := by decide +kernel
theorem dL_law_457 : decode cL_law 457 = .ok (.bipush (-4), 2) := by decide +kernel
theorem dL_law_459 : decode cL_law 459 = .ok (.if_icmp .ne 53, 3) := by decide +kernel
theorem dL_law_462 : decode cL_law 462 = .ok (.iload 23, 2) := by decide +kernel
theorem dL_law_464 : decode cL_law 464 = .ok (.ifCond .eq 50, 3) := by decide +kernel
theorem dL_law_467 : decode cL_law 467 = .ok (.aload_n 1, 1) := by decide +kernel
theorem dL_law_468 : decode cL_law 468 = .ok (.bipush 6, 2) := by decide +kernel
theorem dL_law_470 : decode cL_law 470 = .ok (.invokevirtual 42, 3) := by decide +kernel
theorem dL_law_473 : decode cL_law 473 = .ok (.iload 13, 2) := by decide +kernel
theorem dL_law_475 : decode cL_law 475 = .ok (.iload 24, 2) := by decide +kernel
theorem dL_law_477 : decode cL_law 477 = .ok (.isub, 1) := by decide +kernel
theorem dL_law_478 : decode cL_law 478 = .ok (.if_icmp .ne 34, 3) := by decide +kernel
theorem dL_law_481 : decode cL_law 481 = .ok (.aload_n 1, 1) := by decide +kernel
theorem dL_law_482 : decode cL_law 482 = .ok (.iconst 5, 1) := by decide +kernel
theorem dL_law_483 : decode cL_law 483 = .ok (.invokevirtual 42, 3) := by decide +kernel
theorem dL_law_486 : decode cL_law 486 = .ok (.iload 12, 2) := by decide +kernel
theorem dL_law_488 : decode cL_law 488 = .ok (.iconst 1, 1) := by decide +kernel
theorem dL_law_489 : decode cL_law 489 = .ok (.iload 15, 2) := by decide +kernel
theorem dL_law_491 : decode cL_law 491 = .ok (.ishl, 1) := by decide +kernel
theorem dL_law_492 : decode cL_law 492 = .ok (.iconst (-1), 1) := by decide +kernel
theorem dL_law_493 : decode cL_law 493 = .ok (.ixor, 1) := by decide +kernel
theorem dL_law_494 : decode cL_law 494 = .ok (.iand, 1) := by decide +kernel
theorem dL_law_495 : decode cL_law 495 = .ok (.if_icmp .ne 17, 3) := by decide +kernel
theorem dL_law_498 : decode cL_law 498 = .ok (.aload_n 1, 1) := by decide +kernel
theorem dL_law_499 : decode cL_law 499 = .ok (.aload_n 1, 1) := by decide +kernel
theorem dL_law_500 : decode cL_law 500 = .ok (.iload 15, 2) := by decide +kernel
theorem dL_law_502 : decode cL_law 502 = .ok (.iconst 3, 1) := by decide +kernel
theorem dL_law_503 : decode cL_law 503 = .ok (.invokevirtual 98, 3) := by decide +kernel
theorem dL_law_506 : decode cL_law 506 = .ok (.invokestatic 101, 3) := by decide +kernel
theorem dL_law_509 : decode cL_law 509 = .ok (.ifCond .eq 5, 3) := by decide +kernel
theorem dL_law_512 : decode cL_law 512 = .ok (.iconst 0, 1) := by decide +kernel
theorem dL_law_513 : decode cL_law 513 = .ok (.ireturn, 1) := by decide +kernel
theorem dL_law_514 : decode cL_law 514 = .ok (.goto 163, 3) := by decide +kernel
theorem dL_law_517 : decode cL_law 517 = .ok (.iload 22, 2) := by decide +kernel
theorem dL_law_519 : decode cL_law 519 = .ok (.bipush 7, 2) := by decide +kernel
theorem dL_law_521 : decode cL_law 521 = .ok (.if_icmp .ne 57, 3) := by decide +kernel
theorem dL_law_524 : decode cL_law 524 = .ok (.iload 20, 2) := by decide +kernel
theorem dL_law_526 : decode cL_law 526 = .ok (.ifCond .ne 7, 3) := by decide +kernel
theorem dL_law_529 : decode cL_law 529 = .ok (.iconst 1, 1) := by decide +kernel
theorem dL_law_530 : decode cL_law 530 = .ok (.goto 4, 3) := by decide +kernel
theorem dL_law_533 : decode cL_law 533 = .ok (.iconst 0, 1) := by decide +kernel
theorem dL_law_534 : decode cL_law 534 = .ok (.istore 23, 2) := by decide +kernel
theorem dL_law_536 : decode cL_law 536 = .ok (.aload_n 1, 1) := by decide +kernel
theorem dL_law_537 : decode cL_law 537 = .ok (.iload 16, 2) := by decide +kernel
theorem dL_law_539 : decode cL_law 539 = .ok (.invokevirtual 74, 3) := by decide +kernel
theorem dL_law_542 : decode cL_law 542 = .ok (.iload 23, 2) := by decide +kernel
theorem dL_law_544 : decode cL_law 544 = .ok (.ifCond .eq 8, 3) := by decide +kernel
theorem dL_law_547 : decode cL_law 547 = .ok (.iload 19, 2) := by decide +kernel
theorem dL_law_549 : decode cL_law 549 = .ok (.goto 5, 3) := by decide +kernel
theorem dL_law_552 : decode cL_law 552 = .ok (.bipush (-4), 2) := by decide +kernel
theorem dL_law_554 : decode cL_law 554 = .ok (.if_icmp .ne 22, 3) := by decide +kernel
theorem dL_law_557 : decode cL_law 557 = .ok (.iload 23, 2) := by decide +kernel
theorem dL_law_559 : decode cL_law 559 = .ok (.ifCond .eq 118, 3) := by decide +kernel
theorem dL_law_562 : decode cL_law 562 = .ok (.aload_n 1, 1) := by decide +kernel
theorem dL_law_563 : decode cL_law 563 = .ok (.aload_n 1, 1) := by decide +kernel
theorem dL_law_564 : decode cL_law 564 = .ok (.iload 16, 2) := by decide +kernel
theorem dL_law_566 : decode cL_law 566 = .ok (.iconst 3, 1) := by decide +kernel
theorem dL_law_567 : decode cL_law 567 = .ok (.invokevirtual 105, 3) := by decide +kernel
theorem dL_law_570 : decode cL_law 570 = .ok (.invokestatic 101, 3) := by decide +kernel
theorem dL_law_573 : decode cL_law 573 = .ok (.ifCond .eq 104, 3) := by decide +kernel
theorem dL_law_576 : decode cL_law 576 = .ok (.iconst 0, 1) := by decide +kernel
theorem dL_law_577 : decode cL_law 577 = .ok (.ireturn, 1) := by decide +kernel
theorem dL_law_578 : decode cL_law 578 = .ok (.iload 22, 2) := by decide +kernel
theorem dL_law_580 : decode cL_law 580 = .ok (.bipush 8, 2) := by decide +kernel
theorem dL_law_582 : decode cL_law 582 = .ok (.if_icmp .ne 16, 3) := by decide +kernel
theorem dL_law_585 : decode cL_law 585 = .ok (.aload_n 1, 1) := by decide +kernel
theorem dL_law_586 : decode cL_law 586 = .ok (.invokevirtual 77, 3) := by decide +kernel
theorem dL_law_589 : decode cL_law 589 = .ok (.iload 14, 2) := by decide +kernel
theorem dL_law_591 : decode cL_law 591 = .ok (.iconst 1, 1) := by decide +kernel
theorem dL_law_592 : decode cL_law 592 = .ok (.iadd, 1) := by decide +kernel
theorem dL_law_593 : decode cL_law 593 = .ok (.if_icmp .eq 84, 3) := by decide +kernel
theorem dL_law_596 : decode cL_law 596 = .ok (.iconst 0, 1) := by decide +kernel
theorem dL_law_597 : decode cL_law 597 = .ok (.ireturn, 1) := by decide +kernel
theorem dL_law_598 : decode cL_law 598 = .ok (.aload_n 1, 1) := by decide +kernel
theorem dL_law_599 : decode cL_law 599 = .ok (.iconst 1, 1) := by decide +kernel
theorem dL_law_600 : decode cL_law 600 = .ok (.invokevirtual 111, 3) := by decide +kernel
theorem dL_law_603 : decode cL_law 603 = .ok (.istore 24, 2) := by decide +kernel
theorem dL_law_605 : decode cL_law 605 = .ok (.aload_n 1, 1) := by decide +kernel
theorem dL_law_606 : decode cL_law 606 = .ok (.invokevirtual 84, 3) := by decide +kernel
theorem dL_law_609 : decode cL_law 609 = .ok (.istore 25, 2) := by decide +kernel
theorem dL_law_611 : decode cL_law 611 = .ok (.iload 25, 2) := by decide +kernel
theorem dL_law_613 : decode cL_law 613 = .ok (.iconst 1, 1) := by decide +kernel
theorem dL_law_614 : decode cL_law 614 = .ok (.iload 4, 2) := by decide +kernel
theorem dL_law_616 : decode cL_law 616 = .ok (.ishl, 1) := by decide +kernel
theorem dL_law_617 : decode cL_law 617 = .ok (.iconst 1, 1) := by decide +kernel
theorem dL_law_618 : decode cL_law 618 = .ok (.isub, 1) := by decide +kernel
theorem dL_law_619 : decode cL_law 619 = .ok (.iload 11, 2) := by decide +kernel
theorem dL_law_621 : decode cL_law 621 = .ok (.iconst (-1), 1) := by decide +kernel
theorem dL_law_622 : decode cL_law 622 = .ok (.ixor, 1) := by decide +kernel
theorem dL_law_623 : decode cL_law 623 = .ok (.iand, 1) := by decide +kernel
theorem dL_law_624 : decode cL_law 624 = .ok (.iload 21, 2) := by decide +kernel
theorem dL_law_626 : decode cL_law 626 = .ok (.iconst (-1), 1) := by decide +kernel
theorem dL_law_627 : decode cL_law 627 = .ok (.ixor, 1) := by decide +kernel
theorem dL_law_628 : decode cL_law 628 = .ok (.iand, 1) := by decide +kernel
theorem dL_law_629 : decode cL_law 629 = .ok (.if_icmp .ne 46, 3) := by decide +kernel
theorem dL_law_632 : decode cL_law 632 = .ok (.aload_n 1, 1) := by decide +kernel
theorem dL_law_633 : decode cL_law 633 = .ok (.iconst 4, 1) := by decide +kernel
theorem dL_law_634 : decode cL_law 634 = .ok (.invokevirtual 42, 3) := by decide +kernel
theorem dL_law_637 : decode cL_law 637 = .ok (.iload 11, 2) := by decide +kernel
theorem dL_law_639 : decode cL_law 639 = .ok (.iload 25, 2) := by decide +kernel
theorem dL_law_641 : decode cL_law 641 = .ok (.ior, 1) := by decide +kernel
theorem dL_law_642 : decode cL_law 642 = .ok (.if_icmp .ne 33, 3) := by decide +kernel
theorem dL_law_645 : decode cL_law 645 = .ok (.aload_n 1, 1) := by decide +kernel
theorem dL_law_646 : decode cL_law 646 = .ok (.iconst 3, 1) := by decide +kernel
theorem dL_law_647 : decode cL_law 647 = .ok (.invokevirtual 42, 3) := by decide +kernel
theorem dL_law_650 : decode cL_law 650 = .ok (.iload 10, 2) := by decide +kernel
theorem dL_law_652 : decode cL_law 652 = .ok (.iconst 1, 1) := by decide +kernel
theorem dL_law_653 : decode cL_law 653 = .ok (.iadd, 1) := by decide +kernel
theorem dL_law_654 : decode cL_law 654 = .ok (.if_icmp .ne 21, 3) := by decide +kernel
theorem dL_law_657 : decode cL_law 657 = .ok (.aload_n 1, 1) := by decide +kernel
theorem dL_law_658 : decode cL_law 658 = .ok (.bipush 6, 2) := by decide +kernel
theorem dL_law_660 : decode cL_law 660 = .ok (.invokevirtual 42, 3) := by decide +kernel
theorem dL_law_663 : decode cL_law 663 = .ok (.iload 24, 2) := by decide +kernel
theorem dL_law_665 : decode cL_law 665 = .ok (.if_icmp .ne 10, 3) := by decide +kernel
theorem dL_law_668 : decode cL_law 668 = .ok (.iload 24, 2) := by decide +kernel
theorem dL_law_670 : decode cL_law 670 = .ok (.iload 13, 2) := by decide +kernel
theorem dL_law_672 : decode cL_law 672 = .ok (.if_icmp .le 5, 3) := by decide +kernel
theorem dL_law_675 : decode cL_law 675 = .ok (.iconst 0, 1) := by decide +kernel
theorem dL_law_676 : decode cL_law 676 = .ok (.ireturn, 1) := by decide +kernel
theorem dL_law_677 : decode cL_law 677 = .ok (.aload_n 1, 1) := by decide +kernel
theorem dL_law_678 : decode cL_law 678 = .ok (.iconst 2, 1) := by decide +kernel
theorem dL_law_679 : decode cL_law 679 = .ok (.invokevirtual 42, 3) := by decide +kernel
theorem dL_law_682 : decode cL_law 682 = .ok (.iload 9, 2) := by decide +kernel
theorem dL_law_684 : decode cL_law 684 = .ok (.iload 23, 2) := by decide +kernel
theorem dL_law_686 : decode cL_law 686 = .ok (.ifCond .eq 7, 3) := by decide +kernel
theorem dL_law_689 : decode cL_law 689 = .ok (.iconst 1, 1) := by decide +kernel
theorem dL_law_690 : decode cL_law 690 = .ok (.goto 4, 3) := by decide +kernel
theorem dL_law_693 : decode cL_law 693 = .ok (.iconst 0, 1) := by decide +kernel
theorem dL_law_694 : decode cL_law 694 = .ok (.iadd, 1) := by decide +kernel
theorem dL_law_695 : decode cL_law 695 = .ok (.if_icmp .ne 16, 3) := by decide +kernel
theorem dL_law_698 : decode cL_law 698 = .ok (.aload_n 1, 1) := by decide +kernel
theorem dL_law_699 : decode cL_law 699 = .ok (.iconst 4, 1) := by decide +kernel
theorem dL_law_700 : decode cL_law 700 = .ok (.invokevirtual 42, 3) := by decide +kernel
theorem dL_law_703 : decode cL_law 703 = .ok (.iload 11, 2) := by decide +kernel
theorem dL_law_705 : decode cL_law 705 = .ok (.iand, 1) := by decide +kernel
theorem dL_law_706 : decode cL_law 706 = .ok (.iload 11, 2) := by decide +kernel
theorem dL_law_708 : decode cL_law 708 = .ok (.if_icmp .eq 5, 3) := by decide +kernel
theorem dL_law_711 : decode cL_law 711 = .ok (.iconst 0, 1) := by decide +kernel
theorem dL_law_712 : decode cL_law 712 = .ok (.ireturn, 1) := by decide +kernel
theorem dL_law_713 : decode cL_law 713 = .ok (.iconst 0, 1) := by decide +kernel
theorem dL_law_714 : decode cL_law 714 = .ok (.istore 24, 2) := by decide +kernel
theorem dL_law_716 : decode cL_law 716 = .ok (.iconst 0, 1) := by decide +kernel
theorem dL_law_717 : decode cL_law 717 = .ok (.istore 25, 2) := by decide +kernel
theorem dL_law_719 : decode cL_law 719 = .ok (.iconst 0, 1) := by decide +kernel
theorem dL_law_720 : decode cL_law 720 = .ok (.istore 26, 2) := by decide +kernel
theorem dL_law_722 : decode cL_law 722 = .ok (.iload 26, 2) := by decide +kernel
theorem dL_law_724 : decode cL_law 724 = .ok (.iload 4, 2) := by decide +kernel
theorem dL_law_726 : decode cL_law 726 = .ok (.if_icmp .ge 250, 3) := by decide +kernel
theorem dL_law_729 : decode cL_law 729 = .ok (.aload_n 1, 1) := by decide +kernel
theorem dL_law_730 : decode cL_law 730 = .ok (.aload_n 1, 1) := by decide +kernel
theorem dL_law_731 : decode cL_law 731 = .ok (.iload 26, 2) := by decide +kernel
theorem dL_law_733 : decode cL_law 733 = .ok (.iconst 3, 1) := by decide +kernel
theorem dL_law_734 : decode cL_law 734 = .ok (.invokevirtual 105, 3) := by decide +kernel
theorem dL_law_737 : decode cL_law 737 = .ok (.invokestatic 101, 3) := by decide +kernel
theorem dL_law_740 : decode cL_law 740 = .ok (.istore 27, 2) := by decide +kernel
theorem dL_law_742 : decode cL_law 742 = .ok (.aload_n 1, 1) := by decide +kernel
theorem dL_law_743 : decode cL_law 743 = .ok (.aload_n 1, 1) := by decide +kernel
theorem dL_law_744 : decode cL_law 744 = .ok (.iload 26, 2) := by decide +kernel
theorem dL_law_746 : decode cL_law 746 = .ok (.bipush 6, 2) := by decide +kernel
theorem dL_law_748 : decode cL_law 748 = .ok (.invokevirtual 105, 3) := by decide +kernel
theorem dL_law_751 : decode cL_law 751 = .ok (.invokestatic 101, 3) := by decide +kernel
theorem dL_law_754 : decode cL_law 754 = .ok (.istore 28, 2) := by decide +kernel
theorem dL_law_756 : decode cL_law 756 = .ok (.iconst 0, 1) := by decide +kernel
theorem dL_law_757 : decode cL_law 757 = .ok (.istore 29, 2) := by decide +kernel
theorem dL_law_759 : decode cL_law 759 = .ok (.iconst 0, 1) := by decide +kernel
theorem dL_law_760 : decode cL_law 760 = .ok (.istore 30, 2) := by decide +kernel
theorem dL_law_762 : decode cL_law 762 = .ok (.iload 30, 2) := by decide +kernel
theorem dL_law_764 : decode cL_law 764 = .ok (.iload 5, 2) := by decide +kernel
theorem dL_law_766 : decode cL_law 766 = .ok (.if_icmp .ge 82, 3) := by decide +kernel
theorem dL_law_769 : decode cL_law 769 = .ok (.iload 28, 2) := by decide +kernel
theorem dL_law_771 : decode cL_law 771 = .ok (.iload 30, 2) := by decide +kernel
theorem dL_law_773 : decode cL_law 773 = .ok (.ishr, 1) := by decide +kernel
theorem dL_law_774 : decode cL_law 774 = .ok (.iconst 1, 1) := by decide +kernel
theorem dL_law_775 : decode cL_law 775 = .ok (.iand, 1) := by decide +kernel
theorem dL_law_776 : decode cL_law 776 = .ok (.ifCond .ne 6, 3) := by decide +kernel
theorem dL_law_779 : decode cL_law 779 = .ok (.goto 63, 3) := by decide +kernel
theorem dL_law_782 : decode cL_law 782 = .ok (.iload 29, 2) := by decide +kernel
theorem dL_law_784 : decode cL_law 784 = .ok (.aload_n 2, 1) := by decide +kernel
theorem dL_law_785 : decode cL_law 785 = .ok (.bipush 14, 2) := by decide +kernel
theorem dL_law_787 : decode cL_law 787 = .ok (.iload 30, 2) := by decide +kernel
theorem dL_law_789 : decode cL_law 789 = .ok (.iadd, 1) := by decide +kernel
theorem dL_law_790 : decode cL_law 790 = .ok (.iaload, 1) := by decide +kernel
theorem dL_law_791 : decode cL_law 791 = .ok (.aload_n 1, 1) := by decide +kernel
theorem dL_law_792 : decode cL_law 792 = .ok (.aload_n 1, 1) := by decide +kernel
theorem dL_law_793 : decode cL_law 793 = .ok (.iload 30, 2) := by decide +kernel
theorem dL_law_795 : decode cL_law 795 = .ok (.iconst 3, 1) := by decide +kernel
theorem dL_law_796 : decode cL_law 796 = .ok (.invokevirtual 98, 3) := by decide +kernel
theorem dL_law_799 : decode cL_law 799 = .ok (.invokestatic 101, 3) := by decide +kernel
theorem dL_law_802 : decode cL_law 802 = .ok (.iconst 2, 1) := by decide +kernel
theorem dL_law_803 : decode cL_law 803 = .ok (.idiv, 1) := by decide +kernel
theorem dL_law_804 : decode cL_law 804 = .ok (.iadd, 1) := by decide +kernel
theorem dL_law_805 : decode cL_law 805 = .ok (.iadd, 1) := by decide +kernel
theorem dL_law_806 : decode cL_law 806 = .ok (.istore 29, 2) := by decide +kernel
theorem dL_law_808 : decode cL_law 808 = .ok (.aload_n 1, 1) := by decide +kernel
theorem dL_law_809 : decode cL_law 809 = .ok (.aload_n 1, 1) := by decide +kernel
theorem dL_law_810 : decode cL_law 810 = .ok (.iload 30, 2) := by decide +kernel
theorem dL_law_812 : decode cL_law 812 = .ok (.iconst 2, 1) := by decide +kernel
theorem dL_law_813 : decode cL_law 813 = .ok (.invokevirtual 98, 3) := by decide +kernel
theorem dL_law_816 : decode cL_law 816 = .ok (.invokestatic 101, 3) := by decide +kernel
theorem dL_law_819 : decode cL_law 819 = .ok (.iload 26, 2) := by decide +kernel
theorem dL_law_821 : decode cL_law 821 = .ok (.if_icmp .eq 5, 3) := by decide +kernel
theorem dL_law_824 : decode cL_law 824 = .ok (.iconst 0, 1) := by decide +kernel
theorem dL_law_825 : decode cL_law 825 = .ok (.ireturn, 1) := by decide +kernel
theorem dL_law_826 : decode cL_law 826 = .ok (.iload 24, 2) := by decide +kernel
theorem dL_law_828 : decode cL_law 828 = .ok (.aload_n 1, 1) := by decide +kernel
theorem dL_law_829 : decode cL_law 829 = .ok (.aload_n 1, 1) := by decide +kernel
theorem dL_law_830 : decode cL_law 830 = .ok (.iload 30, 2) := by decide +kernel
theorem dL_law_832 : decode cL_law 832 = .ok (.iconst 3, 1) := by decide +kernel
theorem dL_law_833 : decode cL_law 833 = .ok (.invokevirtual 98, 3) := by decide +kernel
theorem dL_law_836 : decode cL_law 836 = .ok (.invokestatic 101, 3) := by decide +kernel
theorem dL_law_839 : decode cL_law 839 = .ok (.iadd, 1) := by decide +kernel
theorem dL_law_840 : decode cL_law 840 = .ok (.istore 24, 2) := by decide +kernel
theorem dL_law_842 : decode cL_law 842 = .ok (.iinc 30 1, 3) := by decide +kernel
theorem dL_law_845 : decode cL_law 845 = .ok (.goto (-83), 3) := by decide +kernel
theorem dL_law_848 : decode cL_law 848 = .ok (.iload 27, 2) := by decide +kernel
theorem dL_law_850 : decode cL_law 850 = .ok (.ifCond .lt 111, 3) := by decide +kernel
theorem dL_law_853 : decode cL_law 853 = .ok (.iload 27, 2) := by decide +kernel
theorem dL_law_855 : decode cL_law 855 = .ok (.bipush 20, 2) := by decide +kernel
theorem dL_law_857 : decode cL_law 857 = .ok (.if_icmp .gt 104, 3) := by decide +kernel
theorem dL_law_860 : decode cL_law 860 = .ok (.aload_n 1, 1) := by decide +kernel
theorem dL_law_861 : decode cL_law 861 = .ok (.iconst 4, 1) := by decide +kernel
theorem dL_law_862 : decode cL_law 862 = .ok (.invokevirtual 42, 3) := by decide +kernel
theorem dL_law_865 : decode cL_law 865 = .ok (.iload 26, 2) := by decide +kernel
theorem dL_law_867 : decode cL_law 867 = .ok (.ishr, 1) := by decide +kernel
theorem dL_law_868 : decode cL_law 868 = .ok (.iconst 1, 1) := by decide +kernel
theorem dL_law_869 : decode cL_law 869 = .ok (.iand, 1) := by decide +kernel
theorem dL_law_870 : decode cL_law 870 = .ok (.iconst 1, 1) := by decide +kernel
theorem dL_law_871 : decode cL_law 871 = .ok (.if_icmp .ne 8, 3) := by decide +kernel
theorem dL_law_874 : decode cL_law 874 = .ok (.iload 28, 2) := by decide +kernel
theorem dL_law_876 : decode cL_law 876 = .ok (.ifCond .ne 85, 3) := by decide +kernel
theorem dL_law_879 : decode cL_law 879 = .ok (.iload 25, 2) := by decide +kernel
theorem dL_law_881 : decode cL_law 881 = .ok (.iload 28, 2) := by decide +kernel
theorem dL_law_883 : decode cL_law 883 = .ok (.iand, 1) := by decide +kernel
theorem dL_law_884 : decode cL_law 884 = .ok (.ifCond .ne 77, 3) := by decide +kernel
theorem dL_law_887 : decode cL_law 887 = .ok (.aload_n 1, 1) := by decide +kernel
theorem dL_law_888 : decode cL_law 888 = .ok (.aload_n 1, 1) := by decide +kernel
theorem dL_law_889 : decode cL_law 889 = .ok (.iload 26, 2) := by decide +kernel
theorem dL_law_891 : decode cL_law 891 = .ok (.iconst 5, 1) := by decide +kernel
theorem dL_law_892 : decode cL_law 892 = .ok (.invokevirtual 105, 3) := by decide +kernel
theorem dL_law_895 : decode cL_law 895 = .ok (.invokestatic 101, 3) := by decide +kernel
theorem dL_law_898 : decode cL_law 898 = .ok (.iload 29, 2) := by decide +kernel
theorem dL_law_900 : decode cL_law 900 = .ok (.if_icmp .ne 61, 3) := by decide +kernel
theorem dL_law_903 : decode cL_law 903 = .ok (.aload_n 1, 1) := by decide +kernel
theorem dL_law_904 : decode cL_law 904 = .ok (.aload_n 1, 1) := by decide +kernel
theorem dL_law_905 : decode cL_law 905 = .ok (.iload 26, 2) := by decide +kernel
theorem dL_law_907 : decode cL_law 907 = .ok (.iconst 4, 1) := by decide +kernel
theorem dL_law_908 : decode cL_law 908 = .ok (.invokevirtual 105, 3) := by decide +kernel
theorem dL_law_911 : decode cL_law 911 = .ok (.invokestatic 101, 3) := by decide +kernel
theorem dL_law_914 : decode cL_law 914 = .ok (.aload_n 1, 1) := by decide +kernel
theorem dL_law_915 : decode cL_law 915 = .ok (.iload 26, 2) := by decide +kernel
theorem dL_law_917 : decode cL_law 917 = .ok (.iload 27, 2) := by decide +kernel
theorem dL_law_919 : decode cL_law 919 = .ok (.invokevirtual 114, 3) := by decide +kernel
theorem dL_law_922 : decode cL_law 922 = .ok (.if_icmp .ne 39, 3) := by decide +kernel
theorem dL_law_925 : decode cL_law 925 = .ok (.aload_n 1, 1) := by decide +kernel
theorem dL_law_926 : decode cL_law 926 = .ok (.iload 26, 2) := by decide +kernel
theorem dL_law_928 : decode cL_law 928 = .ok (.iload 27, 2) := by decide +kernel
theorem dL_law_930 : decode cL_law 930 = .ok (.invokevirtual 114, 3) := by decide +kernel
theorem dL_law_933 : decode cL_law 933 = .ok (.ifCond .lt 28, 3) := by decide +kernel
theorem dL_law_936 : decode cL_law 936 = .ok (.aload_n 1, 1) := by decide +kernel
theorem dL_law_937 : decode cL_law 937 = .ok (.aload_n 1, 1) := by decide +kernel
theorem dL_law_938 : decode cL_law 938 = .ok (.iload 26, 2) := by decide +kernel
theorem dL_law_940 : decode cL_law 940 = .ok (.bipush 7, 2) := by decide +kernel
theorem dL_law_942 : decode cL_law 942 = .ok (.invokevirtual 105, 3) := by decide +kernel
theorem dL_law_945 : decode cL_law 945 = .ok (.invokestatic 101, 3) := by decide +kernel
theorem dL_law_948 : decode cL_law 948 = .ok (.aload_n 1, 1) := by decide +kernel
theorem dL_law_949 : decode cL_law 949 = .ok (.iconst 4, 1) := by decide +kernel
theorem dL_law_950 : decode cL_law 950 = .ok (.invokevirtual 42, 3) := by decide +kernel
theorem dL_law_953 : decode cL_law 953 = .ok (.iload 26, 2) := by decide +kernel
theorem dL_law_955 : decode cL_law 955 = .ok (.ishr, 1) := by decide +kernel
theorem dL_law_956 : decode cL_law 956 = .ok (.iconst 1, 1) := by decide +kernel
theorem dL_law_957 : decode cL_law 957 = .ok (.iand, 1) := by decide +kernel
theorem dL_law_958 : decode cL_law 958 = .ok (.if_icmp .eq 5, 3) := by decide +kernel
theorem dL_law_961 : decode cL_law 961 = .ok (.iconst 0, 1) := by decide +kernel
theorem dL_law_962 : decode cL_law 962 = .ok (.ireturn, 1) := by decide +kernel
theorem dL_law_963 : decode cL_law 963 = .ok (.iload 25, 2) := by decide +kernel
theorem dL_law_965 : decode cL_law 965 = .ok (.iload 28, 2) := by decide +kernel
theorem dL_law_967 : decode cL_law 967 = .ok (.ior, 1) := by decide +kernel
theorem dL_law_968 : decode cL_law 968 = .ok (.istore 25, 2) := by decide +kernel
theorem dL_law_970 : decode cL_law 970 = .ok (.iinc 26 1, 3) := by decide +kernel
theorem dL_law_973 : decode cL_law 973 = .ok (.goto (-251), 3) := by decide +kernel
theorem dL_law_976 : decode cL_law 976 = .ok (.iload 25, 2) := by decide +kernel
theorem dL_law_978 : decode cL_law 978 = .ok (.aload_n 1, 1) := by decide +kernel
theorem dL_law_979 : decode cL_law 979 = .ok (.iconst 5, 1) := by decide +kernel
theorem dL_law_980 : decode cL_law 980 = .ok (.invokevirtual 42, 3) := by decide +kernel
theorem dL_law_983 : decode cL_law 983 = .ok (.if_icmp .ne 14, 3) := by decide +kernel
theorem dL_law_986 : decode cL_law 986 = .ok (.iload 24, 2) := by decide +kernel
theorem dL_law_988 : decode cL_law 988 = .ok (.aload_n 1, 1) := by decide +kernel
theorem dL_law_989 : decode cL_law 989 = .ok (.bipush 6, 2) := by decide +kernel
theorem dL_law_991 : decode cL_law 991 = .ok (.invokevirtual 42, 3) := by decide +kernel
theorem dL_law_994 : decode cL_law 994 = .ok (.if_icmp .eq 5, 3) := by decide +kernel
theorem dL_law_997 : decode cL_law 997 = .ok (.iconst 0, 1) := by decide +kernel
theorem dL_law_998 : decode cL_law 998 = .ok (.ireturn, 1) := by decide +kernel
theorem dL_law_999 : decode cL_law 999 = .ok (.iload 23, 2) := by decide +kernel
theorem dL_law_1001 : decode cL_law 1001 = .ok (.ifCond .eq 140, 3) := by decide +kernel
theorem dL_law_1004 : decode cL_law 1004 = .ok (.iload 8, 2) := by decide +kernel
theorem dL_law_1006 : decode cL_law 1006 = .ok (.bipush 20, 2) := by decide +kernel
theorem dL_law_1008 : decode cL_law 1008 = .ok (.ishr, 1) := by decide +kernel
theorem dL_law_1009 : decode cL_law 1009 = .ok (.iconst 4, 1) := by decide +kernel
theorem dL_law_1010 : decode cL_law 1010 = .ok (.invokestatic 21, 3) := by decide +kernel
theorem dL_law_1013 : decode cL_law 1013 = .ok (.ifCond .le 6, 3) := by decide +kernel
theorem dL_law_1016 : decode cL_law 1016 = .ok (.goto 125, 3) := by decide +kernel
theorem dL_law_1019 : decode cL_law 1019 = .ok (.aload_n 1, 1) := by decide +kernel
theorem dL_law_1020 : decode cL_law 1020 = .ok (.iload 9, 2) := by decide +kernel
theorem dL_law_1022 : decode cL_law 1022 = .ok (.invokevirtual 116, 3) := by decide +kernel
theorem dL_law_1025 : decode cL_law 1025 = .ok (.iconst 1, 1) := by decide +kernel
theorem dL_law_1026 : decode cL_law 1026 = .ok (.if_icmp .ne 113, 3) := by decide +kernel
theorem dL_law_1029 : decode cL_law 1029 = .ok (.aload_n 1, 1) := by decide +kernel
theorem dL_law_1030 : decode cL_law 1030 = .ok (.iconst 2, 1) := by decide +kernel
theorem dL_law_1031 : decode cL_law 1031 = .ok (.invokevirtual 42, 3) := by decide +kernel
theorem dL_law_1034 : decode cL_law 1034 = .ok (.iload 9, 2) := by decide +kernel
theorem dL_law_1036 : decode cL_law 1036 = .ok (.if_icmp .ne 103, 3) := by decide +kernel
theorem dL_law_1039 : decode cL_law 1039 = .ok (.aload_n 1, 1) := by decide +kernel
theorem dL_law_1040 : decode cL_law 1040 = .ok (.iconst 3, 1) := by decide +kernel
theorem dL_law_1041 : decode cL_law 1041 = .ok (.invokevirtual 42, 3) := by decide +kernel
theorem dL_law_1044 : decode cL_law 1044 = .ok (.iload 10, 2) := by decide +kernel
theorem dL_law_1046 : decode cL_law 1046 = .ok (.if_icmp .ne 93, 3) := by decide +kernel
theorem dL_law_1049 : decode cL_law 1049 = .ok (.aload_n 1, 1) := by decide +kernel
theorem dL_law_1050 : decode cL_law 1050 = .ok (.iconst 4, 1) := by decide +kernel
theorem dL_law_1051 : decode cL_law 1051 = .ok (.invokevirtual 42, 3) := by decide +kernel
theorem dL_law_1054 : decode cL_law 1054 = .ok (.iload 11, 2) := by decide +kernel
theorem dL_law_1056 : decode cL_law 1056 = .ok (.if_icmp .ne 83, 3) := by decide +kernel
theorem dL_law_1059 : decode cL_law 1059 = .ok (.aload_n 1, 1) := by decide +kernel
theorem dL_law_1060 : decode cL_law 1060 = .ok (.iconst 5, 1) := by decide +kernel
theorem dL_law_1061 : decode cL_law 1061 = .ok (.invokevirtual 42, 3) := by decide +kernel
theorem dL_law_1064 : decode cL_law 1064 = .ok (.iload 12, 2) := by decide +kernel
theorem dL_law_1066 : decode cL_law 1066 = .ok (.if_icmp .ne 73, 3) := by decide +kernel
theorem dL_law_1069 : decode cL_law 1069 = .ok (.aload_n 1, 1) := by decide +kernel
theorem dL_law_1070 : decode cL_law 1070 = .ok (.bipush 6, 2) := by decide +kernel
theorem dL_law_1072 : decode cL_law 1072 = .ok (.invokevirtual 42, 3) := by decide +kernel
theorem dL_law_1075 : decode cL_law 1075 = .ok (.iload 13, 2) := by decide +kernel
theorem dL_law_1077 : decode cL_law 1077 = .ok (.if_icmp .ne 62, 3) := by decide +kernel
theorem dL_law_1080 : decode cL_law 1080 = .ok (.aload_n 1, 1) := by decide +kernel
theorem dL_law_1081 : decode cL_law 1081 = .ok (.bipush 7, 2) := by decide +kernel
theorem dL_law_1083 : decode cL_law 1083 = .ok (.invokevirtual 42, 3) := by decide +kernel
theorem dL_law_1086 : decode cL_law 1086 = .ok (.iload 14, 2) := by decide +kernel
theorem dL_law_1088 : decode cL_law 1088 = .ok (.if_icmp .ne 51, 3) := by decide +kernel
theorem dL_law_1091 : decode cL_law 1091 = .ok (.aload_n 1, 1) := by decide +kernel
theorem dL_law_1092 : decode cL_law 1092 = .ok (.aload_n 1, 1) := by decide +kernel
theorem dL_law_1093 : decode cL_law 1093 = .ok (.iload 15, 2) := by decide +kernel
theorem dL_law_1095 : decode cL_law 1095 = .ok (.iconst 2, 1) := by decide +kernel
theorem dL_law_1096 : decode cL_law 1096 = .ok (.invokevirtual 98, 3) := by decide +kernel
theorem dL_law_1099 : decode cL_law 1099 = .ok (.invokestatic 101, 3) := by decide +kernel
theorem dL_law_1102 : decode cL_law 1102 = .ok (.iload 17, 2) := by decide +kernel
theorem dL_law_1104 : decode cL_law 1104 = .ok (.if_icmp .ne 35, 3) := by decide +kernel
theorem dL_law_1107 : decode cL_law 1107 = .ok (.aload_n 1, 1) := by decide +kernel
theorem dL_law_1108 : decode cL_law 1108 = .ok (.aload_n 1, 1) := by decide +kernel
theorem dL_law_1109 : decode cL_law 1109 = .ok (.iload 16, 2) := by decide +kernel
theorem dL_law_1111 : decode cL_law 1111 = .ok (.iconst 5, 1) := by decide +kernel
theorem dL_law_1112 : decode cL_law 1112 = .ok (.invokevirtual 105, 3) := by decide +kernel
theorem dL_law_1115 : decode cL_law 1115 = .ok (.invokestatic 101, 3) := by decide +kernel
theorem dL_law_1118 : decode cL_law 1118 = .ok (.iload 18, 2) := by decide +kernel
theorem dL_law_1120 : decode cL_law 1120 = .ok (.if_icmp .ne 19, 3) := by decide +kernel
theorem dL_law_1123 : decode cL_law 1123 = .ok (.aload_n 1, 1) := by decide +kernel
theorem dL_law_1124 : decode cL_law 1124 = .ok (.aload_n 1, 1) := by decide +kernel
theorem dL_law_1125 : decode cL_law 1125 = .ok (.iload 16, 2) := by decide +kernel
theorem dL_law_1127 : decode cL_law 1127 = .ok (.iconst 3, 1) := by decide +kernel
theorem dL_law_1128 : decode cL_law 1128 = .ok (.invokevirtual 105, 3) := by decide +kernel
theorem dL_law_1131 : decode cL_law 1131 = .ok (.invokestatic 101, 3) := by decide +kernel
theorem dL_law_1134 : decode cL_law 1134 = .ok (.iload 19, 2) := by decide +kernel
theorem dL_law_1136 : decode cL_law 1136 = .ok (.if_icmp .eq 5, 3) := by decide +kernel
theorem dL_law_1139 : decode cL_law 1139 = .ok (.iconst 0, 1) := by decide +kernel
theorem dL_law_1140 : decode cL_law 1140 = .ok (.ireturn, 1) := by decide +kernel
theorem dL_law_1141 : decode cL_law 1141 = .ok (.iinc 7 1, 3) := by decide +kernel
theorem dL_law_1144 : decode cL_law 1144 = .ok (.goto (-1078), 3) := by decide +kernel
theorem dL_law_1147 : decode cL_law 1147 = .ok (.aload_n 1, 1) := by decide +kernel
theorem dL_law_1148 : decode cL_law 1148 = .ok (.iconst 2, 1) := by decide +kernel
theorem dL_law_1149 : decode cL_law 1149 = .ok (.invokevirtual 42, 3) := by decide +kernel
theorem dL_law_1152 : decode cL_law 1152 = .ok (.istore 7, 2) := by decide +kernel
theorem dL_law_1154 : decode cL_law 1154 = .ok (.aload_n 1, 1) := by decide +kernel
theorem dL_law_1155 : decode cL_law 1155 = .ok (.iconst 4, 1) := by decide +kernel
theorem dL_law_1156 : decode cL_law 1156 = .ok (.invokevirtual 42, 3) := by decide +kernel
theorem dL_law_1159 : decode cL_law 1159 = .ok (.istore 8, 2) := by decide +kernel
theorem dL_law_1161 : decode cL_law 1161 = .ok (.aload_n 1, 1) := by decide +kernel
theorem dL_law_1162 : decode cL_law 1162 = .ok (.bipush 6, 2) := by decide +kernel
theorem dL_law_1164 : decode cL_law 1164 = .ok (.invokevirtual 42, 3) := by decide +kernel
theorem dL_law_1167 : decode cL_law 1167 = .ok (.istore 9, 2) := by decide +kernel
theorem dL_law_1169 : decode cL_law 1169 = .ok (.iconst 1, 1) := by decide +kernel
theorem dL_law_1170 : decode cL_law 1170 = .ok (.iload 4, 2) := by decide +kernel
theorem dL_law_1172 : decode cL_law 1172 = .ok (.ishl, 1) := by decide +kernel
theorem dL_law_1173 : decode cL_law 1173 = .ok (.iconst 1, 1) := by decide +kernel
theorem dL_law_1174 : decode cL_law 1174 = .ok (.isub, 1) := by decide +kernel
theorem dL_law_1175 : decode cL_law 1175 = .ok (.istore 10, 2) := by decide +kernel
theorem dL_law_1177 : decode cL_law 1177 = .ok (.aload_n 1, 1) := by decide +kernel
theorem dL_law_1178 : decode cL_law 1178 = .ok (.iconst 1, 1) := by decide +kernel
theorem dL_law_1179 : decode cL_law 1179 = .ok (.invokevirtual 95, 3) := by decide +kernel
theorem dL_law_1182 : decode cL_law 1182 = .ok (.iload 7, 2) := by decide +kernel
theorem dL_law_1184 : decode cL_law 1184 = .ok (.if_icmp .eq 5, 3) := by decide +kernel
theorem dL_law_1187 : decode cL_law 1187 = .ok (.iconst 0, 1) := by decide +kernel
theorem dL_law_1188 : decode cL_law 1188 = .ok (.ireturn, 1) := by decide +kernel
theorem dL_law_1189 : decode cL_law 1189 = .ok (.aload_n 1, 1) := by decide +kernel
theorem dL_law_1190 : decode cL_law 1190 = .ok (.invokevirtual 108, 3) := by decide +kernel
theorem dL_law_1193 : decode cL_law 1193 = .ok (.istore 11, 2) := by decide +kernel
theorem dL_law_1195 : decode cL_law 1195 = .ok (.aload_n 1, 1) := by decide +kernel
theorem dL_law_1196 : decode cL_law 1196 = .ok (.invokevirtual 119, 3) := by decide +kernel
theorem dL_law_1199 : decode cL_law 1199 = .ok (.istore 12, 2) := by decide +kernel
theorem dL_law_1201 : decode cL_law 1201 = .ok (.iload 11, 2) := by decide +kernel
theorem dL_law_1203 : decode cL_law 1203 = .ok (.iload 8, 2) := by decide +kernel
theorem dL_law_1205 : decode cL_law 1205 = .ok (.iand, 1) := by decide +kernel
theorem dL_law_1206 : decode cL_law 1206 = .ok (.ifCond .ne 36, 3) := by decide +kernel
theorem dL_law_1209 : decode cL_law 1209 = .ok (.iload 12, 2) := by decide +kernel
theorem dL_law_1211 : decode cL_law 1211 = .ok (.ifCond .lt 31, 3) := by decide +kernel
theorem dL_law_1214 : decode cL_law 1214 = .ok (.iload 12, 2) := by decide +kernel
theorem dL_law_1216 : decode cL_law 1216 = .ok (.ifCond .ne 7, 3) := by decide +kernel
theorem dL_law_1219 : decode cL_law 1219 = .ok (.iconst 1, 1) := by decide +kernel
theorem dL_law_1220 : decode cL_law 1220 = .ok (.goto 4, 3) := by decide +kernel
theorem dL_law_1223 : decode cL_law 1223 = .ok (.iconst 0, 1) := by decide +kernel
theorem dL_law_1224 : decode cL_law 1224 = .ok (.iload 11, 2) := by decide +kernel
theorem dL_law_1226 : decode cL_law 1226 = .ok (.iload 8, 2) := by decide +kernel
theorem dL_law_1228 : decode cL_law 1228 = .ok (.ior, 1) := by decide +kernel
theorem dL_law_1229 : decode cL_law 1229 = .ok (.iload 10, 2) := by decide +kernel
theorem dL_law_1231 : decode cL_law 1231 = .ok (.if_icmp .ne 7, 3) := by decide +kernel
theorem dL_law_1234 : decode cL_law 1234 = .ok (.iconst 1, 1) := by decide +kernel
theorem dL_law_1235 : decode cL_law 1235 = .ok (.goto 4, 3) := by decide +kernel
theorem dL_law_1238 : decode cL_law 1238 = .ok (.iconst 0, 1) := by decide +kernel
theorem dL_law_1239 : decode cL_law 1239 = .ok (.if_icmp .eq 5, 3) := by decide +kernel
theorem dL_law_1242 : decode cL_law 1242 = .ok (.iconst 0, 1) := by decide +kernel
theorem dL_law_1243 : decode cL_law 1243 = .ok (.ireturn, 1) := by decide +kernel
theorem dL_law_1244 : decode cL_law 1244 = .ok (.aload_n 1, 1) := by decide +kernel
theorem dL_law_1245 : decode cL_law 1245 = .ok (.iconst 0, 1) := by decide +kernel
theorem dL_law_1246 : decode cL_law 1246 = .ok (.invokevirtual 122, 3) := by decide +kernel
theorem dL_law_1249 : decode cL_law 1249 = .ok (.istore 13, 2) := by decide +kernel
theorem dL_law_1251 : decode cL_law 1251 = .ok (.aload_n 1, 1) := by decide +kernel
theorem dL_law_1252 : decode cL_law 1252 = .ok (.iconst 0, 1) := by decide +kernel
theorem dL_law_1253 : decode cL_law 1253 = .ok (.invokevirtual 125, 3) := by decide +kernel
theorem dL_law_1256 : decode cL_law 1256 = .ok (.ifCond .ne 34, 3) := by decide +kernel
theorem dL_law_1259 : decode cL_law 1259 = .ok (.aload_n 1, 1) := by decide +kernel
theorem dL_law_1260 : decode cL_law 1260 = .ok (.invokevirtual 119, 3) := by decide +kernel
theorem dL_law_1263 : decode cL_law 1263 = .ok (.iload 13, 2) := by decide +kernel
theorem dL_law_1265 : decode cL_law 1265 = .ok (.if_icmp .ne 25, 3) := by decide +kernel
theorem dL_law_1268 : decode cL_law 1268 = .ok (.iload 13, 2) := by decide +kernel
theorem dL_law_1270 : decode cL_law 1270 = .ok (.ifCond .lt 20, 3) := by decide +kernel
theorem dL_law_1273 : decode cL_law 1273 = .ok (.iload 11, 2) := by decide +kernel
theorem dL_law_1275 : decode cL_law 1275 = .ok (.iload 8, 2) := by decide +kernel
theorem dL_law_1277 : decode cL_law 1277 = .ok (.ior, 1) := by decide +kernel
theorem dL_law_1278 : decode cL_law 1278 = .ok (.iload 10, 2) := by decide +kernel
theorem dL_law_1280 : decode cL_law 1280 = .ok (.if_icmp .ne 12, 3) := by decide +kernel
theorem dL_law_1283 : decode cL_law 1283 = .ok (.iload 13, 2) := by decide +kernel
theorem dL_law_1285 : decode cL_law 1285 = .ok (.iload 9, 2) := by decide +kernel
theorem dL_law_1287 : decode cL_law 1287 = .ok (.if_icmp .ge 5, 3) := by decide +kernel
theorem dL_law_1290 : decode cL_law 1290 = .ok (.iconst 0, 1) := by decide +kernel
theorem dL_law_1291 : decode cL_law 1291 = .ok (.ireturn, 1) := by decide +kernel
theorem dL_law_1292 : decode cL_law 1292 = .ok (.aload_n 1, 1) := by decide +kernel
theorem dL_law_1293 : decode cL_law 1293 = .ok (.invokevirtual 128, 3) := by decide +kernel
theorem dL_law_1296 : decode cL_law 1296 = .ok (.istore 14, 2) := by decide +kernel
theorem dL_law_1298 : decode cL_law 1298 = .ok (.aload_n 1, 1) := by decide +kernel
theorem dL_law_1299 : decode cL_law 1299 = .ok (.invokevirtual 119, 3) := by decide +kernel
theorem dL_law_1302 : decode cL_law 1302 = .ok (.istore 15, 2) := by decide +kernel
theorem dL_law_1304 : decode cL_law 1304 = .ok (.iload 14, 2) := by decide +kernel
theorem dL_law_1306 : decode cL_law 1306 = .ok (.bipush (-9), 2) := by decide +kernel
theorem dL_law_1308 : decode cL_law 1308 = .ok (.if_icmp .eq 34, 3) := by decide +kernel
theorem dL_law_1311 : decode cL_law 1311 = .ok (.iload 14, 2) := by decide +kernel
theorem dL_law_1313 : decode cL_law 1313 = .ok (.iconst 1, 1) := by decide +kernel
theorem dL_law_1314 : decode cL_law 1314 = .ok (.if_icmp .lt 40, 3) := by decide +kernel
theorem dL_law_1317 : decode cL_law 1317 = .ok (.iload 14, 2) := by decide +kernel
theorem dL_law_1319 : decode cL_law 1319 = .ok (.iload 4, 2) := by decide +kernel
theorem dL_law_1321 : decode cL_law 1321 = .ok (.if_icmp .gt 33, 3) := by decide +kernel
theorem dL_law_1324 : decode cL_law 1324 = .ok (.iload 15, 2) := by decide +kernel
theorem dL_law_1326 : decode cL_law 1326 = .ok (.invokestatic 131, 3) := by decide +kernel
theorem dL_law_1329 : decode cL_law 1329 = .ok (.iload 14, 2) := by decide +kernel
theorem dL_law_1331 : decode cL_law 1331 = .ok (.if_icmp .ne 23, 3) := by decide +kernel
theorem dL_law_1334 : decode cL_law 1334 = .ok (.iload 15, 2) := by decide +kernel
theorem dL_law_1336 : decode cL_law 1336 = .ok (.iload 8, 2) := by decide +kernel
theorem dL_law_1338 : decode cL_law 1338 = .ok (.iand, 1) := by decide +kernel
theorem dL_law_1339 : decode cL_law 1339 = .ok (.ifCond .ne 15, 3) := by decide +kernel
theorem dL_law_1342 : decode cL_law 1342 = .ok (.iload 14, 2) := by decide +kernel
theorem dL_law_1344 : decode cL_law 1344 = .ok (.bipush (-9), 2) := by decide +kernel
theorem dL_law_1346 : decode cL_law 1346 = .ok (.if_icmp .ne 10, 3) := by decide +kernel
theorem dL_law_1349 : decode cL_law 1349 = .ok (.iload 13, 2) := by decide +kernel
theorem dL_law_1351 : decode cL_law 1351 = .ok (.ifCond .ge 5, 3) := by decide +kernel
theorem dL_law_1354 : decode cL_law 1354 = .ok (.iconst 0, 1) := by decide +kernel
theorem dL_law_1355 : decode cL_law 1355 = .ok (.ireturn, 1) := by decide +kernel
theorem dL_law_1356 : decode cL_law 1356 = .ok (.iload 14, 2) := by decide +kernel
theorem dL_law_1358 : decode cL_law 1358 = .ok (.ifCond .le 164, 3) := by decide +kernel
theorem dL_law_1361 : decode cL_law 1361 = .ok (.iconst 0, 1) := by decide +kernel
theorem dL_law_1362 : decode cL_law 1362 = .ok (.istore 16, 2) := by decide +kernel
theorem dL_law_1364 : decode cL_law 1364 = .ok (.iconst 1, 1) := by decide +kernel
theorem dL_law_1365 : decode cL_law 1365 = .ok (.istore 17, 2) := by decide +kernel
theorem dL_law_1367 : decode cL_law 1367 = .ok (.iconst 0, 1) := by decide +kernel
theorem dL_law_1368 : decode cL_law 1368 = .ok (.istore 18, 2) := by decide +kernel
theorem dL_law_1370 : decode cL_law 1370 = .ok (.iload 18, 2) := by decide +kernel
theorem dL_law_1372 : decode cL_law 1372 = .ok (.iload 5, 2) := by decide +kernel
theorem dL_law_1374 : decode cL_law 1374 = .ok (.if_icmp .ge 16, 3) := by decide +kernel
theorem dL_law_1377 : decode cL_law 1377 = .ok (.iload 17, 2) := by decide +kernel
theorem dL_law_1379 : decode cL_law 1379 = .ok (.iload 4, 2) := by decide +kernel
theorem dL_law_1381 : decode cL_law 1381 = .ok (.imul, 1) := by decide +kernel
theorem dL_law_1382 : decode cL_law 1382 = .ok (.istore 17, 2) := by decide +kernel
theorem dL_law_1384 : decode cL_law 1384 = .ok (.iinc 18 1, 3) := by decide +kernel
theorem dL_law_1387 : decode cL_law 1387 = .ok (.goto (-17), 3) := by decide +kernel
theorem dL_law_1390 : decode cL_law 1390 = .ok (.aload_n 1, 1) := by decide +kernel
theorem dL_law_1391 : decode cL_law 1391 = .ok (.iconst 1, 1) := by decide +kernel
theorem dL_law_1392 : decode cL_law 1392 = .ok (.iload 5, 2) := by decide +kernel
theorem dL_law_1394 : decode cL_law 1394 = .ok (.invokevirtual 134, 3) := by decide +kernel
theorem dL_law_1397 : decode cL_law 1397 = .ok (.iload 5, 2) := by decide +kernel
theorem dL_law_1399 : decode cL_law 1399 = .ok (.if_icmp .eq 5, 3) := by decide +kernel
theorem dL_law_1402 : decode cL_law 1402 = .ok (.iconst 0, 1) := by decide +kernel
theorem dL_law_1403 : decode cL_law 1403 = .ok (.ireturn, 1) := by decide +kernel
theorem dL_law_1404 : decode cL_law 1404 = .ok (.iconst 0, 1) := by decide +kernel
theorem dL_law_1405 : decode cL_law 1405 = .ok (.istore 18, 2) := by decide +kernel
theorem dL_law_1407 : decode cL_law 1407 = .ok (.iload 18, 2) := by decide +kernel
theorem dL_law_1409 : decode cL_law 1409 = .ok (.iload 17, 2) := by decide +kernel
theorem dL_law_1411 : decode cL_law 1411 = .ok (.if_icmp .ge 104, 3) := by decide +kernel
theorem dL_law_1414 : decode cL_law 1414 = .ok (.iload 16, 2) := by decide +kernel
theorem dL_law_1416 : decode cL_law 1416 = .ok (.ifCond .ne 99, 3) := by decide +kernel
theorem dL_law_1419 : decode cL_law 1419 = .ok (.iload 18, 2) := by decide +kernel
theorem dL_law_1421 : decode cL_law 1421 = .ok (.istore 19, 2) := by decide +kernel
theorem dL_law_1423 : decode cL_law 1423 = .ok (.iconst 1, 1) := by decide +kernel
theorem dL_law_1424 : decode cL_law 1424 = .ok (.istore 20, 2) := by decide +kernel
theorem dL_law_1426 : decode cL_law 1426 = .ok (.iconst 0, 1) := by decide +kernel
theorem dL_law_1427 : decode cL_law 1427 = .ok (.istore 21, 2) := by decide +kernel
theorem dL_law_1429 : decode cL_law 1429 = .ok (.iload 21, 2) := by decide +kernel
theorem dL_law_1431 : decode cL_law 1431 = .ok (.iload 5, 2) := by decide +kernel
theorem dL_law_1433 : decode cL_law 1433 = .ok (.if_icmp .ge 56, 3) := by decide +kernel
theorem dL_law_1436 : decode cL_law 1436 = .ok (.iload 20, 2) := by decide +kernel
theorem dL_law_1438 : decode cL_law 1438 = .ok (.iload 15, 2) := by decide +kernel
theorem dL_law_1440 : decode cL_law 1440 = .ok (.iload 19, 2) := by decide +kernel
theorem dL_law_1442 : decode cL_law 1442 = .ok (.iload 4, 2) := by decide +kernel
theorem dL_law_1444 : decode cL_law 1444 = .ok (.irem, 1) := by decide +kernel
theorem dL_law_1445 : decode cL_law 1445 = .ok (.ishr, 1) := by decide +kernel
theorem dL_law_1446 : decode cL_law 1446 = .ok (.iconst 1, 1) := by decide +kernel
theorem dL_law_1447 : decode cL_law 1447 = .ok (.iand, 1) := by decide +kernel
theorem dL_law_1448 : decode cL_law 1448 = .ok (.iconst 1, 1) := by decide +kernel
theorem dL_law_1449 : decode cL_law 1449 = .ok (.if_icmp .ne 23, 3) := by decide +kernel
theorem dL_law_1452 : decode cL_law 1452 = .ok (.aload_n 1, 1) := by decide +kernel
theorem dL_law_1453 : decode cL_law 1453 = .ok (.iconst 1, 1) := by decide +kernel
theorem dL_law_1454 : decode cL_law 1454 = .ok (.iload 21, 2) := by decide +kernel
theorem dL_law_1456 : decode cL_law 1456 = .ok (.iload 19, 2) := by decide +kernel
theorem dL_law_1458 : decode cL_law 1458 = .ok (.iload 4, 2) := by decide +kernel
theorem dL_law_1460 : decode cL_law 1460 = .ok (.irem, 1) := by decide +kernel
theorem dL_law_1461 : decode cL_law 1461 = .ok (.invokevirtual 137, 3) := by decide +kernel
theorem dL_law_1464 : decode cL_law 1464 = .ok (.iconst 1, 1) := by decide +kernel
theorem dL_law_1465 : decode cL_law 1465 = .ok (.if_icmp .ne 7, 3) := by decide +kernel
theorem dL_law_1468 : decode cL_law 1468 = .ok (.iconst 1, 1) := by decide +kernel
theorem dL_law_1469 : decode cL_law 1469 = .ok (.goto 4, 3) := by decide +kernel
theorem dL_law_1472 : decode cL_law 1472 = .ok (.iconst 0, 1) := by decide +kernel
theorem dL_law_1473 : decode cL_law 1473 = .ok (.iand, 1) := by decide +kernel
theorem dL_law_1474 : decode cL_law 1474 = .ok (.istore 20, 2) := by decide +kernel
theorem dL_law_1476 : decode cL_law 1476 = .ok (.iload 19, 2) := by decide +kernel
theorem dL_law_1478 : decode cL_law 1478 = .ok (.iload 4, 2) := by decide +kernel
theorem dL_law_1480 : decode cL_law 1480 = .ok (.idiv, 1) := by decide +kernel
theorem dL_law_1481 : decode cL_law 1481 = .ok (.istore 19, 2) := by decide +kernel
theorem dL_law_1483 : decode cL_law 1483 = .ok (.iinc 21 1, 3) := by decide +kernel
theorem dL_law_1486 : decode cL_law 1486 = .ok (.goto (-57), 3) := by decide +kernel
theorem dL_law_1489 : decode cL_law 1489 = .ok (.iload 20, 2) := by decide +kernel
theorem dL_law_1491 : decode cL_law 1491 = .ok (.ifCond .eq 15, 3) := by decide +kernel
theorem dL_law_1494 : decode cL_law 1494 = .ok (.aload_n 1, 1) := by decide +kernel
theorem dL_law_1495 : decode cL_law 1495 = .ok (.iconst 1, 1) := by decide +kernel
theorem dL_law_1496 : decode cL_law 1496 = .ok (.invokevirtual 125, 3) := by decide +kernel
theorem dL_law_1499 : decode cL_law 1499 = .ok (.ifCond .ne 7, 3) := by decide +kernel
theorem dL_law_1502 : decode cL_law 1502 = .ok (.iconst 1, 1) := by decide +kernel
theorem dL_law_1503 : decode cL_law 1503 = .ok (.goto 4, 3) := by decide +kernel
theorem dL_law_1506 : decode cL_law 1506 = .ok (.iconst 0, 1) := by decide +kernel
theorem dL_law_1507 : decode cL_law 1507 = .ok (.istore 16, 2) := by decide +kernel
theorem dL_law_1509 : decode cL_law 1509 = .ok (.iinc 18 1, 3) := by decide +kernel
theorem dL_law_1512 : decode cL_law 1512 = .ok (.goto (-105), 3) := by decide +kernel
theorem dL_law_1515 : decode cL_law 1515 = .ok (.iload 16, 2) := by decide +kernel
theorem dL_law_1517 : decode cL_law 1517 = .ok (.ifCond .ne 5, 3) := by decide +kernel
theorem dL_law_1520 : decode cL_law 1520 = .ok (.iconst 0, 1) := by decide +kernel
theorem dL_law_1521 : decode cL_law 1521 = .ok (.ireturn, 1) := by decide +kernel
theorem dL_law_1522 : decode cL_law 1522 = .ok (.iconst 0, 1) := by decide +kernel
theorem dL_law_1523 : decode cL_law 1523 = .ok (.istore 16, 2) := by decide +kernel
theorem dL_law_1525 : decode cL_law 1525 = .ok (.iload 16, 2) := by decide +kernel
theorem dL_law_1527 : decode cL_law 1527 = .ok (.iload 4, 2) := by decide +kernel
theorem dL_law_1529 : decode cL_law 1529 = .ok (.if_icmp .ge 177, 3) := by decide +kernel
theorem dL_law_1532 : decode cL_law 1532 = .ok (.aload_n 1, 1) := by decide +kernel
theorem dL_law_1533 : decode cL_law 1533 = .ok (.iload 16, 2) := by decide +kernel
theorem dL_law_1535 : decode cL_law 1535 = .ok (.invokevirtual 140, 3) := by decide +kernel
theorem dL_law_1538 : decode cL_law 1538 = .ok (.istore 17, 2) := by decide +kernel
theorem dL_law_1540 : decode cL_law 1540 = .ok (.iload 17, 2) := by decide +kernel
theorem dL_law_1542 : decode cL_law 1542 = .ok (.bipush (-9), 2) := by decide +kernel
theorem dL_law_1544 : decode cL_law 1544 = .ok (.if_icmp .eq 27, 3) := by decide +kernel
theorem dL_law_1547 : decode cL_law 1547 = .ok (.iload 17, 2) := by decide +kernel
theorem dL_law_1549 : decode cL_law 1549 = .ok (.iconst 1, 1) := by decide +kernel
theorem dL_law_1550 : decode cL_law 1550 = .ok (.if_icmp .lt 61, 3) := by decide +kernel
theorem dL_law_1553 : decode cL_law 1553 = .ok (.iload 17, 2) := by decide +kernel
theorem dL_law_1555 : decode cL_law 1555 = .ok (.bipush 40, 2) := by decide +kernel
theorem dL_law_1557 : decode cL_law 1557 = .ok (.if_icmp .gt 54, 3) := by decide +kernel
theorem dL_law_1560 : decode cL_law 1560 = .ok (.iload 8, 2) := by decide +kernel
theorem dL_law_1562 : decode cL_law 1562 = .ok (.iload 16, 2) := by decide +kernel
theorem dL_law_1564 : decode cL_law 1564 = .ok (.ishr, 1) := by decide +kernel
theorem dL_law_1565 : decode cL_law 1565 = .ok (.iconst 1, 1) := by decide +kernel
theorem dL_law_1566 : decode cL_law 1566 = .ok (.iand, 1) := by decide +kernel
theorem dL_law_1567 : decode cL_law 1567 = .ok (.iconst 1, 1) := by decide +kernel
theorem dL_law_1568 : decode cL_law 1568 = .ok (.if_icmp .eq 43, 3) := by decide +kernel
theorem dL_law_1571 : decode cL_law 1571 = .ok (.iload 17, 2) := by decide +kernel
theorem dL_law_1573 : decode cL_law 1573 = .ok (.iconst 1, 1) := by decide +kernel
theorem dL_law_1574 : decode cL_law 1574 = .ok (.if_icmp .ne 7, 3) := by decide +kernel
theorem dL_law_1577 : decode cL_law 1577 = .ok (.iconst 1, 1) := by decide +kernel
theorem dL_law_1578 : decode cL_law 1578 = .ok (.goto 4, 3) := by decide +kernel
theorem dL_law_1581 : decode cL_law 1581 = .ok (.iconst 0, 1) := by decide +kernel
theorem dL_law_1582 : decode cL_law 1582 = .ok (.iload 10, 2) := by decide +kernel
theorem dL_law_1584 : decode cL_law 1584 = .ok (.iload 8, 2) := by decide +kernel
theorem dL_law_1586 : decode cL_law 1586 = .ok (.iconst (-1), 1) := by decide +kernel
theorem dL_law_1587 : decode cL_law 1587 = .ok (.ixor, 1) := by decide +kernel
theorem dL_law_1588 : decode cL_law 1588 = .ok (.iand, 1) := by decide +kernel
theorem dL_law_1589 : decode cL_law 1589 = .ok (.iload 11, 2) := by decide +kernel
theorem dL_law_1591 : decode cL_law 1591 = .ok (.iconst (-1), 1) := by decide +kernel
theorem dL_law_1592 : decode cL_law 1592 = .ok (.ixor, 1) := by decide +kernel
theorem dL_law_1593 : decode cL_law 1593 = .ok (.iand, 1) := by decide +kernel
theorem dL_law_1594 : decode cL_law 1594 = .ok (.iload 16, 2) := by decide +kernel
theorem dL_law_1596 : decode cL_law 1596 = .ok (.ishr, 1) := by decide +kernel
theorem dL_law_1597 : decode cL_law 1597 = .ok (.iconst 1, 1) := by decide +kernel
theorem dL_law_1598 : decode cL_law 1598 = .ok (.iand, 1) := by decide +kernel
theorem dL_law_1599 : decode cL_law 1599 = .ok (.iconst 1, 1) := by decide +kernel
theorem dL_law_1600 : decode cL_law 1600 = .ok (.if_icmp .ne 7, 3) := by decide +kernel
theorem dL_law_1603 : decode cL_law 1603 = .ok (.iconst 1, 1) := by decide +kernel
theorem dL_law_1604 : decode cL_law 1604 = .ok (.goto 4, 3) := by decide +kernel
theorem dL_law_1607 : decode cL_law 1607 = .ok (.iconst 0, 1) := by decide +kernel
theorem dL_law_1608 : decode cL_law 1608 = .ok (.if_icmp .eq 5, 3) := by decide +kernel
theorem dL_law_1611 : decode cL_law 1611 = .ok (.iconst 0, 1) := by decide +kernel
theorem dL_law_1612 : decode cL_law 1612 = .ok (.ireturn, 1) := by decide +kernel
theorem dL_law_1613 : decode cL_law 1613 = .ok (.iload 17, 2) := by decide +kernel
theorem dL_law_1615 : decode cL_law 1615 = .ok (.ifCond .le 50, 3) := by decide +kernel
theorem dL_law_1618 : decode cL_law 1618 = .ok (.aload_n 1, 1) := by decide +kernel
theorem dL_law_1619 : decode cL_law 1619 = .ok (.iload 17, 2) := by decide +kernel
theorem dL_law_1621 : decode cL_law 1621 = .ok (.invokevirtual 111, 3) := by decide +kernel
theorem dL_law_1624 : decode cL_law 1624 = .ok (.ifCond .lt 39, 3) := by decide +kernel
theorem dL_law_1627 : decode cL_law 1627 = .ok (.aload_n 1, 1) := by decide +kernel
theorem dL_law_1628 : decode cL_law 1628 = .ok (.invokevirtual 119, 3) := by decide +kernel
theorem dL_law_1631 : decode cL_law 1631 = .ok (.iload 16, 2) := by decide +kernel
theorem dL_law_1633 : decode cL_law 1633 = .ok (.ishr, 1) := by decide +kernel
theorem dL_law_1634 : decode cL_law 1634 = .ok (.iconst 1, 1) := by decide +kernel
theorem dL_law_1635 : decode cL_law 1635 = .ok (.iand, 1) := by decide +kernel
theorem dL_law_1636 : decode cL_law 1636 = .ok (.iconst 1, 1) := by decide +kernel
theorem dL_law_1637 : decode cL_law 1637 = .ok (.if_icmp .ne 26, 3) := by decide +kernel
theorem dL_law_1640 : decode cL_law 1640 = .ok (.aload_n 1, 1) := by decide +kernel
theorem dL_law_1641 : decode cL_law 1641 = .ok (.iload 17, 2) := by decide +kernel
theorem dL_law_1643 : decode cL_law 1643 = .ok (.iconst 1, 1) := by decide +kernel
theorem dL_law_1644 : decode cL_law 1644 = .ok (.isub, 1) := by decide +kernel
theorem dL_law_1645 : decode cL_law 1645 = .ok (.invokevirtual 111, 3) := by decide +kernel
theorem dL_law_1648 : decode cL_law 1648 = .ok (.ifCond .lt 15, 3) := by decide +kernel
theorem dL_law_1651 : decode cL_law 1651 = .ok (.aload_n 1, 1) := by decide +kernel
theorem dL_law_1652 : decode cL_law 1652 = .ok (.invokevirtual 119, 3) := by decide +kernel
theorem dL_law_1655 : decode cL_law 1655 = .ok (.iload 16, 2) := by decide +kernel
theorem dL_law_1657 : decode cL_law 1657 = .ok (.ishr, 1) := by decide +kernel
theorem dL_law_1658 : decode cL_law 1658 = .ok (.iconst 1, 1) := by decide +kernel
theorem dL_law_1659 : decode cL_law 1659 = .ok (.iand, 1) := by decide +kernel
theorem dL_law_1660 : decode cL_law 1660 = .ok (.ifCond .eq 5, 3) := by decide +kernel
theorem dL_law_1663 : decode cL_law 1663 = .ok (.iconst 0, 1) := by decide +kernel
theorem dL_law_1664 : decode cL_law 1664 = .ok (.ireturn, 1) := by decide +kernel
theorem dL_law_1665 : decode cL_law 1665 = .ok (.iload 17, 2) := by decide +kernel
theorem dL_law_1667 : decode cL_law 1667 = .ok (.ifCond .ge 33, 3) := by decide +kernel
theorem dL_law_1670 : decode cL_law 1670 = .ok (.aload_n 1, 1) := by decide +kernel
theorem dL_law_1671 : decode cL_law 1671 = .ok (.bipush 40, 2) := by decide +kernel
theorem dL_law_1673 : decode cL_law 1673 = .ok (.invokevirtual 111, 3) := by decide +kernel
theorem dL_law_1676 : decode cL_law 1676 = .ok (.ifCond .lt 22, 3) := by decide +kernel
theorem dL_law_1679 : decode cL_law 1679 = .ok (.aload_n 1, 1) := by decide +kernel
theorem dL_law_1680 : decode cL_law 1680 = .ok (.invokevirtual 119, 3) := by decide +kernel
theorem dL_law_1683 : decode cL_law 1683 = .ok (.iload 16, 2) := by decide +kernel
theorem dL_law_1685 : decode cL_law 1685 = .ok (.ishr, 1) := by decide +kernel
theorem dL_law_1686 : decode cL_law 1686 = .ok (.iconst 1, 1) := by decide +kernel
theorem dL_law_1687 : decode cL_law 1687 = .ok (.iand, 1) := by decide +kernel
theorem dL_law_1688 : decode cL_law 1688 = .ok (.iload 8, 2) := by decide +kernel
theorem dL_law_1690 : decode cL_law 1690 = .ok (.iload 16, 2) := by decide +kernel
theorem dL_law_1692 : decode cL_law 1692 = .ok (.ishr, 1) := by decide +kernel
theorem dL_law_1693 : decode cL_law 1693 = .ok (.iconst 1, 1) := by decide +kernel
theorem dL_law_1694 : decode cL_law 1694 = .ok (.iand, 1) := by decide +kernel
theorem dL_law_1695 : decode cL_law 1695 = .ok (.if_icmp .eq 5, 3) := by decide +kernel
theorem dL_law_1698 : decode cL_law 1698 = .ok (.iconst 0, 1) := by decide +kernel
theorem dL_law_1699 : decode cL_law 1699 = .ok (.ireturn, 1) := by decide +kernel
theorem dL_law_1700 : decode cL_law 1700 = .ok (.iinc 16 1, 3) := by decide +kernel
theorem dL_law_1703 : decode cL_law 1703 = .ok (.goto (-178), 3) := by decide +kernel
theorem dL_law_1706 : decode cL_law 1706 = .ok (.iload 9, 2) := by decide +kernel
theorem dL_law_1708 : decode cL_law 1708 = .ok (.istore 16, 2) := by decide +kernel
theorem dL_law_1710 : decode cL_law 1710 = .ok (.iconst 0, 1) := by decide +kernel
theorem dL_law_1711 : decode cL_law 1711 = .ok (.istore 17, 2) := by decide +kernel
theorem dL_law_1713 : decode cL_law 1713 = .ok (.iload 17, 2) := by decide +kernel
theorem dL_law_1715 : decode cL_law 1715 = .ok (.bipush 41, 2) := by decide +kernel
theorem dL_law_1717 : decode cL_law 1717 = .ok (.if_icmp .ge 54, 3) := by decide +kernel
theorem dL_law_1720 : decode cL_law 1720 = .ok (.aload_n 1, 1) := by decide +kernel
theorem dL_law_1721 : decode cL_law 1721 = .ok (.iload 17, 2) := by decide +kernel
theorem dL_law_1723 : decode cL_law 1723 = .ok (.invokevirtual 111, 3) := by decide +kernel
theorem dL_law_1726 : decode cL_law 1726 = .ok (.istore 18, 2) := by decide +kernel
theorem dL_law_1728 : decode cL_law 1728 = .ok (.iload 18, 2) := by decide +kernel
theorem dL_law_1730 : decode cL_law 1730 = .ok (.iload 16, 2) := by decide +kernel
theorem dL_law_1732 : decode cL_law 1732 = .ok (.if_icmp .gt 27, 3) := by decide +kernel
theorem dL_law_1735 : decode cL_law 1735 = .ok (.aload_n 1, 1) := by decide +kernel
theorem dL_law_1736 : decode cL_law 1736 = .ok (.invokevirtual 119, 3) := by decide +kernel
theorem dL_law_1739 : decode cL_law 1739 = .ok (.iload 8, 2) := by decide +kernel
theorem dL_law_1741 : decode cL_law 1741 = .ok (.iand, 1) := by decide +kernel
theorem dL_law_1742 : decode cL_law 1742 = .ok (.iload 8, 2) := by decide +kernel
theorem dL_law_1744 : decode cL_law 1744 = .ok (.if_icmp .ne 15, 3) := by decide +kernel
theorem dL_law_1747 : decode cL_law 1747 = .ok (.iload 17, 2) := by decide +kernel
theorem dL_law_1749 : decode cL_law 1749 = .ok (.ifCond .ne 12, 3) := by decide +kernel
theorem dL_law_1752 : decode cL_law 1752 = .ok (.iload 18, 2) := by decide +kernel
theorem dL_law_1754 : decode cL_law 1754 = .ok (.iload 9, 2) := by decide +kernel
theorem dL_law_1756 : decode cL_law 1756 = .ok (.if_icmp .eq 5, 3) := by decide +kernel
theorem dL_law_1759 : decode cL_law 1759 = .ok (.iconst 0, 1) := by decide +kernel
theorem dL_law_1760 : decode cL_law 1760 = .ok (.ireturn, 1) := by decide +kernel
theorem dL_law_1761 : decode cL_law 1761 = .ok (.iload 18, 2) := by decide +kernel
theorem dL_law_1763 : decode cL_law 1763 = .ok (.istore 16, 2) := by decide +kernel
theorem dL_law_1765 : decode cL_law 1765 = .ok (.iinc 17 4, 3) := by decide +kernel
theorem dL_law_1768 : decode cL_law 1768 = .ok (.goto (-55), 3) := by decide +kernel
theorem dL_law_1771 : decode cL_law 1771 = .ok (.iconst 0, 1) := by decide +kernel
theorem dL_law_1772 : decode cL_law 1772 = .ok (.istore 17, 2) := by decide +kernel
theorem dL_law_1774 : decode cL_law 1774 = .ok (.iconst 0, 1) := by decide +kernel
theorem dL_law_1775 : decode cL_law 1775 = .ok (.istore 18, 2) := by decide +kernel
theorem dL_law_1777 : decode cL_law 1777 = .ok (.iload 18, 2) := by decide +kernel
theorem dL_law_1779 : decode cL_law 1779 = .ok (.iconst 4, 1) := by decide +kernel
theorem dL_law_1780 : decode cL_law 1780 = .ok (.if_icmp .ge 262, 3) := by decide +kernel
theorem dL_law_1783 : decode cL_law 1783 = .ok (.aload_n 1, 1) := by decide +kernel
theorem dL_law_1784 : decode cL_law 1784 = .ok (.iload 18, 2) := by decide +kernel
theorem dL_law_1786 : decode cL_law 1786 = .ok (.iconst 2, 1) := by decide +kernel
theorem dL_law_1787 : decode cL_law 1787 = .ok (.invokevirtual 143, 3) := by decide +kernel
theorem dL_law_1790 : decode cL_law 1790 = .ok (.istore 19, 2) := by decide +kernel
theorem dL_law_1792 : decode cL_law 1792 = .ok (.iload 17, 2) := by decide +kernel
theorem dL_law_1794 : decode cL_law 1794 = .ok (.ifCond .ge 11, 3) := by decide +kernel
theorem dL_law_1797 : decode cL_law 1797 = .ok (.iload 19, 2) := by decide +kernel
theorem dL_law_1799 : decode cL_law 1799 = .ok (.ifCond .lt 37, 3) := by decide +kernel
theorem dL_law_1802 : decode cL_law 1802 = .ok (.goto 32, 3) := by decide +kernel
theorem dL_law_1805 : decode cL_law 1805 = .ok (.iload 19, 2) := by decide +kernel
theorem dL_law_1807 : decode cL_law 1807 = .ok (.ifCond .lt 10, 3) := by decide +kernel
theorem dL_law_1810 : decode cL_law 1810 = .ok (.iload 19, 2) := by decide +kernel
theorem dL_law_1812 : decode cL_law 1812 = .ok (.iload 17, 2) := by decide +kernel
theorem dL_law_1814 : decode cL_law 1814 = .ok (.if_icmp .lt 20, 3) := by decide +kernel
theorem dL_law_1817 : decode cL_law 1817 = .ok (.iload 19, 2) := by decide +kernel
theorem dL_law_1819 : decode cL_law 1819 = .ok (.iload 18, 2) := by decide +kernel
theorem dL_law_1821 : decode cL_law 1821 = .ok (.if_icmp .gt 13, 3) := by decide +kernel
theorem dL_law_1824 : decode cL_law 1824 = .ok (.iload 18, 2) := by decide +kernel
theorem dL_law_1826 : decode cL_law 1826 = .ok (.ifCond .ne 10, 3) := by decide +kernel
theorem dL_law_1829 : decode cL_law 1829 = .ok (.iload 19, 2) := by decide +kernel
theorem dL_law_1831 : decode cL_law 1831 = .ok (.ifCond .eq 5, 3) := by decide +kernel
theorem dL_law_1834 : decode cL_law 1834 = .ok (.iconst 0, 1) := by decide +kernel
theorem dL_law_1835 : decode cL_law 1835 = .ok (.ireturn, 1) := by decide +kernel
theorem dL_law_1836 : decode cL_law 1836 = .ok (.iload 19, 2) := by decide +kernel
theorem dL_law_1838 : decode cL_law 1838 = .ok (.istore 17, 2) := by decide +kernel
theorem dL_law_1840 : decode cL_law 1840 = .ok (.aload_n 1, 1) := by decide +kernel
theorem dL_law_1841 : decode cL_law 1841 = .ok (.iload 18, 2) := by decide +kernel
theorem dL_law_1843 : decode cL_law 1843 = .ok (.invokevirtual 111, 3) := by decide +kernel
theorem dL_law_1846 : decode cL_law 1846 = .ok (.ifCond .ge 5, 3) := by decide +kernel
theorem dL_law_1849 : decode cL_law 1849 = .ok (.iconst 0, 1) := by decide +kernel
theorem dL_law_1850 : decode cL_law 1850 = .ok (.ireturn, 1) := by decide +kernel
theorem dL_law_1851 : decode cL_law 1851 = .ok (.aload_n 1, 1) := by decide +kernel
theorem dL_law_1852 : decode cL_law 1852 = .ok (.invokevirtual 119, 3) := by decide +kernel
theorem dL_law_1855 : decode cL_law 1855 = .ok (.iload 8, 2) := by decide +kernel
theorem dL_law_1857 : decode cL_law 1857 = .ok (.if_icmp .ne 7, 3) := by decide +kernel
theorem dL_law_1860 : decode cL_law 1860 = .ok (.iconst 1, 1) := by decide +kernel
theorem dL_law_1861 : decode cL_law 1861 = .ok (.goto 4, 3) := by decide +kernel
theorem dL_law_1864 : decode cL_law 1864 = .ok (.iconst 0, 1) := by decide +kernel
theorem dL_law_1865 : decode cL_law 1865 = .ok (.istore 20, 2) := by decide +kernel
theorem dL_law_1867 : decode cL_law 1867 = .ok (.iload 19, 2) := by decide +kernel
theorem dL_law_1869 : decode cL_law 1869 = .ok (.ifCond .ne 7, 3) := by decide +kernel
theorem dL_law_1872 : decode cL_law 1872 = .ok (.iconst 1, 1) := by decide +kernel
theorem dL_law_1873 : decode cL_law 1873 = .ok (.goto 4, 3) := by decide +kernel
theorem dL_law_1876 : decode cL_law 1876 = .ok (.iconst 0, 1) := by decide +kernel
theorem dL_law_1877 : decode cL_law 1877 = .ok (.iload 20, 2) := by decide +kernel
theorem dL_law_1879 : decode cL_law 1879 = .ok (.if_icmp .eq 5, 3) := by decide +kernel
theorem dL_law_1882 : decode cL_law 1882 = .ok (.iconst 0, 1) := by decide +kernel
theorem dL_law_1883 : decode cL_law 1883 = .ok (.ireturn, 1) := by decide +kernel
theorem dL_law_1884 : decode cL_law 1884 = .ok (.iload 19, 2) := by decide +kernel
theorem dL_law_1886 : decode cL_law 1886 = .ok (.ifCond .lt 150, 3) := by decide +kernel
theorem dL_law_1889 : decode cL_law 1889 = .ok (.iload 7, 2) := by decide +kernel
theorem dL_law_1891 : decode cL_law 1891 = .ok (.iload 18, 2) := by decide +kernel
theorem dL_law_1893 : decode cL_law 1893 = .ok (.iadd, 1) := by decide +kernel
theorem dL_law_1894 : decode cL_law 1894 = .ok (.iload 18, 2) := by decide +kernel
theorem dL_law_1896 : decode cL_law 1896 = .ok (.iadd, 1) := by decide +kernel
theorem dL_law_1897 : decode cL_law 1897 = .ok (.bipush 40, 2) := by decide +kernel
theorem dL_law_1899 : decode cL_law 1899 = .ok (.if_icmp .le 6, 3) := by decide +kernel
theorem dL_law_1902 : decode cL_law 1902 = .ok (.goto 134, 3) := by decide +kernel
theorem dL_law_1905 : decode cL_law 1905 = .ok (.iconst 0, 1) := by decide +kernel
theorem dL_law_1906 : decode cL_law 1906 = .ok (.istore 21, 2) := by decide +kernel
theorem dL_law_1908 : decode cL_law 1908 = .ok (.iconst 0, 1) := by decide +kernel
theorem dL_law_1909 : decode cL_law 1909 = .ok (.istore 22, 2) := by decide +kernel
theorem dL_law_1911 : decode cL_law 1911 = .ok (.iload 22, 2) := by decide +kernel
theorem dL_law_1913 : decode cL_law 1913 = .ok (.iload 18, 2) := by decide +kernel
theorem dL_law_1915 : decode cL_law 1915 = .ok (.if_icmp .ge 92, 3) := by decide +kernel
theorem dL_law_1918 : decode cL_law 1918 = .ok (.aload_n 1, 1) := by decide +kernel
theorem dL_law_1919 : decode cL_law 1919 = .ok (.iconst 2, 1) := by decide +kernel
theorem dL_law_1920 : decode cL_law 1920 = .ok (.iload 22, 2) := by decide +kernel
theorem dL_law_1922 : decode cL_law 1922 = .ok (.invokevirtual 146, 3) := by decide +kernel
theorem dL_law_1925 : decode cL_law 1925 = .ok (.iconst 1, 1) := by decide +kernel
theorem dL_law_1926 : decode cL_law 1926 = .ok (.if_icmp .eq 5, 3) := by decide +kernel
theorem dL_law_1929 : decode cL_law 1929 = .ok (.iconst 0, 1) := by decide +kernel
theorem dL_law_1930 : decode cL_law 1930 = .ok (.ireturn, 1) := by decide +kernel
theorem dL_law_1931 : decode cL_law 1931 = .ok (.aload_n 1, 1) := by decide +kernel
theorem dL_law_1932 : decode cL_law 1932 = .ok (.invokevirtual 119, 3) := by decide +kernel
theorem dL_law_1935 : decode cL_law 1935 = .ok (.istore 23, 2) := by decide +kernel
theorem dL_law_1937 : decode cL_law 1937 = .ok (.iload 23, 2) := by decide +kernel
theorem dL_law_1939 : decode cL_law 1939 = .ok (.bipush (-9), 2) := by decide +kernel
theorem dL_law_1941 : decode cL_law 1941 = .ok (.if_icmp .lt 43, 3) := by decide +kernel
theorem dL_law_1944 : decode cL_law 1944 = .ok (.iload 23, 2) := by decide +kernel
theorem dL_law_1946 : decode cL_law 1946 = .ok (.iload 4, 2) := by decide +kernel
theorem dL_law_1948 : decode cL_law 1948 = .ok (.if_icmp .ge 36, 3) := by decide +kernel
theorem dL_law_1951 : decode cL_law 1951 = .ok (.iload 23, 2) := by decide +kernel
theorem dL_law_1953 : decode cL_law 1953 = .ok (.bipush (-9), 2) := by decide +kernel
theorem dL_law_1955 : decode cL_law 1955 = .ok (.if_icmp .le 8, 3) := by decide +kernel
theorem dL_law_1958 : decode cL_law 1958 = .ok (.iload 23, 2) := by decide +kernel
theorem dL_law_1960 : decode cL_law 1960 = .ok (.ifCond .lt 24, 3) := by decide +kernel
theorem dL_law_1963 : decode cL_law 1963 = .ok (.iload 23, 2) := by decide +kernel
theorem dL_law_1965 : decode cL_law 1965 = .ok (.ifCond .lt 12, 3) := by decide +kernel
theorem dL_law_1968 : decode cL_law 1968 = .ok (.aload_n 1, 1) := by decide +kernel
theorem dL_law_1969 : decode cL_law 1969 = .ok (.iload 23, 2) := by decide +kernel
theorem dL_law_1971 : decode cL_law 1971 = .ok (.invokevirtual 74, 3) := by decide +kernel
theorem dL_law_1974 : decode cL_law 1974 = .ok (.ifCond .lt 10, 3) := by decide +kernel
theorem dL_law_1977 : decode cL_law 1977 = .ok (.aload_n 1, 1) := by decide +kernel
theorem dL_law_1978 : decode cL_law 1978 = .ok (.invokevirtual 84, 3) := by decide +kernel
theorem dL_law_1981 : decode cL_law 1981 = .ok (.ifCond .eq 5, 3) := by decide +kernel
theorem dL_law_1984 : decode cL_law 1984 = .ok (.iconst 0, 1) := by decide +kernel
theorem dL_law_1985 : decode cL_law 1985 = .ok (.ireturn, 1) := by decide +kernel
theorem dL_law_1986 : decode cL_law 1986 = .ok (.iload 21, 2) := by decide +kernel
theorem dL_law_1988 : decode cL_law 1988 = .ok (.iload 23, 2) := by decide +kernel
theorem dL_law_1990 : decode cL_law 1990 = .ok (.ifCond .lt 7, 3) := by decide +kernel
theorem dL_law_1993 : decode cL_law 1993 = .ok (.iconst 1, 1) := by decide +kernel
theorem dL_law_1994 : decode cL_law 1994 = .ok (.goto 4, 3) := by decide +kernel
theorem dL_law_1997 : decode cL_law 1997 = .ok (.iconst 0, 1) := by decide +kernel
theorem dL_law_1998 : decode cL_law 1998 = .ok (.iadd, 1) := by decide +kernel
theorem dL_law_1999 : decode cL_law 1999 = .ok (.istore 21, 2) := by decide +kernel
theorem dL_law_2001 : decode cL_law 2001 = .ok (.iinc 22 1, 3) := by decide +kernel
theorem dL_law_2004 : decode cL_law 2004 = .ok (.goto (-93), 3) := by decide +kernel
theorem dL_law_2007 : decode cL_law 2007 = .ok (.iload 21, 2) := by decide +kernel
theorem dL_law_2009 : decode cL_law 2009 = .ok (.iload 19, 2) := by decide +kernel
theorem dL_law_2011 : decode cL_law 2011 = .ok (.if_icmp .ne 23, 3) := by decide +kernel
theorem dL_law_2014 : decode cL_law 2014 = .ok (.aload_n 1, 1) := by decide +kernel
theorem dL_law_2015 : decode cL_law 2015 = .ok (.iconst 4, 1) := by decide +kernel
theorem dL_law_2016 : decode cL_law 2016 = .ok (.invokevirtual 42, 3) := by decide +kernel
theorem dL_law_2019 : decode cL_law 2019 = .ok (.iload 8, 2) := by decide +kernel
theorem dL_law_2021 : decode cL_law 2021 = .ok (.if_icmp .ne 13, 3) := by decide +kernel
theorem dL_law_2024 : decode cL_law 2024 = .ok (.aload_n 1, 1) := by decide +kernel
theorem dL_law_2025 : decode cL_law 2025 = .ok (.iconst 1, 1) := by decide +kernel
theorem dL_law_2026 : decode cL_law 2026 = .ok (.invokevirtual 149, 3) := by decide +kernel
theorem dL_law_2029 : decode cL_law 2029 = .ok (.iload 7, 2) := by decide +kernel
theorem dL_law_2031 : decode cL_law 2031 = .ok (.if_icmp .eq 5, 3) := by decide +kernel
theorem dL_law_2034 : decode cL_law 2034 = .ok (.iconst 0, 1) := by decide +kernel
theorem dL_law_2035 : decode cL_law 2035 = .ok (.ireturn, 1) := by decide +kernel
theorem dL_law_2036 : decode cL_law 2036 = .ok (.iinc 18 1, 3) := by decide +kernel
theorem dL_law_2039 : decode cL_law 2039 = .ok (.goto (-262), 3) := by decide +kernel
theorem dL_law_2042 : decode cL_law 2042 = .ok (.iconst 0, 1) := by decide +kernel
theorem dL_law_2043 : decode cL_law 2043 = .ok (.istore 18, 2) := by decide +kernel
theorem dL_law_2045 : decode cL_law 2045 = .ok (.iload 18, 2) := by decide +kernel
theorem dL_law_2047 : decode cL_law 2047 = .ok (.iload 4, 2) := by decide +kernel
theorem dL_law_2049 : decode cL_law 2049 = .ok (.if_icmp .ge 380, 3) := by decide +kernel
theorem dL_law_2052 : decode cL_law 2052 = .ok (.aload_n 1, 1) := by decide +kernel
theorem dL_law_2053 : decode cL_law 2053 = .ok (.iconst 3, 1) := by decide +kernel
theorem dL_law_2054 : decode cL_law 2054 = .ok (.bipush 9, 2) := by decide +kernel
theorem dL_law_2056 : decode cL_law 2056 = .ok (.invokevirtual 134, 3) := by decide +kernel
theorem dL_law_2059 : decode cL_law 2059 = .ok (.bipush 9, 2) := by decide +kernel
theorem dL_law_2061 : decode cL_law 2061 = .ok (.if_icmp .eq 5, 3) := by decide +kernel
theorem dL_law_2064 : decode cL_law 2064 = .ok (.iconst 0, 1) := by decide +kernel
theorem dL_law_2065 : decode cL_law 2065 = .ok (.ireturn, 1) := by decide +kernel
theorem dL_law_2066 : decode cL_law 2066 = .ok (.bipush 61, 2) := by decide +kernel
theorem dL_law_2068 : decode cL_law 2068 = .ok (.istore 19, 2) := by decide +kernel
theorem dL_law_2070 : decode cL_law 2070 = .ok (.bipush 63, 2) := by decide +kernel
theorem dL_law_2072 : decode cL_law 2072 = .ok (.istore 20, 2) := by decide +kernel
theorem dL_law_2074 : decode cL_law 2074 = .ok (.iconst 0, 1) := by decide +kernel
theorem dL_law_2075 : decode cL_law 2075 = .ok (.istore 21, 2) := by decide +kernel
theorem dL_law_2077 : decode cL_law 2077 = .ok (.iload 21, 2) := by decide +kernel
theorem dL_law_2079 : decode cL_law 2079 = .ok (.iconst 3, 1) := by decide +kernel
theorem dL_law_2080 : decode cL_law 2080 = .ok (.if_icmp .ge 343, 3) := by decide +kernel
theorem dL_law_2083 : decode cL_law 2083 = .ok (.aload_n 0, 1) := by decide +kernel
theorem dL_law_2084 : decode cL_law 2084 = .ok (.bipush 33, 2) := by decide +kernel
theorem dL_law_2086 : decode cL_law 2086 = .ok (.iload 21, 2) := by decide +kernel
theorem dL_law_2088 : decode cL_law 2088 = .ok (.iadd, 1) := by decide +kernel
theorem dL_law_2089 : decode cL_law 2089 = .ok (.invokestatic 15, 3) := by decide +kernel
theorem dL_law_2092 : decode cL_law 2092 = .ok (.iconst 4, 1) := by decide +kernel
theorem dL_law_2093 : decode cL_law 2093 = .ok (.iload 18, 2) := by decide +kernel
theorem dL_law_2095 : decode cL_law 2095 = .ok (.imul, 1) := by decide +kernel
theorem dL_law_2096 : decode cL_law 2096 = .ok (.ishr, 1) := by decide +kernel
theorem dL_law_2097 : decode cL_law 2097 = .ok (.bipush 21, 2) := by decide +kernel
theorem dL_law_2099 : decode cL_law 2099 = .ok (.invokestatic 21, 3) := by decide +kernel
theorem dL_law_2102 : decode cL_law 2102 = .ok (.istore 22, 2) := by decide +kernel
theorem dL_law_2104 : decode cL_law 2104 = .ok (.aload_n 0, 1) := by decide +kernel
theorem dL_law_2105 : decode cL_law 2105 = .ok (.bipush 36, 2) := by decide +kernel
theorem dL_law_2107 : decode cL_law 2107 = .ok (.iload 21, 2) := by decide +kernel
theorem dL_law_2109 : decode cL_law 2109 = .ok (.iadd, 1) := by decide +kernel
theorem dL_law_2110 : decode cL_law 2110 = .ok (.invokestatic 15, 3) := by decide +kernel
theorem dL_law_2113 : decode cL_law 2113 = .ok (.iconst 4, 1) := by decide +kernel
theorem dL_law_2114 : decode cL_law 2114 = .ok (.iload 18, 2) := by decide +kernel
theorem dL_law_2116 : decode cL_law 2116 = .ok (.imul, 1) := by decide +kernel
theorem dL_law_2117 : decode cL_law 2117 = .ok (.ishr, 1) := by decide +kernel
theorem dL_law_2118 : decode cL_law 2118 = .ok (.bipush 60, 2) := by decide +kernel
theorem dL_law_2120 : decode cL_law 2120 = .ok (.invokestatic 21, 3) := by decide +kernel
theorem dL_law_2123 : decode cL_law 2123 = .ok (.istore 23, 2) := by decide +kernel
theorem dL_law_2125 : decode cL_law 2125 = .ok (.aload_n 1, 1) := by decide +kernel
theorem dL_law_2126 : decode cL_law 2126 = .ok (.iconst 3, 1) := by decide +kernel
theorem dL_law_2127 : decode cL_law 2127 = .ok (.iconst 3, 1) := by decide +kernel
theorem dL_law_2128 : decode cL_law 2128 = .ok (.iload 21, 2) := by decide +kernel
theorem dL_law_2130 : decode cL_law 2130 = .ok (.imul, 1) := by decide +kernel
theorem dL_law_2131 : decode cL_law 2131 = .ok (.iconst 3, 1) := by decide +kernel
theorem dL_law_2132 : decode cL_law 2132 = .ok (.iadd, 1) := by decide +kernel
theorem dL_law_2133 : decode cL_law 2133 = .ok (.invokevirtual 134, 3) := by decide +kernel
theorem dL_law_2136 : decode cL_law 2136 = .ok (.iconst 3, 1) := by decide +kernel
theorem dL_law_2137 : decode cL_law 2137 = .ok (.iload 21, 2) := by decide +kernel
theorem dL_law_2139 : decode cL_law 2139 = .ok (.imul, 1) := by decide +kernel
theorem dL_law_2140 : decode cL_law 2140 = .ok (.iconst 3, 1) := by decide +kernel
theorem dL_law_2141 : decode cL_law 2141 = .ok (.iadd, 1) := by decide +kernel
theorem dL_law_2142 : decode cL_law 2142 = .ok (.if_icmp .eq 5, 3) := by decide +kernel
theorem dL_law_2145 : decode cL_law 2145 = .ok (.iconst 0, 1) := by decide +kernel
theorem dL_law_2146 : decode cL_law 2146 = .ok (.ireturn, 1) := by decide +kernel
theorem dL_law_2147 : decode cL_law 2147 = .ok (.iconst 0, 1) := by decide +kernel
theorem dL_law_2148 : decode cL_law 2148 = .ok (.istore 24, 2) := by decide +kernel
theorem dL_law_2150 : decode cL_law 2150 = .ok (.iload 24, 2) := by decide +kernel
theorem dL_law_2152 : decode cL_law 2152 = .ok (.iload 21, 2) := by decide +kernel
theorem dL_law_2154 : decode cL_law 2154 = .ok (.if_icmp .gt 118, 3) := by decide +kernel
theorem dL_law_2157 : decode cL_law 2157 = .ok (.aload_n 0, 1) := by decide +kernel
theorem dL_law_2158 : decode cL_law 2158 = .ok (.bipush 33, 2) := by decide +kernel
theorem dL_law_2160 : decode cL_law 2160 = .ok (.iload 24, 2) := by decide +kernel
theorem dL_law_2162 : decode cL_law 2162 = .ok (.iadd, 1) := by decide +kernel
theorem dL_law_2163 : decode cL_law 2163 = .ok (.invokestatic 15, 3) := by decide +kernel
theorem dL_law_2166 : decode cL_law 2166 = .ok (.iconst 4, 1) := by decide +kernel
theorem dL_law_2167 : decode cL_law 2167 = .ok (.iload 18, 2) := by decide +kernel
theorem dL_law_2169 : decode cL_law 2169 = .ok (.imul, 1) := by decide +kernel
theorem dL_law_2170 : decode cL_law 2170 = .ok (.ishr, 1) := by decide +kernel
theorem dL_law_2171 : decode cL_law 2171 = .ok (.bipush 21, 2) := by decide +kernel
theorem dL_law_2173 : decode cL_law 2173 = .ok (.invokestatic 21, 3) := by decide +kernel
theorem dL_law_2176 : decode cL_law 2176 = .ok (.istore 25, 2) := by decide +kernel
theorem dL_law_2178 : decode cL_law 2178 = .ok (.aload_n 0, 1) := by decide +kernel
theorem dL_law_2179 : decode cL_law 2179 = .ok (.bipush 36, 2) := by decide +kernel
theorem dL_law_2181 : decode cL_law 2181 = .ok (.iload 24, 2) := by decide +kernel
theorem dL_law_2183 : decode cL_law 2183 = .ok (.iadd, 1) := by decide +kernel
theorem dL_law_2184 : decode cL_law 2184 = .ok (.invokestatic 15, 3) := by decide +kernel
theorem dL_law_2187 : decode cL_law 2187 = .ok (.iconst 4, 1) := by decide +kernel
theorem dL_law_2188 : decode cL_law 2188 = .ok (.iload 18, 2) := by decide +kernel
theorem dL_law_2190 : decode cL_law 2190 = .ok (.imul, 1) := by decide +kernel
theorem dL_law_2191 : decode cL_law 2191 = .ok (.ishr, 1) := by decide +kernel
theorem dL_law_2192 : decode cL_law 2192 = .ok (.bipush 60, 2) := by decide +kernel
theorem dL_law_2194 : decode cL_law 2194 = .ok (.invokestatic 21, 3) := by decide +kernel
theorem dL_law_2197 : decode cL_law 2197 = .ok (.istore 26, 2) := by decide +kernel
theorem dL_law_2199 : decode cL_law 2199 = .ok (.aload_n 1, 1) := by decide +kernel
theorem dL_law_2200 : decode cL_law 2200 = .ok (.iconst 3, 1) := by decide +kernel
theorem dL_law_2201 : decode cL_law 2201 = .ok (.iconst 3, 1) := by decide +kernel
theorem dL_law_2202 : decode cL_law 2202 = .ok (.iload 24, 2) := by decide +kernel
theorem dL_law_2204 : decode cL_law 2204 = .ok (.imul, 1) := by decide +kernel
theorem dL_law_2205 : decode cL_law 2205 = .ok (.iload 25, 2) := by decide +kernel
theorem dL_law_2207 : decode cL_law 2207 = .ok (.invokevirtual 137, 3) := by decide +kernel
theorem dL_law_2210 : decode cL_law 2210 = .ok (.iconst 1, 1) := by decide +kernel
theorem dL_law_2211 : decode cL_law 2211 = .ok (.if_icmp .ne 53, 3) := by decide +kernel
theorem dL_law_2214 : decode cL_law 2214 = .ok (.aload_n 1, 1) := by decide +kernel
theorem dL_law_2215 : decode cL_law 2215 = .ok (.iconst 3, 1) := by decide +kernel
theorem dL_law_2216 : decode cL_law 2216 = .ok (.iconst 3, 1) := by decide +kernel
theorem dL_law_2217 : decode cL_law 2217 = .ok (.iload 24, 2) := by decide +kernel
theorem dL_law_2219 : decode cL_law 2219 = .ok (.imul, 1) := by decide +kernel
theorem dL_law_2220 : decode cL_law 2220 = .ok (.iconst 1, 1) := by decide +kernel
theorem dL_law_2221 : decode cL_law 2221 = .ok (.iadd, 1) := by decide +kernel
theorem dL_law_2222 : decode cL_law 2222 = .ok (.iload 26, 2) := by decide +kernel
theorem dL_law_2224 : decode cL_law 2224 = .ok (.invokevirtual 137, 3) := by decide +kernel
theorem dL_law_2227 : decode cL_law 2227 = .ok (.iconst 1, 1) := by decide +kernel
theorem dL_law_2228 : decode cL_law 2228 = .ok (.if_icmp .ne 36, 3) := by decide +kernel
theorem dL_law_2231 : decode cL_law 2231 = .ok (.aload_n 1, 1) := by decide +kernel
theorem dL_law_2232 : decode cL_law 2232 = .ok (.iconst 3, 1) := by decide +kernel
theorem dL_law_2233 : decode cL_law 2233 = .ok (.iconst 3, 1) := by decide +kernel
theorem dL_law_2234 : decode cL_law 2234 = .ok (.iload 24, 2) := by decide +kernel
theorem dL_law_2236 : decode cL_law 2236 = .ok (.imul, 1) := by decide +kernel
theorem dL_law_2237 : decode cL_law 2237 = .ok (.iconst 2, 1) := by decide +kernel
theorem dL_law_2238 : decode cL_law 2238 = .ok (.iadd, 1) := by decide +kernel
theorem dL_law_2239 : decode cL_law 2239 = .ok (.aload_n 1, 1) := by decide +kernel
theorem dL_law_2240 : decode cL_law 2240 = .ok (.iload 18, 2) := by decide +kernel
theorem dL_law_2242 : decode cL_law 2242 = .ok (.iload 25, 2) := by decide +kernel
theorem dL_law_2244 : decode cL_law 2244 = .ok (.invokevirtual 114, 3) := by decide +kernel
theorem dL_law_2247 : decode cL_law 2247 = .ok (.iload 26, 2) := by decide +kernel
theorem dL_law_2249 : decode cL_law 2249 = .ok (.if_icmp .lt 7, 3) := by decide +kernel
theorem dL_law_2252 : decode cL_law 2252 = .ok (.iconst 1, 1) := by decide +kernel
theorem dL_law_2253 : decode cL_law 2253 = .ok (.goto 4, 3) := by decide +kernel
theorem dL_law_2256 : decode cL_law 2256 = .ok (.iconst 0, 1) := by decide +kernel
theorem dL_law_2257 : decode cL_law 2257 = .ok (.invokevirtual 137, 3) := by decide +kernel
theorem dL_law_2260 : decode cL_law 2260 = .ok (.iconst 1, 1) := by decide +kernel
theorem dL_law_2261 : decode cL_law 2261 = .ok (.if_icmp .eq 5, 3) := by decide +kernel
theorem dL_law_2264 : decode cL_law 2264 = .ok (.iconst 0, 1) := by decide +kernel
theorem dL_law_2265 : decode cL_law 2265 = .ok (.ireturn, 1) := by decide +kernel
theorem dL_law_2266 : decode cL_law 2266 = .ok (.iinc 24 1, 3) := by decide +kernel
theorem dL_law_2269 : decode cL_law 2269 = .ok (.goto (-119), 3) := by decide +kernel
theorem dL_law_2272 : decode cL_law 2272 = .ok (.aload_n 1, 1) := by decide +kernel
theorem dL_law_2273 : decode cL_law 2273 = .ok (.iload 18, 2) := by decide +kernel
theorem dL_law_2275 : decode cL_law 2275 = .ok (.iconst 3, 1) := by decide +kernel
theorem dL_law_2276 : decode cL_law 2276 = .ok (.invokevirtual 152, 3) := by decide +kernel
theorem dL_law_2279 : decode cL_law 2279 = .ok (.istore 24, 2) := by decide +kernel
theorem dL_law_2281 : decode cL_law 2281 = .ok (.aload_n 1, 1) := by decide +kernel
theorem dL_law_2282 : decode cL_law 2282 = .ok (.invokevirtual 119, 3) := by decide +kernel
theorem dL_law_2285 : decode cL_law 2285 = .ok (.istore 25, 2) := by decide +kernel
theorem dL_law_2287 : decode cL_law 2287 = .ok (.aload_n 1, 1) := by decide +kernel
theorem dL_law_2288 : decode cL_law 2288 = .ok (.iload 18, 2) := by decide +kernel
theorem dL_law_2290 : decode cL_law 2290 = .ok (.iconst 3, 1) := by decide +kernel
theorem dL_law_2291 : decode cL_law 2291 = .ok (.invokevirtual 155, 3) := by decide +kernel
theorem dL_law_2294 : decode cL_law 2294 = .ok (.istore 26, 2) := by decide +kernel
theorem dL_law_2296 : decode cL_law 2296 = .ok (.aload_n 1, 1) := by decide +kernel
theorem dL_law_2297 : decode cL_law 2297 = .ok (.iload 18, 2) := by decide +kernel
theorem dL_law_2299 : decode cL_law 2299 = .ok (.iconst 3, 1) := by decide +kernel
theorem dL_law_2300 : decode cL_law 2300 = .ok (.invokevirtual 158, 3) := by decide +kernel
theorem dL_law_2303 : decode cL_law 2303 = .ok (.istore 27, 2) := by decide +kernel
theorem dL_law_2305 : decode cL_law 2305 = .ok (.aload_n 1, 1) := by decide +kernel
theorem dL_law_2306 : decode cL_law 2306 = .ok (.invokevirtual 119, 3) := by decide +kernel
theorem dL_law_2309 : decode cL_law 2309 = .ok (.istore 28, 2) := by decide +kernel
theorem dL_law_2311 : decode cL_law 2311 = .ok (.iload 24, 2) := by decide +kernel
theorem dL_law_2313 : decode cL_law 2313 = .ok (.iconst 1, 1) := by decide +kernel
theorem dL_law_2314 : decode cL_law 2314 = .ok (.if_icmp .lt 93, 3) := by decide +kernel
theorem dL_law_2317 : decode cL_law 2317 = .ok (.iload 24, 2) := by decide +kernel
theorem dL_law_2319 : decode cL_law 2319 = .ok (.iload 19, 2) := by decide +kernel
theorem dL_law_2321 : decode cL_law 2321 = .ok (.if_icmp .gt 86, 3) := by decide +kernel
theorem dL_law_2324 : decode cL_law 2324 = .ok (.iload 25, 2) := by decide +kernel
theorem dL_law_2326 : decode cL_law 2326 = .ok (.aload_n 2, 1) := by decide +kernel
theorem dL_law_2327 : decode cL_law 2327 = .ok (.bipush 10, 2) := by decide +kernel
theorem dL_law_2329 : decode cL_law 2329 = .ok (.iload 18, 2) := by decide +kernel
theorem dL_law_2331 : decode cL_law 2331 = .ok (.iadd, 1) := by decide +kernel
theorem dL_law_2332 : decode cL_law 2332 = .ok (.iaload, 1) := by decide +kernel
theorem dL_law_2333 : decode cL_law 2333 = .ok (.if_icmp .gt 74, 3) := by decide +kernel
theorem dL_law_2336 : decode cL_law 2336 = .ok (.iload 26, 2) := by decide +kernel
theorem dL_law_2338 : decode cL_law 2338 = .ok (.aload_n 2, 1) := by decide +kernel
theorem dL_law_2339 : decode cL_law 2339 = .ok (.iconst 2, 1) := by decide +kernel
theorem dL_law_2340 : decode cL_law 2340 = .ok (.iload 18, 2) := by decide +kernel
theorem dL_law_2342 : decode cL_law 2342 = .ok (.iadd, 1) := by decide +kernel
theorem dL_law_2343 : decode cL_law 2343 = .ok (.iaload, 1) := by decide +kernel
theorem dL_law_2344 : decode cL_law 2344 = .ok (.ishr, 1) := by decide +kernel
theorem dL_law_2345 : decode cL_law 2345 = .ok (.iconst 1, 1) := by decide +kernel
theorem dL_law_2346 : decode cL_law 2346 = .ok (.iand, 1) := by decide +kernel
theorem dL_law_2347 : decode cL_law 2347 = .ok (.iconst 1, 1) := by decide +kernel
theorem dL_law_2348 : decode cL_law 2348 = .ok (.if_icmp .ne 59, 3) := by decide +kernel
theorem dL_law_2351 : decode cL_law 2351 = .ok (.iload 26, 2) := by decide +kernel
theorem dL_law_2353 : decode cL_law 2353 = .ok (.iload 20, 2) := by decide +kernel
theorem dL_law_2355 : decode cL_law 2355 = .ok (.iconst (-1), 1) := by decide +kernel
theorem dL_law_2356 : decode cL_law 2356 = .ok (.ixor, 1) := by decide +kernel
theorem dL_law_2357 : decode cL_law 2357 = .ok (.iand, 1) := by decide +kernel
theorem dL_law_2358 : decode cL_law 2358 = .ok (.ifCond .ne 49, 3) := by decide +kernel
theorem dL_law_2361 : decode cL_law 2361 = .ok (.iload 27, 2) := by decide +kernel
theorem dL_law_2363 : decode cL_law 2363 = .ok (.ifCond .lt 44, 3) := by decide +kernel
theorem dL_law_2366 : decode cL_law 2366 = .ok (.iload 27, 2) := by decide +kernel
theorem dL_law_2368 : decode cL_law 2368 = .ok (.bipush 99, 2) := by decide +kernel
theorem dL_law_2370 : decode cL_law 2370 = .ok (.if_icmp .gt 37, 3) := by decide +kernel
theorem dL_law_2373 : decode cL_law 2373 = .ok (.iload 28, 2) := by decide +kernel
theorem dL_law_2375 : decode cL_law 2375 = .ok (.iload 26, 2) := by decide +kernel
theorem dL_law_2377 : decode cL_law 2377 = .ok (.invokestatic 131, 3) := by decide +kernel
theorem dL_law_2380 : decode cL_law 2380 = .ok (.iconst 1, 1) := by decide +kernel
theorem dL_law_2381 : decode cL_law 2381 = .ok (.iadd, 1) := by decide +kernel
theorem dL_law_2382 : decode cL_law 2382 = .ok (.iconst 2, 1) := by decide +kernel
theorem dL_law_2383 : decode cL_law 2383 = .ok (.idiv, 1) := by decide +kernel
theorem dL_law_2384 : decode cL_law 2384 = .ok (.if_icmp .lt 23, 3) := by decide +kernel
theorem dL_law_2387 : decode cL_law 2387 = .ok (.iload 28, 2) := by decide +kernel
theorem dL_law_2389 : decode cL_law 2389 = .ok (.iload 26, 2) := by decide +kernel
theorem dL_law_2391 : decode cL_law 2391 = .ok (.invokestatic 131, 3) := by decide +kernel
theorem dL_law_2394 : decode cL_law 2394 = .ok (.if_icmp .gt 13, 3) := by decide +kernel
theorem dL_law_2397 : decode cL_law 2397 = .ok (.iload 22, 2) := by decide +kernel
theorem dL_law_2399 : decode cL_law 2399 = .ok (.ifCond .lt 8, 3) := by decide +kernel
theorem dL_law_2402 : decode cL_law 2402 = .ok (.iload 23, 2) := by decide +kernel
theorem dL_law_2404 : decode cL_law 2404 = .ok (.ifCond .ge 5, 3) := by decide +kernel
theorem dL_law_2407 : decode cL_law 2407 = .ok (.iconst 0, 1) := by decide +kernel
theorem dL_law_2408 : decode cL_law 2408 = .ok (.ireturn, 1) := by decide +kernel
theorem dL_law_2409 : decode cL_law 2409 = .ok (.iload 24, 2) := by decide +kernel
theorem dL_law_2411 : decode cL_law 2411 = .ok (.istore 19, 2) := by decide +kernel
theorem dL_law_2413 : decode cL_law 2413 = .ok (.iload 26, 2) := by decide +kernel
theorem dL_law_2415 : decode cL_law 2415 = .ok (.istore 20, 2) := by decide +kernel
theorem dL_law_2417 : decode cL_law 2417 = .ok (.iinc 21 1, 3) := by decide +kernel
theorem dL_law_2420 : decode cL_law 2420 = .ok (.goto (-343), 3) := by decide +kernel
theorem dL_law_2423 : decode cL_law 2423 = .ok (.iinc 18 1, 3) := by decide +kernel
theorem dL_law_2426 : decode cL_law 2426 = .ok (.goto (-381), 3) := by decide +kernel
theorem dL_law_2429 : decode cL_law 2429 = .ok (.iconst 0, 1) := by decide +kernel
theorem dL_law_2430 : decode cL_law 2430 = .ok (.istore 18, 2) := by decide +kernel
theorem dL_law_2432 : decode cL_law 2432 = .ok (.iconst 0, 1) := by decide +kernel
theorem dL_law_2433 : decode cL_law 2433 = .ok (.istore 19, 2) := by decide +kernel
theorem dL_law_2435 : decode cL_law 2435 = .ok (.iload 19, 2) := by decide +kernel
theorem dL_law_2437 : decode cL_law 2437 = .ok (.iload 5, 2) := by decide +kernel
theorem dL_law_2439 : decode cL_law 2439 = .ok (.if_icmp .ge 196, 3) := by decide +kernel
theorem dL_law_2442 : decode cL_law 2442 = .ok (.aload_n 1, 1) := by decide +kernel
theorem dL_law_2443 : decode cL_law 2443 = .ok (.aload_n 1, 1) := by decide +kernel
theorem dL_law_2444 : decode cL_law 2444 = .ok (.iload 19, 2) := by decide +kernel
theorem dL_law_2446 : decode cL_law 2446 = .ok (.iconst 2, 1) := by decide +kernel
theorem dL_law_2447 : decode cL_law 2447 = .ok (.invokevirtual 98, 3) := by decide +kernel
theorem dL_law_2450 : decode cL_law 2450 = .ok (.invokestatic 101, 3) := by decide +kernel
theorem dL_law_2453 : decode cL_law 2453 = .ok (.istore 20, 2) := by decide +kernel
theorem dL_law_2455 : decode cL_law 2455 = .ok (.aload_n 1, 1) := by decide +kernel
theorem dL_law_2456 : decode cL_law 2456 = .ok (.aload_n 1, 1) := by decide +kernel
theorem dL_law_2457 : decode cL_law 2457 = .ok (.iload 19, 2) := by decide +kernel
theorem dL_law_2459 : decode cL_law 2459 = .ok (.iconst 3, 1) := by decide +kernel
theorem dL_law_2460 : decode cL_law 2460 = .ok (.invokevirtual 98, 3) := by decide +kernel
theorem dL_law_2463 : decode cL_law 2463 = .ok (.invokestatic 101, 3) := by decide +kernel
theorem dL_law_2466 : decode cL_law 2466 = .ok (.istore 21, 2) := by decide +kernel
theorem dL_law_2468 : decode cL_law 2468 = .ok (.iload 20, 2) := by decide +kernel
theorem dL_law_2470 : decode cL_law 2470 = .ok (.ifCond .lt 18, 3) := by decide +kernel
theorem dL_law_2473 : decode cL_law 2473 = .ok (.iload 11, 2) := by decide +kernel
theorem dL_law_2475 : decode cL_law 2475 = .ok (.iload 20, 2) := by decide +kernel
theorem dL_law_2477 : decode cL_law 2477 = .ok (.ishr, 1) := by decide +kernel
theorem dL_law_2478 : decode cL_law 2478 = .ok (.iconst 1, 1) := by decide +kernel
theorem dL_law_2479 : decode cL_law 2479 = .ok (.iand, 1) := by decide +kernel
theorem dL_law_2480 : decode cL_law 2480 = .ok (.iconst 1, 1) := by decide +kernel
theorem dL_law_2481 : decode cL_law 2481 = .ok (.if_icmp .ne 7, 3) := by decide +kernel
theorem dL_law_2484 : decode cL_law 2484 = .ok (.iconst 1, 1) := by decide +kernel
theorem dL_law_2485 : decode cL_law 2485 = .ok (.goto 4, 3) := by decide +kernel
theorem dL_law_2488 : decode cL_law 2488 = .ok (.iconst 0, 1) := by decide +kernel
theorem dL_law_2489 : decode cL_law 2489 = .ok (.istore 22, 2) := by decide +kernel
theorem dL_law_2491 : decode cL_law 2491 = .ok (.iload 18, 2) := by decide +kernel
theorem dL_law_2493 : decode cL_law 2493 = .ok (.iload 22, 2) := by decide +kernel
theorem dL_law_2495 : decode cL_law 2495 = .ok (.ifCond .eq 8, 3) := by decide +kernel
theorem dL_law_2498 : decode cL_law 2498 = .ok (.iload 21, 2) := by decide +kernel
theorem dL_law_2500 : decode cL_law 2500 = .ok (.goto 4, 3) := by decide +kernel
theorem dL_law_2503 : decode cL_law 2503 = .ok (.iconst 0, 1) := by decide +kernel
theorem dL_law_2504 : decode cL_law 2504 = .ok (.iadd, 1) := by decide +kernel
theorem dL_law_2505 : decode cL_law 2505 = .ok (.istore 18, 2) := by decide +kernel
theorem dL_law_2507 : decode cL_law 2507 = .ok (.aload_n 0, 1) := by decide +kernel
theorem dL_law_2508 : decode cL_law 2508 = .ok (.bipush 39, 2) := by decide +kernel
theorem dL_law_2510 : decode cL_law 2510 = .ok (.iload 19, 2) := by decide +kernel
theorem dL_law_2512 : decode cL_law 2512 = .ok (.iadd, 1) := by decide +kernel
theorem dL_law_2513 : decode cL_law 2513 = .ok (.invokestatic 15, 3) := by decide +kernel
theorem dL_law_2516 : decode cL_law 2516 = .ok (.bipush 13, 2) := by decide +kernel
theorem dL_law_2518 : decode cL_law 2518 = .ok (.invokestatic 21, 3) := by decide +kernel
theorem dL_law_2521 : decode cL_law 2521 = .ok (.istore 23, 2) := by decide +kernel
theorem dL_law_2523 : decode cL_law 2523 = .ok (.aload_n 1, 1) := by decide +kernel
theorem dL_law_2524 : decode cL_law 2524 = .ok (.iload 19, 2) := by decide +kernel
theorem dL_law_2526 : decode cL_law 2526 = .ok (.iconst 0, 1) := by decide +kernel
theorem dL_law_2527 : decode cL_law 2527 = .ok (.invokevirtual 161, 3) := by decide +kernel
theorem dL_law_2530 : decode cL_law 2530 = .ok (.iconst 1, 1) := by decide +kernel
theorem dL_law_2531 : decode cL_law 2531 = .ok (.if_icmp .ne 96, 3) := by decide +kernel
theorem dL_law_2534 : decode cL_law 2534 = .ok (.aload_n 1, 1) := by decide +kernel
theorem dL_law_2535 : decode cL_law 2535 = .ok (.invokevirtual 164, 3) := by decide +kernel
theorem dL_law_2538 : decode cL_law 2538 = .ok (.iload 22, 2) := by decide +kernel
theorem dL_law_2540 : decode cL_law 2540 = .ok (.ifCond .eq 7, 3) := by decide +kernel
theorem dL_law_2543 : decode cL_law 2543 = .ok (.lconst 1, 1) := by decide +kernel
theorem dL_law_2544 : decode cL_law 2544 = .ok (.goto 4, 3) := by decide +kernel
theorem dL_law_2547 : decode cL_law 2547 = .ok (.lconst 0, 1) := by decide +kernel
theorem dL_law_2548 : decode cL_law 2548 = .ok (.lcmp, 1) := by decide +kernel
theorem dL_law_2549 : decode cL_law 2549 = .ok (.ifCond .ne 78, 3) := by decide +kernel
theorem dL_law_2552 : decode cL_law 2552 = .ok (.aload_n 1, 1) := by decide +kernel
theorem dL_law_2553 : decode cL_law 2553 = .ok (.invokevirtual 168, 3) := by decide +kernel
theorem dL_law_2556 : decode cL_law 2556 = .ok (.lconst 1, 1) := by decide +kernel
theorem dL_law_2557 : decode cL_law 2557 = .ok (.lcmp, 1) := by decide +kernel
theorem dL_law_2558 : decode cL_law 2558 = .ok (.ifCond .ne 69, 3) := by decide +kernel
theorem dL_law_2561 : decode cL_law 2561 = .ok (.aload_n 1, 1) := by decide +kernel
theorem dL_law_2562 : decode cL_law 2562 = .ok (.iload 19, 2) := by decide +kernel
theorem dL_law_2564 : decode cL_law 2564 = .ok (.bipush 12, 2) := by decide +kernel
theorem dL_law_2566 : decode cL_law 2566 = .ok (.invokevirtual 161, 3) := by decide +kernel
theorem dL_law_2569 : decode cL_law 2569 = .ok (.iconst 1, 1) := by decide +kernel
theorem dL_law_2570 : decode cL_law 2570 = .ok (.if_icmp .ne 57, 3) := by decide +kernel
theorem dL_law_2573 : decode cL_law 2573 = .ok (.aload_n 1, 1) := by decide +kernel
theorem dL_law_2574 : decode cL_law 2574 = .ok (.invokevirtual 164, 3) := by decide +kernel
theorem dL_law_2577 : decode cL_law 2577 = .ok (.lconst 0, 1) := by decide +kernel
theorem dL_law_2578 : decode cL_law 2578 = .ok (.lcmp, 1) := by decide +kernel
theorem dL_law_2579 : decode cL_law 2579 = .ok (.ifCond .ne 48, 3) := by decide +kernel
theorem dL_law_2582 : decode cL_law 2582 = .ok (.aload_n 1, 1) := by decide +kernel
theorem dL_law_2583 : decode cL_law 2583 = .ok (.iload 19, 2) := by decide +kernel
theorem dL_law_2585 : decode cL_law 2585 = .ok (.iload 23, 2) := by decide +kernel
theorem dL_law_2587 : decode cL_law 2587 = .ok (.invokevirtual 161, 3) := by decide +kernel
theorem dL_law_2590 : decode cL_law 2590 = .ok (.iconst 1, 1) := by decide +kernel
theorem dL_law_2591 : decode cL_law 2591 = .ok (.if_icmp .ne 36, 3) := by decide +kernel
theorem dL_law_2594 : decode cL_law 2594 = .ok (.aload_n 1, 1) := by decide +kernel
theorem dL_law_2595 : decode cL_law 2595 = .ok (.invokevirtual 164, 3) := by decide +kernel
theorem dL_law_2598 : decode cL_law 2598 = .ok (.ldc2_w 171, 3) := by decide +kernel
theorem dL_law_2601 : decode cL_law 2601 = .ok (.lmul, 1) := by decide +kernel
theorem dL_law_2602 : decode cL_law 2602 = .ok (.iload 22, 2) := by decide +kernel
theorem dL_law_2604 : decode cL_law 2604 = .ok (.ifCond .eq 13, 3) := by decide +kernel
theorem dL_law_2607 : decode cL_law 2607 = .ok (.ldc2_w 171, 3) := by decide +kernel
theorem dL_law_2610 : decode cL_law 2610 = .ok (.iload 23, 2) := by decide +kernel
theorem dL_law_2612 : decode cL_law 2612 = .ok (.i2l, 1) := by decide +kernel
theorem dL_law_2613 : decode cL_law 2613 = .ok (.lsub, 1) := by decide +kernel
theorem dL_law_2614 : decode cL_law 2614 = .ok (.goto 4, 3) := by decide +kernel
theorem dL_law_2617 : decode cL_law 2617 = .ok (.lconst 0, 1) := by decide +kernel
theorem dL_law_2618 : decode cL_law 2618 = .ok (.aload_n 1, 1) := by decide +kernel
theorem dL_law_2619 : decode cL_law 2619 = .ok (.invokevirtual 168, 3) := by decide +kernel
theorem dL_law_2622 : decode cL_law 2622 = .ok (.lmul, 1) := by decide +kernel
theorem dL_law_2623 : decode cL_law 2623 = .ok (.lcmp, 1) := by decide +kernel
theorem dL_law_2624 : decode cL_law 2624 = .ok (.ifCond .eq 5, 3) := by decide +kernel
theorem dL_law_2627 : decode cL_law 2627 = .ok (.iconst 0, 1) := by decide +kernel
theorem dL_law_2628 : decode cL_law 2628 = .ok (.ireturn, 1) := by decide +kernel
theorem dL_law_2629 : decode cL_law 2629 = .ok (.iinc 19 1, 3) := by decide +kernel
theorem dL_law_2632 : decode cL_law 2632 = .ok (.goto (-197), 3) := by decide +kernel
theorem dL_law_2635 : decode cL_law 2635 = .ok (.aload_n 1, 1) := by decide +kernel
theorem dL_law_2636 : decode cL_law 2636 = .ok (.iconst 0, 1) := by decide +kernel
theorem dL_law_2637 : decode cL_law 2637 = .ok (.invokevirtual 173, 3) := by decide +kernel
theorem dL_law_2640 : decode cL_law 2640 = .ok (.iload 18, 2) := by decide +kernel
theorem dL_law_2642 : decode cL_law 2642 = .ok (.if_icmp .ne 74, 3) := by decide +kernel
theorem dL_law_2645 : decode cL_law 2645 = .ok (.aload_n 1, 1) := by decide +kernel
theorem dL_law_2646 : decode cL_law 2646 = .ok (.iconst 1, 1) := by decide +kernel
theorem dL_law_2647 : decode cL_law 2647 = .ok (.invokevirtual 173, 3) := by decide +kernel
theorem dL_law_2650 : decode cL_law 2650 = .ok (.iload 18, 2) := by decide +kernel
theorem dL_law_2652 : decode cL_law 2652 = .ok (.if_icmp .lt 64, 3) := by decide +kernel
theorem dL_law_2655 : decode cL_law 2655 = .ok (.aload_n 1, 1) := by decide +kernel
theorem dL_law_2656 : decode cL_law 2656 = .ok (.iconst 2, 1) := by decide +kernel
theorem dL_law_2657 : decode cL_law 2657 = .ok (.invokevirtual 173, 3) := by decide +kernel
theorem dL_law_2660 : decode cL_law 2660 = .ok (.aload_n 1, 1) := by decide +kernel
theorem dL_law_2661 : decode cL_law 2661 = .ok (.iconst 1, 1) := by decide +kernel
theorem dL_law_2662 : decode cL_law 2662 = .ok (.invokevirtual 173, 3) := by decide +kernel
theorem dL_law_2665 : decode cL_law 2665 = .ok (.if_icmp .gt 51, 3) := by decide +kernel
theorem dL_law_2668 : decode cL_law 2668 = .ok (.aload_n 1, 1) := by decide +kernel
theorem dL_law_2669 : decode cL_law 2669 = .ok (.iconst 0, 1) := by decide +kernel
theorem dL_law_2670 : decode cL_law 2670 = .ok (.invokevirtual 176, 3) := by decide +kernel
theorem dL_law_2673 : decode cL_law 2673 = .ok (.iconst 1, 1) := by decide +kernel
theorem dL_law_2674 : decode cL_law 2674 = .ok (.if_icmp .ne 42, 3) := by decide +kernel
theorem dL_law_2677 : decode cL_law 2677 = .ok (.aload_n 1, 1) := by decide +kernel
theorem dL_law_2678 : decode cL_law 2678 = .ok (.invokevirtual 164, 3) := by decide +kernel
theorem dL_law_2681 : decode cL_law 2681 = .ok (.iload 18, 2) := by decide +kernel
theorem dL_law_2683 : decode cL_law 2683 = .ok (.i2l, 1) := by decide +kernel
theorem dL_law_2684 : decode cL_law 2684 = .ok (.lcmp, 1) := by decide +kernel
theorem dL_law_2685 : decode cL_law 2685 = .ok (.ifCond .ne 31, 3) := by decide +kernel
theorem dL_law_2688 : decode cL_law 2688 = .ok (.aload_n 1, 1) := by decide +kernel
theorem dL_law_2689 : decode cL_law 2689 = .ok (.invokevirtual 168, 3) := by decide +kernel
theorem dL_law_2692 : decode cL_law 2692 = .ok (.lconst 1, 1) := by decide +kernel
theorem dL_law_2693 : decode cL_law 2693 = .ok (.lcmp, 1) := by decide +kernel
theorem dL_law_2694 : decode cL_law 2694 = .ok (.ifCond .ne 22, 3) := by decide +kernel
theorem dL_law_2697 : decode cL_law 2697 = .ok (.aload_n 1, 1) := by decide +kernel
theorem dL_law_2698 : decode cL_law 2698 = .ok (.bipush 12, 2) := by decide +kernel
theorem dL_law_2700 : decode cL_law 2700 = .ok (.invokevirtual 176, 3) := by decide +kernel
theorem dL_law_2703 : decode cL_law 2703 = .ok (.iconst 1, 1) := by decide +kernel
theorem dL_law_2704 : decode cL_law 2704 = .ok (.if_icmp .ne 12, 3) := by decide +kernel
theorem dL_law_2707 : decode cL_law 2707 = .ok (.aload_n 1, 1) := by decide +kernel
theorem dL_law_2708 : decode cL_law 2708 = .ok (.invokevirtual 164, 3) := by decide +kernel
theorem dL_law_2711 : decode cL_law 2711 = .ok (.lconst 0, 1) := by decide +kernel
theorem dL_law_2712 : decode cL_law 2712 = .ok (.lcmp, 1) := by decide +kernel
theorem dL_law_2713 : decode cL_law 2713 = .ok (.ifCond .eq 5, 3) := by decide +kernel
theorem dL_law_2716 : decode cL_law 2716 = .ok (.iconst 0, 1) := by decide +kernel
theorem dL_law_2717 : decode cL_law 2717 = .ok (.ireturn, 1) := by decide +kernel
theorem dL_law_2718 : decode cL_law 2718 = .ok (.iconst 1, 1) := by decide +kernel
theorem dL_law_2719 : decode cL_law 2719 = .ok (.aload_n 0, 1) := by decide +kernel
theorem dL_law_2720 : decode cL_law 2720 = .ok (.bipush 44, 2) := by decide +kernel
theorem dL_law_2722 : decode cL_law 2722 = .ok (.invokestatic 15, 3) := by decide +kernel
theorem dL_law_2725 : decode cL_law 2725 = .ok (.bipush 18, 2) := by decide +kernel
theorem dL_law_2727 : decode cL_law 2727 = .ok (.invokestatic 21, 3) := by decide +kernel
theorem dL_law_2730 : decode cL_law 2730 = .ok (.iadd, 1) := by decide +kernel
theorem dL_law_2731 : decode cL_law 2731 = .ok (.istore 19, 2) := by decide +kernel
theorem dL_law_2733 : decode cL_law 2733 = .ok (.iconst 1, 1) := by decide +kernel
theorem dL_law_2734 : decode cL_law 2734 = .ok (.aload_n 0, 1) := by decide +kernel
theorem dL_law_2735 : decode cL_law 2735 = .ok (.bipush 45, 2) := by decide +kernel
theorem dL_law_2737 : decode cL_law 2737 = .ok (.invokestatic 15, 3) := by decide +kernel
theorem dL_law_2740 : decode cL_law 2740 = .ok (.ldc 179, 2) := by decide +kernel
theorem dL_law_2742 : decode cL_law 2742 = .ok (.invokestatic 21, 3) := by decide +kernel
theorem dL_law_2745 : decode cL_law 2745 = .ok (.iadd, 1) := by decide +kernel
theorem dL_law_2746 : decode cL_law 2746 = .ok (.istore 20, 2) := by decide +kernel
theorem dL_law_2748 : decode cL_law 2748 = .ok (.aload_n 1, 1) := by decide +kernel
theorem dL_law_2749 : decode cL_law 2749 = .ok (.iconst 2, 1) := by decide +kernel
theorem dL_law_2750 : decode cL_law 2750 = .ok (.invokevirtual 42, 3) := by decide +kernel
theorem dL_law_2753 : decode cL_law 2753 = .ok (.iload 7, 2) := by decide +kernel
theorem dL_law_2755 : decode cL_law 2755 = .ok (.if_icmp .ne 24, 3) := by decide +kernel
theorem dL_law_2758 : decode cL_law 2758 = .ok (.aload_n 1, 1) := by decide +kernel
theorem dL_law_2759 : decode cL_law 2759 = .ok (.iconst 4, 1) := by decide +kernel
theorem dL_law_2760 : decode cL_law 2760 = .ok (.invokevirtual 42, 3) := by decide +kernel
theorem dL_law_2763 : decode cL_law 2763 = .ok (.iload 8, 2) := by decide +kernel
theorem dL_law_2765 : decode cL_law 2765 = .ok (.if_icmp .ne 14, 3) := by decide +kernel
theorem dL_law_2768 : decode cL_law 2768 = .ok (.aload_n 1, 1) := by decide +kernel
theorem dL_law_2769 : decode cL_law 2769 = .ok (.bipush 6, 2) := by decide +kernel
theorem dL_law_2771 : decode cL_law 2771 = .ok (.invokevirtual 42, 3) := by decide +kernel
theorem dL_law_2774 : decode cL_law 2774 = .ok (.iload 9, 2) := by decide +kernel
theorem dL_law_2776 : decode cL_law 2776 = .ok (.if_icmp .eq 5, 3) := by decide +kernel
theorem dL_law_2779 : decode cL_law 2779 = .ok (.iconst 0, 1) := by decide +kernel
theorem dL_law_2780 : decode cL_law 2780 = .ok (.ireturn, 1) := by decide +kernel
theorem dL_law_2781 : decode cL_law 2781 = .ok (.aload_n 1, 1) := by decide +kernel
theorem dL_law_2782 : decode cL_law 2782 = .ok (.iload 19, 2) := by decide +kernel
theorem dL_law_2784 : decode cL_law 2784 = .ok (.iload 20, 2) := by decide +kernel
theorem dL_law_2786 : decode cL_law 2786 = .ok (.invokevirtual 180, 3) := by decide +kernel
theorem dL_law_2789 : decode cL_law 2789 = .ok (.istore 21, 2) := by decide +kernel
theorem dL_law_2791 : decode cL_law 2791 = .ok (.iload 7, 2) := by decide +kernel
theorem dL_law_2793 : decode cL_law 2793 = .ok (.iload 19, 2) := by decide +kernel
theorem dL_law_2795 : decode cL_law 2795 = .ok (.iadd, 1) := by decide +kernel
theorem dL_law_2796 : decode cL_law 2796 = .ok (.bipush 40, 2) := by decide +kernel
theorem dL_law_2798 : decode cL_law 2798 = .ok (.if_icmp .le 13, 3) := by decide +kernel
theorem dL_law_2801 : decode cL_law 2801 = .ok (.iload 21, 2) := by decide +kernel
theorem dL_law_2803 : decode cL_law 2803 = .ok (.bipush (-2), 2) := by decide +kernel
theorem dL_law_2805 : decode cL_law 2805 = .ok (.if_icmp .eq 77, 3) := by decide +kernel
theorem dL_law_2808 : decode cL_law 2808 = .ok (.goto 72, 3) := by decide +kernel
theorem dL_law_2811 : decode cL_law 2811 = .ok (.iload 21, 2) := by decide +kernel
theorem dL_law_2813 : decode cL_law 2813 = .ok (.aload_n 1, 1) := by decide +kernel
theorem dL_law_2814 : decode cL_law 2814 = .ok (.bipush 6, 2) := by decide +kernel
theorem dL_law_2816 : decode cL_law 2816 = .ok (.invokevirtual 42, 3) := by decide +kernel
theorem dL_law_2819 : decode cL_law 2819 = .ok (.if_icmp .ne 61, 3) := by decide +kernel
theorem dL_law_2822 : decode cL_law 2822 = .ok (.aload_n 1, 1) := by decide +kernel
theorem dL_law_2823 : decode cL_law 2823 = .ok (.iconst 2, 1) := by decide +kernel
theorem dL_law_2824 : decode cL_law 2824 = .ok (.invokevirtual 42, 3) := by decide +kernel
theorem dL_law_2827 : decode cL_law 2827 = .ok (.iload 7, 2) := by decide +kernel
theorem dL_law_2829 : decode cL_law 2829 = .ok (.iload 19, 2) := by decide +kernel
theorem dL_law_2831 : decode cL_law 2831 = .ok (.iadd, 1) := by decide +kernel
theorem dL_law_2832 : decode cL_law 2832 = .ok (.if_icmp .ne 48, 3) := by decide +kernel
theorem dL_law_2835 : decode cL_law 2835 = .ok (.aload_n 1, 1) := by decide +kernel
theorem dL_law_2836 : decode cL_law 2836 = .ok (.iload 7, 2) := by decide +kernel
theorem dL_law_2838 : decode cL_law 2838 = .ok (.invokevirtual 116, 3) := by decide +kernel
theorem dL_law_2841 : decode cL_law 2841 = .ok (.iload 19, 2) := by decide +kernel
theorem dL_law_2843 : decode cL_law 2843 = .ok (.if_icmp .ne 37, 3) := by decide +kernel
theorem dL_law_2846 : decode cL_law 2846 = .ok (.aload_n 1, 1) := by decide +kernel
theorem dL_law_2847 : decode cL_law 2847 = .ok (.bipush 6, 2) := by decide +kernel
theorem dL_law_2849 : decode cL_law 2849 = .ok (.invokevirtual 42, 3) := by decide +kernel
theorem dL_law_2852 : decode cL_law 2852 = .ok (.iload 9, 2) := by decide +kernel
theorem dL_law_2854 : decode cL_law 2854 = .ok (.if_icmp .ne 26, 3) := by decide +kernel
theorem dL_law_2857 : decode cL_law 2857 = .ok (.aload_n 1, 1) := by decide +kernel
theorem dL_law_2858 : decode cL_law 2858 = .ok (.iload 19, 2) := by decide +kernel
theorem dL_law_2860 : decode cL_law 2860 = .ok (.iload 20, 2) := by decide +kernel
theorem dL_law_2862 : decode cL_law 2862 = .ok (.invokevirtual 180, 3) := by decide +kernel
theorem dL_law_2865 : decode cL_law 2865 = .ok (.iload 21, 2) := by decide +kernel
theorem dL_law_2867 : decode cL_law 2867 = .ok (.if_icmp .ne 13, 3) := by decide +kernel
theorem dL_law_2870 : decode cL_law 2870 = .ok (.aload_n 1, 1) := by decide +kernel
theorem dL_law_2871 : decode cL_law 2871 = .ok (.iconst 1, 1) := by decide +kernel
theorem dL_law_2872 : decode cL_law 2872 = .ok (.invokevirtual 149, 3) := by decide +kernel
theorem dL_law_2875 : decode cL_law 2875 = .ok (.iload 7, 2) := by decide +kernel
theorem dL_law_2877 : decode cL_law 2877 = .ok (.if_icmp .eq 5, 3) := by decide +kernel
theorem dL_law_2880 : decode cL_law 2880 = .ok (.iconst 0, 1) := by decide +kernel
theorem dL_law_2881 : decode cL_law 2881 = .ok (.ireturn, 1) := by decide +kernel
theorem dL_law_2882 : decode cL_law 2882 = .ok (.aload_n 1, 1) := by decide +kernel
theorem dL_law_2883 : decode cL_law 2883 = .ok (.bipush 6, 2) := by decide +kernel
theorem dL_law_2885 : decode cL_law 2885 = .ok (.invokevirtual 42, 3) := by decide +kernel
theorem dL_law_2888 : decode cL_law 2888 = .ok (.iload 9, 2) := by decide +kernel
theorem dL_law_2890 : decode cL_law 2890 = .ok (.if_icmp .ne 68, 3) := by decide +kernel
theorem dL_law_2893 : decode cL_law 2893 = .ok (.aload_n 1, 1) := by decide +kernel
theorem dL_law_2894 : decode cL_law 2894 = .ok (.iconst 0, 1) := by decide +kernel
theorem dL_law_2895 : decode cL_law 2895 = .ok (.invokevirtual 116, 3) := by decide +kernel
theorem dL_law_2898 : decode cL_law 2898 = .ok (.iload 7, 2) := by decide +kernel
theorem dL_law_2900 : decode cL_law 2900 = .ok (.if_icmp .ne 58, 3) := by decide +kernel
theorem dL_law_2903 : decode cL_law 2903 = .ok (.aload_n 1, 1) := by decide +kernel
theorem dL_law_2904 : decode cL_law 2904 = .ok (.iconst 0, 1) := by decide +kernel
theorem dL_law_2905 : decode cL_law 2905 = .ok (.invokevirtual 149, 3) := by decide +kernel
theorem dL_law_2908 : decode cL_law 2908 = .ok (.ifCond .ne 50, 3) := by decide +kernel
theorem dL_law_2911 : decode cL_law 2911 = .ok (.aload_n 1, 1) := by decide +kernel
theorem dL_law_2912 : decode cL_law 2912 = .ok (.iconst 3, 1) := by decide +kernel
theorem dL_law_2913 : decode cL_law 2913 = .ok (.invokevirtual 42, 3) := by decide +kernel
theorem dL_law_2916 : decode cL_law 2916 = .ok (.ifCond .ne 42, 3) := by decide +kernel
theorem dL_law_2919 : decode cL_law 2919 = .ok (.aload_n 1, 1) := by decide +kernel
theorem dL_law_2920 : decode cL_law 2920 = .ok (.iconst 4, 1) := by decide +kernel
theorem dL_law_2921 : decode cL_law 2921 = .ok (.invokevirtual 42, 3) := by decide +kernel
theorem dL_law_2924 : decode cL_law 2924 = .ok (.ifCond .ne 34, 3) := by decide +kernel
theorem dL_law_2927 : decode cL_law 2927 = .ok (.aload_n 1, 1) := by decide +kernel
theorem dL_law_2928 : decode cL_law 2928 = .ok (.iconst 5, 1) := by decide +kernel
theorem dL_law_2929 : decode cL_law 2929 = .ok (.invokevirtual 42, 3) := by decide +kernel
theorem dL_law_2932 : decode cL_law 2932 = .ok (.ifCond .ne 26, 3) := by decide +kernel
theorem dL_law_2935 : decode cL_law 2935 = .ok (.aload_n 1, 1) := by decide +kernel
theorem dL_law_2936 : decode cL_law 2936 = .ok (.bipush 7, 2) := by decide +kernel
theorem dL_law_2938 : decode cL_law 2938 = .ok (.invokevirtual 42, 3) := by decide +kernel
theorem dL_law_2941 : decode cL_law 2941 = .ok (.ifCond .ne 17, 3) := by decide +kernel
theorem dL_law_2944 : decode cL_law 2944 = .ok (.aload_n 1, 1) := by decide +kernel
theorem dL_law_2945 : decode cL_law 2945 = .ok (.bipush 10, 2) := by decide +kernel
theorem dL_law_2947 : decode cL_law 2947 = .ok (.invokevirtual 42, 3) := by decide +kernel
theorem dL_law_2950 : decode cL_law 2950 = .ok (.iconst 2, 1) := by decide +kernel
theorem dL_law_2951 : decode cL_law 2951 = .ok (.if_icmp .ne 7, 3) := by decide +kernel
theorem dL_law_2954 : decode cL_law 2954 = .ok (.iconst 1, 1) := by decide +kernel
theorem dL_law_2955 : decode cL_law 2955 = .ok (.goto 4, 3) := by decide +kernel
theorem dL_law_2958 : decode cL_law 2958 = .ok (.iconst 0, 1) := by decide +kernel
theorem dL_law_2959 : decode cL_law 2959 = .ok (.ireturn, 1) := by decide +kernel
theorem dL_told_0 : decode cL_told 0 = .ok (.iload_n 1, 1) := by decide +kernel
theorem dL_told_1 : decode cL_told 1 = .ok (.iconst 1, 1) := by decide +kernel
theorem dL_told_2 : decode cL_told 2 = .ok (.if_icmp .ne 10, 3) := by decide +kernel
theorem dL_told_5 : decode cL_told 5 = .ok (.aload_n 0, 1) := by decide +kernel
theorem dL_told_6 : decode cL_told 6 = .ok (.invokevirtual 119, 3) := by decide +kernel
theorem dL_told_9 : decode cL_told 9 = .ok (.goto 6, 3) := by decide +kernel
theorem dL_told_12 : decode cL_told 12 = .ok (.sipush (-7777), 3) := by decide +kernel
theorem dL_told_15 : decode cL_told 15 = .ok (.ireturn, 1) := by decide +kernel
