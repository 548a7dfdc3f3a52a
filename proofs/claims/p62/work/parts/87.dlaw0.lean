theorem dL_draw_0 : decode cL_draw 0 = .ok (.iload_n 1, 1) := by decide +kernel
theorem dL_draw_1 : decode cL_draw 1 = .ok (.aload_n 0, 1) := by decide +kernel
theorem dL_draw_2 : decode cL_draw 2 = .ok (.arraylength, 1) := by decide +kernel
theorem dL_draw_3 : decode cL_draw 3 = .ok (.if_icmp .ge 9, 3) := by decide +kernel
theorem dL_draw_6 : decode cL_draw 6 = .ok (.aload_n 0, 1) := by decide +kernel
theorem dL_draw_7 : decode cL_draw 7 = .ok (.iload_n 1, 1) := by decide +kernel
theorem dL_draw_8 : decode cL_draw 8 = .ok (.iaload, 1) := by decide +kernel
theorem dL_draw_9 : decode cL_draw 9 = .ok (.goto 4, 3) := by decide +kernel
theorem dL_draw_12 : decode cL_draw 12 = .ok (.iconst 0, 1) := by decide +kernel
theorem dL_draw_13 : decode cL_draw 13 = .ok (.ldc 7, 2) := by decide +kernel
theorem dL_draw_15 : decode cL_draw 15 = .ok (.iand, 1) := by decide +kernel
theorem dL_draw_16 : decode cL_draw 16 = .ok (.iload_n 2, 1) := by decide +kernel
theorem dL_draw_17 : decode cL_draw 17 = .ok (.irem, 1) := by decide +kernel
theorem dL_draw_18 : decode cL_draw 18 = .ok (.ireturn, 1) := by decide +kernel
theorem dL_four_0 : decode cL_four 0 = .ok (.iconst 0, 1) := by decide +kernel
theorem dL_four_1 : decode cL_four 1 = .ok (.istore_n 2, 1) := by decide +kernel
theorem dL_four_2 : decode cL_four 2 = .ok (.iconst 0, 1) := by decide +kernel
theorem dL_four_3 : decode cL_four 3 = .ok (.istore_n 3, 1) := by decide +kernel
theorem dL_four_4 : decode cL_four 4 = .ok (.iload_n 3, 1) := by decide +kernel
theorem dL_four_5 : decode cL_four 5 = .ok (.iconst 4, 1) := by decide +kernel
theorem dL_four_6 : decode cL_four 6 = .ok (.if_icmp .ge 36, 3) := by decide +kernel
theorem dL_four_9 : decode cL_four 9 = .ok (.iload_n 2, 1) := by decide +kernel
theorem dL_four_10 : decode cL_four 10 = .ok (.bipush 8, 2) := by decide +kernel
theorem dL_four_12 : decode cL_four 12 = .ok (.ishl, 1) := by decide +kernel
theorem dL_four_13 : decode cL_four 13 = .ok (.iload_n 1, 1) := by decide +kernel
theorem dL_four_14 : decode cL_four 14 = .ok (.iload_n 3, 1) := by decide +kernel
theorem dL_four_15 : decode cL_four 15 = .ok (.iadd, 1) := by decide +kernel
theorem dL_four_16 : decode cL_four 16 = .ok (.aload_n 0, 1) := by decide +kernel
theorem dL_four_17 : decode cL_four 17 = .ok (.invokevirtual 8, 3) := by decide +kernel
theorem dL_four_20 : decode cL_four 20 = .ok (.if_icmp .ge 13, 3) := by decide +kernel
theorem dL_four_23 : decode cL_four 23 = .ok (.aload_n 0, 1) := by decide +kernel
theorem dL_four_24 : decode cL_four 24 = .ok (.iload_n 1, 1) := by decide +kernel
theorem dL_four_25 : decode cL_four 25 = .ok (.iload_n 3, 1) := by decide +kernel
theorem dL_four_26 : decode cL_four 26 = .ok (.iadd, 1) := by decide +kernel
theorem dL_four_27 : decode cL_four 27 = .ok (.invokevirtual 14, 3) := by decide +kernel
theorem dL_four_30 : decode cL_four 30 = .ok (.goto 4, 3) := by decide +kernel
theorem dL_four_33 : decode cL_four 33 = .ok (.iconst 0, 1) := by decide +kernel
theorem dL_four_34 : decode cL_four 34 = .ok (.ior, 1) := by decide +kernel
theorem dL_four_35 : decode cL_four 35 = .ok (.istore_n 2, 1) := by decide +kernel
theorem dL_four_36 : decode cL_four 36 = .ok (.iinc 3 1, 3) := by decide +kernel
theorem dL_four_39 : decode cL_four 39 = .ok (.goto (-35), 3) := by decide +kernel
theorem dL_four_42 : decode cL_four 42 = .ok (.iload_n 2, 1) := by decide +kernel
theorem dL_four_43 : decode cL_four 43 = .ok (.ireturn, 1) := by decide +kernel
theorem dL_feed_0 : decode cL_feed 0 = .ok (.iconst 0, 1) := by decide +kernel
theorem dL_feed_1 : decode cL_feed 1 = .ok (.istore_n 2, 1) := by decide +kernel
theorem dL_feed_2 : decode cL_feed 2 = .ok (.iconst 0, 1) := by decide +kernel
theorem dL_feed_3 : decode cL_feed 3 = .ok (.istore_n 3, 1) := by decide +kernel
theorem dL_feed_4 : decode cL_feed 4 = .ok (.iload_n 3, 1) := by decide +kernel
theorem dL_feed_5 : decode cL_feed 5 = .ok (.aload_n 1, 1) := by decide +kernel
theorem dL_feed_6 : decode cL_feed 6 = .ok (.invokevirtual 8, 3) := by decide +kernel
theorem dL_feed_9 : decode cL_feed 9 = .ok (.if_icmp .lt 7, 3) := by decide +kernel
theorem dL_feed_12 : decode cL_feed 12 = .ok (.iload_n 3, 1) := by decide +kernel
theorem dL_feed_13 : decode cL_feed 13 = .ok (.ifCond .ne 50, 3) := by decide +kernel
theorem dL_feed_16 : decode cL_feed 16 = .ok (.aload_n 0, 1) := by decide +kernel
theorem dL_feed_17 : decode cL_feed 17 = .ok (.aload_n 1, 1) := by decide +kernel
theorem dL_feed_18 : decode cL_feed 18 = .ok (.iload_n 3, 1) := by decide +kernel
theorem dL_feed_19 : decode cL_feed 19 = .ok (.invokestatic 18, 3) := by decide +kernel
theorem dL_feed_22 : decode cL_feed 22 = .ok (.aload_n 1, 1) := by decide +kernel
theorem dL_feed_23 : decode cL_feed 23 = .ok (.iload_n 3, 1) := by decide +kernel
theorem dL_feed_24 : decode cL_feed 24 = .ok (.iconst 4, 1) := by decide +kernel
theorem dL_feed_25 : decode cL_feed 25 = .ok (.iadd, 1) := by decide +kernel
theorem dL_feed_26 : decode cL_feed 26 = .ok (.invokestatic 18, 3) := by decide +kernel
theorem dL_feed_29 : decode cL_feed 29 = .ok (.aload_n 1, 1) := by decide +kernel
theorem dL_feed_30 : decode cL_feed 30 = .ok (.iload_n 3, 1) := by decide +kernel
theorem dL_feed_31 : decode cL_feed 31 = .ok (.bipush 8, 2) := by decide +kernel
theorem dL_feed_33 : decode cL_feed 33 = .ok (.iadd, 1) := by decide +kernel
theorem dL_feed_34 : decode cL_feed 34 = .ok (.invokestatic 18, 3) := by decide +kernel
theorem dL_feed_37 : decode cL_feed 37 = .ok (.aload_n 1, 1) := by decide +kernel
theorem dL_feed_38 : decode cL_feed 38 = .ok (.iload_n 3, 1) := by decide +kernel
theorem dL_feed_39 : decode cL_feed 39 = .ok (.bipush 12, 2) := by decide +kernel
theorem dL_feed_41 : decode cL_feed 41 = .ok (.iadd, 1) := by decide +kernel
theorem dL_feed_42 : decode cL_feed 42 = .ok (.invokestatic 18, 3) := by decide +kernel
theorem dL_feed_45 : decode cL_feed 45 = .ok (.aload_n 1, 1) := by decide +kernel
theorem dL_feed_46 : decode cL_feed 46 = .ok (.iload_n 3, 1) := by decide +kernel
theorem dL_feed_47 : decode cL_feed 47 = .ok (.bipush 16, 2) := by decide +kernel
theorem dL_feed_49 : decode cL_feed 49 = .ok (.iadd, 1) := by decide +kernel
theorem dL_feed_50 : decode cL_feed 50 = .ok (.invokestatic 18, 3) := by decide +kernel
theorem dL_feed_53 : decode cL_feed 53 = .ok (.invokevirtual 24, 3) := by decide +kernel
theorem dL_feed_56 : decode cL_feed 56 = .ok (.istore_n 2, 1) := by decide +kernel
theorem dL_feed_57 : decode cL_feed 57 = .ok (.iinc 3 20, 3) := by decide +kernel
theorem dL_feed_60 : decode cL_feed 60 = .ok (.goto (-56), 3) := by decide +kernel
theorem dL_feed_63 : decode cL_feed 63 = .ok (.aload_n 0, 1) := by decide +kernel
theorem dL_feed_64 : decode cL_feed 64 = .ok (.iload_n 2, 1) := by decide +kernel
theorem dL_feed_65 : decode cL_feed 65 = .ok (.aload_n 1, 1) := by decide +kernel
theorem dL_feed_66 : decode cL_feed 66 = .ok (.invokevirtual 8, 3) := by decide +kernel
theorem dL_feed_69 : decode cL_feed 69 = .ok (.invokestatic 30, 3) := by decide +kernel
theorem dL_feed_72 : decode cL_feed 72 = .ok (.invokevirtual 36, 3) := by decide +kernel
theorem dL_feed_75 : decode cL_feed 75 = .ok (.return_, 1) := by decide +kernel
theorem dL_load_0 : decode cL_load 0 = .ok (.iconst 1, 1) := by decide +kernel
theorem dL_load_1 : decode cL_load 1 = .ok (.aload_n 1, 1) := by decide +kernel
theorem dL_load_2 : decode cL_load 2 = .ok (.iconst 0, 1) := by decide +kernel
theorem dL_load_3 : decode cL_load 3 = .ok (.iconst 5, 1) := by decide +kernel
theorem dL_load_4 : decode cL_load 4 = .ok (.invokestatic 40, 3) := by decide +kernel
theorem dL_load_7 : decode cL_load 7 = .ok (.iadd, 1) := by decide +kernel
theorem dL_load_8 : decode cL_load 8 = .ok (.istore_n 2, 1) := by decide +kernel
theorem dL_load_9 : decode cL_load 9 = .ok (.iconst 1, 1) := by decide +kernel
theorem dL_load_10 : decode cL_load 10 = .ok (.aload_n 1, 1) := by decide +kernel
theorem dL_load_11 : decode cL_load 11 = .ok (.iconst 1, 1) := by decide +kernel
theorem dL_load_12 : decode cL_load 12 = .ok (.iconst 3, 1) := by decide +kernel
theorem dL_load_13 : decode cL_load 13 = .ok (.invokestatic 40, 3) := by decide +kernel
theorem dL_load_16 : decode cL_load 16 = .ok (.iadd, 1) := by decide +kernel
theorem dL_load_17 : decode cL_load 17 = .ok (.istore_n 3, 1) := by decide +kernel
theorem dL_load_18 : decode cL_load 18 = .ok (.new 44, 3) := by decide +kernel
theorem dL_load_21 : decode cL_load 21 = .ok (.dup, 1) := by decide +kernel
theorem dL_load_22 : decode cL_load 22 = .ok (.ldc 46, 2) := by decide +kernel
theorem dL_load_24 : decode cL_load 24 = .ok (.invokespecial 48, 3) := by decide +kernel
theorem dL_load_27 : decode cL_load 27 = .ok (.aload_n 1, 1) := by decide +kernel
theorem dL_load_28 : decode cL_load 28 = .ok (.iconst 2, 1) := by decide +kernel
theorem dL_load_29 : decode cL_load 29 = .ok (.iconst 4, 1) := by decide +kernel
theorem dL_load_30 : decode cL_load 30 = .ok (.invokestatic 40, 3) := by decide +kernel
theorem dL_load_33 : decode cL_load 33 = .ok (.invokevirtual 51, 3) := by decide +kernel
theorem dL_load_36 : decode cL_load 36 = .ok (.ldc 54, 2) := by decide +kernel
theorem dL_load_38 : decode cL_load 38 = .ok (.invokevirtual 56, 3) := by decide +kernel
theorem dL_load_41 : decode cL_load 41 = .ok (.aload_n 1, 1) := by decide +kernel
theorem dL_load_42 : decode cL_load 42 = .ok (.iconst 3, 1) := by decide +kernel
theorem dL_load_43 : decode cL_load 43 = .ok (.bipush 12, 2) := by decide +kernel
theorem dL_load_45 : decode cL_load 45 = .ok (.invokestatic 40, 3) := by decide +kernel
theorem dL_load_48 : decode cL_load 48 = .ok (.invokevirtual 51, 3) := by decide +kernel
theorem dL_load_51 : decode cL_load 51 = .ok (.ldc 59, 2) := by decide +kernel
theorem dL_load_53 : decode cL_load 53 = .ok (.invokevirtual 56, 3) := by decide +kernel
theorem dL_load_56 : decode cL_load 56 = .ok (.aload_n 1, 1) := by decide +kernel
theorem dL_load_57 : decode cL_load 57 = .ok (.iconst 4, 1) := by decide +kernel
theorem dL_load_58 : decode cL_load 58 = .ok (.bipush 7, 2) := by decide +kernel
theorem dL_load_60 : decode cL_load 60 = .ok (.invokestatic 40, 3) := by decide +kernel
theorem dL_load_63 : decode cL_load 63 = .ok (.invokevirtual 51, 3) := by decide +kernel
theorem dL_load_66 : decode cL_load 66 = .ok (.ldc 61, 2) := by decide +kernel
theorem dL_load_68 : decode cL_load 68 = .ok (.invokevirtual 56, 3) := by decide +kernel
theorem dL_load_71 : decode cL_load 71 = .ok (.iconst 2, 1) := by decide +kernel
theorem dL_load_72 : decode cL_load 72 = .ok (.aload_n 1, 1) := by decide +kernel
theorem dL_load_73 : decode cL_load 73 = .ok (.iconst 5, 1) := by decide +kernel
theorem dL_load_74 : decode cL_load 74 = .ok (.bipush 40, 2) := by decide +kernel
theorem dL_load_76 : decode cL_load 76 = .ok (.invokestatic 40, 3) := by decide +kernel
theorem dL_load_79 : decode cL_load 79 = .ok (.iadd, 1) := by decide +kernel
theorem dL_load_80 : decode cL_load 80 = .ok (.invokevirtual 51, 3) := by decide +kernel
theorem dL_load_83 : decode cL_load 83 = .ok (.ldc 63, 2) := by decide +kernel
theorem dL_load_85 : decode cL_load 85 = .ok (.invokevirtual 56, 3) := by decide +kernel
theorem dL_load_88 : decode cL_load 88 = .ok (.iconst 1, 1) := by decide +kernel
theorem dL_load_89 : decode cL_load 89 = .ok (.aload_n 1, 1) := by decide +kernel
theorem dL_load_90 : decode cL_load 90 = .ok (.bipush 6, 2) := by decide +kernel
theorem dL_load_92 : decode cL_load 92 = .ok (.iconst 3, 1) := by decide +kernel
theorem dL_load_93 : decode cL_load 93 = .ok (.invokestatic 40, 3) := by decide +kernel
theorem dL_load_96 : decode cL_load 96 = .ok (.iadd, 1) := by decide +kernel
theorem dL_load_97 : decode cL_load 97 = .ok (.invokevirtual 51, 3) := by decide +kernel
theorem dL_load_100 : decode cL_load 100 = .ok (.ldc 65, 2) := by decide +kernel
theorem dL_load_102 : decode cL_load 102 = .ok (.invokevirtual 56, 3) := by decide +kernel
theorem dL_load_105 : decode cL_load 105 = .ok (.astore 4, 2) := by decide +kernel
theorem dL_load_107 : decode cL_load 107 = .ok (.iconst 0, 1) := by decide +kernel
theorem dL_load_108 : decode cL_load 108 = .ok (.istore 5, 2) := by decide +kernel
theorem dL_load_110 : decode cL_load 110 = .ok (.iload 5, 2) := by decide +kernel
theorem dL_load_112 : decode cL_load 112 = .ok (.iload_n 2, 1) := by decide +kernel
theorem dL_load_113 : decode cL_load 113 = .ok (.if_icmp .ge 31, 3) := by decide +kernel
theorem dL_load_116 : decode cL_load 116 = .ok (.aload 4, 2) := by decide +kernel
theorem dL_load_118 : decode cL_load 118 = .ok (.ldc 67, 2) := by decide +kernel
theorem dL_load_120 : decode cL_load 120 = .ok (.invokevirtual 56, 3) := by decide +kernel
theorem dL_load_123 : decode cL_load 123 = .ok (.bipush 97, 2) := by decide +kernel
theorem dL_load_125 : decode cL_load 125 = .ok (.iload 5, 2) := by decide +kernel
theorem dL_load_127 : decode cL_load 127 = .ok (.iadd, 1) := by decide +kernel
theorem dL_load_128 : decode cL_load 128 = .ok (.i2c, 1) := by decide +kernel
theorem dL_load_129 : decode cL_load 129 = .ok (.invokevirtual 69, 3) := by decide +kernel
theorem dL_load_132 : decode cL_load 132 = .ok (.ldc 65, 2) := by decide +kernel
theorem dL_load_134 : decode cL_load 134 = .ok (.invokevirtual 56, 3) := by decide +kernel
theorem dL_load_137 : decode cL_load 137 = .ok (.pop, 1) := by decide +kernel
theorem dL_load_138 : decode cL_load 138 = .ok (.iinc 5 1, 3) := by decide +kernel
theorem dL_load_141 : decode cL_load 141 = .ok (.goto (-31), 3) := by decide +kernel
theorem dL_load_144 : decode cL_load 144 = .ok (.iconst 0, 1) := by decide +kernel
theorem dL_load_145 : decode cL_load 145 = .ok (.istore 5, 2) := by decide +kernel
theorem dL_load_147 : decode cL_load 147 = .ok (.iload 5, 2) := by decide +kernel
theorem dL_load_149 : decode cL_load 149 = .ok (.iload_n 3, 1) := by decide +kernel
theorem dL_load_150 : decode cL_load 150 = .ok (.if_icmp .ge 31, 3) := by decide +kernel
theorem dL_load_153 : decode cL_load 153 = .ok (.aload 4, 2) := by decide +kernel
theorem dL_load_155 : decode cL_load 155 = .ok (.ldc 72, 2) := by decide +kernel
theorem dL_load_157 : decode cL_load 157 = .ok (.invokevirtual 56, 3) := by decide +kernel
theorem dL_load_160 : decode cL_load 160 = .ok (.bipush 97, 2) := by decide +kernel
theorem dL_load_162 : decode cL_load 162 = .ok (.iload 5, 2) := by decide +kernel
theorem dL_load_164 : decode cL_load 164 = .ok (.iadd, 1) := by decide +kernel
theorem dL_load_165 : decode cL_load 165 = .ok (.i2c, 1) := by decide +kernel
theorem dL_load_166 : decode cL_load 166 = .ok (.invokevirtual 69, 3) := by decide +kernel
theorem dL_load_169 : decode cL_load 169 = .ok (.ldc 65, 2) := by decide +kernel
theorem dL_load_171 : decode cL_load 171 = .ok (.invokevirtual 56, 3) := by decide +kernel
theorem dL_load_174 : decode cL_load 174 = .ok (.pop, 1) := by decide +kernel
theorem dL_load_175 : decode cL_load 175 = .ok (.iinc 5 1, 3) := by decide +kernel
theorem dL_load_178 : decode cL_load 178 = .ok (.goto (-31), 3) := by decide +kernel
theorem dL_load_181 : decode cL_load 181 = .ok (.iconst 0, 1) := by decide +kernel
theorem dL_load_182 : decode cL_load 182 = .ok (.istore 5, 2) := by decide +kernel
theorem dL_load_184 : decode cL_load 184 = .ok (.iconst 0, 1) := by decide +kernel
theorem dL_load_185 : decode cL_load 185 = .ok (.istore 6, 2) := by decide +kernel
theorem dL_load_187 : decode cL_load 187 = .ok (.iload 6, 2) := by decide +kernel
theorem dL_load_189 : decode cL_load 189 = .ok (.iload_n 2, 1) := by decide +kernel
theorem dL_load_190 : decode cL_load 190 = .ok (.if_icmp .ge 109, 3) := by decide +kernel
theorem dL_load_193 : decode cL_load 193 = .ok (.iconst 0, 1) := by decide +kernel
theorem dL_load_194 : decode cL_load 194 = .ok (.istore 7, 2) := by decide +kernel
theorem dL_load_196 : decode cL_load 196 = .ok (.iload 7, 2) := by decide +kernel
theorem dL_load_198 : decode cL_load 198 = .ok (.iload 6, 2) := by decide +kernel
theorem dL_load_200 : decode cL_load 200 = .ok (.if_icmp .ge 93, 3) := by decide +kernel
theorem dL_load_203 : decode cL_load 203 = .ok (.aload_n 1, 1) := by decide +kernel
theorem dL_load_204 : decode cL_load 204 = .ok (.bipush 10, 2) := by decide +kernel
theorem dL_load_206 : decode cL_load 206 = .ok (.iconst 5, 1) := by decide +kernel
theorem dL_load_207 : decode cL_load 207 = .ok (.iload 6, 2) := by decide +kernel
theorem dL_load_209 : decode cL_load 209 = .ok (.imul, 1) := by decide +kernel
theorem dL_load_210 : decode cL_load 210 = .ok (.iadd, 1) := by decide +kernel
theorem dL_load_211 : decode cL_load 211 = .ok (.iload 7, 2) := by decide +kernel
theorem dL_load_213 : decode cL_load 213 = .ok (.iadd, 1) := by decide +kernel
theorem dL_load_214 : decode cL_load 214 = .ok (.iconst 3, 1) := by decide +kernel
theorem dL_load_215 : decode cL_load 215 = .ok (.invokestatic 40, 3) := by decide +kernel
theorem dL_load_218 : decode cL_load 218 = .ok (.ifCond .ne 6, 3) := by decide +kernel
theorem dL_load_221 : decode cL_load 221 = .ok (.goto 66, 3) := by decide +kernel
theorem dL_load_224 : decode cL_load 224 = .ok (.aload 4, 2) := by decide +kernel
theorem dL_load_226 : decode cL_load 226 = .ok (.ldc 74, 2) := by decide +kernel
theorem dL_load_228 : decode cL_load 228 = .ok (.invokevirtual 56, 3) := by decide +kernel
theorem dL_load_231 : decode cL_load 231 = .ok (.bipush 97, 2) := by decide +kernel
theorem dL_load_233 : decode cL_load 233 = .ok (.iload 6, 2) := by decide +kernel
theorem dL_load_235 : decode cL_load 235 = .ok (.iadd, 1) := by decide +kernel
theorem dL_load_236 : decode cL_load 236 = .ok (.i2c, 1) := by decide +kernel
theorem dL_load_237 : decode cL_load 237 = .ok (.invokevirtual 69, 3) := by decide +kernel
theorem dL_load_240 : decode cL_load 240 = .ok (.ldc 76, 2) := by decide +kernel
theorem dL_load_242 : decode cL_load 242 = .ok (.invokevirtual 56, 3) := by decide +kernel
theorem dL_load_245 : decode cL_load 245 = .ok (.bipush 97, 2) := by decide +kernel
theorem dL_load_247 : decode cL_load 247 = .ok (.iload 7, 2) := by decide +kernel
theorem dL_load_249 : decode cL_load 249 = .ok (.iadd, 1) := by decide +kernel
theorem dL_load_250 : decode cL_load 250 = .ok (.i2c, 1) := by decide +kernel
theorem dL_load_251 : decode cL_load 251 = .ok (.invokevirtual 69, 3) := by decide +kernel
theorem dL_load_254 : decode cL_load 254 = .ok (.ldc 78, 2) := by decide +kernel
theorem dL_load_256 : decode cL_load 256 = .ok (.invokevirtual 56, 3) := by decide +kernel
theorem dL_load_259 : decode cL_load 259 = .ok (.aload_n 1, 1) := by decide +kernel
theorem dL_load_260 : decode cL_load 260 = .ok (.bipush 11, 2) := by decide +kernel
theorem dL_load_262 : decode cL_load 262 = .ok (.iconst 5, 1) := by decide +kernel
theorem dL_load_263 : decode cL_load 263 = .ok (.iload 6, 2) := by decide +kernel
theorem dL_load_265 : decode cL_load 265 = .ok (.imul, 1) := by decide +kernel
theorem dL_load_266 : decode cL_load 266 = .ok (.iadd, 1) := by decide +kernel
theorem dL_load_267 : decode cL_load 267 = .ok (.iload 7, 2) := by decide +kernel
theorem dL_load_269 : decode cL_load 269 = .ok (.iadd, 1) := by decide +kernel
theorem dL_load_270 : decode cL_load 270 = .ok (.bipush 11, 2) := by decide +kernel
theorem dL_load_272 : decode cL_load 272 = .ok (.invokestatic 40, 3) := by decide +kernel
theorem dL_load_275 : decode cL_load 275 = .ok (.invokevirtual 51, 3) := by decide +kernel
theorem dL_load_278 : decode cL_load 278 = .ok (.ldc 65, 2) := by decide +kernel
theorem dL_load_280 : decode cL_load 280 = .ok (.invokevirtual 56, 3) := by decide +kernel
theorem dL_load_283 : decode cL_load 283 = .ok (.pop, 1) := by decide +kernel
theorem dL_load_284 : decode cL_load 284 = .ok (.iinc 5 1, 3) := by decide +kernel
theorem dL_load_287 : decode cL_load 287 = .ok (.iinc 7 1, 3) := by decide +kernel
theorem dL_load_290 : decode cL_load 290 = .ok (.goto (-94), 3) := by decide +kernel
theorem dL_load_293 : decode cL_load 293 = .ok (.iinc 6 1, 3) := by decide +kernel
theorem dL_load_296 : decode cL_load 296 = .ok (.goto (-109), 3) := by decide +kernel
theorem dL_load_299 : decode cL_load 299 = .ok (.aload_n 1, 1) := by decide +kernel
theorem dL_load_300 : decode cL_load 300 = .ok (.bipush 7, 2) := by decide +kernel
theorem dL_load_302 : decode cL_load 302 = .ok (.bipush 8, 2) := by decide +kernel
theorem dL_load_304 : decode cL_load 304 = .ok (.invokestatic 40, 3) := by decide +kernel
theorem dL_load_307 : decode cL_load 307 = .ok (.istore 6, 2) := by decide +kernel
theorem dL_load_309 : decode cL_load 309 = .ok (.iconst 0, 1) := by decide +kernel
theorem dL_load_310 : decode cL_load 310 = .ok (.istore 7, 2) := by decide +kernel
theorem dL_load_312 : decode cL_load 312 = .ok (.iload 7, 2) := by decide +kernel
theorem dL_load_314 : decode cL_load 314 = .ok (.iload 6, 2) := by decide +kernel
theorem dL_load_316 : decode cL_load 316 = .ok (.if_icmp .ge 115, 3) := by decide +kernel
theorem dL_load_319 : decode cL_load 319 = .ok (.aload_n 1, 1) := by decide +kernel
theorem dL_load_320 : decode cL_load 320 = .ok (.bipush 40, 2) := by decide +kernel
theorem dL_load_322 : decode cL_load 322 = .ok (.iconst 4, 1) := by decide +kernel
theorem dL_load_323 : decode cL_load 323 = .ok (.iload 7, 2) := by decide +kernel
theorem dL_load_325 : decode cL_load 325 = .ok (.imul, 1) := by decide +kernel
theorem dL_load_326 : decode cL_load 326 = .ok (.iadd, 1) := by decide +kernel
theorem dL_load_327 : decode cL_load 327 = .ok (.sipush 300, 3) := by decide +kernel
theorem dL_load_330 : decode cL_load 330 = .ok (.invokestatic 40, 3) := by decide +kernel
theorem dL_load_333 : decode cL_load 333 = .ok (.istore 8, 2) := by decide +kernel
theorem dL_load_335 : decode cL_load 335 = .ok (.aload 4, 2) := by decide +kernel
theorem dL_load_337 : decode cL_load 337 = .ok (.ldc 80, 2) := by decide +kernel
theorem dL_load_339 : decode cL_load 339 = .ok (.invokevirtual 56, 3) := by decide +kernel
theorem dL_load_342 : decode cL_load 342 = .ok (.bipush 97, 2) := by decide +kernel
theorem dL_load_344 : decode cL_load 344 = .ok (.aload_n 1, 1) := by decide +kernel
theorem dL_load_345 : decode cL_load 345 = .ok (.bipush 42, 2) := by decide +kernel
theorem dL_load_347 : decode cL_load 347 = .ok (.iconst 4, 1) := by decide +kernel
theorem dL_load_348 : decode cL_load 348 = .ok (.iload 7, 2) := by decide +kernel
theorem dL_load_350 : decode cL_load 350 = .ok (.imul, 1) := by decide +kernel
theorem dL_load_351 : decode cL_load 351 = .ok (.iadd, 1) := by decide +kernel
theorem dL_load_352 : decode cL_load 352 = .ok (.iload_n 2, 1) := by decide +kernel
theorem dL_load_353 : decode cL_load 353 = .ok (.invokestatic 40, 3) := by decide +kernel
theorem dL_load_356 : decode cL_load 356 = .ok (.iadd, 1) := by decide +kernel
theorem dL_load_357 : decode cL_load 357 = .ok (.i2c, 1) := by decide +kernel
theorem dL_load_358 : decode cL_load 358 = .ok (.invokevirtual 69, 3) := by decide +kernel
theorem dL_load_361 : decode cL_load 361 = .ok (.ldc 82, 2) := by decide +kernel
theorem dL_load_363 : decode cL_load 363 = .ok (.invokevirtual 56, 3) := by decide +kernel
theorem dL_load_366 : decode cL_load 366 = .ok (.bipush 97, 2) := by decide +kernel
theorem dL_load_368 : decode cL_load 368 = .ok (.aload_n 1, 1) := by decide +kernel
theorem dL_load_369 : decode cL_load 369 = .ok (.bipush 43, 2) := by decide +kernel
theorem dL_load_371 : decode cL_load 371 = .ok (.iconst 4, 1) := by decide +kernel
theorem dL_load_372 : decode cL_load 372 = .ok (.iload 7, 2) := by decide +kernel
theorem dL_load_374 : decode cL_load 374 = .ok (.imul, 1) := by decide +kernel
theorem dL_load_375 : decode cL_load 375 = .ok (.iadd, 1) := by decide +kernel
theorem dL_load_376 : decode cL_load 376 = .ok (.iload_n 3, 1) := by decide +kernel
theorem dL_load_377 : decode cL_load 377 = .ok (.invokestatic 40, 3) := by decide +kernel
theorem dL_load_380 : decode cL_load 380 = .ok (.iadd, 1) := by decide +kernel
theorem dL_load_381 : decode cL_load 381 = .ok (.i2c, 1) := by decide +kernel
theorem dL_load_382 : decode cL_load 382 = .ok (.invokevirtual 69, 3) := by decide +kernel
theorem dL_load_385 : decode cL_load 385 = .ok (.ldc 84, 2) := by decide +kernel
theorem dL_load_387 : decode cL_load 387 = .ok (.invokevirtual 56, 3) := by decide +kernel
theorem dL_load_390 : decode cL_load 390 = .ok (.iload 8, 2) := by decide +kernel
theorem dL_load_392 : decode cL_load 392 = .ok (.invokevirtual 51, 3) := by decide +kernel
theorem dL_load_395 : decode cL_load 395 = .ok (.ldc 84, 2) := by decide +kernel
theorem dL_load_397 : decode cL_load 397 = .ok (.invokevirtual 56, 3) := by decide +kernel
theorem dL_load_400 : decode cL_load 400 = .ok (.iload 8, 2) := by decide +kernel
theorem dL_load_402 : decode cL_load 402 = .ok (.aload_n 1, 1) := by decide +kernel
theorem dL_load_403 : decode cL_load 403 = .ok (.bipush 41, 2) := by decide +kernel
theorem dL_load_405 : decode cL_load 405 = .ok (.iconst 4, 1) := by decide +kernel
theorem dL_load_406 : decode cL_load 406 = .ok (.iload 7, 2) := by decide +kernel
theorem dL_load_408 : decode cL_load 408 = .ok (.imul, 1) := by decide +kernel
theorem dL_load_409 : decode cL_load 409 = .ok (.iadd, 1) := by decide +kernel
theorem dL_load_410 : decode cL_load 410 = .ok (.bipush 120, 2) := by decide +kernel
theorem dL_load_412 : decode cL_load 412 = .ok (.invokestatic 40, 3) := by decide +kernel
theorem dL_load_415 : decode cL_load 415 = .ok (.iadd, 1) := by decide +kernel
theorem dL_load_416 : decode cL_load 416 = .ok (.invokevirtual 51, 3) := by decide +kernel
theorem dL_load_419 : decode cL_load 419 = .ok (.ldc 65, 2) := by decide +kernel
theorem dL_load_421 : decode cL_load 421 = .ok (.invokevirtual 56, 3) := by decide +kernel
theorem dL_load_424 : decode cL_load 424 = .ok (.pop, 1) := by decide +kernel
theorem dL_load_425 : decode cL_load 425 = .ok (.iinc 7 1, 3) := by decide +kernel
theorem dL_load_428 : decode cL_load 428 = .ok (.goto (-116), 3) := by decide +kernel
theorem dL_load_431 : decode cL_load 431 = .ok (.aload 4, 2) := by decide +kernel
theorem dL_load_433 : decode cL_load 433 = .ok (.invokevirtual 86, 3) := by decide +kernel
theorem dL_load_436 : decode cL_load 436 = .ok (.sipush 600, 3) := by decide +kernel
theorem dL_load_439 : decode cL_load 439 = .ok (.if_icmp .le 5, 3) := by decide +kernel
theorem dL_load_442 : decode cL_load 442 = .ok (.iconst 1, 1) := by decide +kernel
theorem dL_load_443 : decode cL_load 443 = .ok (.ireturn, 1) := by decide +kernel
theorem dL_load_444 : decode cL_load 444 = .ok (.aload_n 0, 1) := by decide +kernel
theorem dL_load_445 : decode cL_load 445 = .ok (.aload 4, 2) := by decide +kernel
theorem dL_load_447 : decode cL_load 447 = .ok (.invokevirtual 87, 3) := by decide +kernel
theorem dL_load_450 : decode cL_load 450 = .ok (.invokestatic 91, 3) := by decide +kernel
theorem dL_load_453 : decode cL_load 453 = .ok (.aload_n 0, 1) := by decide +kernel
theorem dL_load_454 : decode cL_load 454 = .ok (.invokevirtual 95, 3) := by decide +kernel
theorem dL_load_457 : decode cL_load 457 = .ok (.iload_n 2, 1) := by decide +kernel
theorem dL_load_458 : decode cL_load 458 = .ok (.if_icmp .ne 100, 3) := by decide +kernel
theorem dL_load_461 : decode cL_load 461 = .ok (.aload_n 0, 1) := by decide +kernel
theorem dL_load_462 : decode cL_load 462 = .ok (.invokevirtual 98, 3) := by decide +kernel
theorem dL_load_465 : decode cL_load 465 = .ok (.ifCond .ne 93, 3) := by decide +kernel
theorem dL_load_468 : decode cL_load 468 = .ok (.aload_n 0, 1) := by decide +kernel
theorem dL_load_469 : decode cL_load 469 = .ok (.invokevirtual 101, 3) := by decide +kernel
theorem dL_load_472 : decode cL_load 472 = .ok (.iconst (-1), 1) := by decide +kernel
theorem dL_load_473 : decode cL_load 473 = .ok (.if_icmp .ne 85, 3) := by decide +kernel
theorem dL_load_476 : decode cL_load 476 = .ok (.aload_n 0, 1) := by decide +kernel
theorem dL_load_477 : decode cL_load 477 = .ok (.iconst 0, 1) := by decide +kernel
theorem dL_load_478 : decode cL_load 478 = .ok (.invokevirtual 104, 3) := by decide +kernel
theorem dL_load_481 : decode cL_load 481 = .ok (.iload_n 2, 1) := by decide +kernel
theorem dL_load_482 : decode cL_load 482 = .ok (.if_icmp .ne 76, 3) := by decide +kernel
theorem dL_load_485 : decode cL_load 485 = .ok (.aload_n 0, 1) := by decide +kernel
theorem dL_load_486 : decode cL_load 486 = .ok (.iconst 1, 1) := by decide +kernel
theorem dL_load_487 : decode cL_load 487 = .ok (.invokevirtual 104, 3) := by decide +kernel
theorem dL_load_490 : decode cL_load 490 = .ok (.iload_n 3, 1) := by decide +kernel
theorem dL_load_491 : decode cL_load 491 = .ok (.if_icmp .ne 67, 3) := by decide +kernel
theorem dL_load_494 : decode cL_load 494 = .ok (.aload_n 0, 1) := by decide +kernel
theorem dL_load_495 : decode cL_load 495 = .ok (.iconst 2, 1) := by decide +kernel
theorem dL_load_496 : decode cL_load 496 = .ok (.invokevirtual 104, 3) := by decide +kernel
theorem dL_load_499 : decode cL_load 499 = .ok (.ifCond .ne 59, 3) := by decide +kernel
theorem dL_load_502 : decode cL_load 502 = .ok (.aload_n 0, 1) := by decide +kernel
theorem dL_load_503 : decode cL_load 503 = .ok (.iconst 3, 1) := by decide +kernel
theorem dL_load_504 : decode cL_load 504 = .ok (.invokevirtual 104, 3) := by decide +kernel
theorem dL_load_507 : decode cL_load 507 = .ok (.aload_n 1, 1) := by decide +kernel
theorem dL_load_508 : decode cL_load 508 = .ok (.iconst 2, 1) := by decide +kernel
theorem dL_load_509 : decode cL_load 509 = .ok (.iconst 4, 1) := by decide +kernel
theorem dL_load_510 : decode cL_load 510 = .ok (.invokestatic 40, 3) := by decide +kernel
theorem dL_load_513 : decode cL_load 513 = .ok (.if_icmp .ne 45, 3) := by decide +kernel
theorem dL_load_516 : decode cL_load 516 = .ok (.aload_n 0, 1) := by decide +kernel
theorem dL_load_517 : decode cL_load 517 = .ok (.bipush 7, 2) := by decide +kernel
theorem dL_load_519 : decode cL_load 519 = .ok (.invokevirtual 104, 3) := by decide +kernel
theorem dL_load_522 : decode cL_load 522 = .ok (.iconst 1, 1) := by decide +kernel
theorem dL_load_523 : decode cL_load 523 = .ok (.aload_n 1, 1) := by decide +kernel
theorem dL_load_524 : decode cL_load 524 = .ok (.bipush 6, 2) := by decide +kernel
theorem dL_load_526 : decode cL_load 526 = .ok (.iconst 3, 1) := by decide +kernel
theorem dL_load_527 : decode cL_load 527 = .ok (.invokestatic 40, 3) := by decide +kernel
theorem dL_load_530 : decode cL_load 530 = .ok (.iadd, 1) := by decide +kernel
theorem dL_load_531 : decode cL_load 531 = .ok (.if_icmp .ne 27, 3) := by decide +kernel
theorem dL_load_534 : decode cL_load 534 = .ok (.aload_n 0, 1) := by decide +kernel
theorem dL_load_535 : decode cL_load 535 = .ok (.bipush 8, 2) := by decide +kernel
theorem dL_load_537 : decode cL_load 537 = .ok (.invokevirtual 104, 3) := by decide +kernel
theorem dL_load_540 : decode cL_load 540 = .ok (.ifCond .ne 18, 3) := by decide +kernel
theorem dL_load_543 : decode cL_load 543 = .ok (.aload_n 0, 1) := by decide +kernel
theorem dL_load_544 : decode cL_load 544 = .ok (.bipush 9, 2) := by decide +kernel
theorem dL_load_546 : decode cL_load 546 = .ok (.invokevirtual 104, 3) := by decide +kernel
theorem dL_load_549 : decode cL_load 549 = .ok (.iload 5, 2) := by decide +kernel
theorem dL_load_551 : decode cL_load 551 = .ok (.if_icmp .ne 7, 3) := by decide +kernel
theorem dL_load_554 : decode cL_load 554 = .ok (.iconst 1, 1) := by decide +kernel
theorem dL_load_555 : decode cL_load 555 = .ok (.goto 4, 3) := by decide +kernel
theorem dL_load_558 : decode cL_load 558 = .ok (.iconst 0, 1) := by decide +kernel
theorem dL_load_559 : decode cL_load 559 = .ok (.ireturn, 1) := by decide +kernel
theorem dL_act_0 : decode cL_act 0 = .ok (.aload_n 0, 1) := by decide +kernel
theorem dL_act_1 : decode cL_act 1 = .ok (.iconst 0, 1) := by decide +kernel
theorem dL_act_2 : decode cL_act 2 = .ok (.invokevirtual 104, 3) := by decide +kernel
theorem dL_act_5 : decode cL_act 5 = .ok (.ifCond .eq 11, 3) := by decide +kernel
theorem dL_act_8 : decode cL_act 8 = .ok (.aload_n 0, 1) := by decide +kernel
theorem dL_act_9 : decode cL_act 9 = .ok (.iconst 1, 1) := by decide +kernel
theorem dL_act_10 : decode cL_act 10 = .ok (.invokevirtual 104, 3) := by decide +kernel
theorem dL_act_13 : decode cL_act 13 = .ok (.ifCond .ne 5, 3) := by decide +kernel
theorem dL_act_16 : decode cL_act 16 = .ok (.iconst 0, 1) := by decide +kernel
theorem dL_act_17 : decode cL_act 17 = .ok (.ireturn, 1) := by decide +kernel
theorem dL_act_18 : decode cL_act 18 = .ok (.aload_n 1, 1) := by decide +kernel
theorem dL_act_19 : decode cL_act 19 = .ok (.iload_n 2, 1) := by decide +kernel
theorem dL_act_20 : decode cL_act 20 = .ok (.aload_n 0, 1) := by decide +kernel
theorem dL_act_21 : decode cL_act 21 = .ok (.iconst 0, 1) := by decide +kernel
theorem dL_act_22 : decode cL_act 22 = .ok (.invokevirtual 104, 3) := by decide +kernel
theorem dL_act_25 : decode cL_act 25 = .ok (.invokestatic 40, 3) := by decide +kernel
theorem dL_act_28 : decode cL_act 28 = .ok (.istore_n 3, 1) := by decide +kernel
theorem dL_act_29 : decode cL_act 29 = .ok (.aload_n 1, 1) := by decide +kernel
theorem dL_act_30 : decode cL_act 30 = .ok (.iload_n 2, 1) := by decide +kernel
theorem dL_act_31 : decode cL_act 31 = .ok (.iconst 1, 1) := by decide +kernel
theorem dL_act_32 : decode cL_act 32 = .ok (.iadd, 1) := by decide +kernel
theorem dL_act_33 : decode cL_act 33 = .ok (.aload_n 0, 1) := by decide +kernel
theorem dL_act_34 : decode cL_act 34 = .ok (.iconst 0, 1) := by decide +kernel
theorem dL_act_35 : decode cL_act 35 = .ok (.invokevirtual 104, 3) := by decide +kernel
theorem dL_act_38 : decode cL_act 38 = .ok (.invokestatic 40, 3) := by decide +kernel
theorem dL_act_41 : decode cL_act 41 = .ok (.istore 4, 2) := by decide +kernel
theorem dL_act_43 : decode cL_act 43 = .ok (.aload_n 1, 1) := by decide +kernel
theorem dL_act_44 : decode cL_act 44 = .ok (.iload_n 2, 1) := by decide +kernel
theorem dL_act_45 : decode cL_act 45 = .ok (.iconst 2, 1) := by decide +kernel
theorem dL_act_46 : decode cL_act 46 = .ok (.iadd, 1) := by decide +kernel
theorem dL_act_47 : decode cL_act 47 = .ok (.aload_n 0, 1) := by decide +kernel
theorem dL_act_48 : decode cL_act 48 = .ok (.iconst 1, 1) := by decide +kernel
theorem dL_act_49 : decode cL_act 49 = .ok (.invokevirtual 104, 3) := by decide +kernel
theorem dL_act_52 : decode cL_act 52 = .ok (.invokestatic 40, 3) := by decide +kernel
theorem dL_act_55 : decode cL_act 55 = .ok (.istore 5, 2) := by decide +kernel
theorem dL_act_57 : decode cL_act 57 = .ok (.aload_n 1, 1) := by decide +kernel
theorem dL_act_58 : decode cL_act 58 = .ok (.iload_n 2, 1) := by decide +kernel
theorem dL_act_59 : decode cL_act 59 = .ok (.iconst 3, 1) := by decide +kernel
