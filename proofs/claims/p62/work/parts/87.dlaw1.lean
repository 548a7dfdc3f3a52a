theorem dL_act_60 : decode cL_act 60 = .ok (.iadd, 1) := by decide +kernel
theorem dL_act_61 : decode cL_act 61 = .ok (.sipush 300, 3) := by decide +kernel
theorem dL_act_64 : decode cL_act 64 = .ok (.invokestatic 40, 3) := by decide +kernel
theorem dL_act_67 : decode cL_act 67 = .ok (.istore 6, 2) := by decide +kernel
theorem dL_act_69 : decode cL_act 69 = .ok (.aload_n 1, 1) := by decide +kernel
theorem dL_act_70 : decode cL_act 70 = .ok (.iload_n 2, 1) := by decide +kernel
theorem dL_act_71 : decode cL_act 71 = .ok (.iconst 4, 1) := by decide +kernel
theorem dL_act_72 : decode cL_act 72 = .ok (.iadd, 1) := by decide +kernel
theorem dL_act_73 : decode cL_act 73 = .ok (.bipush 12, 2) := by decide +kernel
theorem dL_act_75 : decode cL_act 75 = .ok (.invokestatic 40, 3) := by decide +kernel
theorem dL_act_78 : decode cL_act 78 = .ok (.tableswitch 202 0 10 #[58, 58, 80, 86, 92, 92, 108, 124, 162, 181, 196], 58) := by decide +kernel
theorem dL_act_136 : decode cL_act 136 = .ok (.aload_n 0, 1) := by decide +kernel
theorem dL_act_137 : decode cL_act 137 = .ok (.iload_n 3, 1) := by decide +kernel
theorem dL_act_138 : decode cL_act 138 = .ok (.iload 5, 2) := by decide +kernel
theorem dL_act_140 : decode cL_act 140 = .ok (.iload 6, 2) := by decide +kernel
theorem dL_act_142 : decode cL_act 142 = .ok (.iload 6, 2) := by decide +kernel
theorem dL_act_144 : decode cL_act 144 = .ok (.aload_n 1, 1) := by decide +kernel
theorem dL_act_145 : decode cL_act 145 = .ok (.iload_n 2, 1) := by decide +kernel
theorem dL_act_146 : decode cL_act 146 = .ok (.iconst 5, 1) := by decide +kernel
theorem dL_act_147 : decode cL_act 147 = .ok (.iadd, 1) := by decide +kernel
theorem dL_act_148 : decode cL_act 148 = .ok (.bipush 120, 2) := by decide +kernel
theorem dL_act_150 : decode cL_act 150 = .ok (.invokestatic 40, 3) := by decide +kernel
theorem dL_act_153 : decode cL_act 153 = .ok (.iadd, 1) := by decide +kernel
theorem dL_act_154 : decode cL_act 154 = .ok (.invokevirtual 108, 3) := by decide +kernel
theorem dL_act_157 : decode cL_act 157 = .ok (.ireturn, 1) := by decide +kernel
theorem dL_act_158 : decode cL_act 158 = .ok (.aload_n 0, 1) := by decide +kernel
theorem dL_act_159 : decode cL_act 159 = .ok (.iload_n 3, 1) := by decide +kernel
theorem dL_act_160 : decode cL_act 160 = .ok (.invokevirtual 112, 3) := by decide +kernel
theorem dL_act_163 : decode cL_act 163 = .ok (.ireturn, 1) := by decide +kernel
theorem dL_act_164 : decode cL_act 164 = .ok (.aload_n 0, 1) := by decide +kernel
theorem dL_act_165 : decode cL_act 165 = .ok (.iload_n 3, 1) := by decide +kernel
theorem dL_act_166 : decode cL_act 166 = .ok (.invokevirtual 115, 3) := by decide +kernel
theorem dL_act_169 : decode cL_act 169 = .ok (.ireturn, 1) := by decide +kernel
theorem dL_act_170 : decode cL_act 170 = .ok (.aload_n 0, 1) := by decide +kernel
theorem dL_act_171 : decode cL_act 171 = .ok (.iconst 1, 1) := by decide +kernel
theorem dL_act_172 : decode cL_act 172 = .ok (.aload_n 1, 1) := by decide +kernel
theorem dL_act_173 : decode cL_act 173 = .ok (.iload_n 2, 1) := by decide +kernel
theorem dL_act_174 : decode cL_act 174 = .ok (.iconst 5, 1) := by decide +kernel
theorem dL_act_175 : decode cL_act 175 = .ok (.iadd, 1) := by decide +kernel
theorem dL_act_176 : decode cL_act 176 = .ok (.bipush 9, 2) := by decide +kernel
theorem dL_act_178 : decode cL_act 178 = .ok (.invokestatic 40, 3) := by decide +kernel
theorem dL_act_181 : decode cL_act 181 = .ok (.iadd, 1) := by decide +kernel
theorem dL_act_182 : decode cL_act 182 = .ok (.invokevirtual 118, 3) := by decide +kernel
theorem dL_act_185 : decode cL_act 185 = .ok (.ireturn, 1) := by decide +kernel
theorem dL_act_186 : decode cL_act 186 = .ok (.aload_n 0, 1) := by decide +kernel
theorem dL_act_187 : decode cL_act 187 = .ok (.iconst 1, 1) := by decide +kernel
theorem dL_act_188 : decode cL_act 188 = .ok (.aload_n 1, 1) := by decide +kernel
theorem dL_act_189 : decode cL_act 189 = .ok (.iload_n 2, 1) := by decide +kernel
theorem dL_act_190 : decode cL_act 190 = .ok (.iconst 5, 1) := by decide +kernel
theorem dL_act_191 : decode cL_act 191 = .ok (.iadd, 1) := by decide +kernel
theorem dL_act_192 : decode cL_act 192 = .ok (.bipush 6, 2) := by decide +kernel
theorem dL_act_194 : decode cL_act 194 = .ok (.invokestatic 40, 3) := by decide +kernel
theorem dL_act_197 : decode cL_act 197 = .ok (.iadd, 1) := by decide +kernel
theorem dL_act_198 : decode cL_act 198 = .ok (.invokevirtual 121, 3) := by decide +kernel
theorem dL_act_201 : decode cL_act 201 = .ok (.ireturn, 1) := by decide +kernel
theorem dL_act_202 : decode cL_act 202 = .ok (.iload_n 3, 1) := by decide +kernel
theorem dL_act_203 : decode cL_act 203 = .ok (.iload 4, 2) := by decide +kernel
theorem dL_act_205 : decode cL_act 205 = .ok (.if_icmp .ne 7, 3) := by decide +kernel
theorem dL_act_208 : decode cL_act 208 = .ok (.iconst 0, 1) := by decide +kernel
theorem dL_act_209 : decode cL_act 209 = .ok (.goto 30, 3) := by decide +kernel
theorem dL_act_212 : decode cL_act 212 = .ok (.aload_n 0, 1) := by decide +kernel
theorem dL_act_213 : decode cL_act 213 = .ok (.iload_n 3, 1) := by decide +kernel
theorem dL_act_214 : decode cL_act 214 = .ok (.iload 4, 2) := by decide +kernel
theorem dL_act_216 : decode cL_act 216 = .ok (.iload 6, 2) := by decide +kernel
theorem dL_act_218 : decode cL_act 218 = .ok (.iconst 2, 1) := by decide +kernel
theorem dL_act_219 : decode cL_act 219 = .ok (.irem, 1) := by decide +kernel
theorem dL_act_220 : decode cL_act 220 = .ok (.ifCond .ne 7, 3) := by decide +kernel
theorem dL_act_223 : decode cL_act 223 = .ok (.iconst 1, 1) := by decide +kernel
theorem dL_act_224 : decode cL_act 224 = .ok (.goto 4, 3) := by decide +kernel
theorem dL_act_227 : decode cL_act 227 = .ok (.iconst 0, 1) := by decide +kernel
theorem dL_act_228 : decode cL_act 228 = .ok (.invokevirtual 124, 3) := by decide +kernel
theorem dL_act_231 : decode cL_act 231 = .ok (.ifCond .eq 7, 3) := by decide +kernel
theorem dL_act_234 : decode cL_act 234 = .ok (.iconst 1, 1) := by decide +kernel
theorem dL_act_235 : decode cL_act 235 = .ok (.goto 4, 3) := by decide +kernel
theorem dL_act_238 : decode cL_act 238 = .ok (.iconst 0, 1) := by decide +kernel
theorem dL_act_239 : decode cL_act 239 = .ok (.ireturn, 1) := by decide +kernel
theorem dL_act_240 : decode cL_act 240 = .ok (.aload_n 0, 1) := by decide +kernel
theorem dL_act_241 : decode cL_act 241 = .ok (.aload_n 1, 1) := by decide +kernel
theorem dL_act_242 : decode cL_act 242 = .ok (.iload_n 2, 1) := by decide +kernel
theorem dL_act_243 : decode cL_act 243 = .ok (.iconst 5, 1) := by decide +kernel
theorem dL_act_244 : decode cL_act 244 = .ok (.iadd, 1) := by decide +kernel
theorem dL_act_245 : decode cL_act 245 = .ok (.iconst 5, 1) := by decide +kernel
theorem dL_act_246 : decode cL_act 246 = .ok (.invokestatic 40, 3) := by decide +kernel
theorem dL_act_249 : decode cL_act 249 = .ok (.iconst 1, 1) := by decide +kernel
theorem dL_act_250 : decode cL_act 250 = .ok (.iload 6, 2) := by decide +kernel
theorem dL_act_252 : decode cL_act 252 = .ok (.iconst 3, 1) := by decide +kernel
theorem dL_act_253 : decode cL_act 253 = .ok (.irem, 1) := by decide +kernel
theorem dL_act_254 : decode cL_act 254 = .ok (.iadd, 1) := by decide +kernel
theorem dL_act_255 : decode cL_act 255 = .ok (.invokevirtual 128, 3) := by decide +kernel
theorem dL_act_258 : decode cL_act 258 = .ok (.ireturn, 1) := by decide +kernel
theorem dL_act_259 : decode cL_act 259 = .ok (.aload_n 0, 1) := by decide +kernel
theorem dL_act_260 : decode cL_act 260 = .ok (.iconst 1, 1) := by decide +kernel
theorem dL_act_261 : decode cL_act 261 = .ok (.aload_n 1, 1) := by decide +kernel
theorem dL_act_262 : decode cL_act 262 = .ok (.iload_n 2, 1) := by decide +kernel
theorem dL_act_263 : decode cL_act 263 = .ok (.iconst 5, 1) := by decide +kernel
theorem dL_act_264 : decode cL_act 264 = .ok (.iadd, 1) := by decide +kernel
theorem dL_act_265 : decode cL_act 265 = .ok (.iconst 2, 1) := by decide +kernel
theorem dL_act_266 : decode cL_act 266 = .ok (.invokestatic 40, 3) := by decide +kernel
theorem dL_act_269 : decode cL_act 269 = .ok (.iadd, 1) := by decide +kernel
theorem dL_act_270 : decode cL_act 270 = .ok (.invokevirtual 131, 3) := by decide +kernel
theorem dL_act_273 : decode cL_act 273 = .ok (.ireturn, 1) := by decide +kernel
theorem dL_act_274 : decode cL_act 274 = .ok (.aload_n 0, 1) := by decide +kernel
theorem dL_act_275 : decode cL_act 275 = .ok (.iload_n 3, 1) := by decide +kernel
theorem dL_act_276 : decode cL_act 276 = .ok (.invokevirtual 134, 3) := by decide +kernel
theorem dL_act_279 : decode cL_act 279 = .ok (.ireturn, 1) := by decide +kernel
theorem dL_act_280 : decode cL_act 280 = .ok (.iload 6, 2) := by decide +kernel
theorem dL_act_282 : decode cL_act 282 = .ok (.iconst 4, 1) := by decide +kernel
theorem dL_act_283 : decode cL_act 283 = .ok (.irem, 1) := by decide +kernel
theorem dL_act_284 : decode cL_act 284 = .ok (.ifCond .ne 13, 3) := by decide +kernel
theorem dL_act_287 : decode cL_act 287 = .ok (.aload_n 0, 1) := by decide +kernel
theorem dL_act_288 : decode cL_act 288 = .ok (.iload_n 3, 1) := by decide +kernel
theorem dL_act_289 : decode cL_act 289 = .ok (.iload 5, 2) := by decide +kernel
theorem dL_act_291 : decode cL_act 291 = .ok (.invokevirtual 137, 3) := by decide +kernel
theorem dL_act_294 : decode cL_act 294 = .ok (.goto 9, 3) := by decide +kernel
theorem dL_act_297 : decode cL_act 297 = .ok (.aload_n 0, 1) := by decide +kernel
theorem dL_act_298 : decode cL_act 298 = .ok (.iload 4, 2) := by decide +kernel
theorem dL_act_300 : decode cL_act 300 = .ok (.invokevirtual 112, 3) := by decide +kernel
theorem dL_act_303 : decode cL_act 303 = .ok (.ireturn, 1) := by decide +kernel
theorem dL_low_0 : decode cL_low 0 = .ok (.iconst 0, 1) := by decide +kernel
theorem dL_low_1 : decode cL_low 1 = .ok (.aload_n 0, 1) := by decide +kernel
theorem dL_low_2 : decode cL_low 2 = .ok (.iload_n 1, 1) := by decide +kernel
theorem dL_low_3 : decode cL_low 3 = .ok (.iload_n 2, 1) := by decide +kernel
theorem dL_low_4 : decode cL_low 4 = .ok (.iconst 5, 1) := by decide +kernel
theorem dL_low_5 : decode cL_low 5 = .ok (.invokevirtual 140, 3) := by decide +kernel
theorem dL_low_8 : decode cL_low 8 = .ok (.iload_n 3, 1) := by decide +kernel
theorem dL_low_9 : decode cL_low 9 = .ok (.isub, 1) := by decide +kernel
theorem dL_low_10 : decode cL_low 10 = .ok (.invokestatic 144, 3) := by decide +kernel
theorem dL_low_13 : decode cL_low 13 = .ok (.ireturn, 1) := by decide +kernel
theorem dL_top_0 : decode cL_top 0 = .ok (.sipush 999, 3) := by decide +kernel
theorem dL_top_3 : decode cL_top 3 = .ok (.aload_n 0, 1) := by decide +kernel
theorem dL_top_4 : decode cL_top 4 = .ok (.iload_n 1, 1) := by decide +kernel
theorem dL_top_5 : decode cL_top 5 = .ok (.iload_n 2, 1) := by decide +kernel
theorem dL_top_6 : decode cL_top 6 = .ok (.bipush 6, 2) := by decide +kernel
theorem dL_top_8 : decode cL_top 8 = .ok (.invokevirtual 140, 3) := by decide +kernel
theorem dL_top_11 : decode cL_top 11 = .ok (.iload_n 3, 1) := by decide +kernel
theorem dL_top_12 : decode cL_top 12 = .ok (.iadd, 1) := by decide +kernel
theorem dL_top_13 : decode cL_top 13 = .ok (.invokestatic 30, 3) := by decide +kernel
theorem dL_top_16 : decode cL_top 16 = .ok (.ireturn, 1) := by decide +kernel
theorem dL_drift_0 : decode cL_drift 0 = .ok (.aload_n 0, 1) := by decide +kernel
theorem dL_drift_1 : decode cL_drift 1 = .ok (.iconst 3, 1) := by decide +kernel
theorem dL_drift_2 : decode cL_drift 2 = .ok (.invokevirtual 104, 3) := by decide +kernel
theorem dL_drift_5 : decode cL_drift 5 = .ok (.aload_n 0, 1) := by decide +kernel
theorem dL_drift_6 : decode cL_drift 6 = .ok (.iconst 2, 1) := by decide +kernel
theorem dL_drift_7 : decode cL_drift 7 = .ok (.invokevirtual 104, 3) := by decide +kernel
theorem dL_drift_10 : decode cL_drift 10 = .ok (.aload_n 0, 1) := by decide +kernel
theorem dL_drift_11 : decode cL_drift 11 = .ok (.iload_n 1, 1) := by decide +kernel
theorem dL_drift_12 : decode cL_drift 12 = .ok (.iload_n 2, 1) := by decide +kernel
theorem dL_drift_13 : decode cL_drift 13 = .ok (.iconst 4, 1) := by decide +kernel
theorem dL_drift_14 : decode cL_drift 14 = .ok (.invokevirtual 140, 3) := by decide +kernel
theorem dL_drift_17 : decode cL_drift 17 = .ok (.isub, 1) := by decide +kernel
theorem dL_drift_18 : decode cL_drift 18 = .ok (.imul, 1) := by decide +kernel
theorem dL_drift_19 : decode cL_drift 19 = .ok (.ireturn, 1) := by decide +kernel
theorem dL_ahead_0 : decode cL_ahead 0 = .ok (.aload_n 0, 1) := by decide +kernel
theorem dL_ahead_1 : decode cL_ahead 1 = .ok (.iload_n 1, 1) := by decide +kernel
theorem dL_ahead_2 : decode cL_ahead 2 = .ok (.iload_n 2, 1) := by decide +kernel
theorem dL_ahead_3 : decode cL_ahead 3 = .ok (.iconst 0, 1) := by decide +kernel
theorem dL_ahead_4 : decode cL_ahead 4 = .ok (.invokevirtual 140, 3) := by decide +kernel
theorem dL_ahead_7 : decode cL_ahead 7 = .ok (.iload_n 1, 1) := by decide +kernel
theorem dL_ahead_8 : decode cL_ahead 8 = .ok (.if_icmp .ne 7, 3) := by decide +kernel
theorem dL_ahead_11 : decode cL_ahead 11 = .ok (.iconst 1, 1) := by decide +kernel
theorem dL_ahead_12 : decode cL_ahead 12 = .ok (.goto 4, 3) := by decide +kernel
theorem dL_ahead_15 : decode cL_ahead 15 = .ok (.iconst 0, 1) := by decide +kernel
theorem dL_ahead_16 : decode cL_ahead 16 = .ok (.istore 4, 2) := by decide +kernel
theorem dL_ahead_18 : decode cL_ahead 18 = .ok (.iload 4, 2) := by decide +kernel
theorem dL_ahead_20 : decode cL_ahead 20 = .ok (.ifCond .ne 14, 3) := by decide +kernel
theorem dL_ahead_23 : decode cL_ahead 23 = .ok (.aload_n 0, 1) := by decide +kernel
theorem dL_ahead_24 : decode cL_ahead 24 = .ok (.iload_n 1, 1) := by decide +kernel
theorem dL_ahead_25 : decode cL_ahead 25 = .ok (.iload_n 3, 1) := by decide +kernel
theorem dL_ahead_26 : decode cL_ahead 26 = .ok (.iconst 0, 1) := by decide +kernel
theorem dL_ahead_27 : decode cL_ahead 27 = .ok (.invokevirtual 140, 3) := by decide +kernel
theorem dL_ahead_30 : decode cL_ahead 30 = .ok (.iload_n 1, 1) := by decide +kernel
theorem dL_ahead_31 : decode cL_ahead 31 = .ok (.if_icmp .ne 6, 3) := by decide +kernel
theorem dL_ahead_34 : decode cL_ahead 34 = .ok (.iload 4, 2) := by decide +kernel
theorem dL_ahead_36 : decode cL_ahead 36 = .ok (.ireturn, 1) := by decide +kernel
theorem dL_ahead_37 : decode cL_ahead 37 = .ok (.aload_n 0, 1) := by decide +kernel
theorem dL_ahead_38 : decode cL_ahead 38 = .ok (.iload_n 1, 1) := by decide +kernel
theorem dL_ahead_39 : decode cL_ahead 39 = .ok (.aload_n 0, 1) := by decide +kernel
theorem dL_ahead_40 : decode cL_ahead 40 = .ok (.iload_n 1, 1) := by decide +kernel
theorem dL_ahead_41 : decode cL_ahead 41 = .ok (.iload_n 2, 1) := by decide +kernel
theorem dL_ahead_42 : decode cL_ahead 42 = .ok (.iconst 1, 1) := by decide +kernel
theorem dL_ahead_43 : decode cL_ahead 43 = .ok (.invokevirtual 140, 3) := by decide +kernel
theorem dL_ahead_46 : decode cL_ahead 46 = .ok (.invokevirtual 153, 3) := by decide +kernel
theorem dL_ahead_49 : decode cL_ahead 49 = .ok (.istore 5, 2) := by decide +kernel
theorem dL_ahead_51 : decode cL_ahead 51 = .ok (.aload_n 0, 1) := by decide +kernel
theorem dL_ahead_52 : decode cL_ahead 52 = .ok (.iload_n 1, 1) := by decide +kernel
theorem dL_ahead_53 : decode cL_ahead 53 = .ok (.aload_n 0, 1) := by decide +kernel
theorem dL_ahead_54 : decode cL_ahead 54 = .ok (.iload_n 1, 1) := by decide +kernel
theorem dL_ahead_55 : decode cL_ahead 55 = .ok (.iload_n 3, 1) := by decide +kernel
theorem dL_ahead_56 : decode cL_ahead 56 = .ok (.iconst 1, 1) := by decide +kernel
theorem dL_ahead_57 : decode cL_ahead 57 = .ok (.invokevirtual 140, 3) := by decide +kernel
theorem dL_ahead_60 : decode cL_ahead 60 = .ok (.invokevirtual 153, 3) := by decide +kernel
theorem dL_ahead_63 : decode cL_ahead 63 = .ok (.istore 6, 2) := by decide +kernel
theorem dL_ahead_65 : decode cL_ahead 65 = .ok (.iload 5, 2) := by decide +kernel
theorem dL_ahead_67 : decode cL_ahead 67 = .ok (.iload 6, 2) := by decide +kernel
theorem dL_ahead_69 : decode cL_ahead 69 = .ok (.if_icmp .eq 16, 3) := by decide +kernel
theorem dL_ahead_72 : decode cL_ahead 72 = .ok (.iload 5, 2) := by decide +kernel
theorem dL_ahead_74 : decode cL_ahead 74 = .ok (.iload 6, 2) := by decide +kernel
theorem dL_ahead_76 : decode cL_ahead 76 = .ok (.if_icmp .le 7, 3) := by decide +kernel
theorem dL_ahead_79 : decode cL_ahead 79 = .ok (.iconst 1, 1) := by decide +kernel
theorem dL_ahead_80 : decode cL_ahead 80 = .ok (.goto 4, 3) := by decide +kernel
theorem dL_ahead_83 : decode cL_ahead 83 = .ok (.iconst 0, 1) := by decide +kernel
theorem dL_ahead_84 : decode cL_ahead 84 = .ok (.ireturn, 1) := by decide +kernel
theorem dL_ahead_85 : decode cL_ahead 85 = .ok (.aload_n 0, 1) := by decide +kernel
theorem dL_ahead_86 : decode cL_ahead 86 = .ok (.iload_n 1, 1) := by decide +kernel
theorem dL_ahead_87 : decode cL_ahead 87 = .ok (.iload_n 2, 1) := by decide +kernel
theorem dL_ahead_88 : decode cL_ahead 88 = .ok (.iconst 2, 1) := by decide +kernel
theorem dL_ahead_89 : decode cL_ahead 89 = .ok (.invokevirtual 140, 3) := by decide +kernel
theorem dL_ahead_92 : decode cL_ahead 92 = .ok (.aload_n 0, 1) := by decide +kernel
theorem dL_ahead_93 : decode cL_ahead 93 = .ok (.iload_n 1, 1) := by decide +kernel
theorem dL_ahead_94 : decode cL_ahead 94 = .ok (.iload_n 3, 1) := by decide +kernel
theorem dL_ahead_95 : decode cL_ahead 95 = .ok (.iconst 2, 1) := by decide +kernel
theorem dL_ahead_96 : decode cL_ahead 96 = .ok (.invokevirtual 140, 3) := by decide +kernel
theorem dL_ahead_99 : decode cL_ahead 99 = .ok (.isub, 1) := by decide +kernel
theorem dL_ahead_100 : decode cL_ahead 100 = .ok (.istore 7, 2) := by decide +kernel
theorem dL_ahead_102 : decode cL_ahead 102 = .ok (.iload 7, 2) := by decide +kernel
theorem dL_ahead_104 : decode cL_ahead 104 = .ok (.ifCond .eq 16, 3) := by decide +kernel
theorem dL_ahead_107 : decode cL_ahead 107 = .ok (.iload 7, 2) := by decide +kernel
theorem dL_ahead_109 : decode cL_ahead 109 = .ok (.ifCond .ge 7, 3) := by decide +kernel
theorem dL_ahead_112 : decode cL_ahead 112 = .ok (.iconst 1, 1) := by decide +kernel
theorem dL_ahead_113 : decode cL_ahead 113 = .ok (.goto 29, 3) := by decide +kernel
theorem dL_ahead_116 : decode cL_ahead 116 = .ok (.iconst 0, 1) := by decide +kernel
theorem dL_ahead_117 : decode cL_ahead 117 = .ok (.goto 25, 3) := by decide +kernel
theorem dL_ahead_120 : decode cL_ahead 120 = .ok (.aload_n 0, 1) := by decide +kernel
theorem dL_ahead_121 : decode cL_ahead 121 = .ok (.iload_n 1, 1) := by decide +kernel
theorem dL_ahead_122 : decode cL_ahead 122 = .ok (.iload_n 2, 1) := by decide +kernel
theorem dL_ahead_123 : decode cL_ahead 123 = .ok (.iconst 0, 1) := by decide +kernel
theorem dL_ahead_124 : decode cL_ahead 124 = .ok (.invokevirtual 140, 3) := by decide +kernel
theorem dL_ahead_127 : decode cL_ahead 127 = .ok (.aload_n 0, 1) := by decide +kernel
theorem dL_ahead_128 : decode cL_ahead 128 = .ok (.iload_n 1, 1) := by decide +kernel
theorem dL_ahead_129 : decode cL_ahead 129 = .ok (.iload_n 3, 1) := by decide +kernel
theorem dL_ahead_130 : decode cL_ahead 130 = .ok (.iconst 0, 1) := by decide +kernel
theorem dL_ahead_131 : decode cL_ahead 131 = .ok (.invokevirtual 140, 3) := by decide +kernel
theorem dL_ahead_134 : decode cL_ahead 134 = .ok (.if_icmp .ge 7, 3) := by decide +kernel
theorem dL_ahead_137 : decode cL_ahead 137 = .ok (.iconst 1, 1) := by decide +kernel
theorem dL_ahead_138 : decode cL_ahead 138 = .ok (.goto 4, 3) := by decide +kernel
theorem dL_ahead_141 : decode cL_ahead 141 = .ok (.iconst 0, 1) := by decide +kernel
theorem dL_ahead_142 : decode cL_ahead 142 = .ok (.ireturn, 1) := by decide +kernel
theorem dL_isOut_0 : decode cL_isOut 0 = .ok (.aload_n 0, 1) := by decide +kernel
theorem dL_isOut_1 : decode cL_isOut 1 = .ok (.iload_n 1, 1) := by decide +kernel
theorem dL_isOut_2 : decode cL_isOut 2 = .ok (.iload_n 2, 1) := by decide +kernel
theorem dL_isOut_3 : decode cL_isOut 3 = .ok (.iconst 0, 1) := by decide +kernel
theorem dL_isOut_4 : decode cL_isOut 4 = .ok (.invokevirtual 140, 3) := by decide +kernel
theorem dL_isOut_7 : decode cL_isOut 7 = .ok (.iload_n 1, 1) := by decide +kernel
theorem dL_isOut_8 : decode cL_isOut 8 = .ok (.if_icmp .eq 42, 3) := by decide +kernel
theorem dL_isOut_11 : decode cL_isOut 11 = .ok (.aload_n 0, 1) := by decide +kernel
theorem dL_isOut_12 : decode cL_isOut 12 = .ok (.iload_n 1, 1) := by decide +kernel
theorem dL_isOut_13 : decode cL_isOut 13 = .ok (.aload_n 0, 1) := by decide +kernel
theorem dL_isOut_14 : decode cL_isOut 14 = .ok (.iload_n 1, 1) := by decide +kernel
theorem dL_isOut_15 : decode cL_isOut 15 = .ok (.iload_n 2, 1) := by decide +kernel
theorem dL_isOut_16 : decode cL_isOut 16 = .ok (.iconst 1, 1) := by decide +kernel
theorem dL_isOut_17 : decode cL_isOut 17 = .ok (.invokevirtual 140, 3) := by decide +kernel
theorem dL_isOut_20 : decode cL_isOut 20 = .ok (.invokevirtual 153, 3) := by decide +kernel
theorem dL_isOut_23 : decode cL_isOut 23 = .ok (.ifCond .lt 23, 3) := by decide +kernel
theorem dL_isOut_26 : decode cL_isOut 26 = .ok (.aload_n 0, 1) := by decide +kernel
theorem dL_isOut_27 : decode cL_isOut 27 = .ok (.iload_n 1, 1) := by decide +kernel
theorem dL_isOut_28 : decode cL_isOut 28 = .ok (.aload_n 0, 1) := by decide +kernel
theorem dL_isOut_29 : decode cL_isOut 29 = .ok (.iload_n 1, 1) := by decide +kernel
theorem dL_isOut_30 : decode cL_isOut 30 = .ok (.iload_n 2, 1) := by decide +kernel
theorem dL_isOut_31 : decode cL_isOut 31 = .ok (.iconst 1, 1) := by decide +kernel
theorem dL_isOut_32 : decode cL_isOut 32 = .ok (.invokevirtual 140, 3) := by decide +kernel
theorem dL_isOut_35 : decode cL_isOut 35 = .ok (.invokevirtual 153, 3) := by decide +kernel
theorem dL_isOut_38 : decode cL_isOut 38 = .ok (.aload_n 0, 1) := by decide +kernel
theorem dL_isOut_39 : decode cL_isOut 39 = .ok (.iconst 5, 1) := by decide +kernel
theorem dL_isOut_40 : decode cL_isOut 40 = .ok (.invokevirtual 104, 3) := by decide +kernel
theorem dL_isOut_43 : decode cL_isOut 43 = .ok (.if_icmp .ge 7, 3) := by decide +kernel
theorem dL_isOut_46 : decode cL_isOut 46 = .ok (.iconst 1, 1) := by decide +kernel
theorem dL_isOut_47 : decode cL_isOut 47 = .ok (.goto 4, 3) := by decide +kernel
theorem dL_isOut_50 : decode cL_isOut 50 = .ok (.iconst 0, 1) := by decide +kernel
theorem dL_isOut_51 : decode cL_isOut 51 = .ok (.ireturn, 1) := by decide +kernel
theorem dL_by_0 : decode cL_by 0 = .ok (.aload_n 0, 1) := by decide +kernel
theorem dL_by_1 : decode cL_by 1 = .ok (.iload_n 1, 1) := by decide +kernel
theorem dL_by_2 : decode cL_by 2 = .ok (.iload_n 2, 1) := by decide +kernel
theorem dL_by_3 : decode cL_by 3 = .ok (.invokestatic 167, 3) := by decide +kernel
theorem dL_by_6 : decode cL_by 6 = .ok (.aload_n 0, 1) := by decide +kernel
theorem dL_by_7 : decode cL_by 7 = .ok (.iload_n 1, 1) := by decide +kernel
theorem dL_by_8 : decode cL_by 8 = .ok (.iload_n 2, 1) := by decide +kernel
theorem dL_by_9 : decode cL_by 9 = .ok (.iconst 0, 1) := by decide +kernel
theorem dL_by_10 : decode cL_by 10 = .ok (.invokevirtual 140, 3) := by decide +kernel
theorem dL_by_13 : decode cL_by 13 = .ok (.iload_n 1, 1) := by decide +kernel
theorem dL_by_14 : decode cL_by 14 = .ok (.if_icmp .ne 7, 3) := by decide +kernel
theorem dL_by_17 : decode cL_by 17 = .ok (.iconst 0, 1) := by decide +kernel
theorem dL_by_18 : decode cL_by 18 = .ok (.goto 32, 3) := by decide +kernel
theorem dL_by_21 : decode cL_by 21 = .ok (.aload_n 0, 1) := by decide +kernel
theorem dL_by_22 : decode cL_by 22 = .ok (.iconst 4, 1) := by decide +kernel
theorem dL_by_23 : decode cL_by 23 = .ok (.invokevirtual 104, 3) := by decide +kernel
theorem dL_by_26 : decode cL_by 26 = .ok (.bipush 10, 2) := by decide +kernel
theorem dL_by_28 : decode cL_by 28 = .ok (.aload_n 0, 1) := by decide +kernel
theorem dL_by_29 : decode cL_by 29 = .ok (.iload_n 1, 1) := by decide +kernel
theorem dL_by_30 : decode cL_by 30 = .ok (.aload_n 0, 1) := by decide +kernel
theorem dL_by_31 : decode cL_by 31 = .ok (.iload_n 1, 1) := by decide +kernel
theorem dL_by_32 : decode cL_by 32 = .ok (.iload_n 2, 1) := by decide +kernel
theorem dL_by_33 : decode cL_by 33 = .ok (.iconst 1, 1) := by decide +kernel
theorem dL_by_34 : decode cL_by 34 = .ok (.invokevirtual 140, 3) := by decide +kernel
theorem dL_by_37 : decode cL_by 37 = .ok (.invokevirtual 153, 3) := by decide +kernel
theorem dL_by_40 : decode cL_by 40 = .ok (.isub, 1) := by decide +kernel
theorem dL_by_41 : decode cL_by 41 = .ok (.imul, 1) := by decide +kernel
theorem dL_by_42 : decode cL_by 42 = .ok (.aload_n 0, 1) := by decide +kernel
theorem dL_by_43 : decode cL_by 43 = .ok (.iload_n 1, 1) := by decide +kernel
theorem dL_by_44 : decode cL_by 44 = .ok (.iload_n 2, 1) := by decide +kernel
theorem dL_by_45 : decode cL_by 45 = .ok (.iconst 2, 1) := by decide +kernel
theorem dL_by_46 : decode cL_by 46 = .ok (.invokevirtual 140, 3) := by decide +kernel
theorem dL_by_49 : decode cL_by 49 = .ok (.imul, 1) := by decide +kernel
theorem dL_by_50 : decode cL_by 50 = .ok (.iadd, 1) := by decide +kernel
theorem dL_by_51 : decode cL_by 51 = .ok (.ireturn, 1) := by decide +kernel
theorem dL_believes_0 : decode cL_believes 0 = .ok (.aload_n 0, 1) := by decide +kernel
theorem dL_believes_1 : decode cL_believes 1 = .ok (.iload_n 1, 1) := by decide +kernel
theorem dL_believes_2 : decode cL_believes 2 = .ok (.invokevirtual 159, 3) := by decide +kernel
theorem dL_believes_5 : decode cL_believes 5 = .ok (.newarray .int, 2) := by decide +kernel
theorem dL_believes_7 : decode cL_believes 7 = .ok (.astore_n 3, 1) := by decide +kernel
theorem dL_believes_8 : decode cL_believes 8 = .ok (.iconst 0, 1) := by decide +kernel
theorem dL_believes_9 : decode cL_believes 9 = .ok (.istore 4, 2) := by decide +kernel
theorem dL_believes_11 : decode cL_believes 11 = .ok (.iconst 0, 1) := by decide +kernel
theorem dL_believes_12 : decode cL_believes 12 = .ok (.istore 5, 2) := by decide +kernel
theorem dL_believes_14 : decode cL_believes 14 = .ok (.iload 5, 2) := by decide +kernel
theorem dL_believes_16 : decode cL_believes 16 = .ok (.aload_n 3, 1) := by decide +kernel
theorem dL_believes_17 : decode cL_believes 17 = .ok (.arraylength, 1) := by decide +kernel
theorem dL_believes_18 : decode cL_believes 18 = .ok (.if_icmp .ge 74, 3) := by decide +kernel
theorem dL_believes_21 : decode cL_believes 21 = .ok (.aload_n 0, 1) := by decide +kernel
theorem dL_believes_22 : decode cL_believes 22 = .ok (.iload_n 1, 1) := by decide +kernel
theorem dL_believes_23 : decode cL_believes 23 = .ok (.iload 5, 2) := by decide +kernel
theorem dL_believes_25 : decode cL_believes 25 = .ok (.iconst 3, 1) := by decide +kernel
theorem dL_believes_26 : decode cL_believes 26 = .ok (.invokevirtual 140, 3) := by decide +kernel
theorem dL_believes_29 : decode cL_believes 29 = .ok (.iload_n 2, 1) := by decide +kernel
theorem dL_believes_30 : decode cL_believes 30 = .ok (.if_icmp .eq 6, 3) := by decide +kernel
theorem dL_believes_33 : decode cL_believes 33 = .ok (.goto 53, 3) := by decide +kernel
theorem dL_believes_36 : decode cL_believes 36 = .ok (.iload 4, 2) := by decide +kernel
theorem dL_believes_38 : decode cL_believes 38 = .ok (.istore 6, 2) := by decide +kernel
theorem dL_believes_40 : decode cL_believes 40 = .ok (.iload 6, 2) := by decide +kernel
theorem dL_believes_42 : decode cL_believes 42 = .ok (.ifCond .le 35, 3) := by decide +kernel
theorem dL_believes_45 : decode cL_believes 45 = .ok (.aload_n 0, 1) := by decide +kernel
theorem dL_believes_46 : decode cL_believes 46 = .ok (.iload_n 1, 1) := by decide +kernel
theorem dL_believes_47 : decode cL_believes 47 = .ok (.iload 5, 2) := by decide +kernel
theorem dL_believes_49 : decode cL_believes 49 = .ok (.aload_n 3, 1) := by decide +kernel
theorem dL_believes_50 : decode cL_believes 50 = .ok (.iload 6, 2) := by decide +kernel
theorem dL_believes_52 : decode cL_believes 52 = .ok (.iconst 1, 1) := by decide +kernel
theorem dL_believes_53 : decode cL_believes 53 = .ok (.isub, 1) := by decide +kernel
theorem dL_believes_54 : decode cL_believes 54 = .ok (.iaload, 1) := by decide +kernel
theorem dL_believes_55 : decode cL_believes 55 = .ok (.invokestatic 171, 3) := by decide +kernel
theorem dL_believes_58 : decode cL_believes 58 = .ok (.ifCond .eq 19, 3) := by decide +kernel
theorem dL_believes_61 : decode cL_believes 61 = .ok (.aload_n 3, 1) := by decide +kernel
theorem dL_believes_62 : decode cL_believes 62 = .ok (.iload 6, 2) := by decide +kernel
theorem dL_believes_64 : decode cL_believes 64 = .ok (.aload_n 3, 1) := by decide +kernel
theorem dL_believes_65 : decode cL_believes 65 = .ok (.iload 6, 2) := by decide +kernel
theorem dL_believes_67 : decode cL_believes 67 = .ok (.iconst 1, 1) := by decide +kernel
theorem dL_believes_68 : decode cL_believes 68 = .ok (.isub, 1) := by decide +kernel
theorem dL_believes_69 : decode cL_believes 69 = .ok (.iaload, 1) := by decide +kernel
theorem dL_believes_70 : decode cL_believes 70 = .ok (.iastore, 1) := by decide +kernel
theorem dL_believes_71 : decode cL_believes 71 = .ok (.iinc 6 (-1), 3) := by decide +kernel
theorem dL_believes_74 : decode cL_believes 74 = .ok (.goto (-34), 3) := by decide +kernel
theorem dL_believes_77 : decode cL_believes 77 = .ok (.aload_n 3, 1) := by decide +kernel
theorem dL_believes_78 : decode cL_believes 78 = .ok (.iload 6, 2) := by decide +kernel
theorem dL_believes_80 : decode cL_believes 80 = .ok (.iload 5, 2) := by decide +kernel
theorem dL_believes_82 : decode cL_believes 82 = .ok (.iastore, 1) := by decide +kernel
theorem dL_believes_83 : decode cL_believes 83 = .ok (.iinc 4 1, 3) := by decide +kernel
theorem dL_believes_86 : decode cL_believes 86 = .ok (.iinc 5 1, 3) := by decide +kernel
theorem dL_believes_89 : decode cL_believes 89 = .ok (.goto (-75), 3) := by decide +kernel
theorem dL_believes_92 : decode cL_believes 92 = .ok (.iconst 0, 1) := by decide +kernel
theorem dL_believes_93 : decode cL_believes 93 = .ok (.istore 5, 2) := by decide +kernel
theorem dL_believes_95 : decode cL_believes 95 = .ok (.sipush 999, 3) := by decide +kernel
theorem dL_believes_98 : decode cL_believes 98 = .ok (.istore 6, 2) := by decide +kernel
theorem dL_believes_100 : decode cL_believes 100 = .ok (.iconst 0, 1) := by decide +kernel
theorem dL_believes_101 : decode cL_believes 101 = .ok (.istore 7, 2) := by decide +kernel
theorem dL_believes_103 : decode cL_believes 103 = .ok (.iconst 0, 1) := by decide +kernel
theorem dL_believes_104 : decode cL_believes 104 = .ok (.istore 8, 2) := by decide +kernel
theorem dL_believes_106 : decode cL_believes 106 = .ok (.iconst 0, 1) := by decide +kernel
theorem dL_believes_107 : decode cL_believes 107 = .ok (.istore 9, 2) := by decide +kernel
theorem dL_believes_109 : decode cL_believes 109 = .ok (.iload 9, 2) := by decide +kernel
theorem dL_believes_111 : decode cL_believes 111 = .ok (.iload 4, 2) := by decide +kernel
theorem dL_believes_113 : decode cL_believes 113 = .ok (.if_icmp .ge 291, 3) := by decide +kernel
theorem dL_believes_116 : decode cL_believes 116 = .ok (.aload_n 3, 1) := by decide +kernel
theorem dL_believes_117 : decode cL_believes 117 = .ok (.iload 9, 2) := by decide +kernel
theorem dL_believes_119 : decode cL_believes 119 = .ok (.iaload, 1) := by decide +kernel
theorem dL_believes_120 : decode cL_believes 120 = .ok (.istore 10, 2) := by decide +kernel
theorem dL_believes_122 : decode cL_believes 122 = .ok (.aload_n 0, 1) := by decide +kernel
theorem dL_believes_123 : decode cL_believes 123 = .ok (.iload_n 1, 1) := by decide +kernel
theorem dL_believes_124 : decode cL_believes 124 = .ok (.iload 10, 2) := by decide +kernel
theorem dL_believes_126 : decode cL_believes 126 = .ok (.iconst 0, 1) := by decide +kernel
theorem dL_believes_127 : decode cL_believes 127 = .ok (.invokevirtual 140, 3) := by decide +kernel
theorem dL_believes_130 : decode cL_believes 130 = .ok (.iload_n 1, 1) := by decide +kernel
theorem dL_believes_131 : decode cL_believes 131 = .ok (.if_icmp .eq 19, 3) := by decide +kernel
theorem dL_believes_134 : decode cL_believes 134 = .ok (.aload_n 0, 1) := by decide +kernel
theorem dL_believes_135 : decode cL_believes 135 = .ok (.iload_n 1, 1) := by decide +kernel
theorem dL_believes_136 : decode cL_believes 136 = .ok (.aload_n 0, 1) := by decide +kernel
theorem dL_believes_137 : decode cL_believes 137 = .ok (.iload_n 1, 1) := by decide +kernel
theorem dL_believes_138 : decode cL_believes 138 = .ok (.iload 10, 2) := by decide +kernel
theorem dL_believes_140 : decode cL_believes 140 = .ok (.iconst 1, 1) := by decide +kernel
theorem dL_believes_141 : decode cL_believes 141 = .ok (.invokevirtual 140, 3) := by decide +kernel
theorem dL_believes_144 : decode cL_believes 144 = .ok (.invokevirtual 153, 3) := by decide +kernel
theorem dL_believes_147 : decode cL_believes 147 = .ok (.ifCond .lt 7, 3) := by decide +kernel
theorem dL_believes_150 : decode cL_believes 150 = .ok (.iconst 1, 1) := by decide +kernel
theorem dL_believes_151 : decode cL_believes 151 = .ok (.goto 4, 3) := by decide +kernel
theorem dL_believes_154 : decode cL_believes 154 = .ok (.iconst 0, 1) := by decide +kernel
theorem dL_believes_155 : decode cL_believes 155 = .ok (.istore 11, 2) := by decide +kernel
theorem dL_believes_157 : decode cL_believes 157 = .ok (.iload 11, 2) := by decide +kernel
theorem dL_believes_159 : decode cL_believes 159 = .ok (.ifCond .eq 20, 3) := by decide +kernel
theorem dL_believes_162 : decode cL_believes 162 = .ok (.aload_n 0, 1) := by decide +kernel
theorem dL_believes_163 : decode cL_believes 163 = .ok (.iload_n 1, 1) := by decide +kernel
theorem dL_believes_164 : decode cL_believes 164 = .ok (.iload 10, 2) := by decide +kernel
theorem dL_believes_166 : decode cL_believes 166 = .ok (.aload_n 0, 1) := by decide +kernel
theorem dL_believes_167 : decode cL_believes 167 = .ok (.iload_n 1, 1) := by decide +kernel
theorem dL_believes_168 : decode cL_believes 168 = .ok (.iload 10, 2) := by decide +kernel
theorem dL_believes_170 : decode cL_believes 170 = .ok (.invokestatic 175, 3) := by decide +kernel
theorem dL_believes_173 : decode cL_believes 173 = .ok (.invokestatic 178, 3) := by decide +kernel
theorem dL_believes_176 : decode cL_believes 176 = .ok (.goto 4, 3) := by decide +kernel
theorem dL_believes_179 : decode cL_believes 179 = .ok (.iconst (-1), 1) := by decide +kernel
theorem dL_believes_180 : decode cL_believes 180 = .ok (.istore 12, 2) := by decide +kernel
theorem dL_believes_182 : decode cL_believes 182 = .ok (.iload 11, 2) := by decide +kernel
theorem dL_believes_184 : decode cL_believes 184 = .ok (.ifCond .eq 20, 3) := by decide +kernel
theorem dL_believes_187 : decode cL_believes 187 = .ok (.aload_n 0, 1) := by decide +kernel
theorem dL_believes_188 : decode cL_believes 188 = .ok (.iload_n 1, 1) := by decide +kernel
theorem dL_believes_189 : decode cL_believes 189 = .ok (.iload 10, 2) := by decide +kernel
theorem dL_believes_191 : decode cL_believes 191 = .ok (.aload_n 0, 1) := by decide +kernel
theorem dL_believes_192 : decode cL_believes 192 = .ok (.iload_n 1, 1) := by decide +kernel
theorem dL_believes_193 : decode cL_believes 193 = .ok (.iload 10, 2) := by decide +kernel
theorem dL_believes_195 : decode cL_believes 195 = .ok (.invokestatic 175, 3) := by decide +kernel
theorem dL_believes_198 : decode cL_believes 198 = .ok (.invokestatic 182, 3) := by decide +kernel
