theorem dX5_init_0 : decode cX5_init 0 = .ok (.aload_n 0, 1) := by decide +kernel
theorem dX5_init_1 : decode cX5_init 1 = .ok (.invokespecial 1, 3) := by decide +kernel
theorem dX5_init_4 : decode cX5_init 4 = .ok (.aload_n 0, 1) := by decide +kernel
theorem dX5_init_5 : decode cX5_init 5 = .ok (.bipush 10, 2) := by decide +kernel
theorem dX5_init_7 : decode cX5_init 7 = .ok (.newarray .int, 2) := by decide +kernel
theorem dX5_init_9 : decode cX5_init 9 = .ok (.putfield 7, 3) := by decide +kernel
theorem dX5_init_12 : decode cX5_init 12 = .ok (.aload_n 0, 1) := by decide +kernel
theorem dX5_init_13 : decode cX5_init 13 = .ok (.iconst 2, 1) := by decide +kernel
theorem dX5_init_14 : decode cX5_init 14 = .ok (.newarray .int, 2) := by decide +kernel
theorem dX5_init_16 : decode cX5_init 16 = .ok (.putfield 13, 3) := by decide +kernel
theorem dX5_init_19 : decode cX5_init 19 = .ok (.aload_n 0, 1) := by decide +kernel
theorem dX5_init_20 : decode cX5_init 20 = .ok (.bipush 120, 2) := by decide +kernel
theorem dX5_init_22 : decode cX5_init 22 = .ok (.newarray .int, 2) := by decide +kernel
theorem dX5_init_24 : decode cX5_init 24 = .ok (.putfield 16, 3) := by decide +kernel
theorem dX5_init_27 : decode cX5_init 27 = .ok (.aload_n 0, 1) := by decide +kernel
theorem dX5_init_28 : decode cX5_init 28 = .ok (.bipush 24, 2) := by decide +kernel
theorem dX5_init_30 : decode cX5_init 30 = .ok (.newarray .int, 2) := by decide +kernel
theorem dX5_init_32 : decode cX5_init 32 = .ok (.putfield 19, 3) := by decide +kernel
theorem dX5_init_35 : decode cX5_init 35 = .ok (.aload_n 0, 1) := by decide +kernel
theorem dX5_init_36 : decode cX5_init 36 = .ok (.bipush 54, 2) := by decide +kernel
theorem dX5_init_38 : decode cX5_init 38 = .ok (.newarray .int, 2) := by decide +kernel
theorem dX5_init_40 : decode cX5_init 40 = .ok (.putfield 22, 3) := by decide +kernel
theorem dX5_init_43 : decode cX5_init 43 = .ok (.aload_n 0, 1) := by decide +kernel
theorem dX5_init_44 : decode cX5_init 44 = .ok (.bipush 9, 2) := by decide +kernel
theorem dX5_init_46 : decode cX5_init 46 = .ok (.newarray .int, 2) := by decide +kernel
theorem dX5_init_48 : decode cX5_init 48 = .ok (.putfield 25, 3) := by decide +kernel
theorem dX5_init_51 : decode cX5_init 51 = .ok (.aload_n 0, 1) := by decide +kernel
theorem dX5_init_52 : decode cX5_init 52 = .ok (.bipush 8, 2) := by decide +kernel
theorem dX5_init_54 : decode cX5_init 54 = .ok (.newarray .int, 2) := by decide +kernel
theorem dX5_init_56 : decode cX5_init 56 = .ok (.putfield 28, 3) := by decide +kernel
theorem dX5_init_59 : decode cX5_init 59 = .ok (.aload_n 0, 1) := by decide +kernel
theorem dX5_init_60 : decode cX5_init 60 = .ok (.bipush 12, 2) := by decide +kernel
theorem dX5_init_62 : decode cX5_init 62 = .ok (.newarray .int, 2) := by decide +kernel
theorem dX5_init_64 : decode cX5_init 64 = .ok (.putfield 31, 3) := by decide +kernel
theorem dX5_init_67 : decode cX5_init 67 = .ok (.aload_n 0, 1) := by decide +kernel
theorem dX5_init_68 : decode cX5_init 68 = .ok (.bipush 12, 2) := by decide +kernel
theorem dX5_init_70 : decode cX5_init 70 = .ok (.newarray .int, 2) := by decide +kernel
theorem dX5_init_72 : decode cX5_init 72 = .ok (.putfield 34, 3) := by decide +kernel
theorem dX5_init_75 : decode cX5_init 75 = .ok (.aload_n 0, 1) := by decide +kernel
theorem dX5_init_76 : decode cX5_init 76 = .ok (.bipush 12, 2) := by decide +kernel
theorem dX5_init_78 : decode cX5_init 78 = .ok (.newarray .int, 2) := by decide +kernel
theorem dX5_init_80 : decode cX5_init 80 = .ok (.putfield 37, 3) := by decide +kernel
theorem dX5_init_83 : decode cX5_init 83 = .ok (.aload_n 0, 1) := by decide +kernel
theorem dX5_init_84 : decode cX5_init 84 = .ok (.bipush 26, 2) := by decide +kernel
theorem dX5_init_86 : decode cX5_init 86 = .ok (.newarray .int, 2) := by decide +kernel
theorem dX5_init_88 : decode cX5_init 88 = .ok (.putfield 40, 3) := by decide +kernel
theorem dX5_init_91 : decode cX5_init 91 = .ok (.aload_n 0, 1) := by decide +kernel
theorem dX5_init_92 : decode cX5_init 92 = .ok (.bipush 26, 2) := by decide +kernel
theorem dX5_init_94 : decode cX5_init 94 = .ok (.newarray .int, 2) := by decide +kernel
theorem dX5_init_96 : decode cX5_init 96 = .ok (.putfield 43, 3) := by decide +kernel
theorem dX5_init_99 : decode cX5_init 99 = .ok (.aload_n 0, 1) := by decide +kernel
theorem dX5_init_100 : decode cX5_init 100 = .ok (.bipush 18, 2) := by decide +kernel
theorem dX5_init_102 : decode cX5_init 102 = .ok (.newarray .int, 2) := by decide +kernel
theorem dX5_init_104 : decode cX5_init 104 = .ok (.putfield 46, 3) := by decide +kernel
theorem dX5_init_107 : decode cX5_init 107 = .ok (.aload_n 0, 1) := by decide +kernel
theorem dX5_init_108 : decode cX5_init 108 = .ok (.bipush 24, 2) := by decide +kernel
theorem dX5_init_110 : decode cX5_init 110 = .ok (.newarray .int, 2) := by decide +kernel
theorem dX5_init_112 : decode cX5_init 112 = .ok (.putfield 49, 3) := by decide +kernel
theorem dX5_init_115 : decode cX5_init 115 = .ok (.aload_n 0, 1) := by decide +kernel
theorem dX5_init_116 : decode cX5_init 116 = .ok (.iconst 4, 1) := by decide +kernel
theorem dX5_init_117 : decode cX5_init 117 = .ok (.newarray .boolean, 2) := by decide +kernel
theorem dX5_init_119 : decode cX5_init 119 = .ok (.putfield 52, 3) := by decide +kernel
theorem dX5_init_122 : decode cX5_init 122 = .ok (.aload_n 0, 1) := by decide +kernel
theorem dX5_init_123 : decode cX5_init 123 = .ok (.iconst 4, 1) := by decide +kernel
theorem dX5_init_124 : decode cX5_init 124 = .ok (.newarray .int, 2) := by decide +kernel
theorem dX5_init_126 : decode cX5_init 126 = .ok (.putfield 56, 3) := by decide +kernel
theorem dX5_init_129 : decode cX5_init 129 = .ok (.aload_n 0, 1) := by decide +kernel
theorem dX5_init_130 : decode cX5_init 130 = .ok (.iconst 4, 1) := by decide +kernel
theorem dX5_init_131 : decode cX5_init 131 = .ok (.newarray .int, 2) := by decide +kernel
theorem dX5_init_133 : decode cX5_init 133 = .ok (.putfield 59, 3) := by decide +kernel
theorem dX5_init_136 : decode cX5_init 136 = .ok (.aload_n 0, 1) := by decide +kernel
theorem dX5_init_137 : decode cX5_init 137 = .ok (.sipush 192, 3) := by decide +kernel
theorem dX5_init_140 : decode cX5_init 140 = .ok (.newarray .int, 2) := by decide +kernel
theorem dX5_init_142 : decode cX5_init 142 = .ok (.putfield 62, 3) := by decide +kernel
theorem dX5_init_145 : decode cX5_init 145 = .ok (.aload_n 0, 1) := by decide +kernel
theorem dX5_init_146 : decode cX5_init 146 = .ok (.bipush 48, 2) := by decide +kernel
theorem dX5_init_148 : decode cX5_init 148 = .ok (.newarray .int, 2) := by decide +kernel
theorem dX5_init_150 : decode cX5_init 150 = .ok (.putfield 65, 3) := by decide +kernel
theorem dX5_init_153 : decode cX5_init 153 = .ok (.iconst 0, 1) := by decide +kernel
theorem dX5_init_154 : decode cX5_init 154 = .ok (.istore_n 1, 1) := by decide +kernel
theorem dX5_init_155 : decode cX5_init 155 = .ok (.iload_n 1, 1) := by decide +kernel
theorem dX5_init_156 : decode cX5_init 156 = .ok (.bipush 10, 2) := by decide +kernel
theorem dX5_init_158 : decode cX5_init 158 = .ok (.if_icmp .ge 107, 3) := by decide +kernel
theorem dX5_init_161 : decode cX5_init 161 = .ok (.aload_n 0, 1) := by decide +kernel
theorem dX5_init_162 : decode cX5_init 162 = .ok (.getfield 7, 3) := by decide +kernel
theorem dX5_init_165 : decode cX5_init 165 = .ok (.iload_n 1, 1) := by decide +kernel
theorem dX5_init_166 : decode cX5_init 166 = .ok (.iload_n 1, 1) := by decide +kernel
theorem dX5_init_167 : decode cX5_init 167 = .ok (.ifCond .ne 7, 3) := by decide +kernel
theorem dX5_init_170 : decode cX5_init 170 = .ok (.iconst 1, 1) := by decide +kernel
theorem dX5_init_171 : decode cX5_init 171 = .ok (.goto 87, 3) := by decide +kernel
theorem dX5_init_174 : decode cX5_init 174 = .ok (.iload_n 1, 1) := by decide +kernel
theorem dX5_init_175 : decode cX5_init 175 = .ok (.iconst 1, 1) := by decide +kernel
theorem dX5_init_176 : decode cX5_init 176 = .ok (.if_icmp .ne 7, 3) := by decide +kernel
theorem dX5_init_179 : decode cX5_init 179 = .ok (.iconst 3, 1) := by decide +kernel
theorem dX5_init_180 : decode cX5_init 180 = .ok (.goto 78, 3) := by decide +kernel
theorem dX5_init_183 : decode cX5_init 183 = .ok (.iload_n 1, 1) := by decide +kernel
theorem dX5_init_184 : decode cX5_init 184 = .ok (.iconst 2, 1) := by decide +kernel
theorem dX5_init_185 : decode cX5_init 185 = .ok (.if_icmp .ne 8, 3) := by decide +kernel
theorem dX5_init_188 : decode cX5_init 188 = .ok (.bipush 9, 2) := by decide +kernel
theorem dX5_init_190 : decode cX5_init 190 = .ok (.goto 68, 3) := by decide +kernel
theorem dX5_init_193 : decode cX5_init 193 = .ok (.iload_n 1, 1) := by decide +kernel
theorem dX5_init_194 : decode cX5_init 194 = .ok (.iconst 3, 1) := by decide +kernel
theorem dX5_init_195 : decode cX5_init 195 = .ok (.if_icmp .ne 8, 3) := by decide +kernel
theorem dX5_init_198 : decode cX5_init 198 = .ok (.bipush 25, 2) := by decide +kernel
theorem dX5_init_200 : decode cX5_init 200 = .ok (.goto 58, 3) := by decide +kernel
theorem dX5_init_203 : decode cX5_init 203 = .ok (.iload_n 1, 1) := by decide +kernel
theorem dX5_init_204 : decode cX5_init 204 = .ok (.iconst 4, 1) := by decide +kernel
theorem dX5_init_205 : decode cX5_init 205 = .ok (.if_icmp .ne 8, 3) := by decide +kernel
theorem dX5_init_208 : decode cX5_init 208 = .ok (.bipush 17, 2) := by decide +kernel
theorem dX5_init_210 : decode cX5_init 210 = .ok (.goto 48, 3) := by decide +kernel
theorem dX5_init_213 : decode cX5_init 213 = .ok (.iload_n 1, 1) := by decide +kernel
theorem dX5_init_214 : decode cX5_init 214 = .ok (.iconst 5, 1) := by decide +kernel
theorem dX5_init_215 : decode cX5_init 215 = .ok (.if_icmp .ne 8, 3) := by decide +kernel
theorem dX5_init_218 : decode cX5_init 218 = .ok (.bipush 11, 2) := by decide +kernel
theorem dX5_init_220 : decode cX5_init 220 = .ok (.goto 38, 3) := by decide +kernel
theorem dX5_init_223 : decode cX5_init 223 = .ok (.iload_n 1, 1) := by decide +kernel
theorem dX5_init_224 : decode cX5_init 224 = .ok (.bipush 6, 2) := by decide +kernel
theorem dX5_init_226 : decode cX5_init 226 = .ok (.if_icmp .ne 8, 3) := by decide +kernel
theorem dX5_init_229 : decode cX5_init 229 = .ok (.bipush 27, 2) := by decide +kernel
theorem dX5_init_231 : decode cX5_init 231 = .ok (.goto 27, 3) := by decide +kernel
theorem dX5_init_234 : decode cX5_init 234 = .ok (.iload_n 1, 1) := by decide +kernel
theorem dX5_init_235 : decode cX5_init 235 = .ok (.bipush 7, 2) := by decide +kernel
theorem dX5_init_237 : decode cX5_init 237 = .ok (.if_icmp .ne 8, 3) := by decide +kernel
theorem dX5_init_240 : decode cX5_init 240 = .ok (.bipush 19, 2) := by decide +kernel
theorem dX5_init_242 : decode cX5_init 242 = .ok (.goto 16, 3) := by decide +kernel
theorem dX5_init_245 : decode cX5_init 245 = .ok (.iload_n 1, 1) := by decide +kernel
theorem dX5_init_246 : decode cX5_init 246 = .ok (.bipush 8, 2) := by decide +kernel
theorem dX5_init_248 : decode cX5_init 248 = .ok (.if_icmp .ne 8, 3) := by decide +kernel
theorem dX5_init_251 : decode cX5_init 251 = .ok (.bipush 10, 2) := by decide +kernel
theorem dX5_init_253 : decode cX5_init 253 = .ok (.goto 5, 3) := by decide +kernel
theorem dX5_init_256 : decode cX5_init 256 = .ok (.bipush 26, 2) := by decide +kernel
theorem dX5_init_258 : decode cX5_init 258 = .ok (.iastore, 1) := by decide +kernel
theorem dX5_init_259 : decode cX5_init 259 = .ok (.iinc 1 1, 3) := by decide +kernel
theorem dX5_init_262 : decode cX5_init 262 = .ok (.goto (-107), 3) := by decide +kernel
theorem dX5_init_265 : decode cX5_init 265 = .ok (.iconst 0, 1) := by decide +kernel
theorem dX5_init_266 : decode cX5_init 266 = .ok (.istore_n 1, 1) := by decide +kernel
theorem dX5_init_267 : decode cX5_init 267 = .ok (.iload_n 1, 1) := by decide +kernel
theorem dX5_init_268 : decode cX5_init 268 = .ok (.bipush 8, 2) := by decide +kernel
theorem dX5_init_270 : decode cX5_init 270 = .ok (.if_icmp .ge 16, 3) := by decide +kernel
theorem dX5_init_273 : decode cX5_init 273 = .ok (.aload_n 0, 1) := by decide +kernel
theorem dX5_init_274 : decode cX5_init 274 = .ok (.getfield 28, 3) := by decide +kernel
theorem dX5_init_277 : decode cX5_init 277 = .ok (.iload_n 1, 1) := by decide +kernel
theorem dX5_init_278 : decode cX5_init 278 = .ok (.iconst 1, 1) := by decide +kernel
theorem dX5_init_279 : decode cX5_init 279 = .ok (.iastore, 1) := by decide +kernel
theorem dX5_init_280 : decode cX5_init 280 = .ok (.iinc 1 1, 3) := by decide +kernel
theorem dX5_init_283 : decode cX5_init 283 = .ok (.goto (-16), 3) := by decide +kernel
theorem dX5_init_286 : decode cX5_init 286 = .ok (.aload_n 0, 1) := by decide +kernel
theorem dX5_init_287 : decode cX5_init 287 = .ok (.iconst 1, 1) := by decide +kernel
theorem dX5_init_288 : decode cX5_init 288 = .ok (.putfield 68, 3) := by decide +kernel
theorem dX5_init_291 : decode cX5_init 291 = .ok (.aload_n 0, 1) := by decide +kernel
theorem dX5_init_292 : decode cX5_init 292 = .ok (.iconst 2, 1) := by decide +kernel
theorem dX5_init_293 : decode cX5_init 293 = .ok (.putfield 72, 3) := by decide +kernel
theorem dX5_init_296 : decode cX5_init 296 = .ok (.return_, 1) := by decide +kernel
theorem dX5_in_0 : decode cX5_in 0 = .ok (.iload_n 0, 1) := by decide +kernel
theorem dX5_in_1 : decode cX5_in 1 = .ok (.iload_n 1, 1) := by decide +kernel
theorem dX5_in_2 : decode cX5_in 2 = .ok (.if_icmp .lt 12, 3) := by decide +kernel
theorem dX5_in_5 : decode cX5_in 5 = .ok (.iload_n 0, 1) := by decide +kernel
theorem dX5_in_6 : decode cX5_in 6 = .ok (.iload_n 2, 1) := by decide +kernel
theorem dX5_in_7 : decode cX5_in 7 = .ok (.if_icmp .gt 7, 3) := by decide +kernel
theorem dX5_in_10 : decode cX5_in 10 = .ok (.iconst 1, 1) := by decide +kernel
theorem dX5_in_11 : decode cX5_in 11 = .ok (.goto 4, 3) := by decide +kernel
theorem dX5_in_14 : decode cX5_in 14 = .ok (.iconst 0, 1) := by decide +kernel
theorem dX5_in_15 : decode cX5_in 15 = .ok (.ireturn, 1) := by decide +kernel
theorem dX5_ones_0 : decode cX5_ones 0 = .ok (.iconst 0, 1) := by decide +kernel
theorem dX5_ones_1 : decode cX5_ones 1 = .ok (.istore_n 1, 1) := by decide +kernel
theorem dX5_ones_2 : decode cX5_ones 2 = .ok (.iconst 0, 1) := by decide +kernel
theorem dX5_ones_3 : decode cX5_ones 3 = .ok (.istore_n 2, 1) := by decide +kernel
theorem dX5_ones_4 : decode cX5_ones 4 = .ok (.iload_n 2, 1) := by decide +kernel
theorem dX5_ones_5 : decode cX5_ones 5 = .ok (.bipush 8, 2) := by decide +kernel
theorem dX5_ones_7 : decode cX5_ones 7 = .ok (.if_icmp .ge 17, 3) := by decide +kernel
theorem dX5_ones_10 : decode cX5_ones 10 = .ok (.iload_n 1, 1) := by decide +kernel
theorem dX5_ones_11 : decode cX5_ones 11 = .ok (.iload_n 0, 1) := by decide +kernel
theorem dX5_ones_12 : decode cX5_ones 12 = .ok (.iload_n 2, 1) := by decide +kernel
theorem dX5_ones_13 : decode cX5_ones 13 = .ok (.ishr, 1) := by decide +kernel
theorem dX5_ones_14 : decode cX5_ones 14 = .ok (.iconst 1, 1) := by decide +kernel
theorem dX5_ones_15 : decode cX5_ones 15 = .ok (.iand, 1) := by decide +kernel
theorem dX5_ones_16 : decode cX5_ones 16 = .ok (.iadd, 1) := by decide +kernel
theorem dX5_ones_17 : decode cX5_ones 17 = .ok (.istore_n 1, 1) := by decide +kernel
theorem dX5_ones_18 : decode cX5_ones 18 = .ok (.iinc 2 1, 3) := by decide +kernel
theorem dX5_ones_21 : decode cX5_ones 21 = .ok (.goto (-17), 3) := by decide +kernel
theorem dX5_ones_24 : decode cX5_ones 24 = .ok (.iload_n 1, 1) := by decide +kernel
theorem dX5_ones_25 : decode cX5_ones 25 = .ok (.ireturn, 1) := by decide +kernel
theorem dX5_type_0 : decode cX5_type 0 = .ok (.iload_n 1, 1) := by decide +kernel
theorem dX5_type_1 : decode cX5_type 1 = .ok (.iconst 0, 1) := by decide +kernel
theorem dX5_type_2 : decode cX5_type 2 = .ok (.iconst 1, 1) := by decide +kernel
theorem dX5_type_3 : decode cX5_type 3 = .ok (.invokestatic 75, 3) := by decide +kernel
theorem dX5_type_6 : decode cX5_type 6 = .ok (.ifCond .eq 14, 3) := by decide +kernel
theorem dX5_type_9 : decode cX5_type 9 = .ok (.iload_n 2, 1) := by decide +kernel
theorem dX5_type_10 : decode cX5_type 10 = .ok (.iconst 0, 1) := by decide +kernel
theorem dX5_type_11 : decode cX5_type 11 = .ok (.sipush 255, 3) := by decide +kernel
theorem dX5_type_14 : decode cX5_type 14 = .ok (.invokestatic 75, 3) := by decide +kernel
theorem dX5_type_17 : decode cX5_type 17 = .ok (.ifCond .ne 6, 3) := by decide +kernel
theorem dX5_type_20 : decode cX5_type 20 = .ok (.bipush (-2), 2) := by decide +kernel
theorem dX5_type_22 : decode cX5_type 22 = .ok (.ireturn, 1) := by decide +kernel
theorem dX5_type_23 : decode cX5_type 23 = .ok (.aload_n 0, 1) := by decide +kernel
theorem dX5_type_24 : decode cX5_type 24 = .ok (.getfield 13, 3) := by decide +kernel
theorem dX5_type_27 : decode cX5_type 27 = .ok (.iload_n 1, 1) := by decide +kernel
theorem dX5_type_28 : decode cX5_type 28 = .ok (.iaload, 1) := by decide +kernel
theorem dX5_type_29 : decode cX5_type 29 = .ok (.iload_n 1, 1) := by decide +kernel
theorem dX5_type_30 : decode cX5_type 30 = .ok (.ifCond .ne 8, 3) := by decide +kernel
theorem dX5_type_33 : decode cX5_type 33 = .ok (.bipush 24, 2) := by decide +kernel
theorem dX5_type_35 : decode cX5_type 35 = .ok (.goto 5, 3) := by decide +kernel
theorem dX5_type_38 : decode cX5_type 38 = .ok (.bipush 60, 2) := by decide +kernel
theorem dX5_type_40 : decode cX5_type 40 = .ok (.if_icmp .ne 6, 3) := by decide +kernel
theorem dX5_type_43 : decode cX5_type 43 = .ok (.bipush (-4), 2) := by decide +kernel
theorem dX5_type_45 : decode cX5_type 45 = .ok (.ireturn, 1) := by decide +kernel
theorem dX5_type_46 : decode cX5_type 46 = .ok (.aload_n 0, 1) := by decide +kernel
theorem dX5_type_47 : decode cX5_type 47 = .ok (.getfield 16, 3) := by decide +kernel
theorem dX5_type_50 : decode cX5_type 50 = .ok (.bipush 60, 2) := by decide +kernel
theorem dX5_type_52 : decode cX5_type 52 = .ok (.iload_n 1, 1) := by decide +kernel
theorem dX5_type_53 : decode cX5_type 53 = .ok (.imul, 1) := by decide +kernel
theorem dX5_type_54 : decode cX5_type 54 = .ok (.aload_n 0, 1) := by decide +kernel
theorem dX5_type_55 : decode cX5_type 55 = .ok (.getfield 13, 3) := by decide +kernel
theorem dX5_type_58 : decode cX5_type 58 = .ok (.iload_n 1, 1) := by decide +kernel
theorem dX5_type_59 : decode cX5_type 59 = .ok (.iaload, 1) := by decide +kernel
theorem dX5_type_60 : decode cX5_type 60 = .ok (.iadd, 1) := by decide +kernel
theorem dX5_type_61 : decode cX5_type 61 = .ok (.iload_n 2, 1) := by decide +kernel
theorem dX5_type_62 : decode cX5_type 62 = .ok (.iastore, 1) := by decide +kernel
theorem dX5_type_63 : decode cX5_type 63 = .ok (.aload_n 0, 1) := by decide +kernel
theorem dX5_type_64 : decode cX5_type 64 = .ok (.getfield 13, 3) := by decide +kernel
theorem dX5_type_67 : decode cX5_type 67 = .ok (.iload_n 1, 1) := by decide +kernel
theorem dX5_type_68 : decode cX5_type 68 = .ok (.dup2, 1) := by decide +kernel
theorem dX5_type_69 : decode cX5_type 69 = .ok (.iaload, 1) := by decide +kernel
theorem dX5_type_70 : decode cX5_type 70 = .ok (.iconst 1, 1) := by decide +kernel
theorem dX5_type_71 : decode cX5_type 71 = .ok (.iadd, 1) := by decide +kernel
theorem dX5_type_72 : decode cX5_type 72 = .ok (.iastore, 1) := by decide +kernel
theorem dX5_type_73 : decode cX5_type 73 = .ok (.aload_n 0, 1) := by decide +kernel
theorem dX5_type_74 : decode cX5_type 74 = .ok (.getfield 13, 3) := by decide +kernel
theorem dX5_type_77 : decode cX5_type 77 = .ok (.iload_n 1, 1) := by decide +kernel
theorem dX5_type_78 : decode cX5_type 78 = .ok (.iaload, 1) := by decide +kernel
theorem dX5_type_79 : decode cX5_type 79 = .ok (.ireturn, 1) := by decide +kernel
theorem dX5_wipe_0 : decode cX5_wipe 0 = .ok (.iload_n 1, 1) := by decide +kernel
theorem dX5_wipe_1 : decode cX5_wipe 1 = .ok (.iconst 0, 1) := by decide +kernel
theorem dX5_wipe_2 : decode cX5_wipe 2 = .ok (.iconst 1, 1) := by decide +kernel
theorem dX5_wipe_3 : decode cX5_wipe 3 = .ok (.invokestatic 75, 3) := by decide +kernel
theorem dX5_wipe_6 : decode cX5_wipe 6 = .ok (.ifCond .ne 6, 3) := by decide +kernel
theorem dX5_wipe_9 : decode cX5_wipe 9 = .ok (.bipush (-2), 2) := by decide +kernel
theorem dX5_wipe_11 : decode cX5_wipe 11 = .ok (.ireturn, 1) := by decide +kernel
theorem dX5_wipe_12 : decode cX5_wipe 12 = .ok (.aload_n 0, 1) := by decide +kernel
theorem dX5_wipe_13 : decode cX5_wipe 13 = .ok (.getfield 13, 3) := by decide +kernel
theorem dX5_wipe_16 : decode cX5_wipe 16 = .ok (.iload_n 1, 1) := by decide +kernel
theorem dX5_wipe_17 : decode cX5_wipe 17 = .ok (.iaload, 1) := by decide +kernel
theorem dX5_wipe_18 : decode cX5_wipe 18 = .ok (.istore_n 2, 1) := by decide +kernel
theorem dX5_wipe_19 : decode cX5_wipe 19 = .ok (.aload_n 0, 1) := by decide +kernel
theorem dX5_wipe_20 : decode cX5_wipe 20 = .ok (.getfield 13, 3) := by decide +kernel
theorem dX5_wipe_23 : decode cX5_wipe 23 = .ok (.iload_n 1, 1) := by decide +kernel
theorem dX5_wipe_24 : decode cX5_wipe 24 = .ok (.iconst 0, 1) := by decide +kernel
theorem dX5_wipe_25 : decode cX5_wipe 25 = .ok (.iastore, 1) := by decide +kernel
theorem dX5_wipe_26 : decode cX5_wipe 26 = .ok (.iload_n 2, 1) := by decide +kernel
theorem dX5_wipe_27 : decode cX5_wipe 27 = .ok (.ireturn, 1) := by decide +kernel
theorem dX5_letterAt_0 : decode cX5_letterAt 0 = .ok (.iload_n 2, 1) := by decide +kernel
theorem dX5_letterAt_1 : decode cX5_letterAt 1 = .ok (.aload_n 0, 1) := by decide +kernel
theorem dX5_letterAt_2 : decode cX5_letterAt 2 = .ok (.getfield 13, 3) := by decide +kernel
theorem dX5_letterAt_5 : decode cX5_letterAt 5 = .ok (.iload_n 1, 1) := by decide +kernel
theorem dX5_letterAt_6 : decode cX5_letterAt 6 = .ok (.iaload, 1) := by decide +kernel
theorem dX5_letterAt_7 : decode cX5_letterAt 7 = .ok (.if_icmp .ge 20, 3) := by decide +kernel
theorem dX5_letterAt_10 : decode cX5_letterAt 10 = .ok (.aload_n 0, 1) := by decide +kernel
theorem dX5_letterAt_11 : decode cX5_letterAt 11 = .ok (.getfield 16, 3) := by decide +kernel
theorem dX5_letterAt_14 : decode cX5_letterAt 14 = .ok (.bipush 60, 2) := by decide +kernel
theorem dX5_letterAt_16 : decode cX5_letterAt 16 = .ok (.iload_n 1, 1) := by decide +kernel
theorem dX5_letterAt_17 : decode cX5_letterAt 17 = .ok (.imul, 1) := by decide +kernel
theorem dX5_letterAt_18 : decode cX5_letterAt 18 = .ok (.iload_n 2, 1) := by decide +kernel
theorem dX5_letterAt_19 : decode cX5_letterAt 19 = .ok (.iadd, 1) := by decide +kernel
theorem dX5_letterAt_20 : decode cX5_letterAt 20 = .ok (.iaload, 1) := by decide +kernel
theorem dX5_letterAt_21 : decode cX5_letterAt 21 = .ok (.bipush 97, 2) := by decide +kernel
theorem dX5_letterAt_23 : decode cX5_letterAt 23 = .ok (.isub, 1) := by decide +kernel
theorem dX5_letterAt_24 : decode cX5_letterAt 24 = .ok (.goto 4, 3) := by decide +kernel
theorem dX5_letterAt_27 : decode cX5_letterAt 27 = .ok (.iconst (-1), 1) := by decide +kernel
theorem dX5_letterAt_28 : decode cX5_letterAt 28 = .ok (.istore_n 3, 1) := by decide +kernel
theorem dX5_letterAt_29 : decode cX5_letterAt 29 = .ok (.iload_n 3, 1) := by decide +kernel
theorem dX5_letterAt_30 : decode cX5_letterAt 30 = .ok (.iconst 0, 1) := by decide +kernel
theorem dX5_letterAt_31 : decode cX5_letterAt 31 = .ok (.bipush 9, 2) := by decide +kernel
theorem dX5_letterAt_33 : decode cX5_letterAt 33 = .ok (.invokestatic 75, 3) := by decide +kernel
theorem dX5_letterAt_36 : decode cX5_letterAt 36 = .ok (.ifCond .eq 7, 3) := by decide +kernel
theorem dX5_letterAt_39 : decode cX5_letterAt 39 = .ok (.iload_n 3, 1) := by decide +kernel
theorem dX5_letterAt_40 : decode cX5_letterAt 40 = .ok (.goto 4, 3) := by decide +kernel
theorem dX5_letterAt_43 : decode cX5_letterAt 43 = .ok (.iconst (-1), 1) := by decide +kernel
theorem dX5_letterAt_44 : decode cX5_letterAt 44 = .ok (.ireturn, 1) := by decide +kernel
theorem dX5_readsPage_0 : decode cX5_readsPage 0 = .ok (.aload_n 0, 1) := by decide +kernel
theorem dX5_readsPage_1 : decode cX5_readsPage 1 = .ok (.iconst 0, 1) := by decide +kernel
theorem dX5_readsPage_2 : decode cX5_readsPage 2 = .ok (.putfield 79, 3) := by decide +kernel
theorem dX5_readsPage_5 : decode cX5_readsPage 5 = .ok (.iconst 0, 1) := by decide +kernel
theorem dX5_readsPage_6 : decode cX5_readsPage 6 = .ok (.istore_n 1, 1) := by decide +kernel
theorem dX5_readsPage_7 : decode cX5_readsPage 7 = .ok (.iload_n 1, 1) := by decide +kernel
theorem dX5_readsPage_8 : decode cX5_readsPage 8 = .ok (.aload_n 0, 1) := by decide +kernel
theorem dX5_readsPage_9 : decode cX5_readsPage 9 = .ok (.getfield 13, 3) := by decide +kernel
theorem dX5_readsPage_12 : decode cX5_readsPage 12 = .ok (.iconst 0, 1) := by decide +kernel
theorem dX5_readsPage_13 : decode cX5_readsPage 13 = .ok (.iaload, 1) := by decide +kernel
theorem dX5_readsPage_14 : decode cX5_readsPage 14 = .ok (.if_icmp .ge 63, 3) := by decide +kernel
theorem dX5_readsPage_17 : decode cX5_readsPage 17 = .ok (.aload_n 0, 1) := by decide +kernel
theorem dX5_readsPage_18 : decode cX5_readsPage 18 = .ok (.getfield 16, 3) := by decide +kernel
theorem dX5_readsPage_21 : decode cX5_readsPage 21 = .ok (.iload_n 1, 1) := by decide +kernel
theorem dX5_readsPage_22 : decode cX5_readsPage 22 = .ok (.iaload, 1) := by decide +kernel
theorem dX5_readsPage_23 : decode cX5_readsPage 23 = .ok (.bipush 46, 2) := by decide +kernel
theorem dX5_readsPage_25 : decode cX5_readsPage 25 = .ok (.if_icmp .ne 7, 3) := by decide +kernel
theorem dX5_readsPage_28 : decode cX5_readsPage 28 = .ok (.iconst 1, 1) := by decide +kernel
theorem dX5_readsPage_29 : decode cX5_readsPage 29 = .ok (.goto 4, 3) := by decide +kernel
theorem dX5_readsPage_32 : decode cX5_readsPage 32 = .ok (.iconst 0, 1) := by decide +kernel
theorem dX5_readsPage_33 : decode cX5_readsPage 33 = .ok (.istore_n 2, 1) := by decide +kernel
theorem dX5_readsPage_34 : decode cX5_readsPage 34 = .ok (.iload_n 2, 1) := by decide +kernel
theorem dX5_readsPage_35 : decode cX5_readsPage 35 = .ok (.ifCond .ne 15, 3) := by decide +kernel
theorem dX5_readsPage_38 : decode cX5_readsPage 38 = .ok (.aload_n 0, 1) := by decide +kernel
theorem dX5_readsPage_39 : decode cX5_readsPage 39 = .ok (.iconst 0, 1) := by decide +kernel
theorem dX5_readsPage_40 : decode cX5_readsPage 40 = .ok (.iload_n 1, 1) := by decide +kernel
theorem dX5_readsPage_41 : decode cX5_readsPage 41 = .ok (.invokevirtual 82, 3) := by decide +kernel
theorem dX5_readsPage_44 : decode cX5_readsPage 44 = .ok (.iconst (-1), 1) := by decide +kernel
theorem dX5_readsPage_45 : decode cX5_readsPage 45 = .ok (.if_icmp .ne 5, 3) := by decide +kernel
theorem dX5_readsPage_48 : decode cX5_readsPage 48 = .ok (.iload_n 1, 1) := by decide +kernel
theorem dX5_readsPage_49 : decode cX5_readsPage 49 = .ok (.ireturn, 1) := by decide +kernel
theorem dX5_readsPage_50 : decode cX5_readsPage 50 = .ok (.aload_n 0, 1) := by decide +kernel
theorem dX5_readsPage_51 : decode cX5_readsPage 51 = .ok (.getfield 19, 3) := by decide +kernel
theorem dX5_readsPage_54 : decode cX5_readsPage 54 = .ok (.iload_n 1, 1) := by decide +kernel
theorem dX5_readsPage_55 : decode cX5_readsPage 55 = .ok (.iload_n 2, 1) := by decide +kernel
theorem dX5_readsPage_56 : decode cX5_readsPage 56 = .ok (.ifCond .eq 8, 3) := by decide +kernel
theorem dX5_readsPage_59 : decode cX5_readsPage 59 = .ok (.bipush 10, 2) := by decide +kernel
theorem dX5_readsPage_61 : decode cX5_readsPage 61 = .ok (.goto 9, 3) := by decide +kernel
theorem dX5_readsPage_64 : decode cX5_readsPage 64 = .ok (.aload_n 0, 1) := by decide +kernel
theorem dX5_readsPage_65 : decode cX5_readsPage 65 = .ok (.iconst 0, 1) := by decide +kernel
theorem dX5_readsPage_66 : decode cX5_readsPage 66 = .ok (.iload_n 1, 1) := by decide +kernel
theorem dX5_readsPage_67 : decode cX5_readsPage 67 = .ok (.invokevirtual 82, 3) := by decide +kernel
theorem dX5_readsPage_70 : decode cX5_readsPage 70 = .ok (.iastore, 1) := by decide +kernel
theorem dX5_readsPage_71 : decode cX5_readsPage 71 = .ok (.iinc 1 1, 3) := by decide +kernel
theorem dX5_readsPage_74 : decode cX5_readsPage 74 = .ok (.goto (-67), 3) := by decide +kernel
theorem dX5_readsPage_77 : decode cX5_readsPage 77 = .ok (.aload_n 0, 1) := by decide +kernel
theorem dX5_readsPage_78 : decode cX5_readsPage 78 = .ok (.aload_n 0, 1) := by decide +kernel
theorem dX5_readsPage_79 : decode cX5_readsPage 79 = .ok (.getfield 13, 3) := by decide +kernel
theorem dX5_readsPage_82 : decode cX5_readsPage 82 = .ok (.iconst 0, 1) := by decide +kernel
theorem dX5_readsPage_83 : decode cX5_readsPage 83 = .ok (.iaload, 1) := by decide +kernel
theorem dX5_readsPage_84 : decode cX5_readsPage 84 = .ok (.putfield 79, 3) := by decide +kernel
theorem dX5_readsPage_87 : decode cX5_readsPage 87 = .ok (.iconst (-1), 1) := by decide +kernel
theorem dX5_readsPage_88 : decode cX5_readsPage 88 = .ok (.ireturn, 1) := by decide +kernel
theorem dX5_readsWords_0 : decode cX5_readsWords 0 = .ok (.aload_n 0, 1) := by decide +kernel
theorem dX5_readsWords_1 : decode cX5_readsWords 1 = .ok (.iconst 0, 1) := by decide +kernel
theorem dX5_readsWords_2 : decode cX5_readsWords 2 = .ok (.putfield 86, 3) := by decide +kernel
theorem dX5_readsWords_5 : decode cX5_readsWords 5 = .ok (.iconst 0, 1) := by decide +kernel
theorem dX5_readsWords_6 : decode cX5_readsWords 6 = .ok (.istore_n 1, 1) := by decide +kernel
theorem dX5_readsWords_7 : decode cX5_readsWords 7 = .ok (.iconst 0, 1) := by decide +kernel
theorem dX5_readsWords_8 : decode cX5_readsWords 8 = .ok (.istore_n 2, 1) := by decide +kernel
theorem dX5_readsWords_9 : decode cX5_readsWords 9 = .ok (.iload_n 2, 1) := by decide +kernel
theorem dX5_readsWords_10 : decode cX5_readsWords 10 = .ok (.aload_n 0, 1) := by decide +kernel
theorem dX5_readsWords_11 : decode cX5_readsWords 11 = .ok (.getfield 13, 3) := by decide +kernel
theorem dX5_readsWords_14 : decode cX5_readsWords 14 = .ok (.iconst 1, 1) := by decide +kernel
theorem dX5_readsWords_15 : decode cX5_readsWords 15 = .ok (.iaload, 1) := by decide +kernel
theorem dX5_readsWords_16 : decode cX5_readsWords 16 = .ok (.if_icmp .lt 7, 3) := by decide +kernel
theorem dX5_readsWords_19 : decode cX5_readsWords 19 = .ok (.iload_n 2, 1) := by decide +kernel
theorem dX5_readsWords_20 : decode cX5_readsWords 20 = .ok (.ifCond .le 116, 3) := by decide +kernel
theorem dX5_readsWords_23 : decode cX5_readsWords 23 = .ok (.iload_n 1, 1) := by decide +kernel
theorem dX5_readsWords_24 : decode cX5_readsWords 24 = .ok (.bipush 8, 2) := by decide +kernel
theorem dX5_readsWords_26 : decode cX5_readsWords 26 = .ok (.if_icmp .eq 13, 3) := by decide +kernel
theorem dX5_readsWords_29 : decode cX5_readsWords 29 = .ok (.aload_n 0, 1) := by decide +kernel
theorem dX5_readsWords_30 : decode cX5_readsWords 30 = .ok (.iconst 1, 1) := by decide +kernel
theorem dX5_readsWords_31 : decode cX5_readsWords 31 = .ok (.iload_n 2, 1) := by decide +kernel
theorem dX5_readsWords_32 : decode cX5_readsWords 32 = .ok (.invokevirtual 82, 3) := by decide +kernel
theorem dX5_readsWords_35 : decode cX5_readsWords 35 = .ok (.iconst (-1), 1) := by decide +kernel
theorem dX5_readsWords_36 : decode cX5_readsWords 36 = .ok (.if_icmp .ne 5, 3) := by decide +kernel
theorem dX5_readsWords_39 : decode cX5_readsWords 39 = .ok (.iload_n 2, 1) := by decide +kernel
theorem dX5_readsWords_40 : decode cX5_readsWords 40 = .ok (.ireturn, 1) := by decide +kernel
theorem dX5_readsWords_41 : decode cX5_readsWords 41 = .ok (.iconst 0, 1) := by decide +kernel
theorem dX5_readsWords_42 : decode cX5_readsWords 42 = .ok (.istore_n 3, 1) := by decide +kernel
theorem dX5_readsWords_43 : decode cX5_readsWords 43 = .ok (.aload_n 0, 1) := by decide +kernel
theorem dX5_readsWords_44 : decode cX5_readsWords 44 = .ok (.iconst 1, 1) := by decide +kernel
theorem dX5_readsWords_45 : decode cX5_readsWords 45 = .ok (.iload_n 2, 1) := by decide +kernel
theorem dX5_readsWords_46 : decode cX5_readsWords 46 = .ok (.invokevirtual 82, 3) := by decide +kernel
theorem dX5_readsWords_49 : decode cX5_readsWords 49 = .ok (.iconst (-1), 1) := by decide +kernel
theorem dX5_readsWords_50 : decode cX5_readsWords 50 = .ok (.if_icmp .eq 37, 3) := by decide +kernel
theorem dX5_readsWords_53 : decode cX5_readsWords 53 = .ok (.iload_n 3, 1) := by decide +kernel
theorem dX5_readsWords_54 : decode cX5_readsWords 54 = .ok (.bipush 6, 2) := by decide +kernel
theorem dX5_readsWords_56 : decode cX5_readsWords 56 = .ok (.if_icmp .ne 5, 3) := by decide +kernel
theorem dX5_readsWords_59 : decode cX5_readsWords 59 = .ok (.iload_n 2, 1) := by decide +kernel
theorem dX5_readsWords_60 : decode cX5_readsWords 60 = .ok (.ireturn, 1) := by decide +kernel
theorem dX5_readsWords_61 : decode cX5_readsWords 61 = .ok (.aload_n 0, 1) := by decide +kernel
theorem dX5_readsWords_62 : decode cX5_readsWords 62 = .ok (.getfield 22, 3) := by decide +kernel
theorem dX5_readsWords_65 : decode cX5_readsWords 65 = .ok (.bipush 6, 2) := by decide +kernel
theorem dX5_readsWords_67 : decode cX5_readsWords 67 = .ok (.iload_n 1, 1) := by decide +kernel
theorem dX5_readsWords_68 : decode cX5_readsWords 68 = .ok (.imul, 1) := by decide +kernel
theorem dX5_readsWords_69 : decode cX5_readsWords 69 = .ok (.iload_n 3, 1) := by decide +kernel
theorem dX5_readsWords_70 : decode cX5_readsWords 70 = .ok (.iadd, 1) := by decide +kernel
theorem dX5_readsWords_71 : decode cX5_readsWords 71 = .ok (.aload_n 0, 1) := by decide +kernel
theorem dX5_readsWords_72 : decode cX5_readsWords 72 = .ok (.iconst 1, 1) := by decide +kernel
theorem dX5_readsWords_73 : decode cX5_readsWords 73 = .ok (.iload_n 2, 1) := by decide +kernel
theorem dX5_readsWords_74 : decode cX5_readsWords 74 = .ok (.invokevirtual 82, 3) := by decide +kernel
theorem dX5_readsWords_77 : decode cX5_readsWords 77 = .ok (.iastore, 1) := by decide +kernel
theorem dX5_readsWords_78 : decode cX5_readsWords 78 = .ok (.iinc 3 1, 3) := by decide +kernel
theorem dX5_readsWords_81 : decode cX5_readsWords 81 = .ok (.iinc 2 1, 3) := by decide +kernel
theorem dX5_readsWords_84 : decode cX5_readsWords 84 = .ok (.goto (-41), 3) := by decide +kernel
theorem dX5_readsWords_87 : decode cX5_readsWords 87 = .ok (.aload_n 0, 1) := by decide +kernel
theorem dX5_readsWords_88 : decode cX5_readsWords 88 = .ok (.getfield 25, 3) := by decide +kernel
theorem dX5_readsWords_91 : decode cX5_readsWords 91 = .ok (.iload_n 1, 1) := by decide +kernel
theorem dX5_readsWords_92 : decode cX5_readsWords 92 = .ok (.iload_n 3, 1) := by decide +kernel
theorem dX5_readsWords_93 : decode cX5_readsWords 93 = .ok (.iastore, 1) := by decide +kernel
theorem dX5_readsWords_94 : decode cX5_readsWords 94 = .ok (.iinc 1 1, 3) := by decide +kernel
theorem dX5_readsWords_97 : decode cX5_readsWords 97 = .ok (.iload_n 2, 1) := by decide +kernel
theorem dX5_readsWords_98 : decode cX5_readsWords 98 = .ok (.aload_n 0, 1) := by decide +kernel
theorem dX5_readsWords_99 : decode cX5_readsWords 99 = .ok (.getfield 13, 3) := by decide +kernel
theorem dX5_readsWords_102 : decode cX5_readsWords 102 = .ok (.iconst 1, 1) := by decide +kernel
theorem dX5_readsWords_103 : decode cX5_readsWords 103 = .ok (.iaload, 1) := by decide +kernel
theorem dX5_readsWords_104 : decode cX5_readsWords 104 = .ok (.if_icmp .ne 10, 3) := by decide +kernel
theorem dX5_readsWords_107 : decode cX5_readsWords 107 = .ok (.aload_n 0, 1) := by decide +kernel
theorem dX5_readsWords_108 : decode cX5_readsWords 108 = .ok (.iload_n 1, 1) := by decide +kernel
theorem dX5_readsWords_109 : decode cX5_readsWords 109 = .ok (.putfield 86, 3) := by decide +kernel
theorem dX5_readsWords_112 : decode cX5_readsWords 112 = .ok (.iconst (-1), 1) := by decide +kernel
theorem dX5_readsWords_113 : decode cX5_readsWords 113 = .ok (.ireturn, 1) := by decide +kernel
theorem dX5_readsWords_114 : decode cX5_readsWords 114 = .ok (.aload_n 0, 1) := by decide +kernel
theorem dX5_readsWords_115 : decode cX5_readsWords 115 = .ok (.getfield 16, 3) := by decide +kernel
theorem dX5_readsWords_118 : decode cX5_readsWords 118 = .ok (.bipush 60, 2) := by decide +kernel
theorem dX5_readsWords_120 : decode cX5_readsWords 120 = .ok (.iload_n 2, 1) := by decide +kernel
theorem dX5_readsWords_121 : decode cX5_readsWords 121 = .ok (.iadd, 1) := by decide +kernel
theorem dX5_readsWords_122 : decode cX5_readsWords 122 = .ok (.iaload, 1) := by decide +kernel
theorem dX5_readsWords_123 : decode cX5_readsWords 123 = .ok (.bipush 59, 2) := by decide +kernel
theorem dX5_readsWords_125 : decode cX5_readsWords 125 = .ok (.if_icmp .eq 5, 3) := by decide +kernel
theorem dX5_readsWords_128 : decode cX5_readsWords 128 = .ok (.iload_n 2, 1) := by decide +kernel
theorem dX5_readsWords_129 : decode cX5_readsWords 129 = .ok (.ireturn, 1) := by decide +kernel
theorem dX5_readsWords_130 : decode cX5_readsWords 130 = .ok (.iinc 2 1, 3) := by decide +kernel
theorem dX5_readsWords_133 : decode cX5_readsWords 133 = .ok (.goto (-124), 3) := by decide +kernel
theorem dX5_readsWords_136 : decode cX5_readsWords 136 = .ok (.iconst (-1), 1) := by decide +kernel
theorem dX5_readsWords_137 : decode cX5_readsWords 137 = .ok (.ireturn, 1) := by decide +kernel
theorem dX5_faultOf_0 : decode cX5_faultOf 0 = .ok (.aload_n 0, 1) := by decide +kernel
theorem dX5_faultOf_1 : decode cX5_faultOf 1 = .ok (.invokevirtual 89, 3) := by decide +kernel
theorem dX5_faultOf_4 : decode cX5_faultOf 4 = .ok (.istore_n 2, 1) := by decide +kernel
theorem dX5_faultOf_5 : decode cX5_faultOf 5 = .ok (.aload_n 0, 1) := by decide +kernel
theorem dX5_faultOf_6 : decode cX5_faultOf 6 = .ok (.invokevirtual 93, 3) := by decide +kernel
theorem dX5_faultOf_9 : decode cX5_faultOf 9 = .ok (.istore_n 3, 1) := by decide +kernel
theorem dX5_faultOf_10 : decode cX5_faultOf 10 = .ok (.iload_n 1, 1) := by decide +kernel
theorem dX5_faultOf_11 : decode cX5_faultOf 11 = .ok (.ifCond .ne 7, 3) := by decide +kernel
theorem dX5_faultOf_14 : decode cX5_faultOf 14 = .ok (.iload_n 2, 1) := by decide +kernel
theorem dX5_faultOf_15 : decode cX5_faultOf 15 = .ok (.goto 4, 3) := by decide +kernel
theorem dX5_faultOf_18 : decode cX5_faultOf 18 = .ok (.iload_n 3, 1) := by decide +kernel
theorem dX5_faultOf_19 : decode cX5_faultOf 19 = .ok (.ireturn, 1) := by decide +kernel
theorem dX5_reads_0 : decode cX5_reads 0 = .ok (.aload_n 0, 1) := by decide +kernel
theorem dX5_reads_1 : decode cX5_reads 1 = .ok (.iconst 0, 1) := by decide +kernel
theorem dX5_reads_2 : decode cX5_reads 2 = .ok (.invokevirtual 96, 3) := by decide +kernel
theorem dX5_reads_5 : decode cX5_reads 5 = .ok (.istore_n 1, 1) := by decide +kernel
theorem dX5_reads_6 : decode cX5_reads 6 = .ok (.return_, 1) := by decide +kernel
theorem dX5_fault_0 : decode cX5_fault 0 = .ok (.iload_n 1, 1) := by decide +kernel
theorem dX5_fault_1 : decode cX5_fault 1 = .ok (.iconst 0, 1) := by decide +kernel
theorem dX5_fault_2 : decode cX5_fault 2 = .ok (.iconst 1, 1) := by decide +kernel
theorem dX5_fault_3 : decode cX5_fault 3 = .ok (.invokestatic 75, 3) := by decide +kernel
theorem dX5_fault_6 : decode cX5_fault 6 = .ok (.ifCond .eq 11, 3) := by decide +kernel
theorem dX5_fault_9 : decode cX5_fault 9 = .ok (.aload_n 0, 1) := by decide +kernel
theorem dX5_fault_10 : decode cX5_fault 10 = .ok (.iload_n 1, 1) := by decide +kernel
theorem dX5_fault_11 : decode cX5_fault 11 = .ok (.invokevirtual 96, 3) := by decide +kernel
theorem dX5_fault_14 : decode cX5_fault 14 = .ok (.goto 5, 3) := by decide +kernel
theorem dX5_fault_17 : decode cX5_fault 17 = .ok (.bipush (-2), 2) := by decide +kernel
theorem dX5_fault_19 : decode cX5_fault 19 = .ok (.ireturn, 1) := by decide +kernel
theorem dX5_isCell_0 : decode cX5_isCell 0 = .ok (.aload_n 0, 1) := by decide +kernel
theorem dX5_isCell_1 : decode cX5_isCell 1 = .ok (.invokevirtual 100, 3) := by decide +kernel
theorem dX5_isCell_4 : decode cX5_isCell 4 = .ok (.iload_n 1, 1) := by decide +kernel
theorem dX5_isCell_5 : decode cX5_isCell 5 = .ok (.iconst 0, 1) := by decide +kernel
theorem dX5_isCell_6 : decode cX5_isCell 6 = .ok (.aload_n 0, 1) := by decide +kernel
theorem dX5_isCell_7 : decode cX5_isCell 7 = .ok (.getfield 79, 3) := by decide +kernel
theorem dX5_isCell_10 : decode cX5_isCell 10 = .ok (.iconst 1, 1) := by decide +kernel
theorem dX5_isCell_11 : decode cX5_isCell 11 = .ok (.isub, 1) := by decide +kernel
theorem dX5_isCell_12 : decode cX5_isCell 12 = .ok (.invokestatic 75, 3) := by decide +kernel
theorem dX5_isCell_15 : decode cX5_isCell 15 = .ok (.ireturn, 1) := by decide +kernel
theorem dX5_isWord_0 : decode cX5_isWord 0 = .ok (.aload_n 0, 1) := by decide +kernel
theorem dX5_isWord_1 : decode cX5_isWord 1 = .ok (.invokevirtual 100, 3) := by decide +kernel
theorem dX5_isWord_4 : decode cX5_isWord 4 = .ok (.iload_n 1, 1) := by decide +kernel
theorem dX5_isWord_5 : decode cX5_isWord 5 = .ok (.iconst 0, 1) := by decide +kernel
theorem dX5_isWord_6 : decode cX5_isWord 6 = .ok (.aload_n 0, 1) := by decide +kernel
theorem dX5_isWord_7 : decode cX5_isWord 7 = .ok (.getfield 86, 3) := by decide +kernel
theorem dX5_isWord_10 : decode cX5_isWord 10 = .ok (.iconst 1, 1) := by decide +kernel
theorem dX5_isWord_11 : decode cX5_isWord 11 = .ok (.isub, 1) := by decide +kernel
theorem dX5_isWord_12 : decode cX5_isWord 12 = .ok (.invokestatic 75, 3) := by decide +kernel
theorem dX5_isWord_15 : decode cX5_isWord 15 = .ok (.ireturn, 1) := by decide +kernel
theorem dX5_sign_0 : decode cX5_sign 0 = .ok (.iload_n 1, 1) := by decide +kernel
theorem dX5_sign_1 : decode cX5_sign 1 = .ok (.iconst 0, 1) := by decide +kernel
theorem dX5_sign_2 : decode cX5_sign 2 = .ok (.bipush 9, 2) := by decide +kernel
theorem dX5_sign_4 : decode cX5_sign 4 = .ok (.invokestatic 75, 3) := by decide +kernel
theorem dX5_sign_7 : decode cX5_sign 7 = .ok (.ifCond .eq 13, 3) := by decide +kernel
theorem dX5_sign_10 : decode cX5_sign 10 = .ok (.iload_n 2, 1) := by decide +kernel
theorem dX5_sign_11 : decode cX5_sign 11 = .ok (.iconst 1, 1) := by decide +kernel
theorem dX5_sign_12 : decode cX5_sign 12 = .ok (.bipush 63, 2) := by decide +kernel
theorem dX5_sign_14 : decode cX5_sign 14 = .ok (.invokestatic 75, 3) := by decide +kernel
theorem dX5_sign_17 : decode cX5_sign 17 = .ok (.ifCond .ne 6, 3) := by decide +kernel
theorem dX5_sign_20 : decode cX5_sign 20 = .ok (.bipush (-2), 2) := by decide +kernel
theorem dX5_sign_22 : decode cX5_sign 22 = .ok (.ireturn, 1) := by decide +kernel
theorem dX5_sign_23 : decode cX5_sign 23 = .ok (.aload_n 0, 1) := by decide +kernel
theorem dX5_sign_24 : decode cX5_sign 24 = .ok (.getfield 7, 3) := by decide +kernel
theorem dX5_sign_27 : decode cX5_sign 27 = .ok (.iload_n 1, 1) := by decide +kernel
theorem dX5_sign_28 : decode cX5_sign 28 = .ok (.iaload, 1) := by decide +kernel
theorem dX5_sign_29 : decode cX5_sign 29 = .ok (.istore_n 3, 1) := by decide +kernel
theorem dX5_sign_30 : decode cX5_sign 30 = .ok (.aload_n 0, 1) := by decide +kernel
theorem dX5_sign_31 : decode cX5_sign 31 = .ok (.getfield 7, 3) := by decide +kernel
theorem dX5_sign_34 : decode cX5_sign 34 = .ok (.iload_n 1, 1) := by decide +kernel
theorem dX5_sign_35 : decode cX5_sign 35 = .ok (.iload_n 2, 1) := by decide +kernel
theorem dX5_sign_36 : decode cX5_sign 36 = .ok (.iastore, 1) := by decide +kernel
theorem dX5_sign_37 : decode cX5_sign 37 = .ok (.iload_n 3, 1) := by decide +kernel
theorem dX5_sign_38 : decode cX5_sign 38 = .ok (.ireturn, 1) := by decide +kernel
theorem dX5_read_0 : decode cX5_read 0 = .ok (.iload_n 1, 1) := by decide +kernel
theorem dX5_read_1 : decode cX5_read 1 = .ok (.invokestatic 103, 3) := by decide +kernel
theorem dX5_read_4 : decode cX5_read 4 = .ok (.ifCond .ne 6, 3) := by decide +kernel
theorem dX5_read_7 : decode cX5_read 7 = .ok (.bipush (-2), 2) := by decide +kernel
theorem dX5_read_9 : decode cX5_read 9 = .ok (.ireturn, 1) := by decide +kernel
theorem dX5_read_10 : decode cX5_read 10 = .ok (.aload_n 0, 1) := by decide +kernel
theorem dX5_read_11 : decode cX5_read 11 = .ok (.getfield 52, 3) := by decide +kernel
theorem dX5_read_14 : decode cX5_read 14 = .ok (.iload_n 1, 1) := by decide +kernel
theorem dX5_read_15 : decode cX5_read 15 = .ok (.baload, 1) := by decide +kernel
theorem dX5_read_16 : decode cX5_read 16 = .ok (.ifCond .ne 9, 3) := by decide +kernel
theorem dX5_read_19 : decode cX5_read 19 = .ok (.aload_n 0, 1) := by decide +kernel
theorem dX5_read_20 : decode cX5_read 20 = .ok (.iconst 1, 1) := by decide +kernel
theorem dX5_read_21 : decode cX5_read 21 = .ok (.invokevirtual 107, 3) := by decide +kernel
theorem dX5_read_24 : decode cX5_read 24 = .ok (.ireturn, 1) := by decide +kernel
theorem dX5_read_25 : decode cX5_read 25 = .ok (.iconst 0, 1) := by decide +kernel
theorem dX5_read_26 : decode cX5_read 26 = .ok (.istore_n 2, 1) := by decide +kernel
theorem dX5_read_27 : decode cX5_read 27 = .ok (.iload_n 2, 1) := by decide +kernel
theorem dX5_read_28 : decode cX5_read 28 = .ok (.aload_n 0, 1) := by decide +kernel
theorem dX5_read_29 : decode cX5_read 29 = .ok (.getfield 59, 3) := by decide +kernel
theorem dX5_read_32 : decode cX5_read 32 = .ok (.iload_n 1, 1) := by decide +kernel
theorem dX5_read_33 : decode cX5_read 33 = .ok (.iaload, 1) := by decide +kernel
theorem dX5_read_34 : decode cX5_read 34 = .ok (.if_icmp .ge 52, 3) := by decide +kernel
theorem dX5_read_37 : decode cX5_read 37 = .ok (.iload_n 2, 1) := by decide +kernel
theorem dX5_read_38 : decode cX5_read 38 = .ok (.bipush 10, 2) := by decide +kernel
theorem dX5_read_40 : decode cX5_read 40 = .ok (.if_icmp .ge 46, 3) := by decide +kernel
theorem dX5_read_43 : decode cX5_read 43 = .ok (.aload_n 0, 1) := by decide +kernel
theorem dX5_read_44 : decode cX5_read 44 = .ok (.getfield 62, 3) := by decide +kernel
theorem dX5_read_47 : decode cX5_read 47 = .ok (.bipush 48, 2) := by decide +kernel
theorem dX5_read_49 : decode cX5_read 49 = .ok (.iload_n 1, 1) := by decide +kernel
theorem dX5_read_50 : decode cX5_read 50 = .ok (.imul, 1) := by decide +kernel
theorem dX5_read_51 : decode cX5_read 51 = .ok (.iload_n 2, 1) := by decide +kernel
theorem dX5_read_52 : decode cX5_read 52 = .ok (.iadd, 1) := by decide +kernel
theorem dX5_read_53 : decode cX5_read 53 = .ok (.iaload, 1) := by decide +kernel
theorem dX5_read_54 : decode cX5_read 54 = .ok (.iconst 1, 1) := by decide +kernel
theorem dX5_read_55 : decode cX5_read 55 = .ok (.bipush 63, 2) := by decide +kernel
theorem dX5_read_57 : decode cX5_read 57 = .ok (.invokestatic 75, 3) := by decide +kernel
theorem dX5_read_60 : decode cX5_read 60 = .ok (.ifCond .eq 26, 3) := by decide +kernel
theorem dX5_read_63 : decode cX5_read 63 = .ok (.aload_n 0, 1) := by decide +kernel
theorem dX5_read_64 : decode cX5_read 64 = .ok (.getfield 7, 3) := by decide +kernel
theorem dX5_read_67 : decode cX5_read 67 = .ok (.iload_n 2, 1) := by decide +kernel
theorem dX5_read_68 : decode cX5_read 68 = .ok (.aload_n 0, 1) := by decide +kernel
theorem dX5_read_69 : decode cX5_read 69 = .ok (.getfield 62, 3) := by decide +kernel
theorem dX5_read_72 : decode cX5_read 72 = .ok (.bipush 48, 2) := by decide +kernel
theorem dX5_read_74 : decode cX5_read 74 = .ok (.iload_n 1, 1) := by decide +kernel
theorem dX5_read_75 : decode cX5_read 75 = .ok (.imul, 1) := by decide +kernel
theorem dX5_read_76 : decode cX5_read 76 = .ok (.iload_n 2, 1) := by decide +kernel
theorem dX5_read_77 : decode cX5_read 77 = .ok (.iadd, 1) := by decide +kernel
theorem dX5_read_78 : decode cX5_read 78 = .ok (.iaload, 1) := by decide +kernel
theorem dX5_read_79 : decode cX5_read 79 = .ok (.iastore, 1) := by decide +kernel
theorem dX5_read_80 : decode cX5_read 80 = .ok (.iinc 2 1, 3) := by decide +kernel
theorem dX5_read_83 : decode cX5_read 83 = .ok (.goto (-56), 3) := by decide +kernel
theorem dX5_read_86 : decode cX5_read 86 = .ok (.iload_n 2, 1) := by decide +kernel
theorem dX5_read_87 : decode cX5_read 87 = .ok (.ireturn, 1) := by decide +kernel
theorem dX5_slip_0 : decode cX5_slip 0 = .ok (.iload_n 1, 1) := by decide +kernel
theorem dX5_slip_1 : decode cX5_slip 1 = .ok (.iconst 0, 1) := by decide +kernel
theorem dX5_slip_2 : decode cX5_slip 2 = .ok (.bipush 23, 2) := by decide +kernel
theorem dX5_slip_4 : decode cX5_slip 4 = .ok (.invokestatic 75, 3) := by decide +kernel
theorem dX5_slip_7 : decode cX5_slip 7 = .ok (.ifCond .eq 21, 3) := by decide +kernel
theorem dX5_slip_10 : decode cX5_slip 10 = .ok (.iload_n 2, 1) := by decide +kernel
theorem dX5_slip_11 : decode cX5_slip 11 = .ok (.iconst 0, 1) := by decide +kernel
theorem dX5_slip_12 : decode cX5_slip 12 = .ok (.iconst 5, 1) := by decide +kernel
theorem dX5_slip_13 : decode cX5_slip 13 = .ok (.invokestatic 75, 3) := by decide +kernel
theorem dX5_slip_16 : decode cX5_slip 16 = .ok (.ifCond .eq 12, 3) := by decide +kernel
theorem dX5_slip_19 : decode cX5_slip 19 = .ok (.iload_n 3, 1) := by decide +kernel
theorem dX5_slip_20 : decode cX5_slip 20 = .ok (.iconst 0, 1) := by decide +kernel
theorem dX5_slip_21 : decode cX5_slip 21 = .ok (.iconst 1, 1) := by decide +kernel
theorem dX5_slip_22 : decode cX5_slip 22 = .ok (.invokestatic 75, 3) := by decide +kernel
theorem dX5_slip_25 : decode cX5_slip 25 = .ok (.ifCond .ne 6, 3) := by decide +kernel
theorem dX5_slip_28 : decode cX5_slip 28 = .ok (.bipush (-2), 2) := by decide +kernel
theorem dX5_slip_30 : decode cX5_slip 30 = .ok (.ireturn, 1) := by decide +kernel
theorem dX5_slip_31 : decode cX5_slip 31 = .ok (.aload_n 0, 1) := by decide +kernel
theorem dX5_slip_32 : decode cX5_slip 32 = .ok (.getfield 110, 3) := by decide +kernel
theorem dX5_slip_35 : decode cX5_slip 35 = .ok (.bipush 12, 2) := by decide +kernel
theorem dX5_slip_37 : decode cX5_slip 37 = .ok (.if_icmp .ne 6, 3) := by decide +kernel
theorem dX5_slip_40 : decode cX5_slip 40 = .ok (.bipush (-4), 2) := by decide +kernel
theorem dX5_slip_42 : decode cX5_slip 42 = .ok (.ireturn, 1) := by decide +kernel
theorem dX5_slip_43 : decode cX5_slip 43 = .ok (.aload_n 0, 1) := by decide +kernel
theorem dX5_slip_44 : decode cX5_slip 44 = .ok (.getfield 31, 3) := by decide +kernel
theorem dX5_slip_47 : decode cX5_slip 47 = .ok (.aload_n 0, 1) := by decide +kernel
theorem dX5_slip_48 : decode cX5_slip 48 = .ok (.getfield 110, 3) := by decide +kernel
theorem dX5_slip_51 : decode cX5_slip 51 = .ok (.iload_n 1, 1) := by decide +kernel
theorem dX5_slip_52 : decode cX5_slip 52 = .ok (.iastore, 1) := by decide +kernel
theorem dX5_slip_53 : decode cX5_slip 53 = .ok (.aload_n 0, 1) := by decide +kernel
theorem dX5_slip_54 : decode cX5_slip 54 = .ok (.getfield 34, 3) := by decide +kernel
theorem dX5_slip_57 : decode cX5_slip 57 = .ok (.aload_n 0, 1) := by decide +kernel
theorem dX5_slip_58 : decode cX5_slip 58 = .ok (.getfield 110, 3) := by decide +kernel
theorem dX5_slip_61 : decode cX5_slip 61 = .ok (.iload_n 2, 1) := by decide +kernel
theorem dX5_slip_62 : decode cX5_slip 62 = .ok (.iastore, 1) := by decide +kernel
theorem dX5_slip_63 : decode cX5_slip 63 = .ok (.aload_n 0, 1) := by decide +kernel
theorem dX5_slip_64 : decode cX5_slip 64 = .ok (.getfield 37, 3) := by decide +kernel
theorem dX5_slip_67 : decode cX5_slip 67 = .ok (.aload_n 0, 1) := by decide +kernel
theorem dX5_slip_68 : decode cX5_slip 68 = .ok (.getfield 110, 3) := by decide +kernel
theorem dX5_slip_71 : decode cX5_slip 71 = .ok (.iload_n 3, 1) := by decide +kernel
theorem dX5_slip_72 : decode cX5_slip 72 = .ok (.iastore, 1) := by decide +kernel
theorem dX5_slip_73 : decode cX5_slip 73 = .ok (.aload_n 0, 1) := by decide +kernel
theorem dX5_slip_74 : decode cX5_slip 74 = .ok (.dup, 1) := by decide +kernel
theorem dX5_slip_75 : decode cX5_slip 75 = .ok (.getfield 110, 3) := by decide +kernel
theorem dX5_slip_78 : decode cX5_slip 78 = .ok (.iconst 1, 1) := by decide +kernel
theorem dX5_slip_79 : decode cX5_slip 79 = .ok (.iadd, 1) := by decide +kernel
theorem dX5_slip_80 : decode cX5_slip 80 = .ok (.putfield 110, 3) := by decide +kernel
theorem dX5_slip_83 : decode cX5_slip 83 = .ok (.aload_n 0, 1) := by decide +kernel
theorem dX5_slip_84 : decode cX5_slip 84 = .ok (.getfield 110, 3) := by decide +kernel
theorem dX5_slip_87 : decode cX5_slip 87 = .ok (.ireturn, 1) := by decide +kernel
theorem dX5_undo_0 : decode cX5_undo 0 = .ok (.aload_n 0, 1) := by decide +kernel
theorem dX5_undo_1 : decode cX5_undo 1 = .ok (.getfield 110, 3) := by decide +kernel
theorem dX5_undo_4 : decode cX5_undo 4 = .ok (.ifCond .ne 6, 3) := by decide +kernel
theorem dX5_undo_7 : decode cX5_undo 7 = .ok (.bipush (-3), 2) := by decide +kernel
theorem dX5_undo_9 : decode cX5_undo 9 = .ok (.ireturn, 1) := by decide +kernel
theorem dX5_undo_10 : decode cX5_undo 10 = .ok (.aload_n 0, 1) := by decide +kernel
theorem dX5_undo_11 : decode cX5_undo 11 = .ok (.dup, 1) := by decide +kernel
theorem dX5_undo_12 : decode cX5_undo 12 = .ok (.getfield 110, 3) := by decide +kernel
theorem dX5_undo_15 : decode cX5_undo 15 = .ok (.iconst 1, 1) := by decide +kernel
theorem dX5_undo_16 : decode cX5_undo 16 = .ok (.isub, 1) := by decide +kernel
theorem dX5_undo_17 : decode cX5_undo 17 = .ok (.putfield 110, 3) := by decide +kernel
theorem dX5_undo_20 : decode cX5_undo 20 = .ok (.aload_n 0, 1) := by decide +kernel
theorem dX5_undo_21 : decode cX5_undo 21 = .ok (.getfield 110, 3) := by decide +kernel
theorem dX5_undo_24 : decode cX5_undo 24 = .ok (.ireturn, 1) := by decide +kernel
theorem dX5_set_0 : decode cX5_set 0 = .ok (.iload_n 1, 1) := by decide +kernel
theorem dX5_set_1 : decode cX5_set 1 = .ok (.iconst 0, 1) := by decide +kernel
theorem dX5_set_2 : decode cX5_set 2 = .ok (.iconst 1, 1) := by decide +kernel
theorem dX5_set_3 : decode cX5_set 3 = .ok (.invokestatic 75, 3) := by decide +kernel
theorem dX5_set_6 : decode cX5_set 6 = .ok (.ifCond .eq 13, 3) := by decide +kernel
theorem dX5_set_9 : decode cX5_set 9 = .ok (.iload_n 2, 1) := by decide +kernel
theorem dX5_set_10 : decode cX5_set 10 = .ok (.iconst 0, 1) := by decide +kernel
theorem dX5_set_11 : decode cX5_set 11 = .ok (.bipush 9, 2) := by decide +kernel
theorem dX5_set_13 : decode cX5_set 13 = .ok (.invokestatic 75, 3) := by decide +kernel
theorem dX5_set_16 : decode cX5_set 16 = .ok (.ifCond .ne 6, 3) := by decide +kernel
theorem dX5_set_19 : decode cX5_set 19 = .ok (.bipush (-2), 2) := by decide +kernel
theorem dX5_set_21 : decode cX5_set 21 = .ok (.ireturn, 1) := by decide +kernel
theorem dX5_set_22 : decode cX5_set 22 = .ok (.iload_n 1, 1) := by decide +kernel
theorem dX5_set_23 : decode cX5_set 23 = .ok (.ifCond .ne 10, 3) := by decide +kernel
theorem dX5_set_26 : decode cX5_set 26 = .ok (.aload_n 0, 1) := by decide +kernel
theorem dX5_set_27 : decode cX5_set 27 = .ok (.getfield 68, 3) := by decide +kernel
theorem dX5_set_30 : decode cX5_set 30 = .ok (.goto 7, 3) := by decide +kernel
theorem dX5_set_33 : decode cX5_set 33 = .ok (.aload_n 0, 1) := by decide +kernel
theorem dX5_set_34 : decode cX5_set 34 = .ok (.getfield 72, 3) := by decide +kernel
theorem dX5_set_37 : decode cX5_set 37 = .ok (.istore_n 3, 1) := by decide +kernel
theorem dX5_set_38 : decode cX5_set 38 = .ok (.aload_n 0, 1) := by decide +kernel
theorem dX5_set_39 : decode cX5_set 39 = .ok (.iload_n 1, 1) := by decide +kernel
theorem dX5_set_40 : decode cX5_set 40 = .ok (.ifCond .ne 7, 3) := by decide +kernel
theorem dX5_set_43 : decode cX5_set 43 = .ok (.iload_n 2, 1) := by decide +kernel
theorem dX5_set_44 : decode cX5_set 44 = .ok (.goto 7, 3) := by decide +kernel
theorem dX5_set_47 : decode cX5_set 47 = .ok (.aload_n 0, 1) := by decide +kernel
theorem dX5_set_48 : decode cX5_set 48 = .ok (.getfield 68, 3) := by decide +kernel
theorem dX5_set_51 : decode cX5_set 51 = .ok (.putfield 68, 3) := by decide +kernel
theorem dX5_set_54 : decode cX5_set 54 = .ok (.aload_n 0, 1) := by decide +kernel
theorem dX5_set_55 : decode cX5_set 55 = .ok (.iload_n 1, 1) := by decide +kernel
theorem dX5_set_56 : decode cX5_set 56 = .ok (.iconst 1, 1) := by decide +kernel
theorem dX5_set_57 : decode cX5_set 57 = .ok (.if_icmp .ne 7, 3) := by decide +kernel
theorem dX5_set_60 : decode cX5_set 60 = .ok (.iload_n 2, 1) := by decide +kernel
theorem dX5_set_61 : decode cX5_set 61 = .ok (.goto 7, 3) := by decide +kernel
theorem dX5_set_64 : decode cX5_set 64 = .ok (.aload_n 0, 1) := by decide +kernel
theorem dX5_set_65 : decode cX5_set 65 = .ok (.getfield 72, 3) := by decide +kernel
theorem dX5_set_68 : decode cX5_set 68 = .ok (.putfield 72, 3) := by decide +kernel
theorem dX5_set_71 : decode cX5_set 71 = .ok (.iload_n 3, 1) := by decide +kernel
theorem dX5_set_72 : decode cX5_set 72 = .ok (.ireturn, 1) := by decide +kernel
theorem dX5_often_0 : decode cX5_often 0 = .ok (.iload_n 1, 1) := by decide +kernel
theorem dX5_often_1 : decode cX5_often 1 = .ok (.iconst 0, 1) := by decide +kernel
theorem dX5_often_2 : decode cX5_often 2 = .ok (.bipush 7, 2) := by decide +kernel
theorem dX5_often_4 : decode cX5_often 4 = .ok (.invokestatic 75, 3) := by decide +kernel
theorem dX5_often_7 : decode cX5_often 7 = .ok (.ifCond .eq 13, 3) := by decide +kernel
theorem dX5_often_10 : decode cX5_often 10 = .ok (.iload_n 2, 1) := by decide +kernel
theorem dX5_often_11 : decode cX5_often 11 = .ok (.iconst 0, 1) := by decide +kernel
theorem dX5_often_12 : decode cX5_often 12 = .ok (.bipush 99, 2) := by decide +kernel
theorem dX5_often_14 : decode cX5_often 14 = .ok (.invokestatic 75, 3) := by decide +kernel
theorem dX5_often_17 : decode cX5_often 17 = .ok (.ifCond .ne 6, 3) := by decide +kernel
theorem dX5_often_20 : decode cX5_often 20 = .ok (.bipush (-2), 2) := by decide +kernel
theorem dX5_often_22 : decode cX5_often 22 = .ok (.ireturn, 1) := by decide +kernel
theorem dX5_often_23 : decode cX5_often 23 = .ok (.aload_n 0, 1) := by decide +kernel
theorem dX5_often_24 : decode cX5_often 24 = .ok (.getfield 28, 3) := by decide +kernel
theorem dX5_often_27 : decode cX5_often 27 = .ok (.iload_n 1, 1) := by decide +kernel
theorem dX5_often_28 : decode cX5_often 28 = .ok (.iaload, 1) := by decide +kernel
theorem dX5_often_29 : decode cX5_often 29 = .ok (.istore_n 3, 1) := by decide +kernel
theorem dX5_often_30 : decode cX5_often 30 = .ok (.aload_n 0, 1) := by decide +kernel
theorem dX5_often_31 : decode cX5_often 31 = .ok (.getfield 28, 3) := by decide +kernel
theorem dX5_often_34 : decode cX5_often 34 = .ok (.iload_n 1, 1) := by decide +kernel
theorem dX5_often_35 : decode cX5_often 35 = .ok (.iload_n 2, 1) := by decide +kernel
theorem dX5_often_36 : decode cX5_often 36 = .ok (.iastore, 1) := by decide +kernel
theorem dX5_often_37 : decode cX5_often 37 = .ok (.iload_n 3, 1) := by decide +kernel
theorem dX5_often_38 : decode cX5_often 38 = .ok (.ireturn, 1) := by decide +kernel
theorem dX5_signOf_0 : decode cX5_signOf 0 = .ok (.iload_n 1, 1) := by decide +kernel
theorem dX5_signOf_1 : decode cX5_signOf 1 = .ok (.bipush 10, 2) := by decide +kernel
theorem dX5_signOf_3 : decode cX5_signOf 3 = .ok (.if_icmp .ne 7, 3) := by decide +kernel
theorem dX5_signOf_6 : decode cX5_signOf 6 = .ok (.iconst 0, 1) := by decide +kernel
theorem dX5_signOf_7 : decode cX5_signOf 7 = .ok (.goto 9, 3) := by decide +kernel
theorem dX5_signOf_10 : decode cX5_signOf 10 = .ok (.aload_n 0, 1) := by decide +kernel
theorem dX5_signOf_11 : decode cX5_signOf 11 = .ok (.getfield 7, 3) := by decide +kernel
theorem dX5_signOf_14 : decode cX5_signOf 14 = .ok (.iload_n 1, 1) := by decide +kernel
theorem dX5_signOf_15 : decode cX5_signOf 15 = .ok (.iaload, 1) := by decide +kernel
theorem dX5_signOf_16 : decode cX5_signOf 16 = .ok (.ireturn, 1) := by decide +kernel
theorem dX5_cellOf_0 : decode cX5_cellOf 0 = .ok (.aload_n 0, 1) := by decide +kernel
theorem dX5_cellOf_1 : decode cX5_cellOf 1 = .ok (.aload_n 0, 1) := by decide +kernel
theorem dX5_cellOf_2 : decode cX5_cellOf 2 = .ok (.getfield 19, 3) := by decide +kernel
theorem dX5_cellOf_5 : decode cX5_cellOf 5 = .ok (.iload_n 1, 1) := by decide +kernel
theorem dX5_cellOf_6 : decode cX5_cellOf 6 = .ok (.iaload, 1) := by decide +kernel
theorem dX5_cellOf_7 : decode cX5_cellOf 7 = .ok (.invokevirtual 113, 3) := by decide +kernel
theorem dX5_cellOf_10 : decode cX5_cellOf 10 = .ok (.istore_n 2, 1) := by decide +kernel
theorem dX5_cellOf_11 : decode cX5_cellOf 11 = .ok (.iconst 0, 1) := by decide +kernel
theorem dX5_cellOf_12 : decode cX5_cellOf 12 = .ok (.istore_n 3, 1) := by decide +kernel
theorem dX5_cellOf_13 : decode cX5_cellOf 13 = .ok (.iload_n 3, 1) := by decide +kernel
theorem dX5_cellOf_14 : decode cX5_cellOf 14 = .ok (.aload_n 0, 1) := by decide +kernel
theorem dX5_cellOf_15 : decode cX5_cellOf 15 = .ok (.getfield 110, 3) := by decide +kernel
theorem dX5_cellOf_18 : decode cX5_cellOf 18 = .ok (.if_icmp .ge 55, 3) := by decide +kernel
theorem dX5_cellOf_21 : decode cX5_cellOf 21 = .ok (.aload_n 0, 1) := by decide +kernel
theorem dX5_cellOf_22 : decode cX5_cellOf 22 = .ok (.getfield 31, 3) := by decide +kernel
theorem dX5_cellOf_25 : decode cX5_cellOf 25 = .ok (.iload_n 3, 1) := by decide +kernel
theorem dX5_cellOf_26 : decode cX5_cellOf 26 = .ok (.iaload, 1) := by decide +kernel
theorem dX5_cellOf_27 : decode cX5_cellOf 27 = .ok (.iload_n 1, 1) := by decide +kernel
theorem dX5_cellOf_28 : decode cX5_cellOf 28 = .ok (.if_icmp .ne 39, 3) := by decide +kernel
theorem dX5_cellOf_31 : decode cX5_cellOf 31 = .ok (.aload_n 0, 1) := by decide +kernel
theorem dX5_cellOf_32 : decode cX5_cellOf 32 = .ok (.getfield 37, 3) := by decide +kernel
theorem dX5_cellOf_35 : decode cX5_cellOf 35 = .ok (.iload_n 3, 1) := by decide +kernel
theorem dX5_cellOf_36 : decode cX5_cellOf 36 = .ok (.iaload, 1) := by decide +kernel
theorem dX5_cellOf_37 : decode cX5_cellOf 37 = .ok (.iconst 1, 1) := by decide +kernel
theorem dX5_cellOf_38 : decode cX5_cellOf 38 = .ok (.if_icmp .ne 16, 3) := by decide +kernel
theorem dX5_cellOf_41 : decode cX5_cellOf 41 = .ok (.iload_n 2, 1) := by decide +kernel
theorem dX5_cellOf_42 : decode cX5_cellOf 42 = .ok (.iconst 1, 1) := by decide +kernel
theorem dX5_cellOf_43 : decode cX5_cellOf 43 = .ok (.aload_n 0, 1) := by decide +kernel
theorem dX5_cellOf_44 : decode cX5_cellOf 44 = .ok (.getfield 34, 3) := by decide +kernel
theorem dX5_cellOf_47 : decode cX5_cellOf 47 = .ok (.iload_n 3, 1) := by decide +kernel
theorem dX5_cellOf_48 : decode cX5_cellOf 48 = .ok (.iaload, 1) := by decide +kernel
theorem dX5_cellOf_49 : decode cX5_cellOf 49 = .ok (.ishl, 1) := by decide +kernel
theorem dX5_cellOf_50 : decode cX5_cellOf 50 = .ok (.ior, 1) := by decide +kernel
theorem dX5_cellOf_51 : decode cX5_cellOf 51 = .ok (.goto 15, 3) := by decide +kernel
theorem dX5_cellOf_54 : decode cX5_cellOf 54 = .ok (.iload_n 2, 1) := by decide +kernel
theorem dX5_cellOf_55 : decode cX5_cellOf 55 = .ok (.iconst 1, 1) := by decide +kernel
theorem dX5_cellOf_56 : decode cX5_cellOf 56 = .ok (.aload_n 0, 1) := by decide +kernel
theorem dX5_cellOf_57 : decode cX5_cellOf 57 = .ok (.getfield 34, 3) := by decide +kernel
theorem dX5_cellOf_60 : decode cX5_cellOf 60 = .ok (.iload_n 3, 1) := by decide +kernel
theorem dX5_cellOf_61 : decode cX5_cellOf 61 = .ok (.iaload, 1) := by decide +kernel
theorem dX5_cellOf_62 : decode cX5_cellOf 62 = .ok (.ishl, 1) := by decide +kernel
theorem dX5_cellOf_63 : decode cX5_cellOf 63 = .ok (.iconst (-1), 1) := by decide +kernel
theorem dX5_cellOf_64 : decode cX5_cellOf 64 = .ok (.ixor, 1) := by decide +kernel
theorem dX5_cellOf_65 : decode cX5_cellOf 65 = .ok (.iand, 1) := by decide +kernel
theorem dX5_cellOf_66 : decode cX5_cellOf 66 = .ok (.istore_n 2, 1) := by decide +kernel
theorem dX5_cellOf_67 : decode cX5_cellOf 67 = .ok (.iinc 3 1, 3) := by decide +kernel
theorem dX5_cellOf_70 : decode cX5_cellOf 70 = .ok (.goto (-57), 3) := by decide +kernel
theorem dX5_cellOf_73 : decode cX5_cellOf 73 = .ok (.iload_n 2, 1) := by decide +kernel
theorem dX5_cellOf_74 : decode cX5_cellOf 74 = .ok (.ireturn, 1) := by decide +kernel
theorem dX5_cell_0 : decode cX5_cell 0 = .ok (.aload_n 0, 1) := by decide +kernel
theorem dX5_cell_1 : decode cX5_cell 1 = .ok (.iload_n 1, 1) := by decide +kernel
theorem dX5_cell_2 : decode cX5_cell 2 = .ok (.invokevirtual 116, 3) := by decide +kernel
theorem dX5_cell_5 : decode cX5_cell 5 = .ok (.ifCond .eq 11, 3) := by decide +kernel
theorem dX5_cell_8 : decode cX5_cell 8 = .ok (.aload_n 0, 1) := by decide +kernel
theorem dX5_cell_9 : decode cX5_cell 9 = .ok (.iload_n 1, 1) := by decide +kernel
theorem dX5_cell_10 : decode cX5_cell 10 = .ok (.invokevirtual 119, 3) := by decide +kernel
theorem dX5_cell_13 : decode cX5_cell 13 = .ok (.goto 5, 3) := by decide +kernel
theorem dX5_cell_16 : decode cX5_cell 16 = .ok (.bipush (-2), 2) := by decide +kernel
theorem dX5_cell_18 : decode cX5_cell 18 = .ok (.ireturn, 1) := by decide +kernel
theorem dX5_readAs_0 : decode cX5_readAs 0 = .ok (.iconst 0, 1) := by decide +kernel
theorem dX5_readAs_1 : decode cX5_readAs 1 = .ok (.istore_n 2, 1) := by decide +kernel
theorem dX5_readAs_2 : decode cX5_readAs 2 = .ok (.iload_n 2, 1) := by decide +kernel
theorem dX5_readAs_3 : decode cX5_readAs 3 = .ok (.bipush 10, 2) := by decide +kernel
theorem dX5_readAs_5 : decode cX5_readAs 5 = .ok (.if_icmp .ge 21, 3) := by decide +kernel
theorem dX5_readAs_8 : decode cX5_readAs 8 = .ok (.aload_n 0, 1) := by decide +kernel
theorem dX5_readAs_9 : decode cX5_readAs 9 = .ok (.getfield 7, 3) := by decide +kernel
theorem dX5_readAs_12 : decode cX5_readAs 12 = .ok (.iload_n 2, 1) := by decide +kernel
theorem dX5_readAs_13 : decode cX5_readAs 13 = .ok (.iaload, 1) := by decide +kernel
theorem dX5_readAs_14 : decode cX5_readAs 14 = .ok (.iload_n 1, 1) := by decide +kernel
theorem dX5_readAs_15 : decode cX5_readAs 15 = .ok (.if_icmp .ne 5, 3) := by decide +kernel
theorem dX5_readAs_18 : decode cX5_readAs 18 = .ok (.iload_n 2, 1) := by decide +kernel
theorem dX5_readAs_19 : decode cX5_readAs 19 = .ok (.ireturn, 1) := by decide +kernel
theorem dX5_readAs_20 : decode cX5_readAs 20 = .ok (.iinc 2 1, 3) := by decide +kernel
theorem dX5_readAs_23 : decode cX5_readAs 23 = .ok (.goto (-21), 3) := by decide +kernel
theorem dX5_readAs_26 : decode cX5_readAs 26 = .ok (.iload_n 1, 1) := by decide +kernel
theorem dX5_readAs_27 : decode cX5_readAs 27 = .ok (.ifCond .ne 8, 3) := by decide +kernel
theorem dX5_readAs_30 : decode cX5_readAs 30 = .ok (.bipush 10, 2) := by decide +kernel
theorem dX5_readAs_32 : decode cX5_readAs 32 = .ok (.goto 4, 3) := by decide +kernel
theorem dX5_readAs_35 : decode cX5_readAs 35 = .ok (.iconst (-1), 1) := by decide +kernel
theorem dX5_readAs_36 : decode cX5_readAs 36 = .ok (.ireturn, 1) := by decide +kernel
theorem dX5_letter_0 : decode cX5_letter 0 = .ok (.aload_n 0, 1) := by decide +kernel
theorem dX5_letter_1 : decode cX5_letter 1 = .ok (.iload_n 1, 1) := by decide +kernel
theorem dX5_letter_2 : decode cX5_letter 2 = .ok (.invokevirtual 116, 3) := by decide +kernel
theorem dX5_letter_5 : decode cX5_letter 5 = .ok (.ifCond .eq 15, 3) := by decide +kernel
theorem dX5_letter_8 : decode cX5_letter 8 = .ok (.aload_n 0, 1) := by decide +kernel
theorem dX5_letter_9 : decode cX5_letter 9 = .ok (.aload_n 0, 1) := by decide +kernel
theorem dX5_letter_10 : decode cX5_letter 10 = .ok (.iload_n 1, 1) := by decide +kernel
theorem dX5_letter_11 : decode cX5_letter 11 = .ok (.invokevirtual 119, 3) := by decide +kernel
theorem dX5_letter_14 : decode cX5_letter 14 = .ok (.invokevirtual 122, 3) := by decide +kernel
theorem dX5_letter_17 : decode cX5_letter 17 = .ok (.goto 5, 3) := by decide +kernel
theorem dX5_letter_20 : decode cX5_letter 20 = .ok (.bipush (-2), 2) := by decide +kernel
theorem dX5_letter_22 : decode cX5_letter 22 = .ok (.ireturn, 1) := by decide +kernel
theorem dX5_judgedNow_0 : decode cX5_judgedNow 0 = .ok (.aload_n 0, 1) := by decide +kernel
theorem dX5_judgedNow_1 : decode cX5_judgedNow 1 = .ok (.invokevirtual 100, 3) := by decide +kernel
theorem dX5_judgedNow_4 : decode cX5_judgedNow 4 = .ok (.iconst 0, 1) := by decide +kernel
theorem dX5_judgedNow_5 : decode cX5_judgedNow 5 = .ok (.istore_n 1, 1) := by decide +kernel
theorem dX5_judgedNow_6 : decode cX5_judgedNow 6 = .ok (.iload_n 1, 1) := by decide +kernel
theorem dX5_judgedNow_7 : decode cX5_judgedNow 7 = .ok (.aload_n 0, 1) := by decide +kernel
theorem dX5_judgedNow_8 : decode cX5_judgedNow 8 = .ok (.getfield 79, 3) := by decide +kernel
theorem dX5_judgedNow_11 : decode cX5_judgedNow 11 = .ok (.if_icmp .ge 24, 3) := by decide +kernel
theorem dX5_judgedNow_14 : decode cX5_judgedNow 14 = .ok (.aload_n 0, 1) := by decide +kernel
theorem dX5_judgedNow_15 : decode cX5_judgedNow 15 = .ok (.aload_n 0, 1) := by decide +kernel
theorem dX5_judgedNow_16 : decode cX5_judgedNow 16 = .ok (.iload_n 1, 1) := by decide +kernel
theorem dX5_judgedNow_17 : decode cX5_judgedNow 17 = .ok (.invokevirtual 119, 3) := by decide +kernel
theorem dX5_judgedNow_20 : decode cX5_judgedNow 20 = .ok (.invokevirtual 122, 3) := by decide +kernel
theorem dX5_judgedNow_23 : decode cX5_judgedNow 23 = .ok (.iconst (-1), 1) := by decide +kernel
theorem dX5_judgedNow_24 : decode cX5_judgedNow 24 = .ok (.if_icmp .ne 5, 3) := by decide +kernel
theorem dX5_judgedNow_27 : decode cX5_judgedNow 27 = .ok (.iload_n 1, 1) := by decide +kernel
theorem dX5_judgedNow_28 : decode cX5_judgedNow 28 = .ok (.ireturn, 1) := by decide +kernel
theorem dX5_judgedNow_29 : decode cX5_judgedNow 29 = .ok (.iinc 1 1, 3) := by decide +kernel
theorem dX5_judgedNow_32 : decode cX5_judgedNow 32 = .ok (.goto (-26), 3) := by decide +kernel
theorem dX5_judgedNow_35 : decode cX5_judgedNow 35 = .ok (.iconst (-1), 1) := by decide +kernel
theorem dX5_judgedNow_36 : decode cX5_judgedNow 36 = .ok (.ireturn, 1) := by decide +kernel
theorem dX5_judged_0 : decode cX5_judged 0 = .ok (.aload_n 0, 1) := by decide +kernel
theorem dX5_judged_1 : decode cX5_judged 1 = .ok (.invokevirtual 125, 3) := by decide +kernel
theorem dX5_judged_4 : decode cX5_judged 4 = .ok (.ireturn, 1) := by decide +kernel
theorem dX5_turned_0 : decode cX5_turned 0 = .ok (.iload_n 0, 1) := by decide +kernel
theorem dX5_turned_1 : decode cX5_turned 1 = .ok (.bipush 7, 2) := by decide +kernel
theorem dX5_turned_3 : decode cX5_turned 3 = .ok (.iand, 1) := by decide +kernel
theorem dX5_turned_4 : decode cX5_turned 4 = .ok (.iconst 3, 1) := by decide +kernel
theorem dX5_turned_5 : decode cX5_turned 5 = .ok (.ishl, 1) := by decide +kernel
theorem dX5_turned_6 : decode cX5_turned 6 = .ok (.iload_n 0, 1) := by decide +kernel
theorem dX5_turned_7 : decode cX5_turned 7 = .ok (.iconst 3, 1) := by decide +kernel
theorem dX5_turned_8 : decode cX5_turned 8 = .ok (.ishr, 1) := by decide +kernel
theorem dX5_turned_9 : decode cX5_turned 9 = .ok (.ior, 1) := by decide +kernel
theorem dX5_turned_10 : decode cX5_turned 10 = .ok (.ireturn, 1) := by decide +kernel
theorem dX5_wrongOf_0 : decode cX5_wrongOf 0 = .ok (.aload_n 0, 1) := by decide +kernel
theorem dX5_wrongOf_1 : decode cX5_wrongOf 1 = .ok (.aload_n 0, 1) := by decide +kernel
theorem dX5_wrongOf_2 : decode cX5_wrongOf 2 = .ok (.aload_n 0, 1) := by decide +kernel
theorem dX5_wrongOf_3 : decode cX5_wrongOf 3 = .ok (.getfield 79, 3) := by decide +kernel
theorem dX5_wrongOf_6 : decode cX5_wrongOf 6 = .ok (.iconst 1, 1) := by decide +kernel
theorem dX5_wrongOf_7 : decode cX5_wrongOf 7 = .ok (.isub, 1) := by decide +kernel
theorem dX5_wrongOf_8 : decode cX5_wrongOf 8 = .ok (.iload_n 1, 1) := by decide +kernel
theorem dX5_wrongOf_9 : decode cX5_wrongOf 9 = .ok (.isub, 1) := by decide +kernel
theorem dX5_wrongOf_10 : decode cX5_wrongOf 10 = .ok (.invokevirtual 119, 3) := by decide +kernel
theorem dX5_wrongOf_13 : decode cX5_wrongOf 13 = .ok (.invokestatic 128, 3) := by decide +kernel
theorem dX5_wrongOf_16 : decode cX5_wrongOf 16 = .ok (.invokevirtual 122, 3) := by decide +kernel
theorem dX5_wrongOf_19 : decode cX5_wrongOf 19 = .ok (.ireturn, 1) := by decide +kernel
theorem dX5_wrong_0 : decode cX5_wrong 0 = .ok (.aload_n 0, 1) := by decide +kernel
theorem dX5_wrong_1 : decode cX5_wrong 1 = .ok (.iload_n 1, 1) := by decide +kernel
theorem dX5_wrong_2 : decode cX5_wrong 2 = .ok (.invokevirtual 116, 3) := by decide +kernel
theorem dX5_wrong_5 : decode cX5_wrong 5 = .ok (.ifCond .eq 11, 3) := by decide +kernel
theorem dX5_wrong_8 : decode cX5_wrong 8 = .ok (.aload_n 0, 1) := by decide +kernel
theorem dX5_wrong_9 : decode cX5_wrong 9 = .ok (.iload_n 1, 1) := by decide +kernel
theorem dX5_wrong_10 : decode cX5_wrong 10 = .ok (.invokevirtual 131, 3) := by decide +kernel
theorem dX5_wrong_13 : decode cX5_wrong 13 = .ok (.goto 5, 3) := by decide +kernel
theorem dX5_wrong_16 : decode cX5_wrong 16 = .ok (.bipush (-2), 2) := by decide +kernel
theorem dX5_wrong_18 : decode cX5_wrong 18 = .ok (.ireturn, 1) := by decide +kernel
theorem dX5_mirrored_0 : decode cX5_mirrored 0 = .ok (.iload_n 1, 1) := by decide +kernel
theorem dX5_mirrored_1 : decode cX5_mirrored 1 = .ok (.iconst 0, 1) := by decide +kernel
theorem dX5_mirrored_2 : decode cX5_mirrored 2 = .ok (.bipush 63, 2) := by decide +kernel
theorem dX5_mirrored_4 : decode cX5_mirrored 4 = .ok (.invokestatic 75, 3) := by decide +kernel
theorem dX5_mirrored_7 : decode cX5_mirrored 7 = .ok (.ifCond .eq 10, 3) := by decide +kernel
theorem dX5_mirrored_10 : decode cX5_mirrored 10 = .ok (.iload_n 1, 1) := by decide +kernel
theorem dX5_mirrored_11 : decode cX5_mirrored 11 = .ok (.invokestatic 128, 3) := by decide +kernel
theorem dX5_mirrored_14 : decode cX5_mirrored 14 = .ok (.goto 5, 3) := by decide +kernel
theorem dX5_mirrored_17 : decode cX5_mirrored 17 = .ok (.bipush (-2), 2) := by decide +kernel
theorem dX5_mirrored_19 : decode cX5_mirrored 19 = .ok (.ireturn, 1) := by decide +kernel
theorem dX5_bothOf_0 : decode cX5_bothOf 0 = .ok (.aload_n 0, 1) := by decide +kernel
theorem dX5_bothOf_1 : decode cX5_bothOf 1 = .ok (.getfield 25, 3) := by decide +kernel
theorem dX5_bothOf_4 : decode cX5_bothOf 4 = .ok (.iload_n 1, 1) := by decide +kernel
theorem dX5_bothOf_5 : decode cX5_bothOf 5 = .ok (.iaload, 1) := by decide +kernel
theorem dX5_bothOf_6 : decode cX5_bothOf 6 = .ok (.istore_n 2, 1) := by decide +kernel
theorem dX5_bothOf_7 : decode cX5_bothOf 7 = .ok (.iconst 0, 1) := by decide +kernel
theorem dX5_bothOf_8 : decode cX5_bothOf 8 = .ok (.istore_n 3, 1) := by decide +kernel
theorem dX5_bothOf_9 : decode cX5_bothOf 9 = .ok (.iload_n 3, 1) := by decide +kernel
theorem dX5_bothOf_10 : decode cX5_bothOf 10 = .ok (.aload_n 0, 1) := by decide +kernel
theorem dX5_bothOf_11 : decode cX5_bothOf 11 = .ok (.getfield 86, 3) := by decide +kernel
theorem dX5_bothOf_14 : decode cX5_bothOf 14 = .ok (.if_icmp .ge 103, 3) := by decide +kernel
theorem dX5_bothOf_17 : decode cX5_bothOf 17 = .ok (.aload_n 0, 1) := by decide +kernel
theorem dX5_bothOf_18 : decode cX5_bothOf 18 = .ok (.getfield 25, 3) := by decide +kernel
theorem dX5_bothOf_21 : decode cX5_bothOf 21 = .ok (.iload_n 3, 1) := by decide +kernel
theorem dX5_bothOf_22 : decode cX5_bothOf 22 = .ok (.iaload, 1) := by decide +kernel
theorem dX5_bothOf_23 : decode cX5_bothOf 23 = .ok (.iload_n 2, 1) := by decide +kernel
theorem dX5_bothOf_24 : decode cX5_bothOf 24 = .ok (.if_icmp .ne 7, 3) := by decide +kernel
theorem dX5_bothOf_27 : decode cX5_bothOf 27 = .ok (.iconst 1, 1) := by decide +kernel
theorem dX5_bothOf_28 : decode cX5_bothOf 28 = .ok (.goto 4, 3) := by decide +kernel
theorem dX5_bothOf_31 : decode cX5_bothOf 31 = .ok (.iconst 0, 1) := by decide +kernel
theorem dX5_bothOf_32 : decode cX5_bothOf 32 = .ok (.istore 4, 2) := by decide +kernel
theorem dX5_bothOf_34 : decode cX5_bothOf 34 = .ok (.iconst 0, 1) := by decide +kernel
theorem dX5_bothOf_35 : decode cX5_bothOf 35 = .ok (.istore 5, 2) := by decide +kernel
theorem dX5_bothOf_37 : decode cX5_bothOf 37 = .ok (.iload 5, 2) := by decide +kernel
theorem dX5_bothOf_39 : decode cX5_bothOf 39 = .ok (.iload_n 2, 1) := by decide +kernel
theorem dX5_bothOf_40 : decode cX5_bothOf 40 = .ok (.if_icmp .ge 64, 3) := by decide +kernel
theorem dX5_bothOf_43 : decode cX5_bothOf 43 = .ok (.iload 4, 2) := by decide +kernel
theorem dX5_bothOf_45 : decode cX5_bothOf 45 = .ok (.ifCond .eq 59, 3) := by decide +kernel
theorem dX5_bothOf_48 : decode cX5_bothOf 48 = .ok (.aload_n 0, 1) := by decide +kernel
theorem dX5_bothOf_49 : decode cX5_bothOf 49 = .ok (.aload_n 0, 1) := by decide +kernel
theorem dX5_bothOf_50 : decode cX5_bothOf 50 = .ok (.getfield 7, 3) := by decide +kernel
theorem dX5_bothOf_53 : decode cX5_bothOf 53 = .ok (.aload_n 0, 1) := by decide +kernel
theorem dX5_bothOf_54 : decode cX5_bothOf 54 = .ok (.getfield 22, 3) := by decide +kernel
theorem dX5_bothOf_57 : decode cX5_bothOf 57 = .ok (.bipush 6, 2) := by decide +kernel
theorem dX5_bothOf_59 : decode cX5_bothOf 59 = .ok (.iload_n 1, 1) := by decide +kernel
theorem dX5_bothOf_60 : decode cX5_bothOf 60 = .ok (.imul, 1) := by decide +kernel
theorem dX5_bothOf_61 : decode cX5_bothOf 61 = .ok (.iload_n 2, 1) := by decide +kernel
theorem dX5_bothOf_62 : decode cX5_bothOf 62 = .ok (.iadd, 1) := by decide +kernel
theorem dX5_bothOf_63 : decode cX5_bothOf 63 = .ok (.iconst 1, 1) := by decide +kernel
theorem dX5_bothOf_64 : decode cX5_bothOf 64 = .ok (.isub, 1) := by decide +kernel
theorem dX5_bothOf_65 : decode cX5_bothOf 65 = .ok (.iload 5, 2) := by decide +kernel
theorem dX5_bothOf_67 : decode cX5_bothOf 67 = .ok (.isub, 1) := by decide +kernel
theorem dX5_bothOf_68 : decode cX5_bothOf 68 = .ok (.iaload, 1) := by decide +kernel
theorem dX5_bothOf_69 : decode cX5_bothOf 69 = .ok (.iaload, 1) := by decide +kernel
theorem dX5_bothOf_70 : decode cX5_bothOf 70 = .ok (.invokestatic 128, 3) := by decide +kernel
theorem dX5_bothOf_73 : decode cX5_bothOf 73 = .ok (.invokevirtual 122, 3) := by decide +kernel
theorem dX5_bothOf_76 : decode cX5_bothOf 76 = .ok (.aload_n 0, 1) := by decide +kernel
theorem dX5_bothOf_77 : decode cX5_bothOf 77 = .ok (.getfield 22, 3) := by decide +kernel
theorem dX5_bothOf_80 : decode cX5_bothOf 80 = .ok (.bipush 6, 2) := by decide +kernel
theorem dX5_bothOf_82 : decode cX5_bothOf 82 = .ok (.iload_n 3, 1) := by decide +kernel
theorem dX5_bothOf_83 : decode cX5_bothOf 83 = .ok (.imul, 1) := by decide +kernel
theorem dX5_bothOf_84 : decode cX5_bothOf 84 = .ok (.iload 5, 2) := by decide +kernel
theorem dX5_bothOf_86 : decode cX5_bothOf 86 = .ok (.iadd, 1) := by decide +kernel
theorem dX5_bothOf_87 : decode cX5_bothOf 87 = .ok (.iaload, 1) := by decide +kernel
theorem dX5_bothOf_88 : decode cX5_bothOf 88 = .ok (.if_icmp .ne 7, 3) := by decide +kernel
theorem dX5_bothOf_91 : decode cX5_bothOf 91 = .ok (.iconst 1, 1) := by decide +kernel
theorem dX5_bothOf_92 : decode cX5_bothOf 92 = .ok (.goto 4, 3) := by decide +kernel
theorem dX5_bothOf_95 : decode cX5_bothOf 95 = .ok (.iconst 0, 1) := by decide +kernel
theorem dX5_bothOf_96 : decode cX5_bothOf 96 = .ok (.istore 4, 2) := by decide +kernel
theorem dX5_bothOf_98 : decode cX5_bothOf 98 = .ok (.iinc 5 1, 3) := by decide +kernel
theorem dX5_bothOf_101 : decode cX5_bothOf 101 = .ok (.goto (-64), 3) := by decide +kernel
theorem dX5_bothOf_104 : decode cX5_bothOf 104 = .ok (.iload 4, 2) := by decide +kernel
theorem dX5_bothOf_106 : decode cX5_bothOf 106 = .ok (.ifCond .eq 5, 3) := by decide +kernel
theorem dX5_bothOf_109 : decode cX5_bothOf 109 = .ok (.iload_n 3, 1) := by decide +kernel
theorem dX5_bothOf_110 : decode cX5_bothOf 110 = .ok (.ireturn, 1) := by decide +kernel
theorem dX5_bothOf_111 : decode cX5_bothOf 111 = .ok (.iinc 3 1, 3) := by decide +kernel
theorem dX5_bothOf_114 : decode cX5_bothOf 114 = .ok (.goto (-105), 3) := by decide +kernel
theorem dX5_bothOf_117 : decode cX5_bothOf 117 = .ok (.iconst (-1), 1) := by decide +kernel
theorem dX5_bothOf_118 : decode cX5_bothOf 118 = .ok (.ireturn, 1) := by decide +kernel
theorem dX5_bothAll_0 : decode cX5_bothAll 0 = .ok (.aload_n 0, 1) := by decide +kernel
theorem dX5_bothAll_1 : decode cX5_bothAll 1 = .ok (.invokevirtual 100, 3) := by decide +kernel
theorem dX5_bothAll_4 : decode cX5_bothAll 4 = .ok (.iconst 0, 1) := by decide +kernel
theorem dX5_bothAll_5 : decode cX5_bothAll 5 = .ok (.istore_n 1, 1) := by decide +kernel
theorem dX5_bothAll_6 : decode cX5_bothAll 6 = .ok (.iconst 0, 1) := by decide +kernel
theorem dX5_bothAll_7 : decode cX5_bothAll 7 = .ok (.istore_n 2, 1) := by decide +kernel
theorem dX5_bothAll_8 : decode cX5_bothAll 8 = .ok (.iload_n 2, 1) := by decide +kernel
theorem dX5_bothAll_9 : decode cX5_bothAll 9 = .ok (.aload_n 0, 1) := by decide +kernel
theorem dX5_bothAll_10 : decode cX5_bothAll 10 = .ok (.getfield 86, 3) := by decide +kernel
theorem dX5_bothAll_13 : decode cX5_bothAll 13 = .ok (.if_icmp .ge 28, 3) := by decide +kernel
theorem dX5_bothAll_16 : decode cX5_bothAll 16 = .ok (.iload_n 1, 1) := by decide +kernel
theorem dX5_bothAll_17 : decode cX5_bothAll 17 = .ok (.aload_n 0, 1) := by decide +kernel
theorem dX5_bothAll_18 : decode cX5_bothAll 18 = .ok (.iload_n 2, 1) := by decide +kernel
theorem dX5_bothAll_19 : decode cX5_bothAll 19 = .ok (.invokevirtual 134, 3) := by decide +kernel
theorem dX5_bothAll_22 : decode cX5_bothAll 22 = .ok (.iconst (-1), 1) := by decide +kernel
theorem dX5_bothAll_23 : decode cX5_bothAll 23 = .ok (.if_icmp .ne 7, 3) := by decide +kernel
theorem dX5_bothAll_26 : decode cX5_bothAll 26 = .ok (.iconst 0, 1) := by decide +kernel
theorem dX5_bothAll_27 : decode cX5_bothAll 27 = .ok (.goto 6, 3) := by decide +kernel
theorem dX5_bothAll_30 : decode cX5_bothAll 30 = .ok (.iconst 1, 1) := by decide +kernel
theorem dX5_bothAll_31 : decode cX5_bothAll 31 = .ok (.iload_n 2, 1) := by decide +kernel
theorem dX5_bothAll_32 : decode cX5_bothAll 32 = .ok (.ishl, 1) := by decide +kernel
theorem dX5_bothAll_33 : decode cX5_bothAll 33 = .ok (.ior, 1) := by decide +kernel
theorem dX5_bothAll_34 : decode cX5_bothAll 34 = .ok (.istore_n 1, 1) := by decide +kernel
theorem dX5_bothAll_35 : decode cX5_bothAll 35 = .ok (.iinc 2 1, 3) := by decide +kernel
theorem dX5_bothAll_38 : decode cX5_bothAll 38 = .ok (.goto (-30), 3) := by decide +kernel
theorem dX5_bothAll_41 : decode cX5_bothAll 41 = .ok (.iload_n 1, 1) := by decide +kernel
theorem dX5_bothAll_42 : decode cX5_bothAll 42 = .ok (.ireturn, 1) := by decide +kernel
theorem dX5_both_0 : decode cX5_both 0 = .ok (.iload_n 1, 1) := by decide +kernel
theorem dX5_both_1 : decode cX5_both 1 = .ok (.iconst (-1), 1) := by decide +kernel
theorem dX5_both_2 : decode cX5_both 2 = .ok (.if_icmp .ne 10, 3) := by decide +kernel
theorem dX5_both_5 : decode cX5_both 5 = .ok (.aload_n 0, 1) := by decide +kernel
theorem dX5_both_6 : decode cX5_both 6 = .ok (.invokevirtual 137, 3) := by decide +kernel
theorem dX5_both_9 : decode cX5_both 9 = .ok (.goto 21, 3) := by decide +kernel
theorem dX5_both_12 : decode cX5_both 12 = .ok (.aload_n 0, 1) := by decide +kernel
theorem dX5_both_13 : decode cX5_both 13 = .ok (.iload_n 1, 1) := by decide +kernel
theorem dX5_both_14 : decode cX5_both 14 = .ok (.invokevirtual 140, 3) := by decide +kernel
theorem dX5_both_17 : decode cX5_both 17 = .ok (.ifCond .eq 11, 3) := by decide +kernel
theorem dX5_both_20 : decode cX5_both 20 = .ok (.aload_n 0, 1) := by decide +kernel
theorem dX5_both_21 : decode cX5_both 21 = .ok (.iload_n 1, 1) := by decide +kernel
theorem dX5_both_22 : decode cX5_both 22 = .ok (.invokevirtual 134, 3) := by decide +kernel
theorem dX5_both_25 : decode cX5_both 25 = .ok (.goto 5, 3) := by decide +kernel
theorem dX5_both_28 : decode cX5_both 28 = .ok (.bipush (-2), 2) := by decide +kernel
theorem dX5_both_30 : decode cX5_both 30 = .ok (.ireturn, 1) := by decide +kernel
theorem dX5_fitsOf_0 : decode cX5_fitsOf 0 = .ok (.iload_n 2, 1) := by decide +kernel
theorem dX5_fitsOf_1 : decode cX5_fitsOf 1 = .ok (.aload_n 0, 1) := by decide +kernel
theorem dX5_fitsOf_2 : decode cX5_fitsOf 2 = .ok (.getfield 79, 3) := by decide +kernel
theorem dX5_fitsOf_5 : decode cX5_fitsOf 5 = .ok (.aload_n 0, 1) := by decide +kernel
theorem dX5_fitsOf_6 : decode cX5_fitsOf 6 = .ok (.getfield 25, 3) := by decide +kernel
theorem dX5_fitsOf_9 : decode cX5_fitsOf 9 = .ok (.iload_n 1, 1) := by decide +kernel
theorem dX5_fitsOf_10 : decode cX5_fitsOf 10 = .ok (.iaload, 1) := by decide +kernel
theorem dX5_fitsOf_11 : decode cX5_fitsOf 11 = .ok (.isub, 1) := by decide +kernel
theorem dX5_fitsOf_12 : decode cX5_fitsOf 12 = .ok (.if_icmp .le 5, 3) := by decide +kernel
theorem dX5_fitsOf_15 : decode cX5_fitsOf 15 = .ok (.iconst (-1), 1) := by decide +kernel
theorem dX5_fitsOf_16 : decode cX5_fitsOf 16 = .ok (.ireturn, 1) := by decide +kernel
theorem dX5_fitsOf_17 : decode cX5_fitsOf 17 = .ok (.iconst 0, 1) := by decide +kernel
theorem dX5_fitsOf_18 : decode cX5_fitsOf 18 = .ok (.istore_n 3, 1) := by decide +kernel
theorem dX5_fitsOf_19 : decode cX5_fitsOf 19 = .ok (.iconst 0, 1) := by decide +kernel
theorem dX5_fitsOf_20 : decode cX5_fitsOf 20 = .ok (.istore 4, 2) := by decide +kernel
theorem dX5_fitsOf_22 : decode cX5_fitsOf 22 = .ok (.iload 4, 2) := by decide +kernel
theorem dX5_fitsOf_24 : decode cX5_fitsOf 24 = .ok (.aload_n 0, 1) := by decide +kernel
theorem dX5_fitsOf_25 : decode cX5_fitsOf 25 = .ok (.getfield 25, 3) := by decide +kernel
theorem dX5_fitsOf_28 : decode cX5_fitsOf 28 = .ok (.iload_n 1, 1) := by decide +kernel
theorem dX5_fitsOf_29 : decode cX5_fitsOf 29 = .ok (.iaload, 1) := by decide +kernel
theorem dX5_fitsOf_30 : decode cX5_fitsOf 30 = .ok (.if_icmp .ge 72, 3) := by decide +kernel
theorem dX5_fitsOf_33 : decode cX5_fitsOf 33 = .ok (.aload_n 0, 1) := by decide +kernel
theorem dX5_fitsOf_34 : decode cX5_fitsOf 34 = .ok (.getfield 7, 3) := by decide +kernel
theorem dX5_fitsOf_37 : decode cX5_fitsOf 37 = .ok (.aload_n 0, 1) := by decide +kernel
theorem dX5_fitsOf_38 : decode cX5_fitsOf 38 = .ok (.getfield 22, 3) := by decide +kernel
theorem dX5_fitsOf_41 : decode cX5_fitsOf 41 = .ok (.bipush 6, 2) := by decide +kernel
theorem dX5_fitsOf_43 : decode cX5_fitsOf 43 = .ok (.iload_n 1, 1) := by decide +kernel
theorem dX5_fitsOf_44 : decode cX5_fitsOf 44 = .ok (.imul, 1) := by decide +kernel
theorem dX5_fitsOf_45 : decode cX5_fitsOf 45 = .ok (.iload 4, 2) := by decide +kernel
theorem dX5_fitsOf_47 : decode cX5_fitsOf 47 = .ok (.iadd, 1) := by decide +kernel
theorem dX5_fitsOf_48 : decode cX5_fitsOf 48 = .ok (.iaload, 1) := by decide +kernel
theorem dX5_fitsOf_49 : decode cX5_fitsOf 49 = .ok (.iaload, 1) := by decide +kernel
theorem dX5_fitsOf_50 : decode cX5_fitsOf 50 = .ok (.istore 5, 2) := by decide +kernel
theorem dX5_fitsOf_52 : decode cX5_fitsOf 52 = .ok (.aload_n 0, 1) := by decide +kernel
theorem dX5_fitsOf_53 : decode cX5_fitsOf 53 = .ok (.iload_n 2, 1) := by decide +kernel
theorem dX5_fitsOf_54 : decode cX5_fitsOf 54 = .ok (.iload 4, 2) := by decide +kernel
theorem dX5_fitsOf_56 : decode cX5_fitsOf 56 = .ok (.iadd, 1) := by decide +kernel
theorem dX5_fitsOf_57 : decode cX5_fitsOf 57 = .ok (.invokevirtual 119, 3) := by decide +kernel
theorem dX5_fitsOf_60 : decode cX5_fitsOf 60 = .ok (.istore 6, 2) := by decide +kernel
theorem dX5_fitsOf_62 : decode cX5_fitsOf 62 = .ok (.iload_n 3, 1) := by decide +kernel
theorem dX5_fitsOf_63 : decode cX5_fitsOf 63 = .ok (.aload_n 0, 1) := by decide +kernel
theorem dX5_fitsOf_64 : decode cX5_fitsOf 64 = .ok (.getfield 68, 3) := by decide +kernel
theorem dX5_fitsOf_67 : decode cX5_fitsOf 67 = .ok (.iload 5, 2) := by decide +kernel
theorem dX5_fitsOf_69 : decode cX5_fitsOf 69 = .ok (.iload 6, 2) := by decide +kernel
theorem dX5_fitsOf_71 : decode cX5_fitsOf 71 = .ok (.iconst (-1), 1) := by decide +kernel
theorem dX5_fitsOf_72 : decode cX5_fitsOf 72 = .ok (.ixor, 1) := by decide +kernel
theorem dX5_fitsOf_73 : decode cX5_fitsOf 73 = .ok (.iand, 1) := by decide +kernel
theorem dX5_fitsOf_74 : decode cX5_fitsOf 74 = .ok (.invokestatic 143, 3) := by decide +kernel
theorem dX5_fitsOf_77 : decode cX5_fitsOf 77 = .ok (.imul, 1) := by decide +kernel
theorem dX5_fitsOf_78 : decode cX5_fitsOf 78 = .ok (.aload_n 0, 1) := by decide +kernel
theorem dX5_fitsOf_79 : decode cX5_fitsOf 79 = .ok (.getfield 72, 3) := by decide +kernel
theorem dX5_fitsOf_82 : decode cX5_fitsOf 82 = .ok (.iload 6, 2) := by decide +kernel
theorem dX5_fitsOf_84 : decode cX5_fitsOf 84 = .ok (.iload 5, 2) := by decide +kernel
theorem dX5_fitsOf_86 : decode cX5_fitsOf 86 = .ok (.iconst (-1), 1) := by decide +kernel
theorem dX5_fitsOf_87 : decode cX5_fitsOf 87 = .ok (.ixor, 1) := by decide +kernel
theorem dX5_fitsOf_88 : decode cX5_fitsOf 88 = .ok (.iand, 1) := by decide +kernel
theorem dX5_fitsOf_89 : decode cX5_fitsOf 89 = .ok (.invokestatic 143, 3) := by decide +kernel
theorem dX5_fitsOf_92 : decode cX5_fitsOf 92 = .ok (.imul, 1) := by decide +kernel
theorem dX5_fitsOf_93 : decode cX5_fitsOf 93 = .ok (.iadd, 1) := by decide +kernel
theorem dX5_fitsOf_94 : decode cX5_fitsOf 94 = .ok (.iadd, 1) := by decide +kernel
theorem dX5_fitsOf_95 : decode cX5_fitsOf 95 = .ok (.istore_n 3, 1) := by decide +kernel
theorem dX5_fitsOf_96 : decode cX5_fitsOf 96 = .ok (.iinc 4 1, 3) := by decide +kernel
theorem dX5_fitsOf_99 : decode cX5_fitsOf 99 = .ok (.goto (-77), 3) := by decide +kernel
theorem dX5_fitsOf_102 : decode cX5_fitsOf 102 = .ok (.iload_n 3, 1) := by decide +kernel
theorem dX5_fitsOf_103 : decode cX5_fitsOf 103 = .ok (.ireturn, 1) := by decide +kernel
theorem dX5_fits_0 : decode cX5_fits 0 = .ok (.aload_n 0, 1) := by decide +kernel
theorem dX5_fits_1 : decode cX5_fits 1 = .ok (.iload_n 1, 1) := by decide +kernel
theorem dX5_fits_2 : decode cX5_fits 2 = .ok (.invokevirtual 140, 3) := by decide +kernel
theorem dX5_fits_5 : decode cX5_fits 5 = .ok (.ifCond .eq 16, 3) := by decide +kernel
theorem dX5_fits_8 : decode cX5_fits 8 = .ok (.iload_n 2, 1) := by decide +kernel
theorem dX5_fits_9 : decode cX5_fits 9 = .ok (.ifCond .lt 12, 3) := by decide +kernel
theorem dX5_fits_12 : decode cX5_fits 12 = .ok (.aload_n 0, 1) := by decide +kernel
theorem dX5_fits_13 : decode cX5_fits 13 = .ok (.iload_n 1, 1) := by decide +kernel
theorem dX5_fits_14 : decode cX5_fits 14 = .ok (.iload_n 2, 1) := by decide +kernel
theorem dX5_fits_15 : decode cX5_fits 15 = .ok (.invokevirtual 146, 3) := by decide +kernel
theorem dX5_fits_18 : decode cX5_fits 18 = .ok (.goto 5, 3) := by decide +kernel
theorem dX5_fits_21 : decode cX5_fits 21 = .ok (.bipush (-2), 2) := by decide +kernel
theorem dX5_fits_23 : decode cX5_fits 23 = .ok (.ireturn, 1) := by decide +kernel
theorem dX5_meantOf_0 : decode cX5_meantOf 0 = .ok (.aload_n 0, 1) := by decide +kernel
theorem dX5_meantOf_1 : decode cX5_meantOf 1 = .ok (.invokevirtual 100, 3) := by decide +kernel
theorem dX5_meantOf_4 : decode cX5_meantOf 4 = .ok (.iconst (-1), 1) := by decide +kernel
theorem dX5_meantOf_5 : decode cX5_meantOf 5 = .ok (.istore_n 3, 1) := by decide +kernel
theorem dX5_meantOf_6 : decode cX5_meantOf 6 = .ok (.iconst (-1), 1) := by decide +kernel
theorem dX5_meantOf_7 : decode cX5_meantOf 7 = .ok (.istore 4, 2) := by decide +kernel
theorem dX5_meantOf_9 : decode cX5_meantOf 9 = .ok (.iconst 0, 1) := by decide +kernel
theorem dX5_meantOf_10 : decode cX5_meantOf 10 = .ok (.istore 5, 2) := by decide +kernel
theorem dX5_meantOf_12 : decode cX5_meantOf 12 = .ok (.iload 5, 2) := by decide +kernel
theorem dX5_meantOf_14 : decode cX5_meantOf 14 = .ok (.aload_n 0, 1) := by decide +kernel
theorem dX5_meantOf_15 : decode cX5_meantOf 15 = .ok (.getfield 86, 3) := by decide +kernel
theorem dX5_meantOf_18 : decode cX5_meantOf 18 = .ok (.if_icmp .ge 92, 3) := by decide +kernel
theorem dX5_meantOf_21 : decode cX5_meantOf 21 = .ok (.aload_n 0, 1) := by decide +kernel
theorem dX5_meantOf_22 : decode cX5_meantOf 22 = .ok (.iload 5, 2) := by decide +kernel
theorem dX5_meantOf_24 : decode cX5_meantOf 24 = .ok (.iload_n 1, 1) := by decide +kernel
theorem dX5_meantOf_25 : decode cX5_meantOf 25 = .ok (.invokevirtual 146, 3) := by decide +kernel
theorem dX5_meantOf_28 : decode cX5_meantOf 28 = .ok (.istore 6, 2) := by decide +kernel
theorem dX5_meantOf_30 : decode cX5_meantOf 30 = .ok (.iload 6, 2) := by decide +kernel
theorem dX5_meantOf_32 : decode cX5_meantOf 32 = .ok (.iconst (-1), 1) := by decide +kernel
theorem dX5_meantOf_33 : decode cX5_meantOf 33 = .ok (.if_icmp .eq 42, 3) := by decide +kernel
theorem dX5_meantOf_36 : decode cX5_meantOf 36 = .ok (.iload_n 3, 1) := by decide +kernel
theorem dX5_meantOf_37 : decode cX5_meantOf 37 = .ok (.iconst (-1), 1) := by decide +kernel
theorem dX5_meantOf_38 : decode cX5_meantOf 38 = .ok (.if_icmp .eq 33, 3) := by decide +kernel
theorem dX5_meantOf_41 : decode cX5_meantOf 41 = .ok (.iload 6, 2) := by decide +kernel
theorem dX5_meantOf_43 : decode cX5_meantOf 43 = .ok (.iload 4, 2) := by decide +kernel
theorem dX5_meantOf_45 : decode cX5_meantOf 45 = .ok (.if_icmp .lt 26, 3) := by decide +kernel
theorem dX5_meantOf_48 : decode cX5_meantOf 48 = .ok (.iload 6, 2) := by decide +kernel
theorem dX5_meantOf_50 : decode cX5_meantOf 50 = .ok (.iload 4, 2) := by decide +kernel
theorem dX5_meantOf_52 : decode cX5_meantOf 52 = .ok (.if_icmp .ne 23, 3) := by decide +kernel
theorem dX5_meantOf_55 : decode cX5_meantOf 55 = .ok (.aload_n 0, 1) := by decide +kernel
theorem dX5_meantOf_56 : decode cX5_meantOf 56 = .ok (.getfield 25, 3) := by decide +kernel
theorem dX5_meantOf_59 : decode cX5_meantOf 59 = .ok (.iload 5, 2) := by decide +kernel
theorem dX5_meantOf_61 : decode cX5_meantOf 61 = .ok (.iaload, 1) := by decide +kernel
theorem dX5_meantOf_62 : decode cX5_meantOf 62 = .ok (.aload_n 0, 1) := by decide +kernel
theorem dX5_meantOf_63 : decode cX5_meantOf 63 = .ok (.getfield 25, 3) := by decide +kernel
theorem dX5_meantOf_66 : decode cX5_meantOf 66 = .ok (.iload_n 3, 1) := by decide +kernel
theorem dX5_meantOf_67 : decode cX5_meantOf 67 = .ok (.iaload, 1) := by decide +kernel
theorem dX5_meantOf_68 : decode cX5_meantOf 68 = .ok (.if_icmp .le 7, 3) := by decide +kernel
theorem dX5_meantOf_71 : decode cX5_meantOf 71 = .ok (.iconst 1, 1) := by decide +kernel
theorem dX5_meantOf_72 : decode cX5_meantOf 72 = .ok (.goto 4, 3) := by decide +kernel
theorem dX5_meantOf_75 : decode cX5_meantOf 75 = .ok (.iconst 0, 1) := by decide +kernel
theorem dX5_meantOf_76 : decode cX5_meantOf 76 = .ok (.istore 7, 2) := by decide +kernel
theorem dX5_meantOf_78 : decode cX5_meantOf 78 = .ok (.iload 7, 2) := by decide +kernel
theorem dX5_meantOf_80 : decode cX5_meantOf 80 = .ok (.ifCond .eq 8, 3) := by decide +kernel
theorem dX5_meantOf_83 : decode cX5_meantOf 83 = .ok (.iload 5, 2) := by decide +kernel
theorem dX5_meantOf_85 : decode cX5_meantOf 85 = .ok (.goto 4, 3) := by decide +kernel
theorem dX5_meantOf_88 : decode cX5_meantOf 88 = .ok (.iload_n 3, 1) := by decide +kernel
theorem dX5_meantOf_89 : decode cX5_meantOf 89 = .ok (.istore_n 3, 1) := by decide +kernel
theorem dX5_meantOf_90 : decode cX5_meantOf 90 = .ok (.iload 7, 2) := by decide +kernel
theorem dX5_meantOf_92 : decode cX5_meantOf 92 = .ok (.ifCond .eq 8, 3) := by decide +kernel
theorem dX5_meantOf_95 : decode cX5_meantOf 95 = .ok (.iload 6, 2) := by decide +kernel
theorem dX5_meantOf_97 : decode cX5_meantOf 97 = .ok (.goto 5, 3) := by decide +kernel
theorem dX5_meantOf_100 : decode cX5_meantOf 100 = .ok (.iload 4, 2) := by decide +kernel
theorem dX5_meantOf_102 : decode cX5_meantOf 102 = .ok (.istore 4, 2) := by decide +kernel
theorem dX5_meantOf_104 : decode cX5_meantOf 104 = .ok (.iinc 5 1, 3) := by decide +kernel
theorem dX5_meantOf_107 : decode cX5_meantOf 107 = .ok (.goto (-95), 3) := by decide +kernel
theorem dX5_meantOf_110 : decode cX5_meantOf 110 = .ok (.iload_n 2, 1) := by decide +kernel
theorem dX5_meantOf_111 : decode cX5_meantOf 111 = .ok (.ifCond .ne 7, 3) := by decide +kernel
theorem dX5_meantOf_114 : decode cX5_meantOf 114 = .ok (.iload_n 3, 1) := by decide +kernel
theorem dX5_meantOf_115 : decode cX5_meantOf 115 = .ok (.goto 5, 3) := by decide +kernel
theorem dX5_meantOf_118 : decode cX5_meantOf 118 = .ok (.iload 4, 2) := by decide +kernel
theorem dX5_meantOf_120 : decode cX5_meantOf 120 = .ok (.ireturn, 1) := by decide +kernel
theorem dX5_meant_0 : decode cX5_meant 0 = .ok (.aload_n 0, 1) := by decide +kernel
theorem dX5_meant_1 : decode cX5_meant 1 = .ok (.iload_n 1, 1) := by decide +kernel
theorem dX5_meant_2 : decode cX5_meant 2 = .ok (.invokevirtual 116, 3) := by decide +kernel
theorem dX5_meant_5 : decode cX5_meant 5 = .ok (.ifCond .eq 21, 3) := by decide +kernel
theorem dX5_meant_8 : decode cX5_meant 8 = .ok (.iload_n 2, 1) := by decide +kernel
theorem dX5_meant_9 : decode cX5_meant 9 = .ok (.iconst 0, 1) := by decide +kernel
theorem dX5_meant_10 : decode cX5_meant 10 = .ok (.iconst 1, 1) := by decide +kernel
theorem dX5_meant_11 : decode cX5_meant 11 = .ok (.invokestatic 75, 3) := by decide +kernel
theorem dX5_meant_14 : decode cX5_meant 14 = .ok (.ifCond .eq 12, 3) := by decide +kernel
theorem dX5_meant_17 : decode cX5_meant 17 = .ok (.aload_n 0, 1) := by decide +kernel
theorem dX5_meant_18 : decode cX5_meant 18 = .ok (.iload_n 1, 1) := by decide +kernel
theorem dX5_meant_19 : decode cX5_meant 19 = .ok (.iload_n 2, 1) := by decide +kernel
theorem dX5_meant_20 : decode cX5_meant 20 = .ok (.invokevirtual 149, 3) := by decide +kernel
theorem dX5_meant_23 : decode cX5_meant 23 = .ok (.goto 5, 3) := by decide +kernel
theorem dX5_meant_26 : decode cX5_meant 26 = .ok (.bipush (-2), 2) := by decide +kernel
theorem dX5_meant_28 : decode cX5_meant 28 = .ok (.ireturn, 1) := by decide +kernel
theorem dX5_withinOf_0 : decode cX5_withinOf 0 = .ok (.aload_n 0, 1) := by decide +kernel
theorem dX5_withinOf_1 : decode cX5_withinOf 1 = .ok (.invokevirtual 100, 3) := by decide +kernel
theorem dX5_withinOf_4 : decode cX5_withinOf 4 = .ok (.iconst 0, 1) := by decide +kernel
theorem dX5_withinOf_5 : decode cX5_withinOf 5 = .ok (.istore_n 3, 1) := by decide +kernel
theorem dX5_withinOf_6 : decode cX5_withinOf 6 = .ok (.iconst 0, 1) := by decide +kernel
theorem dX5_withinOf_7 : decode cX5_withinOf 7 = .ok (.istore 4, 2) := by decide +kernel
theorem dX5_withinOf_9 : decode cX5_withinOf 9 = .ok (.iload 4, 2) := by decide +kernel
theorem dX5_withinOf_11 : decode cX5_withinOf 11 = .ok (.aload_n 0, 1) := by decide +kernel
theorem dX5_withinOf_12 : decode cX5_withinOf 12 = .ok (.getfield 86, 3) := by decide +kernel
theorem dX5_withinOf_15 : decode cX5_withinOf 15 = .ok (.if_icmp .ge 35, 3) := by decide +kernel
theorem dX5_withinOf_18 : decode cX5_withinOf 18 = .ok (.iload_n 3, 1) := by decide +kernel
theorem dX5_withinOf_19 : decode cX5_withinOf 19 = .ok (.aload_n 0, 1) := by decide +kernel
theorem dX5_withinOf_20 : decode cX5_withinOf 20 = .ok (.iload 4, 2) := by decide +kernel
theorem dX5_withinOf_22 : decode cX5_withinOf 22 = .ok (.iload_n 1, 1) := by decide +kernel
theorem dX5_withinOf_23 : decode cX5_withinOf 23 = .ok (.invokevirtual 146, 3) := by decide +kernel
theorem dX5_withinOf_26 : decode cX5_withinOf 26 = .ok (.iconst 0, 1) := by decide +kernel
theorem dX5_withinOf_27 : decode cX5_withinOf 27 = .ok (.iload_n 2, 1) := by decide +kernel
theorem dX5_withinOf_28 : decode cX5_withinOf 28 = .ok (.invokestatic 75, 3) := by decide +kernel
theorem dX5_withinOf_31 : decode cX5_withinOf 31 = .ok (.ifCond .eq 10, 3) := by decide +kernel
theorem dX5_withinOf_34 : decode cX5_withinOf 34 = .ok (.iconst 1, 1) := by decide +kernel
theorem dX5_withinOf_35 : decode cX5_withinOf 35 = .ok (.iload 4, 2) := by decide +kernel
theorem dX5_withinOf_37 : decode cX5_withinOf 37 = .ok (.ishl, 1) := by decide +kernel
theorem dX5_withinOf_38 : decode cX5_withinOf 38 = .ok (.goto 4, 3) := by decide +kernel
theorem dX5_withinOf_41 : decode cX5_withinOf 41 = .ok (.iconst 0, 1) := by decide +kernel
theorem dX5_withinOf_42 : decode cX5_withinOf 42 = .ok (.ior, 1) := by decide +kernel
theorem dX5_withinOf_43 : decode cX5_withinOf 43 = .ok (.istore_n 3, 1) := by decide +kernel
theorem dX5_withinOf_44 : decode cX5_withinOf 44 = .ok (.iinc 4 1, 3) := by decide +kernel
theorem dX5_withinOf_47 : decode cX5_withinOf 47 = .ok (.goto (-38), 3) := by decide +kernel
theorem dX5_withinOf_50 : decode cX5_withinOf 50 = .ok (.iload_n 3, 1) := by decide +kernel
theorem dX5_withinOf_51 : decode cX5_withinOf 51 = .ok (.ireturn, 1) := by decide +kernel
theorem dX5_within_0 : decode cX5_within 0 = .ok (.aload_n 0, 1) := by decide +kernel
theorem dX5_within_1 : decode cX5_within 1 = .ok (.iload_n 1, 1) := by decide +kernel
theorem dX5_within_2 : decode cX5_within 2 = .ok (.invokevirtual 116, 3) := by decide +kernel
theorem dX5_within_5 : decode cX5_within 5 = .ok (.ifCond .eq 23, 3) := by decide +kernel
theorem dX5_within_8 : decode cX5_within 8 = .ok (.iload_n 2, 1) := by decide +kernel
theorem dX5_within_9 : decode cX5_within 9 = .ok (.iconst 0, 1) := by decide +kernel
theorem dX5_within_10 : decode cX5_within 10 = .ok (.sipush 999, 3) := by decide +kernel
theorem dX5_within_13 : decode cX5_within 13 = .ok (.invokestatic 75, 3) := by decide +kernel
theorem dX5_within_16 : decode cX5_within 16 = .ok (.ifCond .eq 12, 3) := by decide +kernel
theorem dX5_within_19 : decode cX5_within 19 = .ok (.aload_n 0, 1) := by decide +kernel
theorem dX5_within_20 : decode cX5_within 20 = .ok (.iload_n 1, 1) := by decide +kernel
theorem dX5_within_21 : decode cX5_within 21 = .ok (.iload_n 2, 1) := by decide +kernel
theorem dX5_within_22 : decode cX5_within 22 = .ok (.invokevirtual 152, 3) := by decide +kernel
theorem dX5_within_25 : decode cX5_within 25 = .ok (.goto 5, 3) := by decide +kernel
theorem dX5_within_28 : decode cX5_within 28 = .ok (.bipush (-2), 2) := by decide +kernel
theorem dX5_within_30 : decode cX5_within 30 = .ok (.ireturn, 1) := by decide +kernel
theorem dX5_lineOf_0 : decode cX5_lineOf 0 = .ok (.aload_n 0, 1) := by decide +kernel
theorem dX5_lineOf_1 : decode cX5_lineOf 1 = .ok (.invokevirtual 100, 3) := by decide +kernel
theorem dX5_lineOf_4 : decode cX5_lineOf 4 = .ok (.aload_n 0, 1) := by decide +kernel
theorem dX5_lineOf_5 : decode cX5_lineOf 5 = .ok (.getfield 40, 3) := by decide +kernel
theorem dX5_lineOf_8 : decode cX5_lineOf 8 = .ok (.aload_n 0, 1) := by decide +kernel
theorem dX5_lineOf_9 : decode cX5_lineOf 9 = .ok (.getfield 79, 3) := by decide +kernel
theorem dX5_lineOf_12 : decode cX5_lineOf 12 = .ok (.iconst 0, 1) := by decide +kernel
theorem dX5_lineOf_13 : decode cX5_lineOf 13 = .ok (.iastore, 1) := by decide +kernel
theorem dX5_lineOf_14 : decode cX5_lineOf 14 = .ok (.aload_n 0, 1) := by decide +kernel
theorem dX5_lineOf_15 : decode cX5_lineOf 15 = .ok (.getfield 43, 3) := by decide +kernel
theorem dX5_lineOf_18 : decode cX5_lineOf 18 = .ok (.aload_n 0, 1) := by decide +kernel
theorem dX5_lineOf_19 : decode cX5_lineOf 19 = .ok (.getfield 79, 3) := by decide +kernel
theorem dX5_lineOf_22 : decode cX5_lineOf 22 = .ok (.iconst 0, 1) := by decide +kernel
theorem dX5_lineOf_23 : decode cX5_lineOf 23 = .ok (.iastore, 1) := by decide +kernel
theorem dX5_lineOf_24 : decode cX5_lineOf 24 = .ok (.aload_n 0, 1) := by decide +kernel
theorem dX5_lineOf_25 : decode cX5_lineOf 25 = .ok (.getfield 79, 3) := by decide +kernel
theorem dX5_lineOf_28 : decode cX5_lineOf 28 = .ok (.iconst 1, 1) := by decide +kernel
theorem dX5_lineOf_29 : decode cX5_lineOf 29 = .ok (.isub, 1) := by decide +kernel
theorem dX5_lineOf_30 : decode cX5_lineOf 30 = .ok (.istore_n 2, 1) := by decide +kernel
theorem dX5_lineOf_31 : decode cX5_lineOf 31 = .ok (.iload_n 2, 1) := by decide +kernel
theorem dX5_lineOf_32 : decode cX5_lineOf 32 = .ok (.ifCond .lt 133, 3) := by decide +kernel
theorem dX5_lineOf_35 : decode cX5_lineOf 35 = .ok (.aload_n 0, 1) := by decide +kernel
theorem dX5_lineOf_36 : decode cX5_lineOf 36 = .ok (.getfield 43, 3) := by decide +kernel
theorem dX5_lineOf_39 : decode cX5_lineOf 39 = .ok (.iload_n 2, 1) := by decide +kernel
theorem dX5_lineOf_40 : decode cX5_lineOf 40 = .ok (.bipush 100, 2) := by decide +kernel
theorem dX5_lineOf_42 : decode cX5_lineOf 42 = .ok (.aload_n 0, 1) := by decide +kernel
theorem dX5_lineOf_43 : decode cX5_lineOf 43 = .ok (.getfield 72, 3) := by decide +kernel
theorem dX5_lineOf_46 : decode cX5_lineOf 46 = .ok (.imul, 1) := by decide +kernel
theorem dX5_lineOf_47 : decode cX5_lineOf 47 = .ok (.aload_n 0, 1) := by decide +kernel
theorem dX5_lineOf_48 : decode cX5_lineOf 48 = .ok (.iload_n 2, 1) := by decide +kernel
theorem dX5_lineOf_49 : decode cX5_lineOf 49 = .ok (.invokevirtual 119, 3) := by decide +kernel
theorem dX5_lineOf_52 : decode cX5_lineOf 52 = .ok (.invokestatic 143, 3) := by decide +kernel
theorem dX5_lineOf_55 : decode cX5_lineOf 55 = .ok (.imul, 1) := by decide +kernel
theorem dX5_lineOf_56 : decode cX5_lineOf 56 = .ok (.aload_n 0, 1) := by decide +kernel
theorem dX5_lineOf_57 : decode cX5_lineOf 57 = .ok (.getfield 40, 3) := by decide +kernel
theorem dX5_lineOf_60 : decode cX5_lineOf 60 = .ok (.iload_n 2, 1) := by decide +kernel
theorem dX5_lineOf_61 : decode cX5_lineOf 61 = .ok (.iconst 1, 1) := by decide +kernel
theorem dX5_lineOf_62 : decode cX5_lineOf 62 = .ok (.iadd, 1) := by decide +kernel
theorem dX5_lineOf_63 : decode cX5_lineOf 63 = .ok (.iaload, 1) := by decide +kernel
theorem dX5_lineOf_64 : decode cX5_lineOf 64 = .ok (.iadd, 1) := by decide +kernel
theorem dX5_lineOf_65 : decode cX5_lineOf 65 = .ok (.iastore, 1) := by decide +kernel
theorem dX5_lineOf_66 : decode cX5_lineOf 66 = .ok (.aload_n 0, 1) := by decide +kernel
theorem dX5_lineOf_67 : decode cX5_lineOf 67 = .ok (.getfield 40, 3) := by decide +kernel
theorem dX5_lineOf_70 : decode cX5_lineOf 70 = .ok (.iload_n 2, 1) := by decide +kernel
theorem dX5_lineOf_71 : decode cX5_lineOf 71 = .ok (.aload_n 0, 1) := by decide +kernel
theorem dX5_lineOf_72 : decode cX5_lineOf 72 = .ok (.getfield 43, 3) := by decide +kernel
theorem dX5_lineOf_75 : decode cX5_lineOf 75 = .ok (.iload_n 2, 1) := by decide +kernel
theorem dX5_lineOf_76 : decode cX5_lineOf 76 = .ok (.iaload, 1) := by decide +kernel
theorem dX5_lineOf_77 : decode cX5_lineOf 77 = .ok (.iastore, 1) := by decide +kernel
theorem dX5_lineOf_78 : decode cX5_lineOf 78 = .ok (.iconst 0, 1) := by decide +kernel
theorem dX5_lineOf_79 : decode cX5_lineOf 79 = .ok (.istore_n 3, 1) := by decide +kernel
theorem dX5_lineOf_80 : decode cX5_lineOf 80 = .ok (.iload_n 3, 1) := by decide +kernel
theorem dX5_lineOf_81 : decode cX5_lineOf 81 = .ok (.aload_n 0, 1) := by decide +kernel
theorem dX5_lineOf_82 : decode cX5_lineOf 82 = .ok (.getfield 86, 3) := by decide +kernel
theorem dX5_lineOf_85 : decode cX5_lineOf 85 = .ok (.if_icmp .ge 74, 3) := by decide +kernel
theorem dX5_lineOf_88 : decode cX5_lineOf 88 = .ok (.aload_n 0, 1) := by decide +kernel
theorem dX5_lineOf_89 : decode cX5_lineOf 89 = .ok (.iload_n 3, 1) := by decide +kernel
theorem dX5_lineOf_90 : decode cX5_lineOf 90 = .ok (.iload_n 2, 1) := by decide +kernel
theorem dX5_lineOf_91 : decode cX5_lineOf 91 = .ok (.invokevirtual 146, 3) := by decide +kernel
theorem dX5_lineOf_94 : decode cX5_lineOf 94 = .ok (.istore 4, 2) := by decide +kernel
theorem dX5_lineOf_96 : decode cX5_lineOf 96 = .ok (.iload 4, 2) := by decide +kernel
theorem dX5_lineOf_98 : decode cX5_lineOf 98 = .ok (.iconst (-1), 1) := by decide +kernel
theorem dX5_lineOf_99 : decode cX5_lineOf 99 = .ok (.if_icmp .eq 54, 3) := by decide +kernel
theorem dX5_lineOf_102 : decode cX5_lineOf 102 = .ok (.bipush 100, 2) := by decide +kernel
theorem dX5_lineOf_104 : decode cX5_lineOf 104 = .ok (.iload 4, 2) := by decide +kernel
theorem dX5_lineOf_106 : decode cX5_lineOf 106 = .ok (.imul, 1) := by decide +kernel
theorem dX5_lineOf_107 : decode cX5_lineOf 107 = .ok (.iconst 1, 1) := by decide +kernel
theorem dX5_lineOf_108 : decode cX5_lineOf 108 = .ok (.iadd, 1) := by decide +kernel
theorem dX5_lineOf_109 : decode cX5_lineOf 109 = .ok (.aload_n 0, 1) := by decide +kernel
theorem dX5_lineOf_110 : decode cX5_lineOf 110 = .ok (.getfield 43, 3) := by decide +kernel
theorem dX5_lineOf_113 : decode cX5_lineOf 113 = .ok (.iload_n 2, 1) := by decide +kernel
theorem dX5_lineOf_114 : decode cX5_lineOf 114 = .ok (.aload_n 0, 1) := by decide +kernel
theorem dX5_lineOf_115 : decode cX5_lineOf 115 = .ok (.getfield 25, 3) := by decide +kernel
theorem dX5_lineOf_118 : decode cX5_lineOf 118 = .ok (.iload_n 3, 1) := by decide +kernel
theorem dX5_lineOf_119 : decode cX5_lineOf 119 = .ok (.iaload, 1) := by decide +kernel
theorem dX5_lineOf_120 : decode cX5_lineOf 120 = .ok (.iadd, 1) := by decide +kernel
theorem dX5_lineOf_121 : decode cX5_lineOf 121 = .ok (.iaload, 1) := by decide +kernel
theorem dX5_lineOf_122 : decode cX5_lineOf 122 = .ok (.iadd, 1) := by decide +kernel
theorem dX5_lineOf_123 : decode cX5_lineOf 123 = .ok (.istore 5, 2) := by decide +kernel
theorem dX5_lineOf_125 : decode cX5_lineOf 125 = .ok (.aload_n 0, 1) := by decide +kernel
theorem dX5_lineOf_126 : decode cX5_lineOf 126 = .ok (.getfield 40, 3) := by decide +kernel
theorem dX5_lineOf_129 : decode cX5_lineOf 129 = .ok (.iload_n 2, 1) := by decide +kernel
theorem dX5_lineOf_130 : decode cX5_lineOf 130 = .ok (.iload 5, 2) := by decide +kernel
theorem dX5_lineOf_132 : decode cX5_lineOf 132 = .ok (.aload_n 0, 1) := by decide +kernel
theorem dX5_lineOf_133 : decode cX5_lineOf 133 = .ok (.getfield 40, 3) := by decide +kernel
theorem dX5_lineOf_136 : decode cX5_lineOf 136 = .ok (.iload_n 2, 1) := by decide +kernel
theorem dX5_lineOf_137 : decode cX5_lineOf 137 = .ok (.iaload, 1) := by decide +kernel
theorem dX5_lineOf_138 : decode cX5_lineOf 138 = .ok (.if_icmp .ge 8, 3) := by decide +kernel
theorem dX5_lineOf_141 : decode cX5_lineOf 141 = .ok (.iload 5, 2) := by decide +kernel
theorem dX5_lineOf_143 : decode cX5_lineOf 143 = .ok (.goto 9, 3) := by decide +kernel
theorem dX5_lineOf_146 : decode cX5_lineOf 146 = .ok (.aload_n 0, 1) := by decide +kernel
theorem dX5_lineOf_147 : decode cX5_lineOf 147 = .ok (.getfield 40, 3) := by decide +kernel
theorem dX5_lineOf_150 : decode cX5_lineOf 150 = .ok (.iload_n 2, 1) := by decide +kernel
theorem dX5_lineOf_151 : decode cX5_lineOf 151 = .ok (.iaload, 1) := by decide +kernel
theorem dX5_lineOf_152 : decode cX5_lineOf 152 = .ok (.iastore, 1) := by decide +kernel
theorem dX5_lineOf_153 : decode cX5_lineOf 153 = .ok (.iinc 3 1, 3) := by decide +kernel
theorem dX5_lineOf_156 : decode cX5_lineOf 156 = .ok (.goto (-76), 3) := by decide +kernel
theorem dX5_lineOf_159 : decode cX5_lineOf 159 = .ok (.iinc 2 (-1), 3) := by decide +kernel
theorem dX5_lineOf_162 : decode cX5_lineOf 162 = .ok (.goto (-131), 3) := by decide +kernel
theorem dX5_lineOf_165 : decode cX5_lineOf 165 = .ok (.iload_n 1, 1) := by decide +kernel
theorem dX5_lineOf_166 : decode cX5_lineOf 166 = .ok (.ifCond .ne 15, 3) := by decide +kernel
theorem dX5_lineOf_169 : decode cX5_lineOf 169 = .ok (.aload_n 0, 1) := by decide +kernel
theorem dX5_lineOf_170 : decode cX5_lineOf 170 = .ok (.getfield 40, 3) := by decide +kernel
theorem dX5_lineOf_173 : decode cX5_lineOf 173 = .ok (.iconst 0, 1) := by decide +kernel
theorem dX5_lineOf_174 : decode cX5_lineOf 174 = .ok (.iaload, 1) := by decide +kernel
theorem dX5_lineOf_175 : decode cX5_lineOf 175 = .ok (.bipush 100, 2) := by decide +kernel
theorem dX5_lineOf_177 : decode cX5_lineOf 177 = .ok (.idiv, 1) := by decide +kernel
theorem dX5_lineOf_178 : decode cX5_lineOf 178 = .ok (.goto 12, 3) := by decide +kernel
theorem dX5_lineOf_181 : decode cX5_lineOf 181 = .ok (.aload_n 0, 1) := by decide +kernel
theorem dX5_lineOf_182 : decode cX5_lineOf 182 = .ok (.getfield 40, 3) := by decide +kernel
theorem dX5_lineOf_185 : decode cX5_lineOf 185 = .ok (.iconst 0, 1) := by decide +kernel
theorem dX5_lineOf_186 : decode cX5_lineOf 186 = .ok (.iaload, 1) := by decide +kernel
theorem dX5_lineOf_187 : decode cX5_lineOf 187 = .ok (.bipush 100, 2) := by decide +kernel
theorem dX5_lineOf_189 : decode cX5_lineOf 189 = .ok (.irem, 1) := by decide +kernel
theorem dX5_lineOf_190 : decode cX5_lineOf 190 = .ok (.ireturn, 1) := by decide +kernel
theorem dX5_line_0 : decode cX5_line 0 = .ok (.iload_n 1, 1) := by decide +kernel
theorem dX5_line_1 : decode cX5_line 1 = .ok (.iconst 0, 1) := by decide +kernel
theorem dX5_line_2 : decode cX5_line 2 = .ok (.iconst 1, 1) := by decide +kernel
theorem dX5_line_3 : decode cX5_line 3 = .ok (.invokestatic 75, 3) := by decide +kernel
theorem dX5_line_6 : decode cX5_line 6 = .ok (.ifCond .eq 11, 3) := by decide +kernel
theorem dX5_line_9 : decode cX5_line 9 = .ok (.aload_n 0, 1) := by decide +kernel
theorem dX5_line_10 : decode cX5_line 10 = .ok (.iload_n 1, 1) := by decide +kernel
theorem dX5_line_11 : decode cX5_line 11 = .ok (.invokevirtual 155, 3) := by decide +kernel
theorem dX5_line_14 : decode cX5_line 14 = .ok (.goto 5, 3) := by decide +kernel
theorem dX5_line_17 : decode cX5_line 17 = .ok (.bipush (-2), 2) := by decide +kernel
theorem dX5_line_19 : decode cX5_line 19 = .ok (.ireturn, 1) := by decide +kernel
theorem dX5_isLess_0 : decode cX5_isLess 0 = .ok (.iload_n 0, 1) := by decide +kernel
theorem dX5_isLess_1 : decode cX5_isLess 1 = .ok (.iload_n 1, 1) := by decide +kernel
theorem dX5_isLess_2 : decode cX5_isLess 2 = .ok (.iand, 1) := by decide +kernel
theorem dX5_isLess_3 : decode cX5_isLess 3 = .ok (.iload_n 1, 1) := by decide +kernel
theorem dX5_isLess_4 : decode cX5_isLess 4 = .ok (.if_icmp .ne 19, 3) := by decide +kernel
theorem dX5_isLess_7 : decode cX5_isLess 7 = .ok (.iload_n 0, 1) := by decide +kernel
theorem dX5_isLess_8 : decode cX5_isLess 8 = .ok (.iload_n 1, 1) := by decide +kernel
theorem dX5_isLess_9 : decode cX5_isLess 9 = .ok (.iconst (-1), 1) := by decide +kernel
theorem dX5_isLess_10 : decode cX5_isLess 10 = .ok (.ixor, 1) := by decide +kernel
theorem dX5_isLess_11 : decode cX5_isLess 11 = .ok (.iand, 1) := by decide +kernel
theorem dX5_isLess_12 : decode cX5_isLess 12 = .ok (.invokestatic 143, 3) := by decide +kernel
theorem dX5_isLess_15 : decode cX5_isLess 15 = .ok (.iconst 1, 1) := by decide +kernel
theorem dX5_isLess_16 : decode cX5_isLess 16 = .ok (.if_icmp .ne 7, 3) := by decide +kernel
theorem dX5_isLess_19 : decode cX5_isLess 19 = .ok (.iconst 1, 1) := by decide +kernel
theorem dX5_isLess_20 : decode cX5_isLess 20 = .ok (.goto 4, 3) := by decide +kernel
theorem dX5_isLess_23 : decode cX5_isLess 23 = .ok (.iconst 0, 1) := by decide +kernel
theorem dX5_isLess_24 : decode cX5_isLess 24 = .ok (.ireturn, 1) := by decide +kernel
theorem dX5_slipperyNow_0 : decode cX5_slipperyNow 0 = .ok (.iconst 0, 1) := by decide +kernel
theorem dX5_slipperyNow_1 : decode cX5_slipperyNow 1 = .ok (.istore_n 1, 1) := by decide +kernel
theorem dX5_slipperyNow_2 : decode cX5_slipperyNow 2 = .ok (.iconst 0, 1) := by decide +kernel
theorem dX5_slipperyNow_3 : decode cX5_slipperyNow 3 = .ok (.istore_n 2, 1) := by decide +kernel
theorem dX5_slipperyNow_4 : decode cX5_slipperyNow 4 = .ok (.iload_n 2, 1) := by decide +kernel
theorem dX5_slipperyNow_5 : decode cX5_slipperyNow 5 = .ok (.bipush 10, 2) := by decide +kernel
theorem dX5_slipperyNow_7 : decode cX5_slipperyNow 7 = .ok (.if_icmp .ge 54, 3) := by decide +kernel
theorem dX5_slipperyNow_10 : decode cX5_slipperyNow 10 = .ok (.iconst 0, 1) := by decide +kernel
theorem dX5_slipperyNow_11 : decode cX5_slipperyNow 11 = .ok (.istore_n 3, 1) := by decide +kernel
theorem dX5_slipperyNow_12 : decode cX5_slipperyNow 12 = .ok (.iload_n 3, 1) := by decide +kernel
theorem dX5_slipperyNow_13 : decode cX5_slipperyNow 13 = .ok (.bipush 10, 2) := by decide +kernel
theorem dX5_slipperyNow_15 : decode cX5_slipperyNow 15 = .ok (.if_icmp .ge 40, 3) := by decide +kernel
theorem dX5_slipperyNow_18 : decode cX5_slipperyNow 18 = .ok (.iload_n 1, 1) := by decide +kernel
theorem dX5_slipperyNow_19 : decode cX5_slipperyNow 19 = .ok (.iload_n 2, 1) := by decide +kernel
theorem dX5_slipperyNow_20 : decode cX5_slipperyNow 20 = .ok (.iload_n 3, 1) := by decide +kernel
theorem dX5_slipperyNow_21 : decode cX5_slipperyNow 21 = .ok (.if_icmp .eq 25, 3) := by decide +kernel
theorem dX5_slipperyNow_24 : decode cX5_slipperyNow 24 = .ok (.aload_n 0, 1) := by decide +kernel
theorem dX5_slipperyNow_25 : decode cX5_slipperyNow 25 = .ok (.getfield 7, 3) := by decide +kernel
theorem dX5_slipperyNow_28 : decode cX5_slipperyNow 28 = .ok (.iload_n 2, 1) := by decide +kernel
theorem dX5_slipperyNow_29 : decode cX5_slipperyNow 29 = .ok (.iaload, 1) := by decide +kernel
theorem dX5_slipperyNow_30 : decode cX5_slipperyNow 30 = .ok (.aload_n 0, 1) := by decide +kernel
theorem dX5_slipperyNow_31 : decode cX5_slipperyNow 31 = .ok (.getfield 7, 3) := by decide +kernel
theorem dX5_slipperyNow_34 : decode cX5_slipperyNow 34 = .ok (.iload_n 3, 1) := by decide +kernel
theorem dX5_slipperyNow_35 : decode cX5_slipperyNow 35 = .ok (.iaload, 1) := by decide +kernel
theorem dX5_slipperyNow_36 : decode cX5_slipperyNow 36 = .ok (.invokestatic 158, 3) := by decide +kernel
theorem dX5_slipperyNow_39 : decode cX5_slipperyNow 39 = .ok (.ifCond .eq 7, 3) := by decide +kernel
theorem dX5_slipperyNow_42 : decode cX5_slipperyNow 42 = .ok (.iconst 1, 1) := by decide +kernel
theorem dX5_slipperyNow_43 : decode cX5_slipperyNow 43 = .ok (.goto 4, 3) := by decide +kernel
theorem dX5_slipperyNow_46 : decode cX5_slipperyNow 46 = .ok (.iconst 0, 1) := by decide +kernel
theorem dX5_slipperyNow_47 : decode cX5_slipperyNow 47 = .ok (.iadd, 1) := by decide +kernel
theorem dX5_slipperyNow_48 : decode cX5_slipperyNow 48 = .ok (.istore_n 1, 1) := by decide +kernel
theorem dX5_slipperyNow_49 : decode cX5_slipperyNow 49 = .ok (.iinc 3 1, 3) := by decide +kernel
theorem dX5_slipperyNow_52 : decode cX5_slipperyNow 52 = .ok (.goto (-40), 3) := by decide +kernel
theorem dX5_slipperyNow_55 : decode cX5_slipperyNow 55 = .ok (.iinc 2 1, 3) := by decide +kernel
theorem dX5_slipperyNow_58 : decode cX5_slipperyNow 58 = .ok (.goto (-54), 3) := by decide +kernel
theorem dX5_slipperyNow_61 : decode cX5_slipperyNow 61 = .ok (.iload_n 1, 1) := by decide +kernel
theorem dX5_slipperyNow_62 : decode cX5_slipperyNow 62 = .ok (.ireturn, 1) := by decide +kernel
theorem dX5_slippery_0 : decode cX5_slippery 0 = .ok (.aload_n 0, 1) := by decide +kernel
theorem dX5_slippery_1 : decode cX5_slippery 1 = .ok (.invokevirtual 162, 3) := by decide +kernel
theorem dX5_slippery_4 : decode cX5_slippery 4 = .ok (.ireturn, 1) := by decide +kernel
theorem dX5_betterOf_0 : decode cX5_betterOf 0 = .ok (.iconst (-1), 1) := by decide +kernel
theorem dX5_betterOf_1 : decode cX5_betterOf 1 = .ok (.istore_n 2, 1) := by decide +kernel
theorem dX5_betterOf_2 : decode cX5_betterOf 2 = .ok (.iconst 1, 1) := by decide +kernel
theorem dX5_betterOf_3 : decode cX5_betterOf 3 = .ok (.istore_n 3, 1) := by decide +kernel
theorem dX5_betterOf_4 : decode cX5_betterOf 4 = .ok (.iload_n 3, 1) := by decide +kernel
theorem dX5_betterOf_5 : decode cX5_betterOf 5 = .ok (.bipush 64, 2) := by decide +kernel
theorem dX5_betterOf_7 : decode cX5_betterOf 7 = .ok (.if_icmp .ge 112, 3) := by decide +kernel
theorem dX5_betterOf_10 : decode cX5_betterOf 10 = .ok (.iconst 1, 1) := by decide +kernel
theorem dX5_betterOf_11 : decode cX5_betterOf 11 = .ok (.istore 4, 2) := by decide +kernel
theorem dX5_betterOf_13 : decode cX5_betterOf 13 = .ok (.iconst 0, 1) := by decide +kernel
theorem dX5_betterOf_14 : decode cX5_betterOf 14 = .ok (.istore 5, 2) := by decide +kernel
theorem dX5_betterOf_16 : decode cX5_betterOf 16 = .ok (.iload 5, 2) := by decide +kernel
theorem dX5_betterOf_18 : decode cX5_betterOf 18 = .ok (.bipush 10, 2) := by decide +kernel
theorem dX5_betterOf_20 : decode cX5_betterOf 20 = .ok (.if_icmp .ge 66, 3) := by decide +kernel
theorem dX5_betterOf_23 : decode cX5_betterOf 23 = .ok (.iload 4, 2) := by decide +kernel
theorem dX5_betterOf_25 : decode cX5_betterOf 25 = .ok (.ifCond .eq 52, 3) := by decide +kernel
theorem dX5_betterOf_28 : decode cX5_betterOf 28 = .ok (.iload 5, 2) := by decide +kernel
theorem dX5_betterOf_30 : decode cX5_betterOf 30 = .ok (.iload_n 1, 1) := by decide +kernel
theorem dX5_betterOf_31 : decode cX5_betterOf 31 = .ok (.if_icmp .eq 42, 3) := by decide +kernel
theorem dX5_betterOf_34 : decode cX5_betterOf 34 = .ok (.aload_n 0, 1) := by decide +kernel
theorem dX5_betterOf_35 : decode cX5_betterOf 35 = .ok (.getfield 7, 3) := by decide +kernel
theorem dX5_betterOf_38 : decode cX5_betterOf 38 = .ok (.iload 5, 2) := by decide +kernel
theorem dX5_betterOf_40 : decode cX5_betterOf 40 = .ok (.iaload, 1) := by decide +kernel
theorem dX5_betterOf_41 : decode cX5_betterOf 41 = .ok (.iload_n 3, 1) := by decide +kernel
theorem dX5_betterOf_42 : decode cX5_betterOf 42 = .ok (.if_icmp .eq 35, 3) := by decide +kernel
theorem dX5_betterOf_45 : decode cX5_betterOf 45 = .ok (.iload_n 3, 1) := by decide +kernel
theorem dX5_betterOf_46 : decode cX5_betterOf 46 = .ok (.aload_n 0, 1) := by decide +kernel
theorem dX5_betterOf_47 : decode cX5_betterOf 47 = .ok (.getfield 7, 3) := by decide +kernel
theorem dX5_betterOf_50 : decode cX5_betterOf 50 = .ok (.iload 5, 2) := by decide +kernel
theorem dX5_betterOf_52 : decode cX5_betterOf 52 = .ok (.iaload, 1) := by decide +kernel
theorem dX5_betterOf_53 : decode cX5_betterOf 53 = .ok (.invokestatic 158, 3) := by decide +kernel
theorem dX5_betterOf_56 : decode cX5_betterOf 56 = .ok (.ifCond .ne 21, 3) := by decide +kernel
theorem dX5_betterOf_59 : decode cX5_betterOf 59 = .ok (.aload_n 0, 1) := by decide +kernel
theorem dX5_betterOf_60 : decode cX5_betterOf 60 = .ok (.getfield 7, 3) := by decide +kernel
theorem dX5_betterOf_63 : decode cX5_betterOf 63 = .ok (.iload 5, 2) := by decide +kernel
theorem dX5_betterOf_65 : decode cX5_betterOf 65 = .ok (.iaload, 1) := by decide +kernel
theorem dX5_betterOf_66 : decode cX5_betterOf 66 = .ok (.iload_n 3, 1) := by decide +kernel
theorem dX5_betterOf_67 : decode cX5_betterOf 67 = .ok (.invokestatic 158, 3) := by decide +kernel
theorem dX5_betterOf_70 : decode cX5_betterOf 70 = .ok (.ifCond .ne 7, 3) := by decide +kernel
theorem dX5_betterOf_73 : decode cX5_betterOf 73 = .ok (.iconst 1, 1) := by decide +kernel
theorem dX5_betterOf_74 : decode cX5_betterOf 74 = .ok (.goto 4, 3) := by decide +kernel
theorem dX5_betterOf_77 : decode cX5_betterOf 77 = .ok (.iconst 0, 1) := by decide +kernel
theorem dX5_betterOf_78 : decode cX5_betterOf 78 = .ok (.istore 4, 2) := by decide +kernel
theorem dX5_betterOf_80 : decode cX5_betterOf 80 = .ok (.iinc 5 1, 3) := by decide +kernel
theorem dX5_betterOf_83 : decode cX5_betterOf 83 = .ok (.goto (-67), 3) := by decide +kernel
theorem dX5_betterOf_86 : decode cX5_betterOf 86 = .ok (.iload 4, 2) := by decide +kernel
theorem dX5_betterOf_88 : decode cX5_betterOf 88 = .ok (.ifCond .eq 23, 3) := by decide +kernel
theorem dX5_betterOf_91 : decode cX5_betterOf 91 = .ok (.iload_n 2, 1) := by decide +kernel
theorem dX5_betterOf_92 : decode cX5_betterOf 92 = .ok (.iconst (-1), 1) := by decide +kernel
theorem dX5_betterOf_93 : decode cX5_betterOf 93 = .ok (.if_icmp .eq 14, 3) := by decide +kernel
theorem dX5_betterOf_96 : decode cX5_betterOf 96 = .ok (.iload_n 3, 1) := by decide +kernel
theorem dX5_betterOf_97 : decode cX5_betterOf 97 = .ok (.invokestatic 143, 3) := by decide +kernel
theorem dX5_betterOf_100 : decode cX5_betterOf 100 = .ok (.iload_n 2, 1) := by decide +kernel
theorem dX5_betterOf_101 : decode cX5_betterOf 101 = .ok (.invokestatic 143, 3) := by decide +kernel
theorem dX5_betterOf_104 : decode cX5_betterOf 104 = .ok (.if_icmp .ge 7, 3) := by decide +kernel
theorem dX5_betterOf_107 : decode cX5_betterOf 107 = .ok (.iload_n 3, 1) := by decide +kernel
theorem dX5_betterOf_108 : decode cX5_betterOf 108 = .ok (.goto 4, 3) := by decide +kernel
theorem dX5_betterOf_111 : decode cX5_betterOf 111 = .ok (.iload_n 2, 1) := by decide +kernel
theorem dX5_betterOf_112 : decode cX5_betterOf 112 = .ok (.istore_n 2, 1) := by decide +kernel
theorem dX5_betterOf_113 : decode cX5_betterOf 113 = .ok (.iinc 3 1, 3) := by decide +kernel
theorem dX5_betterOf_116 : decode cX5_betterOf 116 = .ok (.goto (-112), 3) := by decide +kernel
theorem dX5_betterOf_119 : decode cX5_betterOf 119 = .ok (.iload_n 2, 1) := by decide +kernel
theorem dX5_betterOf_120 : decode cX5_betterOf 120 = .ok (.ireturn, 1) := by decide +kernel
theorem dX5_better_0 : decode cX5_better 0 = .ok (.iload_n 1, 1) := by decide +kernel
theorem dX5_better_1 : decode cX5_better 1 = .ok (.iconst 0, 1) := by decide +kernel
theorem dX5_better_2 : decode cX5_better 2 = .ok (.bipush 9, 2) := by decide +kernel
theorem dX5_better_4 : decode cX5_better 4 = .ok (.invokestatic 75, 3) := by decide +kernel
theorem dX5_better_7 : decode cX5_better 7 = .ok (.ifCond .eq 11, 3) := by decide +kernel
theorem dX5_better_10 : decode cX5_better 10 = .ok (.aload_n 0, 1) := by decide +kernel
theorem dX5_better_11 : decode cX5_better 11 = .ok (.iload_n 1, 1) := by decide +kernel
theorem dX5_better_12 : decode cX5_better 12 = .ok (.invokevirtual 165, 3) := by decide +kernel
theorem dX5_better_15 : decode cX5_better 15 = .ok (.goto 5, 3) := by decide +kernel
theorem dX5_better_18 : decode cX5_better 18 = .ok (.bipush (-2), 2) := by decide +kernel
theorem dX5_better_20 : decode cX5_better 20 = .ok (.ireturn, 1) := by decide +kernel
theorem dX5_freeSigns_0 : decode cX5_freeSigns 0 = .ok (.iconst 0, 1) := by decide +kernel
theorem dX5_freeSigns_1 : decode cX5_freeSigns 1 = .ok (.istore_n 1, 1) := by decide +kernel
theorem dX5_freeSigns_2 : decode cX5_freeSigns 2 = .ok (.iconst 1, 1) := by decide +kernel
theorem dX5_freeSigns_3 : decode cX5_freeSigns 3 = .ok (.istore_n 2, 1) := by decide +kernel
theorem dX5_freeSigns_4 : decode cX5_freeSigns 4 = .ok (.iload_n 2, 1) := by decide +kernel
theorem dX5_freeSigns_5 : decode cX5_freeSigns 5 = .ok (.bipush 64, 2) := by decide +kernel
theorem dX5_freeSigns_7 : decode cX5_freeSigns 7 = .ok (.if_icmp .ge 26, 3) := by decide +kernel
theorem dX5_freeSigns_10 : decode cX5_freeSigns 10 = .ok (.iload_n 1, 1) := by decide +kernel
theorem dX5_freeSigns_11 : decode cX5_freeSigns 11 = .ok (.aload_n 0, 1) := by decide +kernel
theorem dX5_freeSigns_12 : decode cX5_freeSigns 12 = .ok (.iload_n 2, 1) := by decide +kernel
theorem dX5_freeSigns_13 : decode cX5_freeSigns 13 = .ok (.invokevirtual 122, 3) := by decide +kernel
theorem dX5_freeSigns_16 : decode cX5_freeSigns 16 = .ok (.iconst (-1), 1) := by decide +kernel
theorem dX5_freeSigns_17 : decode cX5_freeSigns 17 = .ok (.if_icmp .ne 7, 3) := by decide +kernel
theorem dX5_freeSigns_20 : decode cX5_freeSigns 20 = .ok (.iconst 1, 1) := by decide +kernel
theorem dX5_freeSigns_21 : decode cX5_freeSigns 21 = .ok (.goto 4, 3) := by decide +kernel
theorem dX5_freeSigns_24 : decode cX5_freeSigns 24 = .ok (.iconst 0, 1) := by decide +kernel
theorem dX5_freeSigns_25 : decode cX5_freeSigns 25 = .ok (.iadd, 1) := by decide +kernel
theorem dX5_freeSigns_26 : decode cX5_freeSigns 26 = .ok (.istore_n 1, 1) := by decide +kernel
theorem dX5_freeSigns_27 : decode cX5_freeSigns 27 = .ok (.iinc 2 1, 3) := by decide +kernel
theorem dX5_freeSigns_30 : decode cX5_freeSigns 30 = .ok (.goto (-26), 3) := by decide +kernel
theorem dX5_freeSigns_33 : decode cX5_freeSigns 33 = .ok (.iload_n 1, 1) := by decide +kernel
theorem dX5_freeSigns_34 : decode cX5_freeSigns 34 = .ok (.ireturn, 1) := by decide +kernel
theorem dX5_shortsOf_0 : decode cX5_shortsOf 0 = .ok (.aload_n 0, 1) := by decide +kernel
theorem dX5_shortsOf_1 : decode cX5_shortsOf 1 = .ok (.invokevirtual 100, 3) := by decide +kernel
theorem dX5_shortsOf_4 : decode cX5_shortsOf 4 = .ok (.iload_n 1, 1) := by decide +kernel
theorem dX5_shortsOf_5 : decode cX5_shortsOf 5 = .ok (.aload_n 0, 1) := by decide +kernel
theorem dX5_shortsOf_6 : decode cX5_shortsOf 6 = .ok (.invokevirtual 168, 3) := by decide +kernel
theorem dX5_shortsOf_9 : decode cX5_shortsOf 9 = .ok (.if_icmp .ge 7, 3) := by decide +kernel
theorem dX5_shortsOf_12 : decode cX5_shortsOf 12 = .ok (.iload_n 1, 1) := by decide +kernel
theorem dX5_shortsOf_13 : decode cX5_shortsOf 13 = .ok (.goto 7, 3) := by decide +kernel
theorem dX5_shortsOf_16 : decode cX5_shortsOf 16 = .ok (.aload_n 0, 1) := by decide +kernel
theorem dX5_shortsOf_17 : decode cX5_shortsOf 17 = .ok (.invokevirtual 168, 3) := by decide +kernel
theorem dX5_shortsOf_20 : decode cX5_shortsOf 20 = .ok (.istore_n 3, 1) := by decide +kernel
theorem dX5_shortsOf_21 : decode cX5_shortsOf 21 = .ok (.iconst 0, 1) := by decide +kernel
theorem dX5_shortsOf_22 : decode cX5_shortsOf 22 = .ok (.istore 4, 2) := by decide +kernel
theorem dX5_shortsOf_24 : decode cX5_shortsOf 24 = .ok (.iconst 0, 1) := by decide +kernel
theorem dX5_shortsOf_25 : decode cX5_shortsOf 25 = .ok (.istore 5, 2) := by decide +kernel
theorem dX5_shortsOf_27 : decode cX5_shortsOf 27 = .ok (.iconst 0, 1) := by decide +kernel
theorem dX5_shortsOf_28 : decode cX5_shortsOf 28 = .ok (.istore 6, 2) := by decide +kernel
theorem dX5_shortsOf_30 : decode cX5_shortsOf 30 = .ok (.iload 6, 2) := by decide +kernel
theorem dX5_shortsOf_32 : decode cX5_shortsOf 32 = .ok (.iload_n 3, 1) := by decide +kernel
theorem dX5_shortsOf_33 : decode cX5_shortsOf 33 = .ok (.if_icmp .ge 125, 3) := by decide +kernel
theorem dX5_shortsOf_36 : decode cX5_shortsOf 36 = .ok (.iconst (-1), 1) := by decide +kernel
theorem dX5_shortsOf_37 : decode cX5_shortsOf 37 = .ok (.istore 7, 2) := by decide +kernel
theorem dX5_shortsOf_39 : decode cX5_shortsOf 39 = .ok (.iconst 0, 1) := by decide +kernel
theorem dX5_shortsOf_40 : decode cX5_shortsOf 40 = .ok (.istore 8, 2) := by decide +kernel
theorem dX5_shortsOf_42 : decode cX5_shortsOf 42 = .ok (.iconst 0, 1) := by decide +kernel
theorem dX5_shortsOf_43 : decode cX5_shortsOf 43 = .ok (.istore 9, 2) := by decide +kernel
theorem dX5_shortsOf_45 : decode cX5_shortsOf 45 = .ok (.iload 9, 2) := by decide +kernel
theorem dX5_shortsOf_47 : decode cX5_shortsOf 47 = .ok (.aload_n 0, 1) := by decide +kernel
theorem dX5_shortsOf_48 : decode cX5_shortsOf 48 = .ok (.getfield 86, 3) := by decide +kernel
theorem dX5_shortsOf_51 : decode cX5_shortsOf 51 = .ok (.if_icmp .ge 75, 3) := by decide +kernel
theorem dX5_shortsOf_54 : decode cX5_shortsOf 54 = .ok (.iload 4, 2) := by decide +kernel
theorem dX5_shortsOf_56 : decode cX5_shortsOf 56 = .ok (.iload 9, 2) := by decide +kernel
theorem dX5_shortsOf_58 : decode cX5_shortsOf 58 = .ok (.ishr, 1) := by decide +kernel
theorem dX5_shortsOf_59 : decode cX5_shortsOf 59 = .ok (.iconst 1, 1) := by decide +kernel
theorem dX5_shortsOf_60 : decode cX5_shortsOf 60 = .ok (.iand, 1) := by decide +kernel
theorem dX5_shortsOf_61 : decode cX5_shortsOf 61 = .ok (.iconst 1, 1) := by decide +kernel
theorem dX5_shortsOf_62 : decode cX5_shortsOf 62 = .ok (.if_icmp .ne 7, 3) := by decide +kernel
theorem dX5_shortsOf_65 : decode cX5_shortsOf 65 = .ok (.iconst 0, 1) := by decide +kernel
theorem dX5_shortsOf_66 : decode cX5_shortsOf 66 = .ok (.goto 20, 3) := by decide +kernel
theorem dX5_shortsOf_69 : decode cX5_shortsOf 69 = .ok (.aload_n 0, 1) := by decide +kernel
theorem dX5_shortsOf_70 : decode cX5_shortsOf 70 = .ok (.getfield 28, 3) := by decide +kernel
theorem dX5_shortsOf_73 : decode cX5_shortsOf 73 = .ok (.iload 9, 2) := by decide +kernel
theorem dX5_shortsOf_75 : decode cX5_shortsOf 75 = .ok (.iaload, 1) := by decide +kernel
theorem dX5_shortsOf_76 : decode cX5_shortsOf 76 = .ok (.aload_n 0, 1) := by decide +kernel
theorem dX5_shortsOf_77 : decode cX5_shortsOf 77 = .ok (.getfield 25, 3) := by decide +kernel
theorem dX5_shortsOf_80 : decode cX5_shortsOf 80 = .ok (.iload 9, 2) := by decide +kernel
theorem dX5_shortsOf_82 : decode cX5_shortsOf 82 = .ok (.iaload, 1) := by decide +kernel
theorem dX5_shortsOf_83 : decode cX5_shortsOf 83 = .ok (.iconst 1, 1) := by decide +kernel
theorem dX5_shortsOf_84 : decode cX5_shortsOf 84 = .ok (.isub, 1) := by decide +kernel
theorem dX5_shortsOf_85 : decode cX5_shortsOf 85 = .ok (.imul, 1) := by decide +kernel
theorem dX5_shortsOf_86 : decode cX5_shortsOf 86 = .ok (.istore 10, 2) := by decide +kernel
theorem dX5_shortsOf_88 : decode cX5_shortsOf 88 = .ok (.iload 10, 2) := by decide +kernel
theorem dX5_shortsOf_90 : decode cX5_shortsOf 90 = .ok (.iload 8, 2) := by decide +kernel
theorem dX5_shortsOf_92 : decode cX5_shortsOf 92 = .ok (.if_icmp .le 8, 3) := by decide +kernel
theorem dX5_shortsOf_95 : decode cX5_shortsOf 95 = .ok (.iload 9, 2) := by decide +kernel
theorem dX5_shortsOf_97 : decode cX5_shortsOf 97 = .ok (.goto 5, 3) := by decide +kernel
theorem dX5_shortsOf_100 : decode cX5_shortsOf 100 = .ok (.iload 7, 2) := by decide +kernel
theorem dX5_shortsOf_102 : decode cX5_shortsOf 102 = .ok (.istore 7, 2) := by decide +kernel
theorem dX5_shortsOf_104 : decode cX5_shortsOf 104 = .ok (.iload 10, 2) := by decide +kernel
theorem dX5_shortsOf_106 : decode cX5_shortsOf 106 = .ok (.iload 8, 2) := by decide +kernel
theorem dX5_shortsOf_108 : decode cX5_shortsOf 108 = .ok (.if_icmp .le 8, 3) := by decide +kernel
theorem dX5_shortsOf_111 : decode cX5_shortsOf 111 = .ok (.iload 10, 2) := by decide +kernel
theorem dX5_shortsOf_113 : decode cX5_shortsOf 113 = .ok (.goto 5, 3) := by decide +kernel
theorem dX5_shortsOf_116 : decode cX5_shortsOf 116 = .ok (.iload 8, 2) := by decide +kernel
theorem dX5_shortsOf_118 : decode cX5_shortsOf 118 = .ok (.istore 8, 2) := by decide +kernel
theorem dX5_shortsOf_120 : decode cX5_shortsOf 120 = .ok (.iinc 9 1, 3) := by decide +kernel
theorem dX5_shortsOf_123 : decode cX5_shortsOf 123 = .ok (.goto (-78), 3) := by decide +kernel
theorem dX5_shortsOf_126 : decode cX5_shortsOf 126 = .ok (.iload 4, 2) := by decide +kernel
theorem dX5_shortsOf_128 : decode cX5_shortsOf 128 = .ok (.iload 7, 2) := by decide +kernel
theorem dX5_shortsOf_130 : decode cX5_shortsOf 130 = .ok (.iconst (-1), 1) := by decide +kernel
theorem dX5_shortsOf_131 : decode cX5_shortsOf 131 = .ok (.if_icmp .ne 7, 3) := by decide +kernel
theorem dX5_shortsOf_134 : decode cX5_shortsOf 134 = .ok (.iconst 0, 1) := by decide +kernel
theorem dX5_shortsOf_135 : decode cX5_shortsOf 135 = .ok (.goto 7, 3) := by decide +kernel
theorem dX5_shortsOf_138 : decode cX5_shortsOf 138 = .ok (.iconst 1, 1) := by decide +kernel
theorem dX5_shortsOf_139 : decode cX5_shortsOf 139 = .ok (.iload 7, 2) := by decide +kernel
theorem dX5_shortsOf_141 : decode cX5_shortsOf 141 = .ok (.ishl, 1) := by decide +kernel
theorem dX5_shortsOf_142 : decode cX5_shortsOf 142 = .ok (.ior, 1) := by decide +kernel
theorem dX5_shortsOf_143 : decode cX5_shortsOf 143 = .ok (.istore 4, 2) := by decide +kernel
theorem dX5_shortsOf_145 : decode cX5_shortsOf 145 = .ok (.iload 5, 2) := by decide +kernel
theorem dX5_shortsOf_147 : decode cX5_shortsOf 147 = .ok (.iload 8, 2) := by decide +kernel
theorem dX5_shortsOf_149 : decode cX5_shortsOf 149 = .ok (.iadd, 1) := by decide +kernel
theorem dX5_shortsOf_150 : decode cX5_shortsOf 150 = .ok (.istore 5, 2) := by decide +kernel
theorem dX5_shortsOf_152 : decode cX5_shortsOf 152 = .ok (.iinc 6 1, 3) := by decide +kernel
theorem dX5_shortsOf_155 : decode cX5_shortsOf 155 = .ok (.goto (-125), 3) := by decide +kernel
theorem dX5_shortsOf_158 : decode cX5_shortsOf 158 = .ok (.iload_n 2, 1) := by decide +kernel
theorem dX5_shortsOf_159 : decode cX5_shortsOf 159 = .ok (.ifCond .ne 8, 3) := by decide +kernel
theorem dX5_shortsOf_162 : decode cX5_shortsOf 162 = .ok (.iload 4, 2) := by decide +kernel
theorem dX5_shortsOf_164 : decode cX5_shortsOf 164 = .ok (.goto 17, 3) := by decide +kernel
theorem dX5_shortsOf_167 : decode cX5_shortsOf 167 = .ok (.iload_n 2, 1) := by decide +kernel
theorem dX5_shortsOf_168 : decode cX5_shortsOf 168 = .ok (.iconst 1, 1) := by decide +kernel
theorem dX5_shortsOf_169 : decode cX5_shortsOf 169 = .ok (.if_icmp .ne 8, 3) := by decide +kernel
theorem dX5_shortsOf_172 : decode cX5_shortsOf 172 = .ok (.iload 5, 2) := by decide +kernel
theorem dX5_shortsOf_174 : decode cX5_shortsOf 174 = .ok (.goto 7, 3) := by decide +kernel
theorem dX5_shortsOf_177 : decode cX5_shortsOf 177 = .ok (.aload_n 0, 1) := by decide +kernel
theorem dX5_shortsOf_178 : decode cX5_shortsOf 178 = .ok (.invokevirtual 168, 3) := by decide +kernel
theorem dX5_shortsOf_181 : decode cX5_shortsOf 181 = .ok (.ireturn, 1) := by decide +kernel
theorem dX5_shorts_0 : decode cX5_shorts 0 = .ok (.iload_n 1, 1) := by decide +kernel
theorem dX5_shorts_1 : decode cX5_shorts 1 = .ok (.iconst 0, 1) := by decide +kernel
theorem dX5_shorts_2 : decode cX5_shorts 2 = .ok (.bipush 8, 2) := by decide +kernel
theorem dX5_shorts_4 : decode cX5_shorts 4 = .ok (.invokestatic 75, 3) := by decide +kernel
theorem dX5_shorts_7 : decode cX5_shorts 7 = .ok (.ifCond .eq 21, 3) := by decide +kernel
theorem dX5_shorts_10 : decode cX5_shorts 10 = .ok (.iload_n 2, 1) := by decide +kernel
theorem dX5_shorts_11 : decode cX5_shorts 11 = .ok (.iconst 0, 1) := by decide +kernel
theorem dX5_shorts_12 : decode cX5_shorts 12 = .ok (.iconst 2, 1) := by decide +kernel
theorem dX5_shorts_13 : decode cX5_shorts 13 = .ok (.invokestatic 75, 3) := by decide +kernel
theorem dX5_shorts_16 : decode cX5_shorts 16 = .ok (.ifCond .eq 12, 3) := by decide +kernel
theorem dX5_shorts_19 : decode cX5_shorts 19 = .ok (.aload_n 0, 1) := by decide +kernel
theorem dX5_shorts_20 : decode cX5_shorts 20 = .ok (.iload_n 1, 1) := by decide +kernel
theorem dX5_shorts_21 : decode cX5_shorts 21 = .ok (.iload_n 2, 1) := by decide +kernel
theorem dX5_shorts_22 : decode cX5_shorts 22 = .ok (.invokevirtual 171, 3) := by decide +kernel
theorem dX5_shorts_25 : decode cX5_shorts 25 = .ok (.goto 5, 3) := by decide +kernel
theorem dX5_shorts_28 : decode cX5_shorts 28 = .ok (.bipush (-2), 2) := by decide +kernel
theorem dX5_shorts_30 : decode cX5_shorts 30 = .ok (.ireturn, 1) := by decide +kernel
theorem dX5_underOf_0 : decode cX5_underOf 0 = .ok (.aload_n 0, 1) := by decide +kernel
theorem dX5_underOf_1 : decode cX5_underOf 1 = .ok (.getfield 25, 3) := by decide +kernel
theorem dX5_underOf_4 : decode cX5_underOf 4 = .ok (.iload_n 1, 1) := by decide +kernel
theorem dX5_underOf_5 : decode cX5_underOf 5 = .ok (.iaload, 1) := by decide +kernel
theorem dX5_underOf_6 : decode cX5_underOf 6 = .ok (.istore_n 3, 1) := by decide +kernel
theorem dX5_underOf_7 : decode cX5_underOf 7 = .ok (.iconst 0, 1) := by decide +kernel
theorem dX5_underOf_8 : decode cX5_underOf 8 = .ok (.istore 4, 2) := by decide +kernel
theorem dX5_underOf_10 : decode cX5_underOf 10 = .ok (.iconst 0, 1) := by decide +kernel
theorem dX5_underOf_11 : decode cX5_underOf 11 = .ok (.istore 5, 2) := by decide +kernel
theorem dX5_underOf_13 : decode cX5_underOf 13 = .ok (.iload 5, 2) := by decide +kernel
theorem dX5_underOf_15 : decode cX5_underOf 15 = .ok (.aload_n 0, 1) := by decide +kernel
theorem dX5_underOf_16 : decode cX5_underOf 16 = .ok (.getfield 86, 3) := by decide +kernel
theorem dX5_underOf_19 : decode cX5_underOf 19 = .ok (.if_icmp .ge 129, 3) := by decide +kernel
theorem dX5_underOf_22 : decode cX5_underOf 22 = .ok (.iload_n 2, 1) := by decide +kernel
theorem dX5_underOf_23 : decode cX5_underOf 23 = .ok (.aload_n 0, 1) := by decide +kernel
theorem dX5_underOf_24 : decode cX5_underOf 24 = .ok (.getfield 79, 3) := by decide +kernel
theorem dX5_underOf_27 : decode cX5_underOf 27 = .ok (.iload_n 3, 1) := by decide +kernel
theorem dX5_underOf_28 : decode cX5_underOf 28 = .ok (.isub, 1) := by decide +kernel
theorem dX5_underOf_29 : decode cX5_underOf 29 = .ok (.if_icmp .gt 119, 3) := by decide +kernel
theorem dX5_underOf_32 : decode cX5_underOf 32 = .ok (.aload_n 0, 1) := by decide +kernel
theorem dX5_underOf_33 : decode cX5_underOf 33 = .ok (.getfield 25, 3) := by decide +kernel
theorem dX5_underOf_36 : decode cX5_underOf 36 = .ok (.iload 5, 2) := by decide +kernel
theorem dX5_underOf_38 : decode cX5_underOf 38 = .ok (.iaload, 1) := by decide +kernel
theorem dX5_underOf_39 : decode cX5_underOf 39 = .ok (.iload_n 3, 1) := by decide +kernel
theorem dX5_underOf_40 : decode cX5_underOf 40 = .ok (.if_icmp .ne 7, 3) := by decide +kernel
theorem dX5_underOf_43 : decode cX5_underOf 43 = .ok (.iconst 1, 1) := by decide +kernel
theorem dX5_underOf_44 : decode cX5_underOf 44 = .ok (.goto 4, 3) := by decide +kernel
theorem dX5_underOf_47 : decode cX5_underOf 47 = .ok (.iconst 0, 1) := by decide +kernel
theorem dX5_underOf_48 : decode cX5_underOf 48 = .ok (.istore 6, 2) := by decide +kernel
theorem dX5_underOf_50 : decode cX5_underOf 50 = .ok (.iconst 0, 1) := by decide +kernel
theorem dX5_underOf_51 : decode cX5_underOf 51 = .ok (.istore 7, 2) := by decide +kernel
theorem dX5_underOf_53 : decode cX5_underOf 53 = .ok (.iload 7, 2) := by decide +kernel
theorem dX5_underOf_55 : decode cX5_underOf 55 = .ok (.iload_n 3, 1) := by decide +kernel
theorem dX5_underOf_56 : decode cX5_underOf 56 = .ok (.if_icmp .ge 68, 3) := by decide +kernel
theorem dX5_underOf_59 : decode cX5_underOf 59 = .ok (.iload 6, 2) := by decide +kernel
theorem dX5_underOf_61 : decode cX5_underOf 61 = .ok (.ifCond .eq 63, 3) := by decide +kernel
theorem dX5_underOf_64 : decode cX5_underOf 64 = .ok (.aload_n 0, 1) := by decide +kernel
theorem dX5_underOf_65 : decode cX5_underOf 65 = .ok (.iload_n 2, 1) := by decide +kernel
theorem dX5_underOf_66 : decode cX5_underOf 66 = .ok (.iload 7, 2) := by decide +kernel
theorem dX5_underOf_68 : decode cX5_underOf 68 = .ok (.iadd, 1) := by decide +kernel
theorem dX5_underOf_69 : decode cX5_underOf 69 = .ok (.invokevirtual 119, 3) := by decide +kernel
theorem dX5_underOf_72 : decode cX5_underOf 72 = .ok (.aload_n 0, 1) := by decide +kernel
theorem dX5_underOf_73 : decode cX5_underOf 73 = .ok (.getfield 7, 3) := by decide +kernel
theorem dX5_underOf_76 : decode cX5_underOf 76 = .ok (.aload_n 0, 1) := by decide +kernel
theorem dX5_underOf_77 : decode cX5_underOf 77 = .ok (.getfield 22, 3) := by decide +kernel
theorem dX5_underOf_80 : decode cX5_underOf 80 = .ok (.bipush 6, 2) := by decide +kernel
theorem dX5_underOf_82 : decode cX5_underOf 82 = .ok (.iload_n 1, 1) := by decide +kernel
theorem dX5_underOf_83 : decode cX5_underOf 83 = .ok (.imul, 1) := by decide +kernel
theorem dX5_underOf_84 : decode cX5_underOf 84 = .ok (.iload 7, 2) := by decide +kernel
theorem dX5_underOf_86 : decode cX5_underOf 86 = .ok (.iadd, 1) := by decide +kernel
theorem dX5_underOf_87 : decode cX5_underOf 87 = .ok (.iaload, 1) := by decide +kernel
theorem dX5_underOf_88 : decode cX5_underOf 88 = .ok (.iaload, 1) := by decide +kernel
theorem dX5_underOf_89 : decode cX5_underOf 89 = .ok (.aload_n 0, 1) := by decide +kernel
theorem dX5_underOf_90 : decode cX5_underOf 90 = .ok (.getfield 7, 3) := by decide +kernel
theorem dX5_underOf_93 : decode cX5_underOf 93 = .ok (.aload_n 0, 1) := by decide +kernel
theorem dX5_underOf_94 : decode cX5_underOf 94 = .ok (.getfield 22, 3) := by decide +kernel
theorem dX5_underOf_97 : decode cX5_underOf 97 = .ok (.bipush 6, 2) := by decide +kernel
theorem dX5_underOf_99 : decode cX5_underOf 99 = .ok (.iload 5, 2) := by decide +kernel
theorem dX5_underOf_101 : decode cX5_underOf 101 = .ok (.imul, 1) := by decide +kernel
theorem dX5_underOf_102 : decode cX5_underOf 102 = .ok (.iload 7, 2) := by decide +kernel
theorem dX5_underOf_104 : decode cX5_underOf 104 = .ok (.iadd, 1) := by decide +kernel
theorem dX5_underOf_105 : decode cX5_underOf 105 = .ok (.iaload, 1) := by decide +kernel
theorem dX5_underOf_106 : decode cX5_underOf 106 = .ok (.iaload, 1) := by decide +kernel
theorem dX5_underOf_107 : decode cX5_underOf 107 = .ok (.ior, 1) := by decide +kernel
theorem dX5_underOf_108 : decode cX5_underOf 108 = .ok (.if_icmp .ne 7, 3) := by decide +kernel
theorem dX5_underOf_111 : decode cX5_underOf 111 = .ok (.iconst 1, 1) := by decide +kernel
theorem dX5_underOf_112 : decode cX5_underOf 112 = .ok (.goto 4, 3) := by decide +kernel
theorem dX5_underOf_115 : decode cX5_underOf 115 = .ok (.iconst 0, 1) := by decide +kernel
theorem dX5_underOf_116 : decode cX5_underOf 116 = .ok (.istore 6, 2) := by decide +kernel
theorem dX5_underOf_118 : decode cX5_underOf 118 = .ok (.iinc 7 1, 3) := by decide +kernel
theorem dX5_underOf_121 : decode cX5_underOf 121 = .ok (.goto (-68), 3) := by decide +kernel
theorem dX5_underOf_124 : decode cX5_underOf 124 = .ok (.iload 4, 2) := by decide +kernel
theorem dX5_underOf_126 : decode cX5_underOf 126 = .ok (.iload 6, 2) := by decide +kernel
theorem dX5_underOf_128 : decode cX5_underOf 128 = .ok (.ifCond .eq 10, 3) := by decide +kernel
theorem dX5_underOf_131 : decode cX5_underOf 131 = .ok (.iconst 1, 1) := by decide +kernel
theorem dX5_underOf_132 : decode cX5_underOf 132 = .ok (.iload 5, 2) := by decide +kernel
theorem dX5_underOf_134 : decode cX5_underOf 134 = .ok (.ishl, 1) := by decide +kernel
theorem dX5_underOf_135 : decode cX5_underOf 135 = .ok (.goto 4, 3) := by decide +kernel
theorem dX5_underOf_138 : decode cX5_underOf 138 = .ok (.iconst 0, 1) := by decide +kernel
theorem dX5_underOf_139 : decode cX5_underOf 139 = .ok (.ior, 1) := by decide +kernel
theorem dX5_underOf_140 : decode cX5_underOf 140 = .ok (.istore 4, 2) := by decide +kernel
theorem dX5_underOf_142 : decode cX5_underOf 142 = .ok (.iinc 5 1, 3) := by decide +kernel
theorem dX5_underOf_145 : decode cX5_underOf 145 = .ok (.goto (-132), 3) := by decide +kernel
theorem dX5_underOf_148 : decode cX5_underOf 148 = .ok (.iload 4, 2) := by decide +kernel
theorem dX5_underOf_150 : decode cX5_underOf 150 = .ok (.ireturn, 1) := by decide +kernel
theorem dX5_under_0 : decode cX5_under 0 = .ok (.aload_n 0, 1) := by decide +kernel
theorem dX5_under_1 : decode cX5_under 1 = .ok (.iload_n 1, 1) := by decide +kernel
theorem dX5_under_2 : decode cX5_under 2 = .ok (.invokevirtual 140, 3) := by decide +kernel
theorem dX5_under_5 : decode cX5_under 5 = .ok (.ifCond .eq 16, 3) := by decide +kernel
theorem dX5_under_8 : decode cX5_under 8 = .ok (.iload_n 2, 1) := by decide +kernel
theorem dX5_under_9 : decode cX5_under 9 = .ok (.ifCond .lt 12, 3) := by decide +kernel
theorem dX5_under_12 : decode cX5_under 12 = .ok (.aload_n 0, 1) := by decide +kernel
theorem dX5_under_13 : decode cX5_under 13 = .ok (.iload_n 1, 1) := by decide +kernel
theorem dX5_under_14 : decode cX5_under 14 = .ok (.iload_n 2, 1) := by decide +kernel
theorem dX5_under_15 : decode cX5_under 15 = .ok (.invokevirtual 174, 3) := by decide +kernel
theorem dX5_under_18 : decode cX5_under 18 = .ok (.goto 5, 3) := by decide +kernel
theorem dX5_under_21 : decode cX5_under 21 = .ok (.bipush (-2), 2) := by decide +kernel
theorem dX5_under_23 : decode cX5_under 23 = .ok (.ireturn, 1) := by decide +kernel
theorem dX5_clashOf_0 : decode cX5_clashOf 0 = .ok (.aload_n 0, 1) := by decide +kernel
theorem dX5_clashOf_1 : decode cX5_clashOf 1 = .ok (.invokevirtual 100, 3) := by decide +kernel
theorem dX5_clashOf_4 : decode cX5_clashOf 4 = .ok (.iconst 0, 1) := by decide +kernel
theorem dX5_clashOf_5 : decode cX5_clashOf 5 = .ok (.istore_n 2, 1) := by decide +kernel
theorem dX5_clashOf_6 : decode cX5_clashOf 6 = .ok (.iload_n 2, 1) := by decide +kernel
theorem dX5_clashOf_7 : decode cX5_clashOf 7 = .ok (.aload_n 0, 1) := by decide +kernel
theorem dX5_clashOf_8 : decode cX5_clashOf 8 = .ok (.getfield 59, 3) := by decide +kernel
theorem dX5_clashOf_11 : decode cX5_clashOf 11 = .ok (.iload_n 1, 1) := by decide +kernel
theorem dX5_clashOf_12 : decode cX5_clashOf 12 = .ok (.iaload, 1) := by decide +kernel
theorem dX5_clashOf_13 : decode cX5_clashOf 13 = .ok (.if_icmp .ge 32, 3) := by decide +kernel
theorem dX5_clashOf_16 : decode cX5_clashOf 16 = .ok (.aload_n 0, 1) := by decide +kernel
theorem dX5_clashOf_17 : decode cX5_clashOf 17 = .ok (.getfield 62, 3) := by decide +kernel
theorem dX5_clashOf_20 : decode cX5_clashOf 20 = .ok (.bipush 48, 2) := by decide +kernel
theorem dX5_clashOf_22 : decode cX5_clashOf 22 = .ok (.iload_n 1, 1) := by decide +kernel
theorem dX5_clashOf_23 : decode cX5_clashOf 23 = .ok (.imul, 1) := by decide +kernel
theorem dX5_clashOf_24 : decode cX5_clashOf 24 = .ok (.iload_n 2, 1) := by decide +kernel
theorem dX5_clashOf_25 : decode cX5_clashOf 25 = .ok (.iadd, 1) := by decide +kernel
theorem dX5_clashOf_26 : decode cX5_clashOf 26 = .ok (.iaload, 1) := by decide +kernel
theorem dX5_clashOf_27 : decode cX5_clashOf 27 = .ok (.iconst 0, 1) := by decide +kernel
theorem dX5_clashOf_28 : decode cX5_clashOf 28 = .ok (.bipush 63, 2) := by decide +kernel
theorem dX5_clashOf_30 : decode cX5_clashOf 30 = .ok (.invokestatic 75, 3) := by decide +kernel
theorem dX5_clashOf_33 : decode cX5_clashOf 33 = .ok (.ifCond .ne 6, 3) := by decide +kernel
theorem dX5_clashOf_36 : decode cX5_clashOf 36 = .ok (.bipush (-3), 2) := by decide +kernel
theorem dX5_clashOf_38 : decode cX5_clashOf 38 = .ok (.ireturn, 1) := by decide +kernel
theorem dX5_clashOf_39 : decode cX5_clashOf 39 = .ok (.iinc 2 1, 3) := by decide +kernel
theorem dX5_clashOf_42 : decode cX5_clashOf 42 = .ok (.goto (-36), 3) := by decide +kernel
theorem dX5_clashOf_45 : decode cX5_clashOf 45 = .ok (.iconst 0, 1) := by decide +kernel
theorem dX5_clashOf_46 : decode cX5_clashOf 46 = .ok (.istore_n 2, 1) := by decide +kernel
theorem dX5_clashOf_47 : decode cX5_clashOf 47 = .ok (.iload_n 2, 1) := by decide +kernel
theorem dX5_clashOf_48 : decode cX5_clashOf 48 = .ok (.aload_n 0, 1) := by decide +kernel
theorem dX5_clashOf_49 : decode cX5_clashOf 49 = .ok (.getfield 79, 3) := by decide +kernel
theorem dX5_clashOf_52 : decode cX5_clashOf 52 = .ok (.if_icmp .ge 53, 3) := by decide +kernel
theorem dX5_clashOf_55 : decode cX5_clashOf 55 = .ok (.aload_n 0, 1) := by decide +kernel
theorem dX5_clashOf_56 : decode cX5_clashOf 56 = .ok (.getfield 79, 3) := by decide +kernel
theorem dX5_clashOf_59 : decode cX5_clashOf 59 = .ok (.iconst 1, 1) := by decide +kernel
theorem dX5_clashOf_60 : decode cX5_clashOf 60 = .ok (.isub, 1) := by decide +kernel
theorem dX5_clashOf_61 : decode cX5_clashOf 61 = .ok (.iload_n 2, 1) := by decide +kernel
theorem dX5_clashOf_62 : decode cX5_clashOf 62 = .ok (.isub, 1) := by decide +kernel
theorem dX5_clashOf_63 : decode cX5_clashOf 63 = .ok (.istore_n 3, 1) := by decide +kernel
theorem dX5_clashOf_64 : decode cX5_clashOf 64 = .ok (.iload_n 3, 1) := by decide +kernel
theorem dX5_clashOf_65 : decode cX5_clashOf 65 = .ok (.aload_n 0, 1) := by decide +kernel
theorem dX5_clashOf_66 : decode cX5_clashOf 66 = .ok (.getfield 59, 3) := by decide +kernel
theorem dX5_clashOf_69 : decode cX5_clashOf 69 = .ok (.iload_n 1, 1) := by decide +kernel
theorem dX5_clashOf_70 : decode cX5_clashOf 70 = .ok (.iaload, 1) := by decide +kernel
theorem dX5_clashOf_71 : decode cX5_clashOf 71 = .ok (.if_icmp .ge 28, 3) := by decide +kernel
theorem dX5_clashOf_74 : decode cX5_clashOf 74 = .ok (.aload_n 0, 1) := by decide +kernel
theorem dX5_clashOf_75 : decode cX5_clashOf 75 = .ok (.iload_n 2, 1) := by decide +kernel
theorem dX5_clashOf_76 : decode cX5_clashOf 76 = .ok (.invokevirtual 119, 3) := by decide +kernel
theorem dX5_clashOf_79 : decode cX5_clashOf 79 = .ok (.aload_n 0, 1) := by decide +kernel
theorem dX5_clashOf_80 : decode cX5_clashOf 80 = .ok (.getfield 62, 3) := by decide +kernel
theorem dX5_clashOf_83 : decode cX5_clashOf 83 = .ok (.bipush 48, 2) := by decide +kernel
theorem dX5_clashOf_85 : decode cX5_clashOf 85 = .ok (.iload_n 1, 1) := by decide +kernel
theorem dX5_clashOf_86 : decode cX5_clashOf 86 = .ok (.imul, 1) := by decide +kernel
theorem dX5_clashOf_87 : decode cX5_clashOf 87 = .ok (.iload_n 3, 1) := by decide +kernel
theorem dX5_clashOf_88 : decode cX5_clashOf 88 = .ok (.iadd, 1) := by decide +kernel
theorem dX5_clashOf_89 : decode cX5_clashOf 89 = .ok (.iaload, 1) := by decide +kernel
theorem dX5_clashOf_90 : decode cX5_clashOf 90 = .ok (.invokestatic 128, 3) := by decide +kernel
theorem dX5_clashOf_93 : decode cX5_clashOf 93 = .ok (.iand, 1) := by decide +kernel
theorem dX5_clashOf_94 : decode cX5_clashOf 94 = .ok (.ifCond .eq 5, 3) := by decide +kernel
theorem dX5_clashOf_97 : decode cX5_clashOf 97 = .ok (.iload_n 2, 1) := by decide +kernel
theorem dX5_clashOf_98 : decode cX5_clashOf 98 = .ok (.ireturn, 1) := by decide +kernel
theorem dX5_clashOf_99 : decode cX5_clashOf 99 = .ok (.iinc 2 1, 3) := by decide +kernel
theorem dX5_clashOf_102 : decode cX5_clashOf 102 = .ok (.goto (-55), 3) := by decide +kernel
theorem dX5_clashOf_105 : decode cX5_clashOf 105 = .ok (.iconst (-1), 1) := by decide +kernel
theorem dX5_clashOf_106 : decode cX5_clashOf 106 = .ok (.ireturn, 1) := by decide +kernel
theorem dX5_clash_0 : decode cX5_clash 0 = .ok (.iload_n 1, 1) := by decide +kernel
theorem dX5_clash_1 : decode cX5_clash 1 = .ok (.invokestatic 103, 3) := by decide +kernel
theorem dX5_clash_4 : decode cX5_clash 4 = .ok (.ifCond .ne 6, 3) := by decide +kernel
theorem dX5_clash_7 : decode cX5_clash 7 = .ok (.bipush (-2), 2) := by decide +kernel
theorem dX5_clash_9 : decode cX5_clash 9 = .ok (.ireturn, 1) := by decide +kernel
theorem dX5_clash_10 : decode cX5_clash 10 = .ok (.aload_n 0, 1) := by decide +kernel
theorem dX5_clash_11 : decode cX5_clash 11 = .ok (.getfield 52, 3) := by decide +kernel
theorem dX5_clash_14 : decode cX5_clash 14 = .ok (.iload_n 1, 1) := by decide +kernel
theorem dX5_clash_15 : decode cX5_clash 15 = .ok (.baload, 1) := by decide +kernel
theorem dX5_clash_16 : decode cX5_clash 16 = .ok (.ifCond .eq 11, 3) := by decide +kernel
theorem dX5_clash_19 : decode cX5_clash 19 = .ok (.aload_n 0, 1) := by decide +kernel
theorem dX5_clash_20 : decode cX5_clash 20 = .ok (.iload_n 1, 1) := by decide +kernel
theorem dX5_clash_21 : decode cX5_clash 21 = .ok (.invokevirtual 177, 3) := by decide +kernel
theorem dX5_clash_24 : decode cX5_clash 24 = .ok (.goto 8, 3) := by decide +kernel
theorem dX5_clash_27 : decode cX5_clash 27 = .ok (.aload_n 0, 1) := by decide +kernel
theorem dX5_clash_28 : decode cX5_clash 28 = .ok (.iconst 1, 1) := by decide +kernel
theorem dX5_clash_29 : decode cX5_clash 29 = .ok (.invokevirtual 107, 3) := by decide +kernel
theorem dX5_clash_32 : decode cX5_clash 32 = .ok (.ireturn, 1) := by decide +kernel
theorem dX5_hand_0 : decode cX5_hand 0 = .ok (.iload_n 1, 1) := by decide +kernel
theorem dX5_hand_1 : decode cX5_hand 1 = .ok (.iconst 0, 1) := by decide +kernel
theorem dX5_hand_2 : decode cX5_hand 2 = .ok (.iconst 2, 1) := by decide +kernel
theorem dX5_hand_3 : decode cX5_hand 3 = .ok (.invokestatic 75, 3) := by decide +kernel
theorem dX5_hand_6 : decode cX5_hand 6 = .ok (.ifCond .eq 22, 3) := by decide +kernel
theorem dX5_hand_9 : decode cX5_hand 9 = .ok (.iload_n 2, 1) := by decide +kernel
theorem dX5_hand_10 : decode cX5_hand 10 = .ok (.iconst 0, 1) := by decide +kernel
theorem dX5_hand_11 : decode cX5_hand 11 = .ok (.iconst 5, 1) := by decide +kernel
theorem dX5_hand_12 : decode cX5_hand 12 = .ok (.invokestatic 75, 3) := by decide +kernel
theorem dX5_hand_15 : decode cX5_hand 15 = .ok (.ifCond .eq 13, 3) := by decide +kernel
theorem dX5_hand_18 : decode cX5_hand 18 = .ok (.iload_n 3, 1) := by decide +kernel
theorem dX5_hand_19 : decode cX5_hand 19 = .ok (.iconst 0, 1) := by decide +kernel
theorem dX5_hand_20 : decode cX5_hand 20 = .ok (.bipush 99, 2) := by decide +kernel
theorem dX5_hand_22 : decode cX5_hand 22 = .ok (.invokestatic 75, 3) := by decide +kernel
theorem dX5_hand_25 : decode cX5_hand 25 = .ok (.ifCond .ne 6, 3) := by decide +kernel
theorem dX5_hand_28 : decode cX5_hand 28 = .ok (.bipush (-2), 2) := by decide +kernel
theorem dX5_hand_30 : decode cX5_hand 30 = .ok (.ireturn, 1) := by decide +kernel
theorem dX5_hand_31 : decode cX5_hand 31 = .ok (.aload_n 0, 1) := by decide +kernel
theorem dX5_hand_32 : decode cX5_hand 32 = .ok (.getfield 46, 3) := by decide +kernel
theorem dX5_hand_35 : decode cX5_hand 35 = .ok (.bipush 6, 2) := by decide +kernel
theorem dX5_hand_37 : decode cX5_hand 37 = .ok (.iload_n 1, 1) := by decide +kernel
theorem dX5_hand_38 : decode cX5_hand 38 = .ok (.imul, 1) := by decide +kernel
theorem dX5_hand_39 : decode cX5_hand 39 = .ok (.iload_n 2, 1) := by decide +kernel
theorem dX5_hand_40 : decode cX5_hand 40 = .ok (.iadd, 1) := by decide +kernel
theorem dX5_hand_41 : decode cX5_hand 41 = .ok (.iaload, 1) := by decide +kernel
theorem dX5_hand_42 : decode cX5_hand 42 = .ok (.istore 4, 2) := by decide +kernel
theorem dX5_hand_44 : decode cX5_hand 44 = .ok (.aload_n 0, 1) := by decide +kernel
theorem dX5_hand_45 : decode cX5_hand 45 = .ok (.getfield 46, 3) := by decide +kernel
theorem dX5_hand_48 : decode cX5_hand 48 = .ok (.bipush 6, 2) := by decide +kernel
theorem dX5_hand_50 : decode cX5_hand 50 = .ok (.iload_n 1, 1) := by decide +kernel
theorem dX5_hand_51 : decode cX5_hand 51 = .ok (.imul, 1) := by decide +kernel
theorem dX5_hand_52 : decode cX5_hand 52 = .ok (.iload_n 2, 1) := by decide +kernel
theorem dX5_hand_53 : decode cX5_hand 53 = .ok (.iadd, 1) := by decide +kernel
theorem dX5_hand_54 : decode cX5_hand 54 = .ok (.iload_n 3, 1) := by decide +kernel
theorem dX5_hand_55 : decode cX5_hand 55 = .ok (.iastore, 1) := by decide +kernel
theorem dX5_hand_56 : decode cX5_hand 56 = .ok (.iload 4, 2) := by decide +kernel
theorem dX5_hand_58 : decode cX5_hand 58 = .ok (.ireturn, 1) := by decide +kernel
theorem dX5_whoseNow_0 : decode cX5_whoseNow 0 = .ok (.aload_n 0, 1) := by decide +kernel
theorem dX5_whoseNow_1 : decode cX5_whoseNow 1 = .ok (.invokevirtual 100, 3) := by decide +kernel
theorem dX5_whoseNow_4 : decode cX5_whoseNow 4 = .ok (.iconst (-1), 1) := by decide +kernel
theorem dX5_whoseNow_5 : decode cX5_whoseNow 5 = .ok (.istore_n 1, 1) := by decide +kernel
theorem dX5_whoseNow_6 : decode cX5_whoseNow 6 = .ok (.iconst (-1), 1) := by decide +kernel
theorem dX5_whoseNow_7 : decode cX5_whoseNow 7 = .ok (.istore_n 2, 1) := by decide +kernel
theorem dX5_whoseNow_8 : decode cX5_whoseNow 8 = .ok (.iconst 0, 1) := by decide +kernel
theorem dX5_whoseNow_9 : decode cX5_whoseNow 9 = .ok (.istore_n 3, 1) := by decide +kernel
theorem dX5_whoseNow_10 : decode cX5_whoseNow 10 = .ok (.iconst 0, 1) := by decide +kernel
theorem dX5_whoseNow_11 : decode cX5_whoseNow 11 = .ok (.istore 4, 2) := by decide +kernel
theorem dX5_whoseNow_13 : decode cX5_whoseNow 13 = .ok (.iload 4, 2) := by decide +kernel
theorem dX5_whoseNow_15 : decode cX5_whoseNow 15 = .ok (.iconst 3, 1) := by decide +kernel
theorem dX5_whoseNow_16 : decode cX5_whoseNow 16 = .ok (.if_icmp .ge 142, 3) := by decide +kernel
theorem dX5_whoseNow_19 : decode cX5_whoseNow 19 = .ok (.iconst 0, 1) := by decide +kernel
theorem dX5_whoseNow_20 : decode cX5_whoseNow 20 = .ok (.istore 5, 2) := by decide +kernel
theorem dX5_whoseNow_22 : decode cX5_whoseNow 22 = .ok (.iconst 0, 1) := by decide +kernel
theorem dX5_whoseNow_23 : decode cX5_whoseNow 23 = .ok (.istore 6, 2) := by decide +kernel
theorem dX5_whoseNow_25 : decode cX5_whoseNow 25 = .ok (.iload 6, 2) := by decide +kernel
theorem dX5_whoseNow_27 : decode cX5_whoseNow 27 = .ok (.aload_n 0, 1) := by decide +kernel
theorem dX5_whoseNow_28 : decode cX5_whoseNow 28 = .ok (.getfield 79, 3) := by decide +kernel
theorem dX5_whoseNow_31 : decode cX5_whoseNow 31 = .ok (.if_icmp .ge 95, 3) := by decide +kernel
theorem dX5_whoseNow_34 : decode cX5_whoseNow 34 = .ok (.aload_n 0, 1) := by decide +kernel
theorem dX5_whoseNow_35 : decode cX5_whoseNow 35 = .ok (.aload_n 0, 1) := by decide +kernel
theorem dX5_whoseNow_36 : decode cX5_whoseNow 36 = .ok (.getfield 19, 3) := by decide +kernel
theorem dX5_whoseNow_39 : decode cX5_whoseNow 39 = .ok (.iload 6, 2) := by decide +kernel
theorem dX5_whoseNow_41 : decode cX5_whoseNow 41 = .ok (.iaload, 1) := by decide +kernel
theorem dX5_whoseNow_42 : decode cX5_whoseNow 42 = .ok (.invokevirtual 113, 3) := by decide +kernel
theorem dX5_whoseNow_45 : decode cX5_whoseNow 45 = .ok (.aload_n 0, 1) := by decide +kernel
theorem dX5_whoseNow_46 : decode cX5_whoseNow 46 = .ok (.iload 6, 2) := by decide +kernel
theorem dX5_whoseNow_48 : decode cX5_whoseNow 48 = .ok (.invokevirtual 119, 3) := by decide +kernel
theorem dX5_whoseNow_51 : decode cX5_whoseNow 51 = .ok (.iconst (-1), 1) := by decide +kernel
theorem dX5_whoseNow_52 : decode cX5_whoseNow 52 = .ok (.ixor, 1) := by decide +kernel
theorem dX5_whoseNow_53 : decode cX5_whoseNow 53 = .ok (.iand, 1) := by decide +kernel
theorem dX5_whoseNow_54 : decode cX5_whoseNow 54 = .ok (.istore 7, 2) := by decide +kernel
theorem dX5_whoseNow_56 : decode cX5_whoseNow 56 = .ok (.iload_n 3, 1) := by decide +kernel
theorem dX5_whoseNow_57 : decode cX5_whoseNow 57 = .ok (.ifCond .ne 8, 3) := by decide +kernel
theorem dX5_whoseNow_60 : decode cX5_whoseNow 60 = .ok (.iload 7, 2) := by decide +kernel
theorem dX5_whoseNow_62 : decode cX5_whoseNow 62 = .ok (.ifCond .eq 7, 3) := by decide +kernel
theorem dX5_whoseNow_65 : decode cX5_whoseNow 65 = .ok (.iconst 1, 1) := by decide +kernel
theorem dX5_whoseNow_66 : decode cX5_whoseNow 66 = .ok (.goto 4, 3) := by decide +kernel
theorem dX5_whoseNow_69 : decode cX5_whoseNow 69 = .ok (.iconst 0, 1) := by decide +kernel
theorem dX5_whoseNow_70 : decode cX5_whoseNow 70 = .ok (.istore_n 3, 1) := by decide +kernel
theorem dX5_whoseNow_71 : decode cX5_whoseNow 71 = .ok (.iconst 0, 1) := by decide +kernel
theorem dX5_whoseNow_72 : decode cX5_whoseNow 72 = .ok (.istore 8, 2) := by decide +kernel
theorem dX5_whoseNow_74 : decode cX5_whoseNow 74 = .ok (.iload 8, 2) := by decide +kernel
theorem dX5_whoseNow_76 : decode cX5_whoseNow 76 = .ok (.bipush 6, 2) := by decide +kernel
theorem dX5_whoseNow_78 : decode cX5_whoseNow 78 = .ok (.if_icmp .ge 42, 3) := by decide +kernel
theorem dX5_whoseNow_81 : decode cX5_whoseNow 81 = .ok (.iload 5, 2) := by decide +kernel
theorem dX5_whoseNow_83 : decode cX5_whoseNow 83 = .ok (.iload 7, 2) := by decide +kernel
theorem dX5_whoseNow_85 : decode cX5_whoseNow 85 = .ok (.iload 8, 2) := by decide +kernel
theorem dX5_whoseNow_87 : decode cX5_whoseNow 87 = .ok (.ishr, 1) := by decide +kernel
theorem dX5_whoseNow_88 : decode cX5_whoseNow 88 = .ok (.iconst 1, 1) := by decide +kernel
theorem dX5_whoseNow_89 : decode cX5_whoseNow 89 = .ok (.iand, 1) := by decide +kernel
theorem dX5_whoseNow_90 : decode cX5_whoseNow 90 = .ok (.iconst 1, 1) := by decide +kernel
theorem dX5_whoseNow_91 : decode cX5_whoseNow 91 = .ok (.if_icmp .ne 19, 3) := by decide +kernel
theorem dX5_whoseNow_94 : decode cX5_whoseNow 94 = .ok (.aload_n 0, 1) := by decide +kernel
theorem dX5_whoseNow_95 : decode cX5_whoseNow 95 = .ok (.getfield 46, 3) := by decide +kernel
theorem dX5_whoseNow_98 : decode cX5_whoseNow 98 = .ok (.bipush 6, 2) := by decide +kernel
theorem dX5_whoseNow_100 : decode cX5_whoseNow 100 = .ok (.iload 4, 2) := by decide +kernel
theorem dX5_whoseNow_102 : decode cX5_whoseNow 102 = .ok (.imul, 1) := by decide +kernel
theorem dX5_whoseNow_103 : decode cX5_whoseNow 103 = .ok (.iload 8, 2) := by decide +kernel
theorem dX5_whoseNow_105 : decode cX5_whoseNow 105 = .ok (.iadd, 1) := by decide +kernel
theorem dX5_whoseNow_106 : decode cX5_whoseNow 106 = .ok (.iaload, 1) := by decide +kernel
theorem dX5_whoseNow_107 : decode cX5_whoseNow 107 = .ok (.goto 4, 3) := by decide +kernel
theorem dX5_whoseNow_110 : decode cX5_whoseNow 110 = .ok (.iconst 0, 1) := by decide +kernel
theorem dX5_whoseNow_111 : decode cX5_whoseNow 111 = .ok (.iadd, 1) := by decide +kernel
theorem dX5_whoseNow_112 : decode cX5_whoseNow 112 = .ok (.istore 5, 2) := by decide +kernel
theorem dX5_whoseNow_114 : decode cX5_whoseNow 114 = .ok (.iinc 8 1, 3) := by decide +kernel
theorem dX5_whoseNow_117 : decode cX5_whoseNow 117 = .ok (.goto (-43), 3) := by decide +kernel
theorem dX5_whoseNow_120 : decode cX5_whoseNow 120 = .ok (.iinc 6 1, 3) := by decide +kernel
theorem dX5_whoseNow_123 : decode cX5_whoseNow 123 = .ok (.goto (-98), 3) := by decide +kernel
theorem dX5_whoseNow_126 : decode cX5_whoseNow 126 = .ok (.iload 5, 2) := by decide +kernel
theorem dX5_whoseNow_128 : decode cX5_whoseNow 128 = .ok (.iload_n 2, 1) := by decide +kernel
theorem dX5_whoseNow_129 : decode cX5_whoseNow 129 = .ok (.if_icmp .le 8, 3) := by decide +kernel
theorem dX5_whoseNow_132 : decode cX5_whoseNow 132 = .ok (.iload 4, 2) := by decide +kernel
theorem dX5_whoseNow_134 : decode cX5_whoseNow 134 = .ok (.goto 4, 3) := by decide +kernel
theorem dX5_whoseNow_137 : decode cX5_whoseNow 137 = .ok (.iload_n 1, 1) := by decide +kernel
theorem dX5_whoseNow_138 : decode cX5_whoseNow 138 = .ok (.istore_n 1, 1) := by decide +kernel
theorem dX5_whoseNow_139 : decode cX5_whoseNow 139 = .ok (.iload 5, 2) := by decide +kernel
theorem dX5_whoseNow_141 : decode cX5_whoseNow 141 = .ok (.iload_n 2, 1) := by decide +kernel
theorem dX5_whoseNow_142 : decode cX5_whoseNow 142 = .ok (.if_icmp .le 8, 3) := by decide +kernel
theorem dX5_whoseNow_145 : decode cX5_whoseNow 145 = .ok (.iload 5, 2) := by decide +kernel
theorem dX5_whoseNow_147 : decode cX5_whoseNow 147 = .ok (.goto 4, 3) := by decide +kernel
theorem dX5_whoseNow_150 : decode cX5_whoseNow 150 = .ok (.iload_n 2, 1) := by decide +kernel
theorem dX5_whoseNow_151 : decode cX5_whoseNow 151 = .ok (.istore_n 2, 1) := by decide +kernel
theorem dX5_whoseNow_152 : decode cX5_whoseNow 152 = .ok (.iinc 4 1, 3) := by decide +kernel
theorem dX5_whoseNow_155 : decode cX5_whoseNow 155 = .ok (.goto (-142), 3) := by decide +kernel
theorem dX5_whoseNow_158 : decode cX5_whoseNow 158 = .ok (.iload_n 3, 1) := by decide +kernel
theorem dX5_whoseNow_159 : decode cX5_whoseNow 159 = .ok (.ifCond .eq 7, 3) := by decide +kernel
theorem dX5_whoseNow_162 : decode cX5_whoseNow 162 = .ok (.iload_n 1, 1) := by decide +kernel
theorem dX5_whoseNow_163 : decode cX5_whoseNow 163 = .ok (.goto 4, 3) := by decide +kernel
theorem dX5_whoseNow_166 : decode cX5_whoseNow 166 = .ok (.iconst (-1), 1) := by decide +kernel
theorem dX5_whoseNow_167 : decode cX5_whoseNow 167 = .ok (.ireturn, 1) := by decide +kernel
theorem dX5_whose_0 : decode cX5_whose 0 = .ok (.aload_n 0, 1) := by decide +kernel
theorem dX5_whose_1 : decode cX5_whose 1 = .ok (.invokevirtual 180, 3) := by decide +kernel
theorem dX5_whose_4 : decode cX5_whose 4 = .ok (.ireturn, 1) := by decide +kernel
theorem dX5_wearOf_0 : decode cX5_wearOf 0 = .ok (.aload_n 0, 1) := by decide +kernel
theorem dX5_wearOf_1 : decode cX5_wearOf 1 = .ok (.invokevirtual 100, 3) := by decide +kernel
theorem dX5_wearOf_4 : decode cX5_wearOf 4 = .ok (.iconst 0, 1) := by decide +kernel
theorem dX5_wearOf_5 : decode cX5_wearOf 5 = .ok (.istore_n 3, 1) := by decide +kernel
theorem dX5_wearOf_6 : decode cX5_wearOf 6 = .ok (.iconst 0, 1) := by decide +kernel
theorem dX5_wearOf_7 : decode cX5_wearOf 7 = .ok (.istore 4, 2) := by decide +kernel
theorem dX5_wearOf_9 : decode cX5_wearOf 9 = .ok (.iload 4, 2) := by decide +kernel
theorem dX5_wearOf_11 : decode cX5_wearOf 11 = .ok (.aload_n 0, 1) := by decide +kernel
theorem dX5_wearOf_12 : decode cX5_wearOf 12 = .ok (.getfield 79, 3) := by decide +kernel
theorem dX5_wearOf_15 : decode cX5_wearOf 15 = .ok (.if_icmp .ge 35, 3) := by decide +kernel
theorem dX5_wearOf_18 : decode cX5_wearOf 18 = .ok (.aload_n 0, 1) := by decide +kernel
theorem dX5_wearOf_19 : decode cX5_wearOf 19 = .ok (.getfield 49, 3) := by decide +kernel
theorem dX5_wearOf_22 : decode cX5_wearOf 22 = .ok (.iload 4, 2) := by decide +kernel
theorem dX5_wearOf_24 : decode cX5_wearOf 24 = .ok (.aload_n 0, 1) := by decide +kernel
theorem dX5_wearOf_25 : decode cX5_wearOf 25 = .ok (.iload 4, 2) := by decide +kernel
theorem dX5_wearOf_27 : decode cX5_wearOf 27 = .ok (.invokevirtual 119, 3) := by decide +kernel
theorem dX5_wearOf_30 : decode cX5_wearOf 30 = .ok (.iastore, 1) := by decide +kernel
theorem dX5_wearOf_31 : decode cX5_wearOf 31 = .ok (.iload_n 3, 1) := by decide +kernel
theorem dX5_wearOf_32 : decode cX5_wearOf 32 = .ok (.aload_n 0, 1) := by decide +kernel
theorem dX5_wearOf_33 : decode cX5_wearOf 33 = .ok (.getfield 49, 3) := by decide +kernel
theorem dX5_wearOf_36 : decode cX5_wearOf 36 = .ok (.iload 4, 2) := by decide +kernel
theorem dX5_wearOf_38 : decode cX5_wearOf 38 = .ok (.iaload, 1) := by decide +kernel
theorem dX5_wearOf_39 : decode cX5_wearOf 39 = .ok (.invokestatic 143, 3) := by decide +kernel
theorem dX5_wearOf_42 : decode cX5_wearOf 42 = .ok (.iadd, 1) := by decide +kernel
theorem dX5_wearOf_43 : decode cX5_wearOf 43 = .ok (.istore_n 3, 1) := by decide +kernel
theorem dX5_wearOf_44 : decode cX5_wearOf 44 = .ok (.iinc 4 1, 3) := by decide +kernel
theorem dX5_wearOf_47 : decode cX5_wearOf 47 = .ok (.goto (-38), 3) := by decide +kernel
theorem dX5_wearOf_50 : decode cX5_wearOf 50 = .ok (.iconst 0, 1) := by decide +kernel
theorem dX5_wearOf_51 : decode cX5_wearOf 51 = .ok (.istore 4, 2) := by decide +kernel
theorem dX5_wearOf_53 : decode cX5_wearOf 53 = .ok (.iconst 0, 1) := by decide +kernel
theorem dX5_wearOf_54 : decode cX5_wearOf 54 = .ok (.istore 5, 2) := by decide +kernel
theorem dX5_wearOf_56 : decode cX5_wearOf 56 = .ok (.iload 5, 2) := by decide +kernel
theorem dX5_wearOf_58 : decode cX5_wearOf 58 = .ok (.iload_n 1, 1) := by decide +kernel
theorem dX5_wearOf_59 : decode cX5_wearOf 59 = .ok (.if_icmp .ge 111, 3) := by decide +kernel
theorem dX5_wearOf_62 : decode cX5_wearOf 62 = .ok (.iload_n 3, 1) := by decide +kernel
theorem dX5_wearOf_63 : decode cX5_wearOf 63 = .ok (.ifCond .le 107, 3) := by decide +kernel
theorem dX5_wearOf_66 : decode cX5_wearOf 66 = .ok (.aload_n 0, 1) := by decide +kernel
theorem dX5_wearOf_67 : decode cX5_wearOf 67 = .ok (.getfield 49, 3) := by decide +kernel
theorem dX5_wearOf_70 : decode cX5_wearOf 70 = .ok (.iload 4, 2) := by decide +kernel
theorem dX5_wearOf_72 : decode cX5_wearOf 72 = .ok (.iaload, 1) := by decide +kernel
theorem dX5_wearOf_73 : decode cX5_wearOf 73 = .ok (.ifCond .ne 27, 3) := by decide +kernel
theorem dX5_wearOf_76 : decode cX5_wearOf 76 = .ok (.iload 4, 2) := by decide +kernel
theorem dX5_wearOf_78 : decode cX5_wearOf 78 = .ok (.iconst 1, 1) := by decide +kernel
theorem dX5_wearOf_79 : decode cX5_wearOf 79 = .ok (.iadd, 1) := by decide +kernel
theorem dX5_wearOf_80 : decode cX5_wearOf 80 = .ok (.aload_n 0, 1) := by decide +kernel
theorem dX5_wearOf_81 : decode cX5_wearOf 81 = .ok (.getfield 79, 3) := by decide +kernel
theorem dX5_wearOf_84 : decode cX5_wearOf 84 = .ok (.if_icmp .ne 7, 3) := by decide +kernel
theorem dX5_wearOf_87 : decode cX5_wearOf 87 = .ok (.iconst 0, 1) := by decide +kernel
theorem dX5_wearOf_88 : decode cX5_wearOf 88 = .ok (.goto 7, 3) := by decide +kernel
theorem dX5_wearOf_91 : decode cX5_wearOf 91 = .ok (.iload 4, 2) := by decide +kernel
theorem dX5_wearOf_93 : decode cX5_wearOf 93 = .ok (.iconst 1, 1) := by decide +kernel
theorem dX5_wearOf_94 : decode cX5_wearOf 94 = .ok (.iadd, 1) := by decide +kernel
theorem dX5_wearOf_95 : decode cX5_wearOf 95 = .ok (.istore 4, 2) := by decide +kernel
theorem dX5_wearOf_97 : decode cX5_wearOf 97 = .ok (.goto (-31), 3) := by decide +kernel
theorem dX5_wearOf_100 : decode cX5_wearOf 100 = .ok (.bipush 32, 2) := by decide +kernel
theorem dX5_wearOf_102 : decode cX5_wearOf 102 = .ok (.istore 6, 2) := by decide +kernel
theorem dX5_wearOf_104 : decode cX5_wearOf 104 = .ok (.aload_n 0, 1) := by decide +kernel
theorem dX5_wearOf_105 : decode cX5_wearOf 105 = .ok (.getfield 49, 3) := by decide +kernel
theorem dX5_wearOf_108 : decode cX5_wearOf 108 = .ok (.iload 4, 2) := by decide +kernel
theorem dX5_wearOf_110 : decode cX5_wearOf 110 = .ok (.iaload, 1) := by decide +kernel
theorem dX5_wearOf_111 : decode cX5_wearOf 111 = .ok (.iload 6, 2) := by decide +kernel
theorem dX5_wearOf_113 : decode cX5_wearOf 113 = .ok (.iand, 1) := by decide +kernel
theorem dX5_wearOf_114 : decode cX5_wearOf 114 = .ok (.ifCond .ne 12, 3) := by decide +kernel
theorem dX5_wearOf_117 : decode cX5_wearOf 117 = .ok (.iload 6, 2) := by decide +kernel
theorem dX5_wearOf_119 : decode cX5_wearOf 119 = .ok (.iconst 2, 1) := by decide +kernel
theorem dX5_wearOf_120 : decode cX5_wearOf 120 = .ok (.idiv, 1) := by decide +kernel
theorem dX5_wearOf_121 : decode cX5_wearOf 121 = .ok (.istore 6, 2) := by decide +kernel
theorem dX5_wearOf_123 : decode cX5_wearOf 123 = .ok (.goto (-19), 3) := by decide +kernel
theorem dX5_wearOf_126 : decode cX5_wearOf 126 = .ok (.aload_n 0, 1) := by decide +kernel
theorem dX5_wearOf_127 : decode cX5_wearOf 127 = .ok (.getfield 49, 3) := by decide +kernel
theorem dX5_wearOf_130 : decode cX5_wearOf 130 = .ok (.iload 4, 2) := by decide +kernel
theorem dX5_wearOf_132 : decode cX5_wearOf 132 = .ok (.dup2, 1) := by decide +kernel
theorem dX5_wearOf_133 : decode cX5_wearOf 133 = .ok (.iaload, 1) := by decide +kernel
theorem dX5_wearOf_134 : decode cX5_wearOf 134 = .ok (.iload 6, 2) := by decide +kernel
theorem dX5_wearOf_136 : decode cX5_wearOf 136 = .ok (.iconst (-1), 1) := by decide +kernel
theorem dX5_wearOf_137 : decode cX5_wearOf 137 = .ok (.ixor, 1) := by decide +kernel
theorem dX5_wearOf_138 : decode cX5_wearOf 138 = .ok (.iand, 1) := by decide +kernel
theorem dX5_wearOf_139 : decode cX5_wearOf 139 = .ok (.iastore, 1) := by decide +kernel
theorem dX5_wearOf_140 : decode cX5_wearOf 140 = .ok (.iinc 3 (-1), 3) := by decide +kernel
theorem dX5_wearOf_143 : decode cX5_wearOf 143 = .ok (.iload 4, 2) := by decide +kernel
theorem dX5_wearOf_145 : decode cX5_wearOf 145 = .ok (.iconst 1, 1) := by decide +kernel
theorem dX5_wearOf_146 : decode cX5_wearOf 146 = .ok (.iadd, 1) := by decide +kernel
theorem dX5_wearOf_147 : decode cX5_wearOf 147 = .ok (.aload_n 0, 1) := by decide +kernel
theorem dX5_wearOf_148 : decode cX5_wearOf 148 = .ok (.getfield 79, 3) := by decide +kernel
theorem dX5_wearOf_151 : decode cX5_wearOf 151 = .ok (.if_icmp .ne 7, 3) := by decide +kernel
theorem dX5_wearOf_154 : decode cX5_wearOf 154 = .ok (.iconst 0, 1) := by decide +kernel
theorem dX5_wearOf_155 : decode cX5_wearOf 155 = .ok (.goto 7, 3) := by decide +kernel
theorem dX5_wearOf_158 : decode cX5_wearOf 158 = .ok (.iload 4, 2) := by decide +kernel
theorem dX5_wearOf_160 : decode cX5_wearOf 160 = .ok (.iconst 1, 1) := by decide +kernel
theorem dX5_wearOf_161 : decode cX5_wearOf 161 = .ok (.iadd, 1) := by decide +kernel
theorem dX5_wearOf_162 : decode cX5_wearOf 162 = .ok (.istore 4, 2) := by decide +kernel
theorem dX5_wearOf_164 : decode cX5_wearOf 164 = .ok (.iinc 5 1, 3) := by decide +kernel
theorem dX5_wearOf_167 : decode cX5_wearOf 167 = .ok (.goto (-111), 3) := by decide +kernel
theorem dX5_wearOf_170 : decode cX5_wearOf 170 = .ok (.iload_n 2, 1) := by decide +kernel
theorem dX5_wearOf_171 : decode cX5_wearOf 171 = .ok (.iconst (-1), 1) := by decide +kernel
theorem dX5_wearOf_172 : decode cX5_wearOf 172 = .ok (.if_icmp .ne 7, 3) := by decide +kernel
theorem dX5_wearOf_175 : decode cX5_wearOf 175 = .ok (.iload_n 3, 1) := by decide +kernel
theorem dX5_wearOf_176 : decode cX5_wearOf 176 = .ok (.goto 9, 3) := by decide +kernel
theorem dX5_wearOf_179 : decode cX5_wearOf 179 = .ok (.aload_n 0, 1) := by decide +kernel
theorem dX5_wearOf_180 : decode cX5_wearOf 180 = .ok (.getfield 49, 3) := by decide +kernel
theorem dX5_wearOf_183 : decode cX5_wearOf 183 = .ok (.iload_n 2, 1) := by decide +kernel
theorem dX5_wearOf_184 : decode cX5_wearOf 184 = .ok (.iaload, 1) := by decide +kernel
theorem dX5_wearOf_185 : decode cX5_wearOf 185 = .ok (.ireturn, 1) := by decide +kernel
theorem dX5_wear_0 : decode cX5_wear 0 = .ok (.iload_n 1, 1) := by decide +kernel
theorem dX5_wear_1 : decode cX5_wear 1 = .ok (.iconst 0, 1) := by decide +kernel
theorem dX5_wear_2 : decode cX5_wear 2 = .ok (.bipush 99, 2) := by decide +kernel
theorem dX5_wear_4 : decode cX5_wear 4 = .ok (.invokestatic 75, 3) := by decide +kernel
theorem dX5_wear_7 : decode cX5_wear 7 = .ok (.ifCond .eq 25, 3) := by decide +kernel
theorem dX5_wear_10 : decode cX5_wear 10 = .ok (.iload_n 2, 1) := by decide +kernel
theorem dX5_wear_11 : decode cX5_wear 11 = .ok (.iconst (-1), 1) := by decide +kernel
theorem dX5_wear_12 : decode cX5_wear 12 = .ok (.if_icmp .eq 11, 3) := by decide +kernel
theorem dX5_wear_15 : decode cX5_wear 15 = .ok (.aload_n 0, 1) := by decide +kernel
theorem dX5_wear_16 : decode cX5_wear 16 = .ok (.iload_n 2, 1) := by decide +kernel
theorem dX5_wear_17 : decode cX5_wear 17 = .ok (.invokevirtual 116, 3) := by decide +kernel
theorem dX5_wear_20 : decode cX5_wear 20 = .ok (.ifCond .eq 12, 3) := by decide +kernel
theorem dX5_wear_23 : decode cX5_wear 23 = .ok (.aload_n 0, 1) := by decide +kernel
theorem dX5_wear_24 : decode cX5_wear 24 = .ok (.iload_n 1, 1) := by decide +kernel
theorem dX5_wear_25 : decode cX5_wear 25 = .ok (.iload_n 2, 1) := by decide +kernel
theorem dX5_wear_26 : decode cX5_wear 26 = .ok (.invokevirtual 183, 3) := by decide +kernel
theorem dX5_wear_29 : decode cX5_wear 29 = .ok (.goto 5, 3) := by decide +kernel
theorem dX5_wear_32 : decode cX5_wear 32 = .ok (.bipush (-2), 2) := by decide +kernel
theorem dX5_wear_34 : decode cX5_wear 34 = .ok (.ireturn, 1) := by decide +kernel
theorem dX5_meets_0 : decode cX5_meets 0 = .ok (.aload_n 0, 1) := by decide +kernel
theorem dX5_meets_1 : decode cX5_meets 1 = .ok (.iload_n 1, 1) := by decide +kernel
theorem dX5_meets_2 : decode cX5_meets 2 = .ok (.putfield 186, 3) := by decide +kernel
theorem dX5_meets_5 : decode cX5_meets 5 = .ok (.bipush (-10), 2) := by decide +kernel
theorem dX5_meets_7 : decode cX5_meets 7 = .ok (.iload_n 1, 1) := by decide +kernel
theorem dX5_meets_8 : decode cX5_meets 8 = .ok (.isub, 1) := by decide +kernel
theorem dX5_meets_9 : decode cX5_meets 9 = .ok (.ireturn, 1) := by decide +kernel
theorem dX5_isSheet_0 : decode cX5_isSheet 0 = .ok (.iload_n 0, 1) := by decide +kernel
theorem dX5_isSheet_1 : decode cX5_isSheet 1 = .ok (.iconst 0, 1) := by decide +kernel
theorem dX5_isSheet_2 : decode cX5_isSheet 2 = .ok (.iconst 3, 1) := by decide +kernel
theorem dX5_isSheet_3 : decode cX5_isSheet 3 = .ok (.invokestatic 75, 3) := by decide +kernel
theorem dX5_isSheet_6 : decode cX5_isSheet 6 = .ok (.ireturn, 1) := by decide +kernel
theorem dX5_sheet_0 : decode cX5_sheet 0 = .ok (.iload_n 1, 1) := by decide +kernel
theorem dX5_sheet_1 : decode cX5_sheet 1 = .ok (.invokestatic 103, 3) := by decide +kernel
theorem dX5_sheet_4 : decode cX5_sheet 4 = .ok (.ifCond .eq 18, 3) := by decide +kernel
theorem dX5_sheet_7 : decode cX5_sheet 7 = .ok (.iload_n 2, 1) := by decide +kernel
theorem dX5_sheet_8 : decode cX5_sheet 8 = .ok (.iconst 0, 1) := by decide +kernel
theorem dX5_sheet_9 : decode cX5_sheet 9 = .ok (.iconst 2, 1) := by decide +kernel
theorem dX5_sheet_10 : decode cX5_sheet 10 = .ok (.invokestatic 75, 3) := by decide +kernel
theorem dX5_sheet_13 : decode cX5_sheet 13 = .ok (.ifCond .eq 9, 3) := by decide +kernel
theorem dX5_sheet_16 : decode cX5_sheet 16 = .ok (.iload_n 3, 1) := by decide +kernel
theorem dX5_sheet_17 : decode cX5_sheet 17 = .ok (.bipush 48, 2) := by decide +kernel
theorem dX5_sheet_19 : decode cX5_sheet 19 = .ok (.if_icmp .le 6, 3) := by decide +kernel
theorem dX5_sheet_22 : decode cX5_sheet 22 = .ok (.bipush (-2), 2) := by decide +kernel
theorem dX5_sheet_24 : decode cX5_sheet 24 = .ok (.ireturn, 1) := by decide +kernel
theorem dX5_sheet_25 : decode cX5_sheet 25 = .ok (.iload_n 3, 1) := by decide +kernel
theorem dX5_sheet_26 : decode cX5_sheet 26 = .ok (.ifCond .ge 9, 3) := by decide +kernel
theorem dX5_sheet_29 : decode cX5_sheet 29 = .ok (.aload_n 0, 1) := by decide +kernel
theorem dX5_sheet_30 : decode cX5_sheet 30 = .ok (.iconst 5, 1) := by decide +kernel
theorem dX5_sheet_31 : decode cX5_sheet 31 = .ok (.invokevirtual 107, 3) := by decide +kernel
theorem dX5_sheet_34 : decode cX5_sheet 34 = .ok (.ireturn, 1) := by decide +kernel
theorem dX5_sheet_35 : decode cX5_sheet 35 = .ok (.aload_n 0, 1) := by decide +kernel
theorem dX5_sheet_36 : decode cX5_sheet 36 = .ok (.getfield 52, 3) := by decide +kernel
theorem dX5_sheet_39 : decode cX5_sheet 39 = .ok (.iload_n 1, 1) := by decide +kernel
theorem dX5_sheet_40 : decode cX5_sheet 40 = .ok (.iconst 1, 1) := by decide +kernel
theorem dX5_sheet_41 : decode cX5_sheet 41 = .ok (.bastore, 1) := by decide +kernel
theorem dX5_sheet_42 : decode cX5_sheet 42 = .ok (.aload_n 0, 1) := by decide +kernel
theorem dX5_sheet_43 : decode cX5_sheet 43 = .ok (.getfield 56, 3) := by decide +kernel
theorem dX5_sheet_46 : decode cX5_sheet 46 = .ok (.iload_n 1, 1) := by decide +kernel
theorem dX5_sheet_47 : decode cX5_sheet 47 = .ok (.iload_n 2, 1) := by decide +kernel
theorem dX5_sheet_48 : decode cX5_sheet 48 = .ok (.iastore, 1) := by decide +kernel
theorem dX5_sheet_49 : decode cX5_sheet 49 = .ok (.aload_n 0, 1) := by decide +kernel
theorem dX5_sheet_50 : decode cX5_sheet 50 = .ok (.getfield 59, 3) := by decide +kernel
theorem dX5_sheet_53 : decode cX5_sheet 53 = .ok (.iload_n 1, 1) := by decide +kernel
theorem dX5_sheet_54 : decode cX5_sheet 54 = .ok (.iload_n 3, 1) := by decide +kernel
theorem dX5_sheet_55 : decode cX5_sheet 55 = .ok (.iastore, 1) := by decide +kernel
theorem dX5_sheet_56 : decode cX5_sheet 56 = .ok (.iconst 0, 1) := by decide +kernel
theorem dX5_sheet_57 : decode cX5_sheet 57 = .ok (.istore 4, 2) := by decide +kernel
theorem dX5_sheet_59 : decode cX5_sheet 59 = .ok (.iload 4, 2) := by decide +kernel
theorem dX5_sheet_61 : decode cX5_sheet 61 = .ok (.bipush 48, 2) := by decide +kernel
theorem dX5_sheet_63 : decode cX5_sheet 63 = .ok (.if_icmp .ge 22, 3) := by decide +kernel
theorem dX5_sheet_66 : decode cX5_sheet 66 = .ok (.aload_n 0, 1) := by decide +kernel
theorem dX5_sheet_67 : decode cX5_sheet 67 = .ok (.getfield 62, 3) := by decide +kernel
theorem dX5_sheet_70 : decode cX5_sheet 70 = .ok (.bipush 48, 2) := by decide +kernel
theorem dX5_sheet_72 : decode cX5_sheet 72 = .ok (.iload_n 1, 1) := by decide +kernel
theorem dX5_sheet_73 : decode cX5_sheet 73 = .ok (.imul, 1) := by decide +kernel
theorem dX5_sheet_74 : decode cX5_sheet 74 = .ok (.iload 4, 2) := by decide +kernel
theorem dX5_sheet_76 : decode cX5_sheet 76 = .ok (.iadd, 1) := by decide +kernel
theorem dX5_sheet_77 : decode cX5_sheet 77 = .ok (.iconst 0, 1) := by decide +kernel
theorem dX5_sheet_78 : decode cX5_sheet 78 = .ok (.iastore, 1) := by decide +kernel
theorem dX5_sheet_79 : decode cX5_sheet 79 = .ok (.iinc 4 1, 3) := by decide +kernel
theorem dX5_sheet_82 : decode cX5_sheet 82 = .ok (.goto (-23), 3) := by decide +kernel
theorem dX5_sheet_85 : decode cX5_sheet 85 = .ok (.iload_n 3, 1) := by decide +kernel
theorem dX5_sheet_86 : decode cX5_sheet 86 = .ok (.ireturn, 1) := by decide +kernel
theorem dX5_lose_0 : decode cX5_lose 0 = .ok (.iload_n 1, 1) := by decide +kernel
theorem dX5_lose_1 : decode cX5_lose 1 = .ok (.invokestatic 103, 3) := by decide +kernel
theorem dX5_lose_4 : decode cX5_lose 4 = .ok (.ifCond .ne 6, 3) := by decide +kernel
theorem dX5_lose_7 : decode cX5_lose 7 = .ok (.bipush (-2), 2) := by decide +kernel
theorem dX5_lose_9 : decode cX5_lose 9 = .ok (.ireturn, 1) := by decide +kernel
theorem dX5_lose_10 : decode cX5_lose 10 = .ok (.aload_n 0, 1) := by decide +kernel
theorem dX5_lose_11 : decode cX5_lose 11 = .ok (.getfield 52, 3) := by decide +kernel
theorem dX5_lose_14 : decode cX5_lose 14 = .ok (.iload_n 1, 1) := by decide +kernel
theorem dX5_lose_15 : decode cX5_lose 15 = .ok (.baload, 1) := by decide +kernel
theorem dX5_lose_16 : decode cX5_lose 16 = .ok (.ifCond .ne 9, 3) := by decide +kernel
theorem dX5_lose_19 : decode cX5_lose 19 = .ok (.aload_n 0, 1) := by decide +kernel
theorem dX5_lose_20 : decode cX5_lose 20 = .ok (.iconst 1, 1) := by decide +kernel
theorem dX5_lose_21 : decode cX5_lose 21 = .ok (.invokevirtual 107, 3) := by decide +kernel
theorem dX5_lose_24 : decode cX5_lose 24 = .ok (.ireturn, 1) := by decide +kernel
theorem dX5_lose_25 : decode cX5_lose 25 = .ok (.aload_n 0, 1) := by decide +kernel
theorem dX5_lose_26 : decode cX5_lose 26 = .ok (.getfield 52, 3) := by decide +kernel
theorem dX5_lose_29 : decode cX5_lose 29 = .ok (.iload_n 1, 1) := by decide +kernel
theorem dX5_lose_30 : decode cX5_lose 30 = .ok (.iconst 0, 1) := by decide +kernel
theorem dX5_lose_31 : decode cX5_lose 31 = .ok (.bastore, 1) := by decide +kernel
theorem dX5_lose_32 : decode cX5_lose 32 = .ok (.aload_n 0, 1) := by decide +kernel
theorem dX5_lose_33 : decode cX5_lose 33 = .ok (.getfield 59, 3) := by decide +kernel
theorem dX5_lose_36 : decode cX5_lose 36 = .ok (.iload_n 1, 1) := by decide +kernel
theorem dX5_lose_37 : decode cX5_lose 37 = .ok (.iaload, 1) := by decide +kernel
theorem dX5_lose_38 : decode cX5_lose 38 = .ok (.ireturn, 1) := by decide +kernel
theorem dX5_lacks_0 : decode cX5_lacks 0 = .ok (.aload_n 0, 1) := by decide +kernel
theorem dX5_lacks_1 : decode cX5_lacks 1 = .ok (.getfield 52, 3) := by decide +kernel
theorem dX5_lacks_4 : decode cX5_lacks 4 = .ok (.iload_n 1, 1) := by decide +kernel
theorem dX5_lacks_5 : decode cX5_lacks 5 = .ok (.baload, 1) := by decide +kernel
theorem dX5_lacks_6 : decode cX5_lacks 6 = .ok (.ifCond .ne 7, 3) := by decide +kernel
theorem dX5_lacks_9 : decode cX5_lacks 9 = .ok (.iconst 1, 1) := by decide +kernel
theorem dX5_lacks_10 : decode cX5_lacks 10 = .ok (.goto 38, 3) := by decide +kernel
theorem dX5_lacks_13 : decode cX5_lacks 13 = .ok (.aload_n 0, 1) := by decide +kernel
theorem dX5_lacks_14 : decode cX5_lacks 14 = .ok (.getfield 56, 3) := by decide +kernel
theorem dX5_lacks_17 : decode cX5_lacks 17 = .ok (.iload_n 1, 1) := by decide +kernel
theorem dX5_lacks_18 : decode cX5_lacks 18 = .ok (.iaload, 1) := by decide +kernel
theorem dX5_lacks_19 : decode cX5_lacks 19 = .ok (.iload_n 2, 1) := by decide +kernel
theorem dX5_lacks_20 : decode cX5_lacks 20 = .ok (.if_icmp .eq 7, 3) := by decide +kernel
theorem dX5_lacks_23 : decode cX5_lacks 23 = .ok (.iconst 3, 1) := by decide +kernel
theorem dX5_lacks_24 : decode cX5_lacks 24 = .ok (.goto 24, 3) := by decide +kernel
theorem dX5_lacks_27 : decode cX5_lacks 27 = .ok (.iload_n 3, 1) := by decide +kernel
theorem dX5_lacks_28 : decode cX5_lacks 28 = .ok (.iconst 0, 1) := by decide +kernel
theorem dX5_lacks_29 : decode cX5_lacks 29 = .ok (.aload_n 0, 1) := by decide +kernel
theorem dX5_lacks_30 : decode cX5_lacks 30 = .ok (.getfield 59, 3) := by decide +kernel
theorem dX5_lacks_33 : decode cX5_lacks 33 = .ok (.iload_n 1, 1) := by decide +kernel
theorem dX5_lacks_34 : decode cX5_lacks 34 = .ok (.iaload, 1) := by decide +kernel
theorem dX5_lacks_35 : decode cX5_lacks 35 = .ok (.iconst 1, 1) := by decide +kernel
theorem dX5_lacks_36 : decode cX5_lacks 36 = .ok (.isub, 1) := by decide +kernel
theorem dX5_lacks_37 : decode cX5_lacks 37 = .ok (.invokestatic 75, 3) := by decide +kernel
theorem dX5_lacks_40 : decode cX5_lacks 40 = .ok (.ifCond .eq 7, 3) := by decide +kernel
theorem dX5_lacks_43 : decode cX5_lacks 43 = .ok (.iconst 0, 1) := by decide +kernel
theorem dX5_lacks_44 : decode cX5_lacks 44 = .ok (.goto 4, 3) := by decide +kernel
theorem dX5_lacks_47 : decode cX5_lacks 47 = .ok (.iconst 2, 1) := by decide +kernel
theorem dX5_lacks_48 : decode cX5_lacks 48 = .ok (.ireturn, 1) := by decide +kernel
theorem dX5_keep_0 : decode cX5_keep 0 = .ok (.aload_n 0, 1) := by decide +kernel
theorem dX5_keep_1 : decode cX5_keep 1 = .ok (.getfield 62, 3) := by decide +kernel
theorem dX5_keep_4 : decode cX5_keep 4 = .ok (.bipush 48, 2) := by decide +kernel
theorem dX5_keep_6 : decode cX5_keep 6 = .ok (.iload_n 1, 1) := by decide +kernel
theorem dX5_keep_7 : decode cX5_keep 7 = .ok (.imul, 1) := by decide +kernel
theorem dX5_keep_8 : decode cX5_keep 8 = .ok (.iload_n 2, 1) := by decide +kernel
theorem dX5_keep_9 : decode cX5_keep 9 = .ok (.iadd, 1) := by decide +kernel
theorem dX5_keep_10 : decode cX5_keep 10 = .ok (.aload_n 0, 1) := by decide +kernel
theorem dX5_keep_11 : decode cX5_keep 11 = .ok (.getfield 56, 3) := by decide +kernel
theorem dX5_keep_14 : decode cX5_keep 14 = .ok (.iload_n 1, 1) := by decide +kernel
theorem dX5_keep_15 : decode cX5_keep 15 = .ok (.iaload, 1) := by decide +kernel
theorem dX5_keep_16 : decode cX5_keep 16 = .ok (.ifCond .ne 8, 3) := by decide +kernel
theorem dX5_keep_19 : decode cX5_keep 19 = .ok (.iload_n 3, 1) := by decide +kernel
theorem dX5_keep_20 : decode cX5_keep 20 = .ok (.i2b, 1) := by decide +kernel
theorem dX5_keep_21 : decode cX5_keep 21 = .ok (.goto 19, 3) := by decide +kernel
theorem dX5_keep_24 : decode cX5_keep 24 = .ok (.aload_n 0, 1) := by decide +kernel
theorem dX5_keep_25 : decode cX5_keep 25 = .ok (.getfield 56, 3) := by decide +kernel
theorem dX5_keep_28 : decode cX5_keep 28 = .ok (.iload_n 1, 1) := by decide +kernel
theorem dX5_keep_29 : decode cX5_keep 29 = .ok (.iaload, 1) := by decide +kernel
theorem dX5_keep_30 : decode cX5_keep 30 = .ok (.iconst 1, 1) := by decide +kernel
theorem dX5_keep_31 : decode cX5_keep 31 = .ok (.if_icmp .ne 8, 3) := by decide +kernel
theorem dX5_keep_34 : decode cX5_keep 34 = .ok (.iload_n 3, 1) := by decide +kernel
theorem dX5_keep_35 : decode cX5_keep 35 = .ok (.i2s, 1) := by decide +kernel
theorem dX5_keep_36 : decode cX5_keep 36 = .ok (.goto 4, 3) := by decide +kernel
theorem dX5_keep_39 : decode cX5_keep 39 = .ok (.iload_n 3, 1) := by decide +kernel
theorem dX5_keep_40 : decode cX5_keep 40 = .ok (.iastore, 1) := by decide +kernel
theorem dX5_keep_41 : decode cX5_keep 41 = .ok (.return_, 1) := by decide +kernel
theorem dX5_put_0 : decode cX5_put 0 = .ok (.iload_n 1, 1) := by decide +kernel
theorem dX5_put_1 : decode cX5_put 1 = .ok (.invokestatic 103, 3) := by decide +kernel
theorem dX5_put_4 : decode cX5_put 4 = .ok (.ifCond .eq 12, 3) := by decide +kernel
theorem dX5_put_7 : decode cX5_put 7 = .ok (.iload_n 2, 1) := by decide +kernel
theorem dX5_put_8 : decode cX5_put 8 = .ok (.iconst 0, 1) := by decide +kernel
theorem dX5_put_9 : decode cX5_put 9 = .ok (.iconst 2, 1) := by decide +kernel
theorem dX5_put_10 : decode cX5_put 10 = .ok (.invokestatic 75, 3) := by decide +kernel
theorem dX5_put_13 : decode cX5_put 13 = .ok (.ifCond .ne 6, 3) := by decide +kernel
theorem dX5_put_16 : decode cX5_put 16 = .ok (.bipush (-2), 2) := by decide +kernel
theorem dX5_put_18 : decode cX5_put 18 = .ok (.ireturn, 1) := by decide +kernel
theorem dX5_put_19 : decode cX5_put 19 = .ok (.aload_n 0, 1) := by decide +kernel
theorem dX5_put_20 : decode cX5_put 20 = .ok (.iload_n 1, 1) := by decide +kernel
theorem dX5_put_21 : decode cX5_put 21 = .ok (.iload_n 2, 1) := by decide +kernel
theorem dX5_put_22 : decode cX5_put 22 = .ok (.iload_n 3, 1) := by decide +kernel
theorem dX5_put_23 : decode cX5_put 23 = .ok (.invokevirtual 189, 3) := by decide +kernel
theorem dX5_put_26 : decode cX5_put 26 = .ok (.istore 5, 2) := by decide +kernel
theorem dX5_put_28 : decode cX5_put 28 = .ok (.iload 5, 2) := by decide +kernel
theorem dX5_put_30 : decode cX5_put 30 = .ok (.ifCond .le 10, 3) := by decide +kernel
theorem dX5_put_33 : decode cX5_put 33 = .ok (.aload_n 0, 1) := by decide +kernel
theorem dX5_put_34 : decode cX5_put 34 = .ok (.iload 5, 2) := by decide +kernel
theorem dX5_put_36 : decode cX5_put 36 = .ok (.invokevirtual 107, 3) := by decide +kernel
theorem dX5_put_39 : decode cX5_put 39 = .ok (.ireturn, 1) := by decide +kernel
theorem dX5_put_40 : decode cX5_put 40 = .ok (.aload_n 0, 1) := by decide +kernel
theorem dX5_put_41 : decode cX5_put 41 = .ok (.iload_n 1, 1) := by decide +kernel
theorem dX5_put_42 : decode cX5_put 42 = .ok (.iload_n 3, 1) := by decide +kernel
theorem dX5_put_43 : decode cX5_put 43 = .ok (.iload 4, 2) := by decide +kernel
theorem dX5_put_45 : decode cX5_put 45 = .ok (.invokevirtual 193, 3) := by decide +kernel
theorem dX5_put_48 : decode cX5_put 48 = .ok (.iconst 1, 1) := by decide +kernel
theorem dX5_put_49 : decode cX5_put 49 = .ok (.ireturn, 1) := by decide +kernel
theorem dX5_get_0 : decode cX5_get 0 = .ok (.iload_n 1, 1) := by decide +kernel
theorem dX5_get_1 : decode cX5_get 1 = .ok (.invokestatic 103, 3) := by decide +kernel
theorem dX5_get_4 : decode cX5_get 4 = .ok (.ifCond .eq 12, 3) := by decide +kernel
theorem dX5_get_7 : decode cX5_get 7 = .ok (.iload_n 2, 1) := by decide +kernel
theorem dX5_get_8 : decode cX5_get 8 = .ok (.iconst 0, 1) := by decide +kernel
theorem dX5_get_9 : decode cX5_get 9 = .ok (.iconst 2, 1) := by decide +kernel
theorem dX5_get_10 : decode cX5_get 10 = .ok (.invokestatic 75, 3) := by decide +kernel
theorem dX5_get_13 : decode cX5_get 13 = .ok (.ifCond .ne 6, 3) := by decide +kernel
theorem dX5_get_16 : decode cX5_get 16 = .ok (.ldc 197, 2) := by decide +kernel
theorem dX5_get_18 : decode cX5_get 18 = .ok (.ireturn, 1) := by decide +kernel
theorem dX5_get_19 : decode cX5_get 19 = .ok (.aload_n 0, 1) := by decide +kernel
theorem dX5_get_20 : decode cX5_get 20 = .ok (.iload_n 1, 1) := by decide +kernel
theorem dX5_get_21 : decode cX5_get 21 = .ok (.iload_n 2, 1) := by decide +kernel
theorem dX5_get_22 : decode cX5_get 22 = .ok (.iload_n 3, 1) := by decide +kernel
theorem dX5_get_23 : decode cX5_get 23 = .ok (.invokevirtual 189, 3) := by decide +kernel
theorem dX5_get_26 : decode cX5_get 26 = .ok (.istore 4, 2) := by decide +kernel
theorem dX5_get_28 : decode cX5_get 28 = .ok (.iload 4, 2) := by decide +kernel
theorem dX5_get_30 : decode cX5_get 30 = .ok (.ifCond .le 12, 3) := by decide +kernel
theorem dX5_get_33 : decode cX5_get 33 = .ok (.aload_n 0, 1) := by decide +kernel
theorem dX5_get_34 : decode cX5_get 34 = .ok (.iload 4, 2) := by decide +kernel
theorem dX5_get_36 : decode cX5_get 36 = .ok (.putfield 186, 3) := by decide +kernel
theorem dX5_get_39 : decode cX5_get 39 = .ok (.ldc 197, 2) := by decide +kernel
theorem dX5_get_41 : decode cX5_get 41 = .ok (.ireturn, 1) := by decide +kernel
theorem dX5_get_42 : decode cX5_get 42 = .ok (.aload_n 0, 1) := by decide +kernel
theorem dX5_get_43 : decode cX5_get 43 = .ok (.getfield 62, 3) := by decide +kernel
theorem dX5_get_46 : decode cX5_get 46 = .ok (.bipush 48, 2) := by decide +kernel
theorem dX5_get_48 : decode cX5_get 48 = .ok (.iload_n 1, 1) := by decide +kernel
theorem dX5_get_49 : decode cX5_get 49 = .ok (.imul, 1) := by decide +kernel
theorem dX5_get_50 : decode cX5_get 50 = .ok (.iload_n 3, 1) := by decide +kernel
theorem dX5_get_51 : decode cX5_get 51 = .ok (.iadd, 1) := by decide +kernel
theorem dX5_get_52 : decode cX5_get 52 = .ok (.iaload, 1) := by decide +kernel
theorem dX5_get_53 : decode cX5_get 53 = .ok (.ireturn, 1) := by decide +kernel
theorem dX5_copy_0 : decode cX5_copy 0 = .ok (.iload_n 1, 1) := by decide +kernel
theorem dX5_copy_1 : decode cX5_copy 1 = .ok (.invokestatic 103, 3) := by decide +kernel
theorem dX5_copy_4 : decode cX5_copy 4 = .ok (.ifCond .eq 10, 3) := by decide +kernel
theorem dX5_copy_7 : decode cX5_copy 7 = .ok (.iload_n 3, 1) := by decide +kernel
theorem dX5_copy_8 : decode cX5_copy 8 = .ok (.invokestatic 103, 3) := by decide +kernel
theorem dX5_copy_11 : decode cX5_copy 11 = .ok (.ifCond .ne 6, 3) := by decide +kernel
theorem dX5_copy_14 : decode cX5_copy 14 = .ok (.bipush (-2), 2) := by decide +kernel
theorem dX5_copy_16 : decode cX5_copy 16 = .ok (.ireturn, 1) := by decide +kernel
theorem dX5_copy_17 : decode cX5_copy 17 = .ok (.aload_n 0, 1) := by decide +kernel
theorem dX5_copy_18 : decode cX5_copy 18 = .ok (.getfield 52, 3) := by decide +kernel
theorem dX5_copy_21 : decode cX5_copy 21 = .ok (.iload_n 1, 1) := by decide +kernel
theorem dX5_copy_22 : decode cX5_copy 22 = .ok (.baload, 1) := by decide +kernel
theorem dX5_copy_23 : decode cX5_copy 23 = .ok (.ifCond .eq 12, 3) := by decide +kernel
theorem dX5_copy_26 : decode cX5_copy 26 = .ok (.aload_n 0, 1) := by decide +kernel
theorem dX5_copy_27 : decode cX5_copy 27 = .ok (.getfield 52, 3) := by decide +kernel
theorem dX5_copy_30 : decode cX5_copy 30 = .ok (.iload_n 3, 1) := by decide +kernel
theorem dX5_copy_31 : decode cX5_copy 31 = .ok (.baload, 1) := by decide +kernel
theorem dX5_copy_32 : decode cX5_copy 32 = .ok (.ifCond .ne 9, 3) := by decide +kernel
theorem dX5_copy_35 : decode cX5_copy 35 = .ok (.aload_n 0, 1) := by decide +kernel
theorem dX5_copy_36 : decode cX5_copy 36 = .ok (.iconst 1, 1) := by decide +kernel
theorem dX5_copy_37 : decode cX5_copy 37 = .ok (.invokevirtual 107, 3) := by decide +kernel
theorem dX5_copy_40 : decode cX5_copy 40 = .ok (.ireturn, 1) := by decide +kernel
theorem dX5_copy_41 : decode cX5_copy 41 = .ok (.aload_n 0, 1) := by decide +kernel
theorem dX5_copy_42 : decode cX5_copy 42 = .ok (.getfield 56, 3) := by decide +kernel
theorem dX5_copy_45 : decode cX5_copy 45 = .ok (.iload_n 1, 1) := by decide +kernel
theorem dX5_copy_46 : decode cX5_copy 46 = .ok (.iaload, 1) := by decide +kernel
theorem dX5_copy_47 : decode cX5_copy 47 = .ok (.aload_n 0, 1) := by decide +kernel
theorem dX5_copy_48 : decode cX5_copy 48 = .ok (.getfield 56, 3) := by decide +kernel
theorem dX5_copy_51 : decode cX5_copy 51 = .ok (.iload_n 3, 1) := by decide +kernel
theorem dX5_copy_52 : decode cX5_copy 52 = .ok (.iaload, 1) := by decide +kernel
theorem dX5_copy_53 : decode cX5_copy 53 = .ok (.if_icmp .eq 9, 3) := by decide +kernel
theorem dX5_copy_56 : decode cX5_copy 56 = .ok (.aload_n 0, 1) := by decide +kernel
theorem dX5_copy_57 : decode cX5_copy 57 = .ok (.iconst 4, 1) := by decide +kernel
theorem dX5_copy_58 : decode cX5_copy 58 = .ok (.invokevirtual 107, 3) := by decide +kernel
theorem dX5_copy_61 : decode cX5_copy 61 = .ok (.ireturn, 1) := by decide +kernel
theorem dX5_copy_62 : decode cX5_copy 62 = .ok (.iload_n 2, 1) := by decide +kernel
theorem dX5_copy_63 : decode cX5_copy 63 = .ok (.ifCond .lt 48, 3) := by decide +kernel
theorem dX5_copy_66 : decode cX5_copy 66 = .ok (.iload 4, 2) := by decide +kernel
theorem dX5_copy_68 : decode cX5_copy 68 = .ok (.ifCond .lt 43, 3) := by decide +kernel
theorem dX5_copy_71 : decode cX5_copy 71 = .ok (.iload 5, 2) := by decide +kernel
theorem dX5_copy_73 : decode cX5_copy 73 = .ok (.ifCond .lt 38, 3) := by decide +kernel
theorem dX5_copy_76 : decode cX5_copy 76 = .ok (.iload_n 2, 1) := by decide +kernel
theorem dX5_copy_77 : decode cX5_copy 77 = .ok (.i2l, 1) := by decide +kernel
theorem dX5_copy_78 : decode cX5_copy 78 = .ok (.iload 5, 2) := by decide +kernel
theorem dX5_copy_80 : decode cX5_copy 80 = .ok (.i2l, 1) := by decide +kernel
theorem dX5_copy_81 : decode cX5_copy 81 = .ok (.ladd, 1) := by decide +kernel
theorem dX5_copy_82 : decode cX5_copy 82 = .ok (.aload_n 0, 1) := by decide +kernel
theorem dX5_copy_83 : decode cX5_copy 83 = .ok (.getfield 59, 3) := by decide +kernel
theorem dX5_copy_86 : decode cX5_copy 86 = .ok (.iload_n 1, 1) := by decide +kernel
theorem dX5_copy_87 : decode cX5_copy 87 = .ok (.iaload, 1) := by decide +kernel
theorem dX5_copy_88 : decode cX5_copy 88 = .ok (.i2l, 1) := by decide +kernel
theorem dX5_copy_89 : decode cX5_copy 89 = .ok (.lcmp, 1) := by decide +kernel
theorem dX5_copy_90 : decode cX5_copy 90 = .ok (.ifCond .gt 21, 3) := by decide +kernel
theorem dX5_copy_93 : decode cX5_copy 93 = .ok (.iload 4, 2) := by decide +kernel
theorem dX5_copy_95 : decode cX5_copy 95 = .ok (.i2l, 1) := by decide +kernel
theorem dX5_copy_96 : decode cX5_copy 96 = .ok (.iload 5, 2) := by decide +kernel
theorem dX5_copy_98 : decode cX5_copy 98 = .ok (.i2l, 1) := by decide +kernel
theorem dX5_copy_99 : decode cX5_copy 99 = .ok (.ladd, 1) := by decide +kernel
theorem dX5_copy_100 : decode cX5_copy 100 = .ok (.aload_n 0, 1) := by decide +kernel
theorem dX5_copy_101 : decode cX5_copy 101 = .ok (.getfield 59, 3) := by decide +kernel
theorem dX5_copy_104 : decode cX5_copy 104 = .ok (.iload_n 3, 1) := by decide +kernel
theorem dX5_copy_105 : decode cX5_copy 105 = .ok (.iaload, 1) := by decide +kernel
theorem dX5_copy_106 : decode cX5_copy 106 = .ok (.i2l, 1) := by decide +kernel
theorem dX5_copy_107 : decode cX5_copy 107 = .ok (.lcmp, 1) := by decide +kernel
theorem dX5_copy_108 : decode cX5_copy 108 = .ok (.ifCond .le 9, 3) := by decide +kernel
theorem dX5_copy_111 : decode cX5_copy 111 = .ok (.aload_n 0, 1) := by decide +kernel
theorem dX5_copy_112 : decode cX5_copy 112 = .ok (.iconst 2, 1) := by decide +kernel
theorem dX5_copy_113 : decode cX5_copy 113 = .ok (.invokevirtual 107, 3) := by decide +kernel
theorem dX5_copy_116 : decode cX5_copy 116 = .ok (.ireturn, 1) := by decide +kernel
theorem dX5_copy_117 : decode cX5_copy 117 = .ok (.iconst 0, 1) := by decide +kernel
theorem dX5_copy_118 : decode cX5_copy 118 = .ok (.istore 6, 2) := by decide +kernel
theorem dX5_copy_120 : decode cX5_copy 120 = .ok (.iload 6, 2) := by decide +kernel
theorem dX5_copy_122 : decode cX5_copy 122 = .ok (.iload 5, 2) := by decide +kernel
theorem dX5_copy_124 : decode cX5_copy 124 = .ok (.if_icmp .ge 30, 3) := by decide +kernel
theorem dX5_copy_127 : decode cX5_copy 127 = .ok (.aload_n 0, 1) := by decide +kernel
theorem dX5_copy_128 : decode cX5_copy 128 = .ok (.getfield 65, 3) := by decide +kernel
theorem dX5_copy_131 : decode cX5_copy 131 = .ok (.iload 6, 2) := by decide +kernel
theorem dX5_copy_133 : decode cX5_copy 133 = .ok (.aload_n 0, 1) := by decide +kernel
theorem dX5_copy_134 : decode cX5_copy 134 = .ok (.getfield 62, 3) := by decide +kernel
theorem dX5_copy_137 : decode cX5_copy 137 = .ok (.bipush 48, 2) := by decide +kernel
theorem dX5_copy_139 : decode cX5_copy 139 = .ok (.iload_n 1, 1) := by decide +kernel
theorem dX5_copy_140 : decode cX5_copy 140 = .ok (.imul, 1) := by decide +kernel
theorem dX5_copy_141 : decode cX5_copy 141 = .ok (.iload_n 2, 1) := by decide +kernel
theorem dX5_copy_142 : decode cX5_copy 142 = .ok (.iadd, 1) := by decide +kernel
theorem dX5_copy_143 : decode cX5_copy 143 = .ok (.iload 6, 2) := by decide +kernel
theorem dX5_copy_145 : decode cX5_copy 145 = .ok (.iadd, 1) := by decide +kernel
theorem dX5_copy_146 : decode cX5_copy 146 = .ok (.iaload, 1) := by decide +kernel
theorem dX5_copy_147 : decode cX5_copy 147 = .ok (.iastore, 1) := by decide +kernel
theorem dX5_copy_148 : decode cX5_copy 148 = .ok (.iinc 6 1, 3) := by decide +kernel
theorem dX5_copy_151 : decode cX5_copy 151 = .ok (.goto (-31), 3) := by decide +kernel
theorem dX5_copy_154 : decode cX5_copy 154 = .ok (.iconst 0, 1) := by decide +kernel
theorem dX5_copy_155 : decode cX5_copy 155 = .ok (.istore 6, 2) := by decide +kernel
theorem dX5_copy_157 : decode cX5_copy 157 = .ok (.iload 6, 2) := by decide +kernel
theorem dX5_copy_159 : decode cX5_copy 159 = .ok (.iload 5, 2) := by decide +kernel
theorem dX5_copy_161 : decode cX5_copy 161 = .ok (.if_icmp .ge 31, 3) := by decide +kernel
theorem dX5_copy_164 : decode cX5_copy 164 = .ok (.aload_n 0, 1) := by decide +kernel
theorem dX5_copy_165 : decode cX5_copy 165 = .ok (.getfield 62, 3) := by decide +kernel
theorem dX5_copy_168 : decode cX5_copy 168 = .ok (.bipush 48, 2) := by decide +kernel
theorem dX5_copy_170 : decode cX5_copy 170 = .ok (.iload_n 3, 1) := by decide +kernel
theorem dX5_copy_171 : decode cX5_copy 171 = .ok (.imul, 1) := by decide +kernel
theorem dX5_copy_172 : decode cX5_copy 172 = .ok (.iload 4, 2) := by decide +kernel
theorem dX5_copy_174 : decode cX5_copy 174 = .ok (.iadd, 1) := by decide +kernel
theorem dX5_copy_175 : decode cX5_copy 175 = .ok (.iload 6, 2) := by decide +kernel
theorem dX5_copy_177 : decode cX5_copy 177 = .ok (.iadd, 1) := by decide +kernel
theorem dX5_copy_178 : decode cX5_copy 178 = .ok (.aload_n 0, 1) := by decide +kernel
theorem dX5_copy_179 : decode cX5_copy 179 = .ok (.getfield 65, 3) := by decide +kernel
theorem dX5_copy_182 : decode cX5_copy 182 = .ok (.iload 6, 2) := by decide +kernel
theorem dX5_copy_184 : decode cX5_copy 184 = .ok (.iaload, 1) := by decide +kernel
theorem dX5_copy_185 : decode cX5_copy 185 = .ok (.iastore, 1) := by decide +kernel
theorem dX5_copy_186 : decode cX5_copy 186 = .ok (.iinc 6 1, 3) := by decide +kernel
theorem dX5_copy_189 : decode cX5_copy 189 = .ok (.goto (-32), 3) := by decide +kernel
theorem dX5_copy_192 : decode cX5_copy 192 = .ok (.iconst 1, 1) := by decide +kernel
theorem dX5_copy_193 : decode cX5_copy 193 = .ok (.ireturn, 1) := by decide +kernel
theorem dX5_write_0 : decode cX5_write 0 = .ok (.iload_n 1, 1) := by decide +kernel
theorem dX5_write_1 : decode cX5_write 1 = .ok (.invokestatic 103, 3) := by decide +kernel
theorem dX5_write_4 : decode cX5_write 4 = .ok (.ifCond .ne 6, 3) := by decide +kernel
theorem dX5_write_7 : decode cX5_write 7 = .ok (.bipush (-2), 2) := by decide +kernel
theorem dX5_write_9 : decode cX5_write 9 = .ok (.ireturn, 1) := by decide +kernel
theorem dX5_write_10 : decode cX5_write 10 = .ok (.aload_n 0, 1) := by decide +kernel
theorem dX5_write_11 : decode cX5_write 11 = .ok (.getfield 52, 3) := by decide +kernel
theorem dX5_write_14 : decode cX5_write 14 = .ok (.iload_n 1, 1) := by decide +kernel
theorem dX5_write_15 : decode cX5_write 15 = .ok (.baload, 1) := by decide +kernel
theorem dX5_write_16 : decode cX5_write 16 = .ok (.ifCond .ne 9, 3) := by decide +kernel
theorem dX5_write_19 : decode cX5_write 19 = .ok (.aload_n 0, 1) := by decide +kernel
theorem dX5_write_20 : decode cX5_write 20 = .ok (.iconst 1, 1) := by decide +kernel
theorem dX5_write_21 : decode cX5_write 21 = .ok (.invokevirtual 107, 3) := by decide +kernel
theorem dX5_write_24 : decode cX5_write 24 = .ok (.ireturn, 1) := by decide +kernel
theorem dX5_write_25 : decode cX5_write 25 = .ok (.aload_n 0, 1) := by decide +kernel
theorem dX5_write_26 : decode cX5_write 26 = .ok (.invokevirtual 100, 3) := by decide +kernel
theorem dX5_write_29 : decode cX5_write 29 = .ok (.iconst 0, 1) := by decide +kernel
theorem dX5_write_30 : decode cX5_write 30 = .ok (.istore_n 2, 1) := by decide +kernel
theorem dX5_write_31 : decode cX5_write 31 = .ok (.iload_n 2, 1) := by decide +kernel
theorem dX5_write_32 : decode cX5_write 32 = .ok (.aload_n 0, 1) := by decide +kernel
theorem dX5_write_33 : decode cX5_write 33 = .ok (.getfield 59, 3) := by decide +kernel
theorem dX5_write_36 : decode cX5_write 36 = .ok (.iload_n 1, 1) := by decide +kernel
theorem dX5_write_37 : decode cX5_write 37 = .ok (.iaload, 1) := by decide +kernel
theorem dX5_write_38 : decode cX5_write 38 = .ok (.if_icmp .ge 28, 3) := by decide +kernel
theorem dX5_write_41 : decode cX5_write 41 = .ok (.iload_n 2, 1) := by decide +kernel
theorem dX5_write_42 : decode cX5_write 42 = .ok (.aload_n 0, 1) := by decide +kernel
theorem dX5_write_43 : decode cX5_write 43 = .ok (.getfield 79, 3) := by decide +kernel
theorem dX5_write_46 : decode cX5_write 46 = .ok (.if_icmp .ge 20, 3) := by decide +kernel
theorem dX5_write_49 : decode cX5_write 49 = .ok (.aload_n 0, 1) := by decide +kernel
theorem dX5_write_50 : decode cX5_write 50 = .ok (.iload_n 1, 1) := by decide +kernel
theorem dX5_write_51 : decode cX5_write 51 = .ok (.iload_n 2, 1) := by decide +kernel
theorem dX5_write_52 : decode cX5_write 52 = .ok (.aload_n 0, 1) := by decide +kernel
theorem dX5_write_53 : decode cX5_write 53 = .ok (.iload_n 2, 1) := by decide +kernel
theorem dX5_write_54 : decode cX5_write 54 = .ok (.invokevirtual 119, 3) := by decide +kernel
theorem dX5_write_57 : decode cX5_write 57 = .ok (.invokevirtual 193, 3) := by decide +kernel
theorem dX5_write_60 : decode cX5_write 60 = .ok (.iinc 2 1, 3) := by decide +kernel
theorem dX5_write_63 : decode cX5_write 63 = .ok (.goto (-32), 3) := by decide +kernel
theorem dX5_write_66 : decode cX5_write 66 = .ok (.iload_n 2, 1) := by decide +kernel
theorem dX5_write_67 : decode cX5_write 67 = .ok (.ireturn, 1) := by decide +kernel
theorem dX5_sumOf_0 : decode cX5_sumOf 0 = .ok (.aload_n 0, 1) := by decide +kernel
theorem dX5_sumOf_1 : decode cX5_sumOf 1 = .ok (.invokevirtual 100, 3) := by decide +kernel
theorem dX5_sumOf_4 : decode cX5_sumOf 4 = .ok (.iconst 0, 1) := by decide +kernel
theorem dX5_sumOf_5 : decode cX5_sumOf 5 = .ok (.istore_n 2, 1) := by decide +kernel
theorem dX5_sumOf_6 : decode cX5_sumOf 6 = .ok (.iconst 0, 1) := by decide +kernel
theorem dX5_sumOf_7 : decode cX5_sumOf 7 = .ok (.istore_n 3, 1) := by decide +kernel
theorem dX5_sumOf_8 : decode cX5_sumOf 8 = .ok (.iload_n 3, 1) := by decide +kernel
theorem dX5_sumOf_9 : decode cX5_sumOf 9 = .ok (.aload_n 0, 1) := by decide +kernel
theorem dX5_sumOf_10 : decode cX5_sumOf 10 = .ok (.getfield 79, 3) := by decide +kernel
theorem dX5_sumOf_13 : decode cX5_sumOf 13 = .ok (.if_icmp .ge 57, 3) := by decide +kernel
theorem dX5_sumOf_16 : decode cX5_sumOf 16 = .ok (.iload_n 2, 1) := by decide +kernel
theorem dX5_sumOf_17 : decode cX5_sumOf 17 = .ok (.iload_n 1, 1) := by decide +kernel
theorem dX5_sumOf_18 : decode cX5_sumOf 18 = .ok (.iconst 5, 1) := by decide +kernel
theorem dX5_sumOf_19 : decode cX5_sumOf 19 = .ok (.if_icmp .ne 14, 3) := by decide +kernel
theorem dX5_sumOf_22 : decode cX5_sumOf 22 = .ok (.aload_n 0, 1) := by decide +kernel
theorem dX5_sumOf_23 : decode cX5_sumOf 23 = .ok (.iload_n 3, 1) := by decide +kernel
theorem dX5_sumOf_24 : decode cX5_sumOf 24 = .ok (.invokevirtual 119, 3) := by decide +kernel
theorem dX5_sumOf_27 : decode cX5_sumOf 27 = .ok (.invokestatic 143, 3) := by decide +kernel
theorem dX5_sumOf_30 : decode cX5_sumOf 30 = .ok (.goto 32, 3) := by decide +kernel
theorem dX5_sumOf_33 : decode cX5_sumOf 33 = .ok (.iload_n 1, 1) := by decide +kernel
theorem dX5_sumOf_34 : decode cX5_sumOf 34 = .ok (.bipush 7, 2) := by decide +kernel
theorem dX5_sumOf_36 : decode cX5_sumOf 36 = .ok (.if_icmp .ne 25, 3) := by decide +kernel
theorem dX5_sumOf_39 : decode cX5_sumOf 39 = .ok (.aload_n 0, 1) := by decide +kernel
theorem dX5_sumOf_40 : decode cX5_sumOf 40 = .ok (.aload_n 0, 1) := by decide +kernel
theorem dX5_sumOf_41 : decode cX5_sumOf 41 = .ok (.iload_n 3, 1) := by decide +kernel
theorem dX5_sumOf_42 : decode cX5_sumOf 42 = .ok (.invokevirtual 119, 3) := by decide +kernel
theorem dX5_sumOf_45 : decode cX5_sumOf 45 = .ok (.invokevirtual 122, 3) := by decide +kernel
theorem dX5_sumOf_48 : decode cX5_sumOf 48 = .ok (.iconst 0, 1) := by decide +kernel
theorem dX5_sumOf_49 : decode cX5_sumOf 49 = .ok (.bipush 9, 2) := by decide +kernel
theorem dX5_sumOf_51 : decode cX5_sumOf 51 = .ok (.invokestatic 75, 3) := by decide +kernel
theorem dX5_sumOf_54 : decode cX5_sumOf 54 = .ok (.ifCond .eq 7, 3) := by decide +kernel
theorem dX5_sumOf_57 : decode cX5_sumOf 57 = .ok (.iconst 1, 1) := by decide +kernel
theorem dX5_sumOf_58 : decode cX5_sumOf 58 = .ok (.goto 4, 3) := by decide +kernel
theorem dX5_sumOf_61 : decode cX5_sumOf 61 = .ok (.iconst 0, 1) := by decide +kernel
theorem dX5_sumOf_62 : decode cX5_sumOf 62 = .ok (.iadd, 1) := by decide +kernel
theorem dX5_sumOf_63 : decode cX5_sumOf 63 = .ok (.istore_n 2, 1) := by decide +kernel
theorem dX5_sumOf_64 : decode cX5_sumOf 64 = .ok (.iinc 3 1, 3) := by decide +kernel
theorem dX5_sumOf_67 : decode cX5_sumOf 67 = .ok (.goto (-59), 3) := by decide +kernel
theorem dX5_sumOf_70 : decode cX5_sumOf 70 = .ok (.iconst 0, 1) := by decide +kernel
theorem dX5_sumOf_71 : decode cX5_sumOf 71 = .ok (.istore_n 3, 1) := by decide +kernel
theorem dX5_sumOf_72 : decode cX5_sumOf 72 = .ok (.iload_n 3, 1) := by decide +kernel
theorem dX5_sumOf_73 : decode cX5_sumOf 73 = .ok (.bipush 10, 2) := by decide +kernel
theorem dX5_sumOf_75 : decode cX5_sumOf 75 = .ok (.if_icmp .ge 27, 3) := by decide +kernel
theorem dX5_sumOf_78 : decode cX5_sumOf 78 = .ok (.iload_n 1, 1) := by decide +kernel
theorem dX5_sumOf_79 : decode cX5_sumOf 79 = .ok (.bipush 6, 2) := by decide +kernel
theorem dX5_sumOf_81 : decode cX5_sumOf 81 = .ok (.if_icmp .ne 21, 3) := by decide +kernel
theorem dX5_sumOf_84 : decode cX5_sumOf 84 = .ok (.iload_n 2, 1) := by decide +kernel
theorem dX5_sumOf_85 : decode cX5_sumOf 85 = .ok (.aload_n 0, 1) := by decide +kernel
theorem dX5_sumOf_86 : decode cX5_sumOf 86 = .ok (.getfield 7, 3) := by decide +kernel
theorem dX5_sumOf_89 : decode cX5_sumOf 89 = .ok (.iload_n 3, 1) := by decide +kernel
theorem dX5_sumOf_90 : decode cX5_sumOf 90 = .ok (.iaload, 1) := by decide +kernel
theorem dX5_sumOf_91 : decode cX5_sumOf 91 = .ok (.invokestatic 143, 3) := by decide +kernel
theorem dX5_sumOf_94 : decode cX5_sumOf 94 = .ok (.iadd, 1) := by decide +kernel
theorem dX5_sumOf_95 : decode cX5_sumOf 95 = .ok (.istore_n 2, 1) := by decide +kernel
theorem dX5_sumOf_96 : decode cX5_sumOf 96 = .ok (.iinc 3 1, 3) := by decide +kernel
theorem dX5_sumOf_99 : decode cX5_sumOf 99 = .ok (.goto (-27), 3) := by decide +kernel
theorem dX5_sumOf_102 : decode cX5_sumOf 102 = .ok (.iload_n 1, 1) := by decide +kernel
theorem dX5_sumOf_103 : decode cX5_sumOf 103 = .ok (.ifCond .ne 10, 3) := by decide +kernel
theorem dX5_sumOf_106 : decode cX5_sumOf 106 = .ok (.aload_n 0, 1) := by decide +kernel
theorem dX5_sumOf_107 : decode cX5_sumOf 107 = .ok (.getfield 79, 3) := by decide +kernel
theorem dX5_sumOf_110 : decode cX5_sumOf 110 = .ok (.goto 16, 3) := by decide +kernel
theorem dX5_sumOf_113 : decode cX5_sumOf 113 = .ok (.iload_n 1, 1) := by decide +kernel
theorem dX5_sumOf_114 : decode cX5_sumOf 114 = .ok (.iconst 1, 1) := by decide +kernel
theorem dX5_sumOf_115 : decode cX5_sumOf 115 = .ok (.if_icmp .ne 10, 3) := by decide +kernel
theorem dX5_sumOf_118 : decode cX5_sumOf 118 = .ok (.aload_n 0, 1) := by decide +kernel
theorem dX5_sumOf_119 : decode cX5_sumOf 119 = .ok (.getfield 86, 3) := by decide +kernel
theorem dX5_sumOf_122 : decode cX5_sumOf 122 = .ok (.goto 4, 3) := by decide +kernel
theorem dX5_sumOf_125 : decode cX5_sumOf 125 = .ok (.iload_n 2, 1) := by decide +kernel
theorem dX5_sumOf_126 : decode cX5_sumOf 126 = .ok (.ireturn, 1) := by decide +kernel
theorem dX5_count_0 : decode cX5_count 0 = .ok (.iload_n 1, 1) := by decide +kernel
theorem dX5_count_1 : decode cX5_count 1 = .ok (.tableswitch 76 0 8 #[51, 51, 57, 57, 66, 51, 51, 51, 71], 51) := by decide +kernel
theorem dX5_count_52 : decode cX5_count 52 = .ok (.aload_n 0, 1) := by decide +kernel
theorem dX5_count_53 : decode cX5_count 53 = .ok (.iload_n 1, 1) := by decide +kernel
theorem dX5_count_54 : decode cX5_count 54 = .ok (.invokevirtual 198, 3) := by decide +kernel
theorem dX5_count_57 : decode cX5_count 57 = .ok (.ireturn, 1) := by decide +kernel
theorem dX5_count_58 : decode cX5_count 58 = .ok (.aload_n 0, 1) := by decide +kernel
theorem dX5_count_59 : decode cX5_count 59 = .ok (.getfield 13, 3) := by decide +kernel
theorem dX5_count_62 : decode cX5_count 62 = .ok (.iload_n 1, 1) := by decide +kernel
theorem dX5_count_63 : decode cX5_count 63 = .ok (.iconst 2, 1) := by decide +kernel
theorem dX5_count_64 : decode cX5_count 64 = .ok (.isub, 1) := by decide +kernel
theorem dX5_count_65 : decode cX5_count 65 = .ok (.iaload, 1) := by decide +kernel
theorem dX5_count_66 : decode cX5_count 66 = .ok (.ireturn, 1) := by decide +kernel
theorem dX5_count_67 : decode cX5_count 67 = .ok (.aload_n 0, 1) := by decide +kernel
theorem dX5_count_68 : decode cX5_count 68 = .ok (.getfield 110, 3) := by decide +kernel
theorem dX5_count_71 : decode cX5_count 71 = .ok (.ireturn, 1) := by decide +kernel
theorem dX5_count_72 : decode cX5_count 72 = .ok (.aload_n 0, 1) := by decide +kernel
theorem dX5_count_73 : decode cX5_count 73 = .ok (.getfield 186, 3) := by decide +kernel
theorem dX5_count_76 : decode cX5_count 76 = .ok (.ireturn, 1) := by decide +kernel
theorem dX5_count_77 : decode cX5_count 77 = .ok (.bipush (-2), 2) := by decide +kernel
theorem dX5_count_79 : decode cX5_count 79 = .ok (.ireturn, 1) := by decide +kernel
theorem dX5_digest_0 : decode cX5_digest 0 = .ok (.ldc2_w 201, 3) := by decide +kernel
theorem dX5_digest_3 : decode cX5_digest 3 = .ok (.lstore_n 1, 1) := by decide +kernel
theorem dX5_digest_4 : decode cX5_digest 4 = .ok (.iconst 0, 1) := by decide +kernel
theorem dX5_digest_5 : decode cX5_digest 5 = .ok (.istore_n 3, 1) := by decide +kernel
theorem dX5_digest_6 : decode cX5_digest 6 = .ok (.iload_n 3, 1) := by decide +kernel
theorem dX5_digest_7 : decode cX5_digest 7 = .ok (.bipush 8, 2) := by decide +kernel
theorem dX5_digest_9 : decode cX5_digest 9 = .ok (.if_icmp .ge 22, 3) := by decide +kernel
theorem dX5_digest_12 : decode cX5_digest 12 = .ok (.ldc2_w 203, 3) := by decide +kernel
theorem dX5_digest_15 : decode cX5_digest 15 = .ok (.lload_n 1, 1) := by decide +kernel
theorem dX5_digest_16 : decode cX5_digest 16 = .ok (.lmul, 1) := by decide +kernel
theorem dX5_digest_17 : decode cX5_digest 17 = .ok (.aload_n 0, 1) := by decide +kernel
theorem dX5_digest_18 : decode cX5_digest 18 = .ok (.iload_n 3, 1) := by decide +kernel
theorem dX5_digest_19 : decode cX5_digest 19 = .ok (.invokevirtual 205, 3) := by decide +kernel
theorem dX5_digest_22 : decode cX5_digest 22 = .ok (.i2l, 1) := by decide +kernel
theorem dX5_digest_23 : decode cX5_digest 23 = .ok (.ladd, 1) := by decide +kernel
theorem dX5_digest_24 : decode cX5_digest 24 = .ok (.lstore_n 1, 1) := by decide +kernel
theorem dX5_digest_25 : decode cX5_digest 25 = .ok (.iinc 3 1, 3) := by decide +kernel
theorem dX5_digest_28 : decode cX5_digest 28 = .ok (.goto (-22), 3) := by decide +kernel
theorem dX5_digest_31 : decode cX5_digest 31 = .ok (.ldc2_w 203, 3) := by decide +kernel
theorem dX5_digest_34 : decode cX5_digest 34 = .ok (.lload_n 1, 1) := by decide +kernel
theorem dX5_digest_35 : decode cX5_digest 35 = .ok (.lmul, 1) := by decide +kernel
theorem dX5_digest_36 : decode cX5_digest 36 = .ok (.aload_n 0, 1) := by decide +kernel
theorem dX5_digest_37 : decode cX5_digest 37 = .ok (.iconst 0, 1) := by decide +kernel
theorem dX5_digest_38 : decode cX5_digest 38 = .ok (.invokevirtual 96, 3) := by decide +kernel
theorem dX5_digest_41 : decode cX5_digest 41 = .ok (.i2l, 1) := by decide +kernel
theorem dX5_digest_42 : decode cX5_digest 42 = .ok (.ladd, 1) := by decide +kernel
theorem dX5_digest_43 : decode cX5_digest 43 = .ok (.lstore_n 1, 1) := by decide +kernel
theorem dX5_digest_44 : decode cX5_digest 44 = .ok (.ldc2_w 203, 3) := by decide +kernel
theorem dX5_digest_47 : decode cX5_digest 47 = .ok (.lload_n 1, 1) := by decide +kernel
theorem dX5_digest_48 : decode cX5_digest 48 = .ok (.lmul, 1) := by decide +kernel
theorem dX5_digest_49 : decode cX5_digest 49 = .ok (.aload_n 0, 1) := by decide +kernel
theorem dX5_digest_50 : decode cX5_digest 50 = .ok (.iconst 1, 1) := by decide +kernel
theorem dX5_digest_51 : decode cX5_digest 51 = .ok (.invokevirtual 96, 3) := by decide +kernel
theorem dX5_digest_54 : decode cX5_digest 54 = .ok (.i2l, 1) := by decide +kernel
theorem dX5_digest_55 : decode cX5_digest 55 = .ok (.ladd, 1) := by decide +kernel
theorem dX5_digest_56 : decode cX5_digest 56 = .ok (.lstore_n 1, 1) := by decide +kernel
theorem dX5_digest_57 : decode cX5_digest 57 = .ok (.ldc2_w 203, 3) := by decide +kernel
theorem dX5_digest_60 : decode cX5_digest 60 = .ok (.lload_n 1, 1) := by decide +kernel
theorem dX5_digest_61 : decode cX5_digest 61 = .ok (.lmul, 1) := by decide +kernel
theorem dX5_digest_62 : decode cX5_digest 62 = .ok (.aload_n 0, 1) := by decide +kernel
theorem dX5_digest_63 : decode cX5_digest 63 = .ok (.invokevirtual 125, 3) := by decide +kernel
theorem dX5_digest_66 : decode cX5_digest 66 = .ok (.i2l, 1) := by decide +kernel
theorem dX5_digest_67 : decode cX5_digest 67 = .ok (.ladd, 1) := by decide +kernel
theorem dX5_digest_68 : decode cX5_digest 68 = .ok (.lstore_n 1, 1) := by decide +kernel
theorem dX5_digest_69 : decode cX5_digest 69 = .ok (.iconst 0, 1) := by decide +kernel
theorem dX5_digest_70 : decode cX5_digest 70 = .ok (.istore_n 3, 1) := by decide +kernel
theorem dX5_digest_71 : decode cX5_digest 71 = .ok (.iload_n 3, 1) := by decide +kernel
theorem dX5_digest_72 : decode cX5_digest 72 = .ok (.aload_n 0, 1) := by decide +kernel
theorem dX5_digest_73 : decode cX5_digest 73 = .ok (.getfield 79, 3) := by decide +kernel
theorem dX5_digest_76 : decode cX5_digest 76 = .ok (.if_icmp .ge 94, 3) := by decide +kernel
theorem dX5_digest_79 : decode cX5_digest 79 = .ok (.ldc2_w 203, 3) := by decide +kernel
theorem dX5_digest_82 : decode cX5_digest 82 = .ok (.lload_n 1, 1) := by decide +kernel
theorem dX5_digest_83 : decode cX5_digest 83 = .ok (.lmul, 1) := by decide +kernel
theorem dX5_digest_84 : decode cX5_digest 84 = .ok (.aload_n 0, 1) := by decide +kernel
theorem dX5_digest_85 : decode cX5_digest 85 = .ok (.iload_n 3, 1) := by decide +kernel
theorem dX5_digest_86 : decode cX5_digest 86 = .ok (.invokevirtual 119, 3) := by decide +kernel
theorem dX5_digest_89 : decode cX5_digest 89 = .ok (.i2l, 1) := by decide +kernel
theorem dX5_digest_90 : decode cX5_digest 90 = .ok (.ladd, 1) := by decide +kernel
theorem dX5_digest_91 : decode cX5_digest 91 = .ok (.lstore_n 1, 1) := by decide +kernel
theorem dX5_digest_92 : decode cX5_digest 92 = .ok (.ldc2_w 203, 3) := by decide +kernel
theorem dX5_digest_95 : decode cX5_digest 95 = .ok (.lload_n 1, 1) := by decide +kernel
theorem dX5_digest_96 : decode cX5_digest 96 = .ok (.lmul, 1) := by decide +kernel
theorem dX5_digest_97 : decode cX5_digest 97 = .ok (.aload_n 0, 1) := by decide +kernel
theorem dX5_digest_98 : decode cX5_digest 98 = .ok (.aload_n 0, 1) := by decide +kernel
theorem dX5_digest_99 : decode cX5_digest 99 = .ok (.iload_n 3, 1) := by decide +kernel
theorem dX5_digest_100 : decode cX5_digest 100 = .ok (.invokevirtual 119, 3) := by decide +kernel
theorem dX5_digest_103 : decode cX5_digest 103 = .ok (.invokevirtual 122, 3) := by decide +kernel
theorem dX5_digest_106 : decode cX5_digest 106 = .ok (.i2l, 1) := by decide +kernel
theorem dX5_digest_107 : decode cX5_digest 107 = .ok (.ladd, 1) := by decide +kernel
theorem dX5_digest_108 : decode cX5_digest 108 = .ok (.lstore_n 1, 1) := by decide +kernel
theorem dX5_digest_109 : decode cX5_digest 109 = .ok (.ldc2_w 203, 3) := by decide +kernel
theorem dX5_digest_112 : decode cX5_digest 112 = .ok (.lload_n 1, 1) := by decide +kernel
theorem dX5_digest_113 : decode cX5_digest 113 = .ok (.lmul, 1) := by decide +kernel
theorem dX5_digest_114 : decode cX5_digest 114 = .ok (.aload_n 0, 1) := by decide +kernel
theorem dX5_digest_115 : decode cX5_digest 115 = .ok (.iload_n 3, 1) := by decide +kernel
theorem dX5_digest_116 : decode cX5_digest 116 = .ok (.invokevirtual 131, 3) := by decide +kernel
theorem dX5_digest_119 : decode cX5_digest 119 = .ok (.i2l, 1) := by decide +kernel
theorem dX5_digest_120 : decode cX5_digest 120 = .ok (.ladd, 1) := by decide +kernel
theorem dX5_digest_121 : decode cX5_digest 121 = .ok (.lstore_n 1, 1) := by decide +kernel
theorem dX5_digest_122 : decode cX5_digest 122 = .ok (.ldc2_w 203, 3) := by decide +kernel
theorem dX5_digest_125 : decode cX5_digest 125 = .ok (.lload_n 1, 1) := by decide +kernel
theorem dX5_digest_126 : decode cX5_digest 126 = .ok (.lmul, 1) := by decide +kernel
theorem dX5_digest_127 : decode cX5_digest 127 = .ok (.aload_n 0, 1) := by decide +kernel
theorem dX5_digest_128 : decode cX5_digest 128 = .ok (.iload_n 3, 1) := by decide +kernel
theorem dX5_digest_129 : decode cX5_digest 129 = .ok (.iconst 0, 1) := by decide +kernel
theorem dX5_digest_130 : decode cX5_digest 130 = .ok (.invokevirtual 149, 3) := by decide +kernel
theorem dX5_digest_133 : decode cX5_digest 133 = .ok (.i2l, 1) := by decide +kernel
theorem dX5_digest_134 : decode cX5_digest 134 = .ok (.ladd, 1) := by decide +kernel
theorem dX5_digest_135 : decode cX5_digest 135 = .ok (.lstore_n 1, 1) := by decide +kernel
theorem dX5_digest_136 : decode cX5_digest 136 = .ok (.ldc2_w 203, 3) := by decide +kernel
theorem dX5_digest_139 : decode cX5_digest 139 = .ok (.lload_n 1, 1) := by decide +kernel
theorem dX5_digest_140 : decode cX5_digest 140 = .ok (.lmul, 1) := by decide +kernel
theorem dX5_digest_141 : decode cX5_digest 141 = .ok (.aload_n 0, 1) := by decide +kernel
theorem dX5_digest_142 : decode cX5_digest 142 = .ok (.iload_n 3, 1) := by decide +kernel
theorem dX5_digest_143 : decode cX5_digest 143 = .ok (.iconst 1, 1) := by decide +kernel
theorem dX5_digest_144 : decode cX5_digest 144 = .ok (.invokevirtual 149, 3) := by decide +kernel
theorem dX5_digest_147 : decode cX5_digest 147 = .ok (.i2l, 1) := by decide +kernel
theorem dX5_digest_148 : decode cX5_digest 148 = .ok (.ladd, 1) := by decide +kernel
theorem dX5_digest_149 : decode cX5_digest 149 = .ok (.lstore_n 1, 1) := by decide +kernel
theorem dX5_digest_150 : decode cX5_digest 150 = .ok (.ldc2_w 203, 3) := by decide +kernel
theorem dX5_digest_153 : decode cX5_digest 153 = .ok (.lload_n 1, 1) := by decide +kernel
theorem dX5_digest_154 : decode cX5_digest 154 = .ok (.lmul, 1) := by decide +kernel
theorem dX5_digest_155 : decode cX5_digest 155 = .ok (.aload_n 0, 1) := by decide +kernel
theorem dX5_digest_156 : decode cX5_digest 156 = .ok (.iload_n 3, 1) := by decide +kernel
theorem dX5_digest_157 : decode cX5_digest 157 = .ok (.iconst 5, 1) := by decide +kernel
theorem dX5_digest_158 : decode cX5_digest 158 = .ok (.invokevirtual 152, 3) := by decide +kernel
theorem dX5_digest_161 : decode cX5_digest 161 = .ok (.i2l, 1) := by decide +kernel
theorem dX5_digest_162 : decode cX5_digest 162 = .ok (.ladd, 1) := by decide +kernel
theorem dX5_digest_163 : decode cX5_digest 163 = .ok (.lstore_n 1, 1) := by decide +kernel
theorem dX5_digest_164 : decode cX5_digest 164 = .ok (.iinc 3 1, 3) := by decide +kernel
theorem dX5_digest_167 : decode cX5_digest 167 = .ok (.goto (-96), 3) := by decide +kernel
theorem dX5_digest_170 : decode cX5_digest 170 = .ok (.iconst 0, 1) := by decide +kernel
theorem dX5_digest_171 : decode cX5_digest 171 = .ok (.istore_n 3, 1) := by decide +kernel
theorem dX5_digest_172 : decode cX5_digest 172 = .ok (.iload_n 3, 1) := by decide +kernel
theorem dX5_digest_173 : decode cX5_digest 173 = .ok (.aload_n 0, 1) := by decide +kernel
theorem dX5_digest_174 : decode cX5_digest 174 = .ok (.getfield 86, 3) := by decide +kernel
theorem dX5_digest_177 : decode cX5_digest 177 = .ok (.if_icmp .ge 50, 3) := by decide +kernel
theorem dX5_digest_180 : decode cX5_digest 180 = .ok (.ldc2_w 203, 3) := by decide +kernel
theorem dX5_digest_183 : decode cX5_digest 183 = .ok (.lload_n 1, 1) := by decide +kernel
theorem dX5_digest_184 : decode cX5_digest 184 = .ok (.lmul, 1) := by decide +kernel
theorem dX5_digest_185 : decode cX5_digest 185 = .ok (.aload_n 0, 1) := by decide +kernel
theorem dX5_digest_186 : decode cX5_digest 186 = .ok (.iload_n 3, 1) := by decide +kernel
theorem dX5_digest_187 : decode cX5_digest 187 = .ok (.invokevirtual 134, 3) := by decide +kernel
theorem dX5_digest_190 : decode cX5_digest 190 = .ok (.i2l, 1) := by decide +kernel
theorem dX5_digest_191 : decode cX5_digest 191 = .ok (.ladd, 1) := by decide +kernel
theorem dX5_digest_192 : decode cX5_digest 192 = .ok (.lstore_n 1, 1) := by decide +kernel
theorem dX5_digest_193 : decode cX5_digest 193 = .ok (.ldc2_w 203, 3) := by decide +kernel
theorem dX5_digest_196 : decode cX5_digest 196 = .ok (.lload_n 1, 1) := by decide +kernel
theorem dX5_digest_197 : decode cX5_digest 197 = .ok (.lmul, 1) := by decide +kernel
theorem dX5_digest_198 : decode cX5_digest 198 = .ok (.aload_n 0, 1) := by decide +kernel
theorem dX5_digest_199 : decode cX5_digest 199 = .ok (.iload_n 3, 1) := by decide +kernel
theorem dX5_digest_200 : decode cX5_digest 200 = .ok (.iconst 0, 1) := by decide +kernel
theorem dX5_digest_201 : decode cX5_digest 201 = .ok (.invokevirtual 146, 3) := by decide +kernel
theorem dX5_digest_204 : decode cX5_digest 204 = .ok (.i2l, 1) := by decide +kernel
theorem dX5_digest_205 : decode cX5_digest 205 = .ok (.ladd, 1) := by decide +kernel
theorem dX5_digest_206 : decode cX5_digest 206 = .ok (.lstore_n 1, 1) := by decide +kernel
theorem dX5_digest_207 : decode cX5_digest 207 = .ok (.ldc2_w 203, 3) := by decide +kernel
theorem dX5_digest_210 : decode cX5_digest 210 = .ok (.lload_n 1, 1) := by decide +kernel
theorem dX5_digest_211 : decode cX5_digest 211 = .ok (.lmul, 1) := by decide +kernel
theorem dX5_digest_212 : decode cX5_digest 212 = .ok (.aload_n 0, 1) := by decide +kernel
theorem dX5_digest_213 : decode cX5_digest 213 = .ok (.iload_n 3, 1) := by decide +kernel
theorem dX5_digest_214 : decode cX5_digest 214 = .ok (.iconst 0, 1) := by decide +kernel
theorem dX5_digest_215 : decode cX5_digest 215 = .ok (.invokevirtual 174, 3) := by decide +kernel
theorem dX5_digest_218 : decode cX5_digest 218 = .ok (.i2l, 1) := by decide +kernel
theorem dX5_digest_219 : decode cX5_digest 219 = .ok (.ladd, 1) := by decide +kernel
theorem dX5_digest_220 : decode cX5_digest 220 = .ok (.lstore_n 1, 1) := by decide +kernel
theorem dX5_digest_221 : decode cX5_digest 221 = .ok (.iinc 3 1, 3) := by decide +kernel
theorem dX5_digest_224 : decode cX5_digest 224 = .ok (.goto (-52), 3) := by decide +kernel
theorem dX5_digest_227 : decode cX5_digest 227 = .ok (.ldc2_w 203, 3) := by decide +kernel
theorem dX5_digest_230 : decode cX5_digest 230 = .ok (.lload_n 1, 1) := by decide +kernel
theorem dX5_digest_231 : decode cX5_digest 231 = .ok (.lmul, 1) := by decide +kernel
theorem dX5_digest_232 : decode cX5_digest 232 = .ok (.aload_n 0, 1) := by decide +kernel
theorem dX5_digest_233 : decode cX5_digest 233 = .ok (.invokevirtual 137, 3) := by decide +kernel
theorem dX5_digest_236 : decode cX5_digest 236 = .ok (.i2l, 1) := by decide +kernel
theorem dX5_digest_237 : decode cX5_digest 237 = .ok (.ladd, 1) := by decide +kernel
theorem dX5_digest_238 : decode cX5_digest 238 = .ok (.lstore_n 1, 1) := by decide +kernel
theorem dX5_digest_239 : decode cX5_digest 239 = .ok (.ldc2_w 203, 3) := by decide +kernel
theorem dX5_digest_242 : decode cX5_digest 242 = .ok (.lload_n 1, 1) := by decide +kernel
theorem dX5_digest_243 : decode cX5_digest 243 = .ok (.lmul, 1) := by decide +kernel
theorem dX5_digest_244 : decode cX5_digest 244 = .ok (.aload_n 0, 1) := by decide +kernel
theorem dX5_digest_245 : decode cX5_digest 245 = .ok (.iconst 0, 1) := by decide +kernel
theorem dX5_digest_246 : decode cX5_digest 246 = .ok (.invokevirtual 155, 3) := by decide +kernel
theorem dX5_digest_249 : decode cX5_digest 249 = .ok (.i2l, 1) := by decide +kernel
theorem dX5_digest_250 : decode cX5_digest 250 = .ok (.ladd, 1) := by decide +kernel
theorem dX5_digest_251 : decode cX5_digest 251 = .ok (.lstore_n 1, 1) := by decide +kernel
theorem dX5_digest_252 : decode cX5_digest 252 = .ok (.ldc2_w 203, 3) := by decide +kernel
theorem dX5_digest_255 : decode cX5_digest 255 = .ok (.lload_n 1, 1) := by decide +kernel
theorem dX5_digest_256 : decode cX5_digest 256 = .ok (.lmul, 1) := by decide +kernel
theorem dX5_digest_257 : decode cX5_digest 257 = .ok (.aload_n 0, 1) := by decide +kernel
theorem dX5_digest_258 : decode cX5_digest 258 = .ok (.iconst 1, 1) := by decide +kernel
theorem dX5_digest_259 : decode cX5_digest 259 = .ok (.invokevirtual 155, 3) := by decide +kernel
theorem dX5_digest_262 : decode cX5_digest 262 = .ok (.i2l, 1) := by decide +kernel
theorem dX5_digest_263 : decode cX5_digest 263 = .ok (.ladd, 1) := by decide +kernel
theorem dX5_digest_264 : decode cX5_digest 264 = .ok (.lstore_n 1, 1) := by decide +kernel
theorem dX5_digest_265 : decode cX5_digest 265 = .ok (.ldc2_w 203, 3) := by decide +kernel
theorem dX5_digest_268 : decode cX5_digest 268 = .ok (.lload_n 1, 1) := by decide +kernel
theorem dX5_digest_269 : decode cX5_digest 269 = .ok (.lmul, 1) := by decide +kernel
theorem dX5_digest_270 : decode cX5_digest 270 = .ok (.aload_n 0, 1) := by decide +kernel
theorem dX5_digest_271 : decode cX5_digest 271 = .ok (.invokevirtual 162, 3) := by decide +kernel
theorem dX5_digest_274 : decode cX5_digest 274 = .ok (.i2l, 1) := by decide +kernel
theorem dX5_digest_275 : decode cX5_digest 275 = .ok (.ladd, 1) := by decide +kernel
theorem dX5_digest_276 : decode cX5_digest 276 = .ok (.lstore_n 1, 1) := by decide +kernel
theorem dX5_digest_277 : decode cX5_digest 277 = .ok (.iconst 0, 1) := by decide +kernel
theorem dX5_digest_278 : decode cX5_digest 278 = .ok (.istore_n 3, 1) := by decide +kernel
theorem dX5_digest_279 : decode cX5_digest 279 = .ok (.iload_n 3, 1) := by decide +kernel
theorem dX5_digest_280 : decode cX5_digest 280 = .ok (.bipush 10, 2) := by decide +kernel
theorem dX5_digest_282 : decode cX5_digest 282 = .ok (.if_icmp .ge 22, 3) := by decide +kernel
theorem dX5_digest_285 : decode cX5_digest 285 = .ok (.ldc2_w 203, 3) := by decide +kernel
theorem dX5_digest_288 : decode cX5_digest 288 = .ok (.lload_n 1, 1) := by decide +kernel
theorem dX5_digest_289 : decode cX5_digest 289 = .ok (.lmul, 1) := by decide +kernel
theorem dX5_digest_290 : decode cX5_digest 290 = .ok (.aload_n 0, 1) := by decide +kernel
theorem dX5_digest_291 : decode cX5_digest 291 = .ok (.iload_n 3, 1) := by decide +kernel
theorem dX5_digest_292 : decode cX5_digest 292 = .ok (.invokevirtual 165, 3) := by decide +kernel
theorem dX5_digest_295 : decode cX5_digest 295 = .ok (.i2l, 1) := by decide +kernel
theorem dX5_digest_296 : decode cX5_digest 296 = .ok (.ladd, 1) := by decide +kernel
theorem dX5_digest_297 : decode cX5_digest 297 = .ok (.lstore_n 1, 1) := by decide +kernel
theorem dX5_digest_298 : decode cX5_digest 298 = .ok (.iinc 3 1, 3) := by decide +kernel
theorem dX5_digest_301 : decode cX5_digest 301 = .ok (.goto (-22), 3) := by decide +kernel
theorem dX5_digest_304 : decode cX5_digest 304 = .ok (.iconst 0, 1) := by decide +kernel
theorem dX5_digest_305 : decode cX5_digest 305 = .ok (.istore_n 3, 1) := by decide +kernel
theorem dX5_digest_306 : decode cX5_digest 306 = .ok (.iload_n 3, 1) := by decide +kernel
theorem dX5_digest_307 : decode cX5_digest 307 = .ok (.iconst 3, 1) := by decide +kernel
theorem dX5_digest_308 : decode cX5_digest 308 = .ok (.if_icmp .ge 23, 3) := by decide +kernel
theorem dX5_digest_311 : decode cX5_digest 311 = .ok (.ldc2_w 203, 3) := by decide +kernel
theorem dX5_digest_314 : decode cX5_digest 314 = .ok (.lload_n 1, 1) := by decide +kernel
theorem dX5_digest_315 : decode cX5_digest 315 = .ok (.lmul, 1) := by decide +kernel
theorem dX5_digest_316 : decode cX5_digest 316 = .ok (.aload_n 0, 1) := by decide +kernel
theorem dX5_digest_317 : decode cX5_digest 317 = .ok (.iconst 3, 1) := by decide +kernel
theorem dX5_digest_318 : decode cX5_digest 318 = .ok (.iload_n 3, 1) := by decide +kernel
theorem dX5_digest_319 : decode cX5_digest 319 = .ok (.invokevirtual 171, 3) := by decide +kernel
theorem dX5_digest_322 : decode cX5_digest 322 = .ok (.i2l, 1) := by decide +kernel
theorem dX5_digest_323 : decode cX5_digest 323 = .ok (.ladd, 1) := by decide +kernel
theorem dX5_digest_324 : decode cX5_digest 324 = .ok (.lstore_n 1, 1) := by decide +kernel
theorem dX5_digest_325 : decode cX5_digest 325 = .ok (.iinc 3 1, 3) := by decide +kernel
theorem dX5_digest_328 : decode cX5_digest 328 = .ok (.goto (-22), 3) := by decide +kernel
theorem dX5_digest_331 : decode cX5_digest 331 = .ok (.ldc2_w 203, 3) := by decide +kernel
theorem dX5_digest_334 : decode cX5_digest 334 = .ok (.lload_n 1, 1) := by decide +kernel
theorem dX5_digest_335 : decode cX5_digest 335 = .ok (.lmul, 1) := by decide +kernel
theorem dX5_digest_336 : decode cX5_digest 336 = .ok (.aload_n 0, 1) := by decide +kernel
theorem dX5_digest_337 : decode cX5_digest 337 = .ok (.invokevirtual 180, 3) := by decide +kernel
theorem dX5_digest_340 : decode cX5_digest 340 = .ok (.i2l, 1) := by decide +kernel
theorem dX5_digest_341 : decode cX5_digest 341 = .ok (.ladd, 1) := by decide +kernel
theorem dX5_digest_342 : decode cX5_digest 342 = .ok (.lstore_n 1, 1) := by decide +kernel
theorem dX5_digest_343 : decode cX5_digest 343 = .ok (.ldc2_w 203, 3) := by decide +kernel
theorem dX5_digest_346 : decode cX5_digest 346 = .ok (.lload_n 1, 1) := by decide +kernel
theorem dX5_digest_347 : decode cX5_digest 347 = .ok (.lmul, 1) := by decide +kernel
theorem dX5_digest_348 : decode cX5_digest 348 = .ok (.aload_n 0, 1) := by decide +kernel
theorem dX5_digest_349 : decode cX5_digest 349 = .ok (.bipush 20, 2) := by decide +kernel
theorem dX5_digest_351 : decode cX5_digest 351 = .ok (.iconst (-1), 1) := by decide +kernel
theorem dX5_digest_352 : decode cX5_digest 352 = .ok (.invokevirtual 183, 3) := by decide +kernel
theorem dX5_digest_355 : decode cX5_digest 355 = .ok (.i2l, 1) := by decide +kernel
theorem dX5_digest_356 : decode cX5_digest 356 = .ok (.ladd, 1) := by decide +kernel
theorem dX5_digest_357 : decode cX5_digest 357 = .ok (.lreturn, 1) := by decide +kernel
