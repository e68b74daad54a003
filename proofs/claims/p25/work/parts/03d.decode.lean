theorem dL_isTurn_369 : decode cL_isTurn 369 = .ok (.iload 7, 2) := by decide +kernel
theorem dL_isTurn_371 : decode cL_isTurn 371 = .ok (.iload_n 3, 1) := by decide +kernel
theorem dL_isTurn_372 : decode cL_isTurn 372 = .ok (.ifCond .le 12, 3) := by decide +kernel
theorem dL_isTurn_375 : decode cL_isTurn 375 = .ok (.iload 11, 2) := by decide +kernel
theorem dL_isTurn_377 : decode cL_isTurn 377 = .ok (.ifCond .le 7, 3) := by decide +kernel
theorem dL_isTurn_380 : decode cL_isTurn 380 = .ok (.iconst 1, 1) := by decide +kernel
theorem dL_isTurn_381 : decode cL_isTurn 381 = .ok (.goto 4, 3) := by decide +kernel
theorem dL_isTurn_384 : decode cL_isTurn 384 = .ok (.iconst 0, 1) := by decide +kernel
theorem dL_isTurn_385 : decode cL_isTurn 385 = .ok (.iadd, 1) := by decide +kernel
theorem dL_isTurn_386 : decode cL_isTurn 386 = .ok (.if_icmp .lt 41, 3) := by decide +kernel
theorem dL_isTurn_389 : decode cL_isTurn 389 = .ok (.iload_n 3, 1) := by decide +kernel
theorem dL_isTurn_390 : decode cL_isTurn 390 = .ok (.ifCond .eq 16, 3) := by decide +kernel
theorem dL_isTurn_393 : decode cL_isTurn 393 = .ok (.aload_n 0, 1) := by decide +kernel
theorem dL_isTurn_394 : decode cL_isTurn 394 = .ok (.iload_n 1, 1) := by decide +kernel
theorem dL_isTurn_395 : decode cL_isTurn 395 = .ok (.iconst 5, 1) := by decide +kernel
theorem dL_isTurn_396 : decode cL_isTurn 396 = .ok (.invokevirtual 14, 3) := by decide +kernel
theorem dL_isTurn_399 : decode cL_isTurn 399 = .ok (.iload 9, 2) := by decide +kernel
theorem dL_isTurn_401 : decode cL_isTurn 401 = .ok (.iload_n 3, 1) := by decide +kernel
theorem dL_isTurn_402 : decode cL_isTurn 402 = .ok (.iadd, 1) := by decide +kernel
theorem dL_isTurn_403 : decode cL_isTurn 403 = .ok (.if_icmp .ne 24, 3) := by decide +kernel
theorem dL_isTurn_406 : decode cL_isTurn 406 = .ok (.iload_n 3, 1) := by decide +kernel
theorem dL_isTurn_407 : decode cL_isTurn 407 = .ok (.ifCond .gt 16, 3) := by decide +kernel
theorem dL_isTurn_410 : decode cL_isTurn 410 = .ok (.iload 12, 2) := by decide +kernel
theorem dL_isTurn_412 : decode cL_isTurn 412 = .ok (.iload 7, 2) := by decide +kernel
theorem dL_isTurn_414 : decode cL_isTurn 414 = .ok (.iload 6, 2) := by decide +kernel
theorem dL_isTurn_416 : decode cL_isTurn 416 = .ok (.invokestatic 48, 3) := by decide +kernel
theorem dL_isTurn_419 : decode cL_isTurn 419 = .ok (.iadd, 1) := by decide +kernel
theorem dL_isTurn_420 : decode cL_isTurn 420 = .ok (.if_icmp .ne 7, 3) := by decide +kernel
theorem dL_isTurn_423 : decode cL_isTurn 423 = .ok (.iconst 1, 1) := by decide +kernel
theorem dL_isTurn_424 : decode cL_isTurn 424 = .ok (.goto 4, 3) := by decide +kernel
theorem dL_isTurn_427 : decode cL_isTurn 427 = .ok (.iconst 0, 1) := by decide +kernel
theorem dL_isTurn_428 : decode cL_isTurn 428 = .ok (.ireturn, 1) := by decide +kernel
theorem dL_ones_0 : decode cL_ones 0 = .ok (.iconst 0, 1) := by decide +kernel
theorem dL_ones_1 : decode cL_ones 1 = .ok (.istore_n 1, 1) := by decide +kernel
theorem dL_ones_2 : decode cL_ones 2 = .ok (.iconst 0, 1) := by decide +kernel
theorem dL_ones_3 : decode cL_ones 3 = .ok (.istore_n 2, 1) := by decide +kernel
theorem dL_ones_4 : decode cL_ones 4 = .ok (.iload_n 2, 1) := by decide +kernel
theorem dL_ones_5 : decode cL_ones 5 = .ok (.bipush 10, 2) := by decide +kernel
theorem dL_ones_7 : decode cL_ones 7 = .ok (.if_icmp .ge 17, 3) := by decide +kernel
theorem dL_ones_10 : decode cL_ones 10 = .ok (.iload_n 1, 1) := by decide +kernel
theorem dL_ones_11 : decode cL_ones 11 = .ok (.iload_n 0, 1) := by decide +kernel
theorem dL_ones_12 : decode cL_ones 12 = .ok (.iload_n 2, 1) := by decide +kernel
theorem dL_ones_13 : decode cL_ones 13 = .ok (.ishr, 1) := by decide +kernel
theorem dL_ones_14 : decode cL_ones 14 = .ok (.iconst 1, 1) := by decide +kernel
theorem dL_ones_15 : decode cL_ones 15 = .ok (.iand, 1) := by decide +kernel
theorem dL_ones_16 : decode cL_ones 16 = .ok (.iadd, 1) := by decide +kernel
theorem dL_ones_17 : decode cL_ones 17 = .ok (.istore_n 1, 1) := by decide +kernel
theorem dL_ones_18 : decode cL_ones 18 = .ok (.iinc 2 1, 3) := by decide +kernel
theorem dL_ones_21 : decode cL_ones 21 = .ok (.goto (-17), 3) := by decide +kernel
theorem dL_ones_24 : decode cL_ones 24 = .ok (.iload_n 1, 1) := by decide +kernel
theorem dL_ones_25 : decode cL_ones 25 = .ok (.ireturn, 1) := by decide +kernel
theorem dL_isBest_0 : decode cL_isBest 0 = .ok (.aload_n 0, 1) := by decide +kernel
theorem dL_isBest_1 : decode cL_isBest 1 = .ok (.invokevirtual 53, 3) := by decide +kernel
theorem dL_isBest_4 : decode cL_isBest 4 = .ok (.istore_n 1, 1) := by decide +kernel
theorem dL_isBest_5 : decode cL_isBest 5 = .ok (.aload_n 0, 1) := by decide +kernel
theorem dL_isBest_6 : decode cL_isBest 6 = .ok (.bipush 11, 2) := by decide +kernel
theorem dL_isBest_8 : decode cL_isBest 8 = .ok (.invokevirtual 8, 3) := by decide +kernel
theorem dL_isBest_11 : decode cL_isBest 11 = .ok (.iconst 1, 1) := by decide +kernel
theorem dL_isBest_12 : decode cL_isBest 12 = .ok (.if_icmp .ne 15, 3) := by decide +kernel
theorem dL_isBest_15 : decode cL_isBest 15 = .ok (.iload_n 1, 1) := by decide +kernel
theorem dL_isBest_16 : decode cL_isBest 16 = .ok (.bipush (-4), 2) := by decide +kernel
theorem dL_isBest_18 : decode cL_isBest 18 = .ok (.if_icmp .ne 7, 3) := by decide +kernel
theorem dL_isBest_21 : decode cL_isBest 21 = .ok (.iconst 1, 1) := by decide +kernel
theorem dL_isBest_22 : decode cL_isBest 22 = .ok (.goto 4, 3) := by decide +kernel
theorem dL_isBest_25 : decode cL_isBest 25 = .ok (.iconst 0, 1) := by decide +kernel
theorem dL_isBest_26 : decode cL_isBest 26 = .ok (.ireturn, 1) := by decide +kernel
theorem dL_isBest_27 : decode cL_isBest 27 = .ok (.bipush (-5), 2) := by decide +kernel
theorem dL_isBest_29 : decode cL_isBest 29 = .ok (.istore_n 2, 1) := by decide +kernel
theorem dL_isBest_30 : decode cL_isBest 30 = .ok (.iconst 0, 1) := by decide +kernel
theorem dL_isBest_31 : decode cL_isBest 31 = .ok (.istore_n 3, 1) := by decide +kernel
theorem dL_isBest_32 : decode cL_isBest 32 = .ok (.iconst 0, 1) := by decide +kernel
theorem dL_isBest_33 : decode cL_isBest 33 = .ok (.istore 4, 2) := by decide +kernel
theorem dL_isBest_35 : decode cL_isBest 35 = .ok (.iload 4, 2) := by decide +kernel
theorem dL_isBest_37 : decode cL_isBest 37 = .ok (.bipush 12, 2) := by decide +kernel
theorem dL_isBest_39 : decode cL_isBest 39 = .ok (.aload_n 0, 1) := by decide +kernel
theorem dL_isBest_40 : decode cL_isBest 40 = .ok (.iconst 5, 1) := by decide +kernel
theorem dL_isBest_41 : decode cL_isBest 41 = .ok (.invokevirtual 8, 3) := by decide +kernel
theorem dL_isBest_44 : decode cL_isBest 44 = .ok (.imul, 1) := by decide +kernel
theorem dL_isBest_45 : decode cL_isBest 45 = .ok (.if_icmp .ge 195, 3) := by decide +kernel
theorem dL_isBest_48 : decode cL_isBest 48 = .ok (.iload 4, 2) := by decide +kernel
theorem dL_isBest_50 : decode cL_isBest 50 = .ok (.bipush 120, 2) := by decide +kernel
theorem dL_isBest_52 : decode cL_isBest 52 = .ok (.if_icmp .ge 188, 3) := by decide +kernel
theorem dL_isBest_55 : decode cL_isBest 55 = .ok (.iload 4, 2) := by decide +kernel
theorem dL_isBest_57 : decode cL_isBest 57 = .ok (.bipush 12, 2) := by decide +kernel
theorem dL_isBest_59 : decode cL_isBest 59 = .ok (.idiv, 1) := by decide +kernel
theorem dL_isBest_60 : decode cL_isBest 60 = .ok (.istore 5, 2) := by decide +kernel
theorem dL_isBest_62 : decode cL_isBest 62 = .ok (.iload 4, 2) := by decide +kernel
theorem dL_isBest_64 : decode cL_isBest 64 = .ok (.iconst 3, 1) := by decide +kernel
theorem dL_isBest_65 : decode cL_isBest 65 = .ok (.idiv, 1) := by decide +kernel
theorem dL_isBest_66 : decode cL_isBest 66 = .ok (.iconst 4, 1) := by decide +kernel
theorem dL_isBest_67 : decode cL_isBest 67 = .ok (.irem, 1) := by decide +kernel
theorem dL_isBest_68 : decode cL_isBest 68 = .ok (.istore 6, 2) := by decide +kernel
theorem dL_isBest_70 : decode cL_isBest 70 = .ok (.iload 4, 2) := by decide +kernel
theorem dL_isBest_72 : decode cL_isBest 72 = .ok (.iconst 3, 1) := by decide +kernel
theorem dL_isBest_73 : decode cL_isBest 73 = .ok (.irem, 1) := by decide +kernel
theorem dL_isBest_74 : decode cL_isBest 74 = .ok (.iconst 1, 1) := by decide +kernel
theorem dL_isBest_75 : decode cL_isBest 75 = .ok (.iadd, 1) := by decide +kernel
theorem dL_isBest_76 : decode cL_isBest 76 = .ok (.istore 7, 2) := by decide +kernel
theorem dL_isBest_78 : decode cL_isBest 78 = .ok (.aload_n 0, 1) := by decide +kernel
theorem dL_isBest_79 : decode cL_isBest 79 = .ok (.iload 5, 2) := by decide +kernel
theorem dL_isBest_81 : decode cL_isBest 81 = .ok (.iload 6, 2) := by decide +kernel
theorem dL_isBest_83 : decode cL_isBest 83 = .ok (.iload 7, 2) := by decide +kernel
theorem dL_isBest_85 : decode cL_isBest 85 = .ok (.invokevirtual 45, 3) := by decide +kernel
theorem dL_isBest_88 : decode cL_isBest 88 = .ok (.istore 8, 2) := by decide +kernel
theorem dL_isBest_90 : decode cL_isBest 90 = .ok (.iload 8, 2) := by decide +kernel
theorem dL_isBest_92 : decode cL_isBest 92 = .ok (.ifCond .lt 142, 3) := by decide +kernel
theorem dL_isBest_95 : decode cL_isBest 95 = .ok (.aload_n 0, 1) := by decide +kernel
theorem dL_isBest_96 : decode cL_isBest 96 = .ok (.iload 5, 2) := by decide +kernel
theorem dL_isBest_98 : decode cL_isBest 98 = .ok (.iconst 2, 1) := by decide +kernel
theorem dL_isBest_99 : decode cL_isBest 99 = .ok (.invokevirtual 14, 3) := by decide +kernel
theorem dL_isBest_102 : decode cL_isBest 102 = .ok (.iconst 1, 1) := by decide +kernel
theorem dL_isBest_103 : decode cL_isBest 103 = .ok (.if_icmp .ne 7, 3) := by decide +kernel
theorem dL_isBest_106 : decode cL_isBest 106 = .ok (.iconst 1, 1) := by decide +kernel
theorem dL_isBest_107 : decode cL_isBest 107 = .ok (.goto 4, 3) := by decide +kernel
theorem dL_isBest_110 : decode cL_isBest 110 = .ok (.iconst 0, 1) := by decide +kernel
theorem dL_isBest_111 : decode cL_isBest 111 = .ok (.istore 9, 2) := by decide +kernel
theorem dL_isBest_113 : decode cL_isBest 113 = .ok (.aload_n 0, 1) := by decide +kernel
theorem dL_isBest_114 : decode cL_isBest 114 = .ok (.iload 5, 2) := by decide +kernel
theorem dL_isBest_116 : decode cL_isBest 116 = .ok (.iconst 2, 1) := by decide +kernel
theorem dL_isBest_117 : decode cL_isBest 117 = .ok (.invokevirtual 14, 3) := by decide +kernel
theorem dL_isBest_120 : decode cL_isBest 120 = .ok (.ifCond .ne 13, 3) := by decide +kernel
theorem dL_isBest_123 : decode cL_isBest 123 = .ok (.aload_n 0, 1) := by decide +kernel
theorem dL_isBest_124 : decode cL_isBest 124 = .ok (.iload 5, 2) := by decide +kernel
theorem dL_isBest_126 : decode cL_isBest 126 = .ok (.iconst 0, 1) := by decide +kernel
theorem dL_isBest_127 : decode cL_isBest 127 = .ok (.invokevirtual 32, 3) := by decide +kernel
theorem dL_isBest_130 : decode cL_isBest 130 = .ok (.goto 5, 3) := by decide +kernel
theorem dL_isBest_133 : decode cL_isBest 133 = .ok (.bipush (-5), 2) := by decide +kernel
theorem dL_isBest_135 : decode cL_isBest 135 = .ok (.istore 10, 2) := by decide +kernel
theorem dL_isBest_137 : decode cL_isBest 137 = .ok (.iload 9, 2) := by decide +kernel
theorem dL_isBest_139 : decode cL_isBest 139 = .ok (.ifCond .eq 17, 3) := by decide +kernel
theorem dL_isBest_142 : decode cL_isBest 142 = .ok (.sipush 3000, 3) := by decide +kernel
theorem dL_isBest_145 : decode cL_isBest 145 = .ok (.aload_n 0, 1) := by decide +kernel
theorem dL_isBest_146 : decode cL_isBest 146 = .ok (.iload 5, 2) := by decide +kernel
theorem dL_isBest_148 : decode cL_isBest 148 = .ok (.iconst 1, 1) := by decide +kernel
theorem dL_isBest_149 : decode cL_isBest 149 = .ok (.invokevirtual 14, 3) := by decide +kernel
theorem dL_isBest_152 : decode cL_isBest 152 = .ok (.iadd, 1) := by decide +kernel
theorem dL_isBest_153 : decode cL_isBest 153 = .ok (.goto 32, 3) := by decide +kernel
theorem dL_isBest_156 : decode cL_isBest 156 = .ok (.iload 8, 2) := by decide +kernel
theorem dL_isBest_158 : decode cL_isBest 158 = .ok (.ifCond .le 12, 3) := by decide +kernel
theorem dL_isBest_161 : decode cL_isBest 161 = .ok (.sipush 2000, 3) := by decide +kernel
theorem dL_isBest_164 : decode cL_isBest 164 = .ok (.iload 8, 2) := by decide +kernel
theorem dL_isBest_166 : decode cL_isBest 166 = .ok (.iadd, 1) := by decide +kernel
theorem dL_isBest_167 : decode cL_isBest 167 = .ok (.goto 18, 3) := by decide +kernel
theorem dL_isBest_170 : decode cL_isBest 170 = .ok (.iload 10, 2) := by decide +kernel
theorem dL_isBest_172 : decode cL_isBest 172 = .ok (.ifCond .le 12, 3) := by decide +kernel
theorem dL_isBest_175 : decode cL_isBest 175 = .ok (.sipush 1000, 3) := by decide +kernel
theorem dL_isBest_178 : decode cL_isBest 178 = .ok (.iload 10, 2) := by decide +kernel
theorem dL_isBest_180 : decode cL_isBest 180 = .ok (.isub, 1) := by decide +kernel
theorem dL_isBest_181 : decode cL_isBest 181 = .ok (.goto 4, 3) := by decide +kernel
theorem dL_isBest_184 : decode cL_isBest 184 = .ok (.iconst 0, 1) := by decide +kernel
theorem dL_isBest_185 : decode cL_isBest 185 = .ok (.istore 11, 2) := by decide +kernel
theorem dL_isBest_187 : decode cL_isBest 187 = .ok (.iload 11, 2) := by decide +kernel
theorem dL_isBest_189 : decode cL_isBest 189 = .ok (.iload_n 3, 1) := by decide +kernel
theorem dL_isBest_190 : decode cL_isBest 190 = .ok (.if_icmp .le 20, 3) := by decide +kernel
theorem dL_isBest_193 : decode cL_isBest 193 = .ok (.bipush 100, 2) := by decide +kernel
theorem dL_isBest_195 : decode cL_isBest 195 = .ok (.iload 5, 2) := by decide +kernel
theorem dL_isBest_197 : decode cL_isBest 197 = .ok (.imul, 1) := by decide +kernel
theorem dL_isBest_198 : decode cL_isBest 198 = .ok (.bipush 10, 2) := by decide +kernel
theorem dL_isBest_200 : decode cL_isBest 200 = .ok (.iload 6, 2) := by decide +kernel
theorem dL_isBest_202 : decode cL_isBest 202 = .ok (.imul, 1) := by decide +kernel
theorem dL_isBest_203 : decode cL_isBest 203 = .ok (.iadd, 1) := by decide +kernel
theorem dL_isBest_204 : decode cL_isBest 204 = .ok (.iload 7, 2) := by decide +kernel
theorem dL_isBest_206 : decode cL_isBest 206 = .ok (.iadd, 1) := by decide +kernel
theorem dL_isBest_207 : decode cL_isBest 207 = .ok (.goto 4, 3) := by decide +kernel
theorem dL_isBest_210 : decode cL_isBest 210 = .ok (.iload_n 2, 1) := by decide +kernel
theorem dL_isBest_211 : decode cL_isBest 211 = .ok (.istore_n 2, 1) := by decide +kernel
theorem dL_isBest_212 : decode cL_isBest 212 = .ok (.iload 11, 2) := by decide +kernel
theorem dL_isBest_214 : decode cL_isBest 214 = .ok (.iload_n 3, 1) := by decide +kernel
theorem dL_isBest_215 : decode cL_isBest 215 = .ok (.if_icmp .le 8, 3) := by decide +kernel
theorem dL_isBest_218 : decode cL_isBest 218 = .ok (.iload 11, 2) := by decide +kernel
theorem dL_isBest_220 : decode cL_isBest 220 = .ok (.goto 4, 3) := by decide +kernel
theorem dL_isBest_223 : decode cL_isBest 223 = .ok (.iload_n 3, 1) := by decide +kernel
theorem dL_isBest_224 : decode cL_isBest 224 = .ok (.istore_n 3, 1) := by decide +kernel
theorem dL_isBest_225 : decode cL_isBest 225 = .ok (.aload_n 0, 1) := by decide +kernel
theorem dL_isBest_226 : decode cL_isBest 226 = .ok (.invokevirtual 56, 3) := by decide +kernel
theorem dL_isBest_229 : decode cL_isBest 229 = .ok (.ifCond .ge 5, 3) := by decide +kernel
theorem dL_isBest_232 : decode cL_isBest 232 = .ok (.iconst 0, 1) := by decide +kernel
theorem dL_isBest_233 : decode cL_isBest 233 = .ok (.ireturn, 1) := by decide +kernel
theorem dL_isBest_234 : decode cL_isBest 234 = .ok (.iinc 4 1, 3) := by decide +kernel
theorem dL_isBest_237 : decode cL_isBest 237 = .ok (.goto (-202), 3) := by decide +kernel
theorem dL_isBest_240 : decode cL_isBest 240 = .ok (.iload_n 1, 1) := by decide +kernel
theorem dL_isBest_241 : decode cL_isBest 241 = .ok (.iload_n 2, 1) := by decide +kernel
theorem dL_isBest_242 : decode cL_isBest 242 = .ok (.if_icmp .ne 7, 3) := by decide +kernel
theorem dL_isBest_245 : decode cL_isBest 245 = .ok (.iconst 1, 1) := by decide +kernel
theorem dL_isBest_246 : decode cL_isBest 246 = .ok (.goto 4, 3) := by decide +kernel
theorem dL_isBest_249 : decode cL_isBest 249 = .ok (.iconst 0, 1) := by decide +kernel
theorem dL_isBest_250 : decode cL_isBest 250 = .ok (.ireturn, 1) := by decide +kernel
theorem dL_lays_0 : decode cL_lays 0 = .ok (.iload_n 2, 1) := by decide +kernel
theorem dL_lays_1 : decode cL_lays 1 = .ok (.bipush 36, 2) := by decide +kernel
theorem dL_lays_3 : decode cL_lays 3 = .ok (.invokestatic 59, 3) := by decide +kernel
theorem dL_lays_6 : decode cL_lays 6 = .ok (.istore_n 3, 1) := by decide +kernel
theorem dL_lays_7 : decode cL_lays 7 = .ok (.iload_n 2, 1) := by decide +kernel
theorem dL_lays_8 : decode cL_lays 8 = .ok (.bipush 6, 2) := by decide +kernel
theorem dL_lays_10 : decode cL_lays 10 = .ok (.ishr, 1) := by decide +kernel
theorem dL_lays_11 : decode cL_lays 11 = .ok (.iconst 4, 1) := by decide +kernel
theorem dL_lays_12 : decode cL_lays 12 = .ok (.invokestatic 59, 3) := by decide +kernel
theorem dL_lays_15 : decode cL_lays 15 = .ok (.istore 4, 2) := by decide +kernel
theorem dL_lays_17 : decode cL_lays 17 = .ok (.iload_n 2, 1) := by decide +kernel
theorem dL_lays_18 : decode cL_lays 18 = .ok (.bipush 9, 2) := by decide +kernel
theorem dL_lays_20 : decode cL_lays 20 = .ok (.ishr, 1) := by decide +kernel
theorem dL_lays_21 : decode cL_lays 21 = .ok (.iconst 3, 1) := by decide +kernel
theorem dL_lays_22 : decode cL_lays 22 = .ok (.iand, 1) := by decide +kernel
theorem dL_lays_23 : decode cL_lays 23 = .ok (.ifCond .ne 7, 3) := by decide +kernel
theorem dL_lays_26 : decode cL_lays 26 = .ok (.iconst 1, 1) := by decide +kernel
theorem dL_lays_27 : decode cL_lays 27 = .ok (.goto 4, 3) := by decide +kernel
theorem dL_lays_30 : decode cL_lays 30 = .ok (.iconst 0, 1) := by decide +kernel
theorem dL_lays_31 : decode cL_lays 31 = .ok (.istore 5, 2) := by decide +kernel
theorem dL_lays_33 : decode cL_lays 33 = .ok (.iload_n 3, 1) := by decide +kernel
theorem dL_lays_34 : decode cL_lays 34 = .ok (.ifCond .eq 9, 3) := by decide +kernel
theorem dL_lays_37 : decode cL_lays 37 = .ok (.iload_n 3, 1) := by decide +kernel
theorem dL_lays_38 : decode cL_lays 38 = .ok (.bipush 35, 2) := by decide +kernel
theorem dL_lays_40 : decode cL_lays 40 = .ok (.if_icmp .ne 7, 3) := by decide +kernel
theorem dL_lays_43 : decode cL_lays 43 = .ok (.iconst 1, 1) := by decide +kernel
theorem dL_lays_44 : decode cL_lays 44 = .ok (.goto 4, 3) := by decide +kernel
theorem dL_lays_47 : decode cL_lays 47 = .ok (.iconst 0, 1) := by decide +kernel
theorem dL_lays_48 : decode cL_lays 48 = .ok (.istore 6, 2) := by decide +kernel
theorem dL_lays_50 : decode cL_lays 50 = .ok (.iload_n 1, 1) := by decide +kernel
theorem dL_lays_51 : decode cL_lays 51 = .ok (.iconst 3, 1) := by decide +kernel
theorem dL_lays_52 : decode cL_lays 52 = .ok (.iand, 1) := by decide +kernel
theorem dL_lays_53 : decode cL_lays 53 = .ok (.tableswitch 206 0 2 #[27, 27, 124], 27) := by decide +kernel
theorem dL_lays_80 : decode cL_lays 80 = .ok (.aload_n 0, 1) := by decide +kernel
theorem dL_lays_81 : decode cL_lays 81 = .ok (.iload_n 3, 1) := by decide +kernel
theorem dL_lays_82 : decode cL_lays 82 = .ok (.iconst 0, 1) := by decide +kernel
theorem dL_lays_83 : decode cL_lays 83 = .ok (.invokevirtual 18, 3) := by decide +kernel
theorem dL_lays_86 : decode cL_lays 86 = .ok (.istore 7, 2) := by decide +kernel
theorem dL_lays_88 : decode cL_lays 88 = .ok (.iload 7, 2) := by decide +kernel
theorem dL_lays_90 : decode cL_lays 90 = .ok (.iload 4, 2) := by decide +kernel
theorem dL_lays_92 : decode cL_lays 92 = .ok (.if_icmp .ne 26, 3) := by decide +kernel
theorem dL_lays_95 : decode cL_lays 95 = .ok (.aload_n 0, 1) := by decide +kernel
theorem dL_lays_96 : decode cL_lays 96 = .ok (.iload_n 3, 1) := by decide +kernel
theorem dL_lays_97 : decode cL_lays 97 = .ok (.iconst 1, 1) := by decide +kernel
theorem dL_lays_98 : decode cL_lays 98 = .ok (.invokevirtual 18, 3) := by decide +kernel
theorem dL_lays_101 : decode cL_lays 101 = .ok (.iload 5, 2) := by decide +kernel
theorem dL_lays_103 : decode cL_lays 103 = .ok (.ifCond .eq 7, 3) := by decide +kernel
theorem dL_lays_106 : decode cL_lays 106 = .ok (.iconst 1, 1) := by decide +kernel
theorem dL_lays_107 : decode cL_lays 107 = .ok (.goto 4, 3) := by decide +kernel
theorem dL_lays_110 : decode cL_lays 110 = .ok (.iconst 0, 1) := by decide +kernel
theorem dL_lays_111 : decode cL_lays 111 = .ok (.if_icmp .ne 7, 3) := by decide +kernel
theorem dL_lays_114 : decode cL_lays 114 = .ok (.iconst 1, 1) := by decide +kernel
theorem dL_lays_115 : decode cL_lays 115 = .ok (.goto 4, 3) := by decide +kernel
theorem dL_lays_118 : decode cL_lays 118 = .ok (.iconst 0, 1) := by decide +kernel
theorem dL_lays_119 : decode cL_lays 119 = .ok (.istore 8, 2) := by decide +kernel
theorem dL_lays_121 : decode cL_lays 121 = .ok (.aload_n 0, 1) := by decide +kernel
theorem dL_lays_122 : decode cL_lays 122 = .ok (.iload_n 3, 1) := by decide +kernel
theorem dL_lays_123 : decode cL_lays 123 = .ok (.iload 4, 2) := by decide +kernel
theorem dL_lays_125 : decode cL_lays 125 = .ok (.iload 5, 2) := by decide +kernel
theorem dL_lays_127 : decode cL_lays 127 = .ok (.invokevirtual 62, 3) := by decide +kernel
theorem dL_lays_130 : decode cL_lays 130 = .ok (.iload 6, 2) := by decide +kernel
theorem dL_lays_132 : decode cL_lays 132 = .ok (.ifCond .eq 8, 3) := by decide +kernel
theorem dL_lays_135 : decode cL_lays 135 = .ok (.bipush (-4), 2) := by decide +kernel
theorem dL_lays_137 : decode cL_lays 137 = .ok (.goto 15, 3) := by decide +kernel
theorem dL_lays_140 : decode cL_lays 140 = .ok (.iload 8, 2) := by decide +kernel
theorem dL_lays_142 : decode cL_lays 142 = .ok (.ifCond .eq 8, 3) := by decide +kernel
theorem dL_lays_145 : decode cL_lays 145 = .ok (.bipush (-5), 2) := by decide +kernel
theorem dL_lays_147 : decode cL_lays 147 = .ok (.goto 5, 3) := by decide +kernel
theorem dL_lays_150 : decode cL_lays 150 = .ok (.iload 7, 2) := by decide +kernel
theorem dL_lays_152 : decode cL_lays 152 = .ok (.if_icmp .ne 23, 3) := by decide +kernel
theorem dL_lays_155 : decode cL_lays 155 = .ok (.iload 6, 2) := by decide +kernel
theorem dL_lays_157 : decode cL_lays 157 = .ok (.ifCond .ne 14, 3) := by decide +kernel
theorem dL_lays_160 : decode cL_lays 160 = .ok (.aload_n 0, 1) := by decide +kernel
theorem dL_lays_161 : decode cL_lays 161 = .ok (.iload_n 3, 1) := by decide +kernel
theorem dL_lays_162 : decode cL_lays 162 = .ok (.iconst 0, 1) := by decide +kernel
theorem dL_lays_163 : decode cL_lays 163 = .ok (.invokevirtual 18, 3) := by decide +kernel
theorem dL_lays_166 : decode cL_lays 166 = .ok (.iload 4, 2) := by decide +kernel
theorem dL_lays_168 : decode cL_lays 168 = .ok (.if_icmp .ne 7, 3) := by decide +kernel
theorem dL_lays_171 : decode cL_lays 171 = .ok (.iconst 1, 1) := by decide +kernel
theorem dL_lays_172 : decode cL_lays 172 = .ok (.goto 4, 3) := by decide +kernel
theorem dL_lays_175 : decode cL_lays 175 = .ok (.iconst 0, 1) := by decide +kernel
theorem dL_lays_176 : decode cL_lays 176 = .ok (.ireturn, 1) := by decide +kernel
theorem dL_lays_177 : decode cL_lays 177 = .ok (.aload_n 0, 1) := by decide +kernel
theorem dL_lays_178 : decode cL_lays 178 = .ok (.iconst 5, 1) := by decide +kernel
theorem dL_lays_179 : decode cL_lays 179 = .ok (.invokevirtual 8, 3) := by decide +kernel
theorem dL_lays_182 : decode cL_lays 182 = .ok (.istore 9, 2) := by decide +kernel
theorem dL_lays_184 : decode cL_lays 184 = .ok (.aload_n 0, 1) := by decide +kernel
theorem dL_lays_185 : decode cL_lays 185 = .ok (.iload_n 3, 1) := by decide +kernel
theorem dL_lays_186 : decode cL_lays 186 = .ok (.iconst 3, 1) := by decide +kernel
theorem dL_lays_187 : decode cL_lays 187 = .ok (.invokevirtual 18, 3) := by decide +kernel
theorem dL_lays_190 : decode cL_lays 190 = .ok (.ifCond .lt 7, 3) := by decide +kernel
theorem dL_lays_193 : decode cL_lays 193 = .ok (.iconst 1, 1) := by decide +kernel
theorem dL_lays_194 : decode cL_lays 194 = .ok (.goto 4, 3) := by decide +kernel
theorem dL_lays_197 : decode cL_lays 197 = .ok (.iconst 0, 1) := by decide +kernel
theorem dL_lays_198 : decode cL_lays 198 = .ok (.istore 10, 2) := by decide +kernel
theorem dL_lays_200 : decode cL_lays 200 = .ok (.aload_n 0, 1) := by decide +kernel
theorem dL_lays_201 : decode cL_lays 201 = .ok (.iload_n 2, 1) := by decide +kernel
theorem dL_lays_202 : decode cL_lays 202 = .ok (.bipush 12, 2) := by decide +kernel
theorem dL_lays_204 : decode cL_lays 204 = .ok (.ishr, 1) := by decide +kernel
theorem dL_lays_205 : decode cL_lays 205 = .ok (.iconst 1, 1) := by decide +kernel
theorem dL_lays_206 : decode cL_lays 206 = .ok (.iand, 1) := by decide +kernel
theorem dL_lays_207 : decode cL_lays 207 = .ok (.iconst 1, 1) := by decide +kernel
theorem dL_lays_208 : decode cL_lays 208 = .ok (.iload_n 2, 1) := by decide +kernel
theorem dL_lays_209 : decode cL_lays 209 = .ok (.bipush 13, 2) := by decide +kernel
theorem dL_lays_211 : decode cL_lays 211 = .ok (.ishr, 1) := by decide +kernel
theorem dL_lays_212 : decode cL_lays 212 = .ok (.iconst 2, 1) := by decide +kernel
theorem dL_lays_213 : decode cL_lays 213 = .ok (.invokestatic 59, 3) := by decide +kernel
theorem dL_lays_216 : decode cL_lays 216 = .ok (.iadd, 1) := by decide +kernel
theorem dL_lays_217 : decode cL_lays 217 = .ok (.iload_n 3, 1) := by decide +kernel
theorem dL_lays_218 : decode cL_lays 218 = .ok (.invokevirtual 66, 3) := by decide +kernel
theorem dL_lays_221 : decode cL_lays 221 = .ok (.iload 6, 2) := by decide +kernel
theorem dL_lays_223 : decode cL_lays 223 = .ok (.ifCond .ne 8, 3) := by decide +kernel
theorem dL_lays_226 : decode cL_lays 226 = .ok (.iload 10, 2) := by decide +kernel
theorem dL_lays_228 : decode cL_lays 228 = .ok (.ifCond .eq 8, 3) := by decide +kernel
theorem dL_lays_231 : decode cL_lays 231 = .ok (.bipush (-4), 2) := by decide +kernel
theorem dL_lays_233 : decode cL_lays 233 = .ok (.goto 17, 3) := by decide +kernel
theorem dL_lays_236 : decode cL_lays 236 = .ok (.iload 9, 2) := by decide +kernel
theorem dL_lays_238 : decode cL_lays 238 = .ok (.bipush 10, 2) := by decide +kernel
theorem dL_lays_240 : decode cL_lays 240 = .ok (.if_icmp .ne 8, 3) := by decide +kernel
theorem dL_lays_243 : decode cL_lays 243 = .ok (.bipush (-3), 2) := by decide +kernel
theorem dL_lays_245 : decode cL_lays 245 = .ok (.goto 5, 3) := by decide +kernel
theorem dL_lays_248 : decode cL_lays 248 = .ok (.iload 9, 2) := by decide +kernel
theorem dL_lays_250 : decode cL_lays 250 = .ok (.if_icmp .ne 7, 3) := by decide +kernel
theorem dL_lays_253 : decode cL_lays 253 = .ok (.iconst 1, 1) := by decide +kernel
theorem dL_lays_254 : decode cL_lays 254 = .ok (.goto 4, 3) := by decide +kernel
theorem dL_lays_257 : decode cL_lays 257 = .ok (.iconst 0, 1) := by decide +kernel
theorem dL_lays_258 : decode cL_lays 258 = .ok (.ireturn, 1) := by decide +kernel
theorem dL_lays_259 : decode cL_lays 259 = .ok (.iload_n 2, 1) := by decide +kernel
theorem dL_lays_260 : decode cL_lays 260 = .ok (.iconst 4, 1) := by decide +kernel
theorem dL_lays_261 : decode cL_lays 261 = .ok (.invokestatic 59, 3) := by decide +kernel
theorem dL_lays_264 : decode cL_lays 264 = .ok (.istore 11, 2) := by decide +kernel
theorem dL_lays_266 : decode cL_lays 266 = .ok (.iload 11, 2) := by decide +kernel
theorem dL_lays_268 : decode cL_lays 268 = .ok (.ifCond .ne 15, 3) := by decide +kernel
theorem dL_lays_271 : decode cL_lays 271 = .ok (.iconst 1, 1) := by decide +kernel
theorem dL_lays_272 : decode cL_lays 272 = .ok (.iload_n 2, 1) := by decide +kernel
theorem dL_lays_273 : decode cL_lays 273 = .ok (.iconst 2, 1) := by decide +kernel
theorem dL_lays_274 : decode cL_lays 274 = .ok (.ishr, 1) := by decide +kernel
theorem dL_lays_275 : decode cL_lays 275 = .ok (.iconst 3, 1) := by decide +kernel
theorem dL_lays_276 : decode cL_lays 276 = .ok (.invokestatic 59, 3) := by decide +kernel
theorem dL_lays_279 : decode cL_lays 279 = .ok (.iadd, 1) := by decide +kernel
theorem dL_lays_280 : decode cL_lays 280 = .ok (.goto 50, 3) := by decide +kernel
theorem dL_lays_283 : decode cL_lays 283 = .ok (.iload 11, 2) := by decide +kernel
theorem dL_lays_285 : decode cL_lays 285 = .ok (.iconst 1, 1) := by decide +kernel
theorem dL_lays_286 : decode cL_lays 286 = .ok (.if_icmp .ne 15, 3) := by decide +kernel
theorem dL_lays_289 : decode cL_lays 289 = .ok (.iconst 1, 1) := by decide +kernel
theorem dL_lays_290 : decode cL_lays 290 = .ok (.iload_n 2, 1) := by decide +kernel
theorem dL_lays_291 : decode cL_lays 291 = .ok (.iconst 2, 1) := by decide +kernel
theorem dL_lays_292 : decode cL_lays 292 = .ok (.ishr, 1) := by decide +kernel
theorem dL_lays_293 : decode cL_lays 293 = .ok (.iconst 4, 1) := by decide +kernel
theorem dL_lays_294 : decode cL_lays 294 = .ok (.invokestatic 59, 3) := by decide +kernel
theorem dL_lays_297 : decode cL_lays 297 = .ok (.iadd, 1) := by decide +kernel
theorem dL_lays_298 : decode cL_lays 298 = .ok (.goto 32, 3) := by decide +kernel
theorem dL_lays_301 : decode cL_lays 301 = .ok (.iload 11, 2) := by decide +kernel
theorem dL_lays_303 : decode cL_lays 303 = .ok (.iconst 2, 1) := by decide +kernel
theorem dL_lays_304 : decode cL_lays 304 = .ok (.if_icmp .ne 15, 3) := by decide +kernel
theorem dL_lays_307 : decode cL_lays 307 = .ok (.iconst 1, 1) := by decide +kernel
theorem dL_lays_308 : decode cL_lays 308 = .ok (.iload_n 2, 1) := by decide +kernel
theorem dL_lays_309 : decode cL_lays 309 = .ok (.iconst 2, 1) := by decide +kernel
theorem dL_lays_310 : decode cL_lays 310 = .ok (.ishr, 1) := by decide +kernel
theorem dL_lays_311 : decode cL_lays 311 = .ok (.iconst 3, 1) := by decide +kernel
theorem dL_lays_312 : decode cL_lays 312 = .ok (.invokestatic 59, 3) := by decide +kernel
theorem dL_lays_315 : decode cL_lays 315 = .ok (.iadd, 1) := by decide +kernel
theorem dL_lays_316 : decode cL_lays 316 = .ok (.goto 14, 3) := by decide +kernel
theorem dL_lays_319 : decode cL_lays 319 = .ok (.bipush 20, 2) := by decide +kernel
theorem dL_lays_321 : decode cL_lays 321 = .ok (.iload_n 2, 1) := by decide +kernel
theorem dL_lays_322 : decode cL_lays 322 = .ok (.iconst 2, 1) := by decide +kernel
theorem dL_lays_323 : decode cL_lays 323 = .ok (.ishr, 1) := by decide +kernel
theorem dL_lays_324 : decode cL_lays 324 = .ok (.bipush 40, 2) := by decide +kernel
theorem dL_lays_326 : decode cL_lays 326 = .ok (.invokestatic 59, 3) := by decide +kernel
theorem dL_lays_329 : decode cL_lays 329 = .ok (.iadd, 1) := by decide +kernel
theorem dL_lays_330 : decode cL_lays 330 = .ok (.istore 12, 2) := by decide +kernel
theorem dL_lays_332 : decode cL_lays 332 = .ok (.aload_n 0, 1) := by decide +kernel
theorem dL_lays_333 : decode cL_lays 333 = .ok (.bipush 15, 2) := by decide +kernel
theorem dL_lays_335 : decode cL_lays 335 = .ok (.iload 11, 2) := by decide +kernel
theorem dL_lays_337 : decode cL_lays 337 = .ok (.iadd, 1) := by decide +kernel
theorem dL_lays_338 : decode cL_lays 338 = .ok (.invokevirtual 8, 3) := by decide +kernel
theorem dL_lays_341 : decode cL_lays 341 = .ok (.istore 13, 2) := by decide +kernel
theorem dL_lays_343 : decode cL_lays 343 = .ok (.aload_n 0, 1) := by decide +kernel
theorem dL_lays_344 : decode cL_lays 344 = .ok (.iload 11, 2) := by decide +kernel
theorem dL_lays_346 : decode cL_lays 346 = .ok (.iload 12, 2) := by decide +kernel
theorem dL_lays_348 : decode cL_lays 348 = .ok (.invokevirtual 69, 3) := by decide +kernel
theorem dL_lays_351 : decode cL_lays 351 = .ok (.iload 13, 2) := by decide +kernel
theorem dL_lays_353 : decode cL_lays 353 = .ok (.iload 12, 2) := by decide +kernel
theorem dL_lays_355 : decode cL_lays 355 = .ok (.if_icmp .ne 8, 3) := by decide +kernel
theorem dL_lays_358 : decode cL_lays 358 = .ok (.bipush (-5), 2) := by decide +kernel
theorem dL_lays_360 : decode cL_lays 360 = .ok (.goto 5, 3) := by decide +kernel
theorem dL_lays_363 : decode cL_lays 363 = .ok (.iload 13, 2) := by decide +kernel
theorem dL_lays_365 : decode cL_lays 365 = .ok (.if_icmp .ne 21, 3) := by decide +kernel
theorem dL_lays_368 : decode cL_lays 368 = .ok (.aload_n 0, 1) := by decide +kernel
theorem dL_lays_369 : decode cL_lays 369 = .ok (.bipush 15, 2) := by decide +kernel
theorem dL_lays_371 : decode cL_lays 371 = .ok (.iload 11, 2) := by decide +kernel
theorem dL_lays_373 : decode cL_lays 373 = .ok (.iadd, 1) := by decide +kernel
theorem dL_lays_374 : decode cL_lays 374 = .ok (.invokevirtual 8, 3) := by decide +kernel
theorem dL_lays_377 : decode cL_lays 377 = .ok (.iload 12, 2) := by decide +kernel
theorem dL_lays_379 : decode cL_lays 379 = .ok (.if_icmp .ne 7, 3) := by decide +kernel
theorem dL_lays_382 : decode cL_lays 382 = .ok (.iconst 1, 1) := by decide +kernel
theorem dL_lays_383 : decode cL_lays 383 = .ok (.goto 4, 3) := by decide +kernel
theorem dL_lays_386 : decode cL_lays 386 = .ok (.iconst 0, 1) := by decide +kernel
theorem dL_lays_387 : decode cL_lays 387 = .ok (.ireturn, 1) := by decide +kernel
theorem dL_law_0 : decode cL_law 0 = .ok (.new 9, 3) := by decide +kernel
theorem dL_law_3 : decode cL_law 3 = .ok (.dup, 1) := by decide +kernel
theorem dL_law_4 : decode cL_law 4 = .ok (.invokespecial 72, 3) := by decide +kernel
theorem dL_law_7 : decode cL_law 7 = .ok (.astore_n 1, 1) := by decide +kernel
theorem dL_law_8 : decode cL_law 8 = .ok (.aload_n 1, 1) := by decide +kernel
theorem dL_law_9 : decode cL_law 9 = .ok (.bipush 11, 2) := by decide +kernel
theorem dL_law_11 : decode cL_law 11 = .ok (.invokevirtual 8, 3) := by decide +kernel
theorem dL_law_14 : decode cL_law 14 = .ok (.iconst 1, 1) := by decide +kernel
theorem dL_law_15 : decode cL_law 15 = .ok (.if_icmp .ne 46, 3) := by decide +kernel
theorem dL_law_18 : decode cL_law 18 = .ok (.aload_n 1, 1) := by decide +kernel
theorem dL_law_19 : decode cL_law 19 = .ok (.invokevirtual 41, 3) := by decide +kernel
theorem dL_law_22 : decode cL_law 22 = .ok (.bipush (-4), 2) := by decide +kernel
theorem dL_law_24 : decode cL_law 24 = .ok (.if_icmp .ne 37, 3) := by decide +kernel
theorem dL_law_27 : decode cL_law 27 = .ok (.aload_n 1, 1) := by decide +kernel
theorem dL_law_28 : decode cL_law 28 = .ok (.invokevirtual 53, 3) := by decide +kernel
theorem dL_law_31 : decode cL_law 31 = .ok (.bipush (-4), 2) := by decide +kernel
theorem dL_law_33 : decode cL_law 33 = .ok (.if_icmp .ne 28, 3) := by decide +kernel
theorem dL_law_36 : decode cL_law 36 = .ok (.aload_n 1, 1) := by decide +kernel
theorem dL_law_37 : decode cL_law 37 = .ok (.invokevirtual 56, 3) := by decide +kernel
theorem dL_law_40 : decode cL_law 40 = .ok (.bipush (-5), 2) := by decide +kernel
theorem dL_law_42 : decode cL_law 42 = .ok (.if_icmp .ne 19, 3) := by decide +kernel
theorem dL_law_45 : decode cL_law 45 = .ok (.aload_n 1, 1) := by decide +kernel
theorem dL_law_46 : decode cL_law 46 = .ok (.invokevirtual 73, 3) := by decide +kernel
theorem dL_law_49 : decode cL_law 49 = .ok (.bipush (-5), 2) := by decide +kernel
theorem dL_law_51 : decode cL_law 51 = .ok (.if_icmp .ne 10, 3) := by decide +kernel
theorem dL_law_54 : decode cL_law 54 = .ok (.aload_n 1, 1) := by decide +kernel
theorem dL_law_55 : decode cL_law 55 = .ok (.invokestatic 76, 3) := by decide +kernel
theorem dL_law_58 : decode cL_law 58 = .ok (.ifCond .ne 5, 3) := by decide +kernel
theorem dL_law_61 : decode cL_law 61 = .ok (.iconst 0, 1) := by decide +kernel
theorem dL_law_62 : decode cL_law 62 = .ok (.ireturn, 1) := by decide +kernel
theorem dL_law_63 : decode cL_law 63 = .ok (.iconst 0, 1) := by decide +kernel
theorem dL_law_64 : decode cL_law 64 = .ok (.istore_n 2, 1) := by decide +kernel
theorem dL_law_65 : decode cL_law 65 = .ok (.iload_n 2, 1) := by decide +kernel
theorem dL_law_66 : decode cL_law 66 = .ok (.bipush 40, 2) := by decide +kernel
theorem dL_law_68 : decode cL_law 68 = .ok (.if_icmp .ge 34, 3) := by decide +kernel
theorem dL_law_71 : decode cL_law 71 = .ok (.aload_n 1, 1) := by decide +kernel
theorem dL_law_72 : decode cL_law 72 = .ok (.aload_n 0, 1) := by decide +kernel
theorem dL_law_73 : decode cL_law 73 = .ok (.iconst 2, 1) := by decide +kernel
theorem dL_law_74 : decode cL_law 74 = .ok (.iload_n 2, 1) := by decide +kernel
theorem dL_law_75 : decode cL_law 75 = .ok (.imul, 1) := by decide +kernel
theorem dL_law_76 : decode cL_law 76 = .ok (.invokestatic 80, 3) := by decide +kernel
theorem dL_law_79 : decode cL_law 79 = .ok (.aload_n 0, 1) := by decide +kernel
theorem dL_law_80 : decode cL_law 80 = .ok (.iconst 2, 1) := by decide +kernel
theorem dL_law_81 : decode cL_law 81 = .ok (.iload_n 2, 1) := by decide +kernel
theorem dL_law_82 : decode cL_law 82 = .ok (.imul, 1) := by decide +kernel
theorem dL_law_83 : decode cL_law 83 = .ok (.iconst 1, 1) := by decide +kernel
theorem dL_law_84 : decode cL_law 84 = .ok (.iadd, 1) := by decide +kernel
theorem dL_law_85 : decode cL_law 85 = .ok (.invokestatic 80, 3) := by decide +kernel
theorem dL_law_88 : decode cL_law 88 = .ok (.invokestatic 84, 3) := by decide +kernel
theorem dL_law_91 : decode cL_law 91 = .ok (.ifCond .ne 5, 3) := by decide +kernel
theorem dL_law_94 : decode cL_law 94 = .ok (.iconst 0, 1) := by decide +kernel
theorem dL_law_95 : decode cL_law 95 = .ok (.ireturn, 1) := by decide +kernel
theorem dL_law_96 : decode cL_law 96 = .ok (.iinc 2 1, 3) := by decide +kernel
theorem dL_law_99 : decode cL_law 99 = .ok (.goto (-34), 3) := by decide +kernel
theorem dL_law_102 : decode cL_law 102 = .ok (.aload_n 1, 1) := by decide +kernel
theorem dL_law_103 : decode cL_law 103 = .ok (.invokestatic 88, 3) := by decide +kernel
theorem dL_law_106 : decode cL_law 106 = .ok (.ifCond .eq 10, 3) := by decide +kernel
theorem dL_law_109 : decode cL_law 109 = .ok (.aload_n 1, 1) := by decide +kernel
theorem dL_law_110 : decode cL_law 110 = .ok (.invokestatic 76, 3) := by decide +kernel
theorem dL_law_113 : decode cL_law 113 = .ok (.ifCond .ne 5, 3) := by decide +kernel
theorem dL_law_116 : decode cL_law 116 = .ok (.iconst 0, 1) := by decide +kernel
theorem dL_law_117 : decode cL_law 117 = .ok (.ireturn, 1) := by decide +kernel
theorem dL_law_118 : decode cL_law 118 = .ok (.bipush 80, 2) := by decide +kernel
theorem dL_law_120 : decode cL_law 120 = .ok (.istore_n 2, 1) := by decide +kernel
theorem dL_law_121 : decode cL_law 121 = .ok (.iload_n 2, 1) := by decide +kernel
theorem dL_law_122 : decode cL_law 122 = .ok (.sipush 140, 3) := by decide +kernel
theorem dL_law_125 : decode cL_law 125 = .ok (.if_icmp .ge 231, 3) := by decide +kernel
theorem dL_law_128 : decode cL_law 128 = .ok (.aload_n 0, 1) := by decide +kernel
theorem dL_law_129 : decode cL_law 129 = .ok (.iload_n 2, 1) := by decide +kernel
theorem dL_law_130 : decode cL_law 130 = .ok (.invokestatic 80, 3) := by decide +kernel
theorem dL_law_133 : decode cL_law 133 = .ok (.istore_n 3, 1) := by decide +kernel
theorem dL_law_134 : decode cL_law 134 = .ok (.aload_n 1, 1) := by decide +kernel
theorem dL_law_135 : decode cL_law 135 = .ok (.iconst 5, 1) := by decide +kernel
theorem dL_law_136 : decode cL_law 136 = .ok (.invokevirtual 8, 3) := by decide +kernel
theorem dL_law_139 : decode cL_law 139 = .ok (.istore 4, 2) := by decide +kernel
theorem dL_law_141 : decode cL_law 141 = .ok (.iload 4, 2) := by decide +kernel
theorem dL_law_143 : decode cL_law 143 = .ok (.ifCond .ne 7, 3) := by decide +kernel
theorem dL_law_146 : decode cL_law 146 = .ok (.iconst 0, 1) := by decide +kernel
theorem dL_law_147 : decode cL_law 147 = .ok (.goto 11, 3) := by decide +kernel
theorem dL_law_150 : decode cL_law 150 = .ok (.iload_n 3, 1) := by decide +kernel
theorem dL_law_151 : decode cL_law 151 = .ok (.iconst 4, 1) := by decide +kernel
theorem dL_law_152 : decode cL_law 152 = .ok (.ishr, 1) := by decide +kernel
theorem dL_law_153 : decode cL_law 153 = .ok (.iload 4, 2) := by decide +kernel
theorem dL_law_155 : decode cL_law 155 = .ok (.invokestatic 59, 3) := by decide +kernel
theorem dL_law_158 : decode cL_law 158 = .ok (.istore 5, 2) := by decide +kernel
theorem dL_law_160 : decode cL_law 160 = .ok (.iload 4, 2) := by decide +kernel
theorem dL_law_162 : decode cL_law 162 = .ok (.ifCond .ne 8, 3) := by decide +kernel
theorem dL_law_165 : decode cL_law 165 = .ok (.bipush (-5), 2) := by decide +kernel
theorem dL_law_167 : decode cL_law 167 = .ok (.goto 7, 3) := by decide +kernel
theorem dL_law_170 : decode cL_law 170 = .ok (.aload_n 1, 1) := by decide +kernel
theorem dL_law_171 : decode cL_law 171 = .ok (.invokevirtual 53, 3) := by decide +kernel
theorem dL_law_174 : decode cL_law 174 = .ok (.istore 6, 2) := by decide +kernel
theorem dL_law_176 : decode cL_law 176 = .ok (.iload_n 3, 1) := by decide +kernel
theorem dL_law_177 : decode cL_law 177 = .ok (.iconst 3, 1) := by decide +kernel
theorem dL_law_178 : decode cL_law 178 = .ok (.iand, 1) := by decide +kernel
theorem dL_law_179 : decode cL_law 179 = .ok (.ifCond .ne 12, 3) := by decide +kernel
theorem dL_law_182 : decode cL_law 182 = .ok (.iload 6, 2) := by decide +kernel
theorem dL_law_184 : decode cL_law 184 = .ok (.ifCond .lt 7, 3) := by decide +kernel
theorem dL_law_187 : decode cL_law 187 = .ok (.iconst 1, 1) := by decide +kernel
theorem dL_law_188 : decode cL_law 188 = .ok (.goto 4, 3) := by decide +kernel
theorem dL_law_191 : decode cL_law 191 = .ok (.iconst 0, 1) := by decide +kernel
theorem dL_law_192 : decode cL_law 192 = .ok (.istore 7, 2) := by decide +kernel
theorem dL_law_194 : decode cL_law 194 = .ok (.iload 4, 2) := by decide +kernel
theorem dL_law_196 : decode cL_law 196 = .ok (.ifCond .eq 11, 3) := by decide +kernel
theorem dL_law_199 : decode cL_law 199 = .ok (.iload_n 3, 1) := by decide +kernel
theorem dL_law_200 : decode cL_law 200 = .ok (.bipush 7, 2) := by decide +kernel
theorem dL_law_202 : decode cL_law 202 = .ok (.iand, 1) := by decide +kernel
theorem dL_law_203 : decode cL_law 203 = .ok (.iconst 1, 1) := by decide +kernel
theorem dL_law_204 : decode cL_law 204 = .ok (.if_icmp .ne 7, 3) := by decide +kernel
theorem dL_law_207 : decode cL_law 207 = .ok (.iconst 1, 1) := by decide +kernel
theorem dL_law_208 : decode cL_law 208 = .ok (.goto 4, 3) := by decide +kernel
theorem dL_law_211 : decode cL_law 211 = .ok (.iconst 0, 1) := by decide +kernel
theorem dL_law_212 : decode cL_law 212 = .ok (.istore 8, 2) := by decide +kernel
theorem dL_law_214 : decode cL_law 214 = .ok (.iload 7, 2) := by decide +kernel
theorem dL_law_216 : decode cL_law 216 = .ok (.ifCond .eq 28, 3) := by decide +kernel
theorem dL_law_219 : decode cL_law 219 = .ok (.aload_n 1, 1) := by decide +kernel
theorem dL_law_220 : decode cL_law 220 = .ok (.iload 6, 2) := by decide +kernel
theorem dL_law_222 : decode cL_law 222 = .ok (.bipush 100, 2) := by decide +kernel
theorem dL_law_224 : decode cL_law 224 = .ok (.idiv, 1) := by decide +kernel
theorem dL_law_225 : decode cL_law 225 = .ok (.iload 6, 2) := by decide +kernel
theorem dL_law_227 : decode cL_law 227 = .ok (.bipush 10, 2) := by decide +kernel
theorem dL_law_229 : decode cL_law 229 = .ok (.idiv, 1) := by decide +kernel
theorem dL_law_230 : decode cL_law 230 = .ok (.bipush 10, 2) := by decide +kernel
theorem dL_law_232 : decode cL_law 232 = .ok (.irem, 1) := by decide +kernel
theorem dL_law_233 : decode cL_law 233 = .ok (.iload 6, 2) := by decide +kernel
theorem dL_law_235 : decode cL_law 235 = .ok (.bipush 10, 2) := by decide +kernel
theorem dL_law_237 : decode cL_law 237 = .ok (.irem, 1) := by decide +kernel
theorem dL_law_238 : decode cL_law 238 = .ok (.invokestatic 91, 3) := by decide +kernel
theorem dL_law_241 : decode cL_law 241 = .ok (.goto 42, 3) := by decide +kernel
theorem dL_law_244 : decode cL_law 244 = .ok (.iload 8, 2) := by decide +kernel
theorem dL_law_246 : decode cL_law 246 = .ok (.ifCond .eq 13, 3) := by decide +kernel
theorem dL_law_249 : decode cL_law 249 = .ok (.aload_n 1, 1) := by decide +kernel
theorem dL_law_250 : decode cL_law 250 = .ok (.iconst 0, 1) := by decide +kernel
theorem dL_law_251 : decode cL_law 251 = .ok (.iconst 0, 1) := by decide +kernel
theorem dL_law_252 : decode cL_law 252 = .ok (.iconst 0, 1) := by decide +kernel
theorem dL_law_253 : decode cL_law 253 = .ok (.invokestatic 91, 3) := by decide +kernel
theorem dL_law_256 : decode cL_law 256 = .ok (.goto 27, 3) := by decide +kernel
theorem dL_law_259 : decode cL_law 259 = .ok (.aload_n 1, 1) := by decide +kernel
theorem dL_law_260 : decode cL_law 260 = .ok (.iload 5, 2) := by decide +kernel
theorem dL_law_262 : decode cL_law 262 = .ok (.iload_n 3, 1) := by decide +kernel
theorem dL_law_263 : decode cL_law 263 = .ok (.bipush 8, 2) := by decide +kernel
theorem dL_law_265 : decode cL_law 265 = .ok (.ishr, 1) := by decide +kernel
theorem dL_law_266 : decode cL_law 266 = .ok (.iconst 4, 1) := by decide +kernel
theorem dL_law_267 : decode cL_law 267 = .ok (.invokestatic 59, 3) := by decide +kernel
theorem dL_law_270 : decode cL_law 270 = .ok (.iconst 1, 1) := by decide +kernel
theorem dL_law_271 : decode cL_law 271 = .ok (.iload_n 3, 1) := by decide +kernel
theorem dL_law_272 : decode cL_law 272 = .ok (.bipush 10, 2) := by decide +kernel
theorem dL_law_274 : decode cL_law 274 = .ok (.ishr, 1) := by decide +kernel
theorem dL_law_275 : decode cL_law 275 = .ok (.iconst 3, 1) := by decide +kernel
theorem dL_law_276 : decode cL_law 276 = .ok (.invokestatic 59, 3) := by decide +kernel
theorem dL_law_279 : decode cL_law 279 = .ok (.iadd, 1) := by decide +kernel
theorem dL_law_280 : decode cL_law 280 = .ok (.invokestatic 91, 3) := by decide +kernel
theorem dL_law_283 : decode cL_law 283 = .ok (.istore 9, 2) := by decide +kernel
theorem dL_law_285 : decode cL_law 285 = .ok (.iload 9, 2) := by decide +kernel
theorem dL_law_287 : decode cL_law 287 = .ok (.ifCond .eq 61, 3) := by decide +kernel
theorem dL_law_290 : decode cL_law 290 = .ok (.iload_n 2, 1) := by decide +kernel
theorem dL_law_291 : decode cL_law 291 = .ok (.iconst 4, 1) := by decide +kernel
theorem dL_law_292 : decode cL_law 292 = .ok (.irem, 1) := by decide +kernel
theorem dL_law_293 : decode cL_law 293 = .ok (.iconst 1, 1) := by decide +kernel
theorem dL_law_294 : decode cL_law 294 = .ok (.if_icmp .ne 10, 3) := by decide +kernel
theorem dL_law_297 : decode cL_law 297 = .ok (.aload_n 1, 1) := by decide +kernel
theorem dL_law_298 : decode cL_law 298 = .ok (.invokestatic 88, 3) := by decide +kernel
theorem dL_law_301 : decode cL_law 301 = .ok (.ifCond .eq 47, 3) := by decide +kernel
theorem dL_law_304 : decode cL_law 304 = .ok (.iload 4, 2) := by decide +kernel
theorem dL_law_306 : decode cL_law 306 = .ok (.ifCond .le 26, 3) := by decide +kernel
theorem dL_law_309 : decode cL_law 309 = .ok (.iload_n 2, 1) := by decide +kernel
theorem dL_law_310 : decode cL_law 310 = .ok (.iconst 5, 1) := by decide +kernel
theorem dL_law_311 : decode cL_law 311 = .ok (.irem, 1) := by decide +kernel
theorem dL_law_312 : decode cL_law 312 = .ok (.iconst 2, 1) := by decide +kernel
theorem dL_law_313 : decode cL_law 313 = .ok (.if_icmp .ne 19, 3) := by decide +kernel
theorem dL_law_316 : decode cL_law 316 = .ok (.aload_n 1, 1) := by decide +kernel
theorem dL_law_317 : decode cL_law 317 = .ok (.iload_n 3, 1) := by decide +kernel
theorem dL_law_318 : decode cL_law 318 = .ok (.bipush 12, 2) := by decide +kernel
theorem dL_law_320 : decode cL_law 320 = .ok (.ishr, 1) := by decide +kernel
theorem dL_law_321 : decode cL_law 321 = .ok (.iload 4, 2) := by decide +kernel
theorem dL_law_323 : decode cL_law 323 = .ok (.invokestatic 59, 3) := by decide +kernel
theorem dL_law_326 : decode cL_law 326 = .ok (.invokestatic 95, 3) := by decide +kernel
theorem dL_law_329 : decode cL_law 329 = .ok (.ifCond .eq 19, 3) := by decide +kernel
theorem dL_law_332 : decode cL_law 332 = .ok (.iload_n 2, 1) := by decide +kernel
theorem dL_law_333 : decode cL_law 333 = .ok (.bipush 12, 2) := by decide +kernel
theorem dL_law_335 : decode cL_law 335 = .ok (.irem, 1) := by decide +kernel
theorem dL_law_336 : decode cL_law 336 = .ok (.bipush 7, 2) := by decide +kernel
theorem dL_law_338 : decode cL_law 338 = .ok (.if_icmp .ne 12, 3) := by decide +kernel
theorem dL_law_341 : decode cL_law 341 = .ok (.aload_n 1, 1) := by decide +kernel
theorem dL_law_342 : decode cL_law 342 = .ok (.invokestatic 99, 3) := by decide +kernel
theorem dL_law_345 : decode cL_law 345 = .ok (.ifCond .ne 5, 3) := by decide +kernel
theorem dL_law_348 : decode cL_law 348 = .ok (.iconst 0, 1) := by decide +kernel
theorem dL_law_349 : decode cL_law 349 = .ok (.ireturn, 1) := by decide +kernel
theorem dL_law_350 : decode cL_law 350 = .ok (.iinc 2 1, 3) := by decide +kernel
theorem dL_law_353 : decode cL_law 353 = .ok (.goto (-232), 3) := by decide +kernel
theorem dL_law_356 : decode cL_law 356 = .ok (.aload_n 1, 1) := by decide +kernel
theorem dL_law_357 : decode cL_law 357 = .ok (.bipush 36, 2) := by decide +kernel
theorem dL_law_359 : decode cL_law 359 = .ok (.iconst 0, 1) := by decide +kernel
theorem dL_law_360 : decode cL_law 360 = .ok (.iconst 0, 1) := by decide +kernel
theorem dL_law_361 : decode cL_law 361 = .ok (.invokevirtual 62, 3) := by decide +kernel
theorem dL_law_364 : decode cL_law 364 = .ok (.iconst (-1), 1) := by decide +kernel
theorem dL_law_365 : decode cL_law 365 = .ok (.if_icmp .ne 98, 3) := by decide +kernel
theorem dL_law_368 : decode cL_law 368 = .ok (.aload_n 1, 1) := by decide +kernel
theorem dL_law_369 : decode cL_law 369 = .ok (.iconst 1, 1) := by decide +kernel
theorem dL_law_370 : decode cL_law 370 = .ok (.iconst 5, 1) := by decide +kernel
theorem dL_law_371 : decode cL_law 371 = .ok (.iconst 0, 1) := by decide +kernel
theorem dL_law_372 : decode cL_law 372 = .ok (.invokevirtual 62, 3) := by decide +kernel
theorem dL_law_375 : decode cL_law 375 = .ok (.bipush (-2), 2) := by decide +kernel
theorem dL_law_377 : decode cL_law 377 = .ok (.if_icmp .ne 86, 3) := by decide +kernel
theorem dL_law_380 : decode cL_law 380 = .ok (.aload_n 1, 1) := by decide +kernel
theorem dL_law_381 : decode cL_law 381 = .ok (.iconst 2, 1) := by decide +kernel
theorem dL_law_382 : decode cL_law 382 = .ok (.iconst 1, 1) := by decide +kernel
theorem dL_law_383 : decode cL_law 383 = .ok (.iconst 1, 1) := by decide +kernel
theorem dL_law_384 : decode cL_law 384 = .ok (.invokevirtual 66, 3) := by decide +kernel
theorem dL_law_387 : decode cL_law 387 = .ok (.iconst (-1), 1) := by decide +kernel
theorem dL_law_388 : decode cL_law 388 = .ok (.if_icmp .ne 75, 3) := by decide +kernel
theorem dL_law_391 : decode cL_law 391 = .ok (.aload_n 1, 1) := by decide +kernel
theorem dL_law_392 : decode cL_law 392 = .ok (.iconst 0, 1) := by decide +kernel
theorem dL_law_393 : decode cL_law 393 = .ok (.iconst 4, 1) := by decide +kernel
theorem dL_law_394 : decode cL_law 394 = .ok (.iconst 1, 1) := by decide +kernel
theorem dL_law_395 : decode cL_law 395 = .ok (.invokevirtual 66, 3) := by decide +kernel
theorem dL_law_398 : decode cL_law 398 = .ok (.bipush (-2), 2) := by decide +kernel
theorem dL_law_400 : decode cL_law 400 = .ok (.if_icmp .ne 63, 3) := by decide +kernel
theorem dL_law_403 : decode cL_law 403 = .ok (.aload_n 1, 1) := by decide +kernel
theorem dL_law_404 : decode cL_law 404 = .ok (.iconst 3, 1) := by decide +kernel
theorem dL_law_405 : decode cL_law 405 = .ok (.bipush 9, 2) := by decide +kernel
theorem dL_law_407 : decode cL_law 407 = .ok (.invokevirtual 69, 3) := by decide +kernel
theorem dL_law_410 : decode cL_law 410 = .ok (.bipush (-2), 2) := by decide +kernel
theorem dL_law_412 : decode cL_law 412 = .ok (.if_icmp .ne 51, 3) := by decide +kernel
theorem dL_law_415 : decode cL_law 415 = .ok (.aload_n 1, 1) := by decide +kernel
theorem dL_law_416 : decode cL_law 416 = .ok (.sipush 1001, 3) := by decide +kernel
theorem dL_law_419 : decode cL_law 419 = .ok (.invokevirtual 25, 3) := by decide +kernel
theorem dL_law_422 : decode cL_law 422 = .ok (.iconst (-1), 1) := by decide +kernel
theorem dL_law_423 : decode cL_law 423 = .ok (.if_icmp .ne 40, 3) := by decide +kernel
theorem dL_law_426 : decode cL_law 426 = .ok (.aload_n 1, 1) := by decide +kernel
theorem dL_law_427 : decode cL_law 427 = .ok (.iconst 2, 1) := by decide +kernel
theorem dL_law_428 : decode cL_law 428 = .ok (.invokevirtual 38, 3) := by decide +kernel
theorem dL_law_431 : decode cL_law 431 = .ok (.iconst (-1), 1) := by decide +kernel
theorem dL_law_432 : decode cL_law 432 = .ok (.if_icmp .ne 31, 3) := by decide +kernel
theorem dL_law_435 : decode cL_law 435 = .ok (.aload_n 1, 1) := by decide +kernel
theorem dL_law_436 : decode cL_law 436 = .ok (.bipush 36, 2) := by decide +kernel
theorem dL_law_438 : decode cL_law 438 = .ok (.iconst 1, 1) := by decide +kernel
theorem dL_law_439 : decode cL_law 439 = .ok (.invokevirtual 28, 3) := by decide +kernel
theorem dL_law_442 : decode cL_law 442 = .ok (.ldc 102, 2) := by decide +kernel
theorem dL_law_444 : decode cL_law 444 = .ok (.fcmp .l, 1) := by decide +kernel
theorem dL_law_445 : decode cL_law 445 = .ok (.ifCond .ne 18, 3) := by decide +kernel
theorem dL_law_448 : decode cL_law 448 = .ok (.aload_n 1, 1) := by decide +kernel
theorem dL_law_449 : decode cL_law 449 = .ok (.bipush 19, 2) := by decide +kernel
theorem dL_law_451 : decode cL_law 451 = .ok (.invokevirtual 8, 3) := by decide +kernel
theorem dL_law_454 : decode cL_law 454 = .ok (.bipush (-2), 2) := by decide +kernel
theorem dL_law_456 : decode cL_law 456 = .ok (.if_icmp .ne 7, 3) := by decide +kernel
theorem dL_law_459 : decode cL_law 459 = .ok (.iconst 1, 1) := by decide +kernel
theorem dL_law_460 : decode cL_law 460 = .ok (.goto 4, 3) := by decide +kernel
theorem dL_law_463 : decode cL_law 463 = .ok (.iconst 0, 1) := by decide +kernel
theorem dL_law_464 : decode cL_law 464 = .ok (.ireturn, 1) := by decide +kernel
