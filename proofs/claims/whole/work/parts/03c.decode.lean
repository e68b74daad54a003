theorem dX5_count_157 : decode cX5_count 157 = .ok (.ireturn, 1) := by decide +kernel
theorem dX5_count_158 : decode cX5_count 158 = .ok (.aload_n 0, 1) := by decide +kernel
theorem dX5_count_159 : decode cX5_count 159 = .ok (.getfield 10, 3) := by decide +kernel
theorem dX5_count_162 : decode cX5_count 162 = .ok (.iconst 1, 1) := by decide +kernel
theorem dX5_count_163 : decode cX5_count 163 = .ok (.invokevirtual 175, 3) := by decide +kernel
theorem dX5_count_166 : decode cX5_count 166 = .ok (.ireturn, 1) := by decide +kernel
theorem dX5_count_167 : decode cX5_count 167 = .ok (.aload_n 0, 1) := by decide +kernel
theorem dX5_count_168 : decode cX5_count 168 = .ok (.getfield 10, 3) := by decide +kernel
theorem dX5_count_171 : decode cX5_count 171 = .ok (.iconst 2, 1) := by decide +kernel
theorem dX5_count_172 : decode cX5_count 172 = .ok (.invokevirtual 175, 3) := by decide +kernel
theorem dX5_count_175 : decode cX5_count 175 = .ok (.ireturn, 1) := by decide +kernel
theorem dX5_count_176 : decode cX5_count 176 = .ok (.aload_n 0, 1) := by decide +kernel
theorem dX5_count_177 : decode cX5_count 177 = .ok (.getfield 10, 3) := by decide +kernel
theorem dX5_count_180 : decode cX5_count 180 = .ok (.invokevirtual 178, 3) := by decide +kernel
theorem dX5_count_183 : decode cX5_count 183 = .ok (.ireturn, 1) := by decide +kernel
theorem dX5_count_184 : decode cX5_count 184 = .ok (.aload_n 0, 1) := by decide +kernel
theorem dX5_count_185 : decode cX5_count 185 = .ok (.getfield 10, 3) := by decide +kernel
theorem dX5_count_188 : decode cX5_count 188 = .ok (.getfield 181, 3) := by decide +kernel
theorem dX5_count_191 : decode cX5_count 191 = .ok (.ireturn, 1) := by decide +kernel
theorem dX5_count_192 : decode cX5_count 192 = .ok (.aload_n 0, 1) := by decide +kernel
theorem dX5_count_193 : decode cX5_count 193 = .ok (.getfield 10, 3) := by decide +kernel
theorem dX5_count_196 : decode cX5_count 196 = .ok (.invokevirtual 184, 3) := by decide +kernel
theorem dX5_count_199 : decode cX5_count 199 = .ok (.ifCond .eq 7, 3) := by decide +kernel
theorem dX5_count_202 : decode cX5_count 202 = .ok (.iconst 1, 1) := by decide +kernel
theorem dX5_count_203 : decode cX5_count 203 = .ok (.goto 4, 3) := by decide +kernel
theorem dX5_count_206 : decode cX5_count 206 = .ok (.iconst 0, 1) := by decide +kernel
theorem dX5_count_207 : decode cX5_count 207 = .ok (.ireturn, 1) := by decide +kernel
theorem dX5_count_208 : decode cX5_count 208 = .ok (.aload_n 0, 1) := by decide +kernel
theorem dX5_count_209 : decode cX5_count 209 = .ok (.invokevirtual 188, 3) := by decide +kernel
theorem dX5_count_212 : decode cX5_count 212 = .ok (.ireturn, 1) := by decide +kernel
theorem dX5_count_213 : decode cX5_count 213 = .ok (.aload_n 0, 1) := by decide +kernel
theorem dX5_count_214 : decode cX5_count 214 = .ok (.getfield 38, 3) := by decide +kernel
theorem dX5_count_217 : decode cX5_count 217 = .ok (.getfield 191, 3) := by decide +kernel
theorem dX5_count_220 : decode cX5_count 220 = .ok (.ireturn, 1) := by decide +kernel
theorem dX5_count_221 : decode cX5_count 221 = .ok (.aload_n 0, 1) := by decide +kernel
theorem dX5_count_222 : decode cX5_count 222 = .ok (.getfield 45, 3) := by decide +kernel
theorem dX5_count_225 : decode cX5_count 225 = .ok (.getfield 85, 3) := by decide +kernel
theorem dX5_count_228 : decode cX5_count 228 = .ok (.ireturn, 1) := by decide +kernel
theorem dX5_count_229 : decode cX5_count 229 = .ok (.aload_n 0, 1) := by decide +kernel
theorem dX5_count_230 : decode cX5_count 230 = .ok (.getfield 10, 3) := by decide +kernel
theorem dX5_count_233 : decode cX5_count 233 = .ok (.getfield 194, 3) := by decide +kernel
theorem dX5_count_236 : decode cX5_count 236 = .ok (.ireturn, 1) := by decide +kernel
theorem dX5_count_237 : decode cX5_count 237 = .ok (.aload_n 0, 1) := by decide +kernel
theorem dX5_count_238 : decode cX5_count 238 = .ok (.getfield 10, 3) := by decide +kernel
theorem dX5_count_241 : decode cX5_count 241 = .ok (.getfield 197, 3) := by decide +kernel
theorem dX5_count_244 : decode cX5_count 244 = .ok (.ireturn, 1) := by decide +kernel
theorem dX5_count_245 : decode cX5_count 245 = .ok (.aload_n 0, 1) := by decide +kernel
theorem dX5_count_246 : decode cX5_count 246 = .ok (.getfield 10, 3) := by decide +kernel
theorem dX5_count_249 : decode cX5_count 249 = .ok (.getfield 200, 3) := by decide +kernel
theorem dX5_count_252 : decode cX5_count 252 = .ok (.ireturn, 1) := by decide +kernel
theorem dX5_count_253 : decode cX5_count 253 = .ok (.aload_n 0, 1) := by decide +kernel
theorem dX5_count_254 : decode cX5_count 254 = .ok (.getfield 10, 3) := by decide +kernel
theorem dX5_count_257 : decode cX5_count 257 = .ok (.getfield 203, 3) := by decide +kernel
theorem dX5_count_260 : decode cX5_count 260 = .ok (.ireturn, 1) := by decide +kernel
theorem dX5_count_261 : decode cX5_count 261 = .ok (.bipush (-2), 2) := by decide +kernel
theorem dX5_count_263 : decode cX5_count 263 = .ok (.ireturn, 1) := by decide +kernel
theorem dX5_afloat_0 : decode cX5_afloat 0 = .ok (.aload_n 0, 1) := by decide +kernel
theorem dX5_afloat_1 : decode cX5_afloat 1 = .ok (.getfield 10, 3) := by decide +kernel
theorem dX5_afloat_4 : decode cX5_afloat 4 = .ok (.invokevirtual 206, 3) := by decide +kernel
theorem dX5_afloat_7 : decode cX5_afloat 7 = .ok (.istore_n 3, 1) := by decide +kernel
theorem dX5_afloat_8 : decode cX5_afloat 8 = .ok (.iload_n 1, 1) := by decide +kernel
theorem dX5_afloat_9 : decode cX5_afloat 9 = .ok (.invokestatic 108, 3) := by decide +kernel
theorem dX5_afloat_12 : decode cX5_afloat 12 = .ok (.ifCond .eq 15, 3) := by decide +kernel
theorem dX5_afloat_15 : decode cX5_afloat 15 = .ok (.iload_n 2, 1) := by decide +kernel
theorem dX5_afloat_16 : decode cX5_afloat 16 = .ok (.invokestatic 209, 3) := by decide +kernel
theorem dX5_afloat_19 : decode cX5_afloat 19 = .ok (.ifCond .eq 8, 3) := by decide +kernel
theorem dX5_afloat_22 : decode cX5_afloat 22 = .ok (.iload_n 3, 1) := by decide +kernel
theorem dX5_afloat_23 : decode cX5_afloat 23 = .ok (.iconst 1, 1) := by decide +kernel
theorem dX5_afloat_24 : decode cX5_afloat 24 = .ok (.if_icmp .ge 6, 3) := by decide +kernel
theorem dX5_afloat_27 : decode cX5_afloat 27 = .ok (.ldc 212, 2) := by decide +kernel
theorem dX5_afloat_29 : decode cX5_afloat 29 = .ok (.freturn, 1) := by decide +kernel
theorem dX5_afloat_30 : decode cX5_afloat 30 = .ok (.iconst 0, 1) := by decide +kernel
theorem dX5_afloat_31 : decode cX5_afloat 31 = .ok (.istore 4, 2) := by decide +kernel
theorem dX5_afloat_33 : decode cX5_afloat 33 = .ok (.iconst 0, 1) := by decide +kernel
theorem dX5_afloat_34 : decode cX5_afloat 34 = .ok (.istore 5, 2) := by decide +kernel
theorem dX5_afloat_36 : decode cX5_afloat 36 = .ok (.iload 5, 2) := by decide +kernel
theorem dX5_afloat_38 : decode cX5_afloat 38 = .ok (.iload_n 3, 1) := by decide +kernel
theorem dX5_afloat_39 : decode cX5_afloat 39 = .ok (.if_icmp .ge 26, 3) := by decide +kernel
theorem dX5_afloat_42 : decode cX5_afloat 42 = .ok (.aload_n 0, 1) := by decide +kernel
theorem dX5_afloat_43 : decode cX5_afloat 43 = .ok (.getfield 10, 3) := by decide +kernel
theorem dX5_afloat_46 : decode cX5_afloat 46 = .ok (.iload_n 1, 1) := by decide +kernel
theorem dX5_afloat_47 : decode cX5_afloat 47 = .ok (.iload_n 2, 1) := by decide +kernel
theorem dX5_afloat_48 : decode cX5_afloat 48 = .ok (.iload 5, 2) := by decide +kernel
theorem dX5_afloat_50 : decode cX5_afloat 50 = .ok (.invokevirtual 213, 3) := by decide +kernel
theorem dX5_afloat_53 : decode cX5_afloat 53 = .ok (.ifCond .eq 6, 3) := by decide +kernel
theorem dX5_afloat_56 : decode cX5_afloat 56 = .ok (.iinc 4 1, 3) := by decide +kernel
theorem dX5_afloat_59 : decode cX5_afloat 59 = .ok (.iinc 5 1, 3) := by decide +kernel
theorem dX5_afloat_62 : decode cX5_afloat 62 = .ok (.goto (-26), 3) := by decide +kernel
theorem dX5_afloat_65 : decode cX5_afloat 65 = .ok (.iload 4, 2) := by decide +kernel
theorem dX5_afloat_67 : decode cX5_afloat 67 = .ok (.i2f, 1) := by decide +kernel
theorem dX5_afloat_68 : decode cX5_afloat 68 = .ok (.iload_n 3, 1) := by decide +kernel
theorem dX5_afloat_69 : decode cX5_afloat 69 = .ok (.i2f, 1) := by decide +kernel
theorem dX5_afloat_70 : decode cX5_afloat 70 = .ok (.fdiv, 1) := by decide +kernel
theorem dX5_afloat_71 : decode cX5_afloat 71 = .ok (.freturn, 1) := by decide +kernel
theorem dX5_floatsIn_0 : decode cX5_floatsIn 0 = .ok (.aload_n 0, 1) := by decide +kernel
theorem dX5_floatsIn_1 : decode cX5_floatsIn 1 = .ok (.getfield 10, 3) := by decide +kernel
theorem dX5_floatsIn_4 : decode cX5_floatsIn 4 = .ok (.iload_n 1, 1) := by decide +kernel
theorem dX5_floatsIn_5 : decode cX5_floatsIn 5 = .ok (.invokevirtual 129, 3) := by decide +kernel
theorem dX5_floatsIn_8 : decode cX5_floatsIn 8 = .ok (.ifCond .ne 5, 3) := by decide +kernel
theorem dX5_floatsIn_11 : decode cX5_floatsIn 11 = .ok (.iconst (-1), 1) := by decide +kernel
theorem dX5_floatsIn_12 : decode cX5_floatsIn 12 = .ok (.ireturn, 1) := by decide +kernel
theorem dX5_floatsIn_13 : decode cX5_floatsIn 13 = .ok (.aload_n 0, 1) := by decide +kernel
theorem dX5_floatsIn_14 : decode cX5_floatsIn 14 = .ok (.getfield 10, 3) := by decide +kernel
theorem dX5_floatsIn_17 : decode cX5_floatsIn 17 = .ok (.iload_n 1, 1) := by decide +kernel
theorem dX5_floatsIn_18 : decode cX5_floatsIn 18 = .ok (.invokevirtual 141, 3) := by decide +kernel
theorem dX5_floatsIn_21 : decode cX5_floatsIn 21 = .ok (.ifCond .ne 6, 3) := by decide +kernel
theorem dX5_floatsIn_24 : decode cX5_floatsIn 24 = .ok (.bipush (-4), 2) := by decide +kernel
theorem dX5_floatsIn_26 : decode cX5_floatsIn 26 = .ok (.ireturn, 1) := by decide +kernel
theorem dX5_floatsIn_27 : decode cX5_floatsIn 27 = .ok (.aload_n 0, 1) := by decide +kernel
theorem dX5_floatsIn_28 : decode cX5_floatsIn 28 = .ok (.getfield 10, 3) := by decide +kernel
theorem dX5_floatsIn_31 : decode cX5_floatsIn 31 = .ok (.getfield 144, 3) := by decide +kernel
theorem dX5_floatsIn_34 : decode cX5_floatsIn 34 = .ok (.iload_n 1, 1) := by decide +kernel
theorem dX5_floatsIn_35 : decode cX5_floatsIn 35 = .ok (.invokestatic 116, 3) := by decide +kernel
theorem dX5_floatsIn_38 : decode cX5_floatsIn 38 = .ok (.istore_n 2, 1) := by decide +kernel
theorem dX5_floatsIn_39 : decode cX5_floatsIn 39 = .ok (.aload_n 0, 1) := by decide +kernel
theorem dX5_floatsIn_40 : decode cX5_floatsIn 40 = .ok (.getfield 10, 3) := by decide +kernel
theorem dX5_floatsIn_43 : decode cX5_floatsIn 43 = .ok (.getfield 135, 3) := by decide +kernel
theorem dX5_floatsIn_46 : decode cX5_floatsIn 46 = .ok (.iload_n 1, 1) := by decide +kernel
theorem dX5_floatsIn_47 : decode cX5_floatsIn 47 = .ok (.invokestatic 116, 3) := by decide +kernel
theorem dX5_floatsIn_50 : decode cX5_floatsIn 50 = .ok (.istore_n 3, 1) := by decide +kernel
theorem dX5_floatsIn_51 : decode cX5_floatsIn 51 = .ok (.aload_n 0, 1) := by decide +kernel
theorem dX5_floatsIn_52 : decode cX5_floatsIn 52 = .ok (.getfield 10, 3) := by decide +kernel
theorem dX5_floatsIn_55 : decode cX5_floatsIn 55 = .ok (.invokevirtual 206, 3) := by decide +kernel
theorem dX5_floatsIn_58 : decode cX5_floatsIn 58 = .ok (.istore 4, 2) := by decide +kernel
theorem dX5_floatsIn_60 : decode cX5_floatsIn 60 = .ok (.iconst 0, 1) := by decide +kernel
theorem dX5_floatsIn_61 : decode cX5_floatsIn 61 = .ok (.istore 5, 2) := by decide +kernel
theorem dX5_floatsIn_63 : decode cX5_floatsIn 63 = .ok (.iload 5, 2) := by decide +kernel
theorem dX5_floatsIn_65 : decode cX5_floatsIn 65 = .ok (.iload 4, 2) := by decide +kernel
theorem dX5_floatsIn_67 : decode cX5_floatsIn 67 = .ok (.if_icmp .ge 34, 3) := by decide +kernel
theorem dX5_floatsIn_70 : decode cX5_floatsIn 70 = .ok (.aload_n 0, 1) := by decide +kernel
theorem dX5_floatsIn_71 : decode cX5_floatsIn 71 = .ok (.getfield 10, 3) := by decide +kernel
theorem dX5_floatsIn_74 : decode cX5_floatsIn 74 = .ok (.iload_n 2, 1) := by decide +kernel
theorem dX5_floatsIn_75 : decode cX5_floatsIn 75 = .ok (.iload_n 3, 1) := by decide +kernel
theorem dX5_floatsIn_76 : decode cX5_floatsIn 76 = .ok (.aload_n 0, 1) := by decide +kernel
theorem dX5_floatsIn_77 : decode cX5_floatsIn 77 = .ok (.getfield 10, 3) := by decide +kernel
theorem dX5_floatsIn_80 : decode cX5_floatsIn 80 = .ok (.getfield 102, 3) := by decide +kernel
theorem dX5_floatsIn_83 : decode cX5_floatsIn 83 = .ok (.iload 5, 2) := by decide +kernel
theorem dX5_floatsIn_85 : decode cX5_floatsIn 85 = .ok (.iadd, 1) := by decide +kernel
theorem dX5_floatsIn_86 : decode cX5_floatsIn 86 = .ok (.invokevirtual 213, 3) := by decide +kernel
theorem dX5_floatsIn_89 : decode cX5_floatsIn 89 = .ok (.ifCond .eq 6, 3) := by decide +kernel
theorem dX5_floatsIn_92 : decode cX5_floatsIn 92 = .ok (.iload 5, 2) := by decide +kernel
theorem dX5_floatsIn_94 : decode cX5_floatsIn 94 = .ok (.ireturn, 1) := by decide +kernel
theorem dX5_floatsIn_95 : decode cX5_floatsIn 95 = .ok (.iinc 5 1, 3) := by decide +kernel
theorem dX5_floatsIn_98 : decode cX5_floatsIn 98 = .ok (.goto (-35), 3) := by decide +kernel
theorem dX5_floatsIn_101 : decode cX5_floatsIn 101 = .ok (.bipush (-5), 2) := by decide +kernel
theorem dX5_floatsIn_103 : decode cX5_floatsIn 103 = .ok (.ireturn, 1) := by decide +kernel
theorem dX5_homeIn_0 : decode cX5_homeIn 0 = .ok (.aload_n 0, 1) := by decide +kernel
theorem dX5_homeIn_1 : decode cX5_homeIn 1 = .ok (.getfield 10, 3) := by decide +kernel
theorem dX5_homeIn_4 : decode cX5_homeIn 4 = .ok (.iload_n 1, 1) := by decide +kernel
theorem dX5_homeIn_5 : decode cX5_homeIn 5 = .ok (.invokevirtual 129, 3) := by decide +kernel
theorem dX5_homeIn_8 : decode cX5_homeIn 8 = .ok (.ifCond .ne 5, 3) := by decide +kernel
theorem dX5_homeIn_11 : decode cX5_homeIn 11 = .ok (.iconst (-1), 1) := by decide +kernel
theorem dX5_homeIn_12 : decode cX5_homeIn 12 = .ok (.ireturn, 1) := by decide +kernel
theorem dX5_homeIn_13 : decode cX5_homeIn 13 = .ok (.iload_n 2, 1) := by decide +kernel
theorem dX5_homeIn_14 : decode cX5_homeIn 14 = .ok (.ifCond .eq 11, 3) := by decide +kernel
theorem dX5_homeIn_17 : decode cX5_homeIn 17 = .ok (.iload_n 2, 1) := by decide +kernel
theorem dX5_homeIn_18 : decode cX5_homeIn 18 = .ok (.iconst 1, 1) := by decide +kernel
theorem dX5_homeIn_19 : decode cX5_homeIn 19 = .ok (.if_icmp .eq 6, 3) := by decide +kernel
theorem dX5_homeIn_22 : decode cX5_homeIn 22 = .ok (.bipush (-2), 2) := by decide +kernel
theorem dX5_homeIn_24 : decode cX5_homeIn 24 = .ok (.ireturn, 1) := by decide +kernel
theorem dX5_homeIn_25 : decode cX5_homeIn 25 = .ok (.aload_n 0, 1) := by decide +kernel
theorem dX5_homeIn_26 : decode cX5_homeIn 26 = .ok (.getfield 10, 3) := by decide +kernel
theorem dX5_homeIn_29 : decode cX5_homeIn 29 = .ok (.iload_n 1, 1) := by decide +kernel
theorem dX5_homeIn_30 : decode cX5_homeIn 30 = .ok (.invokevirtual 141, 3) := by decide +kernel
theorem dX5_homeIn_33 : decode cX5_homeIn 33 = .ok (.ifCond .ne 6, 3) := by decide +kernel
theorem dX5_homeIn_36 : decode cX5_homeIn 36 = .ok (.bipush (-4), 2) := by decide +kernel
theorem dX5_homeIn_38 : decode cX5_homeIn 38 = .ok (.ireturn, 1) := by decide +kernel
theorem dX5_homeIn_39 : decode cX5_homeIn 39 = .ok (.aload_n 0, 1) := by decide +kernel
theorem dX5_homeIn_40 : decode cX5_homeIn 40 = .ok (.getfield 31, 3) := by decide +kernel
theorem dX5_homeIn_43 : decode cX5_homeIn 43 = .ok (.iload_n 1, 1) := by decide +kernel
theorem dX5_homeIn_44 : decode cX5_homeIn 44 = .ok (.invokevirtual 217, 3) := by decide +kernel
theorem dX5_homeIn_47 : decode cX5_homeIn 47 = .ok (.aload_n 0, 1) := by decide +kernel
theorem dX5_homeIn_48 : decode cX5_homeIn 48 = .ok (.getfield 10, 3) := by decide +kernel
theorem dX5_homeIn_51 : decode cX5_homeIn 51 = .ok (.getfield 144, 3) := by decide +kernel
theorem dX5_homeIn_54 : decode cX5_homeIn 54 = .ok (.iload_n 1, 1) := by decide +kernel
theorem dX5_homeIn_55 : decode cX5_homeIn 55 = .ok (.invokestatic 116, 3) := by decide +kernel
theorem dX5_homeIn_58 : decode cX5_homeIn 58 = .ok (.istore_n 3, 1) := by decide +kernel
theorem dX5_homeIn_59 : decode cX5_homeIn 59 = .ok (.iload_n 2, 1) := by decide +kernel
theorem dX5_homeIn_60 : decode cX5_homeIn 60 = .ok (.ifCond .ne 21, 3) := by decide +kernel
theorem dX5_homeIn_63 : decode cX5_homeIn 63 = .ok (.aload_n 0, 1) := by decide +kernel
theorem dX5_homeIn_64 : decode cX5_homeIn 64 = .ok (.getfield 31, 3) := by decide +kernel
theorem dX5_homeIn_67 : decode cX5_homeIn 67 = .ok (.iload_n 3, 1) := by decide +kernel
theorem dX5_homeIn_68 : decode cX5_homeIn 68 = .ok (.aload_n 0, 1) := by decide +kernel
theorem dX5_homeIn_69 : decode cX5_homeIn 69 = .ok (.getfield 10, 3) := by decide +kernel
theorem dX5_homeIn_72 : decode cX5_homeIn 72 = .ok (.getfield 102, 3) := by decide +kernel
theorem dX5_homeIn_75 : decode cX5_homeIn 75 = .ok (.invokevirtual 221, 3) := by decide +kernel
theorem dX5_homeIn_78 : decode cX5_homeIn 78 = .ok (.goto 18, 3) := by decide +kernel
theorem dX5_homeIn_81 : decode cX5_homeIn 81 = .ok (.aload_n 0, 1) := by decide +kernel
theorem dX5_homeIn_82 : decode cX5_homeIn 82 = .ok (.getfield 31, 3) := by decide +kernel
theorem dX5_homeIn_85 : decode cX5_homeIn 85 = .ok (.iload_n 3, 1) := by decide +kernel
theorem dX5_homeIn_86 : decode cX5_homeIn 86 = .ok (.aload_n 0, 1) := by decide +kernel
theorem dX5_homeIn_87 : decode cX5_homeIn 87 = .ok (.getfield 10, 3) := by decide +kernel
theorem dX5_homeIn_90 : decode cX5_homeIn 90 = .ok (.getfield 102, 3) := by decide +kernel
theorem dX5_homeIn_93 : decode cX5_homeIn 93 = .ok (.invokevirtual 224, 3) := by decide +kernel
theorem dX5_homeIn_96 : decode cX5_homeIn 96 = .ok (.ireturn, 1) := by decide +kernel
theorem dX5_inDanger_0 : decode cX5_inDanger 0 = .ok (.iload_n 1, 1) := by decide +kernel
theorem dX5_inDanger_1 : decode cX5_inDanger 1 = .ok (.invokestatic 227, 3) := by decide +kernel
theorem dX5_inDanger_4 : decode cX5_inDanger 4 = .ok (.ifCond .ne 5, 3) := by decide +kernel
theorem dX5_inDanger_7 : decode cX5_inDanger 7 = .ok (.iconst (-1), 1) := by decide +kernel
theorem dX5_inDanger_8 : decode cX5_inDanger 8 = .ok (.ireturn, 1) := by decide +kernel
theorem dX5_inDanger_9 : decode cX5_inDanger 9 = .ok (.aload_n 0, 1) := by decide +kernel
theorem dX5_inDanger_10 : decode cX5_inDanger 10 = .ok (.getfield 10, 3) := by decide +kernel
theorem dX5_inDanger_13 : decode cX5_inDanger 13 = .ok (.invokevirtual 184, 3) := by decide +kernel
theorem dX5_inDanger_16 : decode cX5_inDanger 16 = .ok (.ifCond .eq 5, 3) := by decide +kernel
theorem dX5_inDanger_19 : decode cX5_inDanger 19 = .ok (.iconst 0, 1) := by decide +kernel
theorem dX5_inDanger_20 : decode cX5_inDanger 20 = .ok (.ireturn, 1) := by decide +kernel
theorem dX5_inDanger_21 : decode cX5_inDanger 21 = .ok (.iconst 0, 1) := by decide +kernel
theorem dX5_inDanger_22 : decode cX5_inDanger 22 = .ok (.istore_n 2, 1) := by decide +kernel
theorem dX5_inDanger_23 : decode cX5_inDanger 23 = .ok (.iconst 0, 1) := by decide +kernel
theorem dX5_inDanger_24 : decode cX5_inDanger 24 = .ok (.istore_n 3, 1) := by decide +kernel
theorem dX5_inDanger_25 : decode cX5_inDanger 25 = .ok (.iload_n 3, 1) := by decide +kernel
theorem dX5_inDanger_26 : decode cX5_inDanger 26 = .ok (.aload_n 0, 1) := by decide +kernel
theorem dX5_inDanger_27 : decode cX5_inDanger 27 = .ok (.getfield 10, 3) := by decide +kernel
theorem dX5_inDanger_30 : decode cX5_inDanger 30 = .ok (.getfield 172, 3) := by decide +kernel
theorem dX5_inDanger_33 : decode cX5_inDanger 33 = .ok (.if_icmp .ge 41, 3) := by decide +kernel
theorem dX5_inDanger_36 : decode cX5_inDanger 36 = .ok (.aload_n 0, 1) := by decide +kernel
theorem dX5_inDanger_37 : decode cX5_inDanger 37 = .ok (.getfield 10, 3) := by decide +kernel
theorem dX5_inDanger_40 : decode cX5_inDanger 40 = .ok (.getfield 132, 3) := by decide +kernel
theorem dX5_inDanger_43 : decode cX5_inDanger 43 = .ok (.iload_n 3, 1) := by decide +kernel
theorem dX5_inDanger_44 : decode cX5_inDanger 44 = .ok (.invokestatic 116, 3) := by decide +kernel
theorem dX5_inDanger_47 : decode cX5_inDanger 47 = .ok (.iload_n 1, 1) := by decide +kernel
theorem dX5_inDanger_48 : decode cX5_inDanger 48 = .ok (.if_icmp .ne 20, 3) := by decide +kernel
theorem dX5_inDanger_51 : decode cX5_inDanger 51 = .ok (.aload_n 0, 1) := by decide +kernel
theorem dX5_inDanger_52 : decode cX5_inDanger 52 = .ok (.getfield 10, 3) := by decide +kernel
theorem dX5_inDanger_55 : decode cX5_inDanger 55 = .ok (.iload_n 3, 1) := by decide +kernel
theorem dX5_inDanger_56 : decode cX5_inDanger 56 = .ok (.invokevirtual 230, 3) := by decide +kernel
theorem dX5_inDanger_59 : decode cX5_inDanger 59 = .ok (.ifCond .eq 9, 3) := by decide +kernel
theorem dX5_inDanger_62 : decode cX5_inDanger 62 = .ok (.iload_n 2, 1) := by decide +kernel
theorem dX5_inDanger_63 : decode cX5_inDanger 63 = .ok (.iconst 1, 1) := by decide +kernel
theorem dX5_inDanger_64 : decode cX5_inDanger 64 = .ok (.iload_n 3, 1) := by decide +kernel
theorem dX5_inDanger_65 : decode cX5_inDanger 65 = .ok (.ishl, 1) := by decide +kernel
theorem dX5_inDanger_66 : decode cX5_inDanger 66 = .ok (.ior, 1) := by decide +kernel
theorem dX5_inDanger_67 : decode cX5_inDanger 67 = .ok (.istore_n 2, 1) := by decide +kernel
theorem dX5_inDanger_68 : decode cX5_inDanger 68 = .ok (.iinc 3 1, 3) := by decide +kernel
theorem dX5_inDanger_71 : decode cX5_inDanger 71 = .ok (.goto (-46), 3) := by decide +kernel
theorem dX5_inDanger_74 : decode cX5_inDanger 74 = .ok (.iload_n 2, 1) := by decide +kernel
theorem dX5_inDanger_75 : decode cX5_inDanger 75 = .ok (.ireturn, 1) := by decide +kernel
theorem dX5_best_0 : decode cX5_best 0 = .ok (.aload_n 0, 1) := by decide +kernel
theorem dX5_best_1 : decode cX5_best 1 = .ok (.getfield 10, 3) := by decide +kernel
theorem dX5_best_4 : decode cX5_best 4 = .ok (.invokevirtual 184, 3) := by decide +kernel
theorem dX5_best_7 : decode cX5_best 7 = .ok (.ifCond .eq 6, 3) := by decide +kernel
theorem dX5_best_10 : decode cX5_best 10 = .ok (.bipush (-4), 2) := by decide +kernel
theorem dX5_best_12 : decode cX5_best 12 = .ok (.ireturn, 1) := by decide +kernel
theorem dX5_best_13 : decode cX5_best 13 = .ok (.bipush (-5), 2) := by decide +kernel
theorem dX5_best_15 : decode cX5_best 15 = .ok (.istore_n 1, 1) := by decide +kernel
theorem dX5_best_16 : decode cX5_best 16 = .ok (.iconst 0, 1) := by decide +kernel
theorem dX5_best_17 : decode cX5_best 17 = .ok (.istore_n 2, 1) := by decide +kernel
theorem dX5_best_18 : decode cX5_best 18 = .ok (.iconst 0, 1) := by decide +kernel
theorem dX5_best_19 : decode cX5_best 19 = .ok (.istore_n 3, 1) := by decide +kernel
theorem dX5_best_20 : decode cX5_best 20 = .ok (.iload_n 3, 1) := by decide +kernel
theorem dX5_best_21 : decode cX5_best 21 = .ok (.aload_n 0, 1) := by decide +kernel
theorem dX5_best_22 : decode cX5_best 22 = .ok (.getfield 10, 3) := by decide +kernel
theorem dX5_best_25 : decode cX5_best 25 = .ok (.getfield 172, 3) := by decide +kernel
theorem dX5_best_28 : decode cX5_best 28 = .ok (.if_icmp .ge 73, 3) := by decide +kernel
theorem dX5_best_31 : decode cX5_best 31 = .ok (.iconst 0, 1) := by decide +kernel
theorem dX5_best_32 : decode cX5_best 32 = .ok (.istore 4, 2) := by decide +kernel
theorem dX5_best_34 : decode cX5_best 34 = .ok (.iload 4, 2) := by decide +kernel
theorem dX5_best_36 : decode cX5_best 36 = .ok (.iconst 4, 1) := by decide +kernel
theorem dX5_best_37 : decode cX5_best 37 = .ok (.if_icmp .ge 58, 3) := by decide +kernel
theorem dX5_best_40 : decode cX5_best 40 = .ok (.iconst 1, 1) := by decide +kernel
theorem dX5_best_41 : decode cX5_best 41 = .ok (.istore 5, 2) := by decide +kernel
theorem dX5_best_43 : decode cX5_best 43 = .ok (.iload 5, 2) := by decide +kernel
theorem dX5_best_45 : decode cX5_best 45 = .ok (.iconst 3, 1) := by decide +kernel
theorem dX5_best_46 : decode cX5_best 46 = .ok (.if_icmp .gt 43, 3) := by decide +kernel
theorem dX5_best_49 : decode cX5_best 49 = .ok (.aload_n 0, 1) := by decide +kernel
theorem dX5_best_50 : decode cX5_best 50 = .ok (.iload_n 3, 1) := by decide +kernel
theorem dX5_best_51 : decode cX5_best 51 = .ok (.iload 4, 2) := by decide +kernel
theorem dX5_best_53 : decode cX5_best 53 = .ok (.iload 5, 2) := by decide +kernel
theorem dX5_best_55 : decode cX5_best 55 = .ok (.invokevirtual 233, 3) := by decide +kernel
theorem dX5_best_58 : decode cX5_best 58 = .ok (.istore 6, 2) := by decide +kernel
theorem dX5_best_60 : decode cX5_best 60 = .ok (.iload 6, 2) := by decide +kernel
theorem dX5_best_62 : decode cX5_best 62 = .ok (.iload_n 2, 1) := by decide +kernel
theorem dX5_best_63 : decode cX5_best 63 = .ok (.if_icmp .le 20, 3) := by decide +kernel
theorem dX5_best_66 : decode cX5_best 66 = .ok (.iload 6, 2) := by decide +kernel
theorem dX5_best_68 : decode cX5_best 68 = .ok (.istore_n 2, 1) := by decide +kernel
theorem dX5_best_69 : decode cX5_best 69 = .ok (.bipush 100, 2) := by decide +kernel
theorem dX5_best_71 : decode cX5_best 71 = .ok (.iload_n 3, 1) := by decide +kernel
theorem dX5_best_72 : decode cX5_best 72 = .ok (.imul, 1) := by decide +kernel
theorem dX5_best_73 : decode cX5_best 73 = .ok (.bipush 10, 2) := by decide +kernel
theorem dX5_best_75 : decode cX5_best 75 = .ok (.iload 4, 2) := by decide +kernel
theorem dX5_best_77 : decode cX5_best 77 = .ok (.imul, 1) := by decide +kernel
theorem dX5_best_78 : decode cX5_best 78 = .ok (.iadd, 1) := by decide +kernel
theorem dX5_best_79 : decode cX5_best 79 = .ok (.iload 5, 2) := by decide +kernel
theorem dX5_best_81 : decode cX5_best 81 = .ok (.iadd, 1) := by decide +kernel
theorem dX5_best_82 : decode cX5_best 82 = .ok (.istore_n 1, 1) := by decide +kernel
theorem dX5_best_83 : decode cX5_best 83 = .ok (.iinc 5 1, 3) := by decide +kernel
theorem dX5_best_86 : decode cX5_best 86 = .ok (.goto (-43), 3) := by decide +kernel
theorem dX5_best_89 : decode cX5_best 89 = .ok (.iinc 4 1, 3) := by decide +kernel
theorem dX5_best_92 : decode cX5_best 92 = .ok (.goto (-58), 3) := by decide +kernel
theorem dX5_best_95 : decode cX5_best 95 = .ok (.iinc 3 1, 3) := by decide +kernel
theorem dX5_best_98 : decode cX5_best 98 = .ok (.goto (-78), 3) := by decide +kernel
theorem dX5_best_101 : decode cX5_best 101 = .ok (.iload_n 1, 1) := by decide +kernel
theorem dX5_best_102 : decode cX5_best 102 = .ok (.ireturn, 1) := by decide +kernel
theorem dX5_recorded_0 : decode cX5_recorded 0 = .ok (.iload_n 1, 1) := by decide +kernel
theorem dX5_recorded_1 : decode cX5_recorded 1 = .ok (.ifCond .lt 14, 3) := by decide +kernel
theorem dX5_recorded_4 : decode cX5_recorded 4 = .ok (.aload_n 0, 1) := by decide +kernel
theorem dX5_recorded_5 : decode cX5_recorded 5 = .ok (.getfield 38, 3) := by decide +kernel
theorem dX5_recorded_8 : decode cX5_recorded 8 = .ok (.aload_n 0, 1) := by decide +kernel
theorem dX5_recorded_9 : decode cX5_recorded 9 = .ok (.getfield 16, 3) := by decide +kernel
theorem dX5_recorded_12 : decode cX5_recorded 12 = .ok (.invokevirtual 236, 3) := by decide +kernel
theorem dX5_recorded_15 : decode cX5_recorded 15 = .ok (.iload_n 1, 1) := by decide +kernel
theorem dX5_recorded_16 : decode cX5_recorded 16 = .ok (.ireturn, 1) := by decide +kernel
theorem dX5_doOrder_0 : decode cX5_doOrder 0 = .ok (.aload_n 0, 1) := by decide +kernel
theorem dX5_doOrder_1 : decode cX5_doOrder 1 = .ok (.getfield 45, 3) := by decide +kernel
theorem dX5_doOrder_4 : decode cX5_doOrder 4 = .ok (.iload_n 1, 1) := by decide +kernel
theorem dX5_doOrder_5 : decode cX5_doOrder 5 = .ok (.invokevirtual 239, 3) := by decide +kernel
theorem dX5_doOrder_8 : decode cX5_doOrder 8 = .ok (.istore_n 2, 1) := by decide +kernel
theorem dX5_doOrder_9 : decode cX5_doOrder 9 = .ok (.iload_n 2, 1) := by decide +kernel
theorem dX5_doOrder_10 : decode cX5_doOrder 10 = .ok (.invokestatic 243, 3) := by decide +kernel
theorem dX5_doOrder_13 : decode cX5_doOrder 13 = .ok (.ifCond .eq 39, 3) := by decide +kernel
theorem dX5_doOrder_16 : decode cX5_doOrder 16 = .ok (.aload_n 0, 1) := by decide +kernel
theorem dX5_doOrder_17 : decode cX5_doOrder 17 = .ok (.getfield 24, 3) := by decide +kernel
theorem dX5_doOrder_20 : decode cX5_doOrder 20 = .ok (.aload_n 0, 1) := by decide +kernel
theorem dX5_doOrder_21 : decode cX5_doOrder 21 = .ok (.getfield 45, 3) := by decide +kernel
theorem dX5_doOrder_24 : decode cX5_doOrder 24 = .ok (.iload_n 1, 1) := by decide +kernel
theorem dX5_doOrder_25 : decode cX5_doOrder 25 = .ok (.invokevirtual 247, 3) := by decide +kernel
theorem dX5_doOrder_28 : decode cX5_doOrder 28 = .ok (.aload_n 0, 1) := by decide +kernel
theorem dX5_doOrder_29 : decode cX5_doOrder 29 = .ok (.getfield 45, 3) := by decide +kernel
theorem dX5_doOrder_32 : decode cX5_doOrder 32 = .ok (.iload_n 1, 1) := by decide +kernel
theorem dX5_doOrder_33 : decode cX5_doOrder 33 = .ok (.iconst 3, 1) := by decide +kernel
theorem dX5_doOrder_34 : decode cX5_doOrder 34 = .ok (.iadd, 1) := by decide +kernel
theorem dX5_doOrder_35 : decode cX5_doOrder 35 = .ok (.invokevirtual 250, 3) := by decide +kernel
theorem dX5_doOrder_38 : decode cX5_doOrder 38 = .ok (.aload_n 0, 1) := by decide +kernel
theorem dX5_doOrder_39 : decode cX5_doOrder 39 = .ok (.getfield 45, 3) := by decide +kernel
theorem dX5_doOrder_42 : decode cX5_doOrder 42 = .ok (.iload_n 1, 1) := by decide +kernel
theorem dX5_doOrder_43 : decode cX5_doOrder 43 = .ok (.iconst 4, 1) := by decide +kernel
theorem dX5_doOrder_44 : decode cX5_doOrder 44 = .ok (.iadd, 1) := by decide +kernel
theorem dX5_doOrder_45 : decode cX5_doOrder 45 = .ok (.invokevirtual 253, 3) := by decide +kernel
theorem dX5_doOrder_48 : decode cX5_doOrder 48 = .ok (.invokevirtual 52, 3) := by decide +kernel
theorem dX5_doOrder_51 : decode cX5_doOrder 51 = .ok (.ireturn, 1) := by decide +kernel
theorem dX5_doOrder_52 : decode cX5_doOrder 52 = .ok (.iload_n 2, 1) := by decide +kernel
theorem dX5_doOrder_53 : decode cX5_doOrder 53 = .ok (.bipush 43, 2) := by decide +kernel
theorem dX5_doOrder_55 : decode cX5_doOrder 55 = .ok (.if_icmp .ne 41, 3) := by decide +kernel
theorem dX5_doOrder_58 : decode cX5_doOrder 58 = .ok (.aload_n 0, 1) := by decide +kernel
theorem dX5_doOrder_59 : decode cX5_doOrder 59 = .ok (.getfield 24, 3) := by decide +kernel
theorem dX5_doOrder_62 : decode cX5_doOrder 62 = .ok (.aload_n 0, 1) := by decide +kernel
theorem dX5_doOrder_63 : decode cX5_doOrder 63 = .ok (.getfield 45, 3) := by decide +kernel
theorem dX5_doOrder_66 : decode cX5_doOrder 66 = .ok (.iload_n 1, 1) := by decide +kernel
theorem dX5_doOrder_67 : decode cX5_doOrder 67 = .ok (.iconst 1, 1) := by decide +kernel
theorem dX5_doOrder_68 : decode cX5_doOrder 68 = .ok (.iadd, 1) := by decide +kernel
theorem dX5_doOrder_69 : decode cX5_doOrder 69 = .ok (.invokevirtual 256, 3) := by decide +kernel
theorem dX5_doOrder_72 : decode cX5_doOrder 72 = .ok (.aload_n 0, 1) := by decide +kernel
theorem dX5_doOrder_73 : decode cX5_doOrder 73 = .ok (.getfield 45, 3) := by decide +kernel
theorem dX5_doOrder_76 : decode cX5_doOrder 76 = .ok (.iload_n 1, 1) := by decide +kernel
theorem dX5_doOrder_77 : decode cX5_doOrder 77 = .ok (.iconst 2, 1) := by decide +kernel
theorem dX5_doOrder_78 : decode cX5_doOrder 78 = .ok (.iadd, 1) := by decide +kernel
theorem dX5_doOrder_79 : decode cX5_doOrder 79 = .ok (.invokevirtual 259, 3) := by decide +kernel
theorem dX5_doOrder_82 : decode cX5_doOrder 82 = .ok (.aload_n 0, 1) := by decide +kernel
theorem dX5_doOrder_83 : decode cX5_doOrder 83 = .ok (.getfield 45, 3) := by decide +kernel
theorem dX5_doOrder_86 : decode cX5_doOrder 86 = .ok (.iload_n 1, 1) := by decide +kernel
theorem dX5_doOrder_87 : decode cX5_doOrder 87 = .ok (.iconst 3, 1) := by decide +kernel
theorem dX5_doOrder_88 : decode cX5_doOrder 88 = .ok (.iadd, 1) := by decide +kernel
theorem dX5_doOrder_89 : decode cX5_doOrder 89 = .ok (.invokevirtual 247, 3) := by decide +kernel
theorem dX5_doOrder_92 : decode cX5_doOrder 92 = .ok (.invokevirtual 60, 3) := by decide +kernel
theorem dX5_doOrder_95 : decode cX5_doOrder 95 = .ok (.ireturn, 1) := by decide +kernel
theorem dX5_doOrder_96 : decode cX5_doOrder 96 = .ok (.iload_n 2, 1) := by decide +kernel
theorem dX5_doOrder_97 : decode cX5_doOrder 97 = .ok (.bipush 119, 2) := by decide +kernel
theorem dX5_doOrder_99 : decode cX5_doOrder 99 = .ok (.if_icmp .ne 11, 3) := by decide +kernel
theorem dX5_doOrder_102 : decode cX5_doOrder 102 = .ok (.aload_n 0, 1) := by decide +kernel
theorem dX5_doOrder_103 : decode cX5_doOrder 103 = .ok (.getfield 24, 3) := by decide +kernel
theorem dX5_doOrder_106 : decode cX5_doOrder 106 = .ok (.invokevirtual 71, 3) := by decide +kernel
theorem dX5_doOrder_109 : decode cX5_doOrder 109 = .ok (.ireturn, 1) := by decide +kernel
theorem dX5_doOrder_110 : decode cX5_doOrder 110 = .ok (.aload_n 0, 1) := by decide +kernel
theorem dX5_doOrder_111 : decode cX5_doOrder 111 = .ok (.getfield 24, 3) := by decide +kernel
theorem dX5_doOrder_114 : decode cX5_doOrder 114 = .ok (.aload_n 0, 1) := by decide +kernel
theorem dX5_doOrder_115 : decode cX5_doOrder 115 = .ok (.getfield 45, 3) := by decide +kernel
theorem dX5_doOrder_118 : decode cX5_doOrder 118 = .ok (.iload_n 1, 1) := by decide +kernel
theorem dX5_doOrder_119 : decode cX5_doOrder 119 = .ok (.invokevirtual 262, 3) := by decide +kernel
theorem dX5_doOrder_122 : decode cX5_doOrder 122 = .ok (.aload_n 0, 1) := by decide +kernel
theorem dX5_doOrder_123 : decode cX5_doOrder 123 = .ok (.getfield 45, 3) := by decide +kernel
theorem dX5_doOrder_126 : decode cX5_doOrder 126 = .ok (.iload_n 1, 1) := by decide +kernel
theorem dX5_doOrder_127 : decode cX5_doOrder 127 = .ok (.iconst 1, 1) := by decide +kernel
theorem dX5_doOrder_128 : decode cX5_doOrder 128 = .ok (.iadd, 1) := by decide +kernel
theorem dX5_doOrder_129 : decode cX5_doOrder 129 = .ok (.invokevirtual 263, 3) := by decide +kernel
theorem dX5_doOrder_132 : decode cX5_doOrder 132 = .ok (.aload_n 0, 1) := by decide +kernel
theorem dX5_doOrder_133 : decode cX5_doOrder 133 = .ok (.getfield 45, 3) := by decide +kernel
theorem dX5_doOrder_136 : decode cX5_doOrder 136 = .ok (.iload_n 1, 1) := by decide +kernel
theorem dX5_doOrder_137 : decode cX5_doOrder 137 = .ok (.iconst 2, 1) := by decide +kernel
theorem dX5_doOrder_138 : decode cX5_doOrder 138 = .ok (.iadd, 1) := by decide +kernel
theorem dX5_doOrder_139 : decode cX5_doOrder 139 = .ok (.invokevirtual 266, 3) := by decide +kernel
theorem dX5_doOrder_142 : decode cX5_doOrder 142 = .ok (.invokevirtual 68, 3) := by decide +kernel
theorem dX5_doOrder_145 : decode cX5_doOrder 145 = .ok (.ireturn, 1) := by decide +kernel
theorem dX5_movesOfMover_0 : decode cX5_movesOfMover 0 = .ok (.iconst 0, 1) := by decide +kernel
theorem dX5_movesOfMover_1 : decode cX5_movesOfMover 1 = .ok (.istore_n 1, 1) := by decide +kernel
theorem dX5_movesOfMover_2 : decode cX5_movesOfMover 2 = .ok (.iconst 0, 1) := by decide +kernel
theorem dX5_movesOfMover_3 : decode cX5_movesOfMover 3 = .ok (.istore_n 2, 1) := by decide +kernel
theorem dX5_movesOfMover_4 : decode cX5_movesOfMover 4 = .ok (.iload_n 2, 1) := by decide +kernel
theorem dX5_movesOfMover_5 : decode cX5_movesOfMover 5 = .ok (.aload_n 0, 1) := by decide +kernel
theorem dX5_movesOfMover_6 : decode cX5_movesOfMover 6 = .ok (.getfield 10, 3) := by decide +kernel
theorem dX5_movesOfMover_9 : decode cX5_movesOfMover 9 = .ok (.getfield 172, 3) := by decide +kernel
theorem dX5_movesOfMover_12 : decode cX5_movesOfMover 12 = .ok (.if_icmp .ge 41, 3) := by decide +kernel
theorem dX5_movesOfMover_15 : decode cX5_movesOfMover 15 = .ok (.aload_n 0, 1) := by decide +kernel
theorem dX5_movesOfMover_16 : decode cX5_movesOfMover 16 = .ok (.getfield 10, 3) := by decide +kernel
theorem dX5_movesOfMover_19 : decode cX5_movesOfMover 19 = .ok (.getfield 132, 3) := by decide +kernel
theorem dX5_movesOfMover_22 : decode cX5_movesOfMover 22 = .ok (.iload_n 2, 1) := by decide +kernel
theorem dX5_movesOfMover_23 : decode cX5_movesOfMover 23 = .ok (.invokestatic 116, 3) := by decide +kernel
theorem dX5_movesOfMover_26 : decode cX5_movesOfMover 26 = .ok (.aload_n 0, 1) := by decide +kernel
theorem dX5_movesOfMover_27 : decode cX5_movesOfMover 27 = .ok (.getfield 10, 3) := by decide +kernel
theorem dX5_movesOfMover_30 : decode cX5_movesOfMover 30 = .ok (.invokevirtual 166, 3) := by decide +kernel
theorem dX5_movesOfMover_33 : decode cX5_movesOfMover 33 = .ok (.if_icmp .ne 14, 3) := by decide +kernel
theorem dX5_movesOfMover_36 : decode cX5_movesOfMover 36 = .ok (.iload_n 1, 1) := by decide +kernel
theorem dX5_movesOfMover_37 : decode cX5_movesOfMover 37 = .ok (.aload_n 0, 1) := by decide +kernel
theorem dX5_movesOfMover_38 : decode cX5_movesOfMover 38 = .ok (.getfield 24, 3) := by decide +kernel
theorem dX5_movesOfMover_41 : decode cX5_movesOfMover 41 = .ok (.iload_n 2, 1) := by decide +kernel
theorem dX5_movesOfMover_42 : decode cX5_movesOfMover 42 = .ok (.invokevirtual 153, 3) := by decide +kernel
theorem dX5_movesOfMover_45 : decode cX5_movesOfMover 45 = .ok (.iadd, 1) := by decide +kernel
theorem dX5_movesOfMover_46 : decode cX5_movesOfMover 46 = .ok (.istore_n 1, 1) := by decide +kernel
theorem dX5_movesOfMover_47 : decode cX5_movesOfMover 47 = .ok (.iinc 2 1, 3) := by decide +kernel
theorem dX5_movesOfMover_50 : decode cX5_movesOfMover 50 = .ok (.goto (-46), 3) := by decide +kernel
theorem dX5_movesOfMover_53 : decode cX5_movesOfMover 53 = .ok (.iload_n 1, 1) := by decide +kernel
theorem dX5_movesOfMover_54 : decode cX5_movesOfMover 54 = .ok (.ireturn, 1) := by decide +kernel
theorem dX5_worthOf_0 : decode cX5_worthOf 0 = .ok (.aload_n 0, 1) := by decide +kernel
theorem dX5_worthOf_1 : decode cX5_worthOf 1 = .ok (.getfield 24, 3) := by decide +kernel
theorem dX5_worthOf_4 : decode cX5_worthOf 4 = .ok (.iload_n 1, 1) := by decide +kernel
theorem dX5_worthOf_5 : decode cX5_worthOf 5 = .ok (.iload_n 2, 1) := by decide +kernel
theorem dX5_worthOf_6 : decode cX5_worthOf 6 = .ok (.iload_n 3, 1) := by decide +kernel
theorem dX5_worthOf_7 : decode cX5_worthOf 7 = .ok (.iconst 0, 1) := by decide +kernel
theorem dX5_worthOf_8 : decode cX5_worthOf 8 = .ok (.invokevirtual 162, 3) := by decide +kernel
theorem dX5_worthOf_11 : decode cX5_worthOf 11 = .ok (.ifCond .eq 5, 3) := by decide +kernel
theorem dX5_worthOf_14 : decode cX5_worthOf 14 = .ok (.iconst 0, 1) := by decide +kernel
theorem dX5_worthOf_15 : decode cX5_worthOf 15 = .ok (.ireturn, 1) := by decide +kernel
theorem dX5_worthOf_16 : decode cX5_worthOf 16 = .ok (.aload_n 0, 1) := by decide +kernel
theorem dX5_worthOf_17 : decode cX5_worthOf 17 = .ok (.getfield 10, 3) := by decide +kernel
theorem dX5_worthOf_20 : decode cX5_worthOf 20 = .ok (.getfield 144, 3) := by decide +kernel
theorem dX5_worthOf_23 : decode cX5_worthOf 23 = .ok (.iload_n 1, 1) := by decide +kernel
theorem dX5_worthOf_24 : decode cX5_worthOf 24 = .ok (.invokestatic 116, 3) := by decide +kernel
theorem dX5_worthOf_27 : decode cX5_worthOf 27 = .ok (.iload_n 2, 1) := by decide +kernel
theorem dX5_worthOf_28 : decode cX5_worthOf 28 = .ok (.iload_n 3, 1) := by decide +kernel
theorem dX5_worthOf_29 : decode cX5_worthOf 29 = .ok (.invokestatic 269, 3) := by decide +kernel
theorem dX5_worthOf_32 : decode cX5_worthOf 32 = .ok (.istore 4, 2) := by decide +kernel
theorem dX5_worthOf_34 : decode cX5_worthOf 34 = .ok (.iload 4, 2) := by decide +kernel
theorem dX5_worthOf_36 : decode cX5_worthOf 36 = .ok (.aload_n 0, 1) := by decide +kernel
theorem dX5_worthOf_37 : decode cX5_worthOf 37 = .ok (.getfield 10, 3) := by decide +kernel
theorem dX5_worthOf_40 : decode cX5_worthOf 40 = .ok (.getfield 132, 3) := by decide +kernel
theorem dX5_worthOf_43 : decode cX5_worthOf 43 = .ok (.iload_n 1, 1) := by decide +kernel
theorem dX5_worthOf_44 : decode cX5_worthOf 44 = .ok (.invokestatic 116, 3) := by decide +kernel
theorem dX5_worthOf_47 : decode cX5_worthOf 47 = .ok (.invokestatic 272, 3) := by decide +kernel
theorem dX5_worthOf_50 : decode cX5_worthOf 50 = .ok (.if_icmp .ne 19, 3) := by decide +kernel
theorem dX5_worthOf_53 : decode cX5_worthOf 53 = .ok (.sipush 3000, 3) := by decide +kernel
theorem dX5_worthOf_56 : decode cX5_worthOf 56 = .ok (.aload_n 0, 1) := by decide +kernel
theorem dX5_worthOf_57 : decode cX5_worthOf 57 = .ok (.getfield 10, 3) := by decide +kernel
theorem dX5_worthOf_60 : decode cX5_worthOf 60 = .ok (.getfield 135, 3) := by decide +kernel
theorem dX5_worthOf_63 : decode cX5_worthOf 63 = .ok (.iload_n 1, 1) := by decide +kernel
theorem dX5_worthOf_64 : decode cX5_worthOf 64 = .ok (.invokestatic 116, 3) := by decide +kernel
theorem dX5_worthOf_67 : decode cX5_worthOf 67 = .ok (.iadd, 1) := by decide +kernel
theorem dX5_worthOf_68 : decode cX5_worthOf 68 = .ok (.ireturn, 1) := by decide +kernel
theorem dX5_worthOf_69 : decode cX5_worthOf 69 = .ok (.aload_n 0, 1) := by decide +kernel
theorem dX5_worthOf_70 : decode cX5_worthOf 70 = .ok (.getfield 10, 3) := by decide +kernel
theorem dX5_worthOf_73 : decode cX5_worthOf 73 = .ok (.iload 4, 2) := by decide +kernel
theorem dX5_worthOf_75 : decode cX5_worthOf 75 = .ok (.invokevirtual 126, 3) := by decide +kernel
theorem dX5_worthOf_78 : decode cX5_worthOf 78 = .ok (.istore 5, 2) := by decide +kernel
theorem dX5_worthOf_80 : decode cX5_worthOf 80 = .ok (.iload 5, 2) := by decide +kernel
theorem dX5_worthOf_82 : decode cX5_worthOf 82 = .ok (.bipush (-5), 2) := by decide +kernel
theorem dX5_worthOf_84 : decode cX5_worthOf 84 = .ok (.if_icmp .eq 20, 3) := by decide +kernel
theorem dX5_worthOf_87 : decode cX5_worthOf 87 = .ok (.sipush 2000, 3) := by decide +kernel
theorem dX5_worthOf_90 : decode cX5_worthOf 90 = .ok (.aload_n 0, 1) := by decide +kernel
theorem dX5_worthOf_91 : decode cX5_worthOf 91 = .ok (.getfield 10, 3) := by decide +kernel
theorem dX5_worthOf_94 : decode cX5_worthOf 94 = .ok (.getfield 135, 3) := by decide +kernel
theorem dX5_worthOf_97 : decode cX5_worthOf 97 = .ok (.iload 5, 2) := by decide +kernel
theorem dX5_worthOf_99 : decode cX5_worthOf 99 = .ok (.invokestatic 116, 3) := by decide +kernel
theorem dX5_worthOf_102 : decode cX5_worthOf 102 = .ok (.iadd, 1) := by decide +kernel
theorem dX5_worthOf_103 : decode cX5_worthOf 103 = .ok (.ireturn, 1) := by decide +kernel
theorem dX5_worthOf_104 : decode cX5_worthOf 104 = .ok (.aload_n 0, 1) := by decide +kernel
theorem dX5_worthOf_105 : decode cX5_worthOf 105 = .ok (.getfield 31, 3) := by decide +kernel
theorem dX5_worthOf_108 : decode cX5_worthOf 108 = .ok (.iload_n 1, 1) := by decide +kernel
theorem dX5_worthOf_109 : decode cX5_worthOf 109 = .ok (.invokevirtual 217, 3) := by decide +kernel
theorem dX5_worthOf_112 : decode cX5_worthOf 112 = .ok (.aload_n 0, 1) := by decide +kernel
theorem dX5_worthOf_113 : decode cX5_worthOf 113 = .ok (.getfield 31, 3) := by decide +kernel
theorem dX5_worthOf_116 : decode cX5_worthOf 116 = .ok (.iload 4, 2) := by decide +kernel
theorem dX5_worthOf_118 : decode cX5_worthOf 118 = .ok (.aload_n 0, 1) := by decide +kernel
theorem dX5_worthOf_119 : decode cX5_worthOf 119 = .ok (.getfield 10, 3) := by decide +kernel
theorem dX5_worthOf_122 : decode cX5_worthOf 122 = .ok (.getfield 102, 3) := by decide +kernel
theorem dX5_worthOf_125 : decode cX5_worthOf 125 = .ok (.invokevirtual 275, 3) := by decide +kernel
theorem dX5_worthOf_128 : decode cX5_worthOf 128 = .ok (.istore 6, 2) := by decide +kernel
theorem dX5_worthOf_130 : decode cX5_worthOf 130 = .ok (.iload 6, 2) := by decide +kernel
theorem dX5_worthOf_132 : decode cX5_worthOf 132 = .ok (.bipush (-5), 2) := by decide +kernel
theorem dX5_worthOf_134 : decode cX5_worthOf 134 = .ok (.if_icmp .ne 7, 3) := by decide +kernel
theorem dX5_worthOf_137 : decode cX5_worthOf 137 = .ok (.iconst 0, 1) := by decide +kernel
theorem dX5_worthOf_138 : decode cX5_worthOf 138 = .ok (.goto 9, 3) := by decide +kernel
theorem dX5_worthOf_141 : decode cX5_worthOf 141 = .ok (.sipush 1000, 3) := by decide +kernel
theorem dX5_worthOf_144 : decode cX5_worthOf 144 = .ok (.iload 6, 2) := by decide +kernel
theorem dX5_worthOf_146 : decode cX5_worthOf 146 = .ok (.isub, 1) := by decide +kernel
theorem dX5_worthOf_147 : decode cX5_worthOf 147 = .ok (.ireturn, 1) := by decide +kernel
theorem dX5_isCell_0 : decode cX5_isCell 0 = .ok (.iload_n 0, 1) := by decide +kernel
theorem dX5_isCell_1 : decode cX5_isCell 1 = .ok (.ifCond .lt 13, 3) := by decide +kernel
theorem dX5_isCell_4 : decode cX5_isCell 4 = .ok (.iload_n 0, 1) := by decide +kernel
theorem dX5_isCell_5 : decode cX5_isCell 5 = .ok (.bipush 36, 2) := by decide +kernel
theorem dX5_isCell_7 : decode cX5_isCell 7 = .ok (.if_icmp .ge 7, 3) := by decide +kernel
theorem dX5_isCell_10 : decode cX5_isCell 10 = .ok (.iconst 1, 1) := by decide +kernel
theorem dX5_isCell_11 : decode cX5_isCell 11 = .ok (.goto 4, 3) := by decide +kernel
theorem dX5_isCell_14 : decode cX5_isCell 14 = .ok (.iconst 0, 1) := by decide +kernel
theorem dX5_isCell_15 : decode cX5_isCell 15 = .ok (.ireturn, 1) := by decide +kernel
theorem dX5_isPlayer_0 : decode cX5_isPlayer 0 = .ok (.iload_n 0, 1) := by decide +kernel
theorem dX5_isPlayer_1 : decode cX5_isPlayer 1 = .ok (.ifCond .eq 8, 3) := by decide +kernel
theorem dX5_isPlayer_4 : decode cX5_isPlayer 4 = .ok (.iload_n 0, 1) := by decide +kernel
theorem dX5_isPlayer_5 : decode cX5_isPlayer 5 = .ok (.iconst 1, 1) := by decide +kernel
theorem dX5_isPlayer_6 : decode cX5_isPlayer 6 = .ok (.if_icmp .ne 7, 3) := by decide +kernel
theorem dX5_isPlayer_9 : decode cX5_isPlayer 9 = .ok (.iconst 1, 1) := by decide +kernel
theorem dX5_isPlayer_10 : decode cX5_isPlayer 10 = .ok (.goto 4, 3) := by decide +kernel
theorem dX5_isPlayer_13 : decode cX5_isPlayer 13 = .ok (.iconst 0, 1) := by decide +kernel
theorem dX5_isPlayer_14 : decode cX5_isPlayer 14 = .ok (.ireturn, 1) := by decide +kernel
theorem dX5_isDraft_0 : decode cX5_isDraft 0 = .ok (.iload_n 0, 1) := by decide +kernel
theorem dX5_isDraft_1 : decode cX5_isDraft 1 = .ok (.iconst 1, 1) := by decide +kernel
theorem dX5_isDraft_2 : decode cX5_isDraft 2 = .ok (.if_icmp .lt 12, 3) := by decide +kernel
theorem dX5_isDraft_5 : decode cX5_isDraft 5 = .ok (.iload_n 0, 1) := by decide +kernel
theorem dX5_isDraft_6 : decode cX5_isDraft 6 = .ok (.iconst 3, 1) := by decide +kernel
theorem dX5_isDraft_7 : decode cX5_isDraft 7 = .ok (.if_icmp .gt 7, 3) := by decide +kernel
theorem dX5_isDraft_10 : decode cX5_isDraft 10 = .ok (.iconst 1, 1) := by decide +kernel
theorem dX5_isDraft_11 : decode cX5_isDraft 11 = .ok (.goto 4, 3) := by decide +kernel
theorem dX5_isDraft_14 : decode cX5_isDraft 14 = .ok (.iconst 0, 1) := by decide +kernel
theorem dX5_isDraft_15 : decode cX5_isDraft 15 = .ok (.ireturn, 1) := by decide +kernel
theorem dX5_isHarbour_0 : decode cX5_isHarbour 0 = .ok (.iload_n 0, 1) := by decide +kernel
theorem dX5_isHarbour_1 : decode cX5_isHarbour 1 = .ok (.bipush 35, 2) := by decide +kernel
theorem dX5_isHarbour_3 : decode cX5_isHarbour 3 = .ok (.if_icmp .eq 7, 3) := by decide +kernel
theorem dX5_isHarbour_6 : decode cX5_isHarbour 6 = .ok (.iload_n 0, 1) := by decide +kernel
theorem dX5_isHarbour_7 : decode cX5_isHarbour 7 = .ok (.ifCond .ne 7, 3) := by decide +kernel
theorem dX5_isHarbour_10 : decode cX5_isHarbour 10 = .ok (.iconst 1, 1) := by decide +kernel
theorem dX5_isHarbour_11 : decode cX5_isHarbour 11 = .ok (.goto 4, 3) := by decide +kernel
theorem dX5_isHarbour_14 : decode cX5_isHarbour 14 = .ok (.iconst 0, 1) := by decide +kernel
theorem dX5_isHarbour_15 : decode cX5_isHarbour 15 = .ok (.ireturn, 1) := by decide +kernel
theorem dX5_harbourOf_0 : decode cX5_harbourOf 0 = .ok (.iload_n 0, 1) := by decide +kernel
theorem dX5_harbourOf_1 : decode cX5_harbourOf 1 = .ok (.ifCond .ne 8, 3) := by decide +kernel
theorem dX5_harbourOf_4 : decode cX5_harbourOf 4 = .ok (.bipush 35, 2) := by decide +kernel
theorem dX5_harbourOf_6 : decode cX5_harbourOf 6 = .ok (.goto 4, 3) := by decide +kernel
theorem dX5_harbourOf_9 : decode cX5_harbourOf 9 = .ok (.iconst 0, 1) := by decide +kernel
theorem dX5_harbourOf_10 : decode cX5_harbourOf 10 = .ok (.ireturn, 1) := by decide +kernel
theorem dX5_cellBeside_0 : decode cX5_cellBeside 0 = .ok (.iload_n 0, 1) := by decide +kernel
theorem dX5_cellBeside_1 : decode cX5_cellBeside 1 = .ok (.invokestatic 108, 3) := by decide +kernel
theorem dX5_cellBeside_4 : decode cX5_cellBeside 4 = .ok (.ifCond .ne 5, 3) := by decide +kernel
theorem dX5_cellBeside_7 : decode cX5_cellBeside 7 = .ok (.iconst (-1), 1) := by decide +kernel
theorem dX5_cellBeside_8 : decode cX5_cellBeside 8 = .ok (.ireturn, 1) := by decide +kernel
theorem dX5_cellBeside_9 : decode cX5_cellBeside 9 = .ok (.iload_n 0, 1) := by decide +kernel
theorem dX5_cellBeside_10 : decode cX5_cellBeside 10 = .ok (.bipush 6, 2) := by decide +kernel
theorem dX5_cellBeside_12 : decode cX5_cellBeside 12 = .ok (.irem, 1) := by decide +kernel
theorem dX5_cellBeside_13 : decode cX5_cellBeside 13 = .ok (.istore_n 2, 1) := by decide +kernel
theorem dX5_cellBeside_14 : decode cX5_cellBeside 14 = .ok (.iload_n 1, 1) := by decide +kernel
theorem dX5_cellBeside_15 : decode cX5_cellBeside 15 = .ok (.tableswitch 87 0 3 #[29, 42, 60, 72], 29) := by decide +kernel
theorem dX5_cellBeside_44 : decode cX5_cellBeside 44 = .ok (.iload_n 2, 1) := by decide +kernel
theorem dX5_cellBeside_45 : decode cX5_cellBeside 45 = .ok (.iconst 5, 1) := by decide +kernel
theorem dX5_cellBeside_46 : decode cX5_cellBeside 46 = .ok (.if_icmp .ge 9, 3) := by decide +kernel
theorem dX5_cellBeside_49 : decode cX5_cellBeside 49 = .ok (.iload_n 0, 1) := by decide +kernel
theorem dX5_cellBeside_50 : decode cX5_cellBeside 50 = .ok (.iconst 1, 1) := by decide +kernel
theorem dX5_cellBeside_51 : decode cX5_cellBeside 51 = .ok (.iadd, 1) := by decide +kernel
theorem dX5_cellBeside_52 : decode cX5_cellBeside 52 = .ok (.goto 4, 3) := by decide +kernel
theorem dX5_cellBeside_55 : decode cX5_cellBeside 55 = .ok (.iconst (-1), 1) := by decide +kernel
theorem dX5_cellBeside_56 : decode cX5_cellBeside 56 = .ok (.ireturn, 1) := by decide +kernel
theorem dX5_cellBeside_57 : decode cX5_cellBeside 57 = .ok (.iload_n 0, 1) := by decide +kernel
theorem dX5_cellBeside_58 : decode cX5_cellBeside 58 = .ok (.bipush 6, 2) := by decide +kernel
theorem dX5_cellBeside_60 : decode cX5_cellBeside 60 = .ok (.iadd, 1) := by decide +kernel
theorem dX5_cellBeside_61 : decode cX5_cellBeside 61 = .ok (.bipush 36, 2) := by decide +kernel
theorem dX5_cellBeside_63 : decode cX5_cellBeside 63 = .ok (.if_icmp .ge 10, 3) := by decide +kernel
theorem dX5_cellBeside_66 : decode cX5_cellBeside 66 = .ok (.iload_n 0, 1) := by decide +kernel
theorem dX5_cellBeside_67 : decode cX5_cellBeside 67 = .ok (.bipush 6, 2) := by decide +kernel
theorem dX5_cellBeside_69 : decode cX5_cellBeside 69 = .ok (.iadd, 1) := by decide +kernel
theorem dX5_cellBeside_70 : decode cX5_cellBeside 70 = .ok (.goto 4, 3) := by decide +kernel
theorem dX5_cellBeside_73 : decode cX5_cellBeside 73 = .ok (.iconst (-1), 1) := by decide +kernel
theorem dX5_cellBeside_74 : decode cX5_cellBeside 74 = .ok (.ireturn, 1) := by decide +kernel
theorem dX5_cellBeside_75 : decode cX5_cellBeside 75 = .ok (.iload_n 2, 1) := by decide +kernel
theorem dX5_cellBeside_76 : decode cX5_cellBeside 76 = .ok (.ifCond .le 9, 3) := by decide +kernel
theorem dX5_cellBeside_79 : decode cX5_cellBeside 79 = .ok (.iload_n 0, 1) := by decide +kernel
theorem dX5_cellBeside_80 : decode cX5_cellBeside 80 = .ok (.iconst 1, 1) := by decide +kernel
theorem dX5_cellBeside_81 : decode cX5_cellBeside 81 = .ok (.isub, 1) := by decide +kernel
theorem dX5_cellBeside_82 : decode cX5_cellBeside 82 = .ok (.goto 4, 3) := by decide +kernel
theorem dX5_cellBeside_85 : decode cX5_cellBeside 85 = .ok (.iconst (-1), 1) := by decide +kernel
theorem dX5_cellBeside_86 : decode cX5_cellBeside 86 = .ok (.ireturn, 1) := by decide +kernel
theorem dX5_cellBeside_87 : decode cX5_cellBeside 87 = .ok (.iload_n 0, 1) := by decide +kernel
theorem dX5_cellBeside_88 : decode cX5_cellBeside 88 = .ok (.bipush 6, 2) := by decide +kernel
theorem dX5_cellBeside_90 : decode cX5_cellBeside 90 = .ok (.if_icmp .lt 10, 3) := by decide +kernel
theorem dX5_cellBeside_93 : decode cX5_cellBeside 93 = .ok (.iload_n 0, 1) := by decide +kernel
theorem dX5_cellBeside_94 : decode cX5_cellBeside 94 = .ok (.bipush 6, 2) := by decide +kernel
theorem dX5_cellBeside_96 : decode cX5_cellBeside 96 = .ok (.isub, 1) := by decide +kernel
theorem dX5_cellBeside_97 : decode cX5_cellBeside 97 = .ok (.goto 4, 3) := by decide +kernel
theorem dX5_cellBeside_100 : decode cX5_cellBeside 100 = .ok (.iconst (-1), 1) := by decide +kernel
theorem dX5_cellBeside_101 : decode cX5_cellBeside 101 = .ok (.ireturn, 1) := by decide +kernel
theorem dX5_cellBeside_102 : decode cX5_cellBeside 102 = .ok (.iconst (-1), 1) := by decide +kernel
theorem dX5_cellBeside_103 : decode cX5_cellBeside 103 = .ok (.ireturn, 1) := by decide +kernel
theorem dX5_cellFrom_0 : decode cX5_cellFrom 0 = .ok (.iload_n 0, 1) := by decide +kernel
theorem dX5_cellFrom_1 : decode cX5_cellFrom 1 = .ok (.istore_n 3, 1) := by decide +kernel
theorem dX5_cellFrom_2 : decode cX5_cellFrom 2 = .ok (.iconst 0, 1) := by decide +kernel
theorem dX5_cellFrom_3 : decode cX5_cellFrom 3 = .ok (.istore 4, 2) := by decide +kernel
theorem dX5_cellFrom_5 : decode cX5_cellFrom 5 = .ok (.iload 4, 2) := by decide +kernel
theorem dX5_cellFrom_7 : decode cX5_cellFrom 7 = .ok (.iload_n 2, 1) := by decide +kernel
theorem dX5_cellFrom_8 : decode cX5_cellFrom 8 = .ok (.if_icmp .ge 21, 3) := by decide +kernel
theorem dX5_cellFrom_11 : decode cX5_cellFrom 11 = .ok (.iload 4, 2) := by decide +kernel
theorem dX5_cellFrom_13 : decode cX5_cellFrom 13 = .ok (.iconst 3, 1) := by decide +kernel
theorem dX5_cellFrom_14 : decode cX5_cellFrom 14 = .ok (.if_icmp .ge 15, 3) := by decide +kernel
theorem dX5_cellFrom_17 : decode cX5_cellFrom 17 = .ok (.iload_n 3, 1) := by decide +kernel
theorem dX5_cellFrom_18 : decode cX5_cellFrom 18 = .ok (.iload_n 1, 1) := by decide +kernel
theorem dX5_cellFrom_19 : decode cX5_cellFrom 19 = .ok (.invokestatic 278, 3) := by decide +kernel
theorem dX5_cellFrom_22 : decode cX5_cellFrom 22 = .ok (.istore_n 3, 1) := by decide +kernel
theorem dX5_cellFrom_23 : decode cX5_cellFrom 23 = .ok (.iinc 4 1, 3) := by decide +kernel
theorem dX5_cellFrom_26 : decode cX5_cellFrom 26 = .ok (.goto (-21), 3) := by decide +kernel
theorem dX5_cellFrom_29 : decode cX5_cellFrom 29 = .ok (.iload_n 3, 1) := by decide +kernel
theorem dX5_cellFrom_30 : decode cX5_cellFrom 30 = .ok (.ireturn, 1) := by decide +kernel
theorem dX5_read_0 : decode cX5_read 0 = .ok (.iload_n 1, 1) := by decide +kernel
theorem dX5_read_1 : decode cX5_read 1 = .ok (.ifCond .lt 15, 3) := by decide +kernel
theorem dX5_read_4 : decode cX5_read 4 = .ok (.iload_n 1, 1) := by decide +kernel
theorem dX5_read_5 : decode cX5_read 5 = .ok (.aload_n 0, 1) := by decide +kernel
theorem dX5_read_6 : decode cX5_read 6 = .ok (.arraylength, 1) := by decide +kernel
theorem dX5_read_7 : decode cX5_read 7 = .ok (.if_icmp .ge 9, 3) := by decide +kernel
theorem dX5_read_10 : decode cX5_read 10 = .ok (.aload_n 0, 1) := by decide +kernel
theorem dX5_read_11 : decode cX5_read 11 = .ok (.iload_n 1, 1) := by decide +kernel
theorem dX5_read_12 : decode cX5_read 12 = .ok (.iaload, 1) := by decide +kernel
theorem dX5_read_13 : decode cX5_read 13 = .ok (.goto 4, 3) := by decide +kernel
theorem dX5_read_16 : decode cX5_read 16 = .ok (.iconst 0, 1) := by decide +kernel
theorem dX5_read_17 : decode cX5_read 17 = .ok (.ireturn, 1) := by decide +kernel
theorem dX5_write_0 : decode cX5_write 0 = .ok (.iload_n 1, 1) := by decide +kernel
theorem dX5_write_1 : decode cX5_write 1 = .ok (.ifCond .lt 13, 3) := by decide +kernel
theorem dX5_write_4 : decode cX5_write 4 = .ok (.iload_n 1, 1) := by decide +kernel
theorem dX5_write_5 : decode cX5_write 5 = .ok (.aload_n 0, 1) := by decide +kernel
theorem dX5_write_6 : decode cX5_write 6 = .ok (.arraylength, 1) := by decide +kernel
theorem dX5_write_7 : decode cX5_write 7 = .ok (.if_icmp .ge 7, 3) := by decide +kernel
theorem dX5_write_10 : decode cX5_write 10 = .ok (.aload_n 0, 1) := by decide +kernel
theorem dX5_write_11 : decode cX5_write 11 = .ok (.iload_n 1, 1) := by decide +kernel
theorem dX5_write_12 : decode cX5_write 12 = .ok (.iload_n 2, 1) := by decide +kernel
theorem dX5_write_13 : decode cX5_write 13 = .ok (.iastore, 1) := by decide +kernel
theorem dX5_write_14 : decode cX5_write 14 = .ok (.return_, 1) := by decide +kernel
theorem dX5_copy_0 : decode cX5_copy 0 = .ok (.iconst 0, 1) := by decide +kernel
theorem dX5_copy_1 : decode cX5_copy 1 = .ok (.istore_n 2, 1) := by decide +kernel
theorem dX5_copy_2 : decode cX5_copy 2 = .ok (.iload_n 2, 1) := by decide +kernel
theorem dX5_copy_3 : decode cX5_copy 3 = .ok (.aload_n 0, 1) := by decide +kernel
theorem dX5_copy_4 : decode cX5_copy 4 = .ok (.arraylength, 1) := by decide +kernel
theorem dX5_copy_5 : decode cX5_copy 5 = .ok (.if_icmp .ge 21, 3) := by decide +kernel
theorem dX5_copy_8 : decode cX5_copy 8 = .ok (.iload_n 2, 1) := by decide +kernel
theorem dX5_copy_9 : decode cX5_copy 9 = .ok (.aload_n 1, 1) := by decide +kernel
theorem dX5_copy_10 : decode cX5_copy 10 = .ok (.arraylength, 1) := by decide +kernel
theorem dX5_copy_11 : decode cX5_copy 11 = .ok (.if_icmp .ge 15, 3) := by decide +kernel
theorem dX5_copy_14 : decode cX5_copy 14 = .ok (.aload_n 1, 1) := by decide +kernel
theorem dX5_copy_15 : decode cX5_copy 15 = .ok (.iload_n 2, 1) := by decide +kernel
theorem dX5_copy_16 : decode cX5_copy 16 = .ok (.aload_n 0, 1) := by decide +kernel
theorem dX5_copy_17 : decode cX5_copy 17 = .ok (.iload_n 2, 1) := by decide +kernel
theorem dX5_copy_18 : decode cX5_copy 18 = .ok (.iaload, 1) := by decide +kernel
theorem dX5_copy_19 : decode cX5_copy 19 = .ok (.iastore, 1) := by decide +kernel
theorem dX5_copy_20 : decode cX5_copy 20 = .ok (.iinc 2 1, 3) := by decide +kernel
theorem dX5_copy_23 : decode cX5_copy 23 = .ok (.goto (-21), 3) := by decide +kernel
theorem dX5_copy_26 : decode cX5_copy 26 = .ok (.return_, 1) := by decide +kernel
theorem dX6_init_0 : decode cX6_init 0 = .ok (.aload_n 0, 1) := by decide +kernel
theorem dX6_init_1 : decode cX6_init 1 = .ok (.invokespecial 1, 3) := by decide +kernel
theorem dX6_init_4 : decode cX6_init 4 = .ok (.aload_n 0, 1) := by decide +kernel
theorem dX6_init_5 : decode cX6_init 5 = .ok (.sipush 258, 3) := by decide +kernel
theorem dX6_init_8 : decode cX6_init 8 = .ok (.newarray .int, 2) := by decide +kernel
theorem dX6_init_10 : decode cX6_init 10 = .ok (.putfield 7, 3) := by decide +kernel
theorem dX6_init_13 : decode cX6_init 13 = .ok (.aload_n 0, 1) := by decide +kernel
theorem dX6_init_14 : decode cX6_init 14 = .ok (.sipush 516, 3) := by decide +kernel
theorem dX6_init_17 : decode cX6_init 17 = .ok (.newarray .int, 2) := by decide +kernel
theorem dX6_init_19 : decode cX6_init 19 = .ok (.putfield 13, 3) := by decide +kernel
theorem dX6_init_22 : decode cX6_init 22 = .ok (.aload_n 0, 1) := by decide +kernel
theorem dX6_init_23 : decode cX6_init 23 = .ok (.sipush 129, 3) := by decide +kernel
theorem dX6_init_26 : decode cX6_init 26 = .ok (.newarray .int, 2) := by decide +kernel
theorem dX6_init_28 : decode cX6_init 28 = .ok (.putfield 16, 3) := by decide +kernel
theorem dX6_init_31 : decode cX6_init 31 = .ok (.aload_n 0, 1) := by decide +kernel
theorem dX6_init_32 : decode cX6_init 32 = .ok (.bipush 60, 2) := by decide +kernel
theorem dX6_init_34 : decode cX6_init 34 = .ok (.newarray .int, 2) := by decide +kernel
theorem dX6_init_36 : decode cX6_init 36 = .ok (.putfield 19, 3) := by decide +kernel
theorem dX6_init_39 : decode cX6_init 39 = .ok (.aload_n 0, 1) := by decide +kernel
theorem dX6_init_40 : decode cX6_init 40 = .ok (.bipush 36, 2) := by decide +kernel
theorem dX6_init_42 : decode cX6_init 42 = .ok (.newarray .boolean, 2) := by decide +kernel
theorem dX6_init_44 : decode cX6_init 44 = .ok (.putfield 22, 3) := by decide +kernel
theorem dX6_init_47 : decode cX6_init 47 = .ok (.aload_n 0, 1) := by decide +kernel
theorem dX6_init_48 : decode cX6_init 48 = .ok (.bipush 36, 2) := by decide +kernel
theorem dX6_init_50 : decode cX6_init 50 = .ok (.newarray .boolean, 2) := by decide +kernel
theorem dX6_init_52 : decode cX6_init 52 = .ok (.putfield 26, 3) := by decide +kernel
theorem dX6_init_55 : decode cX6_init 55 = .ok (.aload_n 0, 1) := by decide +kernel
theorem dX6_init_56 : decode cX6_init 56 = .ok (.bipush 36, 2) := by decide +kernel
theorem dX6_init_58 : decode cX6_init 58 = .ok (.newarray .int, 2) := by decide +kernel
theorem dX6_init_60 : decode cX6_init 60 = .ok (.putfield 29, 3) := by decide +kernel
theorem dX6_init_63 : decode cX6_init 63 = .ok (.aload_n 0, 1) := by decide +kernel
theorem dX6_init_64 : decode cX6_init 64 = .ok (.bipush 36, 2) := by decide +kernel
theorem dX6_init_66 : decode cX6_init 66 = .ok (.newarray .int, 2) := by decide +kernel
theorem dX6_init_68 : decode cX6_init 68 = .ok (.putfield 32, 3) := by decide +kernel
theorem dX6_init_71 : decode cX6_init 71 = .ok (.iconst 1, 1) := by decide +kernel
theorem dX6_init_72 : decode cX6_init 72 = .ok (.istore_n 1, 1) := by decide +kernel
theorem dX6_init_73 : decode cX6_init 73 = .ok (.iload_n 1, 1) := by decide +kernel
theorem dX6_init_74 : decode cX6_init 74 = .ok (.bipush 35, 2) := by decide +kernel
theorem dX6_init_76 : decode cX6_init 76 = .ok (.if_icmp .ge 18, 3) := by decide +kernel
theorem dX6_init_79 : decode cX6_init 79 = .ok (.aload_n 0, 1) := by decide +kernel
theorem dX6_init_80 : decode cX6_init 80 = .ok (.getfield 7, 3) := by decide +kernel
theorem dX6_init_83 : decode cX6_init 83 = .ok (.iconst 0, 1) := by decide +kernel
theorem dX6_init_84 : decode cX6_init 84 = .ok (.iload_n 1, 1) := by decide +kernel
theorem dX6_init_85 : decode cX6_init 85 = .ok (.iadd, 1) := by decide +kernel
theorem dX6_init_86 : decode cX6_init 86 = .ok (.iconst 1, 1) := by decide +kernel
theorem dX6_init_87 : decode cX6_init 87 = .ok (.iastore, 1) := by decide +kernel
theorem dX6_init_88 : decode cX6_init 88 = .ok (.iinc 1 1, 3) := by decide +kernel
theorem dX6_init_91 : decode cX6_init 91 = .ok (.goto (-18), 3) := by decide +kernel
theorem dX6_init_94 : decode cX6_init 94 = .ok (.aload_n 0, 1) := by decide +kernel
theorem dX6_init_95 : decode cX6_init 95 = .ok (.getfield 7, 3) := by decide +kernel
theorem dX6_init_98 : decode cX6_init 98 = .ok (.bipush 122, 2) := by decide +kernel
theorem dX6_init_100 : decode cX6_init 100 = .ok (.iconst 1, 1) := by decide +kernel
theorem dX6_init_101 : decode cX6_init 101 = .ok (.iastore, 1) := by decide +kernel
theorem dX6_init_102 : decode cX6_init 102 = .ok (.aload_n 0, 1) := by decide +kernel
theorem dX6_init_103 : decode cX6_init 103 = .ok (.getfield 7, 3) := by decide +kernel
theorem dX6_init_106 : decode cX6_init 106 = .ok (.bipush 123, 2) := by decide +kernel
theorem dX6_init_108 : decode cX6_init 108 = .ok (.iconst 3, 1) := by decide +kernel
theorem dX6_init_109 : decode cX6_init 109 = .ok (.iastore, 1) := by decide +kernel
theorem dX6_init_110 : decode cX6_init 110 = .ok (.aload_n 0, 1) := by decide +kernel
theorem dX6_init_111 : decode cX6_init 111 = .ok (.getfield 7, 3) := by decide +kernel
theorem dX6_init_114 : decode cX6_init 114 = .ok (.bipush 124, 2) := by decide +kernel
theorem dX6_init_116 : decode cX6_init 116 = .ok (.iconst 1, 1) := by decide +kernel
theorem dX6_init_117 : decode cX6_init 117 = .ok (.iastore, 1) := by decide +kernel
theorem dX6_init_118 : decode cX6_init 118 = .ok (.aload_n 0, 1) := by decide +kernel
theorem dX6_init_119 : decode cX6_init 119 = .ok (.getfield 7, 3) := by decide +kernel
theorem dX6_init_122 : decode cX6_init 122 = .ok (.bipush 125, 2) := by decide +kernel
theorem dX6_init_124 : decode cX6_init 124 = .ok (.bipush 60, 2) := by decide +kernel
theorem dX6_init_126 : decode cX6_init 126 = .ok (.iastore, 1) := by decide +kernel
theorem dX6_init_127 : decode cX6_init 127 = .ok (.return_, 1) := by decide +kernel
theorem dX6_in_0 : decode cX6_in 0 = .ok (.iload_n 0, 1) := by decide +kernel
theorem dX6_in_1 : decode cX6_in 1 = .ok (.iload_n 1, 1) := by decide +kernel
theorem dX6_in_2 : decode cX6_in 2 = .ok (.if_icmp .lt 12, 3) := by decide +kernel
theorem dX6_in_5 : decode cX6_in 5 = .ok (.iload_n 0, 1) := by decide +kernel
theorem dX6_in_6 : decode cX6_in 6 = .ok (.iload_n 2, 1) := by decide +kernel
theorem dX6_in_7 : decode cX6_in 7 = .ok (.if_icmp .gt 7, 3) := by decide +kernel
theorem dX6_in_10 : decode cX6_in 10 = .ok (.iconst 1, 1) := by decide +kernel
theorem dX6_in_11 : decode cX6_in 11 = .ok (.goto 4, 3) := by decide +kernel
theorem dX6_in_14 : decode cX6_in 14 = .ok (.iconst 0, 1) := by decide +kernel
theorem dX6_in_15 : decode cX6_in 15 = .ok (.ireturn, 1) := by decide +kernel
theorem dX6_isCell_0 : decode cX6_isCell 0 = .ok (.iload_n 0, 1) := by decide +kernel
theorem dX6_isCell_1 : decode cX6_isCell 1 = .ok (.iconst 0, 1) := by decide +kernel
theorem dX6_isCell_2 : decode cX6_isCell 2 = .ok (.bipush 35, 2) := by decide +kernel
theorem dX6_isCell_4 : decode cX6_isCell 4 = .ok (.invokestatic 35, 3) := by decide +kernel
theorem dX6_isCell_7 : decode cX6_isCell 7 = .ok (.ireturn, 1) := by decide +kernel
theorem dX6_isBoat_0 : decode cX6_isBoat 0 = .ok (.iload_n 2, 1) := by decide +kernel
theorem dX6_isBoat_1 : decode cX6_isBoat 1 = .ok (.iconst 0, 1) := by decide +kernel
theorem dX6_isBoat_2 : decode cX6_isBoat 2 = .ok (.aload_n 0, 1) := by decide +kernel
theorem dX6_isBoat_3 : decode cX6_isBoat 3 = .ok (.getfield 7, 3) := by decide +kernel
theorem dX6_isBoat_6 : decode cX6_isBoat 6 = .ok (.iload_n 1, 1) := by decide +kernel
theorem dX6_isBoat_7 : decode cX6_isBoat 7 = .ok (.bipush 127, 2) := by decide +kernel
theorem dX6_isBoat_9 : decode cX6_isBoat 9 = .ok (.iadd, 1) := by decide +kernel
theorem dX6_isBoat_10 : decode cX6_isBoat 10 = .ok (.iaload, 1) := by decide +kernel
theorem dX6_isBoat_11 : decode cX6_isBoat 11 = .ok (.iconst 1, 1) := by decide +kernel
theorem dX6_isBoat_12 : decode cX6_isBoat 12 = .ok (.isub, 1) := by decide +kernel
theorem dX6_isBoat_13 : decode cX6_isBoat 13 = .ok (.invokestatic 35, 3) := by decide +kernel
theorem dX6_isBoat_16 : decode cX6_isBoat 16 = .ok (.ireturn, 1) := by decide +kernel
theorem dX6_at_0 : decode cX6_at 0 = .ok (.iload_n 0, 1) := by decide +kernel
theorem dX6_at_1 : decode cX6_at 1 = .ok (.bipush 72, 2) := by decide +kernel
theorem dX6_at_3 : decode cX6_at 3 = .ok (.iadd, 1) := by decide +kernel
theorem dX6_at_4 : decode cX6_at 4 = .ok (.iconst 5, 1) := by decide +kernel
theorem dX6_at_5 : decode cX6_at 5 = .ok (.iload_n 1, 1) := by decide +kernel
theorem dX6_at_6 : decode cX6_at 6 = .ok (.imul, 1) := by decide +kernel
theorem dX6_at_7 : decode cX6_at 7 = .ok (.iadd, 1) := by decide +kernel
theorem dX6_at_8 : decode cX6_at 8 = .ok (.ireturn, 1) := by decide +kernel
theorem dX6_its_0 : decode cX6_its 0 = .ok (.aload_n 0, 1) := by decide +kernel
theorem dX6_its_1 : decode cX6_its 1 = .ok (.getfield 7, 3) := by decide +kernel
theorem dX6_its_4 : decode cX6_its 4 = .ok (.iload_n 1, 1) := by decide +kernel
theorem dX6_its_5 : decode cX6_its 5 = .ok (.iload_n 2, 1) := by decide +kernel
theorem dX6_its_6 : decode cX6_its 6 = .ok (.invokestatic 39, 3) := by decide +kernel
theorem dX6_its_9 : decode cX6_its 9 = .ok (.iload_n 3, 1) := by decide +kernel
theorem dX6_its_10 : decode cX6_its 10 = .ok (.iadd, 1) := by decide +kernel
theorem dX6_its_11 : decode cX6_its 11 = .ok (.iaload, 1) := by decide +kernel
theorem dX6_its_12 : decode cX6_its 12 = .ok (.ireturn, 1) := by decide +kernel
theorem dX6_copies_0 : decode cX6_copies 0 = .ok (.iconst 0, 1) := by decide +kernel
theorem dX6_copies_1 : decode cX6_copies 1 = .ok (.istore_n 1, 1) := by decide +kernel
theorem dX6_copies_2 : decode cX6_copies 2 = .ok (.iload_n 1, 1) := by decide +kernel
theorem dX6_copies_3 : decode cX6_copies 3 = .ok (.sipush 129, 3) := by decide +kernel
theorem dX6_copies_6 : decode cX6_copies 6 = .ok (.if_icmp .ge 25, 3) := by decide +kernel
theorem dX6_copies_9 : decode cX6_copies 9 = .ok (.aload_n 0, 1) := by decide +kernel
theorem dX6_copies_10 : decode cX6_copies 10 = .ok (.getfield 7, 3) := by decide +kernel
theorem dX6_copies_13 : decode cX6_copies 13 = .ok (.sipush 129, 3) := by decide +kernel
theorem dX6_copies_16 : decode cX6_copies 16 = .ok (.iload_n 1, 1) := by decide +kernel
theorem dX6_copies_17 : decode cX6_copies 17 = .ok (.iadd, 1) := by decide +kernel
theorem dX6_copies_18 : decode cX6_copies 18 = .ok (.aload_n 0, 1) := by decide +kernel
theorem dX6_copies_19 : decode cX6_copies 19 = .ok (.getfield 7, 3) := by decide +kernel
theorem dX6_copies_22 : decode cX6_copies 22 = .ok (.iload_n 1, 1) := by decide +kernel
theorem dX6_copies_23 : decode cX6_copies 23 = .ok (.iaload, 1) := by decide +kernel
theorem dX6_copies_24 : decode cX6_copies 24 = .ok (.iastore, 1) := by decide +kernel
theorem dX6_copies_25 : decode cX6_copies 25 = .ok (.iinc 1 1, 3) := by decide +kernel
theorem dX6_copies_28 : decode cX6_copies 28 = .ok (.goto (-26), 3) := by decide +kernel
theorem dX6_copies_31 : decode cX6_copies 31 = .ok (.return_, 1) := by decide +kernel
theorem dX6_remembers_0 : decode cX6_remembers 0 = .ok (.aload_n 0, 1) := by decide +kernel
theorem dX6_remembers_1 : decode cX6_remembers 1 = .ok (.getfield 43, 3) := by decide +kernel
theorem dX6_remembers_4 : decode cX6_remembers 4 = .ok (.iconst 4, 1) := by decide +kernel
theorem dX6_remembers_5 : decode cX6_remembers 5 = .ok (.if_icmp .ne 44, 3) := by decide +kernel
theorem dX6_remembers_8 : decode cX6_remembers 8 = .ok (.iconst 0, 1) := by decide +kernel
theorem dX6_remembers_9 : decode cX6_remembers 9 = .ok (.istore_n 1, 1) := by decide +kernel
theorem dX6_remembers_10 : decode cX6_remembers 10 = .ok (.iload_n 1, 1) := by decide +kernel
theorem dX6_remembers_11 : decode cX6_remembers 11 = .ok (.sipush 387, 3) := by decide +kernel
theorem dX6_remembers_14 : decode cX6_remembers 14 = .ok (.if_icmp .ge 25, 3) := by decide +kernel
theorem dX6_remembers_17 : decode cX6_remembers 17 = .ok (.aload_n 0, 1) := by decide +kernel
theorem dX6_remembers_18 : decode cX6_remembers 18 = .ok (.getfield 13, 3) := by decide +kernel
theorem dX6_remembers_21 : decode cX6_remembers 21 = .ok (.iload_n 1, 1) := by decide +kernel
theorem dX6_remembers_22 : decode cX6_remembers 22 = .ok (.aload_n 0, 1) := by decide +kernel
theorem dX6_remembers_23 : decode cX6_remembers 23 = .ok (.getfield 13, 3) := by decide +kernel
theorem dX6_remembers_26 : decode cX6_remembers 26 = .ok (.sipush 129, 3) := by decide +kernel
theorem dX6_remembers_29 : decode cX6_remembers 29 = .ok (.iload_n 1, 1) := by decide +kernel
theorem dX6_remembers_30 : decode cX6_remembers 30 = .ok (.iadd, 1) := by decide +kernel
theorem dX6_remembers_31 : decode cX6_remembers 31 = .ok (.iaload, 1) := by decide +kernel
theorem dX6_remembers_32 : decode cX6_remembers 32 = .ok (.iastore, 1) := by decide +kernel
theorem dX6_remembers_33 : decode cX6_remembers 33 = .ok (.iinc 1 1, 3) := by decide +kernel
theorem dX6_remembers_36 : decode cX6_remembers 36 = .ok (.goto (-26), 3) := by decide +kernel
theorem dX6_remembers_39 : decode cX6_remembers 39 = .ok (.aload_n 0, 1) := by decide +kernel
theorem dX6_remembers_40 : decode cX6_remembers 40 = .ok (.dup, 1) := by decide +kernel
theorem dX6_remembers_41 : decode cX6_remembers 41 = .ok (.getfield 43, 3) := by decide +kernel
theorem dX6_remembers_44 : decode cX6_remembers 44 = .ok (.iconst 1, 1) := by decide +kernel
theorem dX6_remembers_45 : decode cX6_remembers 45 = .ok (.isub, 1) := by decide +kernel
theorem dX6_remembers_46 : decode cX6_remembers 46 = .ok (.putfield 43, 3) := by decide +kernel
theorem dX6_remembers_49 : decode cX6_remembers 49 = .ok (.iconst 0, 1) := by decide +kernel
theorem dX6_remembers_50 : decode cX6_remembers 50 = .ok (.istore_n 1, 1) := by decide +kernel
theorem dX6_remembers_51 : decode cX6_remembers 51 = .ok (.iload_n 1, 1) := by decide +kernel
theorem dX6_remembers_52 : decode cX6_remembers 52 = .ok (.sipush 129, 3) := by decide +kernel
theorem dX6_remembers_55 : decode cX6_remembers 55 = .ok (.if_icmp .ge 30, 3) := by decide +kernel
theorem dX6_remembers_58 : decode cX6_remembers 58 = .ok (.aload_n 0, 1) := by decide +kernel
theorem dX6_remembers_59 : decode cX6_remembers 59 = .ok (.getfield 13, 3) := by decide +kernel
theorem dX6_remembers_62 : decode cX6_remembers 62 = .ok (.sipush 129, 3) := by decide +kernel
theorem dX6_remembers_65 : decode cX6_remembers 65 = .ok (.aload_n 0, 1) := by decide +kernel
theorem dX6_remembers_66 : decode cX6_remembers 66 = .ok (.getfield 43, 3) := by decide +kernel
theorem dX6_remembers_69 : decode cX6_remembers 69 = .ok (.imul, 1) := by decide +kernel
theorem dX6_remembers_70 : decode cX6_remembers 70 = .ok (.iload_n 1, 1) := by decide +kernel
theorem dX6_remembers_71 : decode cX6_remembers 71 = .ok (.iadd, 1) := by decide +kernel
theorem dX6_remembers_72 : decode cX6_remembers 72 = .ok (.aload_n 0, 1) := by decide +kernel
theorem dX6_remembers_73 : decode cX6_remembers 73 = .ok (.getfield 7, 3) := by decide +kernel
theorem dX6_remembers_76 : decode cX6_remembers 76 = .ok (.iload_n 1, 1) := by decide +kernel
theorem dX6_remembers_77 : decode cX6_remembers 77 = .ok (.iaload, 1) := by decide +kernel
theorem dX6_remembers_78 : decode cX6_remembers 78 = .ok (.iastore, 1) := by decide +kernel
theorem dX6_remembers_79 : decode cX6_remembers 79 = .ok (.iinc 1 1, 3) := by decide +kernel
theorem dX6_remembers_82 : decode cX6_remembers 82 = .ok (.goto (-31), 3) := by decide +kernel
theorem dX6_remembers_85 : decode cX6_remembers 85 = .ok (.aload_n 0, 1) := by decide +kernel
theorem dX6_remembers_86 : decode cX6_remembers 86 = .ok (.dup, 1) := by decide +kernel
theorem dX6_remembers_87 : decode cX6_remembers 87 = .ok (.getfield 43, 3) := by decide +kernel
theorem dX6_remembers_90 : decode cX6_remembers 90 = .ok (.iconst 1, 1) := by decide +kernel
theorem dX6_remembers_91 : decode cX6_remembers 91 = .ok (.iadd, 1) := by decide +kernel
theorem dX6_remembers_92 : decode cX6_remembers 92 = .ok (.putfield 43, 3) := by decide +kernel
theorem dX6_remembers_95 : decode cX6_remembers 95 = .ok (.return_, 1) := by decide +kernel
theorem dX6_acts_0 : decode cX6_acts 0 = .ok (.iload_n 1, 1) := by decide +kernel
theorem dX6_acts_1 : decode cX6_acts 1 = .ok (.ifCond .lt 38, 3) := by decide +kernel
theorem dX6_acts_4 : decode cX6_acts 4 = .ok (.aload_n 0, 1) := by decide +kernel
theorem dX6_acts_5 : decode cX6_acts 5 = .ok (.invokevirtual 47, 3) := by decide +kernel
theorem dX6_acts_8 : decode cX6_acts 8 = .ok (.iconst 0, 1) := by decide +kernel
theorem dX6_acts_9 : decode cX6_acts 9 = .ok (.istore_n 2, 1) := by decide +kernel
theorem dX6_acts_10 : decode cX6_acts 10 = .ok (.iload_n 2, 1) := by decide +kernel
theorem dX6_acts_11 : decode cX6_acts 11 = .ok (.sipush 129, 3) := by decide +kernel
theorem dX6_acts_14 : decode cX6_acts 14 = .ok (.if_icmp .ge 25, 3) := by decide +kernel
theorem dX6_acts_17 : decode cX6_acts 17 = .ok (.aload_n 0, 1) := by decide +kernel
theorem dX6_acts_18 : decode cX6_acts 18 = .ok (.getfield 7, 3) := by decide +kernel
theorem dX6_acts_21 : decode cX6_acts 21 = .ok (.iload_n 2, 1) := by decide +kernel
theorem dX6_acts_22 : decode cX6_acts 22 = .ok (.aload_n 0, 1) := by decide +kernel
theorem dX6_acts_23 : decode cX6_acts 23 = .ok (.getfield 7, 3) := by decide +kernel
theorem dX6_acts_26 : decode cX6_acts 26 = .ok (.sipush 129, 3) := by decide +kernel
theorem dX6_acts_29 : decode cX6_acts 29 = .ok (.iload_n 2, 1) := by decide +kernel
theorem dX6_acts_30 : decode cX6_acts 30 = .ok (.iadd, 1) := by decide +kernel
theorem dX6_acts_31 : decode cX6_acts 31 = .ok (.iaload, 1) := by decide +kernel
theorem dX6_acts_32 : decode cX6_acts 32 = .ok (.iastore, 1) := by decide +kernel
theorem dX6_acts_33 : decode cX6_acts 33 = .ok (.iinc 2 1, 3) := by decide +kernel
theorem dX6_acts_36 : decode cX6_acts 36 = .ok (.goto (-26), 3) := by decide +kernel
theorem dX6_acts_39 : decode cX6_acts 39 = .ok (.iload_n 1, 1) := by decide +kernel
theorem dX6_acts_40 : decode cX6_acts 40 = .ok (.ireturn, 1) := by decide +kernel
theorem dX6_tideOf_0 : decode cX6_tideOf 0 = .ok (.aload_n 0, 1) := by decide +kernel
theorem dX6_tideOf_1 : decode cX6_tideOf 1 = .ok (.getfield 7, 3) := by decide +kernel
theorem dX6_tideOf_4 : decode cX6_tideOf 4 = .ok (.iload_n 1, 1) := by decide +kernel
theorem dX6_tideOf_5 : decode cX6_tideOf 5 = .ok (.bipush 122, 2) := by decide +kernel
theorem dX6_tideOf_7 : decode cX6_tideOf 7 = .ok (.iadd, 1) := by decide +kernel
theorem dX6_tideOf_8 : decode cX6_tideOf 8 = .ok (.iconst 1, 1) := by decide +kernel
theorem dX6_tideOf_9 : decode cX6_tideOf 9 = .ok (.iadd, 1) := by decide +kernel
theorem dX6_tideOf_10 : decode cX6_tideOf 10 = .ok (.iaload, 1) := by decide +kernel
theorem dX6_tideOf_11 : decode cX6_tideOf 11 = .ok (.istore_n 3, 1) := by decide +kernel
theorem dX6_tideOf_12 : decode cX6_tideOf 12 = .ok (.iload_n 2, 1) := by decide +kernel
theorem dX6_tideOf_13 : decode cX6_tideOf 13 = .ok (.aload_n 0, 1) := by decide +kernel
theorem dX6_tideOf_14 : decode cX6_tideOf 14 = .ok (.getfield 7, 3) := by decide +kernel
theorem dX6_tideOf_17 : decode cX6_tideOf 17 = .ok (.iload_n 1, 1) := by decide +kernel
theorem dX6_tideOf_18 : decode cX6_tideOf 18 = .ok (.bipush 122, 2) := by decide +kernel
theorem dX6_tideOf_20 : decode cX6_tideOf 20 = .ok (.iadd, 1) := by decide +kernel
theorem dX6_tideOf_21 : decode cX6_tideOf 21 = .ok (.iconst 2, 1) := by decide +kernel
theorem dX6_tideOf_22 : decode cX6_tideOf 22 = .ok (.iadd, 1) := by decide +kernel
theorem dX6_tideOf_23 : decode cX6_tideOf 23 = .ok (.iaload, 1) := by decide +kernel
theorem dX6_tideOf_24 : decode cX6_tideOf 24 = .ok (.idiv, 1) := by decide +kernel
theorem dX6_tideOf_25 : decode cX6_tideOf 25 = .ok (.iconst 2, 1) := by decide +kernel
theorem dX6_tideOf_26 : decode cX6_tideOf 26 = .ok (.iload_n 3, 1) := by decide +kernel
theorem dX6_tideOf_27 : decode cX6_tideOf 27 = .ok (.imul, 1) := by decide +kernel
theorem dX6_tideOf_28 : decode cX6_tideOf 28 = .ok (.irem, 1) := by decide +kernel
theorem dX6_tideOf_29 : decode cX6_tideOf 29 = .ok (.istore 4, 2) := by decide +kernel
theorem dX6_tideOf_31 : decode cX6_tideOf 31 = .ok (.aload_n 0, 1) := by decide +kernel
theorem dX6_tideOf_32 : decode cX6_tideOf 32 = .ok (.getfield 7, 3) := by decide +kernel
theorem dX6_tideOf_35 : decode cX6_tideOf 35 = .ok (.iload_n 1, 1) := by decide +kernel
theorem dX6_tideOf_36 : decode cX6_tideOf 36 = .ok (.bipush 122, 2) := by decide +kernel
theorem dX6_tideOf_38 : decode cX6_tideOf 38 = .ok (.iadd, 1) := by decide +kernel
theorem dX6_tideOf_39 : decode cX6_tideOf 39 = .ok (.iaload, 1) := by decide +kernel
theorem dX6_tideOf_40 : decode cX6_tideOf 40 = .ok (.iload 4, 2) := by decide +kernel
theorem dX6_tideOf_42 : decode cX6_tideOf 42 = .ok (.iload_n 3, 1) := by decide +kernel
theorem dX6_tideOf_43 : decode cX6_tideOf 43 = .ok (.if_icmp .gt 8, 3) := by decide +kernel
theorem dX6_tideOf_46 : decode cX6_tideOf 46 = .ok (.iload 4, 2) := by decide +kernel
theorem dX6_tideOf_48 : decode cX6_tideOf 48 = .ok (.goto 9, 3) := by decide +kernel
theorem dX6_tideOf_51 : decode cX6_tideOf 51 = .ok (.iconst 2, 1) := by decide +kernel
theorem dX6_tideOf_52 : decode cX6_tideOf 52 = .ok (.iload_n 3, 1) := by decide +kernel
theorem dX6_tideOf_53 : decode cX6_tideOf 53 = .ok (.imul, 1) := by decide +kernel
theorem dX6_tideOf_54 : decode cX6_tideOf 54 = .ok (.iload 4, 2) := by decide +kernel
theorem dX6_tideOf_56 : decode cX6_tideOf 56 = .ok (.isub, 1) := by decide +kernel
theorem dX6_tideOf_57 : decode cX6_tideOf 57 = .ok (.iadd, 1) := by decide +kernel
theorem dX6_tideOf_58 : decode cX6_tideOf 58 = .ok (.ireturn, 1) := by decide +kernel
theorem dX6_water_0 : decode cX6_water 0 = .ok (.aload_n 0, 1) := by decide +kernel
theorem dX6_water_1 : decode cX6_water 1 = .ok (.iload_n 1, 1) := by decide +kernel
theorem dX6_water_2 : decode cX6_water 2 = .ok (.iload_n 3, 1) := by decide +kernel
theorem dX6_water_3 : decode cX6_water 3 = .ok (.invokevirtual 50, 3) := by decide +kernel
theorem dX6_water_6 : decode cX6_water 6 = .ok (.aload_n 0, 1) := by decide +kernel
theorem dX6_water_7 : decode cX6_water 7 = .ok (.getfield 7, 3) := by decide +kernel
theorem dX6_water_10 : decode cX6_water 10 = .ok (.iload_n 1, 1) := by decide +kernel
theorem dX6_water_11 : decode cX6_water 11 = .ok (.iconst 0, 1) := by decide +kernel
theorem dX6_water_12 : decode cX6_water 12 = .ok (.iadd, 1) := by decide +kernel
theorem dX6_water_13 : decode cX6_water 13 = .ok (.iload_n 2, 1) := by decide +kernel
theorem dX6_water_14 : decode cX6_water 14 = .ok (.iadd, 1) := by decide +kernel
theorem dX6_water_15 : decode cX6_water 15 = .ok (.iaload, 1) := by decide +kernel
theorem dX6_water_16 : decode cX6_water 16 = .ok (.isub, 1) := by decide +kernel
theorem dX6_water_17 : decode cX6_water 17 = .ok (.istore 4, 2) := by decide +kernel
theorem dX6_water_19 : decode cX6_water 19 = .ok (.iload 4, 2) := by decide +kernel
theorem dX6_water_21 : decode cX6_water 21 = .ok (.ifCond .ge 7, 3) := by decide +kernel
theorem dX6_water_24 : decode cX6_water 24 = .ok (.iconst 0, 1) := by decide +kernel
theorem dX6_water_25 : decode cX6_water 25 = .ok (.goto 5, 3) := by decide +kernel
theorem dX6_water_28 : decode cX6_water 28 = .ok (.iload 4, 2) := by decide +kernel
theorem dX6_water_30 : decode cX6_water 30 = .ok (.ireturn, 1) := by decide +kernel
theorem dX6_floats_0 : decode cX6_floats 0 = .ok (.aload_n 0, 1) := by decide +kernel
theorem dX6_floats_1 : decode cX6_floats 1 = .ok (.iload_n 1, 1) := by decide +kernel
theorem dX6_floats_2 : decode cX6_floats 2 = .ok (.iload_n 2, 1) := by decide +kernel
theorem dX6_floats_3 : decode cX6_floats 3 = .ok (.iload 4, 2) := by decide +kernel
theorem dX6_floats_5 : decode cX6_floats 5 = .ok (.invokevirtual 53, 3) := by decide +kernel
theorem dX6_floats_8 : decode cX6_floats 8 = .ok (.iload_n 3, 1) := by decide +kernel
theorem dX6_floats_9 : decode cX6_floats 9 = .ok (.if_icmp .lt 7, 3) := by decide +kernel
theorem dX6_floats_12 : decode cX6_floats 12 = .ok (.iconst 1, 1) := by decide +kernel
theorem dX6_floats_13 : decode cX6_floats 13 = .ok (.goto 4, 3) := by decide +kernel
theorem dX6_floats_16 : decode cX6_floats 16 = .ok (.iconst 0, 1) := by decide +kernel
theorem dX6_floats_17 : decode cX6_floats 17 = .ok (.ireturn, 1) := by decide +kernel
theorem dX6_wrecks_0 : decode cX6_wrecks 0 = .ok (.aload_n 0, 1) := by decide +kernel
theorem dX6_wrecks_1 : decode cX6_wrecks 1 = .ok (.getfield 7, 3) := by decide +kernel
theorem dX6_wrecks_4 : decode cX6_wrecks 4 = .ok (.iload_n 1, 1) := by decide +kernel
theorem dX6_wrecks_5 : decode cX6_wrecks 5 = .ok (.bipush 36, 2) := by decide +kernel
theorem dX6_wrecks_7 : decode cX6_wrecks 7 = .ok (.iadd, 1) := by decide +kernel
theorem dX6_wrecks_8 : decode cX6_wrecks 8 = .ok (.iload_n 2, 1) := by decide +kernel
theorem dX6_wrecks_9 : decode cX6_wrecks 9 = .ok (.iadd, 1) := by decide +kernel
theorem dX6_wrecks_10 : decode cX6_wrecks 10 = .ok (.iaload, 1) := by decide +kernel
theorem dX6_wrecks_11 : decode cX6_wrecks 11 = .ok (.iconst 1, 1) := by decide +kernel
theorem dX6_wrecks_12 : decode cX6_wrecks 12 = .ok (.if_icmp .ne 33, 3) := by decide +kernel
theorem dX6_wrecks_15 : decode cX6_wrecks 15 = .ok (.aload_n 0, 1) := by decide +kernel
theorem dX6_wrecks_16 : decode cX6_wrecks 16 = .ok (.iload_n 1, 1) := by decide +kernel
theorem dX6_wrecks_17 : decode cX6_wrecks 17 = .ok (.iload_n 2, 1) := by decide +kernel
theorem dX6_wrecks_18 : decode cX6_wrecks 18 = .ok (.iload_n 3, 1) := by decide +kernel
theorem dX6_wrecks_19 : decode cX6_wrecks 19 = .ok (.iload 4, 2) := by decide +kernel
theorem dX6_wrecks_21 : decode cX6_wrecks 21 = .ok (.invokevirtual 57, 3) := by decide +kernel
theorem dX6_wrecks_24 : decode cX6_wrecks 24 = .ok (.ifCond .eq 21, 3) := by decide +kernel
theorem dX6_wrecks_27 : decode cX6_wrecks 27 = .ok (.aload_n 0, 1) := by decide +kernel
theorem dX6_wrecks_28 : decode cX6_wrecks 28 = .ok (.iload_n 1, 1) := by decide +kernel
theorem dX6_wrecks_29 : decode cX6_wrecks 29 = .ok (.iload_n 2, 1) := by decide +kernel
theorem dX6_wrecks_30 : decode cX6_wrecks 30 = .ok (.iload_n 3, 1) := by decide +kernel
theorem dX6_wrecks_31 : decode cX6_wrecks 31 = .ok (.iload 4, 2) := by decide +kernel
theorem dX6_wrecks_33 : decode cX6_wrecks 33 = .ok (.iconst 1, 1) := by decide +kernel
theorem dX6_wrecks_34 : decode cX6_wrecks 34 = .ok (.iadd, 1) := by decide +kernel
theorem dX6_wrecks_35 : decode cX6_wrecks 35 = .ok (.invokevirtual 57, 3) := by decide +kernel
theorem dX6_wrecks_38 : decode cX6_wrecks 38 = .ok (.ifCond .ne 7, 3) := by decide +kernel
theorem dX6_wrecks_41 : decode cX6_wrecks 41 = .ok (.iconst 1, 1) := by decide +kernel
theorem dX6_wrecks_42 : decode cX6_wrecks 42 = .ok (.goto 4, 3) := by decide +kernel
theorem dX6_wrecks_45 : decode cX6_wrecks 45 = .ok (.iconst 0, 1) := by decide +kernel
theorem dX6_wrecks_46 : decode cX6_wrecks 46 = .ok (.ireturn, 1) := by decide +kernel
theorem dX6_harbour_0 : decode cX6_harbour 0 = .ok (.iload_n 0, 1) := by decide +kernel
theorem dX6_harbour_1 : decode cX6_harbour 1 = .ok (.ifCond .ne 8, 3) := by decide +kernel
theorem dX6_harbour_4 : decode cX6_harbour 4 = .ok (.bipush 35, 2) := by decide +kernel
theorem dX6_harbour_6 : decode cX6_harbour 6 = .ok (.goto 4, 3) := by decide +kernel
theorem dX6_harbour_9 : decode cX6_harbour 9 = .ok (.iconst 0, 1) := by decide +kernel
theorem dX6_harbour_10 : decode cX6_harbour 10 = .ok (.ireturn, 1) := by decide +kernel
theorem dX6_beside_0 : decode cX6_beside 0 = .ok (.iload_n 0, 1) := by decide +kernel
theorem dX6_beside_1 : decode cX6_beside 1 = .ok (.bipush 6, 2) := by decide +kernel
theorem dX6_beside_3 : decode cX6_beside 3 = .ok (.idiv, 1) := by decide +kernel
theorem dX6_beside_4 : decode cX6_beside 4 = .ok (.iload_n 1, 1) := by decide +kernel
theorem dX6_beside_5 : decode cX6_beside 5 = .ok (.iconst 1, 1) := by decide +kernel
theorem dX6_beside_6 : decode cX6_beside 6 = .ok (.if_icmp .ne 7, 3) := by decide +kernel
theorem dX6_beside_9 : decode cX6_beside 9 = .ok (.iconst 1, 1) := by decide +kernel
theorem dX6_beside_10 : decode cX6_beside 10 = .ok (.goto 13, 3) := by decide +kernel
theorem dX6_beside_13 : decode cX6_beside 13 = .ok (.iload_n 1, 1) := by decide +kernel
theorem dX6_beside_14 : decode cX6_beside 14 = .ok (.iconst 3, 1) := by decide +kernel
theorem dX6_beside_15 : decode cX6_beside 15 = .ok (.if_icmp .ne 7, 3) := by decide +kernel
theorem dX6_beside_18 : decode cX6_beside 18 = .ok (.iconst (-1), 1) := by decide +kernel
theorem dX6_beside_19 : decode cX6_beside 19 = .ok (.goto 4, 3) := by decide +kernel
theorem dX6_beside_22 : decode cX6_beside 22 = .ok (.iconst 0, 1) := by decide +kernel
theorem dX6_beside_23 : decode cX6_beside 23 = .ok (.iadd, 1) := by decide +kernel
theorem dX6_beside_24 : decode cX6_beside 24 = .ok (.istore_n 2, 1) := by decide +kernel
theorem dX6_beside_25 : decode cX6_beside 25 = .ok (.iload_n 0, 1) := by decide +kernel
theorem dX6_beside_26 : decode cX6_beside 26 = .ok (.bipush 6, 2) := by decide +kernel
theorem dX6_beside_28 : decode cX6_beside 28 = .ok (.irem, 1) := by decide +kernel
theorem dX6_beside_29 : decode cX6_beside 29 = .ok (.iload_n 1, 1) := by decide +kernel
theorem dX6_beside_30 : decode cX6_beside 30 = .ok (.ifCond .ne 7, 3) := by decide +kernel
theorem dX6_beside_33 : decode cX6_beside 33 = .ok (.iconst 1, 1) := by decide +kernel
theorem dX6_beside_34 : decode cX6_beside 34 = .ok (.goto 13, 3) := by decide +kernel
theorem dX6_beside_37 : decode cX6_beside 37 = .ok (.iload_n 1, 1) := by decide +kernel
theorem dX6_beside_38 : decode cX6_beside 38 = .ok (.iconst 2, 1) := by decide +kernel
theorem dX6_beside_39 : decode cX6_beside 39 = .ok (.if_icmp .ne 7, 3) := by decide +kernel
theorem dX6_beside_42 : decode cX6_beside 42 = .ok (.iconst (-1), 1) := by decide +kernel
theorem dX6_beside_43 : decode cX6_beside 43 = .ok (.goto 4, 3) := by decide +kernel
theorem dX6_beside_46 : decode cX6_beside 46 = .ok (.iconst 0, 1) := by decide +kernel
theorem dX6_beside_47 : decode cX6_beside 47 = .ok (.iadd, 1) := by decide +kernel
theorem dX6_beside_48 : decode cX6_beside 48 = .ok (.istore_n 3, 1) := by decide +kernel
theorem dX6_beside_49 : decode cX6_beside 49 = .ok (.iload_n 2, 1) := by decide +kernel
theorem dX6_beside_50 : decode cX6_beside 50 = .ok (.iconst 0, 1) := by decide +kernel
theorem dX6_beside_51 : decode cX6_beside 51 = .ok (.iconst 5, 1) := by decide +kernel
theorem dX6_beside_52 : decode cX6_beside 52 = .ok (.invokestatic 35, 3) := by decide +kernel
theorem dX6_beside_55 : decode cX6_beside 55 = .ok (.ifCond .eq 21, 3) := by decide +kernel
theorem dX6_beside_58 : decode cX6_beside 58 = .ok (.iload_n 3, 1) := by decide +kernel
theorem dX6_beside_59 : decode cX6_beside 59 = .ok (.iconst 0, 1) := by decide +kernel
theorem dX6_beside_60 : decode cX6_beside 60 = .ok (.iconst 5, 1) := by decide +kernel
theorem dX6_beside_61 : decode cX6_beside 61 = .ok (.invokestatic 35, 3) := by decide +kernel
theorem dX6_beside_64 : decode cX6_beside 64 = .ok (.ifCond .eq 12, 3) := by decide +kernel
theorem dX6_beside_67 : decode cX6_beside 67 = .ok (.bipush 6, 2) := by decide +kernel
theorem dX6_beside_69 : decode cX6_beside 69 = .ok (.iload_n 2, 1) := by decide +kernel
theorem dX6_beside_70 : decode cX6_beside 70 = .ok (.imul, 1) := by decide +kernel
theorem dX6_beside_71 : decode cX6_beside 71 = .ok (.iload_n 3, 1) := by decide +kernel
theorem dX6_beside_72 : decode cX6_beside 72 = .ok (.iadd, 1) := by decide +kernel
theorem dX6_beside_73 : decode cX6_beside 73 = .ok (.goto 5, 3) := by decide +kernel
theorem dX6_beside_76 : decode cX6_beside 76 = .ok (.bipush (-5), 2) := by decide +kernel
theorem dX6_beside_78 : decode cX6_beside 78 = .ok (.ireturn, 1) := by decide +kernel
theorem dX6_wayEnd_0 : decode cX6_wayEnd 0 = .ok (.iload_n 2, 1) := by decide +kernel
theorem dX6_wayEnd_1 : decode cX6_wayEnd 1 = .ok (.bipush 100, 2) := by decide +kernel
theorem dX6_wayEnd_3 : decode cX6_wayEnd 3 = .ok (.idiv, 1) := by decide +kernel
theorem dX6_wayEnd_4 : decode cX6_wayEnd 4 = .ok (.istore 6, 2) := by decide +kernel
theorem dX6_wayEnd_6 : decode cX6_wayEnd 6 = .ok (.iload_n 3, 1) := by decide +kernel
theorem dX6_wayEnd_7 : decode cX6_wayEnd 7 = .ok (.istore 7, 2) := by decide +kernel
theorem dX6_wayEnd_9 : decode cX6_wayEnd 9 = .ok (.iconst 0, 1) := by decide +kernel
theorem dX6_wayEnd_10 : decode cX6_wayEnd 10 = .ok (.istore 8, 2) := by decide +kernel
theorem dX6_wayEnd_12 : decode cX6_wayEnd 12 = .ok (.iload 8, 2) := by decide +kernel
theorem dX6_wayEnd_14 : decode cX6_wayEnd 14 = .ok (.iload 4, 2) := by decide +kernel
theorem dX6_wayEnd_16 : decode cX6_wayEnd 16 = .ok (.bipush 10, 2) := by decide +kernel
theorem dX6_wayEnd_18 : decode cX6_wayEnd 18 = .ok (.irem, 1) := by decide +kernel
theorem dX6_wayEnd_19 : decode cX6_wayEnd 19 = .ok (.if_icmp .ge 86, 3) := by decide +kernel
theorem dX6_wayEnd_22 : decode cX6_wayEnd 22 = .ok (.iload 7, 2) := by decide +kernel
theorem dX6_wayEnd_24 : decode cX6_wayEnd 24 = .ok (.iload 6, 2) := by decide +kernel
theorem dX6_wayEnd_26 : decode cX6_wayEnd 26 = .ok (.invokestatic 61, 3) := by decide +kernel
theorem dX6_wayEnd_29 : decode cX6_wayEnd 29 = .ok (.if_icmp .ne 7, 3) := by decide +kernel
theorem dX6_wayEnd_32 : decode cX6_wayEnd 32 = .ok (.iconst 1, 1) := by decide +kernel
theorem dX6_wayEnd_33 : decode cX6_wayEnd 33 = .ok (.goto 4, 3) := by decide +kernel
theorem dX6_wayEnd_36 : decode cX6_wayEnd 36 = .ok (.iconst 0, 1) := by decide +kernel
theorem dX6_wayEnd_37 : decode cX6_wayEnd 37 = .ok (.istore 9, 2) := by decide +kernel
theorem dX6_wayEnd_39 : decode cX6_wayEnd 39 = .ok (.iload 9, 2) := by decide +kernel
theorem dX6_wayEnd_41 : decode cX6_wayEnd 41 = .ok (.ifCond .eq 8, 3) := by decide +kernel
theorem dX6_wayEnd_44 : decode cX6_wayEnd 44 = .ok (.bipush (-5), 2) := by decide +kernel
theorem dX6_wayEnd_46 : decode cX6_wayEnd 46 = .ok (.goto 13, 3) := by decide +kernel
theorem dX6_wayEnd_49 : decode cX6_wayEnd 49 = .ok (.iload 7, 2) := by decide +kernel
theorem dX6_wayEnd_51 : decode cX6_wayEnd 51 = .ok (.iload 4, 2) := by decide +kernel
theorem dX6_wayEnd_53 : decode cX6_wayEnd 53 = .ok (.bipush 10, 2) := by decide +kernel
theorem dX6_wayEnd_55 : decode cX6_wayEnd 55 = .ok (.idiv, 1) := by decide +kernel
theorem dX6_wayEnd_56 : decode cX6_wayEnd 56 = .ok (.invokestatic 65, 3) := by decide +kernel
theorem dX6_wayEnd_59 : decode cX6_wayEnd 59 = .ok (.istore 7, 2) := by decide +kernel
theorem dX6_wayEnd_61 : decode cX6_wayEnd 61 = .ok (.iload 7, 2) := by decide +kernel
theorem dX6_wayEnd_63 : decode cX6_wayEnd 63 = .ok (.bipush (-5), 2) := by decide +kernel
theorem dX6_wayEnd_65 : decode cX6_wayEnd 65 = .ok (.if_icmp .eq 31, 3) := by decide +kernel
theorem dX6_wayEnd_68 : decode cX6_wayEnd 68 = .ok (.iload 7, 2) := by decide +kernel
theorem dX6_wayEnd_70 : decode cX6_wayEnd 70 = .ok (.iconst 1, 1) := by decide +kernel
theorem dX6_wayEnd_71 : decode cX6_wayEnd 71 = .ok (.iload 6, 2) := by decide +kernel
theorem dX6_wayEnd_73 : decode cX6_wayEnd 73 = .ok (.isub, 1) := by decide +kernel
theorem dX6_wayEnd_74 : decode cX6_wayEnd 74 = .ok (.invokestatic 61, 3) := by decide +kernel
theorem dX6_wayEnd_77 : decode cX6_wayEnd 77 = .ok (.if_icmp .eq 19, 3) := by decide +kernel
theorem dX6_wayEnd_80 : decode cX6_wayEnd 80 = .ok (.aload_n 0, 1) := by decide +kernel
theorem dX6_wayEnd_81 : decode cX6_wayEnd 81 = .ok (.iload_n 1, 1) := by decide +kernel
theorem dX6_wayEnd_82 : decode cX6_wayEnd 82 = .ok (.iload 7, 2) := by decide +kernel
theorem dX6_wayEnd_84 : decode cX6_wayEnd 84 = .ok (.iload_n 2, 1) := by decide +kernel
theorem dX6_wayEnd_85 : decode cX6_wayEnd 85 = .ok (.bipush 100, 2) := by decide +kernel
theorem dX6_wayEnd_87 : decode cX6_wayEnd 87 = .ok (.irem, 1) := by decide +kernel
theorem dX6_wayEnd_88 : decode cX6_wayEnd 88 = .ok (.iload 5, 2) := by decide +kernel
theorem dX6_wayEnd_90 : decode cX6_wayEnd 90 = .ok (.invokevirtual 57, 3) := by decide +kernel
theorem dX6_wayEnd_93 : decode cX6_wayEnd 93 = .ok (.ifCond .ne 6, 3) := by decide +kernel
theorem dX6_wayEnd_96 : decode cX6_wayEnd 96 = .ok (.bipush (-5), 2) := by decide +kernel
theorem dX6_wayEnd_98 : decode cX6_wayEnd 98 = .ok (.ireturn, 1) := by decide +kernel
theorem dX6_wayEnd_99 : decode cX6_wayEnd 99 = .ok (.iinc 8 1, 3) := by decide +kernel
theorem dX6_wayEnd_102 : decode cX6_wayEnd 102 = .ok (.goto (-90), 3) := by decide +kernel
theorem dX6_wayEnd_105 : decode cX6_wayEnd 105 = .ok (.iload 7, 2) := by decide +kernel
theorem dX6_wayEnd_107 : decode cX6_wayEnd 107 = .ok (.ireturn, 1) := by decide +kernel
theorem dX6_boatAt_0 : decode cX6_boatAt 0 = .ok (.iconst 0, 1) := by decide +kernel
theorem dX6_boatAt_1 : decode cX6_boatAt 1 = .ok (.istore_n 3, 1) := by decide +kernel
theorem dX6_boatAt_2 : decode cX6_boatAt 2 = .ok (.iload_n 3, 1) := by decide +kernel
theorem dX6_boatAt_3 : decode cX6_boatAt 3 = .ok (.aload_n 0, 1) := by decide +kernel
theorem dX6_boatAt_4 : decode cX6_boatAt 4 = .ok (.getfield 7, 3) := by decide +kernel
theorem dX6_boatAt_7 : decode cX6_boatAt 7 = .ok (.iload_n 1, 1) := by decide +kernel
theorem dX6_boatAt_8 : decode cX6_boatAt 8 = .ok (.bipush 127, 2) := by decide +kernel
theorem dX6_boatAt_10 : decode cX6_boatAt 10 = .ok (.iadd, 1) := by decide +kernel
theorem dX6_boatAt_11 : decode cX6_boatAt 11 = .ok (.iaload, 1) := by decide +kernel
theorem dX6_boatAt_12 : decode cX6_boatAt 12 = .ok (.if_icmp .ge 32, 3) := by decide +kernel
theorem dX6_boatAt_15 : decode cX6_boatAt 15 = .ok (.aload_n 0, 1) := by decide +kernel
theorem dX6_boatAt_16 : decode cX6_boatAt 16 = .ok (.iload_n 1, 1) := by decide +kernel
theorem dX6_boatAt_17 : decode cX6_boatAt 17 = .ok (.iload_n 3, 1) := by decide +kernel
theorem dX6_boatAt_18 : decode cX6_boatAt 18 = .ok (.iconst 2, 1) := by decide +kernel
theorem dX6_boatAt_19 : decode cX6_boatAt 19 = .ok (.invokevirtual 68, 3) := by decide +kernel
theorem dX6_boatAt_22 : decode cX6_boatAt 22 = .ok (.ifCond .ne 16, 3) := by decide +kernel
theorem dX6_boatAt_25 : decode cX6_boatAt 25 = .ok (.aload_n 0, 1) := by decide +kernel
theorem dX6_boatAt_26 : decode cX6_boatAt 26 = .ok (.iload_n 1, 1) := by decide +kernel
theorem dX6_boatAt_27 : decode cX6_boatAt 27 = .ok (.iload_n 3, 1) := by decide +kernel
theorem dX6_boatAt_28 : decode cX6_boatAt 28 = .ok (.iconst 3, 1) := by decide +kernel
theorem dX6_boatAt_29 : decode cX6_boatAt 29 = .ok (.invokevirtual 68, 3) := by decide +kernel
theorem dX6_boatAt_32 : decode cX6_boatAt 32 = .ok (.iload_n 2, 1) := by decide +kernel
theorem dX6_boatAt_33 : decode cX6_boatAt 33 = .ok (.if_icmp .ne 5, 3) := by decide +kernel
theorem dX6_boatAt_36 : decode cX6_boatAt 36 = .ok (.iload_n 3, 1) := by decide +kernel
theorem dX6_boatAt_37 : decode cX6_boatAt 37 = .ok (.ireturn, 1) := by decide +kernel
theorem dX6_boatAt_38 : decode cX6_boatAt 38 = .ok (.iinc 3 1, 3) := by decide +kernel
theorem dX6_boatAt_41 : decode cX6_boatAt 41 = .ok (.goto (-39), 3) := by decide +kernel
theorem dX6_boatAt_44 : decode cX6_boatAt 44 = .ok (.bipush (-5), 2) := by decide +kernel
theorem dX6_boatAt_46 : decode cX6_boatAt 46 = .ok (.ireturn, 1) := by decide +kernel
theorem dX6_isAfloat_0 : decode cX6_isAfloat 0 = .ok (.aload_n 0, 1) := by decide +kernel
theorem dX6_isAfloat_1 : decode cX6_isAfloat 1 = .ok (.iload_n 1, 1) := by decide +kernel
theorem dX6_isAfloat_2 : decode cX6_isAfloat 2 = .ok (.iload_n 2, 1) := by decide +kernel
theorem dX6_isAfloat_3 : decode cX6_isAfloat 3 = .ok (.iconst 2, 1) := by decide +kernel
theorem dX6_isAfloat_4 : decode cX6_isAfloat 4 = .ok (.invokevirtual 68, 3) := by decide +kernel
theorem dX6_isAfloat_7 : decode cX6_isAfloat 7 = .ok (.ifCond .ne 38, 3) := by decide +kernel
theorem dX6_isAfloat_10 : decode cX6_isAfloat 10 = .ok (.aload_n 0, 1) := by decide +kernel
theorem dX6_isAfloat_11 : decode cX6_isAfloat 11 = .ok (.iload_n 1, 1) := by decide +kernel
theorem dX6_isAfloat_12 : decode cX6_isAfloat 12 = .ok (.aload_n 0, 1) := by decide +kernel
theorem dX6_isAfloat_13 : decode cX6_isAfloat 13 = .ok (.iload_n 1, 1) := by decide +kernel
theorem dX6_isAfloat_14 : decode cX6_isAfloat 14 = .ok (.iload_n 2, 1) := by decide +kernel
theorem dX6_isAfloat_15 : decode cX6_isAfloat 15 = .ok (.iconst 3, 1) := by decide +kernel
theorem dX6_isAfloat_16 : decode cX6_isAfloat 16 = .ok (.invokevirtual 68, 3) := by decide +kernel
theorem dX6_isAfloat_19 : decode cX6_isAfloat 19 = .ok (.aload_n 0, 1) := by decide +kernel
