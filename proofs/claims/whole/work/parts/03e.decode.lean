theorem dX6_does_67 : decode cX6_does 67 = .ok (.bipush 57, 2) := by decide +kernel
theorem dX6_does_69 : decode cX6_does 69 = .ok (.invokevirtual 142, 3) := by decide +kernel
theorem dX6_does_72 : decode cX6_does 72 = .ok (.ifCond .eq 43, 3) := by decide +kernel
theorem dX6_does_75 : decode cX6_does 75 = .ok (.aload_n 0, 1) := by decide +kernel
theorem dX6_does_76 : decode cX6_does 76 = .ok (.sipush 129, 3) := by decide +kernel
theorem dX6_does_79 : decode cX6_does 79 = .ok (.aload_n 0, 1) := by decide +kernel
theorem dX6_does_80 : decode cX6_does 80 = .ok (.iload_n 1, 1) := by decide +kernel
theorem dX6_does_81 : decode cX6_does 81 = .ok (.invokevirtual 139, 3) := by decide +kernel
theorem dX6_does_84 : decode cX6_does 84 = .ok (.bipush 48, 2) := by decide +kernel
theorem dX6_does_86 : decode cX6_does 86 = .ok (.isub, 1) := by decide +kernel
theorem dX6_does_87 : decode cX6_does 87 = .ok (.aload_n 0, 1) := by decide +kernel
theorem dX6_does_88 : decode cX6_does 88 = .ok (.aload_n 0, 1) := by decide +kernel
theorem dX6_does_89 : decode cX6_does 89 = .ok (.iload_n 1, 1) := by decide +kernel
theorem dX6_does_90 : decode cX6_does 90 = .ok (.iconst 1, 1) := by decide +kernel
theorem dX6_does_91 : decode cX6_does 91 = .ok (.iadd, 1) := by decide +kernel
theorem dX6_does_92 : decode cX6_does 92 = .ok (.invokevirtual 139, 3) := by decide +kernel
theorem dX6_does_95 : decode cX6_does 95 = .ok (.invokevirtual 148, 3) := by decide +kernel
theorem dX6_does_98 : decode cX6_does 98 = .ok (.aload_n 0, 1) := by decide +kernel
theorem dX6_does_99 : decode cX6_does 99 = .ok (.iload_n 1, 1) := by decide +kernel
theorem dX6_does_100 : decode cX6_does 100 = .ok (.iconst 2, 1) := by decide +kernel
theorem dX6_does_101 : decode cX6_does 101 = .ok (.iadd, 1) := by decide +kernel
theorem dX6_does_102 : decode cX6_does 102 = .ok (.invokevirtual 139, 3) := by decide +kernel
theorem dX6_does_105 : decode cX6_does 105 = .ok (.bipush 48, 2) := by decide +kernel
theorem dX6_does_107 : decode cX6_does 107 = .ok (.isub, 1) := by decide +kernel
theorem dX6_does_108 : decode cX6_does 108 = .ok (.invokestatic 127, 3) := by decide +kernel
theorem dX6_does_111 : decode cX6_does 111 = .ok (.invokevirtual 130, 3) := by decide +kernel
theorem dX6_does_114 : decode cX6_does 114 = .ok (.ireturn, 1) := by decide +kernel
theorem dX6_does_115 : decode cX6_does 115 = .ok (.aload_n 0, 1) := by decide +kernel
theorem dX6_does_116 : decode cX6_does 116 = .ok (.sipush 129, 3) := by decide +kernel
theorem dX6_does_119 : decode cX6_does 119 = .ok (.aload_n 0, 1) := by decide +kernel
theorem dX6_does_120 : decode cX6_does 120 = .ok (.iload_n 1, 1) := by decide +kernel
theorem dX6_does_121 : decode cX6_does 121 = .ok (.invokevirtual 157, 3) := by decide +kernel
theorem dX6_does_124 : decode cX6_does 124 = .ok (.aload_n 0, 1) := by decide +kernel
theorem dX6_does_125 : decode cX6_does 125 = .ok (.iload_n 1, 1) := by decide +kernel
theorem dX6_does_126 : decode cX6_does 126 = .ok (.iconst 3, 1) := by decide +kernel
theorem dX6_does_127 : decode cX6_does 127 = .ok (.iadd, 1) := by decide +kernel
theorem dX6_does_128 : decode cX6_does 128 = .ok (.invokevirtual 139, 3) := by decide +kernel
theorem dX6_does_131 : decode cX6_does 131 = .ok (.bipush 48, 2) := by decide +kernel
theorem dX6_does_133 : decode cX6_does 133 = .ok (.isub, 1) := by decide +kernel
theorem dX6_does_134 : decode cX6_does 134 = .ok (.aload_n 0, 1) := by decide +kernel
theorem dX6_does_135 : decode cX6_does 135 = .ok (.iload_n 1, 1) := by decide +kernel
theorem dX6_does_136 : decode cX6_does 136 = .ok (.iconst 4, 1) := by decide +kernel
theorem dX6_does_137 : decode cX6_does 137 = .ok (.iadd, 1) := by decide +kernel
theorem dX6_does_138 : decode cX6_does 138 = .ok (.invokevirtual 139, 3) := by decide +kernel
theorem dX6_does_141 : decode cX6_does 141 = .ok (.bipush 42, 2) := by decide +kernel
theorem dX6_does_143 : decode cX6_does 143 = .ok (.if_icmp .ne 7, 3) := by decide +kernel
theorem dX6_does_146 : decode cX6_does 146 = .ok (.iconst 1, 1) := by decide +kernel
theorem dX6_does_147 : decode cX6_does 147 = .ok (.goto 4, 3) := by decide +kernel
theorem dX6_does_150 : decode cX6_does 150 = .ok (.iconst 0, 1) := by decide +kernel
theorem dX6_does_151 : decode cX6_does 151 = .ok (.invokevirtual 117, 3) := by decide +kernel
theorem dX6_does_154 : decode cX6_does 154 = .ok (.ireturn, 1) := by decide +kernel
theorem dX6_doAll_0 : decode cX6_doAll 0 = .ok (.aload_n 0, 1) := by decide +kernel
theorem dX6_doAll_1 : decode cX6_doAll 1 = .ok (.invokevirtual 160, 3) := by decide +kernel
theorem dX6_doAll_4 : decode cX6_doAll 4 = .ok (.istore_n 1, 1) := by decide +kernel
theorem dX6_doAll_5 : decode cX6_doAll 5 = .ok (.iload_n 1, 1) := by decide +kernel
theorem dX6_doAll_6 : decode cX6_doAll 6 = .ok (.bipush (-5), 2) := by decide +kernel
theorem dX6_doAll_8 : decode cX6_doAll 8 = .ok (.if_icmp .eq 8, 3) := by decide +kernel
theorem dX6_doAll_11 : decode cX6_doAll 11 = .ok (.bipush (-100), 2) := by decide +kernel
theorem dX6_doAll_13 : decode cX6_doAll 13 = .ok (.iload_n 1, 1) := by decide +kernel
theorem dX6_doAll_14 : decode cX6_doAll 14 = .ok (.isub, 1) := by decide +kernel
theorem dX6_doAll_15 : decode cX6_doAll 15 = .ok (.ireturn, 1) := by decide +kernel
theorem dX6_doAll_16 : decode cX6_doAll 16 = .ok (.aload_n 0, 1) := by decide +kernel
theorem dX6_doAll_17 : decode cX6_doAll 17 = .ok (.invokevirtual 114, 3) := by decide +kernel
theorem dX6_doAll_20 : decode cX6_doAll 20 = .ok (.iconst 0, 1) := by decide +kernel
theorem dX6_doAll_21 : decode cX6_doAll 21 = .ok (.istore_n 2, 1) := by decide +kernel
theorem dX6_doAll_22 : decode cX6_doAll 22 = .ok (.iconst 0, 1) := by decide +kernel
theorem dX6_doAll_23 : decode cX6_doAll 23 = .ok (.istore_n 3, 1) := by decide +kernel
theorem dX6_doAll_24 : decode cX6_doAll 24 = .ok (.iload_n 3, 1) := by decide +kernel
theorem dX6_doAll_25 : decode cX6_doAll 25 = .ok (.aload_n 0, 1) := by decide +kernel
theorem dX6_doAll_26 : decode cX6_doAll 26 = .ok (.getfield 136, 3) := by decide +kernel
theorem dX6_doAll_29 : decode cX6_doAll 29 = .ok (.if_icmp .ge 39, 3) := by decide +kernel
theorem dX6_doAll_32 : decode cX6_doAll 32 = .ok (.aload_n 0, 1) := by decide +kernel
theorem dX6_doAll_33 : decode cX6_doAll 33 = .ok (.iload_n 3, 1) := by decide +kernel
theorem dX6_doAll_34 : decode cX6_doAll 34 = .ok (.invokevirtual 164, 3) := by decide +kernel
theorem dX6_doAll_37 : decode cX6_doAll 37 = .ok (.istore 4, 2) := by decide +kernel
theorem dX6_doAll_39 : decode cX6_doAll 39 = .ok (.iload 4, 2) := by decide +kernel
theorem dX6_doAll_41 : decode cX6_doAll 41 = .ok (.ifCond .ge 13, 3) := by decide +kernel
theorem dX6_doAll_44 : decode cX6_doAll 44 = .ok (.iload 4, 2) := by decide +kernel
theorem dX6_doAll_46 : decode cX6_doAll 46 = .ok (.bipush (-5), 2) := by decide +kernel
theorem dX6_doAll_48 : decode cX6_doAll 48 = .ok (.if_icmp .eq 6, 3) := by decide +kernel
theorem dX6_doAll_51 : decode cX6_doAll 51 = .ok (.iload 4, 2) := by decide +kernel
theorem dX6_doAll_53 : decode cX6_doAll 53 = .ok (.ireturn, 1) := by decide +kernel
theorem dX6_doAll_54 : decode cX6_doAll 54 = .ok (.iinc 2 1, 3) := by decide +kernel
theorem dX6_doAll_57 : decode cX6_doAll 57 = .ok (.aload_n 0, 1) := by decide +kernel
theorem dX6_doAll_58 : decode cX6_doAll 58 = .ok (.iload_n 3, 1) := by decide +kernel
theorem dX6_doAll_59 : decode cX6_doAll 59 = .ok (.invokevirtual 154, 3) := by decide +kernel
theorem dX6_doAll_62 : decode cX6_doAll 62 = .ok (.iconst 1, 1) := by decide +kernel
theorem dX6_doAll_63 : decode cX6_doAll 63 = .ok (.iadd, 1) := by decide +kernel
theorem dX6_doAll_64 : decode cX6_doAll 64 = .ok (.istore_n 3, 1) := by decide +kernel
theorem dX6_doAll_65 : decode cX6_doAll 65 = .ok (.goto (-41), 3) := by decide +kernel
theorem dX6_doAll_68 : decode cX6_doAll 68 = .ok (.aload_n 0, 1) := by decide +kernel
theorem dX6_doAll_69 : decode cX6_doAll 69 = .ok (.iload_n 2, 1) := by decide +kernel
theorem dX6_doAll_70 : decode cX6_doAll 70 = .ok (.invokevirtual 121, 3) := by decide +kernel
theorem dX6_doAll_73 : decode cX6_doAll 73 = .ok (.ireturn, 1) := by decide +kernel
theorem dX6_undo_0 : decode cX6_undo 0 = .ok (.aload_n 0, 1) := by decide +kernel
theorem dX6_undo_1 : decode cX6_undo 1 = .ok (.getfield 43, 3) := by decide +kernel
theorem dX6_undo_4 : decode cX6_undo 4 = .ok (.ifCond .ne 6, 3) := by decide +kernel
theorem dX6_undo_7 : decode cX6_undo 7 = .ok (.bipush (-5), 2) := by decide +kernel
theorem dX6_undo_9 : decode cX6_undo 9 = .ok (.ireturn, 1) := by decide +kernel
theorem dX6_undo_10 : decode cX6_undo 10 = .ok (.aload_n 0, 1) := by decide +kernel
theorem dX6_undo_11 : decode cX6_undo 11 = .ok (.dup, 1) := by decide +kernel
theorem dX6_undo_12 : decode cX6_undo 12 = .ok (.getfield 43, 3) := by decide +kernel
theorem dX6_undo_15 : decode cX6_undo 15 = .ok (.iconst 1, 1) := by decide +kernel
theorem dX6_undo_16 : decode cX6_undo 16 = .ok (.isub, 1) := by decide +kernel
theorem dX6_undo_17 : decode cX6_undo 17 = .ok (.putfield 43, 3) := by decide +kernel
theorem dX6_undo_20 : decode cX6_undo 20 = .ok (.iconst 0, 1) := by decide +kernel
theorem dX6_undo_21 : decode cX6_undo 21 = .ok (.istore_n 1, 1) := by decide +kernel
theorem dX6_undo_22 : decode cX6_undo 22 = .ok (.iload_n 1, 1) := by decide +kernel
theorem dX6_undo_23 : decode cX6_undo 23 = .ok (.sipush 129, 3) := by decide +kernel
theorem dX6_undo_26 : decode cX6_undo 26 = .ok (.if_icmp .ge 30, 3) := by decide +kernel
theorem dX6_undo_29 : decode cX6_undo 29 = .ok (.aload_n 0, 1) := by decide +kernel
theorem dX6_undo_30 : decode cX6_undo 30 = .ok (.getfield 7, 3) := by decide +kernel
theorem dX6_undo_33 : decode cX6_undo 33 = .ok (.iload_n 1, 1) := by decide +kernel
theorem dX6_undo_34 : decode cX6_undo 34 = .ok (.aload_n 0, 1) := by decide +kernel
theorem dX6_undo_35 : decode cX6_undo 35 = .ok (.getfield 13, 3) := by decide +kernel
theorem dX6_undo_38 : decode cX6_undo 38 = .ok (.sipush 129, 3) := by decide +kernel
theorem dX6_undo_41 : decode cX6_undo 41 = .ok (.aload_n 0, 1) := by decide +kernel
theorem dX6_undo_42 : decode cX6_undo 42 = .ok (.getfield 43, 3) := by decide +kernel
theorem dX6_undo_45 : decode cX6_undo 45 = .ok (.imul, 1) := by decide +kernel
theorem dX6_undo_46 : decode cX6_undo 46 = .ok (.iload_n 1, 1) := by decide +kernel
theorem dX6_undo_47 : decode cX6_undo 47 = .ok (.iadd, 1) := by decide +kernel
theorem dX6_undo_48 : decode cX6_undo 48 = .ok (.iaload, 1) := by decide +kernel
theorem dX6_undo_49 : decode cX6_undo 49 = .ok (.iastore, 1) := by decide +kernel
theorem dX6_undo_50 : decode cX6_undo 50 = .ok (.iinc 1 1, 3) := by decide +kernel
theorem dX6_undo_53 : decode cX6_undo 53 = .ok (.goto (-31), 3) := by decide +kernel
theorem dX6_undo_56 : decode cX6_undo 56 = .ok (.aload_n 0, 1) := by decide +kernel
theorem dX6_undo_57 : decode cX6_undo 57 = .ok (.getfield 43, 3) := by decide +kernel
theorem dX6_undo_60 : decode cX6_undo 60 = .ok (.ireturn, 1) := by decide +kernel
theorem dX6_keep_0 : decode cX6_keep 0 = .ok (.iconst 0, 1) := by decide +kernel
theorem dX6_keep_1 : decode cX6_keep 1 = .ok (.istore_n 1, 1) := by decide +kernel
theorem dX6_keep_2 : decode cX6_keep 2 = .ok (.iload_n 1, 1) := by decide +kernel
theorem dX6_keep_3 : decode cX6_keep 3 = .ok (.sipush 129, 3) := by decide +kernel
theorem dX6_keep_6 : decode cX6_keep 6 = .ok (.if_icmp .ge 21, 3) := by decide +kernel
theorem dX6_keep_9 : decode cX6_keep 9 = .ok (.aload_n 0, 1) := by decide +kernel
theorem dX6_keep_10 : decode cX6_keep 10 = .ok (.getfield 16, 3) := by decide +kernel
theorem dX6_keep_13 : decode cX6_keep 13 = .ok (.iload_n 1, 1) := by decide +kernel
theorem dX6_keep_14 : decode cX6_keep 14 = .ok (.aload_n 0, 1) := by decide +kernel
theorem dX6_keep_15 : decode cX6_keep 15 = .ok (.getfield 7, 3) := by decide +kernel
theorem dX6_keep_18 : decode cX6_keep 18 = .ok (.iload_n 1, 1) := by decide +kernel
theorem dX6_keep_19 : decode cX6_keep 19 = .ok (.iaload, 1) := by decide +kernel
theorem dX6_keep_20 : decode cX6_keep 20 = .ok (.iastore, 1) := by decide +kernel
theorem dX6_keep_21 : decode cX6_keep 21 = .ok (.iinc 1 1, 3) := by decide +kernel
theorem dX6_keep_24 : decode cX6_keep 24 = .ok (.goto (-22), 3) := by decide +kernel
theorem dX6_keep_27 : decode cX6_keep 27 = .ok (.aload_n 0, 1) := by decide +kernel
theorem dX6_keep_28 : decode cX6_keep 28 = .ok (.iconst 1, 1) := by decide +kernel
theorem dX6_keep_29 : decode cX6_keep 29 = .ok (.putfield 167, 3) := by decide +kernel
theorem dX6_keep_32 : decode cX6_keep 32 = .ok (.aload_n 0, 1) := by decide +kernel
theorem dX6_keep_33 : decode cX6_keep 33 = .ok (.getfield 7, 3) := by decide +kernel
theorem dX6_keep_36 : decode cX6_keep 36 = .ok (.bipush 126, 2) := by decide +kernel
theorem dX6_keep_38 : decode cX6_keep 38 = .ok (.iaload, 1) := by decide +kernel
theorem dX6_keep_39 : decode cX6_keep 39 = .ok (.ireturn, 1) := by decide +kernel
theorem dX6_restore_0 : decode cX6_restore 0 = .ok (.aload_n 0, 1) := by decide +kernel
theorem dX6_restore_1 : decode cX6_restore 1 = .ok (.getfield 167, 3) := by decide +kernel
theorem dX6_restore_4 : decode cX6_restore 4 = .ok (.ifCond .ne 6, 3) := by decide +kernel
theorem dX6_restore_7 : decode cX6_restore 7 = .ok (.bipush (-5), 2) := by decide +kernel
theorem dX6_restore_9 : decode cX6_restore 9 = .ok (.ireturn, 1) := by decide +kernel
theorem dX6_restore_10 : decode cX6_restore 10 = .ok (.aload_n 0, 1) := by decide +kernel
theorem dX6_restore_11 : decode cX6_restore 11 = .ok (.invokevirtual 47, 3) := by decide +kernel
theorem dX6_restore_14 : decode cX6_restore 14 = .ok (.iconst 0, 1) := by decide +kernel
theorem dX6_restore_15 : decode cX6_restore 15 = .ok (.istore_n 1, 1) := by decide +kernel
theorem dX6_restore_16 : decode cX6_restore 16 = .ok (.iload_n 1, 1) := by decide +kernel
theorem dX6_restore_17 : decode cX6_restore 17 = .ok (.sipush 129, 3) := by decide +kernel
theorem dX6_restore_20 : decode cX6_restore 20 = .ok (.if_icmp .ge 21, 3) := by decide +kernel
theorem dX6_restore_23 : decode cX6_restore 23 = .ok (.aload_n 0, 1) := by decide +kernel
theorem dX6_restore_24 : decode cX6_restore 24 = .ok (.getfield 7, 3) := by decide +kernel
theorem dX6_restore_27 : decode cX6_restore 27 = .ok (.iload_n 1, 1) := by decide +kernel
theorem dX6_restore_28 : decode cX6_restore 28 = .ok (.aload_n 0, 1) := by decide +kernel
theorem dX6_restore_29 : decode cX6_restore 29 = .ok (.getfield 16, 3) := by decide +kernel
theorem dX6_restore_32 : decode cX6_restore 32 = .ok (.iload_n 1, 1) := by decide +kernel
theorem dX6_restore_33 : decode cX6_restore 33 = .ok (.iaload, 1) := by decide +kernel
theorem dX6_restore_34 : decode cX6_restore 34 = .ok (.iastore, 1) := by decide +kernel
theorem dX6_restore_35 : decode cX6_restore 35 = .ok (.iinc 1 1, 3) := by decide +kernel
theorem dX6_restore_38 : decode cX6_restore 38 = .ok (.goto (-22), 3) := by decide +kernel
theorem dX6_restore_41 : decode cX6_restore 41 = .ok (.aload_n 0, 1) := by decide +kernel
theorem dX6_restore_42 : decode cX6_restore 42 = .ok (.getfield 7, 3) := by decide +kernel
theorem dX6_restore_45 : decode cX6_restore 45 = .ok (.bipush 126, 2) := by decide +kernel
theorem dX6_restore_47 : decode cX6_restore 47 = .ok (.iaload, 1) := by decide +kernel
theorem dX6_restore_48 : decode cX6_restore 48 = .ok (.ireturn, 1) := by decide +kernel
theorem dX6_cellOf_0 : decode cX6_cellOf 0 = .ok (.iload_n 1, 1) := by decide +kernel
theorem dX6_cellOf_1 : decode cX6_cellOf 1 = .ok (.invokestatic 98, 3) := by decide +kernel
theorem dX6_cellOf_4 : decode cX6_cellOf 4 = .ok (.ifCond .ne 5, 3) := by decide +kernel
theorem dX6_cellOf_7 : decode cX6_cellOf 7 = .ok (.iconst (-1), 1) := by decide +kernel
theorem dX6_cellOf_8 : decode cX6_cellOf 8 = .ok (.ireturn, 1) := by decide +kernel
theorem dX6_cellOf_9 : decode cX6_cellOf 9 = .ok (.iload_n 2, 1) := by decide +kernel
theorem dX6_cellOf_10 : decode cX6_cellOf 10 = .ok (.tableswitch 70 0 3 #[30, 39, 49, 63], 30) := by decide +kernel
theorem dX6_cellOf_40 : decode cX6_cellOf 40 = .ok (.aload_n 0, 1) := by decide +kernel
theorem dX6_cellOf_41 : decode cX6_cellOf 41 = .ok (.getfield 7, 3) := by decide +kernel
theorem dX6_cellOf_44 : decode cX6_cellOf 44 = .ok (.iconst 0, 1) := by decide +kernel
theorem dX6_cellOf_45 : decode cX6_cellOf 45 = .ok (.iload_n 1, 1) := by decide +kernel
theorem dX6_cellOf_46 : decode cX6_cellOf 46 = .ok (.iadd, 1) := by decide +kernel
theorem dX6_cellOf_47 : decode cX6_cellOf 47 = .ok (.iaload, 1) := by decide +kernel
theorem dX6_cellOf_48 : decode cX6_cellOf 48 = .ok (.ireturn, 1) := by decide +kernel
theorem dX6_cellOf_49 : decode cX6_cellOf 49 = .ok (.aload_n 0, 1) := by decide +kernel
theorem dX6_cellOf_50 : decode cX6_cellOf 50 = .ok (.getfield 7, 3) := by decide +kernel
theorem dX6_cellOf_53 : decode cX6_cellOf 53 = .ok (.bipush 36, 2) := by decide +kernel
theorem dX6_cellOf_55 : decode cX6_cellOf 55 = .ok (.iload_n 1, 1) := by decide +kernel
theorem dX6_cellOf_56 : decode cX6_cellOf 56 = .ok (.iadd, 1) := by decide +kernel
theorem dX6_cellOf_57 : decode cX6_cellOf 57 = .ok (.iaload, 1) := by decide +kernel
theorem dX6_cellOf_58 : decode cX6_cellOf 58 = .ok (.ireturn, 1) := by decide +kernel
theorem dX6_cellOf_59 : decode cX6_cellOf 59 = .ok (.aload_n 0, 1) := by decide +kernel
theorem dX6_cellOf_60 : decode cX6_cellOf 60 = .ok (.iconst 0, 1) := by decide +kernel
theorem dX6_cellOf_61 : decode cX6_cellOf 61 = .ok (.iload_n 1, 1) := by decide +kernel
theorem dX6_cellOf_62 : decode cX6_cellOf 62 = .ok (.aload_n 0, 1) := by decide +kernel
theorem dX6_cellOf_63 : decode cX6_cellOf 63 = .ok (.getfield 7, 3) := by decide +kernel
theorem dX6_cellOf_66 : decode cX6_cellOf 66 = .ok (.bipush 126, 2) := by decide +kernel
theorem dX6_cellOf_68 : decode cX6_cellOf 68 = .ok (.iaload, 1) := by decide +kernel
theorem dX6_cellOf_69 : decode cX6_cellOf 69 = .ok (.invokevirtual 53, 3) := by decide +kernel
theorem dX6_cellOf_72 : decode cX6_cellOf 72 = .ok (.ireturn, 1) := by decide +kernel
theorem dX6_cellOf_73 : decode cX6_cellOf 73 = .ok (.aload_n 0, 1) := by decide +kernel
theorem dX6_cellOf_74 : decode cX6_cellOf 74 = .ok (.iconst 0, 1) := by decide +kernel
theorem dX6_cellOf_75 : decode cX6_cellOf 75 = .ok (.iload_n 1, 1) := by decide +kernel
theorem dX6_cellOf_76 : decode cX6_cellOf 76 = .ok (.invokevirtual 71, 3) := by decide +kernel
theorem dX6_cellOf_79 : decode cX6_cellOf 79 = .ok (.ireturn, 1) := by decide +kernel
theorem dX6_cellOf_80 : decode cX6_cellOf 80 = .ok (.bipush (-2), 2) := by decide +kernel
theorem dX6_cellOf_82 : decode cX6_cellOf 82 = .ok (.ireturn, 1) := by decide +kernel
theorem dX6_movesOf_0 : decode cX6_movesOf 0 = .ok (.iconst 0, 1) := by decide +kernel
theorem dX6_movesOf_1 : decode cX6_movesOf 1 = .ok (.istore_n 2, 1) := by decide +kernel
theorem dX6_movesOf_2 : decode cX6_movesOf 2 = .ok (.iconst 0, 1) := by decide +kernel
theorem dX6_movesOf_3 : decode cX6_movesOf 3 = .ok (.istore_n 3, 1) := by decide +kernel
theorem dX6_movesOf_4 : decode cX6_movesOf 4 = .ok (.iload_n 3, 1) := by decide +kernel
theorem dX6_movesOf_5 : decode cX6_movesOf 5 = .ok (.bipush 12, 2) := by decide +kernel
theorem dX6_movesOf_7 : decode cX6_movesOf 7 = .ok (.if_icmp .ge 38, 3) := by decide +kernel
theorem dX6_movesOf_10 : decode cX6_movesOf 10 = .ok (.iload_n 2, 1) := by decide +kernel
theorem dX6_movesOf_11 : decode cX6_movesOf 11 = .ok (.aload_n 0, 1) := by decide +kernel
theorem dX6_movesOf_12 : decode cX6_movesOf 12 = .ok (.iconst 0, 1) := by decide +kernel
theorem dX6_movesOf_13 : decode cX6_movesOf 13 = .ok (.iload_n 1, 1) := by decide +kernel
theorem dX6_movesOf_14 : decode cX6_movesOf 14 = .ok (.bipush 10, 2) := by decide +kernel
theorem dX6_movesOf_16 : decode cX6_movesOf 16 = .ok (.iload_n 3, 1) := by decide +kernel
theorem dX6_movesOf_17 : decode cX6_movesOf 17 = .ok (.iconst 3, 1) := by decide +kernel
theorem dX6_movesOf_18 : decode cX6_movesOf 18 = .ok (.idiv, 1) := by decide +kernel
theorem dX6_movesOf_19 : decode cX6_movesOf 19 = .ok (.imul, 1) := by decide +kernel
theorem dX6_movesOf_20 : decode cX6_movesOf 20 = .ok (.iload_n 3, 1) := by decide +kernel
theorem dX6_movesOf_21 : decode cX6_movesOf 21 = .ok (.iconst 3, 1) := by decide +kernel
theorem dX6_movesOf_22 : decode cX6_movesOf 22 = .ok (.irem, 1) := by decide +kernel
theorem dX6_movesOf_23 : decode cX6_movesOf 23 = .ok (.iadd, 1) := by decide +kernel
theorem dX6_movesOf_24 : decode cX6_movesOf 24 = .ok (.iconst 1, 1) := by decide +kernel
theorem dX6_movesOf_25 : decode cX6_movesOf 25 = .ok (.iadd, 1) := by decide +kernel
theorem dX6_movesOf_26 : decode cX6_movesOf 26 = .ok (.invokevirtual 95, 3) := by decide +kernel
theorem dX6_movesOf_29 : decode cX6_movesOf 29 = .ok (.ifCond .ne 7, 3) := by decide +kernel
theorem dX6_movesOf_32 : decode cX6_movesOf 32 = .ok (.iconst 1, 1) := by decide +kernel
theorem dX6_movesOf_33 : decode cX6_movesOf 33 = .ok (.goto 4, 3) := by decide +kernel
theorem dX6_movesOf_36 : decode cX6_movesOf 36 = .ok (.iconst 0, 1) := by decide +kernel
theorem dX6_movesOf_37 : decode cX6_movesOf 37 = .ok (.iadd, 1) := by decide +kernel
theorem dX6_movesOf_38 : decode cX6_movesOf 38 = .ok (.istore_n 2, 1) := by decide +kernel
theorem dX6_movesOf_39 : decode cX6_movesOf 39 = .ok (.iinc 3 1, 3) := by decide +kernel
theorem dX6_movesOf_42 : decode cX6_movesOf 42 = .ok (.goto (-38), 3) := by decide +kernel
theorem dX6_movesOf_45 : decode cX6_movesOf 45 = .ok (.iload_n 2, 1) := by decide +kernel
theorem dX6_movesOf_46 : decode cX6_movesOf 46 = .ok (.ireturn, 1) := by decide +kernel
theorem dX6_boatOf_0 : decode cX6_boatOf 0 = .ok (.aload_n 0, 1) := by decide +kernel
theorem dX6_boatOf_1 : decode cX6_boatOf 1 = .ok (.iconst 0, 1) := by decide +kernel
theorem dX6_boatOf_2 : decode cX6_boatOf 2 = .ok (.iload_n 1, 1) := by decide +kernel
theorem dX6_boatOf_3 : decode cX6_boatOf 3 = .ok (.invokevirtual 104, 3) := by decide +kernel
theorem dX6_boatOf_6 : decode cX6_boatOf 6 = .ok (.ifCond .ne 5, 3) := by decide +kernel
theorem dX6_boatOf_9 : decode cX6_boatOf 9 = .ok (.iconst (-1), 1) := by decide +kernel
theorem dX6_boatOf_10 : decode cX6_boatOf 10 = .ok (.ireturn, 1) := by decide +kernel
theorem dX6_boatOf_11 : decode cX6_boatOf 11 = .ok (.iload_n 2, 1) := by decide +kernel
theorem dX6_boatOf_12 : decode cX6_boatOf 12 = .ok (.tableswitch 104 0 6 #[44, 44, 44, 52, 75, 90, 98], 44) := by decide +kernel
theorem dX6_boatOf_56 : decode cX6_boatOf 56 = .ok (.aload_n 0, 1) := by decide +kernel
theorem dX6_boatOf_57 : decode cX6_boatOf 57 = .ok (.iconst 0, 1) := by decide +kernel
theorem dX6_boatOf_58 : decode cX6_boatOf 58 = .ok (.iload_n 1, 1) := by decide +kernel
theorem dX6_boatOf_59 : decode cX6_boatOf 59 = .ok (.iload_n 2, 1) := by decide +kernel
theorem dX6_boatOf_60 : decode cX6_boatOf 60 = .ok (.invokevirtual 68, 3) := by decide +kernel
theorem dX6_boatOf_63 : decode cX6_boatOf 63 = .ok (.ireturn, 1) := by decide +kernel
theorem dX6_boatOf_64 : decode cX6_boatOf 64 = .ok (.aload_n 0, 1) := by decide +kernel
theorem dX6_boatOf_65 : decode cX6_boatOf 65 = .ok (.iconst 0, 1) := by decide +kernel
theorem dX6_boatOf_66 : decode cX6_boatOf 66 = .ok (.iload_n 1, 1) := by decide +kernel
theorem dX6_boatOf_67 : decode cX6_boatOf 67 = .ok (.iconst 2, 1) := by decide +kernel
theorem dX6_boatOf_68 : decode cX6_boatOf 68 = .ok (.invokevirtual 68, 3) := by decide +kernel
theorem dX6_boatOf_71 : decode cX6_boatOf 71 = .ok (.ifCond .ne 13, 3) := by decide +kernel
theorem dX6_boatOf_74 : decode cX6_boatOf 74 = .ok (.aload_n 0, 1) := by decide +kernel
theorem dX6_boatOf_75 : decode cX6_boatOf 75 = .ok (.iconst 0, 1) := by decide +kernel
theorem dX6_boatOf_76 : decode cX6_boatOf 76 = .ok (.iload_n 1, 1) := by decide +kernel
theorem dX6_boatOf_77 : decode cX6_boatOf 77 = .ok (.iconst 3, 1) := by decide +kernel
theorem dX6_boatOf_78 : decode cX6_boatOf 78 = .ok (.invokevirtual 68, 3) := by decide +kernel
theorem dX6_boatOf_81 : decode cX6_boatOf 81 = .ok (.goto 5, 3) := by decide +kernel
theorem dX6_boatOf_84 : decode cX6_boatOf 84 = .ok (.bipush (-5), 2) := by decide +kernel
theorem dX6_boatOf_86 : decode cX6_boatOf 86 = .ok (.ireturn, 1) := by decide +kernel
theorem dX6_boatOf_87 : decode cX6_boatOf 87 = .ok (.aload_n 0, 1) := by decide +kernel
theorem dX6_boatOf_88 : decode cX6_boatOf 88 = .ok (.iconst 0, 1) := by decide +kernel
theorem dX6_boatOf_89 : decode cX6_boatOf 89 = .ok (.iload_n 1, 1) := by decide +kernel
theorem dX6_boatOf_90 : decode cX6_boatOf 90 = .ok (.invokevirtual 74, 3) := by decide +kernel
theorem dX6_boatOf_93 : decode cX6_boatOf 93 = .ok (.ifCond .eq 7, 3) := by decide +kernel
theorem dX6_boatOf_96 : decode cX6_boatOf 96 = .ok (.iconst 1, 1) := by decide +kernel
theorem dX6_boatOf_97 : decode cX6_boatOf 97 = .ok (.goto 4, 3) := by decide +kernel
theorem dX6_boatOf_100 : decode cX6_boatOf 100 = .ok (.iconst 0, 1) := by decide +kernel
theorem dX6_boatOf_101 : decode cX6_boatOf 101 = .ok (.ireturn, 1) := by decide +kernel
theorem dX6_boatOf_102 : decode cX6_boatOf 102 = .ok (.aload_n 0, 1) := by decide +kernel
theorem dX6_boatOf_103 : decode cX6_boatOf 103 = .ok (.iconst 0, 1) := by decide +kernel
theorem dX6_boatOf_104 : decode cX6_boatOf 104 = .ok (.iload_n 1, 1) := by decide +kernel
theorem dX6_boatOf_105 : decode cX6_boatOf 105 = .ok (.iconst 4, 1) := by decide +kernel
theorem dX6_boatOf_106 : decode cX6_boatOf 106 = .ok (.invokevirtual 68, 3) := by decide +kernel
theorem dX6_boatOf_109 : decode cX6_boatOf 109 = .ok (.ireturn, 1) := by decide +kernel
theorem dX6_boatOf_110 : decode cX6_boatOf 110 = .ok (.aload_n 0, 1) := by decide +kernel
theorem dX6_boatOf_111 : decode cX6_boatOf 111 = .ok (.iload_n 1, 1) := by decide +kernel
theorem dX6_boatOf_112 : decode cX6_boatOf 112 = .ok (.invokevirtual 171, 3) := by decide +kernel
theorem dX6_boatOf_115 : decode cX6_boatOf 115 = .ok (.ireturn, 1) := by decide +kernel
theorem dX6_boatOf_116 : decode cX6_boatOf 116 = .ok (.bipush (-2), 2) := by decide +kernel
theorem dX6_boatOf_118 : decode cX6_boatOf 118 = .ok (.ireturn, 1) := by decide +kernel
theorem dX6_tide_0 : decode cX6_tide 0 = .ok (.iload_n 1, 1) := by decide +kernel
theorem dX6_tide_1 : decode cX6_tide 1 = .ok (.iconst 0, 1) := by decide +kernel
theorem dX6_tide_2 : decode cX6_tide 2 = .ok (.sipush 1000, 3) := by decide +kernel
theorem dX6_tide_5 : decode cX6_tide 5 = .ok (.invokestatic 35, 3) := by decide +kernel
theorem dX6_tide_8 : decode cX6_tide 8 = .ok (.ifCond .eq 12, 3) := by decide +kernel
theorem dX6_tide_11 : decode cX6_tide 11 = .ok (.aload_n 0, 1) := by decide +kernel
theorem dX6_tide_12 : decode cX6_tide 12 = .ok (.iconst 0, 1) := by decide +kernel
theorem dX6_tide_13 : decode cX6_tide 13 = .ok (.iload_n 1, 1) := by decide +kernel
theorem dX6_tide_14 : decode cX6_tide 14 = .ok (.invokevirtual 50, 3) := by decide +kernel
theorem dX6_tide_17 : decode cX6_tide 17 = .ok (.goto 4, 3) := by decide +kernel
theorem dX6_tide_20 : decode cX6_tide 20 = .ok (.iconst (-1), 1) := by decide +kernel
theorem dX6_tide_21 : decode cX6_tide 21 = .ok (.ireturn, 1) := by decide +kernel
theorem dX6_why_0 : decode cX6_why 0 = .ok (.aload_n 0, 1) := by decide +kernel
theorem dX6_why_1 : decode cX6_why 1 = .ok (.iconst 0, 1) := by decide +kernel
theorem dX6_why_2 : decode cX6_why 2 = .ok (.iload_n 1, 1) := by decide +kernel
theorem dX6_why_3 : decode cX6_why 3 = .ok (.invokevirtual 104, 3) := by decide +kernel
theorem dX6_why_6 : decode cX6_why 6 = .ok (.ifCond .ne 5, 3) := by decide +kernel
theorem dX6_why_9 : decode cX6_why 9 = .ok (.iconst (-1), 1) := by decide +kernel
theorem dX6_why_10 : decode cX6_why 10 = .ok (.ireturn, 1) := by decide +kernel
theorem dX6_why_11 : decode cX6_why 11 = .ok (.iload_n 2, 1) := by decide +kernel
theorem dX6_why_12 : decode cX6_why 12 = .ok (.iload_n 3, 1) := by decide +kernel
theorem dX6_why_13 : decode cX6_why 13 = .ok (.invokestatic 127, 3) := by decide +kernel
theorem dX6_why_16 : decode cX6_why 16 = .ok (.istore 4, 2) := by decide +kernel
theorem dX6_why_18 : decode cX6_why 18 = .ok (.iload 4, 2) := by decide +kernel
theorem dX6_why_20 : decode cX6_why 20 = .ok (.bipush (-5), 2) := by decide +kernel
theorem dX6_why_22 : decode cX6_why 22 = .ok (.if_icmp .ne 8, 3) := by decide +kernel
theorem dX6_why_25 : decode cX6_why 25 = .ok (.bipush (-2), 2) := by decide +kernel
theorem dX6_why_27 : decode cX6_why 27 = .ok (.goto 11, 3) := by decide +kernel
theorem dX6_why_30 : decode cX6_why 30 = .ok (.aload_n 0, 1) := by decide +kernel
theorem dX6_why_31 : decode cX6_why 31 = .ok (.iconst 0, 1) := by decide +kernel
theorem dX6_why_32 : decode cX6_why 32 = .ok (.iload_n 1, 1) := by decide +kernel
theorem dX6_why_33 : decode cX6_why 33 = .ok (.iload 4, 2) := by decide +kernel
theorem dX6_why_35 : decode cX6_why 35 = .ok (.invokevirtual 107, 3) := by decide +kernel
theorem dX6_why_38 : decode cX6_why 38 = .ok (.ireturn, 1) := by decide +kernel
theorem dX6_score_0 : decode cX6_score 0 = .ok (.iconst 0, 1) := by decide +kernel
theorem dX6_score_1 : decode cX6_score 1 = .ok (.istore_n 2, 1) := by decide +kernel
theorem dX6_score_2 : decode cX6_score 2 = .ok (.iconst 0, 1) := by decide +kernel
theorem dX6_score_3 : decode cX6_score 3 = .ok (.istore_n 3, 1) := by decide +kernel
theorem dX6_score_4 : decode cX6_score 4 = .ok (.iload_n 3, 1) := by decide +kernel
theorem dX6_score_5 : decode cX6_score 5 = .ok (.aload_n 0, 1) := by decide +kernel
theorem dX6_score_6 : decode cX6_score 6 = .ok (.getfield 7, 3) := by decide +kernel
theorem dX6_score_9 : decode cX6_score 9 = .ok (.bipush 127, 2) := by decide +kernel
theorem dX6_score_11 : decode cX6_score 11 = .ok (.iaload, 1) := by decide +kernel
theorem dX6_score_12 : decode cX6_score 12 = .ok (.if_icmp .ge 45, 3) := by decide +kernel
theorem dX6_score_15 : decode cX6_score 15 = .ok (.iload_n 2, 1) := by decide +kernel
theorem dX6_score_16 : decode cX6_score 16 = .ok (.aload_n 0, 1) := by decide +kernel
theorem dX6_score_17 : decode cX6_score 17 = .ok (.iconst 0, 1) := by decide +kernel
theorem dX6_score_18 : decode cX6_score 18 = .ok (.iload_n 3, 1) := by decide +kernel
theorem dX6_score_19 : decode cX6_score 19 = .ok (.iconst 0, 1) := by decide +kernel
theorem dX6_score_20 : decode cX6_score 20 = .ok (.invokevirtual 68, 3) := by decide +kernel
theorem dX6_score_23 : decode cX6_score 23 = .ok (.iload_n 1, 1) := by decide +kernel
theorem dX6_score_24 : decode cX6_score 24 = .ok (.if_icmp .ne 24, 3) := by decide +kernel
theorem dX6_score_27 : decode cX6_score 27 = .ok (.aload_n 0, 1) := by decide +kernel
theorem dX6_score_28 : decode cX6_score 28 = .ok (.iconst 0, 1) := by decide +kernel
theorem dX6_score_29 : decode cX6_score 29 = .ok (.iload_n 3, 1) := by decide +kernel
theorem dX6_score_30 : decode cX6_score 30 = .ok (.iconst 2, 1) := by decide +kernel
theorem dX6_score_31 : decode cX6_score 31 = .ok (.invokevirtual 68, 3) := by decide +kernel
theorem dX6_score_34 : decode cX6_score 34 = .ok (.iconst 1, 1) := by decide +kernel
theorem dX6_score_35 : decode cX6_score 35 = .ok (.if_icmp .ne 13, 3) := by decide +kernel
theorem dX6_score_38 : decode cX6_score 38 = .ok (.aload_n 0, 1) := by decide +kernel
theorem dX6_score_39 : decode cX6_score 39 = .ok (.iconst 0, 1) := by decide +kernel
theorem dX6_score_40 : decode cX6_score 40 = .ok (.iload_n 3, 1) := by decide +kernel
theorem dX6_score_41 : decode cX6_score 41 = .ok (.iconst 1, 1) := by decide +kernel
theorem dX6_score_42 : decode cX6_score 42 = .ok (.invokevirtual 68, 3) := by decide +kernel
theorem dX6_score_45 : decode cX6_score 45 = .ok (.goto 4, 3) := by decide +kernel
theorem dX6_score_48 : decode cX6_score 48 = .ok (.iconst 0, 1) := by decide +kernel
theorem dX6_score_49 : decode cX6_score 49 = .ok (.iadd, 1) := by decide +kernel
theorem dX6_score_50 : decode cX6_score 50 = .ok (.istore_n 2, 1) := by decide +kernel
theorem dX6_score_51 : decode cX6_score 51 = .ok (.iinc 3 1, 3) := by decide +kernel
theorem dX6_score_54 : decode cX6_score 54 = .ok (.goto (-50), 3) := by decide +kernel
theorem dX6_score_57 : decode cX6_score 57 = .ok (.iload_n 2, 1) := by decide +kernel
theorem dX6_score_58 : decode cX6_score 58 = .ok (.ireturn, 1) := by decide +kernel
theorem dX6_aground_0 : decode cX6_aground 0 = .ok (.aload_n 0, 1) := by decide +kernel
theorem dX6_aground_1 : decode cX6_aground 1 = .ok (.iconst 0, 1) := by decide +kernel
theorem dX6_aground_2 : decode cX6_aground 2 = .ok (.iconst 0, 1) := by decide +kernel
theorem dX6_aground_3 : decode cX6_aground 3 = .ok (.invokevirtual 78, 3) := by decide +kernel
theorem dX6_aground_6 : decode cX6_aground 6 = .ok (.istore_n 1, 1) := by decide +kernel
theorem dX6_aground_7 : decode cX6_aground 7 = .ok (.iconst 0, 1) := by decide +kernel
theorem dX6_aground_8 : decode cX6_aground 8 = .ok (.istore_n 2, 1) := by decide +kernel
theorem dX6_aground_9 : decode cX6_aground 9 = .ok (.iload_n 2, 1) := by decide +kernel
theorem dX6_aground_10 : decode cX6_aground 10 = .ok (.aload_n 0, 1) := by decide +kernel
theorem dX6_aground_11 : decode cX6_aground 11 = .ok (.getfield 7, 3) := by decide +kernel
theorem dX6_aground_14 : decode cX6_aground 14 = .ok (.bipush 127, 2) := by decide +kernel
theorem dX6_aground_16 : decode cX6_aground 16 = .ok (.iaload, 1) := by decide +kernel
theorem dX6_aground_17 : decode cX6_aground 17 = .ok (.if_icmp .ge 26, 3) := by decide +kernel
theorem dX6_aground_20 : decode cX6_aground 20 = .ok (.iload_n 1, 1) := by decide +kernel
theorem dX6_aground_21 : decode cX6_aground 21 = .ok (.aload_n 0, 1) := by decide +kernel
theorem dX6_aground_22 : decode cX6_aground 22 = .ok (.iconst 0, 1) := by decide +kernel
theorem dX6_aground_23 : decode cX6_aground 23 = .ok (.iload_n 2, 1) := by decide +kernel
theorem dX6_aground_24 : decode cX6_aground 24 = .ok (.invokevirtual 74, 3) := by decide +kernel
theorem dX6_aground_27 : decode cX6_aground 27 = .ok (.ifCond .eq 7, 3) := by decide +kernel
theorem dX6_aground_30 : decode cX6_aground 30 = .ok (.iconst 1, 1) := by decide +kernel
theorem dX6_aground_31 : decode cX6_aground 31 = .ok (.goto 4, 3) := by decide +kernel
theorem dX6_aground_34 : decode cX6_aground 34 = .ok (.iconst 0, 1) := by decide +kernel
theorem dX6_aground_35 : decode cX6_aground 35 = .ok (.isub, 1) := by decide +kernel
theorem dX6_aground_36 : decode cX6_aground 36 = .ok (.istore_n 1, 1) := by decide +kernel
theorem dX6_aground_37 : decode cX6_aground 37 = .ok (.iinc 2 1, 3) := by decide +kernel
theorem dX6_aground_40 : decode cX6_aground 40 = .ok (.goto (-31), 3) := by decide +kernel
theorem dX6_aground_43 : decode cX6_aground 43 = .ok (.iload_n 1, 1) := by decide +kernel
theorem dX6_aground_44 : decode cX6_aground 44 = .ok (.ireturn, 1) := by decide +kernel
theorem dX6_movesNow_0 : decode cX6_movesNow 0 = .ok (.iconst 0, 1) := by decide +kernel
theorem dX6_movesNow_1 : decode cX6_movesNow 1 = .ok (.istore_n 1, 1) := by decide +kernel
theorem dX6_movesNow_2 : decode cX6_movesNow 2 = .ok (.iconst 0, 1) := by decide +kernel
theorem dX6_movesNow_3 : decode cX6_movesNow 3 = .ok (.istore_n 2, 1) := by decide +kernel
theorem dX6_movesNow_4 : decode cX6_movesNow 4 = .ok (.iload_n 2, 1) := by decide +kernel
theorem dX6_movesNow_5 : decode cX6_movesNow 5 = .ok (.aload_n 0, 1) := by decide +kernel
theorem dX6_movesNow_6 : decode cX6_movesNow 6 = .ok (.getfield 7, 3) := by decide +kernel
theorem dX6_movesNow_9 : decode cX6_movesNow 9 = .ok (.bipush 127, 2) := by decide +kernel
theorem dX6_movesNow_11 : decode cX6_movesNow 11 = .ok (.iaload, 1) := by decide +kernel
theorem dX6_movesNow_12 : decode cX6_movesNow 12 = .ok (.if_icmp .ge 40, 3) := by decide +kernel
theorem dX6_movesNow_15 : decode cX6_movesNow 15 = .ok (.iload_n 1, 1) := by decide +kernel
theorem dX6_movesNow_16 : decode cX6_movesNow 16 = .ok (.aload_n 0, 1) := by decide +kernel
theorem dX6_movesNow_17 : decode cX6_movesNow 17 = .ok (.iconst 0, 1) := by decide +kernel
theorem dX6_movesNow_18 : decode cX6_movesNow 18 = .ok (.iload_n 2, 1) := by decide +kernel
theorem dX6_movesNow_19 : decode cX6_movesNow 19 = .ok (.iconst 0, 1) := by decide +kernel
theorem dX6_movesNow_20 : decode cX6_movesNow 20 = .ok (.invokevirtual 68, 3) := by decide +kernel
theorem dX6_movesNow_23 : decode cX6_movesNow 23 = .ok (.aload_n 0, 1) := by decide +kernel
theorem dX6_movesNow_24 : decode cX6_movesNow 24 = .ok (.getfield 7, 3) := by decide +kernel
theorem dX6_movesNow_27 : decode cX6_movesNow 27 = .ok (.bipush 126, 2) := by decide +kernel
theorem dX6_movesNow_29 : decode cX6_movesNow 29 = .ok (.iaload, 1) := by decide +kernel
theorem dX6_movesNow_30 : decode cX6_movesNow 30 = .ok (.iconst 2, 1) := by decide +kernel
theorem dX6_movesNow_31 : decode cX6_movesNow 31 = .ok (.irem, 1) := by decide +kernel
theorem dX6_movesNow_32 : decode cX6_movesNow 32 = .ok (.if_icmp .ne 11, 3) := by decide +kernel
theorem dX6_movesNow_35 : decode cX6_movesNow 35 = .ok (.aload_n 0, 1) := by decide +kernel
theorem dX6_movesNow_36 : decode cX6_movesNow 36 = .ok (.iload_n 2, 1) := by decide +kernel
theorem dX6_movesNow_37 : decode cX6_movesNow 37 = .ok (.invokevirtual 171, 3) := by decide +kernel
theorem dX6_movesNow_40 : decode cX6_movesNow 40 = .ok (.goto 4, 3) := by decide +kernel
theorem dX6_movesNow_43 : decode cX6_movesNow 43 = .ok (.iconst 0, 1) := by decide +kernel
theorem dX6_movesNow_44 : decode cX6_movesNow 44 = .ok (.iadd, 1) := by decide +kernel
theorem dX6_movesNow_45 : decode cX6_movesNow 45 = .ok (.istore_n 1, 1) := by decide +kernel
theorem dX6_movesNow_46 : decode cX6_movesNow 46 = .ok (.iinc 2 1, 3) := by decide +kernel
theorem dX6_movesNow_49 : decode cX6_movesNow 49 = .ok (.goto (-45), 3) := by decide +kernel
theorem dX6_movesNow_52 : decode cX6_movesNow 52 = .ok (.iload_n 1, 1) := by decide +kernel
theorem dX6_movesNow_53 : decode cX6_movesNow 53 = .ok (.ireturn, 1) := by decide +kernel
theorem dX6_count_0 : decode cX6_count 0 = .ok (.iload_n 1, 1) := by decide +kernel
theorem dX6_count_1 : decode cX6_count 1 = .ok (.tableswitch 175 0 14 #[75, 83, 93, 106, 106, 114, 122, 122, 122, 132, 137, 146, 160, 165, 170], 75) := by decide +kernel
theorem dX6_count_76 : decode cX6_count 76 = .ok (.aload_n 0, 1) := by decide +kernel
theorem dX6_count_77 : decode cX6_count 77 = .ok (.getfield 7, 3) := by decide +kernel
theorem dX6_count_80 : decode cX6_count 80 = .ok (.bipush 126, 2) := by decide +kernel
theorem dX6_count_82 : decode cX6_count 82 = .ok (.iaload, 1) := by decide +kernel
theorem dX6_count_83 : decode cX6_count 83 = .ok (.ireturn, 1) := by decide +kernel
theorem dX6_count_84 : decode cX6_count 84 = .ok (.aload_n 0, 1) := by decide +kernel
theorem dX6_count_85 : decode cX6_count 85 = .ok (.getfield 7, 3) := by decide +kernel
theorem dX6_count_88 : decode cX6_count 88 = .ok (.bipush 126, 2) := by decide +kernel
theorem dX6_count_90 : decode cX6_count 90 = .ok (.iaload, 1) := by decide +kernel
theorem dX6_count_91 : decode cX6_count 91 = .ok (.iconst 2, 1) := by decide +kernel
theorem dX6_count_92 : decode cX6_count 92 = .ok (.irem, 1) := by decide +kernel
theorem dX6_count_93 : decode cX6_count 93 = .ok (.ireturn, 1) := by decide +kernel
theorem dX6_count_94 : decode cX6_count 94 = .ok (.aload_n 0, 1) := by decide +kernel
theorem dX6_count_95 : decode cX6_count 95 = .ok (.iconst 0, 1) := by decide +kernel
theorem dX6_count_96 : decode cX6_count 96 = .ok (.aload_n 0, 1) := by decide +kernel
theorem dX6_count_97 : decode cX6_count 97 = .ok (.getfield 7, 3) := by decide +kernel
theorem dX6_count_100 : decode cX6_count 100 = .ok (.bipush 126, 2) := by decide +kernel
theorem dX6_count_102 : decode cX6_count 102 = .ok (.iaload, 1) := by decide +kernel
theorem dX6_count_103 : decode cX6_count 103 = .ok (.invokevirtual 50, 3) := by decide +kernel
theorem dX6_count_106 : decode cX6_count 106 = .ok (.ireturn, 1) := by decide +kernel
theorem dX6_count_107 : decode cX6_count 107 = .ok (.aload_n 0, 1) := by decide +kernel
theorem dX6_count_108 : decode cX6_count 108 = .ok (.iload_n 1, 1) := by decide +kernel
theorem dX6_count_109 : decode cX6_count 109 = .ok (.iconst 3, 1) := by decide +kernel
theorem dX6_count_110 : decode cX6_count 110 = .ok (.isub, 1) := by decide +kernel
theorem dX6_count_111 : decode cX6_count 111 = .ok (.invokevirtual 174, 3) := by decide +kernel
theorem dX6_count_114 : decode cX6_count 114 = .ok (.ireturn, 1) := by decide +kernel
theorem dX6_count_115 : decode cX6_count 115 = .ok (.aload_n 0, 1) := by decide +kernel
theorem dX6_count_116 : decode cX6_count 116 = .ok (.getfield 7, 3) := by decide +kernel
theorem dX6_count_119 : decode cX6_count 119 = .ok (.bipush 127, 2) := by decide +kernel
theorem dX6_count_121 : decode cX6_count 121 = .ok (.iaload, 1) := by decide +kernel
theorem dX6_count_122 : decode cX6_count 122 = .ok (.ireturn, 1) := by decide +kernel
theorem dX6_count_123 : decode cX6_count 123 = .ok (.aload_n 0, 1) := by decide +kernel
theorem dX6_count_124 : decode cX6_count 124 = .ok (.iconst 0, 1) := by decide +kernel
theorem dX6_count_125 : decode cX6_count 125 = .ok (.iload_n 1, 1) := by decide +kernel
theorem dX6_count_126 : decode cX6_count 126 = .ok (.bipush 6, 2) := by decide +kernel
theorem dX6_count_128 : decode cX6_count 128 = .ok (.isub, 1) := by decide +kernel
theorem dX6_count_129 : decode cX6_count 129 = .ok (.invokevirtual 78, 3) := by decide +kernel
theorem dX6_count_132 : decode cX6_count 132 = .ok (.ireturn, 1) := by decide +kernel
theorem dX6_count_133 : decode cX6_count 133 = .ok (.aload_n 0, 1) := by decide +kernel
theorem dX6_count_134 : decode cX6_count 134 = .ok (.invokevirtual 177, 3) := by decide +kernel
theorem dX6_count_137 : decode cX6_count 137 = .ok (.ireturn, 1) := by decide +kernel
theorem dX6_count_138 : decode cX6_count 138 = .ok (.aload_n 0, 1) := by decide +kernel
theorem dX6_count_139 : decode cX6_count 139 = .ok (.getfield 7, 3) := by decide +kernel
theorem dX6_count_142 : decode cX6_count 142 = .ok (.sipush 128, 3) := by decide +kernel
theorem dX6_count_145 : decode cX6_count 145 = .ok (.iaload, 1) := by decide +kernel
theorem dX6_count_146 : decode cX6_count 146 = .ok (.ireturn, 1) := by decide +kernel
theorem dX6_count_147 : decode cX6_count 147 = .ok (.aload_n 0, 1) := by decide +kernel
theorem dX6_count_148 : decode cX6_count 148 = .ok (.iconst 0, 1) := by decide +kernel
theorem dX6_count_149 : decode cX6_count 149 = .ok (.invokevirtual 81, 3) := by decide +kernel
theorem dX6_count_152 : decode cX6_count 152 = .ok (.ifCond .eq 7, 3) := by decide +kernel
theorem dX6_count_155 : decode cX6_count 155 = .ok (.iconst 1, 1) := by decide +kernel
theorem dX6_count_156 : decode cX6_count 156 = .ok (.goto 4, 3) := by decide +kernel
theorem dX6_count_159 : decode cX6_count 159 = .ok (.iconst 0, 1) := by decide +kernel
theorem dX6_count_160 : decode cX6_count 160 = .ok (.ireturn, 1) := by decide +kernel
theorem dX6_count_161 : decode cX6_count 161 = .ok (.aload_n 0, 1) := by decide +kernel
theorem dX6_count_162 : decode cX6_count 162 = .ok (.invokevirtual 180, 3) := by decide +kernel
theorem dX6_count_165 : decode cX6_count 165 = .ok (.ireturn, 1) := by decide +kernel
theorem dX6_count_166 : decode cX6_count 166 = .ok (.aload_n 0, 1) := by decide +kernel
theorem dX6_count_167 : decode cX6_count 167 = .ok (.getfield 43, 3) := by decide +kernel
theorem dX6_count_170 : decode cX6_count 170 = .ok (.ireturn, 1) := by decide +kernel
theorem dX6_count_171 : decode cX6_count 171 = .ok (.aload_n 0, 1) := by decide +kernel
theorem dX6_count_172 : decode cX6_count 172 = .ok (.getfield 136, 3) := by decide +kernel
theorem dX6_count_175 : decode cX6_count 175 = .ok (.ireturn, 1) := by decide +kernel
theorem dX6_count_176 : decode cX6_count 176 = .ok (.iload_n 1, 1) := by decide +kernel
theorem dX6_count_177 : decode cX6_count 177 = .ok (.bipush 15, 2) := by decide +kernel
theorem dX6_count_179 : decode cX6_count 179 = .ok (.bipush 18, 2) := by decide +kernel
theorem dX6_count_181 : decode cX6_count 181 = .ok (.invokestatic 35, 3) := by decide +kernel
theorem dX6_count_184 : decode cX6_count 184 = .ok (.ifCond .eq 18, 3) := by decide +kernel
theorem dX6_count_187 : decode cX6_count 187 = .ok (.aload_n 0, 1) := by decide +kernel
theorem dX6_count_188 : decode cX6_count 188 = .ok (.getfield 7, 3) := by decide +kernel
theorem dX6_count_191 : decode cX6_count 191 = .ok (.bipush 122, 2) := by decide +kernel
theorem dX6_count_193 : decode cX6_count 193 = .ok (.iload_n 1, 1) := by decide +kernel
theorem dX6_count_194 : decode cX6_count 194 = .ok (.iadd, 1) := by decide +kernel
theorem dX6_count_195 : decode cX6_count 195 = .ok (.bipush 15, 2) := by decide +kernel
theorem dX6_count_197 : decode cX6_count 197 = .ok (.isub, 1) := by decide +kernel
theorem dX6_count_198 : decode cX6_count 198 = .ok (.iaload, 1) := by decide +kernel
theorem dX6_count_199 : decode cX6_count 199 = .ok (.goto 5, 3) := by decide +kernel
theorem dX6_count_202 : decode cX6_count 202 = .ok (.bipush (-2), 2) := by decide +kernel
theorem dX6_count_204 : decode cX6_count 204 = .ok (.ireturn, 1) := by decide +kernel
theorem dX6_period_0 : decode cX6_period 0 = .ok (.iconst 2, 1) := by decide +kernel
theorem dX6_period_1 : decode cX6_period 1 = .ok (.aload_n 0, 1) := by decide +kernel
theorem dX6_period_2 : decode cX6_period 2 = .ok (.getfield 7, 3) := by decide +kernel
theorem dX6_period_5 : decode cX6_period 5 = .ok (.bipush 123, 2) := by decide +kernel
theorem dX6_period_7 : decode cX6_period 7 = .ok (.iaload, 1) := by decide +kernel
theorem dX6_period_8 : decode cX6_period 8 = .ok (.imul, 1) := by decide +kernel
theorem dX6_period_9 : decode cX6_period 9 = .ok (.aload_n 0, 1) := by decide +kernel
theorem dX6_period_10 : decode cX6_period 10 = .ok (.getfield 7, 3) := by decide +kernel
theorem dX6_period_13 : decode cX6_period 13 = .ok (.bipush 124, 2) := by decide +kernel
theorem dX6_period_15 : decode cX6_period 15 = .ok (.iaload, 1) := by decide +kernel
theorem dX6_period_16 : decode cX6_period 16 = .ok (.imul, 1) := by decide +kernel
theorem dX6_period_17 : decode cX6_period 17 = .ok (.ireturn, 1) := by decide +kernel
theorem dX6_afloat_0 : decode cX6_afloat 0 = .ok (.iload_n 1, 1) := by decide +kernel
theorem dX6_afloat_1 : decode cX6_afloat 1 = .ok (.invokestatic 98, 3) := by decide +kernel
theorem dX6_afloat_4 : decode cX6_afloat 4 = .ok (.ifCond .eq 12, 3) := by decide +kernel
theorem dX6_afloat_7 : decode cX6_afloat 7 = .ok (.iload_n 2, 1) := by decide +kernel
theorem dX6_afloat_8 : decode cX6_afloat 8 = .ok (.iconst 1, 1) := by decide +kernel
theorem dX6_afloat_9 : decode cX6_afloat 9 = .ok (.iconst 3, 1) := by decide +kernel
theorem dX6_afloat_10 : decode cX6_afloat 10 = .ok (.invokestatic 35, 3) := by decide +kernel
theorem dX6_afloat_13 : decode cX6_afloat 13 = .ok (.ifCond .ne 6, 3) := by decide +kernel
theorem dX6_afloat_16 : decode cX6_afloat 16 = .ok (.ldc 183, 2) := by decide +kernel
theorem dX6_afloat_18 : decode cX6_afloat 18 = .ok (.freturn, 1) := by decide +kernel
theorem dX6_afloat_19 : decode cX6_afloat 19 = .ok (.iconst 0, 1) := by decide +kernel
theorem dX6_afloat_20 : decode cX6_afloat 20 = .ok (.istore_n 3, 1) := by decide +kernel
theorem dX6_afloat_21 : decode cX6_afloat 21 = .ok (.iconst 0, 1) := by decide +kernel
theorem dX6_afloat_22 : decode cX6_afloat 22 = .ok (.istore 4, 2) := by decide +kernel
theorem dX6_afloat_24 : decode cX6_afloat 24 = .ok (.iload 4, 2) := by decide +kernel
theorem dX6_afloat_26 : decode cX6_afloat 26 = .ok (.aload_n 0, 1) := by decide +kernel
theorem dX6_afloat_27 : decode cX6_afloat 27 = .ok (.invokevirtual 184, 3) := by decide +kernel
theorem dX6_afloat_30 : decode cX6_afloat 30 = .ok (.if_icmp .ge 29, 3) := by decide +kernel
theorem dX6_afloat_33 : decode cX6_afloat 33 = .ok (.iload_n 3, 1) := by decide +kernel
theorem dX6_afloat_34 : decode cX6_afloat 34 = .ok (.aload_n 0, 1) := by decide +kernel
theorem dX6_afloat_35 : decode cX6_afloat 35 = .ok (.iconst 0, 1) := by decide +kernel
theorem dX6_afloat_36 : decode cX6_afloat 36 = .ok (.iload_n 1, 1) := by decide +kernel
theorem dX6_afloat_37 : decode cX6_afloat 37 = .ok (.iload_n 2, 1) := by decide +kernel
theorem dX6_afloat_38 : decode cX6_afloat 38 = .ok (.iload 4, 2) := by decide +kernel
theorem dX6_afloat_40 : decode cX6_afloat 40 = .ok (.invokevirtual 57, 3) := by decide +kernel
theorem dX6_afloat_43 : decode cX6_afloat 43 = .ok (.ifCond .eq 7, 3) := by decide +kernel
theorem dX6_afloat_46 : decode cX6_afloat 46 = .ok (.iconst 1, 1) := by decide +kernel
theorem dX6_afloat_47 : decode cX6_afloat 47 = .ok (.goto 4, 3) := by decide +kernel
theorem dX6_afloat_50 : decode cX6_afloat 50 = .ok (.iconst 0, 1) := by decide +kernel
theorem dX6_afloat_51 : decode cX6_afloat 51 = .ok (.iadd, 1) := by decide +kernel
theorem dX6_afloat_52 : decode cX6_afloat 52 = .ok (.istore_n 3, 1) := by decide +kernel
theorem dX6_afloat_53 : decode cX6_afloat 53 = .ok (.iinc 4 1, 3) := by decide +kernel
theorem dX6_afloat_56 : decode cX6_afloat 56 = .ok (.goto (-32), 3) := by decide +kernel
theorem dX6_afloat_59 : decode cX6_afloat 59 = .ok (.iload_n 3, 1) := by decide +kernel
theorem dX6_afloat_60 : decode cX6_afloat 60 = .ok (.i2f, 1) := by decide +kernel
theorem dX6_afloat_61 : decode cX6_afloat 61 = .ok (.aload_n 0, 1) := by decide +kernel
theorem dX6_afloat_62 : decode cX6_afloat 62 = .ok (.invokevirtual 184, 3) := by decide +kernel
theorem dX6_afloat_65 : decode cX6_afloat 65 = .ok (.i2f, 1) := by decide +kernel
theorem dX6_afloat_66 : decode cX6_afloat 66 = .ok (.fdiv, 1) := by decide +kernel
theorem dX6_afloat_67 : decode cX6_afloat 67 = .ok (.freturn, 1) := by decide +kernel
theorem dX6_floatsIn_0 : decode cX6_floatsIn 0 = .ok (.aload_n 0, 1) := by decide +kernel
theorem dX6_floatsIn_1 : decode cX6_floatsIn 1 = .ok (.iconst 0, 1) := by decide +kernel
theorem dX6_floatsIn_2 : decode cX6_floatsIn 2 = .ok (.iload_n 1, 1) := by decide +kernel
theorem dX6_floatsIn_3 : decode cX6_floatsIn 3 = .ok (.invokevirtual 104, 3) := by decide +kernel
theorem dX6_floatsIn_6 : decode cX6_floatsIn 6 = .ok (.ifCond .ne 5, 3) := by decide +kernel
theorem dX6_floatsIn_9 : decode cX6_floatsIn 9 = .ok (.iconst (-1), 1) := by decide +kernel
theorem dX6_floatsIn_10 : decode cX6_floatsIn 10 = .ok (.ireturn, 1) := by decide +kernel
theorem dX6_floatsIn_11 : decode cX6_floatsIn 11 = .ok (.aload_n 0, 1) := by decide +kernel
theorem dX6_floatsIn_12 : decode cX6_floatsIn 12 = .ok (.iconst 0, 1) := by decide +kernel
theorem dX6_floatsIn_13 : decode cX6_floatsIn 13 = .ok (.iload_n 1, 1) := by decide +kernel
theorem dX6_floatsIn_14 : decode cX6_floatsIn 14 = .ok (.iconst 2, 1) := by decide +kernel
theorem dX6_floatsIn_15 : decode cX6_floatsIn 15 = .ok (.invokevirtual 68, 3) := by decide +kernel
theorem dX6_floatsIn_18 : decode cX6_floatsIn 18 = .ok (.ifCond .eq 6, 3) := by decide +kernel
theorem dX6_floatsIn_21 : decode cX6_floatsIn 21 = .ok (.bipush (-4), 2) := by decide +kernel
theorem dX6_floatsIn_23 : decode cX6_floatsIn 23 = .ok (.ireturn, 1) := by decide +kernel
theorem dX6_floatsIn_24 : decode cX6_floatsIn 24 = .ok (.iconst 0, 1) := by decide +kernel
theorem dX6_floatsIn_25 : decode cX6_floatsIn 25 = .ok (.istore_n 2, 1) := by decide +kernel
theorem dX6_floatsIn_26 : decode cX6_floatsIn 26 = .ok (.iload_n 2, 1) := by decide +kernel
theorem dX6_floatsIn_27 : decode cX6_floatsIn 27 = .ok (.aload_n 0, 1) := by decide +kernel
theorem dX6_floatsIn_28 : decode cX6_floatsIn 28 = .ok (.invokevirtual 184, 3) := by decide +kernel
theorem dX6_floatsIn_31 : decode cX6_floatsIn 31 = .ok (.if_icmp .ge 42, 3) := by decide +kernel
theorem dX6_floatsIn_34 : decode cX6_floatsIn 34 = .ok (.aload_n 0, 1) := by decide +kernel
theorem dX6_floatsIn_35 : decode cX6_floatsIn 35 = .ok (.iconst 0, 1) := by decide +kernel
theorem dX6_floatsIn_36 : decode cX6_floatsIn 36 = .ok (.aload_n 0, 1) := by decide +kernel
theorem dX6_floatsIn_37 : decode cX6_floatsIn 37 = .ok (.iconst 0, 1) := by decide +kernel
theorem dX6_floatsIn_38 : decode cX6_floatsIn 38 = .ok (.iload_n 1, 1) := by decide +kernel
theorem dX6_floatsIn_39 : decode cX6_floatsIn 39 = .ok (.iconst 3, 1) := by decide +kernel
theorem dX6_floatsIn_40 : decode cX6_floatsIn 40 = .ok (.invokevirtual 68, 3) := by decide +kernel
theorem dX6_floatsIn_43 : decode cX6_floatsIn 43 = .ok (.aload_n 0, 1) := by decide +kernel
theorem dX6_floatsIn_44 : decode cX6_floatsIn 44 = .ok (.iconst 0, 1) := by decide +kernel
theorem dX6_floatsIn_45 : decode cX6_floatsIn 45 = .ok (.iload_n 1, 1) := by decide +kernel
theorem dX6_floatsIn_46 : decode cX6_floatsIn 46 = .ok (.iconst 1, 1) := by decide +kernel
theorem dX6_floatsIn_47 : decode cX6_floatsIn 47 = .ok (.invokevirtual 68, 3) := by decide +kernel
theorem dX6_floatsIn_50 : decode cX6_floatsIn 50 = .ok (.aload_n 0, 1) := by decide +kernel
theorem dX6_floatsIn_51 : decode cX6_floatsIn 51 = .ok (.getfield 7, 3) := by decide +kernel
theorem dX6_floatsIn_54 : decode cX6_floatsIn 54 = .ok (.bipush 126, 2) := by decide +kernel
theorem dX6_floatsIn_56 : decode cX6_floatsIn 56 = .ok (.iaload, 1) := by decide +kernel
theorem dX6_floatsIn_57 : decode cX6_floatsIn 57 = .ok (.iload_n 2, 1) := by decide +kernel
theorem dX6_floatsIn_58 : decode cX6_floatsIn 58 = .ok (.iadd, 1) := by decide +kernel
theorem dX6_floatsIn_59 : decode cX6_floatsIn 59 = .ok (.invokevirtual 57, 3) := by decide +kernel
theorem dX6_floatsIn_62 : decode cX6_floatsIn 62 = .ok (.ifCond .eq 5, 3) := by decide +kernel
theorem dX6_floatsIn_65 : decode cX6_floatsIn 65 = .ok (.iload_n 2, 1) := by decide +kernel
theorem dX6_floatsIn_66 : decode cX6_floatsIn 66 = .ok (.ireturn, 1) := by decide +kernel
theorem dX6_floatsIn_67 : decode cX6_floatsIn 67 = .ok (.iinc 2 1, 3) := by decide +kernel
theorem dX6_floatsIn_70 : decode cX6_floatsIn 70 = .ok (.goto (-44), 3) := by decide +kernel
theorem dX6_floatsIn_73 : decode cX6_floatsIn 73 = .ok (.bipush (-5), 2) := by decide +kernel
theorem dX6_floatsIn_75 : decode cX6_floatsIn 75 = .ok (.ireturn, 1) := by decide +kernel
theorem dX6_goes_0 : decode cX6_goes 0 = .ok (.iconst 0, 1) := by decide +kernel
theorem dX6_goes_1 : decode cX6_goes 1 = .ok (.istore 4, 2) := by decide +kernel
theorem dX6_goes_3 : decode cX6_goes 3 = .ok (.iconst 0, 1) := by decide +kernel
theorem dX6_goes_4 : decode cX6_goes 4 = .ok (.istore 5, 2) := by decide +kernel
theorem dX6_goes_6 : decode cX6_goes 6 = .ok (.iload 5, 2) := by decide +kernel
theorem dX6_goes_8 : decode cX6_goes 8 = .ok (.bipush 36, 2) := by decide +kernel
theorem dX6_goes_10 : decode cX6_goes 10 = .ok (.if_icmp .ge 198, 3) := by decide +kernel
theorem dX6_goes_13 : decode cX6_goes 13 = .ok (.aload_n 0, 1) := by decide +kernel
theorem dX6_goes_14 : decode cX6_goes 14 = .ok (.getfield 26, 3) := by decide +kernel
theorem dX6_goes_17 : decode cX6_goes 17 = .ok (.iload 5, 2) := by decide +kernel
theorem dX6_goes_19 : decode cX6_goes 19 = .ok (.aload_n 0, 1) := by decide +kernel
theorem dX6_goes_20 : decode cX6_goes 20 = .ok (.getfield 26, 3) := by decide +kernel
theorem dX6_goes_23 : decode cX6_goes 23 = .ok (.iload 5, 2) := by decide +kernel
theorem dX6_goes_25 : decode cX6_goes 25 = .ok (.baload, 1) := by decide +kernel
theorem dX6_goes_26 : decode cX6_goes 26 = .ok (.ifCond .ne 28, 3) := by decide +kernel
theorem dX6_goes_29 : decode cX6_goes 29 = .ok (.aload_n 0, 1) := by decide +kernel
theorem dX6_goes_30 : decode cX6_goes 30 = .ok (.getfield 22, 3) := by decide +kernel
theorem dX6_goes_33 : decode cX6_goes 33 = .ok (.iload 5, 2) := by decide +kernel
theorem dX6_goes_35 : decode cX6_goes 35 = .ok (.baload, 1) := by decide +kernel
theorem dX6_goes_36 : decode cX6_goes 36 = .ok (.ifCond .eq 22, 3) := by decide +kernel
theorem dX6_goes_39 : decode cX6_goes 39 = .ok (.aload_n 0, 1) := by decide +kernel
theorem dX6_goes_40 : decode cX6_goes 40 = .ok (.iload_n 1, 1) := by decide +kernel
theorem dX6_goes_41 : decode cX6_goes 41 = .ok (.iload 5, 2) := by decide +kernel
theorem dX6_goes_43 : decode cX6_goes 43 = .ok (.iload_n 2, 1) := by decide +kernel
theorem dX6_goes_44 : decode cX6_goes 44 = .ok (.bipush 100, 2) := by decide +kernel
theorem dX6_goes_46 : decode cX6_goes 46 = .ok (.irem, 1) := by decide +kernel
theorem dX6_goes_47 : decode cX6_goes 47 = .ok (.iload_n 3, 1) := by decide +kernel
theorem dX6_goes_48 : decode cX6_goes 48 = .ok (.invokevirtual 101, 3) := by decide +kernel
theorem dX6_goes_51 : decode cX6_goes 51 = .ok (.ifCond .ne 7, 3) := by decide +kernel
theorem dX6_goes_54 : decode cX6_goes 54 = .ok (.iconst 1, 1) := by decide +kernel
theorem dX6_goes_55 : decode cX6_goes 55 = .ok (.goto 4, 3) := by decide +kernel
theorem dX6_goes_58 : decode cX6_goes 58 = .ok (.iconst 0, 1) := by decide +kernel
theorem dX6_goes_59 : decode cX6_goes 59 = .ok (.bastore, 1) := by decide +kernel
theorem dX6_goes_60 : decode cX6_goes 60 = .ok (.aload_n 0, 1) := by decide +kernel
theorem dX6_goes_61 : decode cX6_goes 61 = .ok (.getfield 22, 3) := by decide +kernel
theorem dX6_goes_64 : decode cX6_goes 64 = .ok (.iload 5, 2) := by decide +kernel
theorem dX6_goes_66 : decode cX6_goes 66 = .ok (.baload, 1) := by decide +kernel
theorem dX6_goes_67 : decode cX6_goes 67 = .ok (.ifCond .eq 32, 3) := by decide +kernel
theorem dX6_goes_70 : decode cX6_goes 70 = .ok (.iload_n 3, 1) := by decide +kernel
theorem dX6_goes_71 : decode cX6_goes 71 = .ok (.iconst 2, 1) := by decide +kernel
theorem dX6_goes_72 : decode cX6_goes 72 = .ok (.irem, 1) := by decide +kernel
theorem dX6_goes_73 : decode cX6_goes 73 = .ok (.iload_n 2, 1) := by decide +kernel
theorem dX6_goes_74 : decode cX6_goes 74 = .ok (.bipush 100, 2) := by decide +kernel
theorem dX6_goes_76 : decode cX6_goes 76 = .ok (.idiv, 1) := by decide +kernel
theorem dX6_goes_77 : decode cX6_goes 77 = .ok (.if_icmp .ne 22, 3) := by decide +kernel
theorem dX6_goes_80 : decode cX6_goes 80 = .ok (.aload_n 0, 1) := by decide +kernel
theorem dX6_goes_81 : decode cX6_goes 81 = .ok (.iload_n 1, 1) := by decide +kernel
theorem dX6_goes_82 : decode cX6_goes 82 = .ok (.iload 5, 2) := by decide +kernel
theorem dX6_goes_84 : decode cX6_goes 84 = .ok (.iload_n 2, 1) := by decide +kernel
theorem dX6_goes_85 : decode cX6_goes 85 = .ok (.bipush 100, 2) := by decide +kernel
theorem dX6_goes_87 : decode cX6_goes 87 = .ok (.irem, 1) := by decide +kernel
theorem dX6_goes_88 : decode cX6_goes 88 = .ok (.iload_n 3, 1) := by decide +kernel
theorem dX6_goes_89 : decode cX6_goes 89 = .ok (.invokevirtual 57, 3) := by decide +kernel
theorem dX6_goes_92 : decode cX6_goes 92 = .ok (.ifCond .eq 7, 3) := by decide +kernel
theorem dX6_goes_95 : decode cX6_goes 95 = .ok (.iconst 1, 1) := by decide +kernel
theorem dX6_goes_96 : decode cX6_goes 96 = .ok (.goto 4, 3) := by decide +kernel
theorem dX6_goes_99 : decode cX6_goes 99 = .ok (.iconst 0, 1) := by decide +kernel
theorem dX6_goes_100 : decode cX6_goes 100 = .ok (.istore 6, 2) := by decide +kernel
theorem dX6_goes_102 : decode cX6_goes 102 = .ok (.iconst 0, 1) := by decide +kernel
theorem dX6_goes_103 : decode cX6_goes 103 = .ok (.istore 7, 2) := by decide +kernel
theorem dX6_goes_105 : decode cX6_goes 105 = .ok (.iload 7, 2) := by decide +kernel
theorem dX6_goes_107 : decode cX6_goes 107 = .ok (.bipush 12, 2) := by decide +kernel
theorem dX6_goes_109 : decode cX6_goes 109 = .ok (.if_icmp .ge 93, 3) := by decide +kernel
theorem dX6_goes_112 : decode cX6_goes 112 = .ok (.iload 6, 2) := by decide +kernel
theorem dX6_goes_114 : decode cX6_goes 114 = .ok (.ifCond .eq 88, 3) := by decide +kernel
theorem dX6_goes_117 : decode cX6_goes 117 = .ok (.aload_n 0, 1) := by decide +kernel
theorem dX6_goes_118 : decode cX6_goes 118 = .ok (.iload_n 1, 1) := by decide +kernel
theorem dX6_goes_119 : decode cX6_goes 119 = .ok (.iload_n 2, 1) := by decide +kernel
theorem dX6_goes_120 : decode cX6_goes 120 = .ok (.iload 5, 2) := by decide +kernel
theorem dX6_goes_122 : decode cX6_goes 122 = .ok (.bipush 10, 2) := by decide +kernel
theorem dX6_goes_124 : decode cX6_goes 124 = .ok (.iload 7, 2) := by decide +kernel
theorem dX6_goes_126 : decode cX6_goes 126 = .ok (.iconst 3, 1) := by decide +kernel
theorem dX6_goes_127 : decode cX6_goes 127 = .ok (.idiv, 1) := by decide +kernel
theorem dX6_goes_128 : decode cX6_goes 128 = .ok (.imul, 1) := by decide +kernel
theorem dX6_goes_129 : decode cX6_goes 129 = .ok (.iload 7, 2) := by decide +kernel
theorem dX6_goes_131 : decode cX6_goes 131 = .ok (.iconst 3, 1) := by decide +kernel
theorem dX6_goes_132 : decode cX6_goes 132 = .ok (.irem, 1) := by decide +kernel
theorem dX6_goes_133 : decode cX6_goes 133 = .ok (.iadd, 1) := by decide +kernel
theorem dX6_goes_134 : decode cX6_goes 134 = .ok (.iconst 1, 1) := by decide +kernel
theorem dX6_goes_135 : decode cX6_goes 135 = .ok (.iadd, 1) := by decide +kernel
theorem dX6_goes_136 : decode cX6_goes 136 = .ok (.iload_n 3, 1) := by decide +kernel
theorem dX6_goes_137 : decode cX6_goes 137 = .ok (.invokevirtual 88, 3) := by decide +kernel
theorem dX6_goes_140 : decode cX6_goes 140 = .ok (.istore 8, 2) := by decide +kernel
theorem dX6_goes_142 : decode cX6_goes 142 = .ok (.iload 4, 2) := by decide +kernel
theorem dX6_goes_144 : decode cX6_goes 144 = .ok (.ifCond .ne 15, 3) := by decide +kernel
theorem dX6_goes_147 : decode cX6_goes 147 = .ok (.iload 8, 2) := by decide +kernel
theorem dX6_goes_149 : decode cX6_goes 149 = .ok (.iload_n 2, 1) := by decide +kernel
theorem dX6_goes_150 : decode cX6_goes 150 = .ok (.bipush 100, 2) := by decide +kernel
theorem dX6_goes_152 : decode cX6_goes 152 = .ok (.idiv, 1) := by decide +kernel
theorem dX6_goes_153 : decode cX6_goes 153 = .ok (.invokestatic 61, 3) := by decide +kernel
theorem dX6_goes_156 : decode cX6_goes 156 = .ok (.if_icmp .ne 7, 3) := by decide +kernel
theorem dX6_goes_159 : decode cX6_goes 159 = .ok (.iconst 1, 1) := by decide +kernel
theorem dX6_goes_160 : decode cX6_goes 160 = .ok (.goto 4, 3) := by decide +kernel
theorem dX6_goes_163 : decode cX6_goes 163 = .ok (.iconst 0, 1) := by decide +kernel
theorem dX6_goes_164 : decode cX6_goes 164 = .ok (.istore 4, 2) := by decide +kernel
theorem dX6_goes_166 : decode cX6_goes 166 = .ok (.iload 8, 2) := by decide +kernel
theorem dX6_goes_168 : decode cX6_goes 168 = .ok (.bipush (-5), 2) := by decide +kernel
theorem dX6_goes_170 : decode cX6_goes 170 = .ok (.if_icmp .eq 26, 3) := by decide +kernel
theorem dX6_goes_173 : decode cX6_goes 173 = .ok (.aload_n 0, 1) := by decide +kernel
theorem dX6_goes_174 : decode cX6_goes 174 = .ok (.iload_n 1, 1) := by decide +kernel
theorem dX6_goes_175 : decode cX6_goes 175 = .ok (.iload 8, 2) := by decide +kernel
theorem dX6_goes_177 : decode cX6_goes 177 = .ok (.iload_n 2, 1) := by decide +kernel
theorem dX6_goes_178 : decode cX6_goes 178 = .ok (.bipush 100, 2) := by decide +kernel
theorem dX6_goes_180 : decode cX6_goes 180 = .ok (.irem, 1) := by decide +kernel
theorem dX6_goes_181 : decode cX6_goes 181 = .ok (.iload_n 3, 1) := by decide +kernel
theorem dX6_goes_182 : decode cX6_goes 182 = .ok (.invokevirtual 101, 3) := by decide +kernel
theorem dX6_goes_185 : decode cX6_goes 185 = .ok (.ifCond .ne 11, 3) := by decide +kernel
theorem dX6_goes_188 : decode cX6_goes 188 = .ok (.aload_n 0, 1) := by decide +kernel
theorem dX6_goes_189 : decode cX6_goes 189 = .ok (.getfield 26, 3) := by decide +kernel
theorem dX6_goes_192 : decode cX6_goes 192 = .ok (.iload 8, 2) := by decide +kernel
theorem dX6_goes_194 : decode cX6_goes 194 = .ok (.iconst 1, 1) := by decide +kernel
theorem dX6_goes_195 : decode cX6_goes 195 = .ok (.bastore, 1) := by decide +kernel
theorem dX6_goes_196 : decode cX6_goes 196 = .ok (.iinc 7 1, 3) := by decide +kernel
theorem dX6_goes_199 : decode cX6_goes 199 = .ok (.goto (-94), 3) := by decide +kernel
theorem dX6_goes_202 : decode cX6_goes 202 = .ok (.iinc 5 1, 3) := by decide +kernel
theorem dX6_goes_205 : decode cX6_goes 205 = .ok (.goto (-199), 3) := by decide +kernel
theorem dX6_goes_208 : decode cX6_goes 208 = .ok (.iload 4, 2) := by decide +kernel
theorem dX6_goes_210 : decode cX6_goes 210 = .ok (.ireturn, 1) := by decide +kernel
theorem dX6_forth_0 : decode cX6_forth 0 = .ok (.iconst 0, 1) := by decide +kernel
theorem dX6_forth_1 : decode cX6_forth 1 = .ok (.istore_n 3, 1) := by decide +kernel
theorem dX6_forth_2 : decode cX6_forth 2 = .ok (.iload_n 3, 1) := by decide +kernel
theorem dX6_forth_3 : decode cX6_forth 3 = .ok (.bipush 36, 2) := by decide +kernel
theorem dX6_forth_5 : decode cX6_forth 5 = .ok (.if_icmp .ge 31, 3) := by decide +kernel
theorem dX6_forth_8 : decode cX6_forth 8 = .ok (.aload_n 0, 1) := by decide +kernel
theorem dX6_forth_9 : decode cX6_forth 9 = .ok (.getfield 22, 3) := by decide +kernel
theorem dX6_forth_12 : decode cX6_forth 12 = .ok (.iload_n 3, 1) := by decide +kernel
theorem dX6_forth_13 : decode cX6_forth 13 = .ok (.iload_n 3, 1) := by decide +kernel
theorem dX6_forth_14 : decode cX6_forth 14 = .ok (.aload_n 0, 1) := by decide +kernel
theorem dX6_forth_15 : decode cX6_forth 15 = .ok (.iload_n 1, 1) := by decide +kernel
theorem dX6_forth_16 : decode cX6_forth 16 = .ok (.iload_n 2, 1) := by decide +kernel
theorem dX6_forth_17 : decode cX6_forth 17 = .ok (.iconst 3, 1) := by decide +kernel
theorem dX6_forth_18 : decode cX6_forth 18 = .ok (.invokevirtual 68, 3) := by decide +kernel
theorem dX6_forth_21 : decode cX6_forth 21 = .ok (.if_icmp .ne 7, 3) := by decide +kernel
theorem dX6_forth_24 : decode cX6_forth 24 = .ok (.iconst 1, 1) := by decide +kernel
theorem dX6_forth_25 : decode cX6_forth 25 = .ok (.goto 4, 3) := by decide +kernel
theorem dX6_forth_28 : decode cX6_forth 28 = .ok (.iconst 0, 1) := by decide +kernel
theorem dX6_forth_29 : decode cX6_forth 29 = .ok (.bastore, 1) := by decide +kernel
theorem dX6_forth_30 : decode cX6_forth 30 = .ok (.iinc 3 1, 3) := by decide +kernel
theorem dX6_forth_33 : decode cX6_forth 33 = .ok (.goto (-31), 3) := by decide +kernel
theorem dX6_forth_36 : decode cX6_forth 36 = .ok (.aload_n 0, 1) := by decide +kernel
theorem dX6_forth_37 : decode cX6_forth 37 = .ok (.getfield 7, 3) := by decide +kernel
theorem dX6_forth_40 : decode cX6_forth 40 = .ok (.iload_n 1, 1) := by decide +kernel
theorem dX6_forth_41 : decode cX6_forth 41 = .ok (.bipush 126, 2) := by decide +kernel
theorem dX6_forth_43 : decode cX6_forth 43 = .ok (.iadd, 1) := by decide +kernel
theorem dX6_forth_44 : decode cX6_forth 44 = .ok (.iaload, 1) := by decide +kernel
theorem dX6_forth_45 : decode cX6_forth 45 = .ok (.istore_n 3, 1) := by decide +kernel
theorem dX6_forth_46 : decode cX6_forth 46 = .ok (.iload_n 3, 1) := by decide +kernel
theorem dX6_forth_47 : decode cX6_forth 47 = .ok (.aload_n 0, 1) := by decide +kernel
theorem dX6_forth_48 : decode cX6_forth 48 = .ok (.getfield 7, 3) := by decide +kernel
theorem dX6_forth_51 : decode cX6_forth 51 = .ok (.iload_n 1, 1) := by decide +kernel
theorem dX6_forth_52 : decode cX6_forth 52 = .ok (.bipush 122, 2) := by decide +kernel
theorem dX6_forth_54 : decode cX6_forth 54 = .ok (.iadd, 1) := by decide +kernel
theorem dX6_forth_55 : decode cX6_forth 55 = .ok (.iconst 3, 1) := by decide +kernel
theorem dX6_forth_56 : decode cX6_forth 56 = .ok (.iadd, 1) := by decide +kernel
theorem dX6_forth_57 : decode cX6_forth 57 = .ok (.iaload, 1) := by decide +kernel
theorem dX6_forth_58 : decode cX6_forth 58 = .ok (.if_icmp .gt 92, 3) := by decide +kernel
theorem dX6_forth_61 : decode cX6_forth 61 = .ok (.iconst 0, 1) := by decide +kernel
theorem dX6_forth_62 : decode cX6_forth 62 = .ok (.istore 4, 2) := by decide +kernel
theorem dX6_forth_64 : decode cX6_forth 64 = .ok (.iload 4, 2) := by decide +kernel
theorem dX6_forth_66 : decode cX6_forth 66 = .ok (.bipush 36, 2) := by decide +kernel
theorem dX6_forth_68 : decode cX6_forth 68 = .ok (.if_icmp .ge 17, 3) := by decide +kernel
theorem dX6_forth_71 : decode cX6_forth 71 = .ok (.aload_n 0, 1) := by decide +kernel
theorem dX6_forth_72 : decode cX6_forth 72 = .ok (.getfield 26, 3) := by decide +kernel
theorem dX6_forth_75 : decode cX6_forth 75 = .ok (.iload 4, 2) := by decide +kernel
theorem dX6_forth_77 : decode cX6_forth 77 = .ok (.iconst 0, 1) := by decide +kernel
theorem dX6_forth_78 : decode cX6_forth 78 = .ok (.bastore, 1) := by decide +kernel
theorem dX6_forth_79 : decode cX6_forth 79 = .ok (.iinc 4 1, 3) := by decide +kernel
theorem dX6_forth_82 : decode cX6_forth 82 = .ok (.goto (-18), 3) := by decide +kernel
theorem dX6_forth_85 : decode cX6_forth 85 = .ok (.aload_n 0, 1) := by decide +kernel
theorem dX6_forth_86 : decode cX6_forth 86 = .ok (.iload_n 1, 1) := by decide +kernel
theorem dX6_forth_87 : decode cX6_forth 87 = .ok (.aload_n 0, 1) := by decide +kernel
theorem dX6_forth_88 : decode cX6_forth 88 = .ok (.iload_n 1, 1) := by decide +kernel
theorem dX6_forth_89 : decode cX6_forth 89 = .ok (.iload_n 2, 1) := by decide +kernel
theorem dX6_forth_90 : decode cX6_forth 90 = .ok (.invokevirtual 85, 3) := by decide +kernel
theorem dX6_forth_93 : decode cX6_forth 93 = .ok (.iload_n 3, 1) := by decide +kernel
theorem dX6_forth_94 : decode cX6_forth 94 = .ok (.invokevirtual 187, 3) := by decide +kernel
theorem dX6_forth_97 : decode cX6_forth 97 = .ok (.ifCond .eq 17, 3) := by decide +kernel
theorem dX6_forth_100 : decode cX6_forth 100 = .ok (.iload_n 3, 1) := by decide +kernel
theorem dX6_forth_101 : decode cX6_forth 101 = .ok (.aload_n 0, 1) := by decide +kernel
theorem dX6_forth_102 : decode cX6_forth 102 = .ok (.getfield 7, 3) := by decide +kernel
theorem dX6_forth_105 : decode cX6_forth 105 = .ok (.iload_n 1, 1) := by decide +kernel
theorem dX6_forth_106 : decode cX6_forth 106 = .ok (.bipush 126, 2) := by decide +kernel
theorem dX6_forth_108 : decode cX6_forth 108 = .ok (.iadd, 1) := by decide +kernel
theorem dX6_forth_109 : decode cX6_forth 109 = .ok (.iaload, 1) := by decide +kernel
theorem dX6_forth_110 : decode cX6_forth 110 = .ok (.isub, 1) := by decide +kernel
theorem dX6_forth_111 : decode cX6_forth 111 = .ok (.iconst 1, 1) := by decide +kernel
theorem dX6_forth_112 : decode cX6_forth 112 = .ok (.iadd, 1) := by decide +kernel
theorem dX6_forth_113 : decode cX6_forth 113 = .ok (.ireturn, 1) := by decide +kernel
theorem dX6_forth_114 : decode cX6_forth 114 = .ok (.iconst 0, 1) := by decide +kernel
theorem dX6_forth_115 : decode cX6_forth 115 = .ok (.istore 4, 2) := by decide +kernel
theorem dX6_forth_117 : decode cX6_forth 117 = .ok (.iload 4, 2) := by decide +kernel
theorem dX6_forth_119 : decode cX6_forth 119 = .ok (.bipush 36, 2) := by decide +kernel
theorem dX6_forth_121 : decode cX6_forth 121 = .ok (.if_icmp .ge 23, 3) := by decide +kernel
theorem dX6_forth_124 : decode cX6_forth 124 = .ok (.aload_n 0, 1) := by decide +kernel
theorem dX6_forth_125 : decode cX6_forth 125 = .ok (.getfield 22, 3) := by decide +kernel
theorem dX6_forth_128 : decode cX6_forth 128 = .ok (.iload 4, 2) := by decide +kernel
theorem dX6_forth_130 : decode cX6_forth 130 = .ok (.aload_n 0, 1) := by decide +kernel
theorem dX6_forth_131 : decode cX6_forth 131 = .ok (.getfield 26, 3) := by decide +kernel
theorem dX6_forth_134 : decode cX6_forth 134 = .ok (.iload 4, 2) := by decide +kernel
theorem dX6_forth_136 : decode cX6_forth 136 = .ok (.baload, 1) := by decide +kernel
theorem dX6_forth_137 : decode cX6_forth 137 = .ok (.bastore, 1) := by decide +kernel
theorem dX6_forth_138 : decode cX6_forth 138 = .ok (.iinc 4 1, 3) := by decide +kernel
theorem dX6_forth_141 : decode cX6_forth 141 = .ok (.goto (-24), 3) := by decide +kernel
theorem dX6_forth_144 : decode cX6_forth 144 = .ok (.iinc 3 1, 3) := by decide +kernel
theorem dX6_forth_147 : decode cX6_forth 147 = .ok (.goto (-101), 3) := by decide +kernel
theorem dX6_forth_150 : decode cX6_forth 150 = .ok (.bipush (-5), 2) := by decide +kernel
theorem dX6_forth_152 : decode cX6_forth 152 = .ok (.ireturn, 1) := by decide +kernel
theorem dX6_fewest_0 : decode cX6_fewest 0 = .ok (.iload_n 1, 1) := by decide +kernel
theorem dX6_fewest_1 : decode cX6_fewest 1 = .ok (.bipush 100, 2) := by decide +kernel
theorem dX6_fewest_3 : decode cX6_fewest 3 = .ok (.irem, 1) := by decide +kernel
theorem dX6_fewest_4 : decode cX6_fewest 4 = .ok (.istore 4, 2) := by decide +kernel
theorem dX6_fewest_6 : decode cX6_fewest 6 = .ok (.aload_n 0, 1) := by decide +kernel
theorem dX6_fewest_7 : decode cX6_fewest 7 = .ok (.iconst 0, 1) := by decide +kernel
theorem dX6_fewest_8 : decode cX6_fewest 8 = .ok (.iload_n 2, 1) := by decide +kernel
theorem dX6_fewest_9 : decode cX6_fewest 9 = .ok (.iload 4, 2) := by decide +kernel
theorem dX6_fewest_11 : decode cX6_fewest 11 = .ok (.iload_n 3, 1) := by decide +kernel
theorem dX6_fewest_12 : decode cX6_fewest 12 = .ok (.invokevirtual 101, 3) := by decide +kernel
theorem dX6_fewest_15 : decode cX6_fewest 15 = .ok (.ifCond .eq 9, 3) := by decide +kernel
theorem dX6_fewest_18 : decode cX6_fewest 18 = .ok (.sipush 10000, 3) := by decide +kernel
theorem dX6_fewest_21 : decode cX6_fewest 21 = .ok (.goto 11, 3) := by decide +kernel
theorem dX6_fewest_24 : decode cX6_fewest 24 = .ok (.iconst 1, 1) := by decide +kernel
theorem dX6_fewest_25 : decode cX6_fewest 25 = .ok (.aload_n 0, 1) := by decide +kernel
theorem dX6_fewest_26 : decode cX6_fewest 26 = .ok (.getfield 32, 3) := by decide +kernel
theorem dX6_fewest_29 : decode cX6_fewest 29 = .ok (.iload_n 2, 1) := by decide +kernel
theorem dX6_fewest_30 : decode cX6_fewest 30 = .ok (.iaload, 1) := by decide +kernel
theorem dX6_fewest_31 : decode cX6_fewest 31 = .ok (.iadd, 1) := by decide +kernel
theorem dX6_fewest_32 : decode cX6_fewest 32 = .ok (.istore 5, 2) := by decide +kernel
theorem dX6_fewest_34 : decode cX6_fewest 34 = .ok (.iload_n 3, 1) := by decide +kernel
theorem dX6_fewest_35 : decode cX6_fewest 35 = .ok (.iconst 2, 1) := by decide +kernel
theorem dX6_fewest_36 : decode cX6_fewest 36 = .ok (.irem, 1) := by decide +kernel
theorem dX6_fewest_37 : decode cX6_fewest 37 = .ok (.iload_n 1, 1) := by decide +kernel
theorem dX6_fewest_38 : decode cX6_fewest 38 = .ok (.bipush 100, 2) := by decide +kernel
theorem dX6_fewest_40 : decode cX6_fewest 40 = .ok (.idiv, 1) := by decide +kernel
theorem dX6_fewest_41 : decode cX6_fewest 41 = .ok (.if_icmp .ne 19, 3) := by decide +kernel
theorem dX6_fewest_44 : decode cX6_fewest 44 = .ok (.aload_n 0, 1) := by decide +kernel
theorem dX6_fewest_45 : decode cX6_fewest 45 = .ok (.iconst 0, 1) := by decide +kernel
theorem dX6_fewest_46 : decode cX6_fewest 46 = .ok (.iload_n 2, 1) := by decide +kernel
theorem dX6_fewest_47 : decode cX6_fewest 47 = .ok (.iload 4, 2) := by decide +kernel
theorem dX6_fewest_49 : decode cX6_fewest 49 = .ok (.iload_n 3, 1) := by decide +kernel
theorem dX6_fewest_50 : decode cX6_fewest 50 = .ok (.invokevirtual 57, 3) := by decide +kernel
theorem dX6_fewest_53 : decode cX6_fewest 53 = .ok (.ifCond .eq 7, 3) := by decide +kernel
theorem dX6_fewest_56 : decode cX6_fewest 56 = .ok (.iconst 1, 1) := by decide +kernel
theorem dX6_fewest_57 : decode cX6_fewest 57 = .ok (.goto 4, 3) := by decide +kernel
theorem dX6_fewest_60 : decode cX6_fewest 60 = .ok (.iconst 0, 1) := by decide +kernel
theorem dX6_fewest_61 : decode cX6_fewest 61 = .ok (.istore 6, 2) := by decide +kernel
theorem dX6_fewest_63 : decode cX6_fewest 63 = .ok (.iconst 0, 1) := by decide +kernel
theorem dX6_fewest_64 : decode cX6_fewest 64 = .ok (.istore 7, 2) := by decide +kernel
theorem dX6_fewest_66 : decode cX6_fewest 66 = .ok (.iload 7, 2) := by decide +kernel
theorem dX6_fewest_68 : decode cX6_fewest 68 = .ok (.bipush 12, 2) := by decide +kernel
theorem dX6_fewest_70 : decode cX6_fewest 70 = .ok (.if_icmp .ge 107, 3) := by decide +kernel
theorem dX6_fewest_73 : decode cX6_fewest 73 = .ok (.iload 6, 2) := by decide +kernel
theorem dX6_fewest_75 : decode cX6_fewest 75 = .ok (.ifCond .eq 102, 3) := by decide +kernel
theorem dX6_fewest_78 : decode cX6_fewest 78 = .ok (.aload_n 0, 1) := by decide +kernel
theorem dX6_fewest_79 : decode cX6_fewest 79 = .ok (.iconst 0, 1) := by decide +kernel
theorem dX6_fewest_80 : decode cX6_fewest 80 = .ok (.iload_n 1, 1) := by decide +kernel
theorem dX6_fewest_81 : decode cX6_fewest 81 = .ok (.iload_n 2, 1) := by decide +kernel
theorem dX6_fewest_82 : decode cX6_fewest 82 = .ok (.bipush 10, 2) := by decide +kernel
theorem dX6_fewest_84 : decode cX6_fewest 84 = .ok (.iload 7, 2) := by decide +kernel
theorem dX6_fewest_86 : decode cX6_fewest 86 = .ok (.iconst 3, 1) := by decide +kernel
theorem dX6_fewest_87 : decode cX6_fewest 87 = .ok (.idiv, 1) := by decide +kernel
theorem dX6_fewest_88 : decode cX6_fewest 88 = .ok (.imul, 1) := by decide +kernel
theorem dX6_fewest_89 : decode cX6_fewest 89 = .ok (.iload 7, 2) := by decide +kernel
theorem dX6_fewest_91 : decode cX6_fewest 91 = .ok (.iconst 3, 1) := by decide +kernel
theorem dX6_fewest_92 : decode cX6_fewest 92 = .ok (.irem, 1) := by decide +kernel
theorem dX6_fewest_93 : decode cX6_fewest 93 = .ok (.iadd, 1) := by decide +kernel
theorem dX6_fewest_94 : decode cX6_fewest 94 = .ok (.iconst 1, 1) := by decide +kernel
theorem dX6_fewest_95 : decode cX6_fewest 95 = .ok (.iadd, 1) := by decide +kernel
theorem dX6_fewest_96 : decode cX6_fewest 96 = .ok (.iload_n 3, 1) := by decide +kernel
theorem dX6_fewest_97 : decode cX6_fewest 97 = .ok (.invokevirtual 88, 3) := by decide +kernel
theorem dX6_fewest_100 : decode cX6_fewest 100 = .ok (.istore 8, 2) := by decide +kernel
theorem dX6_fewest_102 : decode cX6_fewest 102 = .ok (.iload 8, 2) := by decide +kernel
theorem dX6_fewest_104 : decode cX6_fewest 104 = .ok (.iload_n 1, 1) := by decide +kernel
theorem dX6_fewest_105 : decode cX6_fewest 105 = .ok (.bipush 100, 2) := by decide +kernel
theorem dX6_fewest_107 : decode cX6_fewest 107 = .ok (.idiv, 1) := by decide +kernel
theorem dX6_fewest_108 : decode cX6_fewest 108 = .ok (.invokestatic 61, 3) := by decide +kernel
theorem dX6_fewest_111 : decode cX6_fewest 111 = .ok (.if_icmp .ne 7, 3) := by decide +kernel
theorem dX6_fewest_114 : decode cX6_fewest 114 = .ok (.iconst 1, 1) := by decide +kernel
theorem dX6_fewest_115 : decode cX6_fewest 115 = .ok (.goto 38, 3) := by decide +kernel
theorem dX6_fewest_118 : decode cX6_fewest 118 = .ok (.iload 8, 2) := by decide +kernel
theorem dX6_fewest_120 : decode cX6_fewest 120 = .ok (.bipush (-5), 2) := by decide +kernel
theorem dX6_fewest_122 : decode cX6_fewest 122 = .ok (.if_icmp .eq 16, 3) := by decide +kernel
theorem dX6_fewest_125 : decode cX6_fewest 125 = .ok (.aload_n 0, 1) := by decide +kernel
theorem dX6_fewest_126 : decode cX6_fewest 126 = .ok (.iconst 0, 1) := by decide +kernel
theorem dX6_fewest_127 : decode cX6_fewest 127 = .ok (.iload 8, 2) := by decide +kernel
theorem dX6_fewest_129 : decode cX6_fewest 129 = .ok (.iload 4, 2) := by decide +kernel
theorem dX6_fewest_131 : decode cX6_fewest 131 = .ok (.iload_n 3, 1) := by decide +kernel
theorem dX6_fewest_132 : decode cX6_fewest 132 = .ok (.invokevirtual 101, 3) := by decide +kernel
theorem dX6_fewest_135 : decode cX6_fewest 135 = .ok (.ifCond .eq 9, 3) := by decide +kernel
theorem dX6_fewest_138 : decode cX6_fewest 138 = .ok (.sipush 10000, 3) := by decide +kernel
theorem dX6_fewest_141 : decode cX6_fewest 141 = .ok (.goto 12, 3) := by decide +kernel
theorem dX6_fewest_144 : decode cX6_fewest 144 = .ok (.iconst 1, 1) := by decide +kernel
theorem dX6_fewest_145 : decode cX6_fewest 145 = .ok (.aload_n 0, 1) := by decide +kernel
theorem dX6_fewest_146 : decode cX6_fewest 146 = .ok (.getfield 32, 3) := by decide +kernel
theorem dX6_fewest_149 : decode cX6_fewest 149 = .ok (.iload 8, 2) := by decide +kernel
theorem dX6_fewest_151 : decode cX6_fewest 151 = .ok (.iaload, 1) := by decide +kernel
theorem dX6_fewest_152 : decode cX6_fewest 152 = .ok (.iadd, 1) := by decide +kernel
theorem dX6_fewest_153 : decode cX6_fewest 153 = .ok (.istore 9, 2) := by decide +kernel
theorem dX6_fewest_155 : decode cX6_fewest 155 = .ok (.iload 9, 2) := by decide +kernel
theorem dX6_fewest_157 : decode cX6_fewest 157 = .ok (.iload 5, 2) := by decide +kernel
theorem dX6_fewest_159 : decode cX6_fewest 159 = .ok (.if_icmp .ge 8, 3) := by decide +kernel
theorem dX6_fewest_162 : decode cX6_fewest 162 = .ok (.iload 9, 2) := by decide +kernel
theorem dX6_fewest_164 : decode cX6_fewest 164 = .ok (.goto 5, 3) := by decide +kernel
theorem dX6_fewest_167 : decode cX6_fewest 167 = .ok (.iload 5, 2) := by decide +kernel
theorem dX6_fewest_169 : decode cX6_fewest 169 = .ok (.istore 5, 2) := by decide +kernel
theorem dX6_fewest_171 : decode cX6_fewest 171 = .ok (.iinc 7 1, 3) := by decide +kernel
theorem dX6_fewest_174 : decode cX6_fewest 174 = .ok (.goto (-108), 3) := by decide +kernel
theorem dX6_fewest_177 : decode cX6_fewest 177 = .ok (.iload 5, 2) := by decide +kernel
theorem dX6_fewest_179 : decode cX6_fewest 179 = .ok (.ireturn, 1) := by decide +kernel
theorem dX6_back_0 : decode cX6_back 0 = .ok (.iconst 0, 1) := by decide +kernel
theorem dX6_back_1 : decode cX6_back 1 = .ok (.istore_n 2, 1) := by decide +kernel
theorem dX6_back_2 : decode cX6_back 2 = .ok (.iload_n 2, 1) := by decide +kernel
theorem dX6_back_3 : decode cX6_back 3 = .ok (.bipush 36, 2) := by decide +kernel
theorem dX6_back_5 : decode cX6_back 5 = .ok (.if_icmp .ge 18, 3) := by decide +kernel
theorem dX6_back_8 : decode cX6_back 8 = .ok (.aload_n 0, 1) := by decide +kernel
theorem dX6_back_9 : decode cX6_back 9 = .ok (.getfield 32, 3) := by decide +kernel
theorem dX6_back_12 : decode cX6_back 12 = .ok (.iload_n 2, 1) := by decide +kernel
theorem dX6_back_13 : decode cX6_back 13 = .ok (.sipush 10000, 3) := by decide +kernel
theorem dX6_back_16 : decode cX6_back 16 = .ok (.iastore, 1) := by decide +kernel
theorem dX6_back_17 : decode cX6_back 17 = .ok (.iinc 2 1, 3) := by decide +kernel
theorem dX6_back_20 : decode cX6_back 20 = .ok (.goto (-18), 3) := by decide +kernel
theorem dX6_back_23 : decode cX6_back 23 = .ok (.aload_n 0, 1) := by decide +kernel
theorem dX6_back_24 : decode cX6_back 24 = .ok (.getfield 7, 3) := by decide +kernel
theorem dX6_back_27 : decode cX6_back 27 = .ok (.bipush 125, 2) := by decide +kernel
theorem dX6_back_29 : decode cX6_back 29 = .ok (.iaload, 1) := by decide +kernel
theorem dX6_back_30 : decode cX6_back 30 = .ok (.istore_n 2, 1) := by decide +kernel
theorem dX6_back_31 : decode cX6_back 31 = .ok (.iload_n 2, 1) := by decide +kernel
theorem dX6_back_32 : decode cX6_back 32 = .ok (.aload_n 0, 1) := by decide +kernel
theorem dX6_back_33 : decode cX6_back 33 = .ok (.getfield 7, 3) := by decide +kernel
theorem dX6_back_36 : decode cX6_back 36 = .ok (.bipush 126, 2) := by decide +kernel
theorem dX6_back_38 : decode cX6_back 38 = .ok (.iaload, 1) := by decide +kernel
theorem dX6_back_39 : decode cX6_back 39 = .ok (.if_icmp .lt 67, 3) := by decide +kernel
theorem dX6_back_42 : decode cX6_back 42 = .ok (.iconst 0, 1) := by decide +kernel
theorem dX6_back_43 : decode cX6_back 43 = .ok (.istore_n 3, 1) := by decide +kernel
theorem dX6_back_44 : decode cX6_back 44 = .ok (.iload_n 3, 1) := by decide +kernel
theorem dX6_back_45 : decode cX6_back 45 = .ok (.bipush 36, 2) := by decide +kernel
theorem dX6_back_47 : decode cX6_back 47 = .ok (.if_icmp .ge 27, 3) := by decide +kernel
theorem dX6_back_50 : decode cX6_back 50 = .ok (.aload_n 0, 1) := by decide +kernel
theorem dX6_back_51 : decode cX6_back 51 = .ok (.getfield 29, 3) := by decide +kernel
theorem dX6_back_54 : decode cX6_back 54 = .ok (.iload_n 3, 1) := by decide +kernel
theorem dX6_back_55 : decode cX6_back 55 = .ok (.aload_n 0, 1) := by decide +kernel
theorem dX6_back_56 : decode cX6_back 56 = .ok (.aload_n 0, 1) := by decide +kernel
theorem dX6_back_57 : decode cX6_back 57 = .ok (.iconst 0, 1) := by decide +kernel
theorem dX6_back_58 : decode cX6_back 58 = .ok (.iload_n 1, 1) := by decide +kernel
theorem dX6_back_59 : decode cX6_back 59 = .ok (.invokevirtual 85, 3) := by decide +kernel
theorem dX6_back_62 : decode cX6_back 62 = .ok (.iload_n 3, 1) := by decide +kernel
theorem dX6_back_63 : decode cX6_back 63 = .ok (.iload_n 2, 1) := by decide +kernel
theorem dX6_back_64 : decode cX6_back 64 = .ok (.invokevirtual 190, 3) := by decide +kernel
theorem dX6_back_67 : decode cX6_back 67 = .ok (.iastore, 1) := by decide +kernel
theorem dX6_back_68 : decode cX6_back 68 = .ok (.iinc 3 1, 3) := by decide +kernel
theorem dX6_back_71 : decode cX6_back 71 = .ok (.goto (-27), 3) := by decide +kernel
theorem dX6_back_74 : decode cX6_back 74 = .ok (.iconst 0, 1) := by decide +kernel
theorem dX6_back_75 : decode cX6_back 75 = .ok (.istore_n 3, 1) := by decide +kernel
theorem dX6_back_76 : decode cX6_back 76 = .ok (.iload_n 3, 1) := by decide +kernel
theorem dX6_back_77 : decode cX6_back 77 = .ok (.bipush 36, 2) := by decide +kernel
theorem dX6_back_79 : decode cX6_back 79 = .ok (.if_icmp .ge 21, 3) := by decide +kernel
theorem dX6_back_82 : decode cX6_back 82 = .ok (.aload_n 0, 1) := by decide +kernel
theorem dX6_back_83 : decode cX6_back 83 = .ok (.getfield 32, 3) := by decide +kernel
theorem dX6_back_86 : decode cX6_back 86 = .ok (.iload_n 3, 1) := by decide +kernel
theorem dX6_back_87 : decode cX6_back 87 = .ok (.aload_n 0, 1) := by decide +kernel
theorem dX6_back_88 : decode cX6_back 88 = .ok (.getfield 29, 3) := by decide +kernel
theorem dX6_back_91 : decode cX6_back 91 = .ok (.iload_n 3, 1) := by decide +kernel
theorem dX6_back_92 : decode cX6_back 92 = .ok (.iaload, 1) := by decide +kernel
theorem dX6_back_93 : decode cX6_back 93 = .ok (.iastore, 1) := by decide +kernel
theorem dX6_back_94 : decode cX6_back 94 = .ok (.iinc 3 1, 3) := by decide +kernel
theorem dX6_back_97 : decode cX6_back 97 = .ok (.goto (-21), 3) := by decide +kernel
theorem dX6_back_100 : decode cX6_back 100 = .ok (.iinc 2 (-1), 3) := by decide +kernel
theorem dX6_back_103 : decode cX6_back 103 = .ok (.goto (-72), 3) := by decide +kernel
theorem dX6_back_106 : decode cX6_back 106 = .ok (.aload_n 0, 1) := by decide +kernel
theorem dX6_back_107 : decode cX6_back 107 = .ok (.getfield 32, 3) := by decide +kernel
theorem dX6_back_110 : decode cX6_back 110 = .ok (.aload_n 0, 1) := by decide +kernel
theorem dX6_back_111 : decode cX6_back 111 = .ok (.iconst 0, 1) := by decide +kernel
theorem dX6_back_112 : decode cX6_back 112 = .ok (.iload_n 1, 1) := by decide +kernel
theorem dX6_back_113 : decode cX6_back 113 = .ok (.iconst 3, 1) := by decide +kernel
theorem dX6_back_114 : decode cX6_back 114 = .ok (.invokevirtual 68, 3) := by decide +kernel
theorem dX6_back_117 : decode cX6_back 117 = .ok (.iaload, 1) := by decide +kernel
theorem dX6_back_118 : decode cX6_back 118 = .ok (.istore_n 2, 1) := by decide +kernel
theorem dX6_back_119 : decode cX6_back 119 = .ok (.iload_n 2, 1) := by decide +kernel
theorem dX6_back_120 : decode cX6_back 120 = .ok (.sipush 10000, 3) := by decide +kernel
theorem dX6_back_123 : decode cX6_back 123 = .ok (.if_icmp .ge 7, 3) := by decide +kernel
theorem dX6_back_126 : decode cX6_back 126 = .ok (.iload_n 2, 1) := by decide +kernel
theorem dX6_back_127 : decode cX6_back 127 = .ok (.goto 5, 3) := by decide +kernel
theorem dX6_back_130 : decode cX6_back 130 = .ok (.bipush (-5), 2) := by decide +kernel
theorem dX6_back_132 : decode cX6_back 132 = .ok (.ireturn, 1) := by decide +kernel
theorem dX6_homeIn_0 : decode cX6_homeIn 0 = .ok (.aload_n 0, 1) := by decide +kernel
theorem dX6_homeIn_1 : decode cX6_homeIn 1 = .ok (.iconst 0, 1) := by decide +kernel
theorem dX6_homeIn_2 : decode cX6_homeIn 2 = .ok (.iload_n 1, 1) := by decide +kernel
theorem dX6_homeIn_3 : decode cX6_homeIn 3 = .ok (.invokevirtual 104, 3) := by decide +kernel
theorem dX6_homeIn_6 : decode cX6_homeIn 6 = .ok (.ifCond .ne 5, 3) := by decide +kernel
theorem dX6_homeIn_9 : decode cX6_homeIn 9 = .ok (.iconst (-1), 1) := by decide +kernel
theorem dX6_homeIn_10 : decode cX6_homeIn 10 = .ok (.ireturn, 1) := by decide +kernel
theorem dX6_homeIn_11 : decode cX6_homeIn 11 = .ok (.iload_n 2, 1) := by decide +kernel
theorem dX6_homeIn_12 : decode cX6_homeIn 12 = .ok (.iconst 0, 1) := by decide +kernel
theorem dX6_homeIn_13 : decode cX6_homeIn 13 = .ok (.iconst 1, 1) := by decide +kernel
theorem dX6_homeIn_14 : decode cX6_homeIn 14 = .ok (.invokestatic 35, 3) := by decide +kernel
theorem dX6_homeIn_17 : decode cX6_homeIn 17 = .ok (.ifCond .ne 6, 3) := by decide +kernel
theorem dX6_homeIn_20 : decode cX6_homeIn 20 = .ok (.bipush (-2), 2) := by decide +kernel
theorem dX6_homeIn_22 : decode cX6_homeIn 22 = .ok (.ireturn, 1) := by decide +kernel
theorem dX6_homeIn_23 : decode cX6_homeIn 23 = .ok (.aload_n 0, 1) := by decide +kernel
theorem dX6_homeIn_24 : decode cX6_homeIn 24 = .ok (.iconst 0, 1) := by decide +kernel
theorem dX6_homeIn_25 : decode cX6_homeIn 25 = .ok (.iload_n 1, 1) := by decide +kernel
theorem dX6_homeIn_26 : decode cX6_homeIn 26 = .ok (.iconst 2, 1) := by decide +kernel
theorem dX6_homeIn_27 : decode cX6_homeIn 27 = .ok (.invokevirtual 68, 3) := by decide +kernel
theorem dX6_homeIn_30 : decode cX6_homeIn 30 = .ok (.ifCond .eq 6, 3) := by decide +kernel
theorem dX6_homeIn_33 : decode cX6_homeIn 33 = .ok (.bipush (-4), 2) := by decide +kernel
theorem dX6_homeIn_35 : decode cX6_homeIn 35 = .ok (.ireturn, 1) := by decide +kernel
theorem dX6_homeIn_36 : decode cX6_homeIn 36 = .ok (.iload_n 2, 1) := by decide +kernel
theorem dX6_homeIn_37 : decode cX6_homeIn 37 = .ok (.ifCond .ne 12, 3) := by decide +kernel
theorem dX6_homeIn_40 : decode cX6_homeIn 40 = .ok (.aload_n 0, 1) := by decide +kernel
theorem dX6_homeIn_41 : decode cX6_homeIn 41 = .ok (.iconst 0, 1) := by decide +kernel
theorem dX6_homeIn_42 : decode cX6_homeIn 42 = .ok (.iload_n 1, 1) := by decide +kernel
theorem dX6_homeIn_43 : decode cX6_homeIn 43 = .ok (.invokevirtual 193, 3) := by decide +kernel
theorem dX6_homeIn_46 : decode cX6_homeIn 46 = .ok (.goto 8, 3) := by decide +kernel
theorem dX6_homeIn_49 : decode cX6_homeIn 49 = .ok (.aload_n 0, 1) := by decide +kernel
theorem dX6_homeIn_50 : decode cX6_homeIn 50 = .ok (.iload_n 1, 1) := by decide +kernel
theorem dX6_homeIn_51 : decode cX6_homeIn 51 = .ok (.invokevirtual 196, 3) := by decide +kernel
theorem dX6_homeIn_54 : decode cX6_homeIn 54 = .ok (.ireturn, 1) := by decide +kernel
theorem dX6_inDanger_0 : decode cX6_inDanger 0 = .ok (.iload_n 1, 1) := by decide +kernel
theorem dX6_inDanger_1 : decode cX6_inDanger 1 = .ok (.iconst 0, 1) := by decide +kernel
theorem dX6_inDanger_2 : decode cX6_inDanger 2 = .ok (.iconst 1, 1) := by decide +kernel
theorem dX6_inDanger_3 : decode cX6_inDanger 3 = .ok (.invokestatic 35, 3) := by decide +kernel
theorem dX6_inDanger_6 : decode cX6_inDanger 6 = .ok (.ifCond .ne 5, 3) := by decide +kernel
theorem dX6_inDanger_9 : decode cX6_inDanger 9 = .ok (.iconst (-1), 1) := by decide +kernel
theorem dX6_inDanger_10 : decode cX6_inDanger 10 = .ok (.ireturn, 1) := by decide +kernel
theorem dX6_inDanger_11 : decode cX6_inDanger 11 = .ok (.iconst 0, 1) := by decide +kernel
theorem dX6_inDanger_12 : decode cX6_inDanger 12 = .ok (.istore_n 2, 1) := by decide +kernel
theorem dX6_inDanger_13 : decode cX6_inDanger 13 = .ok (.iconst 0, 1) := by decide +kernel
theorem dX6_inDanger_14 : decode cX6_inDanger 14 = .ok (.istore_n 3, 1) := by decide +kernel
theorem dX6_inDanger_15 : decode cX6_inDanger 15 = .ok (.iload_n 3, 1) := by decide +kernel
theorem dX6_inDanger_16 : decode cX6_inDanger 16 = .ok (.aload_n 0, 1) := by decide +kernel
theorem dX6_inDanger_17 : decode cX6_inDanger 17 = .ok (.getfield 7, 3) := by decide +kernel
theorem dX6_inDanger_20 : decode cX6_inDanger 20 = .ok (.bipush 127, 2) := by decide +kernel
theorem dX6_inDanger_22 : decode cX6_inDanger 22 = .ok (.iaload, 1) := by decide +kernel
theorem dX6_inDanger_23 : decode cX6_inDanger 23 = .ok (.if_icmp .ge 89, 3) := by decide +kernel
theorem dX6_inDanger_26 : decode cX6_inDanger 26 = .ok (.aload_n 0, 1) := by decide +kernel
theorem dX6_inDanger_27 : decode cX6_inDanger 27 = .ok (.iconst 0, 1) := by decide +kernel
theorem dX6_inDanger_28 : decode cX6_inDanger 28 = .ok (.invokevirtual 81, 3) := by decide +kernel
theorem dX6_inDanger_31 : decode cX6_inDanger 31 = .ok (.ifCond .ne 81, 3) := by decide +kernel
theorem dX6_inDanger_34 : decode cX6_inDanger 34 = .ok (.aload_n 0, 1) := by decide +kernel
theorem dX6_inDanger_35 : decode cX6_inDanger 35 = .ok (.iconst 0, 1) := by decide +kernel
theorem dX6_inDanger_36 : decode cX6_inDanger 36 = .ok (.iload_n 3, 1) := by decide +kernel
theorem dX6_inDanger_37 : decode cX6_inDanger 37 = .ok (.iconst 2, 1) := by decide +kernel
theorem dX6_inDanger_38 : decode cX6_inDanger 38 = .ok (.invokevirtual 68, 3) := by decide +kernel
theorem dX6_inDanger_41 : decode cX6_inDanger 41 = .ok (.ifCond .ne 18, 3) := by decide +kernel
theorem dX6_inDanger_44 : decode cX6_inDanger 44 = .ok (.aload_n 0, 1) := by decide +kernel
theorem dX6_inDanger_45 : decode cX6_inDanger 45 = .ok (.iconst 0, 1) := by decide +kernel
theorem dX6_inDanger_46 : decode cX6_inDanger 46 = .ok (.iload_n 3, 1) := by decide +kernel
theorem dX6_inDanger_47 : decode cX6_inDanger 47 = .ok (.iconst 0, 1) := by decide +kernel
theorem dX6_inDanger_48 : decode cX6_inDanger 48 = .ok (.invokevirtual 68, 3) := by decide +kernel
theorem dX6_inDanger_51 : decode cX6_inDanger 51 = .ok (.iload_n 1, 1) := by decide +kernel
theorem dX6_inDanger_52 : decode cX6_inDanger 52 = .ok (.if_icmp .ne 7, 3) := by decide +kernel
theorem dX6_inDanger_55 : decode cX6_inDanger 55 = .ok (.iconst 1, 1) := by decide +kernel
theorem dX6_inDanger_56 : decode cX6_inDanger 56 = .ok (.goto 4, 3) := by decide +kernel
theorem dX6_inDanger_59 : decode cX6_inDanger 59 = .ok (.iconst 0, 1) := by decide +kernel
theorem dX6_inDanger_60 : decode cX6_inDanger 60 = .ok (.istore 4, 2) := by decide +kernel
theorem dX6_inDanger_62 : decode cX6_inDanger 62 = .ok (.iload_n 2, 1) := by decide +kernel
theorem dX6_inDanger_63 : decode cX6_inDanger 63 = .ok (.iload 4, 2) := by decide +kernel
theorem dX6_inDanger_65 : decode cX6_inDanger 65 = .ok (.ifCond .eq 38, 3) := by decide +kernel
theorem dX6_inDanger_68 : decode cX6_inDanger 68 = .ok (.aload_n 0, 1) := by decide +kernel
theorem dX6_inDanger_69 : decode cX6_inDanger 69 = .ok (.iconst 0, 1) := by decide +kernel
theorem dX6_inDanger_70 : decode cX6_inDanger 70 = .ok (.aload_n 0, 1) := by decide +kernel
theorem dX6_inDanger_71 : decode cX6_inDanger 71 = .ok (.iconst 0, 1) := by decide +kernel
theorem dX6_inDanger_72 : decode cX6_inDanger 72 = .ok (.iload_n 3, 1) := by decide +kernel
theorem dX6_inDanger_73 : decode cX6_inDanger 73 = .ok (.iconst 3, 1) := by decide +kernel
theorem dX6_inDanger_74 : decode cX6_inDanger 74 = .ok (.invokevirtual 68, 3) := by decide +kernel
theorem dX6_inDanger_77 : decode cX6_inDanger 77 = .ok (.aload_n 0, 1) := by decide +kernel
theorem dX6_inDanger_78 : decode cX6_inDanger 78 = .ok (.iconst 0, 1) := by decide +kernel
theorem dX6_inDanger_79 : decode cX6_inDanger 79 = .ok (.iload_n 3, 1) := by decide +kernel
theorem dX6_inDanger_80 : decode cX6_inDanger 80 = .ok (.iconst 1, 1) := by decide +kernel
theorem dX6_inDanger_81 : decode cX6_inDanger 81 = .ok (.invokevirtual 68, 3) := by decide +kernel
theorem dX6_inDanger_84 : decode cX6_inDanger 84 = .ok (.aload_n 0, 1) := by decide +kernel
theorem dX6_inDanger_85 : decode cX6_inDanger 85 = .ok (.getfield 7, 3) := by decide +kernel
theorem dX6_inDanger_88 : decode cX6_inDanger 88 = .ok (.bipush 126, 2) := by decide +kernel
theorem dX6_inDanger_90 : decode cX6_inDanger 90 = .ok (.iaload, 1) := by decide +kernel
theorem dX6_inDanger_91 : decode cX6_inDanger 91 = .ok (.invokevirtual 101, 3) := by decide +kernel
theorem dX6_inDanger_94 : decode cX6_inDanger 94 = .ok (.ifCond .eq 9, 3) := by decide +kernel
theorem dX6_inDanger_97 : decode cX6_inDanger 97 = .ok (.iconst 1, 1) := by decide +kernel
theorem dX6_inDanger_98 : decode cX6_inDanger 98 = .ok (.iload_n 3, 1) := by decide +kernel
theorem dX6_inDanger_99 : decode cX6_inDanger 99 = .ok (.ishl, 1) := by decide +kernel
theorem dX6_inDanger_100 : decode cX6_inDanger 100 = .ok (.goto 4, 3) := by decide +kernel
theorem dX6_inDanger_103 : decode cX6_inDanger 103 = .ok (.iconst 0, 1) := by decide +kernel
theorem dX6_inDanger_104 : decode cX6_inDanger 104 = .ok (.ior, 1) := by decide +kernel
theorem dX6_inDanger_105 : decode cX6_inDanger 105 = .ok (.istore_n 2, 1) := by decide +kernel
theorem dX6_inDanger_106 : decode cX6_inDanger 106 = .ok (.iinc 3 1, 3) := by decide +kernel
theorem dX6_inDanger_109 : decode cX6_inDanger 109 = .ok (.goto (-94), 3) := by decide +kernel
theorem dX6_inDanger_112 : decode cX6_inDanger 112 = .ok (.iload_n 2, 1) := by decide +kernel
theorem dX6_inDanger_113 : decode cX6_inDanger 113 = .ok (.ireturn, 1) := by decide +kernel
theorem dX6_worth_0 : decode cX6_worth 0 = .ok (.aload_n 0, 1) := by decide +kernel
theorem dX6_worth_1 : decode cX6_worth 1 = .ok (.invokevirtual 114, 3) := by decide +kernel
