theorem dX5_worthOf_108 : decode cX5_worthOf 108 = .ok (.iload_n 1, 1) := by decide +kernel
theorem dX5_worthOf_109 : decode cX5_worthOf 109 = .ok (.invokevirtual 217, 3) := by decide +kernel
theorem dX5_worthOf_112 : decode cX5_worthOf 112 = .ok (.aload_n 0, 1) := by decide +kernel
theorem dX5_worthOf_113 : decode cX5_worthOf 113 = .ok (.getfield 31, 3) := by decide +kernel
theorem dX5_worthOf_116 : decode cX5_worthOf 116 = .ok (.iload 4, 2) := by decide +kernel
theorem dX5_worthOf_118 : decode cX5_worthOf 118 = .ok (.aload_n 0, 1) := by decide +kernel
theorem dX5_worthOf_119 : decode cX5_worthOf 119 = .ok (.getfield 10, 3) := by decide +kernel
theorem dX5_worthOf_122 : decode cX5_worthOf 122 = .ok (.getfield 102, 3) := by decide +kernel
theorem dX5_worthOf_125 : decode cX5_worthOf 125 = .ok (.invokevirtual 275, 3) := by decide +kernel
theorem dX5_worthOf_128 : decode cX5_worthOf 128 = .ok (.istore 6, 2) := by decide +kernel
theorem dX5_worthOf_130 : decode cX5_worthOf 130 = .ok (.iload 6, 2) := by decide +kernel
theorem dX5_worthOf_132 : decode cX5_worthOf 132 = .ok (.bipush (-5), 2) := by decide +kernel
theorem dX5_worthOf_134 : decode cX5_worthOf 134 = .ok (.if_icmp .ne 7, 3) := by decide +kernel
theorem dX5_worthOf_137 : decode cX5_worthOf 137 = .ok (.iconst 0, 1) := by decide +kernel
theorem dX5_worthOf_138 : decode cX5_worthOf 138 = .ok (.goto 9, 3) := by decide +kernel
theorem dX5_worthOf_141 : decode cX5_worthOf 141 = .ok (.sipush 1000, 3) := by decide +kernel
theorem dX5_worthOf_144 : decode cX5_worthOf 144 = .ok (.iload 6, 2) := by decide +kernel
theorem dX5_worthOf_146 : decode cX5_worthOf 146 = .ok (.isub, 1) := by decide +kernel
theorem dX5_worthOf_147 : decode cX5_worthOf 147 = .ok (.ireturn, 1) := by decide +kernel
theorem dX5_isCell_0 : decode cX5_isCell 0 = .ok (.iload_n 0, 1) := by decide +kernel
theorem dX5_isCell_1 : decode cX5_isCell 1 = .ok (.ifCond .lt 13, 3) := by decide +kernel
theorem dX5_isCell_4 : decode cX5_isCell 4 = .ok (.iload_n 0, 1) := by decide +kernel
theorem dX5_isCell_5 : decode cX5_isCell 5 = .ok (.bipush 36, 2) := by decide +kernel
theorem dX5_isCell_7 : decode cX5_isCell 7 = .ok (.if_icmp .ge 7, 3) := by decide +kernel
theorem dX5_isCell_10 : decode cX5_isCell 10 = .ok (.iconst 1, 1) := by decide +kernel
theorem dX5_isCell_11 : decode cX5_isCell 11 = .ok (.goto 4, 3) := by decide +kernel
theorem dX5_isCell_14 : decode cX5_isCell 14 = .ok (.iconst 0, 1) := by decide +kernel
theorem dX5_isCell_15 : decode cX5_isCell 15 = .ok (.ireturn, 1) := by decide +kernel
theorem dX5_isPlayer_0 : decode cX5_isPlayer 0 = .ok (.iload_n 0, 1) := by decide +kernel
theorem dX5_isPlayer_1 : decode cX5_isPlayer 1 = .ok (.ifCond .eq 8, 3) := by decide +kernel
theorem dX5_isPlayer_4 : decode cX5_isPlayer 4 = .ok (.iload_n 0, 1) := by decide +kernel
theorem dX5_isPlayer_5 : decode cX5_isPlayer 5 = .ok (.iconst 1, 1) := by decide +kernel
theorem dX5_isPlayer_6 : decode cX5_isPlayer 6 = .ok (.if_icmp .ne 7, 3) := by decide +kernel
theorem dX5_isPlayer_9 : decode cX5_isPlayer 9 = .ok (.iconst 1, 1) := by decide +kernel
theorem dX5_isPlayer_10 : decode cX5_isPlayer 10 = .ok (.goto 4, 3) := by decide +kernel
theorem dX5_isPlayer_13 : decode cX5_isPlayer 13 = .ok (.iconst 0, 1) := by decide +kernel
theorem dX5_isPlayer_14 : decode cX5_isPlayer 14 = .ok (.ireturn, 1) := by decide +kernel
theorem dX5_isDraft_0 : decode cX5_isDraft 0 = .ok (.iload_n 0, 1) := by decide +kernel
theorem dX5_isDraft_1 : decode cX5_isDraft 1 = .ok (.iconst 1, 1) := by decide +kernel
theorem dX5_isDraft_2 : decode cX5_isDraft 2 = .ok (.if_icmp .lt 12, 3) := by decide +kernel
theorem dX5_isDraft_5 : decode cX5_isDraft 5 = .ok (.iload_n 0, 1) := by decide +kernel
theorem dX5_isDraft_6 : decode cX5_isDraft 6 = .ok (.iconst 3, 1) := by decide +kernel
theorem dX5_isDraft_7 : decode cX5_isDraft 7 = .ok (.if_icmp .gt 7, 3) := by decide +kernel
theorem dX5_isDraft_10 : decode cX5_isDraft 10 = .ok (.iconst 1, 1) := by decide +kernel
theorem dX5_isDraft_11 : decode cX5_isDraft 11 = .ok (.goto 4, 3) := by decide +kernel
theorem dX5_isDraft_14 : decode cX5_isDraft 14 = .ok (.iconst 0, 1) := by decide +kernel
theorem dX5_isDraft_15 : decode cX5_isDraft 15 = .ok (.ireturn, 1) := by decide +kernel
theorem dX5_isHarbour_0 : decode cX5_isHarbour 0 = .ok (.iload_n 0, 1) := by decide +kernel
theorem dX5_isHarbour_1 : decode cX5_isHarbour 1 = .ok (.bipush 35, 2) := by decide +kernel
theorem dX5_isHarbour_3 : decode cX5_isHarbour 3 = .ok (.if_icmp .eq 7, 3) := by decide +kernel
theorem dX5_isHarbour_6 : decode cX5_isHarbour 6 = .ok (.iload_n 0, 1) := by decide +kernel
theorem dX5_isHarbour_7 : decode cX5_isHarbour 7 = .ok (.ifCond .ne 7, 3) := by decide +kernel
theorem dX5_isHarbour_10 : decode cX5_isHarbour 10 = .ok (.iconst 1, 1) := by decide +kernel
theorem dX5_isHarbour_11 : decode cX5_isHarbour 11 = .ok (.goto 4, 3) := by decide +kernel
theorem dX5_isHarbour_14 : decode cX5_isHarbour 14 = .ok (.iconst 0, 1) := by decide +kernel
theorem dX5_isHarbour_15 : decode cX5_isHarbour 15 = .ok (.ireturn, 1) := by decide +kernel
theorem dX5_harbourOf_0 : decode cX5_harbourOf 0 = .ok (.iload_n 0, 1) := by decide +kernel
theorem dX5_harbourOf_1 : decode cX5_harbourOf 1 = .ok (.ifCond .ne 8, 3) := by decide +kernel
theorem dX5_harbourOf_4 : decode cX5_harbourOf 4 = .ok (.bipush 35, 2) := by decide +kernel
theorem dX5_harbourOf_6 : decode cX5_harbourOf 6 = .ok (.goto 4, 3) := by decide +kernel
theorem dX5_harbourOf_9 : decode cX5_harbourOf 9 = .ok (.iconst 0, 1) := by decide +kernel
theorem dX5_harbourOf_10 : decode cX5_harbourOf 10 = .ok (.ireturn, 1) := by decide +kernel
theorem dX5_cellBeside_0 : decode cX5_cellBeside 0 = .ok (.iload_n 0, 1) := by decide +kernel
theorem dX5_cellBeside_1 : decode cX5_cellBeside 1 = .ok (.invokestatic 108, 3) := by decide +kernel
theorem dX5_cellBeside_4 : decode cX5_cellBeside 4 = .ok (.ifCond .ne 5, 3) := by decide +kernel
theorem dX5_cellBeside_7 : decode cX5_cellBeside 7 = .ok (.iconst (-1), 1) := by decide +kernel
theorem dX5_cellBeside_8 : decode cX5_cellBeside 8 = .ok (.ireturn, 1) := by decide +kernel
theorem dX5_cellBeside_9 : decode cX5_cellBeside 9 = .ok (.iload_n 0, 1) := by decide +kernel
theorem dX5_cellBeside_10 : decode cX5_cellBeside 10 = .ok (.bipush 6, 2) := by decide +kernel
theorem dX5_cellBeside_12 : decode cX5_cellBeside 12 = .ok (.irem, 1) := by decide +kernel
theorem dX5_cellBeside_13 : decode cX5_cellBeside 13 = .ok (.istore_n 2, 1) := by decide +kernel
theorem dX5_cellBeside_14 : decode cX5_cellBeside 14 = .ok (.iload_n 1, 1) := by decide +kernel
theorem dX5_cellBeside_15 : decode cX5_cellBeside 15 = .ok (.tableswitch 87 0 3 #[29, 42, 60, 72], 29) := by decide +kernel
theorem dX5_cellBeside_44 : decode cX5_cellBeside 44 = .ok (.iload_n 2, 1) := by decide +kernel
theorem dX5_cellBeside_45 : decode cX5_cellBeside 45 = .ok (.iconst 5, 1) := by decide +kernel
theorem dX5_cellBeside_46 : decode cX5_cellBeside 46 = .ok (.if_icmp .ge 9, 3) := by decide +kernel
theorem dX5_cellBeside_49 : decode cX5_cellBeside 49 = .ok (.iload_n 0, 1) := by decide +kernel
theorem dX5_cellBeside_50 : decode cX5_cellBeside 50 = .ok (.iconst 1, 1) := by decide +kernel
theorem dX5_cellBeside_51 : decode cX5_cellBeside 51 = .ok (.iadd, 1) := by decide +kernel
theorem dX5_cellBeside_52 : decode cX5_cellBeside 52 = .ok (.goto 4, 3) := by decide +kernel
theorem dX5_cellBeside_55 : decode cX5_cellBeside 55 = .ok (.iconst (-1), 1) := by decide +kernel
theorem dX5_cellBeside_56 : decode cX5_cellBeside 56 = .ok (.ireturn, 1) := by decide +kernel
theorem dX5_cellBeside_57 : decode cX5_cellBeside 57 = .ok (.iload_n 0, 1) := by decide +kernel
theorem dX5_cellBeside_58 : decode cX5_cellBeside 58 = .ok (.bipush 6, 2) := by decide +kernel
theorem dX5_cellBeside_60 : decode cX5_cellBeside 60 = .ok (.iadd, 1) := by decide +kernel
theorem dX5_cellBeside_61 : decode cX5_cellBeside 61 = .ok (.bipush 36, 2) := by decide +kernel
theorem dX5_cellBeside_63 : decode cX5_cellBeside 63 = .ok (.if_icmp .ge 10, 3) := by decide +kernel
theorem dX5_cellBeside_66 : decode cX5_cellBeside 66 = .ok (.iload_n 0, 1) := by decide +kernel
theorem dX5_cellBeside_67 : decode cX5_cellBeside 67 = .ok (.bipush 6, 2) := by decide +kernel
theorem dX5_cellBeside_69 : decode cX5_cellBeside 69 = .ok (.iadd, 1) := by decide +kernel
theorem dX5_cellBeside_70 : decode cX5_cellBeside 70 = .ok (.goto 4, 3) := by decide +kernel
theorem dX5_cellBeside_73 : decode cX5_cellBeside 73 = .ok (.iconst (-1), 1) := by decide +kernel
theorem dX5_cellBeside_74 : decode cX5_cellBeside 74 = .ok (.ireturn, 1) := by decide +kernel
theorem dX5_cellBeside_75 : decode cX5_cellBeside 75 = .ok (.iload_n 2, 1) := by decide +kernel
theorem dX5_cellBeside_76 : decode cX5_cellBeside 76 = .ok (.ifCond .le 9, 3) := by decide +kernel
theorem dX5_cellBeside_79 : decode cX5_cellBeside 79 = .ok (.iload_n 0, 1) := by decide +kernel
theorem dX5_cellBeside_80 : decode cX5_cellBeside 80 = .ok (.iconst 1, 1) := by decide +kernel
theorem dX5_cellBeside_81 : decode cX5_cellBeside 81 = .ok (.isub, 1) := by decide +kernel
theorem dX5_cellBeside_82 : decode cX5_cellBeside 82 = .ok (.goto 4, 3) := by decide +kernel
theorem dX5_cellBeside_85 : decode cX5_cellBeside 85 = .ok (.iconst (-1), 1) := by decide +kernel
theorem dX5_cellBeside_86 : decode cX5_cellBeside 86 = .ok (.ireturn, 1) := by decide +kernel
theorem dX5_cellBeside_87 : decode cX5_cellBeside 87 = .ok (.iload_n 0, 1) := by decide +kernel
theorem dX5_cellBeside_88 : decode cX5_cellBeside 88 = .ok (.bipush 6, 2) := by decide +kernel
theorem dX5_cellBeside_90 : decode cX5_cellBeside 90 = .ok (.if_icmp .lt 10, 3) := by decide +kernel
theorem dX5_cellBeside_93 : decode cX5_cellBeside 93 = .ok (.iload_n 0, 1) := by decide +kernel
theorem dX5_cellBeside_94 : decode cX5_cellBeside 94 = .ok (.bipush 6, 2) := by decide +kernel
theorem dX5_cellBeside_96 : decode cX5_cellBeside 96 = .ok (.isub, 1) := by decide +kernel
theorem dX5_cellBeside_97 : decode cX5_cellBeside 97 = .ok (.goto 4, 3) := by decide +kernel
theorem dX5_cellBeside_100 : decode cX5_cellBeside 100 = .ok (.iconst (-1), 1) := by decide +kernel
theorem dX5_cellBeside_101 : decode cX5_cellBeside 101 = .ok (.ireturn, 1) := by decide +kernel
theorem dX5_cellBeside_102 : decode cX5_cellBeside 102 = .ok (.iconst (-1), 1) := by decide +kernel
theorem dX5_cellBeside_103 : decode cX5_cellBeside 103 = .ok (.ireturn, 1) := by decide +kernel
theorem dX5_cellFrom_0 : decode cX5_cellFrom 0 = .ok (.iload_n 0, 1) := by decide +kernel
theorem dX5_cellFrom_1 : decode cX5_cellFrom 1 = .ok (.istore_n 3, 1) := by decide +kernel
theorem dX5_cellFrom_2 : decode cX5_cellFrom 2 = .ok (.iconst 0, 1) := by decide +kernel
theorem dX5_cellFrom_3 : decode cX5_cellFrom 3 = .ok (.istore 4, 2) := by decide +kernel
theorem dX5_cellFrom_5 : decode cX5_cellFrom 5 = .ok (.iload 4, 2) := by decide +kernel
theorem dX5_cellFrom_7 : decode cX5_cellFrom 7 = .ok (.iload_n 2, 1) := by decide +kernel
theorem dX5_cellFrom_8 : decode cX5_cellFrom 8 = .ok (.if_icmp .ge 21, 3) := by decide +kernel
theorem dX5_cellFrom_11 : decode cX5_cellFrom 11 = .ok (.iload 4, 2) := by decide +kernel
theorem dX5_cellFrom_13 : decode cX5_cellFrom 13 = .ok (.iconst 3, 1) := by decide +kernel
theorem dX5_cellFrom_14 : decode cX5_cellFrom 14 = .ok (.if_icmp .ge 15, 3) := by decide +kernel
theorem dX5_cellFrom_17 : decode cX5_cellFrom 17 = .ok (.iload_n 3, 1) := by decide +kernel
theorem dX5_cellFrom_18 : decode cX5_cellFrom 18 = .ok (.iload_n 1, 1) := by decide +kernel
theorem dX5_cellFrom_19 : decode cX5_cellFrom 19 = .ok (.invokestatic 278, 3) := by decide +kernel
theorem dX5_cellFrom_22 : decode cX5_cellFrom 22 = .ok (.istore_n 3, 1) := by decide +kernel
theorem dX5_cellFrom_23 : decode cX5_cellFrom 23 = .ok (.iinc 4 1, 3) := by decide +kernel
theorem dX5_cellFrom_26 : decode cX5_cellFrom 26 = .ok (.goto (-21), 3) := by decide +kernel
theorem dX5_cellFrom_29 : decode cX5_cellFrom 29 = .ok (.iload_n 3, 1) := by decide +kernel
theorem dX5_cellFrom_30 : decode cX5_cellFrom 30 = .ok (.ireturn, 1) := by decide +kernel
theorem dX5_read_0 : decode cX5_read 0 = .ok (.iload_n 1, 1) := by decide +kernel
theorem dX5_read_1 : decode cX5_read 1 = .ok (.ifCond .lt 15, 3) := by decide +kernel
theorem dX5_read_4 : decode cX5_read 4 = .ok (.iload_n 1, 1) := by decide +kernel
theorem dX5_read_5 : decode cX5_read 5 = .ok (.aload_n 0, 1) := by decide +kernel
theorem dX5_read_6 : decode cX5_read 6 = .ok (.arraylength, 1) := by decide +kernel
theorem dX5_read_7 : decode cX5_read 7 = .ok (.if_icmp .ge 9, 3) := by decide +kernel
theorem dX5_read_10 : decode cX5_read 10 = .ok (.aload_n 0, 1) := by decide +kernel
theorem dX5_read_11 : decode cX5_read 11 = .ok (.iload_n 1, 1) := by decide +kernel
theorem dX5_read_12 : decode cX5_read 12 = .ok (.iaload, 1) := by decide +kernel
theorem dX5_read_13 : decode cX5_read 13 = .ok (.goto 4, 3) := by decide +kernel
theorem dX5_read_16 : decode cX5_read 16 = .ok (.iconst 0, 1) := by decide +kernel
theorem dX5_read_17 : decode cX5_read 17 = .ok (.ireturn, 1) := by decide +kernel
theorem dX5_write_0 : decode cX5_write 0 = .ok (.iload_n 1, 1) := by decide +kernel
theorem dX5_write_1 : decode cX5_write 1 = .ok (.ifCond .lt 13, 3) := by decide +kernel
theorem dX5_write_4 : decode cX5_write 4 = .ok (.iload_n 1, 1) := by decide +kernel
theorem dX5_write_5 : decode cX5_write 5 = .ok (.aload_n 0, 1) := by decide +kernel
theorem dX5_write_6 : decode cX5_write 6 = .ok (.arraylength, 1) := by decide +kernel
theorem dX5_write_7 : decode cX5_write 7 = .ok (.if_icmp .ge 7, 3) := by decide +kernel
theorem dX5_write_10 : decode cX5_write 10 = .ok (.aload_n 0, 1) := by decide +kernel
theorem dX5_write_11 : decode cX5_write 11 = .ok (.iload_n 1, 1) := by decide +kernel
theorem dX5_write_12 : decode cX5_write 12 = .ok (.iload_n 2, 1) := by decide +kernel
theorem dX5_write_13 : decode cX5_write 13 = .ok (.iastore, 1) := by decide +kernel
theorem dX5_write_14 : decode cX5_write 14 = .ok (.return_, 1) := by decide +kernel
theorem dX5_copy_0 : decode cX5_copy 0 = .ok (.iconst 0, 1) := by decide +kernel
theorem dX5_copy_1 : decode cX5_copy 1 = .ok (.istore_n 2, 1) := by decide +kernel
theorem dX5_copy_2 : decode cX5_copy 2 = .ok (.iload_n 2, 1) := by decide +kernel
theorem dX5_copy_3 : decode cX5_copy 3 = .ok (.aload_n 0, 1) := by decide +kernel
theorem dX5_copy_4 : decode cX5_copy 4 = .ok (.arraylength, 1) := by decide +kernel
theorem dX5_copy_5 : decode cX5_copy 5 = .ok (.if_icmp .ge 21, 3) := by decide +kernel
theorem dX5_copy_8 : decode cX5_copy 8 = .ok (.iload_n 2, 1) := by decide +kernel
theorem dX5_copy_9 : decode cX5_copy 9 = .ok (.aload_n 1, 1) := by decide +kernel
theorem dX5_copy_10 : decode cX5_copy 10 = .ok (.arraylength, 1) := by decide +kernel
theorem dX5_copy_11 : decode cX5_copy 11 = .ok (.if_icmp .ge 15, 3) := by decide +kernel
theorem dX5_copy_14 : decode cX5_copy 14 = .ok (.aload_n 1, 1) := by decide +kernel
theorem dX5_copy_15 : decode cX5_copy 15 = .ok (.iload_n 2, 1) := by decide +kernel
theorem dX5_copy_16 : decode cX5_copy 16 = .ok (.aload_n 0, 1) := by decide +kernel
theorem dX5_copy_17 : decode cX5_copy 17 = .ok (.iload_n 2, 1) := by decide +kernel
theorem dX5_copy_18 : decode cX5_copy 18 = .ok (.iaload, 1) := by decide +kernel
theorem dX5_copy_19 : decode cX5_copy 19 = .ok (.iastore, 1) := by decide +kernel
theorem dX5_copy_20 : decode cX5_copy 20 = .ok (.iinc 2 1, 3) := by decide +kernel
theorem dX5_copy_23 : decode cX5_copy 23 = .ok (.goto (-21), 3) := by decide +kernel
theorem dX5_copy_26 : decode cX5_copy 26 = .ok (.return_, 1) := by decide +kernel
theorem dJ9_max_7cf53_0 : decode cJ9_max_7cf53 0 = .ok (.iload_n 0, 1) := by decide +kernel
theorem dJ9_max_7cf53_1 : decode cJ9_max_7cf53 1 = .ok (.iload_n 1, 1) := by decide +kernel
theorem dJ9_max_7cf53_2 : decode cJ9_max_7cf53 2 = .ok (.if_icmp .lt 7, 3) := by decide +kernel
theorem dJ9_max_7cf53_5 : decode cJ9_max_7cf53 5 = .ok (.iload_n 0, 1) := by decide +kernel
theorem dJ9_max_7cf53_6 : decode cJ9_max_7cf53 6 = .ok (.goto 4, 3) := by decide +kernel
theorem dJ9_max_7cf53_9 : decode cJ9_max_7cf53 9 = .ok (.iload_n 1, 1) := by decide +kernel
theorem dJ9_max_7cf53_10 : decode cJ9_max_7cf53 10 = .ok (.ireturn, 1) := by decide +kernel
theorem dJ9_min_7cf53_0 : decode cJ9_min_7cf53 0 = .ok (.iload_n 0, 1) := by decide +kernel
theorem dJ9_min_7cf53_1 : decode cJ9_min_7cf53 1 = .ok (.iload_n 1, 1) := by decide +kernel
theorem dJ9_min_7cf53_2 : decode cJ9_min_7cf53 2 = .ok (.if_icmp .gt 7, 3) := by decide +kernel
theorem dJ9_min_7cf53_5 : decode cJ9_min_7cf53 5 = .ok (.iload_n 0, 1) := by decide +kernel
theorem dJ9_min_7cf53_6 : decode cJ9_min_7cf53 6 = .ok (.goto 4, 3) := by decide +kernel
theorem dJ9_min_7cf53_9 : decode cJ9_min_7cf53 9 = .ok (.iload_n 1, 1) := by decide +kernel
theorem dJ9_min_7cf53_10 : decode cJ9_min_7cf53 10 = .ok (.ireturn, 1) := by decide +kernel
theorem dL_cell_0 : decode cL_cell 0 = .ok (.iload_n 1, 1) := by decide +kernel
theorem dL_cell_1 : decode cL_cell 1 = .ok (.aload_n 0, 1) := by decide +kernel
theorem dL_cell_2 : decode cL_cell 2 = .ok (.arraylength, 1) := by decide +kernel
theorem dL_cell_3 : decode cL_cell 3 = .ok (.if_icmp .ge 9, 3) := by decide +kernel
theorem dL_cell_6 : decode cL_cell 6 = .ok (.aload_n 0, 1) := by decide +kernel
theorem dL_cell_7 : decode cL_cell 7 = .ok (.iload_n 1, 1) := by decide +kernel
theorem dL_cell_8 : decode cL_cell 8 = .ok (.iaload, 1) := by decide +kernel
theorem dL_cell_9 : decode cL_cell 9 = .ok (.goto 15, 3) := by decide +kernel
theorem dL_cell_12 : decode cL_cell 12 = .ok (.sipush 7919, 3) := by decide +kernel
theorem dL_cell_15 : decode cL_cell 15 = .ok (.iload_n 1, 1) := by decide +kernel
theorem dL_cell_16 : decode cL_cell 16 = .ok (.iconst 3, 1) := by decide +kernel
theorem dL_cell_17 : decode cL_cell 17 = .ok (.iadd, 1) := by decide +kernel
theorem dL_cell_18 : decode cL_cell 18 = .ok (.imul, 1) := by decide +kernel
theorem dL_cell_19 : decode cL_cell 19 = .ok (.iload_n 1, 1) := by decide +kernel
theorem dL_cell_20 : decode cL_cell 20 = .ok (.bipush 11, 2) := by decide +kernel
theorem dL_cell_22 : decode cL_cell 22 = .ok (.iadd, 1) := by decide +kernel
theorem dL_cell_23 : decode cL_cell 23 = .ok (.imul, 1) := by decide +kernel
theorem dL_cell_24 : decode cL_cell 24 = .ok (.ireturn, 1) := by decide +kernel
theorem dL_low_0 : decode cL_low 0 = .ok (.iload_n 0, 1) := by decide +kernel
theorem dL_low_1 : decode cL_low 1 = .ok (.ldc 7, 2) := by decide +kernel
theorem dL_low_3 : decode cL_low 3 = .ok (.iand, 1) := by decide +kernel
theorem dL_low_4 : decode cL_low 4 = .ok (.iload_n 1, 1) := by decide +kernel
theorem dL_low_5 : decode cL_low 5 = .ok (.irem, 1) := by decide +kernel
theorem dL_low_6 : decode cL_low 6 = .ok (.ireturn, 1) := by decide +kernel
theorem dL_isBoard_0 : decode cL_isBoard 0 = .ok (.aload_n 0, 1) := by decide +kernel
theorem dL_isBoard_1 : decode cL_isBoard 1 = .ok (.iconst 2, 1) := by decide +kernel
theorem dL_isBoard_2 : decode cL_isBoard 2 = .ok (.invokevirtual 8, 3) := by decide +kernel
theorem dL_isBoard_5 : decode cL_isBoard 5 = .ok (.istore_n 1, 1) := by decide +kernel
theorem dL_isBoard_6 : decode cL_isBoard 6 = .ok (.iconst 0, 1) := by decide +kernel
theorem dL_isBoard_7 : decode cL_isBoard 7 = .ok (.istore_n 2, 1) := by decide +kernel
theorem dL_isBoard_8 : decode cL_isBoard 8 = .ok (.iconst 0, 1) := by decide +kernel
theorem dL_isBoard_9 : decode cL_isBoard 9 = .ok (.istore_n 3, 1) := by decide +kernel
theorem dL_isBoard_10 : decode cL_isBoard 10 = .ok (.iconst 0, 1) := by decide +kernel
theorem dL_isBoard_11 : decode cL_isBoard 11 = .ok (.istore 4, 2) := by decide +kernel
theorem dL_isBoard_13 : decode cL_isBoard 13 = .ok (.iconst 0, 1) := by decide +kernel
theorem dL_isBoard_14 : decode cL_isBoard 14 = .ok (.istore 5, 2) := by decide +kernel
theorem dL_isBoard_16 : decode cL_isBoard 16 = .ok (.iconst 0, 1) := by decide +kernel
theorem dL_isBoard_17 : decode cL_isBoard 17 = .ok (.istore 6, 2) := by decide +kernel
theorem dL_isBoard_19 : decode cL_isBoard 19 = .ok (.iconst 0, 1) := by decide +kernel
theorem dL_isBoard_20 : decode cL_isBoard 20 = .ok (.istore 7, 2) := by decide +kernel
theorem dL_isBoard_22 : decode cL_isBoard 22 = .ok (.iconst 0, 1) := by decide +kernel
theorem dL_isBoard_23 : decode cL_isBoard 23 = .ok (.istore 8, 2) := by decide +kernel
theorem dL_isBoard_25 : decode cL_isBoard 25 = .ok (.iconst 0, 1) := by decide +kernel
theorem dL_isBoard_26 : decode cL_isBoard 26 = .ok (.istore 9, 2) := by decide +kernel
theorem dL_isBoard_28 : decode cL_isBoard 28 = .ok (.iload 9, 2) := by decide +kernel
theorem dL_isBoard_30 : decode cL_isBoard 30 = .ok (.aload_n 0, 1) := by decide +kernel
theorem dL_isBoard_31 : decode cL_isBoard 31 = .ok (.iconst 5, 1) := by decide +kernel
theorem dL_isBoard_32 : decode cL_isBoard 32 = .ok (.invokevirtual 8, 3) := by decide +kernel
theorem dL_isBoard_35 : decode cL_isBoard 35 = .ok (.if_icmp .ge 568, 3) := by decide +kernel
theorem dL_isBoard_38 : decode cL_isBoard 38 = .ok (.iload 9, 2) := by decide +kernel
theorem dL_isBoard_40 : decode cL_isBoard 40 = .ok (.bipush 10, 2) := by decide +kernel
theorem dL_isBoard_42 : decode cL_isBoard 42 = .ok (.if_icmp .ge 561, 3) := by decide +kernel
theorem dL_isBoard_45 : decode cL_isBoard 45 = .ok (.aload_n 0, 1) := by decide +kernel
theorem dL_isBoard_46 : decode cL_isBoard 46 = .ok (.iload 9, 2) := by decide +kernel
theorem dL_isBoard_48 : decode cL_isBoard 48 = .ok (.iconst 2, 1) := by decide +kernel
theorem dL_isBoard_49 : decode cL_isBoard 49 = .ok (.invokevirtual 14, 3) := by decide +kernel
theorem dL_isBoard_52 : decode cL_isBoard 52 = .ok (.istore 10, 2) := by decide +kernel
theorem dL_isBoard_54 : decode cL_isBoard 54 = .ok (.aload_n 0, 1) := by decide +kernel
theorem dL_isBoard_55 : decode cL_isBoard 55 = .ok (.iload 9, 2) := by decide +kernel
theorem dL_isBoard_57 : decode cL_isBoard 57 = .ok (.iconst 3, 1) := by decide +kernel
theorem dL_isBoard_58 : decode cL_isBoard 58 = .ok (.invokevirtual 14, 3) := by decide +kernel
theorem dL_isBoard_61 : decode cL_isBoard 61 = .ok (.istore 11, 2) := by decide +kernel
theorem dL_isBoard_63 : decode cL_isBoard 63 = .ok (.aload_n 0, 1) := by decide +kernel
theorem dL_isBoard_64 : decode cL_isBoard 64 = .ok (.iload 9, 2) := by decide +kernel
theorem dL_isBoard_66 : decode cL_isBoard 66 = .ok (.iconst 1, 1) := by decide +kernel
theorem dL_isBoard_67 : decode cL_isBoard 67 = .ok (.invokevirtual 14, 3) := by decide +kernel
theorem dL_isBoard_70 : decode cL_isBoard 70 = .ok (.istore 12, 2) := by decide +kernel
theorem dL_isBoard_72 : decode cL_isBoard 72 = .ok (.aload_n 0, 1) := by decide +kernel
theorem dL_isBoard_73 : decode cL_isBoard 73 = .ok (.iload 9, 2) := by decide +kernel
theorem dL_isBoard_75 : decode cL_isBoard 75 = .ok (.iconst 0, 1) := by decide +kernel
theorem dL_isBoard_76 : decode cL_isBoard 76 = .ok (.invokevirtual 14, 3) := by decide +kernel
theorem dL_isBoard_79 : decode cL_isBoard 79 = .ok (.istore 13, 2) := by decide +kernel
theorem dL_isBoard_81 : decode cL_isBoard 81 = .ok (.iload 10, 2) := by decide +kernel
theorem dL_isBoard_83 : decode cL_isBoard 83 = .ok (.ifCond .ne 24, 3) := by decide +kernel
theorem dL_isBoard_86 : decode cL_isBoard 86 = .ok (.iload 11, 2) := by decide +kernel
theorem dL_isBoard_88 : decode cL_isBoard 88 = .ok (.ifCond .lt 19, 3) := by decide +kernel
theorem dL_isBoard_91 : decode cL_isBoard 91 = .ok (.aload_n 0, 1) := by decide +kernel
theorem dL_isBoard_92 : decode cL_isBoard 92 = .ok (.iload 11, 2) := by decide +kernel
theorem dL_isBoard_94 : decode cL_isBoard 94 = .ok (.iconst 2, 1) := by decide +kernel
theorem dL_isBoard_95 : decode cL_isBoard 95 = .ok (.invokevirtual 18, 3) := by decide +kernel
theorem dL_isBoard_98 : decode cL_isBoard 98 = .ok (.iload 12, 2) := by decide +kernel
theorem dL_isBoard_100 : decode cL_isBoard 100 = .ok (.if_icmp .lt 7, 3) := by decide +kernel
theorem dL_isBoard_103 : decode cL_isBoard 103 = .ok (.iconst 1, 1) := by decide +kernel
theorem dL_isBoard_104 : decode cL_isBoard 104 = .ok (.goto 4, 3) := by decide +kernel
theorem dL_isBoard_107 : decode cL_isBoard 107 = .ok (.iconst 0, 1) := by decide +kernel
theorem dL_isBoard_108 : decode cL_isBoard 108 = .ok (.istore 14, 2) := by decide +kernel
theorem dL_isBoard_110 : decode cL_isBoard 110 = .ok (.iload 10, 2) := by decide +kernel
theorem dL_isBoard_112 : decode cL_isBoard 112 = .ok (.ifCond .lt 96, 3) := by decide +kernel
theorem dL_isBoard_115 : decode cL_isBoard 115 = .ok (.iload 10, 2) := by decide +kernel
theorem dL_isBoard_117 : decode cL_isBoard 117 = .ok (.iconst 3, 1) := by decide +kernel
theorem dL_isBoard_118 : decode cL_isBoard 118 = .ok (.if_icmp .ge 90, 3) := by decide +kernel
theorem dL_isBoard_121 : decode cL_isBoard 121 = .ok (.iload 10, 2) := by decide +kernel
theorem dL_isBoard_123 : decode cL_isBoard 123 = .ok (.ifCond .ne 7, 3) := by decide +kernel
theorem dL_isBoard_126 : decode cL_isBoard 126 = .ok (.iconst 1, 1) := by decide +kernel
theorem dL_isBoard_127 : decode cL_isBoard 127 = .ok (.goto 4, 3) := by decide +kernel
theorem dL_isBoard_130 : decode cL_isBoard 130 = .ok (.iconst 0, 1) := by decide +kernel
theorem dL_isBoard_131 : decode cL_isBoard 131 = .ok (.iload 11, 2) := by decide +kernel
theorem dL_isBoard_133 : decode cL_isBoard 133 = .ok (.ifCond .lt 7, 3) := by decide +kernel
theorem dL_isBoard_136 : decode cL_isBoard 136 = .ok (.iconst 1, 1) := by decide +kernel
theorem dL_isBoard_137 : decode cL_isBoard 137 = .ok (.goto 4, 3) := by decide +kernel
theorem dL_isBoard_140 : decode cL_isBoard 140 = .ok (.iconst 0, 1) := by decide +kernel
theorem dL_isBoard_141 : decode cL_isBoard 141 = .ok (.if_icmp .ne 67, 3) := by decide +kernel
theorem dL_isBoard_144 : decode cL_isBoard 144 = .ok (.iload 12, 2) := by decide +kernel
theorem dL_isBoard_146 : decode cL_isBoard 146 = .ok (.ifCond .le 62, 3) := by decide +kernel
theorem dL_isBoard_149 : decode cL_isBoard 149 = .ok (.iload 12, 2) := by decide +kernel
theorem dL_isBoard_151 : decode cL_isBoard 151 = .ok (.iconst 4, 1) := by decide +kernel
theorem dL_isBoard_152 : decode cL_isBoard 152 = .ok (.if_icmp .ge 56, 3) := by decide +kernel
theorem dL_isBoard_155 : decode cL_isBoard 155 = .ok (.aload_n 0, 1) := by decide +kernel
theorem dL_isBoard_156 : decode cL_isBoard 156 = .ok (.iload 9, 2) := by decide +kernel
theorem dL_isBoard_158 : decode cL_isBoard 158 = .ok (.iconst 4, 1) := by decide +kernel
theorem dL_isBoard_159 : decode cL_isBoard 159 = .ok (.invokevirtual 14, 3) := by decide +kernel
theorem dL_isBoard_162 : decode cL_isBoard 162 = .ok (.iload 14, 2) := by decide +kernel
theorem dL_isBoard_164 : decode cL_isBoard 164 = .ok (.ifCond .eq 7, 3) := by decide +kernel
theorem dL_isBoard_167 : decode cL_isBoard 167 = .ok (.iconst 1, 1) := by decide +kernel
theorem dL_isBoard_168 : decode cL_isBoard 168 = .ok (.goto 4, 3) := by decide +kernel
theorem dL_isBoard_171 : decode cL_isBoard 171 = .ok (.iconst 0, 1) := by decide +kernel
theorem dL_isBoard_172 : decode cL_isBoard 172 = .ok (.if_icmp .ne 36, 3) := by decide +kernel
theorem dL_isBoard_175 : decode cL_isBoard 175 = .ok (.iload 10, 2) := by decide +kernel
theorem dL_isBoard_177 : decode cL_isBoard 177 = .ok (.ifCond .ne 27, 3) := by decide +kernel
theorem dL_isBoard_180 : decode cL_isBoard 180 = .ok (.aload_n 0, 1) := by decide +kernel
theorem dL_isBoard_181 : decode cL_isBoard 181 = .ok (.iload 11, 2) := by decide +kernel
theorem dL_isBoard_183 : decode cL_isBoard 183 = .ok (.iconst 3, 1) := by decide +kernel
theorem dL_isBoard_184 : decode cL_isBoard 184 = .ok (.invokevirtual 18, 3) := by decide +kernel
theorem dL_isBoard_187 : decode cL_isBoard 187 = .ok (.iload 9, 2) := by decide +kernel
theorem dL_isBoard_189 : decode cL_isBoard 189 = .ok (.if_icmp .ne 19, 3) := by decide +kernel
theorem dL_isBoard_192 : decode cL_isBoard 192 = .ok (.iload 11, 2) := by decide +kernel
theorem dL_isBoard_194 : decode cL_isBoard 194 = .ok (.ifCond .eq 14, 3) := by decide +kernel
theorem dL_isBoard_197 : decode cL_isBoard 197 = .ok (.iload 11, 2) := by decide +kernel
theorem dL_isBoard_199 : decode cL_isBoard 199 = .ok (.bipush 35, 2) := by decide +kernel
theorem dL_isBoard_201 : decode cL_isBoard 201 = .ok (.if_icmp .eq 7, 3) := by decide +kernel
theorem dL_isBoard_204 : decode cL_isBoard 204 = .ok (.iconst 1, 1) := by decide +kernel
theorem dL_isBoard_205 : decode cL_isBoard 205 = .ok (.goto 4, 3) := by decide +kernel
theorem dL_isBoard_208 : decode cL_isBoard 208 = .ok (.iconst 0, 1) := by decide +kernel
theorem dL_isBoard_209 : decode cL_isBoard 209 = .ok (.istore 15, 2) := by decide +kernel
theorem dL_isBoard_211 : decode cL_isBoard 211 = .ok (.iconst 0, 1) := by decide +kernel
theorem dL_isBoard_212 : decode cL_isBoard 212 = .ok (.istore 16, 2) := by decide +kernel
theorem dL_isBoard_214 : decode cL_isBoard 214 = .ok (.iconst 0, 1) := by decide +kernel
theorem dL_isBoard_215 : decode cL_isBoard 215 = .ok (.istore 17, 2) := by decide +kernel
theorem dL_isBoard_217 : decode cL_isBoard 217 = .ok (.iconst 0, 1) := by decide +kernel
theorem dL_isBoard_218 : decode cL_isBoard 218 = .ok (.istore 18, 2) := by decide +kernel
theorem dL_isBoard_220 : decode cL_isBoard 220 = .ok (.iload 18, 2) := by decide +kernel
theorem dL_isBoard_222 : decode cL_isBoard 222 = .ok (.bipush 12, 2) := by decide +kernel
theorem dL_isBoard_224 : decode cL_isBoard 224 = .ok (.if_icmp .ge 209, 3) := by decide +kernel
theorem dL_isBoard_227 : decode cL_isBoard 227 = .ok (.aload_n 0, 1) := by decide +kernel
theorem dL_isBoard_228 : decode cL_isBoard 228 = .ok (.iload 9, 2) := by decide +kernel
theorem dL_isBoard_230 : decode cL_isBoard 230 = .ok (.iload 18, 2) := by decide +kernel
theorem dL_isBoard_232 : decode cL_isBoard 232 = .ok (.iconst 3, 1) := by decide +kernel
theorem dL_isBoard_233 : decode cL_isBoard 233 = .ok (.idiv, 1) := by decide +kernel
theorem dL_isBoard_234 : decode cL_isBoard 234 = .ok (.iload 18, 2) := by decide +kernel
theorem dL_isBoard_236 : decode cL_isBoard 236 = .ok (.iconst 3, 1) := by decide +kernel
theorem dL_isBoard_237 : decode cL_isBoard 237 = .ok (.irem, 1) := by decide +kernel
theorem dL_isBoard_238 : decode cL_isBoard 238 = .ok (.iconst 1, 1) := by decide +kernel
theorem dL_isBoard_239 : decode cL_isBoard 239 = .ok (.iadd, 1) := by decide +kernel
theorem dL_isBoard_240 : decode cL_isBoard 240 = .ok (.invokevirtual 21, 3) := by decide +kernel
theorem dL_isBoard_243 : decode cL_isBoard 243 = .ok (.istore 19, 2) := by decide +kernel
theorem dL_isBoard_245 : decode cL_isBoard 245 = .ok (.iload 17, 2) := by decide +kernel
theorem dL_isBoard_247 : decode cL_isBoard 247 = .ok (.iload 19, 2) := by decide +kernel
theorem dL_isBoard_249 : decode cL_isBoard 249 = .ok (.ifCond .ne 7, 3) := by decide +kernel
theorem dL_isBoard_252 : decode cL_isBoard 252 = .ok (.iconst 1, 1) := by decide +kernel
theorem dL_isBoard_253 : decode cL_isBoard 253 = .ok (.goto 4, 3) := by decide +kernel
theorem dL_isBoard_256 : decode cL_isBoard 256 = .ok (.iconst 0, 1) := by decide +kernel
theorem dL_isBoard_257 : decode cL_isBoard 257 = .ok (.iadd, 1) := by decide +kernel
theorem dL_isBoard_258 : decode cL_isBoard 258 = .ok (.istore 17, 2) := by decide +kernel
theorem dL_isBoard_260 : decode cL_isBoard 260 = .ok (.aload_n 0, 1) := by decide +kernel
theorem dL_isBoard_261 : decode cL_isBoard 261 = .ok (.bipush 11, 2) := by decide +kernel
theorem dL_isBoard_263 : decode cL_isBoard 263 = .ok (.invokevirtual 8, 3) := by decide +kernel
theorem dL_isBoard_266 : decode cL_isBoard 266 = .ok (.iconst 1, 1) := by decide +kernel
theorem dL_isBoard_267 : decode cL_isBoard 267 = .ok (.if_icmp .ne 17, 3) := by decide +kernel
theorem dL_isBoard_270 : decode cL_isBoard 270 = .ok (.iload 19, 2) := by decide +kernel
theorem dL_isBoard_272 : decode cL_isBoard 272 = .ok (.iconst 1, 1) := by decide +kernel
theorem dL_isBoard_273 : decode cL_isBoard 273 = .ok (.if_icmp .ne 7, 3) := by decide +kernel
theorem dL_isBoard_276 : decode cL_isBoard 276 = .ok (.iconst 1, 1) := by decide +kernel
theorem dL_isBoard_277 : decode cL_isBoard 277 = .ok (.goto 92, 3) := by decide +kernel
theorem dL_isBoard_280 : decode cL_isBoard 280 = .ok (.iconst 0, 1) := by decide +kernel
theorem dL_isBoard_281 : decode cL_isBoard 281 = .ok (.goto 88, 3) := by decide +kernel
theorem dL_isBoard_284 : decode cL_isBoard 284 = .ok (.iload 10, 2) := by decide +kernel
theorem dL_isBoard_286 : decode cL_isBoard 286 = .ok (.ifCond .eq 17, 3) := by decide +kernel
theorem dL_isBoard_289 : decode cL_isBoard 289 = .ok (.iload 19, 2) := by decide +kernel
theorem dL_isBoard_291 : decode cL_isBoard 291 = .ok (.iconst 2, 1) := by decide +kernel
theorem dL_isBoard_292 : decode cL_isBoard 292 = .ok (.if_icmp .ne 7, 3) := by decide +kernel
theorem dL_isBoard_295 : decode cL_isBoard 295 = .ok (.iconst 1, 1) := by decide +kernel
theorem dL_isBoard_296 : decode cL_isBoard 296 = .ok (.goto 73, 3) := by decide +kernel
theorem dL_isBoard_299 : decode cL_isBoard 299 = .ok (.iconst 0, 1) := by decide +kernel
theorem dL_isBoard_300 : decode cL_isBoard 300 = .ok (.goto 69, 3) := by decide +kernel
theorem dL_isBoard_303 : decode cL_isBoard 303 = .ok (.iload 13, 2) := by decide +kernel
theorem dL_isBoard_305 : decode cL_isBoard 305 = .ok (.aload_n 0, 1) := by decide +kernel
theorem dL_isBoard_306 : decode cL_isBoard 306 = .ok (.iconst 1, 1) := by decide +kernel
theorem dL_isBoard_307 : decode cL_isBoard 307 = .ok (.invokevirtual 8, 3) := by decide +kernel
theorem dL_isBoard_310 : decode cL_isBoard 310 = .ok (.if_icmp .eq 17, 3) := by decide +kernel
theorem dL_isBoard_313 : decode cL_isBoard 313 = .ok (.iload 19, 2) := by decide +kernel
theorem dL_isBoard_315 : decode cL_isBoard 315 = .ok (.iconst 3, 1) := by decide +kernel
theorem dL_isBoard_316 : decode cL_isBoard 316 = .ok (.if_icmp .ne 7, 3) := by decide +kernel
theorem dL_isBoard_319 : decode cL_isBoard 319 = .ok (.iconst 1, 1) := by decide +kernel
theorem dL_isBoard_320 : decode cL_isBoard 320 = .ok (.goto 49, 3) := by decide +kernel
theorem dL_isBoard_323 : decode cL_isBoard 323 = .ok (.iconst 0, 1) := by decide +kernel
theorem dL_isBoard_324 : decode cL_isBoard 324 = .ok (.goto 45, 3) := by decide +kernel
theorem dL_isBoard_327 : decode cL_isBoard 327 = .ok (.iload 14, 2) := by decide +kernel
theorem dL_isBoard_329 : decode cL_isBoard 329 = .ok (.ifCond .ne 17, 3) := by decide +kernel
theorem dL_isBoard_332 : decode cL_isBoard 332 = .ok (.iload 19, 2) := by decide +kernel
theorem dL_isBoard_334 : decode cL_isBoard 334 = .ok (.iconst 4, 1) := by decide +kernel
theorem dL_isBoard_335 : decode cL_isBoard 335 = .ok (.if_icmp .ne 7, 3) := by decide +kernel
theorem dL_isBoard_338 : decode cL_isBoard 338 = .ok (.iconst 1, 1) := by decide +kernel
theorem dL_isBoard_339 : decode cL_isBoard 339 = .ok (.goto 30, 3) := by decide +kernel
theorem dL_isBoard_342 : decode cL_isBoard 342 = .ok (.iconst 0, 1) := by decide +kernel
theorem dL_isBoard_343 : decode cL_isBoard 343 = .ok (.goto 26, 3) := by decide +kernel
theorem dL_isBoard_346 : decode cL_isBoard 346 = .ok (.iload 19, 2) := by decide +kernel
theorem dL_isBoard_348 : decode cL_isBoard 348 = .ok (.ifCond .eq 16, 3) := by decide +kernel
theorem dL_isBoard_351 : decode cL_isBoard 351 = .ok (.iload 19, 2) := by decide +kernel
theorem dL_isBoard_353 : decode cL_isBoard 353 = .ok (.iconst 4, 1) := by decide +kernel
theorem dL_isBoard_354 : decode cL_isBoard 354 = .ok (.if_icmp .le 14, 3) := by decide +kernel
theorem dL_isBoard_357 : decode cL_isBoard 357 = .ok (.iload 19, 2) := by decide +kernel
theorem dL_isBoard_359 : decode cL_isBoard 359 = .ok (.bipush 7, 2) := by decide +kernel
theorem dL_isBoard_361 : decode cL_isBoard 361 = .ok (.if_icmp .ge 7, 3) := by decide +kernel
theorem dL_isBoard_364 : decode cL_isBoard 364 = .ok (.iconst 1, 1) := by decide +kernel
theorem dL_isBoard_365 : decode cL_isBoard 365 = .ok (.goto 4, 3) := by decide +kernel
theorem dL_isBoard_368 : decode cL_isBoard 368 = .ok (.iconst 0, 1) := by decide +kernel
theorem dL_isBoard_369 : decode cL_isBoard 369 = .ok (.istore 20, 2) := by decide +kernel
theorem dL_isBoard_371 : decode cL_isBoard 371 = .ok (.iload 16, 2) := by decide +kernel
theorem dL_isBoard_373 : decode cL_isBoard 373 = .ok (.iload 18, 2) := by decide +kernel
theorem dL_isBoard_375 : decode cL_isBoard 375 = .ok (.iconst 3, 1) := by decide +kernel
theorem dL_isBoard_376 : decode cL_isBoard 376 = .ok (.irem, 1) := by decide +kernel
theorem dL_isBoard_377 : decode cL_isBoard 377 = .ok (.ifCond .le 29, 3) := by decide +kernel
theorem dL_isBoard_380 : decode cL_isBoard 380 = .ok (.iload 19, 2) := by decide +kernel
theorem dL_isBoard_382 : decode cL_isBoard 382 = .ok (.ifCond .ne 24, 3) := by decide +kernel
theorem dL_isBoard_385 : decode cL_isBoard 385 = .ok (.aload_n 0, 1) := by decide +kernel
theorem dL_isBoard_386 : decode cL_isBoard 386 = .ok (.iload 9, 2) := by decide +kernel
theorem dL_isBoard_388 : decode cL_isBoard 388 = .ok (.iload 18, 2) := by decide +kernel
theorem dL_isBoard_390 : decode cL_isBoard 390 = .ok (.iconst 3, 1) := by decide +kernel
theorem dL_isBoard_391 : decode cL_isBoard 391 = .ok (.idiv, 1) := by decide +kernel
theorem dL_isBoard_392 : decode cL_isBoard 392 = .ok (.iload 18, 2) := by decide +kernel
theorem dL_isBoard_394 : decode cL_isBoard 394 = .ok (.iconst 3, 1) := by decide +kernel
theorem dL_isBoard_395 : decode cL_isBoard 395 = .ok (.irem, 1) := by decide +kernel
theorem dL_isBoard_396 : decode cL_isBoard 396 = .ok (.invokevirtual 21, 3) := by decide +kernel
theorem dL_isBoard_399 : decode cL_isBoard 399 = .ok (.ifCond .eq 7, 3) := by decide +kernel
theorem dL_isBoard_402 : decode cL_isBoard 402 = .ok (.iconst 1, 1) := by decide +kernel
theorem dL_isBoard_403 : decode cL_isBoard 403 = .ok (.goto 4, 3) := by decide +kernel
theorem dL_isBoard_406 : decode cL_isBoard 406 = .ok (.iconst 0, 1) := by decide +kernel
theorem dL_isBoard_407 : decode cL_isBoard 407 = .ok (.iadd, 1) := by decide +kernel
theorem dL_isBoard_408 : decode cL_isBoard 408 = .ok (.istore 16, 2) := by decide +kernel
theorem dL_isBoard_410 : decode cL_isBoard 410 = .ok (.iload 15, 2) := by decide +kernel
theorem dL_isBoard_412 : decode cL_isBoard 412 = .ok (.ifCond .eq 12, 3) := by decide +kernel
theorem dL_isBoard_415 : decode cL_isBoard 415 = .ok (.iload 20, 2) := by decide +kernel
theorem dL_isBoard_417 : decode cL_isBoard 417 = .ok (.ifCond .eq 7, 3) := by decide +kernel
theorem dL_isBoard_420 : decode cL_isBoard 420 = .ok (.iconst 1, 1) := by decide +kernel
theorem dL_isBoard_421 : decode cL_isBoard 421 = .ok (.goto 4, 3) := by decide +kernel
theorem dL_isBoard_424 : decode cL_isBoard 424 = .ok (.iconst 0, 1) := by decide +kernel
theorem dL_isBoard_425 : decode cL_isBoard 425 = .ok (.istore 15, 2) := by decide +kernel
theorem dL_isBoard_427 : decode cL_isBoard 427 = .ok (.iinc 18 1, 3) := by decide +kernel
theorem dL_isBoard_430 : decode cL_isBoard 430 = .ok (.goto (-210), 3) := by decide +kernel
theorem dL_isBoard_433 : decode cL_isBoard 433 = .ok (.iload 15, 2) := by decide +kernel
theorem dL_isBoard_435 : decode cL_isBoard 435 = .ok (.ifCond .eq 31, 3) := by decide +kernel
theorem dL_isBoard_438 : decode cL_isBoard 438 = .ok (.iload 16, 2) := by decide +kernel
theorem dL_isBoard_440 : decode cL_isBoard 440 = .ok (.ifCond .gt 26, 3) := by decide +kernel
theorem dL_isBoard_443 : decode cL_isBoard 443 = .ok (.iload 13, 2) := by decide +kernel
theorem dL_isBoard_445 : decode cL_isBoard 445 = .ok (.aload_n 0, 1) := by decide +kernel
theorem dL_isBoard_446 : decode cL_isBoard 446 = .ok (.iconst 1, 1) := by decide +kernel
theorem dL_isBoard_447 : decode cL_isBoard 447 = .ok (.invokevirtual 8, 3) := by decide +kernel
theorem dL_isBoard_450 : decode cL_isBoard 450 = .ok (.if_icmp .ne 18, 3) := by decide +kernel
theorem dL_isBoard_453 : decode cL_isBoard 453 = .ok (.aload_n 0, 1) := by decide +kernel
theorem dL_isBoard_454 : decode cL_isBoard 454 = .ok (.iload 9, 2) := by decide +kernel
theorem dL_isBoard_456 : decode cL_isBoard 456 = .ok (.bipush 6, 2) := by decide +kernel
theorem dL_isBoard_458 : decode cL_isBoard 458 = .ok (.invokevirtual 14, 3) := by decide +kernel
theorem dL_isBoard_461 : decode cL_isBoard 461 = .ok (.iload 17, 2) := by decide +kernel
theorem dL_isBoard_463 : decode cL_isBoard 463 = .ok (.if_icmp .eq 5, 3) := by decide +kernel
theorem dL_isBoard_466 : decode cL_isBoard 466 = .ok (.iconst 0, 1) := by decide +kernel
theorem dL_isBoard_467 : decode cL_isBoard 467 = .ok (.ireturn, 1) := by decide +kernel
theorem dL_isBoard_468 : decode cL_isBoard 468 = .ok (.iload_n 2, 1) := by decide +kernel
theorem dL_isBoard_469 : decode cL_isBoard 469 = .ok (.iload 10, 2) := by decide +kernel
theorem dL_isBoard_471 : decode cL_isBoard 471 = .ok (.ifCond .ne 7, 3) := by decide +kernel
theorem dL_isBoard_474 : decode cL_isBoard 474 = .ok (.iconst 1, 1) := by decide +kernel
theorem dL_isBoard_475 : decode cL_isBoard 475 = .ok (.goto 4, 3) := by decide +kernel
theorem dL_isBoard_478 : decode cL_isBoard 478 = .ok (.iconst 0, 1) := by decide +kernel
theorem dL_isBoard_479 : decode cL_isBoard 479 = .ok (.iadd, 1) := by decide +kernel
theorem dL_isBoard_480 : decode cL_isBoard 480 = .ok (.istore_n 2, 1) := by decide +kernel
theorem dL_isBoard_481 : decode cL_isBoard 481 = .ok (.iload_n 3, 1) := by decide +kernel
theorem dL_isBoard_482 : decode cL_isBoard 482 = .ok (.iload 10, 2) := by decide +kernel
theorem dL_isBoard_484 : decode cL_isBoard 484 = .ok (.iconst 1, 1) := by decide +kernel
theorem dL_isBoard_485 : decode cL_isBoard 485 = .ok (.if_icmp .ne 7, 3) := by decide +kernel
theorem dL_isBoard_488 : decode cL_isBoard 488 = .ok (.iconst 1, 1) := by decide +kernel
theorem dL_isBoard_489 : decode cL_isBoard 489 = .ok (.goto 4, 3) := by decide +kernel
theorem dL_isBoard_492 : decode cL_isBoard 492 = .ok (.iconst 0, 1) := by decide +kernel
theorem dL_isBoard_493 : decode cL_isBoard 493 = .ok (.iadd, 1) := by decide +kernel
theorem dL_isBoard_494 : decode cL_isBoard 494 = .ok (.istore_n 3, 1) := by decide +kernel
theorem dL_isBoard_495 : decode cL_isBoard 495 = .ok (.iload 4, 2) := by decide +kernel
theorem dL_isBoard_497 : decode cL_isBoard 497 = .ok (.iload 10, 2) := by decide +kernel
theorem dL_isBoard_499 : decode cL_isBoard 499 = .ok (.iconst 2, 1) := by decide +kernel
theorem dL_isBoard_500 : decode cL_isBoard 500 = .ok (.if_icmp .ne 7, 3) := by decide +kernel
theorem dL_isBoard_503 : decode cL_isBoard 503 = .ok (.iconst 1, 1) := by decide +kernel
theorem dL_isBoard_504 : decode cL_isBoard 504 = .ok (.goto 4, 3) := by decide +kernel
theorem dL_isBoard_507 : decode cL_isBoard 507 = .ok (.iconst 0, 1) := by decide +kernel
theorem dL_isBoard_508 : decode cL_isBoard 508 = .ok (.iadd, 1) := by decide +kernel
theorem dL_isBoard_509 : decode cL_isBoard 509 = .ok (.istore 4, 2) := by decide +kernel
theorem dL_isBoard_511 : decode cL_isBoard 511 = .ok (.iload 5, 2) := by decide +kernel
theorem dL_isBoard_513 : decode cL_isBoard 513 = .ok (.iload 10, 2) := by decide +kernel
theorem dL_isBoard_515 : decode cL_isBoard 515 = .ok (.ifCond .ne 12, 3) := by decide +kernel
theorem dL_isBoard_518 : decode cL_isBoard 518 = .ok (.iload 14, 2) := by decide +kernel
theorem dL_isBoard_520 : decode cL_isBoard 520 = .ok (.ifCond .ne 7, 3) := by decide +kernel
theorem dL_isBoard_523 : decode cL_isBoard 523 = .ok (.iconst 1, 1) := by decide +kernel
theorem dL_isBoard_524 : decode cL_isBoard 524 = .ok (.goto 4, 3) := by decide +kernel
theorem dL_isBoard_527 : decode cL_isBoard 527 = .ok (.iconst 0, 1) := by decide +kernel
theorem dL_isBoard_528 : decode cL_isBoard 528 = .ok (.iadd, 1) := by decide +kernel
theorem dL_isBoard_529 : decode cL_isBoard 529 = .ok (.istore 5, 2) := by decide +kernel
theorem dL_isBoard_531 : decode cL_isBoard 531 = .ok (.iload 6, 2) := by decide +kernel
theorem dL_isBoard_533 : decode cL_isBoard 533 = .ok (.iload 10, 2) := by decide +kernel
theorem dL_isBoard_535 : decode cL_isBoard 535 = .ok (.iconst 1, 1) := by decide +kernel
theorem dL_isBoard_536 : decode cL_isBoard 536 = .ok (.if_icmp .ne 13, 3) := by decide +kernel
theorem dL_isBoard_539 : decode cL_isBoard 539 = .ok (.iload 13, 2) := by decide +kernel
theorem dL_isBoard_541 : decode cL_isBoard 541 = .ok (.ifCond .ne 8, 3) := by decide +kernel
theorem dL_isBoard_544 : decode cL_isBoard 544 = .ok (.iload 12, 2) := by decide +kernel
theorem dL_isBoard_546 : decode cL_isBoard 546 = .ok (.goto 4, 3) := by decide +kernel
theorem dL_isBoard_549 : decode cL_isBoard 549 = .ok (.iconst 0, 1) := by decide +kernel
theorem dL_isBoard_550 : decode cL_isBoard 550 = .ok (.iadd, 1) := by decide +kernel
theorem dL_isBoard_551 : decode cL_isBoard 551 = .ok (.istore 6, 2) := by decide +kernel
theorem dL_isBoard_553 : decode cL_isBoard 553 = .ok (.iload 7, 2) := by decide +kernel
theorem dL_isBoard_555 : decode cL_isBoard 555 = .ok (.iload 10, 2) := by decide +kernel
theorem dL_isBoard_557 : decode cL_isBoard 557 = .ok (.iconst 1, 1) := by decide +kernel
theorem dL_isBoard_558 : decode cL_isBoard 558 = .ok (.if_icmp .ne 14, 3) := by decide +kernel
theorem dL_isBoard_561 : decode cL_isBoard 561 = .ok (.iload 13, 2) := by decide +kernel
theorem dL_isBoard_563 : decode cL_isBoard 563 = .ok (.iconst 1, 1) := by decide +kernel
theorem dL_isBoard_564 : decode cL_isBoard 564 = .ok (.if_icmp .ne 8, 3) := by decide +kernel
theorem dL_isBoard_567 : decode cL_isBoard 567 = .ok (.iload 12, 2) := by decide +kernel
theorem dL_isBoard_569 : decode cL_isBoard 569 = .ok (.goto 4, 3) := by decide +kernel
theorem dL_isBoard_572 : decode cL_isBoard 572 = .ok (.iconst 0, 1) := by decide +kernel
theorem dL_isBoard_573 : decode cL_isBoard 573 = .ok (.iadd, 1) := by decide +kernel
theorem dL_isBoard_574 : decode cL_isBoard 574 = .ok (.istore 7, 2) := by decide +kernel
theorem dL_isBoard_576 : decode cL_isBoard 576 = .ok (.iload 8, 2) := by decide +kernel
theorem dL_isBoard_578 : decode cL_isBoard 578 = .ok (.iload 13, 2) := by decide +kernel
theorem dL_isBoard_580 : decode cL_isBoard 580 = .ok (.aload_n 0, 1) := by decide +kernel
theorem dL_isBoard_581 : decode cL_isBoard 581 = .ok (.iconst 1, 1) := by decide +kernel
theorem dL_isBoard_582 : decode cL_isBoard 582 = .ok (.invokevirtual 8, 3) := by decide +kernel
theorem dL_isBoard_585 : decode cL_isBoard 585 = .ok (.if_icmp .ne 8, 3) := by decide +kernel
theorem dL_isBoard_588 : decode cL_isBoard 588 = .ok (.iload 17, 2) := by decide +kernel
theorem dL_isBoard_590 : decode cL_isBoard 590 = .ok (.goto 4, 3) := by decide +kernel
theorem dL_isBoard_593 : decode cL_isBoard 593 = .ok (.iconst 0, 1) := by decide +kernel
theorem dL_isBoard_594 : decode cL_isBoard 594 = .ok (.iadd, 1) := by decide +kernel
theorem dL_isBoard_595 : decode cL_isBoard 595 = .ok (.istore 8, 2) := by decide +kernel
theorem dL_isBoard_597 : decode cL_isBoard 597 = .ok (.iinc 9 1, 3) := by decide +kernel
theorem dL_isBoard_600 : decode cL_isBoard 600 = .ok (.goto (-572), 3) := by decide +kernel
theorem dL_isBoard_603 : decode cL_isBoard 603 = .ok (.iload_n 2, 1) := by decide +kernel
theorem dL_isBoard_604 : decode cL_isBoard 604 = .ok (.ifCond .eq 17, 3) := by decide +kernel
theorem dL_isBoard_607 : decode cL_isBoard 607 = .ok (.aload_n 0, 1) := by decide +kernel
theorem dL_isBoard_608 : decode cL_isBoard 608 = .ok (.iconst 0, 1) := by decide +kernel
theorem dL_isBoard_609 : decode cL_isBoard 609 = .ok (.invokevirtual 8, 3) := by decide +kernel
theorem dL_isBoard_612 : decode cL_isBoard 612 = .ok (.aload_n 0, 1) := by decide +kernel
theorem dL_isBoard_613 : decode cL_isBoard 613 = .ok (.bipush 18, 2) := by decide +kernel
theorem dL_isBoard_615 : decode cL_isBoard 615 = .ok (.invokevirtual 8, 3) := by decide +kernel
theorem dL_isBoard_618 : decode cL_isBoard 618 = .ok (.if_icmp .le 7, 3) := by decide +kernel
theorem dL_isBoard_621 : decode cL_isBoard 621 = .ok (.iconst 1, 1) := by decide +kernel
theorem dL_isBoard_622 : decode cL_isBoard 622 = .ok (.goto 4, 3) := by decide +kernel
theorem dL_isBoard_625 : decode cL_isBoard 625 = .ok (.iconst 0, 1) := by decide +kernel
theorem dL_isBoard_626 : decode cL_isBoard 626 = .ok (.istore 9, 2) := by decide +kernel
theorem dL_isBoard_628 : decode cL_isBoard 628 = .ok (.iload_n 1, 1) := by decide +kernel
theorem dL_isBoard_629 : decode cL_isBoard 629 = .ok (.aload_n 0, 1) := by decide +kernel
theorem dL_isBoard_630 : decode cL_isBoard 630 = .ok (.aload_n 0, 1) := by decide +kernel
theorem dL_isBoard_631 : decode cL_isBoard 631 = .ok (.iconst 0, 1) := by decide +kernel
theorem dL_isBoard_632 : decode cL_isBoard 632 = .ok (.invokevirtual 8, 3) := by decide +kernel
theorem dL_isBoard_635 : decode cL_isBoard 635 = .ok (.invokevirtual 25, 3) := by decide +kernel
theorem dL_isBoard_638 : decode cL_isBoard 638 = .ok (.if_icmp .ne 125, 3) := by decide +kernel
theorem dL_isBoard_641 : decode cL_isBoard 641 = .ok (.aload_n 0, 1) := by decide +kernel
theorem dL_isBoard_642 : decode cL_isBoard 642 = .ok (.iconst 1, 1) := by decide +kernel
theorem dL_isBoard_643 : decode cL_isBoard 643 = .ok (.invokevirtual 8, 3) := by decide +kernel
theorem dL_isBoard_646 : decode cL_isBoard 646 = .ok (.aload_n 0, 1) := by decide +kernel
theorem dL_isBoard_647 : decode cL_isBoard 647 = .ok (.iconst 0, 1) := by decide +kernel
theorem dL_isBoard_648 : decode cL_isBoard 648 = .ok (.invokevirtual 8, 3) := by decide +kernel
theorem dL_isBoard_651 : decode cL_isBoard 651 = .ok (.iconst 2, 1) := by decide +kernel
theorem dL_isBoard_652 : decode cL_isBoard 652 = .ok (.irem, 1) := by decide +kernel
theorem dL_isBoard_653 : decode cL_isBoard 653 = .ok (.if_icmp .ne 110, 3) := by decide +kernel
theorem dL_isBoard_656 : decode cL_isBoard 656 = .ok (.aload_n 0, 1) := by decide +kernel
theorem dL_isBoard_657 : decode cL_isBoard 657 = .ok (.iconst 3, 1) := by decide +kernel
theorem dL_isBoard_658 : decode cL_isBoard 658 = .ok (.invokevirtual 8, 3) := by decide +kernel
theorem dL_isBoard_661 : decode cL_isBoard 661 = .ok (.iload 6, 2) := by decide +kernel
theorem dL_isBoard_663 : decode cL_isBoard 663 = .ok (.if_icmp .ne 100, 3) := by decide +kernel
theorem dL_isBoard_666 : decode cL_isBoard 666 = .ok (.aload_n 0, 1) := by decide +kernel
theorem dL_isBoard_667 : decode cL_isBoard 667 = .ok (.iconst 4, 1) := by decide +kernel
theorem dL_isBoard_668 : decode cL_isBoard 668 = .ok (.invokevirtual 8, 3) := by decide +kernel
theorem dL_isBoard_671 : decode cL_isBoard 671 = .ok (.iload 7, 2) := by decide +kernel
theorem dL_isBoard_673 : decode cL_isBoard 673 = .ok (.if_icmp .ne 90, 3) := by decide +kernel
theorem dL_isBoard_676 : decode cL_isBoard 676 = .ok (.aload_n 0, 1) := by decide +kernel
theorem dL_isBoard_677 : decode cL_isBoard 677 = .ok (.bipush 6, 2) := by decide +kernel
theorem dL_isBoard_679 : decode cL_isBoard 679 = .ok (.invokevirtual 8, 3) := by decide +kernel
theorem dL_isBoard_682 : decode cL_isBoard 682 = .ok (.iload_n 2, 1) := by decide +kernel
theorem dL_isBoard_683 : decode cL_isBoard 683 = .ok (.if_icmp .ne 80, 3) := by decide +kernel
theorem dL_isBoard_686 : decode cL_isBoard 686 = .ok (.aload_n 0, 1) := by decide +kernel
theorem dL_isBoard_687 : decode cL_isBoard 687 = .ok (.bipush 7, 2) := by decide +kernel
theorem dL_isBoard_689 : decode cL_isBoard 689 = .ok (.invokevirtual 8, 3) := by decide +kernel
theorem dL_isBoard_692 : decode cL_isBoard 692 = .ok (.iload_n 3, 1) := by decide +kernel
theorem dL_isBoard_693 : decode cL_isBoard 693 = .ok (.if_icmp .ne 70, 3) := by decide +kernel
theorem dL_isBoard_696 : decode cL_isBoard 696 = .ok (.aload_n 0, 1) := by decide +kernel
theorem dL_isBoard_697 : decode cL_isBoard 697 = .ok (.bipush 8, 2) := by decide +kernel
theorem dL_isBoard_699 : decode cL_isBoard 699 = .ok (.invokevirtual 8, 3) := by decide +kernel
theorem dL_isBoard_702 : decode cL_isBoard 702 = .ok (.iload 4, 2) := by decide +kernel
theorem dL_isBoard_704 : decode cL_isBoard 704 = .ok (.if_icmp .ne 59, 3) := by decide +kernel
theorem dL_isBoard_707 : decode cL_isBoard 707 = .ok (.aload_n 0, 1) := by decide +kernel
theorem dL_isBoard_708 : decode cL_isBoard 708 = .ok (.bipush 9, 2) := by decide +kernel
theorem dL_isBoard_710 : decode cL_isBoard 710 = .ok (.invokevirtual 8, 3) := by decide +kernel
theorem dL_isBoard_713 : decode cL_isBoard 713 = .ok (.iload 5, 2) := by decide +kernel
theorem dL_isBoard_715 : decode cL_isBoard 715 = .ok (.if_icmp .ne 48, 3) := by decide +kernel
theorem dL_isBoard_718 : decode cL_isBoard 718 = .ok (.aload_n 0, 1) := by decide +kernel
theorem dL_isBoard_719 : decode cL_isBoard 719 = .ok (.bipush 10, 2) := by decide +kernel
theorem dL_isBoard_721 : decode cL_isBoard 721 = .ok (.invokevirtual 8, 3) := by decide +kernel
theorem dL_isBoard_724 : decode cL_isBoard 724 = .ok (.iload 4, 2) := by decide +kernel
theorem dL_isBoard_726 : decode cL_isBoard 726 = .ok (.if_icmp .gt 37, 3) := by decide +kernel
theorem dL_isBoard_729 : decode cL_isBoard 729 = .ok (.aload_n 0, 1) := by decide +kernel
theorem dL_isBoard_730 : decode cL_isBoard 730 = .ok (.bipush 11, 2) := by decide +kernel
theorem dL_isBoard_732 : decode cL_isBoard 732 = .ok (.invokevirtual 8, 3) := by decide +kernel
theorem dL_isBoard_735 : decode cL_isBoard 735 = .ok (.iload 9, 2) := by decide +kernel
theorem dL_isBoard_737 : decode cL_isBoard 737 = .ok (.ifCond .eq 7, 3) := by decide +kernel
theorem dL_isBoard_740 : decode cL_isBoard 740 = .ok (.iconst 1, 1) := by decide +kernel
theorem dL_isBoard_741 : decode cL_isBoard 741 = .ok (.goto 4, 3) := by decide +kernel
theorem dL_isBoard_744 : decode cL_isBoard 744 = .ok (.iconst 0, 1) := by decide +kernel
theorem dL_isBoard_745 : decode cL_isBoard 745 = .ok (.if_icmp .ne 18, 3) := by decide +kernel
theorem dL_isBoard_748 : decode cL_isBoard 748 = .ok (.aload_n 0, 1) := by decide +kernel
theorem dL_isBoard_749 : decode cL_isBoard 749 = .ok (.bipush 12, 2) := by decide +kernel
theorem dL_isBoard_751 : decode cL_isBoard 751 = .ok (.invokevirtual 8, 3) := by decide +kernel
theorem dL_isBoard_754 : decode cL_isBoard 754 = .ok (.iload 8, 2) := by decide +kernel
theorem dL_isBoard_756 : decode cL_isBoard 756 = .ok (.if_icmp .ne 7, 3) := by decide +kernel
theorem dL_isBoard_759 : decode cL_isBoard 759 = .ok (.iconst 1, 1) := by decide +kernel
theorem dL_isBoard_760 : decode cL_isBoard 760 = .ok (.goto 4, 3) := by decide +kernel
theorem dL_isBoard_763 : decode cL_isBoard 763 = .ok (.iconst 0, 1) := by decide +kernel
theorem dL_isBoard_764 : decode cL_isBoard 764 = .ok (.ireturn, 1) := by decide +kernel
theorem dL_areCells_0 : decode cL_areCells 0 = .ok (.iconst 2, 1) := by decide +kernel
theorem dL_areCells_1 : decode cL_areCells 1 = .ok (.aload_n 0, 1) := by decide +kernel
theorem dL_areCells_2 : decode cL_areCells 2 = .ok (.bipush 16, 2) := by decide +kernel
theorem dL_areCells_4 : decode cL_areCells 4 = .ok (.invokevirtual 8, 3) := by decide +kernel
theorem dL_areCells_7 : decode cL_areCells 7 = .ok (.imul, 1) := by decide +kernel
theorem dL_areCells_8 : decode cL_areCells 8 = .ok (.aload_n 0, 1) := by decide +kernel
theorem dL_areCells_9 : decode cL_areCells 9 = .ok (.bipush 17, 2) := by decide +kernel
theorem dL_areCells_11 : decode cL_areCells 11 = .ok (.invokevirtual 8, 3) := by decide +kernel
theorem dL_areCells_14 : decode cL_areCells 14 = .ok (.imul, 1) := by decide +kernel
theorem dL_areCells_15 : decode cL_areCells 15 = .ok (.istore_n 1, 1) := by decide +kernel
theorem dL_areCells_16 : decode cL_areCells 16 = .ok (.iconst 0, 1) := by decide +kernel
theorem dL_areCells_17 : decode cL_areCells 17 = .ok (.istore_n 2, 1) := by decide +kernel
theorem dL_areCells_18 : decode cL_areCells 18 = .ok (.iload_n 2, 1) := by decide +kernel
theorem dL_areCells_19 : decode cL_areCells 19 = .ok (.bipush 36, 2) := by decide +kernel
theorem dL_areCells_21 : decode cL_areCells 21 = .ok (.if_icmp .ge 191, 3) := by decide +kernel
theorem dL_areCells_24 : decode cL_areCells 24 = .ok (.aload_n 0, 1) := by decide +kernel
theorem dL_areCells_25 : decode cL_areCells 25 = .ok (.iload_n 2, 1) := by decide +kernel
theorem dL_areCells_26 : decode cL_areCells 26 = .ok (.iconst 0, 1) := by decide +kernel
theorem dL_areCells_27 : decode cL_areCells 27 = .ok (.invokevirtual 18, 3) := by decide +kernel
theorem dL_areCells_30 : decode cL_areCells 30 = .ok (.istore_n 3, 1) := by decide +kernel
theorem dL_areCells_31 : decode cL_areCells 31 = .ok (.aload_n 0, 1) := by decide +kernel
theorem dL_areCells_32 : decode cL_areCells 32 = .ok (.iconst 2, 1) := by decide +kernel
theorem dL_areCells_33 : decode cL_areCells 33 = .ok (.invokevirtual 8, 3) := by decide +kernel
theorem dL_areCells_36 : decode cL_areCells 36 = .ok (.iload_n 3, 1) := by decide +kernel
theorem dL_areCells_37 : decode cL_areCells 37 = .ok (.isub, 1) := by decide +kernel
theorem dL_areCells_38 : decode cL_areCells 38 = .ok (.istore 4, 2) := by decide +kernel
theorem dL_areCells_40 : decode cL_areCells 40 = .ok (.aload_n 0, 1) := by decide +kernel
theorem dL_areCells_41 : decode cL_areCells 41 = .ok (.iload_n 2, 1) := by decide +kernel
theorem dL_areCells_42 : decode cL_areCells 42 = .ok (.iconst 3, 1) := by decide +kernel
theorem dL_areCells_43 : decode cL_areCells 43 = .ok (.invokevirtual 18, 3) := by decide +kernel
theorem dL_areCells_46 : decode cL_areCells 46 = .ok (.istore 5, 2) := by decide +kernel
theorem dL_areCells_48 : decode cL_areCells 48 = .ok (.iload_n 3, 1) := by decide +kernel
theorem dL_areCells_49 : decode cL_areCells 49 = .ok (.ifCond .lt 58, 3) := by decide +kernel
theorem dL_areCells_52 : decode cL_areCells 52 = .ok (.iload_n 3, 1) := by decide +kernel
theorem dL_areCells_53 : decode cL_areCells 53 = .ok (.iconst 5, 1) := by decide +kernel
theorem dL_areCells_54 : decode cL_areCells 54 = .ok (.if_icmp .ge 53, 3) := by decide +kernel
theorem dL_areCells_57 : decode cL_areCells 57 = .ok (.aload_n 0, 1) := by decide +kernel
theorem dL_areCells_58 : decode cL_areCells 58 = .ok (.iload_n 2, 1) := by decide +kernel
theorem dL_areCells_59 : decode cL_areCells 59 = .ok (.iconst 2, 1) := by decide +kernel
theorem dL_areCells_60 : decode cL_areCells 60 = .ok (.invokevirtual 18, 3) := by decide +kernel
theorem dL_areCells_63 : decode cL_areCells 63 = .ok (.iload 4, 2) := by decide +kernel
theorem dL_areCells_65 : decode cL_areCells 65 = .ok (.ifCond .ge 7, 3) := by decide +kernel
theorem dL_areCells_68 : decode cL_areCells 68 = .ok (.iconst 0, 1) := by decide +kernel
theorem dL_areCells_69 : decode cL_areCells 69 = .ok (.goto 5, 3) := by decide +kernel
theorem dL_areCells_72 : decode cL_areCells 72 = .ok (.iload 4, 2) := by decide +kernel
theorem dL_areCells_74 : decode cL_areCells 74 = .ok (.if_icmp .ne 33, 3) := by decide +kernel
theorem dL_areCells_77 : decode cL_areCells 77 = .ok (.iload 5, 2) := by decide +kernel
theorem dL_areCells_79 : decode cL_areCells 79 = .ok (.ifCond .ge 13, 3) := by decide +kernel
theorem dL_areCells_82 : decode cL_areCells 82 = .ok (.iload 5, 2) := by decide +kernel
theorem dL_areCells_84 : decode cL_areCells 84 = .ok (.bipush (-5), 2) := by decide +kernel
theorem dL_areCells_86 : decode cL_areCells 86 = .ok (.if_icmp .ne 21, 3) := by decide +kernel
theorem dL_areCells_89 : decode cL_areCells 89 = .ok (.goto 14, 3) := by decide +kernel
theorem dL_areCells_92 : decode cL_areCells 92 = .ok (.aload_n 0, 1) := by decide +kernel
theorem dL_areCells_93 : decode cL_areCells 93 = .ok (.iload 5, 2) := by decide +kernel
theorem dL_areCells_95 : decode cL_areCells 95 = .ok (.iconst 3, 1) := by decide +kernel
theorem dL_areCells_96 : decode cL_areCells 96 = .ok (.invokevirtual 14, 3) := by decide +kernel
theorem dL_areCells_99 : decode cL_areCells 99 = .ok (.iload_n 2, 1) := by decide +kernel
theorem dL_areCells_100 : decode cL_areCells 100 = .ok (.if_icmp .ne 7, 3) := by decide +kernel
theorem dL_areCells_103 : decode cL_areCells 103 = .ok (.iconst 1, 1) := by decide +kernel
theorem dL_areCells_104 : decode cL_areCells 104 = .ok (.goto 4, 3) := by decide +kernel
theorem dL_areCells_107 : decode cL_areCells 107 = .ok (.iconst 0, 1) := by decide +kernel
theorem dL_areCells_108 : decode cL_areCells 108 = .ok (.istore 6, 2) := by decide +kernel
theorem dL_areCells_110 : decode cL_areCells 110 = .ok (.iconst 0, 1) := by decide +kernel
theorem dL_areCells_111 : decode cL_areCells 111 = .ok (.istore 7, 2) := by decide +kernel
theorem dL_areCells_113 : decode cL_areCells 113 = .ok (.iconst 1, 1) := by decide +kernel
theorem dL_areCells_114 : decode cL_areCells 114 = .ok (.iload_n 2, 1) := by decide +kernel
theorem dL_areCells_115 : decode cL_areCells 115 = .ok (.iconst 3, 1) := by decide +kernel
theorem dL_areCells_116 : decode cL_areCells 116 = .ok (.irem, 1) := by decide +kernel
theorem dL_areCells_117 : decode cL_areCells 117 = .ok (.iadd, 1) := by decide +kernel
theorem dL_areCells_118 : decode cL_areCells 118 = .ok (.istore 8, 2) := by decide +kernel
theorem dL_areCells_120 : decode cL_areCells 120 = .ok (.iconst 0, 1) := by decide +kernel
theorem dL_areCells_121 : decode cL_areCells 121 = .ok (.istore 9, 2) := by decide +kernel
theorem dL_areCells_123 : decode cL_areCells 123 = .ok (.iload 9, 2) := by decide +kernel
theorem dL_areCells_125 : decode cL_areCells 125 = .ok (.iload_n 1, 1) := by decide +kernel
theorem dL_areCells_126 : decode cL_areCells 126 = .ok (.if_icmp .ge 32, 3) := by decide +kernel
theorem dL_areCells_129 : decode cL_areCells 129 = .ok (.iload 7, 2) := by decide +kernel
theorem dL_areCells_131 : decode cL_areCells 131 = .ok (.aload_n 0, 1) := by decide +kernel
theorem dL_areCells_132 : decode cL_areCells 132 = .ok (.iload 9, 2) := by decide +kernel
theorem dL_areCells_134 : decode cL_areCells 134 = .ok (.invokevirtual 25, 3) := by decide +kernel
theorem dL_areCells_137 : decode cL_areCells 137 = .ok (.iload_n 3, 1) := by decide +kernel
theorem dL_areCells_138 : decode cL_areCells 138 = .ok (.isub, 1) := by decide +kernel
theorem dL_areCells_139 : decode cL_areCells 139 = .ok (.iload 8, 2) := by decide +kernel
theorem dL_areCells_141 : decode cL_areCells 141 = .ok (.if_icmp .lt 7, 3) := by decide +kernel
theorem dL_areCells_144 : decode cL_areCells 144 = .ok (.iconst 1, 1) := by decide +kernel
theorem dL_areCells_145 : decode cL_areCells 145 = .ok (.goto 4, 3) := by decide +kernel
theorem dL_areCells_148 : decode cL_areCells 148 = .ok (.iconst 0, 1) := by decide +kernel
theorem dL_areCells_149 : decode cL_areCells 149 = .ok (.iadd, 1) := by decide +kernel
theorem dL_areCells_150 : decode cL_areCells 150 = .ok (.istore 7, 2) := by decide +kernel
theorem dL_areCells_152 : decode cL_areCells 152 = .ok (.iinc 9 1, 3) := by decide +kernel
theorem dL_areCells_155 : decode cL_areCells 155 = .ok (.goto (-32), 3) := by decide +kernel
theorem dL_areCells_158 : decode cL_areCells 158 = .ok (.iload 6, 2) := by decide +kernel
theorem dL_areCells_160 : decode cL_areCells 160 = .ok (.ifCond .eq 44, 3) := by decide +kernel
theorem dL_areCells_163 : decode cL_areCells 163 = .ok (.aload_n 0, 1) := by decide +kernel
theorem dL_areCells_164 : decode cL_areCells 164 = .ok (.iload_n 2, 1) := by decide +kernel
theorem dL_areCells_165 : decode cL_areCells 165 = .ok (.iload 8, 2) := by decide +kernel
theorem dL_areCells_167 : decode cL_areCells 167 = .ok (.invokevirtual 28, 3) := by decide +kernel
theorem dL_areCells_170 : decode cL_areCells 170 = .ok (.iload 7, 2) := by decide +kernel
theorem dL_areCells_172 : decode cL_areCells 172 = .ok (.i2f, 1) := by decide +kernel
theorem dL_areCells_173 : decode cL_areCells 173 = .ok (.iload_n 1, 1) := by decide +kernel
theorem dL_areCells_174 : decode cL_areCells 174 = .ok (.i2f, 1) := by decide +kernel
theorem dL_areCells_175 : decode cL_areCells 175 = .ok (.fdiv, 1) := by decide +kernel
theorem dL_areCells_176 : decode cL_areCells 176 = .ok (.fcmp .l, 1) := by decide +kernel
theorem dL_areCells_177 : decode cL_areCells 177 = .ok (.ifCond .ne 27, 3) := by decide +kernel
theorem dL_areCells_180 : decode cL_areCells 180 = .ok (.iload_n 2, 1) := by decide +kernel
theorem dL_areCells_181 : decode cL_areCells 181 = .ok (.ifCond .eq 9, 3) := by decide +kernel
theorem dL_areCells_184 : decode cL_areCells 184 = .ok (.iload_n 2, 1) := by decide +kernel
theorem dL_areCells_185 : decode cL_areCells 185 = .ok (.bipush 35, 2) := by decide +kernel
theorem dL_areCells_187 : decode cL_areCells 187 = .ok (.if_icmp .ne 19, 3) := by decide +kernel
theorem dL_areCells_190 : decode cL_areCells 190 = .ok (.iload_n 3, 1) := by decide +kernel
theorem dL_areCells_191 : decode cL_areCells 191 = .ok (.ifCond .gt 13, 3) := by decide +kernel
theorem dL_areCells_194 : decode cL_areCells 194 = .ok (.aload_n 0, 1) := by decide +kernel
theorem dL_areCells_195 : decode cL_areCells 195 = .ok (.iload_n 2, 1) := by decide +kernel
theorem dL_areCells_196 : decode cL_areCells 196 = .ok (.iconst 1, 1) := by decide +kernel
theorem dL_areCells_197 : decode cL_areCells 197 = .ok (.invokevirtual 18, 3) := by decide +kernel
theorem dL_areCells_200 : decode cL_areCells 200 = .ok (.iconst 1, 1) := by decide +kernel
theorem dL_areCells_201 : decode cL_areCells 201 = .ok (.if_icmp .ne 5, 3) := by decide +kernel
theorem dL_areCells_204 : decode cL_areCells 204 = .ok (.iconst 0, 1) := by decide +kernel
theorem dL_areCells_205 : decode cL_areCells 205 = .ok (.ireturn, 1) := by decide +kernel
theorem dL_areCells_206 : decode cL_areCells 206 = .ok (.iinc 2 1, 3) := by decide +kernel
theorem dL_areCells_209 : decode cL_areCells 209 = .ok (.goto (-191), 3) := by decide +kernel
theorem dL_areCells_212 : decode cL_areCells 212 = .ok (.iconst 0, 1) := by decide +kernel
theorem dL_areCells_213 : decode cL_areCells 213 = .ok (.istore_n 2, 1) := by decide +kernel
theorem dL_areCells_214 : decode cL_areCells 214 = .ok (.iload_n 2, 1) := by decide +kernel
theorem dL_areCells_215 : decode cL_areCells 215 = .ok (.bipush 40, 2) := by decide +kernel
theorem dL_areCells_217 : decode cL_areCells 217 = .ok (.if_icmp .ge 85, 3) := by decide +kernel
theorem dL_areCells_220 : decode cL_areCells 220 = .ok (.aload_n 0, 1) := by decide +kernel
theorem dL_areCells_221 : decode cL_areCells 221 = .ok (.iload_n 2, 1) := by decide +kernel
theorem dL_areCells_222 : decode cL_areCells 222 = .ok (.iconst 1, 1) := by decide +kernel
theorem dL_areCells_223 : decode cL_areCells 223 = .ok (.iadd, 1) := by decide +kernel
theorem dL_areCells_224 : decode cL_areCells 224 = .ok (.invokevirtual 25, 3) := by decide +kernel
theorem dL_areCells_227 : decode cL_areCells 227 = .ok (.aload_n 0, 1) := by decide +kernel
theorem dL_areCells_228 : decode cL_areCells 228 = .ok (.iload_n 2, 1) := by decide +kernel
theorem dL_areCells_229 : decode cL_areCells 229 = .ok (.invokevirtual 25, 3) := by decide +kernel
theorem dL_areCells_232 : decode cL_areCells 232 = .ok (.isub, 1) := by decide +kernel
theorem dL_areCells_233 : decode cL_areCells 233 = .ok (.istore_n 3, 1) := by decide +kernel
theorem dL_areCells_234 : decode cL_areCells 234 = .ok (.iload_n 3, 1) := by decide +kernel
theorem dL_areCells_235 : decode cL_areCells 235 = .ok (.iconst 1, 1) := by decide +kernel
theorem dL_areCells_236 : decode cL_areCells 236 = .ok (.if_icmp .gt 58, 3) := by decide +kernel
theorem dL_areCells_239 : decode cL_areCells 239 = .ok (.iload_n 3, 1) := by decide +kernel
theorem dL_areCells_240 : decode cL_areCells 240 = .ok (.iconst (-1), 1) := by decide +kernel
theorem dL_areCells_241 : decode cL_areCells 241 = .ok (.if_icmp .lt 53, 3) := by decide +kernel
theorem dL_areCells_244 : decode cL_areCells 244 = .ok (.aload_n 0, 1) := by decide +kernel
theorem dL_areCells_245 : decode cL_areCells 245 = .ok (.iload_n 2, 1) := by decide +kernel
theorem dL_areCells_246 : decode cL_areCells 246 = .ok (.invokevirtual 25, 3) := by decide +kernel
theorem dL_areCells_249 : decode cL_areCells 249 = .ok (.aload_n 0, 1) := by decide +kernel
theorem dL_areCells_250 : decode cL_areCells 250 = .ok (.iload_n 2, 1) := by decide +kernel
theorem dL_areCells_251 : decode cL_areCells 251 = .ok (.iload_n 1, 1) := by decide +kernel
theorem dL_areCells_252 : decode cL_areCells 252 = .ok (.iadd, 1) := by decide +kernel
theorem dL_areCells_253 : decode cL_areCells 253 = .ok (.invokevirtual 25, 3) := by decide +kernel
theorem dL_areCells_256 : decode cL_areCells 256 = .ok (.if_icmp .ne 38, 3) := by decide +kernel
theorem dL_areCells_259 : decode cL_areCells 259 = .ok (.aload_n 0, 1) := by decide +kernel
theorem dL_areCells_260 : decode cL_areCells 260 = .ok (.iload_n 2, 1) := by decide +kernel
theorem dL_areCells_261 : decode cL_areCells 261 = .ok (.invokevirtual 25, 3) := by decide +kernel
theorem dL_areCells_264 : decode cL_areCells 264 = .ok (.aload_n 0, 1) := by decide +kernel
theorem dL_areCells_265 : decode cL_areCells 265 = .ok (.bipush 15, 2) := by decide +kernel
theorem dL_areCells_267 : decode cL_areCells 267 = .ok (.invokevirtual 8, 3) := by decide +kernel
theorem dL_areCells_270 : decode cL_areCells 270 = .ok (.if_icmp .lt 24, 3) := by decide +kernel
theorem dL_areCells_273 : decode cL_areCells 273 = .ok (.aload_n 0, 1) := by decide +kernel
theorem dL_areCells_274 : decode cL_areCells 274 = .ok (.iload_n 2, 1) := by decide +kernel
theorem dL_areCells_275 : decode cL_areCells 275 = .ok (.invokevirtual 25, 3) := by decide +kernel
theorem dL_areCells_278 : decode cL_areCells 278 = .ok (.aload_n 0, 1) := by decide +kernel
theorem dL_areCells_279 : decode cL_areCells 279 = .ok (.bipush 15, 2) := by decide +kernel
theorem dL_areCells_281 : decode cL_areCells 281 = .ok (.invokevirtual 8, 3) := by decide +kernel
theorem dL_areCells_284 : decode cL_areCells 284 = .ok (.aload_n 0, 1) := by decide +kernel
theorem dL_areCells_285 : decode cL_areCells 285 = .ok (.bipush 16, 2) := by decide +kernel
theorem dL_areCells_287 : decode cL_areCells 287 = .ok (.invokevirtual 8, 3) := by decide +kernel
theorem dL_areCells_290 : decode cL_areCells 290 = .ok (.iadd, 1) := by decide +kernel
theorem dL_areCells_291 : decode cL_areCells 291 = .ok (.if_icmp .le 5, 3) := by decide +kernel
theorem dL_areCells_294 : decode cL_areCells 294 = .ok (.iconst 0, 1) := by decide +kernel
theorem dL_areCells_295 : decode cL_areCells 295 = .ok (.ireturn, 1) := by decide +kernel
theorem dL_areCells_296 : decode cL_areCells 296 = .ok (.iinc 2 1, 3) := by decide +kernel
theorem dL_areCells_299 : decode cL_areCells 299 = .ok (.goto (-85), 3) := by decide +kernel
theorem dL_areCells_302 : decode cL_areCells 302 = .ok (.aload_n 0, 1) := by decide +kernel
theorem dL_areCells_303 : decode cL_areCells 303 = .ok (.iconst 0, 1) := by decide +kernel
theorem dL_areCells_304 : decode cL_areCells 304 = .ok (.invokevirtual 25, 3) := by decide +kernel
theorem dL_areCells_307 : decode cL_areCells 307 = .ok (.aload_n 0, 1) := by decide +kernel
theorem dL_areCells_308 : decode cL_areCells 308 = .ok (.bipush 15, 2) := by decide +kernel
theorem dL_areCells_310 : decode cL_areCells 310 = .ok (.invokevirtual 8, 3) := by decide +kernel
theorem dL_areCells_313 : decode cL_areCells 313 = .ok (.if_icmp .ne 7, 3) := by decide +kernel
theorem dL_areCells_316 : decode cL_areCells 316 = .ok (.iconst 1, 1) := by decide +kernel
theorem dL_areCells_317 : decode cL_areCells 317 = .ok (.goto 4, 3) := by decide +kernel
theorem dL_areCells_320 : decode cL_areCells 320 = .ok (.iconst 0, 1) := by decide +kernel
theorem dL_areCells_321 : decode cL_areCells 321 = .ok (.ireturn, 1) := by decide +kernel
theorem dL_isBoat_0 : decode cL_isBoat 0 = .ok (.aload_n 0, 1) := by decide +kernel
theorem dL_isBoat_1 : decode cL_isBoat 1 = .ok (.iload_n 1, 1) := by decide +kernel
theorem dL_isBoat_2 : decode cL_isBoat 2 = .ok (.iconst 0, 1) := by decide +kernel
theorem dL_isBoat_3 : decode cL_isBoat 3 = .ok (.invokevirtual 32, 3) := by decide +kernel
theorem dL_isBoat_6 : decode cL_isBoat 6 = .ok (.istore_n 2, 1) := by decide +kernel
theorem dL_isBoat_7 : decode cL_isBoat 7 = .ok (.aload_n 0, 1) := by decide +kernel
theorem dL_isBoat_8 : decode cL_isBoat 8 = .ok (.iload_n 1, 1) := by decide +kernel
theorem dL_isBoat_9 : decode cL_isBoat 9 = .ok (.invokevirtual 35, 3) := by decide +kernel
theorem dL_isBoat_12 : decode cL_isBoat 12 = .ok (.istore_n 3, 1) := by decide +kernel
theorem dL_isBoat_13 : decode cL_isBoat 13 = .ok (.iload_n 2, 1) := by decide +kernel
theorem dL_isBoat_14 : decode cL_isBoat 14 = .ok (.aload_n 0, 1) := by decide +kernel
theorem dL_isBoat_15 : decode cL_isBoat 15 = .ok (.iload_n 1, 1) := by decide +kernel
theorem dL_isBoat_16 : decode cL_isBoat 16 = .ok (.iconst 1, 1) := by decide +kernel
theorem dL_isBoat_17 : decode cL_isBoat 17 = .ok (.invokevirtual 32, 3) := by decide +kernel
theorem dL_isBoat_20 : decode cL_isBoat 20 = .ok (.if_icmp .eq 5, 3) := by decide +kernel
theorem dL_isBoat_23 : decode cL_isBoat 23 = .ok (.iconst 0, 1) := by decide +kernel
theorem dL_isBoat_24 : decode cL_isBoat 24 = .ok (.ireturn, 1) := by decide +kernel
theorem dL_isBoat_25 : decode cL_isBoat 25 = .ok (.aload_n 0, 1) := by decide +kernel
theorem dL_isBoat_26 : decode cL_isBoat 26 = .ok (.iload_n 1, 1) := by decide +kernel
theorem dL_isBoat_27 : decode cL_isBoat 27 = .ok (.iconst 2, 1) := by decide +kernel
theorem dL_isBoat_28 : decode cL_isBoat 28 = .ok (.invokevirtual 14, 3) := by decide +kernel
theorem dL_isBoat_31 : decode cL_isBoat 31 = .ok (.ifCond .eq 21, 3) := by decide +kernel
theorem dL_isBoat_34 : decode cL_isBoat 34 = .ok (.iload_n 2, 1) := by decide +kernel
theorem dL_isBoat_35 : decode cL_isBoat 35 = .ok (.bipush (-4), 2) := by decide +kernel
theorem dL_isBoat_37 : decode cL_isBoat 37 = .ok (.if_icmp .ne 13, 3) := by decide +kernel
theorem dL_isBoat_40 : decode cL_isBoat 40 = .ok (.iload_n 3, 1) := by decide +kernel
theorem dL_isBoat_41 : decode cL_isBoat 41 = .ok (.bipush (-4), 2) := by decide +kernel
theorem dL_isBoat_43 : decode cL_isBoat 43 = .ok (.if_icmp .ne 7, 3) := by decide +kernel
theorem dL_isBoat_46 : decode cL_isBoat 46 = .ok (.iconst 1, 1) := by decide +kernel
theorem dL_isBoat_47 : decode cL_isBoat 47 = .ok (.goto 4, 3) := by decide +kernel
theorem dL_isBoat_50 : decode cL_isBoat 50 = .ok (.iconst 0, 1) := by decide +kernel
theorem dL_isBoat_51 : decode cL_isBoat 51 = .ok (.ireturn, 1) := by decide +kernel
theorem dL_isBoat_52 : decode cL_isBoat 52 = .ok (.aload_n 0, 1) := by decide +kernel
theorem dL_isBoat_53 : decode cL_isBoat 53 = .ok (.aload_n 0, 1) := by decide +kernel
theorem dL_isBoat_54 : decode cL_isBoat 54 = .ok (.iload_n 1, 1) := by decide +kernel
theorem dL_isBoat_55 : decode cL_isBoat 55 = .ok (.iconst 3, 1) := by decide +kernel
theorem dL_isBoat_56 : decode cL_isBoat 56 = .ok (.invokevirtual 14, 3) := by decide +kernel
theorem dL_isBoat_59 : decode cL_isBoat 59 = .ok (.iconst 0, 1) := by decide +kernel
theorem dL_isBoat_60 : decode cL_isBoat 60 = .ok (.invokevirtual 18, 3) := by decide +kernel
theorem dL_isBoat_63 : decode cL_isBoat 63 = .ok (.istore 4, 2) := by decide +kernel
theorem dL_isBoat_65 : decode cL_isBoat 65 = .ok (.bipush (-5), 2) := by decide +kernel
theorem dL_isBoat_67 : decode cL_isBoat 67 = .ok (.istore 5, 2) := by decide +kernel
theorem dL_isBoat_69 : decode cL_isBoat 69 = .ok (.iconst 2, 1) := by decide +kernel
theorem dL_isBoat_70 : decode cL_isBoat 70 = .ok (.aload_n 0, 1) := by decide +kernel
theorem dL_isBoat_71 : decode cL_isBoat 71 = .ok (.bipush 16, 2) := by decide +kernel
theorem dL_isBoat_73 : decode cL_isBoat 73 = .ok (.invokevirtual 8, 3) := by decide +kernel
theorem dL_isBoat_76 : decode cL_isBoat 76 = .ok (.imul, 1) := by decide +kernel
theorem dL_isBoat_77 : decode cL_isBoat 77 = .ok (.aload_n 0, 1) := by decide +kernel
theorem dL_isBoat_78 : decode cL_isBoat 78 = .ok (.bipush 17, 2) := by decide +kernel
theorem dL_isBoat_80 : decode cL_isBoat 80 = .ok (.invokevirtual 8, 3) := by decide +kernel
theorem dL_isBoat_83 : decode cL_isBoat 83 = .ok (.imul, 1) := by decide +kernel
theorem dL_isBoat_84 : decode cL_isBoat 84 = .ok (.istore 6, 2) := by decide +kernel
theorem dL_isBoat_86 : decode cL_isBoat 86 = .ok (.iload 6, 2) := by decide +kernel
theorem dL_isBoat_88 : decode cL_isBoat 88 = .ok (.ifCond .lt 42, 3) := by decide +kernel
theorem dL_isBoat_91 : decode cL_isBoat 91 = .ok (.aload_n 0, 1) := by decide +kernel
theorem dL_isBoat_92 : decode cL_isBoat 92 = .ok (.aload_n 0, 1) := by decide +kernel
theorem dL_isBoat_93 : decode cL_isBoat 93 = .ok (.iconst 0, 1) := by decide +kernel
theorem dL_isBoat_94 : decode cL_isBoat 94 = .ok (.invokevirtual 8, 3) := by decide +kernel
theorem dL_isBoat_97 : decode cL_isBoat 97 = .ok (.iload 6, 2) := by decide +kernel
theorem dL_isBoat_99 : decode cL_isBoat 99 = .ok (.iadd, 1) := by decide +kernel
theorem dL_isBoat_100 : decode cL_isBoat 100 = .ok (.invokevirtual 25, 3) := by decide +kernel
theorem dL_isBoat_103 : decode cL_isBoat 103 = .ok (.iload 4, 2) := by decide +kernel
theorem dL_isBoat_105 : decode cL_isBoat 105 = .ok (.isub, 1) := by decide +kernel
theorem dL_isBoat_106 : decode cL_isBoat 106 = .ok (.aload_n 0, 1) := by decide +kernel
theorem dL_isBoat_107 : decode cL_isBoat 107 = .ok (.iload_n 1, 1) := by decide +kernel
theorem dL_isBoat_108 : decode cL_isBoat 108 = .ok (.iconst 1, 1) := by decide +kernel
theorem dL_isBoat_109 : decode cL_isBoat 109 = .ok (.invokevirtual 14, 3) := by decide +kernel
theorem dL_isBoat_112 : decode cL_isBoat 112 = .ok (.if_icmp .lt 8, 3) := by decide +kernel
theorem dL_isBoat_115 : decode cL_isBoat 115 = .ok (.iload 6, 2) := by decide +kernel
theorem dL_isBoat_117 : decode cL_isBoat 117 = .ok (.goto 5, 3) := by decide +kernel
theorem dL_isBoat_120 : decode cL_isBoat 120 = .ok (.iload 5, 2) := by decide +kernel
theorem dL_isBoat_122 : decode cL_isBoat 122 = .ok (.istore 5, 2) := by decide +kernel
theorem dL_isBoat_124 : decode cL_isBoat 124 = .ok (.iinc 6 (-1), 3) := by decide +kernel
theorem dL_isBoat_127 : decode cL_isBoat 127 = .ok (.goto (-41), 3) := by decide +kernel
theorem dL_isBoat_130 : decode cL_isBoat 130 = .ok (.iload_n 3, 1) := by decide +kernel
theorem dL_isBoat_131 : decode cL_isBoat 131 = .ok (.iload 5, 2) := by decide +kernel
theorem dL_isBoat_133 : decode cL_isBoat 133 = .ok (.if_icmp .ne 64, 3) := by decide +kernel
theorem dL_isBoat_136 : decode cL_isBoat 136 = .ok (.iload_n 2, 1) := by decide +kernel
theorem dL_isBoat_137 : decode cL_isBoat 137 = .ok (.bipush (-5), 2) := by decide +kernel
theorem dL_isBoat_139 : decode cL_isBoat 139 = .ok (.if_icmp .eq 54, 3) := by decide +kernel
theorem dL_isBoat_142 : decode cL_isBoat 142 = .ok (.iload_n 2, 1) := by decide +kernel
theorem dL_isBoat_143 : decode cL_isBoat 143 = .ok (.ifCond .le 54, 3) := by decide +kernel
theorem dL_isBoat_146 : decode cL_isBoat 146 = .ok (.aload_n 0, 1) := by decide +kernel
theorem dL_isBoat_147 : decode cL_isBoat 147 = .ok (.iconst 0, 1) := by decide +kernel
theorem dL_isBoat_148 : decode cL_isBoat 148 = .ok (.invokevirtual 8, 3) := by decide +kernel
theorem dL_isBoat_151 : decode cL_isBoat 151 = .ok (.iload_n 2, 1) := by decide +kernel
theorem dL_isBoat_152 : decode cL_isBoat 152 = .ok (.iadd, 1) := by decide +kernel
theorem dL_isBoat_153 : decode cL_isBoat 153 = .ok (.iconst 1, 1) := by decide +kernel
theorem dL_isBoat_154 : decode cL_isBoat 154 = .ok (.isub, 1) := by decide +kernel
theorem dL_isBoat_155 : decode cL_isBoat 155 = .ok (.aload_n 0, 1) := by decide +kernel
theorem dL_isBoat_156 : decode cL_isBoat 156 = .ok (.bipush 18, 2) := by decide +kernel
theorem dL_isBoat_158 : decode cL_isBoat 158 = .ok (.invokevirtual 8, 3) := by decide +kernel
theorem dL_isBoat_161 : decode cL_isBoat 161 = .ok (.if_icmp .gt 36, 3) := by decide +kernel
theorem dL_isBoat_164 : decode cL_isBoat 164 = .ok (.aload_n 0, 1) := by decide +kernel
theorem dL_isBoat_165 : decode cL_isBoat 165 = .ok (.iconst 0, 1) := by decide +kernel
theorem dL_isBoat_166 : decode cL_isBoat 166 = .ok (.invokevirtual 8, 3) := by decide +kernel
theorem dL_isBoat_169 : decode cL_isBoat 169 = .ok (.iload_n 2, 1) := by decide +kernel
theorem dL_isBoat_170 : decode cL_isBoat 170 = .ok (.iadd, 1) := by decide +kernel
theorem dL_isBoat_171 : decode cL_isBoat 171 = .ok (.iconst 1, 1) := by decide +kernel
theorem dL_isBoat_172 : decode cL_isBoat 172 = .ok (.isub, 1) := by decide +kernel
theorem dL_isBoat_173 : decode cL_isBoat 173 = .ok (.iconst 2, 1) := by decide +kernel
theorem dL_isBoat_174 : decode cL_isBoat 174 = .ok (.irem, 1) := by decide +kernel
theorem dL_isBoat_175 : decode cL_isBoat 175 = .ok (.aload_n 0, 1) := by decide +kernel
theorem dL_isBoat_176 : decode cL_isBoat 176 = .ok (.iload_n 1, 1) := by decide +kernel
theorem dL_isBoat_177 : decode cL_isBoat 177 = .ok (.iconst 0, 1) := by decide +kernel
theorem dL_isBoat_178 : decode cL_isBoat 178 = .ok (.invokevirtual 14, 3) := by decide +kernel
theorem dL_isBoat_181 : decode cL_isBoat 181 = .ok (.if_icmp .ne 16, 3) := by decide +kernel
theorem dL_isBoat_184 : decode cL_isBoat 184 = .ok (.iload_n 3, 1) := by decide +kernel
theorem dL_isBoat_185 : decode cL_isBoat 185 = .ok (.ifCond .lt 12, 3) := by decide +kernel
theorem dL_isBoat_188 : decode cL_isBoat 188 = .ok (.iload_n 2, 1) := by decide +kernel
theorem dL_isBoat_189 : decode cL_isBoat 189 = .ok (.iload_n 3, 1) := by decide +kernel
theorem dL_isBoat_190 : decode cL_isBoat 190 = .ok (.if_icmp .le 7, 3) := by decide +kernel
theorem dL_isBoat_193 : decode cL_isBoat 193 = .ok (.iconst 1, 1) := by decide +kernel
theorem dL_isBoat_194 : decode cL_isBoat 194 = .ok (.goto 4, 3) := by decide +kernel
theorem dL_isBoat_197 : decode cL_isBoat 197 = .ok (.iconst 0, 1) := by decide +kernel
theorem dL_isBoat_198 : decode cL_isBoat 198 = .ok (.ireturn, 1) := by decide +kernel
theorem dL_isTurn_0 : decode cL_isTurn 0 = .ok (.iload_n 3, 1) := by decide +kernel
theorem dL_isTurn_1 : decode cL_isTurn 1 = .ok (.ifCond .ne 21, 3) := by decide +kernel
theorem dL_isTurn_4 : decode cL_isTurn 4 = .ok (.aload_n 0, 1) := by decide +kernel
theorem dL_isTurn_5 : decode cL_isTurn 5 = .ok (.bipush 11, 2) := by decide +kernel
theorem dL_isTurn_7 : decode cL_isTurn 7 = .ok (.invokevirtual 8, 3) := by decide +kernel
theorem dL_isTurn_10 : decode cL_isTurn 10 = .ok (.iconst 1, 1) := by decide +kernel
theorem dL_isTurn_11 : decode cL_isTurn 11 = .ok (.if_icmp .ne 7, 3) := by decide +kernel
theorem dL_isTurn_14 : decode cL_isTurn 14 = .ok (.iconst 1, 1) := by decide +kernel
theorem dL_isTurn_15 : decode cL_isTurn 15 = .ok (.goto 14, 3) := by decide +kernel
theorem dL_isTurn_18 : decode cL_isTurn 18 = .ok (.iconst 0, 1) := by decide +kernel
theorem dL_isTurn_19 : decode cL_isTurn 19 = .ok (.goto 10, 3) := by decide +kernel
theorem dL_isTurn_22 : decode cL_isTurn 22 = .ok (.aload_n 0, 1) := by decide +kernel
theorem dL_isTurn_23 : decode cL_isTurn 23 = .ok (.iload_n 1, 1) := by decide +kernel
theorem dL_isTurn_24 : decode cL_isTurn 24 = .ok (.iload_n 2, 1) := by decide +kernel
theorem dL_isTurn_25 : decode cL_isTurn 25 = .ok (.iload_n 3, 1) := by decide +kernel
theorem dL_isTurn_26 : decode cL_isTurn 26 = .ok (.invokevirtual 21, 3) := by decide +kernel
theorem dL_isTurn_29 : decode cL_isTurn 29 = .ok (.istore 4, 2) := by decide +kernel
theorem dL_isTurn_31 : decode cL_isTurn 31 = .ok (.aload_n 0, 1) := by decide +kernel
theorem dL_isTurn_32 : decode cL_isTurn 32 = .ok (.iconst 0, 1) := by decide +kernel
theorem dL_isTurn_33 : decode cL_isTurn 33 = .ok (.invokevirtual 8, 3) := by decide +kernel
theorem dL_isTurn_36 : decode cL_isTurn 36 = .ok (.istore 5, 2) := by decide +kernel
theorem dL_isTurn_38 : decode cL_isTurn 38 = .ok (.aload_n 0, 1) := by decide +kernel
theorem dL_isTurn_39 : decode cL_isTurn 39 = .ok (.iconst 0, 1) := by decide +kernel
theorem dL_isTurn_40 : decode cL_isTurn 40 = .ok (.invokevirtual 38, 3) := by decide +kernel
theorem dL_isTurn_43 : decode cL_isTurn 43 = .ok (.aload_n 0, 1) := by decide +kernel
theorem dL_isTurn_44 : decode cL_isTurn 44 = .ok (.iconst 1, 1) := by decide +kernel
theorem dL_isTurn_45 : decode cL_isTurn 45 = .ok (.invokevirtual 38, 3) := by decide +kernel
theorem dL_isTurn_48 : decode cL_isTurn 48 = .ok (.ior, 1) := by decide +kernel
theorem dL_isTurn_49 : decode cL_isTurn 49 = .ok (.istore 6, 2) := by decide +kernel
theorem dL_isTurn_51 : decode cL_isTurn 51 = .ok (.aload_n 0, 1) := by decide +kernel
theorem dL_isTurn_52 : decode cL_isTurn 52 = .ok (.bipush 8, 2) := by decide +kernel
theorem dL_isTurn_54 : decode cL_isTurn 54 = .ok (.invokevirtual 8, 3) := by decide +kernel
theorem dL_isTurn_57 : decode cL_isTurn 57 = .ok (.istore 7, 2) := by decide +kernel
theorem dL_isTurn_59 : decode cL_isTurn 59 = .ok (.aload_n 0, 1) := by decide +kernel
theorem dL_isTurn_60 : decode cL_isTurn 60 = .ok (.bipush 10, 2) := by decide +kernel
theorem dL_isTurn_62 : decode cL_isTurn 62 = .ok (.invokevirtual 8, 3) := by decide +kernel
theorem dL_isTurn_65 : decode cL_isTurn 65 = .ok (.istore 8, 2) := by decide +kernel
theorem dL_isTurn_67 : decode cL_isTurn 67 = .ok (.iload_n 3, 1) := by decide +kernel
theorem dL_isTurn_68 : decode cL_isTurn 68 = .ok (.ifCond .ne 7, 3) := by decide +kernel
theorem dL_isTurn_71 : decode cL_isTurn 71 = .ok (.iconst 0, 1) := by decide +kernel
theorem dL_isTurn_72 : decode cL_isTurn 72 = .ok (.goto 9, 3) := by decide +kernel
theorem dL_isTurn_75 : decode cL_isTurn 75 = .ok (.aload_n 0, 1) := by decide +kernel
theorem dL_isTurn_76 : decode cL_isTurn 76 = .ok (.iload_n 1, 1) := by decide +kernel
theorem dL_isTurn_77 : decode cL_isTurn 77 = .ok (.iconst 5, 1) := by decide +kernel
theorem dL_isTurn_78 : decode cL_isTurn 78 = .ok (.invokevirtual 14, 3) := by decide +kernel
theorem dL_isTurn_81 : decode cL_isTurn 81 = .ok (.istore 9, 2) := by decide +kernel
theorem dL_isTurn_83 : decode cL_isTurn 83 = .ok (.iconst 0, 1) := by decide +kernel
theorem dL_isTurn_84 : decode cL_isTurn 84 = .ok (.istore 10, 2) := by decide +kernel
theorem dL_isTurn_86 : decode cL_isTurn 86 = .ok (.iconst 0, 1) := by decide +kernel
theorem dL_isTurn_87 : decode cL_isTurn 87 = .ok (.istore 11, 2) := by decide +kernel
theorem dL_isTurn_89 : decode cL_isTurn 89 = .ok (.iload 11, 2) := by decide +kernel
theorem dL_isTurn_91 : decode cL_isTurn 91 = .ok (.aload_n 0, 1) := by decide +kernel
theorem dL_isTurn_92 : decode cL_isTurn 92 = .ok (.iconst 5, 1) := by decide +kernel
theorem dL_isTurn_93 : decode cL_isTurn 93 = .ok (.invokevirtual 8, 3) := by decide +kernel
theorem dL_isTurn_96 : decode cL_isTurn 96 = .ok (.if_icmp .ge 40, 3) := by decide +kernel
theorem dL_isTurn_99 : decode cL_isTurn 99 = .ok (.iload 11, 2) := by decide +kernel
theorem dL_isTurn_101 : decode cL_isTurn 101 = .ok (.bipush 10, 2) := by decide +kernel
theorem dL_isTurn_103 : decode cL_isTurn 103 = .ok (.if_icmp .ge 33, 3) := by decide +kernel
theorem dL_isTurn_106 : decode cL_isTurn 106 = .ok (.iload 10, 2) := by decide +kernel
theorem dL_isTurn_108 : decode cL_isTurn 108 = .ok (.aload_n 0, 1) := by decide +kernel
theorem dL_isTurn_109 : decode cL_isTurn 109 = .ok (.iload 11, 2) := by decide +kernel
theorem dL_isTurn_111 : decode cL_isTurn 111 = .ok (.iconst 2, 1) := by decide +kernel
theorem dL_isTurn_112 : decode cL_isTurn 112 = .ok (.invokevirtual 14, 3) := by decide +kernel
theorem dL_isTurn_115 : decode cL_isTurn 115 = .ok (.iconst 2, 1) := by decide +kernel
theorem dL_isTurn_116 : decode cL_isTurn 116 = .ok (.if_icmp .ne 10, 3) := by decide +kernel
theorem dL_isTurn_119 : decode cL_isTurn 119 = .ok (.iconst 1, 1) := by decide +kernel
theorem dL_isTurn_120 : decode cL_isTurn 120 = .ok (.iload 11, 2) := by decide +kernel
theorem dL_isTurn_122 : decode cL_isTurn 122 = .ok (.ishl, 1) := by decide +kernel
theorem dL_isTurn_123 : decode cL_isTurn 123 = .ok (.goto 4, 3) := by decide +kernel
theorem dL_isTurn_126 : decode cL_isTurn 126 = .ok (.iconst 0, 1) := by decide +kernel
theorem dL_isTurn_127 : decode cL_isTurn 127 = .ok (.ior, 1) := by decide +kernel
theorem dL_isTurn_128 : decode cL_isTurn 128 = .ok (.istore 10, 2) := by decide +kernel
theorem dL_isTurn_130 : decode cL_isTurn 130 = .ok (.iinc 11 1, 3) := by decide +kernel
theorem dL_isTurn_133 : decode cL_isTurn 133 = .ok (.goto (-44), 3) := by decide +kernel
theorem dL_isTurn_136 : decode cL_isTurn 136 = .ok (.iload_n 3, 1) := by decide +kernel
theorem dL_isTurn_137 : decode cL_isTurn 137 = .ok (.ifCond .ne 10, 3) := by decide +kernel
theorem dL_isTurn_140 : decode cL_isTurn 140 = .ok (.aload_n 0, 1) := by decide +kernel
theorem dL_isTurn_141 : decode cL_isTurn 141 = .ok (.invokevirtual 41, 3) := by decide +kernel
theorem dL_isTurn_144 : decode cL_isTurn 144 = .ok (.goto 10, 3) := by decide +kernel
theorem dL_isTurn_147 : decode cL_isTurn 147 = .ok (.aload_n 0, 1) := by decide +kernel
theorem dL_isTurn_148 : decode cL_isTurn 148 = .ok (.iload_n 1, 1) := by decide +kernel
theorem dL_isTurn_149 : decode cL_isTurn 149 = .ok (.iload_n 2, 1) := by decide +kernel
theorem dL_isTurn_150 : decode cL_isTurn 150 = .ok (.iload_n 3, 1) := by decide +kernel
theorem dL_isTurn_151 : decode cL_isTurn 151 = .ok (.invokevirtual 45, 3) := by decide +kernel
theorem dL_isTurn_154 : decode cL_isTurn 154 = .ok (.istore 11, 2) := by decide +kernel
theorem dL_isTurn_156 : decode cL_isTurn 156 = .ok (.iload 4, 2) := by decide +kernel
theorem dL_isTurn_158 : decode cL_isTurn 158 = .ok (.ifCond .le 54, 3) := by decide +kernel
theorem dL_isTurn_161 : decode cL_isTurn 161 = .ok (.iload_n 3, 1) := by decide +kernel
theorem dL_isTurn_162 : decode cL_isTurn 162 = .ok (.ifCond .ne 13, 3) := by decide +kernel
theorem dL_isTurn_165 : decode cL_isTurn 165 = .ok (.iload 11, 2) := by decide +kernel
theorem dL_isTurn_167 : decode cL_isTurn 167 = .ok (.bipush (-4), 2) := by decide +kernel
theorem dL_isTurn_169 : decode cL_isTurn 169 = .ok (.if_icmp .ne 41, 3) := by decide +kernel
theorem dL_isTurn_172 : decode cL_isTurn 172 = .ok (.goto 13, 3) := by decide +kernel
theorem dL_isTurn_175 : decode cL_isTurn 175 = .ok (.iload 11, 2) := by decide +kernel
theorem dL_isTurn_177 : decode cL_isTurn 177 = .ok (.bipush (-10), 2) := by decide +kernel
theorem dL_isTurn_179 : decode cL_isTurn 179 = .ok (.iload 4, 2) := by decide +kernel
theorem dL_isTurn_181 : decode cL_isTurn 181 = .ok (.isub, 1) := by decide +kernel
theorem dL_isTurn_182 : decode cL_isTurn 182 = .ok (.if_icmp .ne 28, 3) := by decide +kernel
theorem dL_isTurn_185 : decode cL_isTurn 185 = .ok (.aload_n 0, 1) := by decide +kernel
theorem dL_isTurn_186 : decode cL_isTurn 186 = .ok (.iconst 0, 1) := by decide +kernel
theorem dL_isTurn_187 : decode cL_isTurn 187 = .ok (.invokevirtual 8, 3) := by decide +kernel
theorem dL_isTurn_190 : decode cL_isTurn 190 = .ok (.iload 5, 2) := by decide +kernel
theorem dL_isTurn_192 : decode cL_isTurn 192 = .ok (.if_icmp .ne 18, 3) := by decide +kernel
theorem dL_isTurn_195 : decode cL_isTurn 195 = .ok (.aload_n 0, 1) := by decide +kernel
theorem dL_isTurn_196 : decode cL_isTurn 196 = .ok (.bipush 8, 2) := by decide +kernel
theorem dL_isTurn_198 : decode cL_isTurn 198 = .ok (.invokevirtual 8, 3) := by decide +kernel
theorem dL_isTurn_201 : decode cL_isTurn 201 = .ok (.iload 7, 2) := by decide +kernel
theorem dL_isTurn_203 : decode cL_isTurn 203 = .ok (.if_icmp .ne 7, 3) := by decide +kernel
theorem dL_isTurn_206 : decode cL_isTurn 206 = .ok (.iconst 1, 1) := by decide +kernel
theorem dL_isTurn_207 : decode cL_isTurn 207 = .ok (.goto 4, 3) := by decide +kernel
theorem dL_isTurn_210 : decode cL_isTurn 210 = .ok (.iconst 0, 1) := by decide +kernel
theorem dL_isTurn_211 : decode cL_isTurn 211 = .ok (.ireturn, 1) := by decide +kernel
theorem dL_isTurn_212 : decode cL_isTurn 212 = .ok (.aload_n 0, 1) := by decide +kernel
theorem dL_isTurn_213 : decode cL_isTurn 213 = .ok (.iconst 0, 1) := by decide +kernel
theorem dL_isTurn_214 : decode cL_isTurn 214 = .ok (.invokevirtual 8, 3) := by decide +kernel
theorem dL_isTurn_217 : decode cL_isTurn 217 = .ok (.iload 5, 2) := by decide +kernel
theorem dL_isTurn_219 : decode cL_isTurn 219 = .ok (.iconst 1, 1) := by decide +kernel
theorem dL_isTurn_220 : decode cL_isTurn 220 = .ok (.iadd, 1) := by decide +kernel
theorem dL_isTurn_221 : decode cL_isTurn 221 = .ok (.if_icmp .ne 43, 3) := by decide +kernel
theorem dL_isTurn_224 : decode cL_isTurn 224 = .ok (.aload_n 0, 1) := by decide +kernel
theorem dL_isTurn_225 : decode cL_isTurn 225 = .ok (.bipush 10, 2) := by decide +kernel
theorem dL_isTurn_227 : decode cL_isTurn 227 = .ok (.invokevirtual 8, 3) := by decide +kernel
theorem dL_isTurn_230 : decode cL_isTurn 230 = .ok (.iload 8, 2) := by decide +kernel
theorem dL_isTurn_232 : decode cL_isTurn 232 = .ok (.iload_n 3, 1) := by decide +kernel
theorem dL_isTurn_233 : decode cL_isTurn 233 = .ok (.ifCond .le 12, 3) := by decide +kernel
theorem dL_isTurn_236 : decode cL_isTurn 236 = .ok (.iload 11, 2) := by decide +kernel
theorem dL_isTurn_238 : decode cL_isTurn 238 = .ok (.ifCond .le 7, 3) := by decide +kernel
theorem dL_isTurn_241 : decode cL_isTurn 241 = .ok (.iconst 1, 1) := by decide +kernel
theorem dL_isTurn_242 : decode cL_isTurn 242 = .ok (.goto 4, 3) := by decide +kernel
theorem dL_isTurn_245 : decode cL_isTurn 245 = .ok (.iconst 0, 1) := by decide +kernel
theorem dL_isTurn_246 : decode cL_isTurn 246 = .ok (.iadd, 1) := by decide +kernel
theorem dL_isTurn_247 : decode cL_isTurn 247 = .ok (.if_icmp .ne 17, 3) := by decide +kernel
theorem dL_isTurn_250 : decode cL_isTurn 250 = .ok (.iload_n 3, 1) := by decide +kernel
theorem dL_isTurn_251 : decode cL_isTurn 251 = .ok (.ifCond .ne 15, 3) := by decide +kernel
theorem dL_isTurn_254 : decode cL_isTurn 254 = .ok (.iload 11, 2) := by decide +kernel
theorem dL_isTurn_256 : decode cL_isTurn 256 = .ok (.aload_n 0, 1) := by decide +kernel
theorem dL_isTurn_257 : decode cL_isTurn 257 = .ok (.iconst 2, 1) := by decide +kernel
theorem dL_isTurn_258 : decode cL_isTurn 258 = .ok (.invokevirtual 8, 3) := by decide +kernel
theorem dL_isTurn_261 : decode cL_isTurn 261 = .ok (.if_icmp .eq 5, 3) := by decide +kernel
theorem dL_isTurn_264 : decode cL_isTurn 264 = .ok (.iconst 0, 1) := by decide +kernel
theorem dL_isTurn_265 : decode cL_isTurn 265 = .ok (.ireturn, 1) := by decide +kernel
theorem dL_isTurn_266 : decode cL_isTurn 266 = .ok (.iconst 0, 1) := by decide +kernel
theorem dL_isTurn_267 : decode cL_isTurn 267 = .ok (.istore 12, 2) := by decide +kernel
theorem dL_isTurn_269 : decode cL_isTurn 269 = .ok (.iconst 0, 1) := by decide +kernel
theorem dL_isTurn_270 : decode cL_isTurn 270 = .ok (.istore 13, 2) := by decide +kernel
theorem dL_isTurn_272 : decode cL_isTurn 272 = .ok (.iload 13, 2) := by decide +kernel
theorem dL_isTurn_274 : decode cL_isTurn 274 = .ok (.aload_n 0, 1) := by decide +kernel
theorem dL_isTurn_275 : decode cL_isTurn 275 = .ok (.iconst 5, 1) := by decide +kernel
theorem dL_isTurn_276 : decode cL_isTurn 276 = .ok (.invokevirtual 8, 3) := by decide +kernel
theorem dL_isTurn_279 : decode cL_isTurn 279 = .ok (.if_icmp .ge 77, 3) := by decide +kernel
theorem dL_isTurn_282 : decode cL_isTurn 282 = .ok (.iload 13, 2) := by decide +kernel
theorem dL_isTurn_284 : decode cL_isTurn 284 = .ok (.bipush 10, 2) := by decide +kernel
theorem dL_isTurn_286 : decode cL_isTurn 286 = .ok (.if_icmp .ge 70, 3) := by decide +kernel
theorem dL_isTurn_289 : decode cL_isTurn 289 = .ok (.aload_n 0, 1) := by decide +kernel
theorem dL_isTurn_290 : decode cL_isTurn 290 = .ok (.iload 13, 2) := by decide +kernel
theorem dL_isTurn_292 : decode cL_isTurn 292 = .ok (.iconst 2, 1) := by decide +kernel
theorem dL_isTurn_293 : decode cL_isTurn 293 = .ok (.invokevirtual 14, 3) := by decide +kernel
theorem dL_isTurn_296 : decode cL_isTurn 296 = .ok (.iconst 2, 1) := by decide +kernel
theorem dL_isTurn_297 : decode cL_isTurn 297 = .ok (.if_icmp .ne 7, 3) := by decide +kernel
theorem dL_isTurn_300 : decode cL_isTurn 300 = .ok (.iconst 1, 1) := by decide +kernel
theorem dL_isTurn_301 : decode cL_isTurn 301 = .ok (.goto 4, 3) := by decide +kernel
theorem dL_isTurn_304 : decode cL_isTurn 304 = .ok (.iconst 0, 1) := by decide +kernel
theorem dL_isTurn_305 : decode cL_isTurn 305 = .ok (.istore 14, 2) := by decide +kernel
theorem dL_isTurn_307 : decode cL_isTurn 307 = .ok (.iload 12, 2) := by decide +kernel
theorem dL_isTurn_309 : decode cL_isTurn 309 = .ok (.iload 14, 2) := by decide +kernel
theorem dL_isTurn_311 : decode cL_isTurn 311 = .ok (.ifCond .eq 7, 3) := by decide +kernel
theorem dL_isTurn_314 : decode cL_isTurn 314 = .ok (.iconst 1, 1) := by decide +kernel
theorem dL_isTurn_315 : decode cL_isTurn 315 = .ok (.goto 4, 3) := by decide +kernel
theorem dL_isTurn_318 : decode cL_isTurn 318 = .ok (.iconst 0, 1) := by decide +kernel
theorem dL_isTurn_319 : decode cL_isTurn 319 = .ok (.iadd, 1) := by decide +kernel
theorem dL_isTurn_320 : decode cL_isTurn 320 = .ok (.istore 12, 2) := by decide +kernel
theorem dL_isTurn_322 : decode cL_isTurn 322 = .ok (.iload 6, 2) := by decide +kernel
theorem dL_isTurn_324 : decode cL_isTurn 324 = .ok (.iload 13, 2) := by decide +kernel
theorem dL_isTurn_326 : decode cL_isTurn 326 = .ok (.ishr, 1) := by decide +kernel
theorem dL_isTurn_327 : decode cL_isTurn 327 = .ok (.iconst 1, 1) := by decide +kernel
theorem dL_isTurn_328 : decode cL_isTurn 328 = .ok (.iand, 1) := by decide +kernel
theorem dL_isTurn_329 : decode cL_isTurn 329 = .ok (.iconst 1, 1) := by decide +kernel
theorem dL_isTurn_330 : decode cL_isTurn 330 = .ok (.if_icmp .ne 20, 3) := by decide +kernel
theorem dL_isTurn_333 : decode cL_isTurn 333 = .ok (.iload 14, 2) := by decide +kernel
theorem dL_isTurn_335 : decode cL_isTurn 335 = .ok (.ifCond .ne 15, 3) := by decide +kernel
theorem dL_isTurn_338 : decode cL_isTurn 338 = .ok (.iload_n 3, 1) := by decide +kernel
theorem dL_isTurn_339 : decode cL_isTurn 339 = .ok (.ifCond .eq 9, 3) := by decide +kernel
theorem dL_isTurn_342 : decode cL_isTurn 342 = .ok (.iload 13, 2) := by decide +kernel
theorem dL_isTurn_344 : decode cL_isTurn 344 = .ok (.iload_n 1, 1) := by decide +kernel
theorem dL_isTurn_345 : decode cL_isTurn 345 = .ok (.if_icmp .eq 5, 3) := by decide +kernel
theorem dL_isTurn_348 : decode cL_isTurn 348 = .ok (.iconst 0, 1) := by decide +kernel
theorem dL_isTurn_349 : decode cL_isTurn 349 = .ok (.ireturn, 1) := by decide +kernel
theorem dL_isTurn_350 : decode cL_isTurn 350 = .ok (.iinc 13 1, 3) := by decide +kernel
theorem dL_isTurn_353 : decode cL_isTurn 353 = .ok (.goto (-81), 3) := by decide +kernel
theorem dL_isTurn_356 : decode cL_isTurn 356 = .ok (.iload 12, 2) := by decide +kernel
theorem dL_isTurn_358 : decode cL_isTurn 358 = .ok (.aload_n 0, 1) := by decide +kernel
theorem dL_isTurn_359 : decode cL_isTurn 359 = .ok (.bipush 8, 2) := by decide +kernel
theorem dL_isTurn_361 : decode cL_isTurn 361 = .ok (.invokevirtual 8, 3) := by decide +kernel
theorem dL_isTurn_364 : decode cL_isTurn 364 = .ok (.if_icmp .ne 63, 3) := by decide +kernel
theorem dL_isTurn_367 : decode cL_isTurn 367 = .ok (.iload 12, 2) := by decide +kernel
