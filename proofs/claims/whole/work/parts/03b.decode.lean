theorem dX3_sail_105 : decode cX3_sail 105 = .ok (.invokestatic 39, 3) := by decide +kernel
theorem dX3_sail_108 : decode cX3_sail 108 = .ok (.iload 6, 2) := by decide +kernel
theorem dX3_sail_110 : decode cX3_sail 110 = .ok (.aload_n 0, 1) := by decide +kernel
theorem dX3_sail_111 : decode cX3_sail 111 = .ok (.getfield 9, 3) := by decide +kernel
theorem dX3_sail_114 : decode cX3_sail 114 = .ok (.getfield 56, 3) := by decide +kernel
theorem dX3_sail_117 : decode cX3_sail 117 = .ok (.iload_n 1, 1) := by decide +kernel
theorem dX3_sail_118 : decode cX3_sail 118 = .ok (.invokestatic 32, 3) := by decide +kernel
theorem dX3_sail_121 : decode cX3_sail 121 = .ok (.invokestatic 98, 3) := by decide +kernel
theorem dX3_sail_124 : decode cX3_sail 124 = .ok (.if_icmp .ne 15, 3) := by decide +kernel
theorem dX3_sail_127 : decode cX3_sail 127 = .ok (.aload_n 0, 1) := by decide +kernel
theorem dX3_sail_128 : decode cX3_sail 128 = .ok (.getfield 9, 3) := by decide +kernel
theorem dX3_sail_131 : decode cX3_sail 131 = .ok (.getfield 62, 3) := by decide +kernel
theorem dX3_sail_134 : decode cX3_sail 134 = .ok (.iload_n 1, 1) := by decide +kernel
theorem dX3_sail_135 : decode cX3_sail 135 = .ok (.iconst 1, 1) := by decide +kernel
theorem dX3_sail_136 : decode cX3_sail 136 = .ok (.invokestatic 39, 3) := by decide +kernel
theorem dX3_sail_139 : decode cX3_sail 139 = .ok (.aload_n 0, 1) := by decide +kernel
theorem dX3_sail_140 : decode cX3_sail 140 = .ok (.invokevirtual 101, 3) := by decide +kernel
theorem dX3_sail_143 : decode cX3_sail 143 = .ok (.iload 7, 2) := by decide +kernel
theorem dX3_sail_145 : decode cX3_sail 145 = .ok (.ireturn, 1) := by decide +kernel
theorem dX3_waitATurn_0 : decode cX3_waitATurn 0 = .ok (.aload_n 0, 1) := by decide +kernel
theorem dX3_waitATurn_1 : decode cX3_waitATurn 1 = .ok (.getfield 9, 3) := by decide +kernel
theorem dX3_waitATurn_4 : decode cX3_waitATurn 4 = .ok (.invokevirtual 104, 3) := by decide +kernel
theorem dX3_waitATurn_7 : decode cX3_waitATurn 7 = .ok (.ifCond .eq 6, 3) := by decide +kernel
theorem dX3_waitATurn_10 : decode cX3_waitATurn 10 = .ok (.bipush (-4), 2) := by decide +kernel
theorem dX3_waitATurn_12 : decode cX3_waitATurn 12 = .ok (.ireturn, 1) := by decide +kernel
theorem dX3_waitATurn_13 : decode cX3_waitATurn 13 = .ok (.aload_n 0, 1) := by decide +kernel
theorem dX3_waitATurn_14 : decode cX3_waitATurn 14 = .ok (.invokevirtual 101, 3) := by decide +kernel
theorem dX3_waitATurn_17 : decode cX3_waitATurn 17 = .ok (.aload_n 0, 1) := by decide +kernel
theorem dX3_waitATurn_18 : decode cX3_waitATurn 18 = .ok (.getfield 9, 3) := by decide +kernel
theorem dX3_waitATurn_21 : decode cX3_waitATurn 21 = .ok (.aload_n 0, 1) := by decide +kernel
theorem dX3_waitATurn_22 : decode cX3_waitATurn 22 = .ok (.getfield 9, 3) := by decide +kernel
theorem dX3_waitATurn_25 : decode cX3_waitATurn 25 = .ok (.getfield 22, 3) := by decide +kernel
theorem dX3_waitATurn_28 : decode cX3_waitATurn 28 = .ok (.invokevirtual 108, 3) := by decide +kernel
theorem dX3_waitATurn_31 : decode cX3_waitATurn 31 = .ok (.ireturn, 1) := by decide +kernel
theorem dX3_errorOfMove_0 : decode cX3_errorOfMove 0 = .ok (.aload_n 0, 1) := by decide +kernel
theorem dX3_errorOfMove_1 : decode cX3_errorOfMove 1 = .ok (.getfield 9, 3) := by decide +kernel
theorem dX3_errorOfMove_4 : decode cX3_errorOfMove 4 = .ok (.iload_n 1, 1) := by decide +kernel
theorem dX3_errorOfMove_5 : decode cX3_errorOfMove 5 = .ok (.invokevirtual 111, 3) := by decide +kernel
theorem dX3_errorOfMove_8 : decode cX3_errorOfMove 8 = .ok (.ifCond .ne 5, 3) := by decide +kernel
theorem dX3_errorOfMove_11 : decode cX3_errorOfMove 11 = .ok (.iconst (-1), 1) := by decide +kernel
theorem dX3_errorOfMove_12 : decode cX3_errorOfMove 12 = .ok (.ireturn, 1) := by decide +kernel
theorem dX3_errorOfMove_13 : decode cX3_errorOfMove 13 = .ok (.iload_n 2, 1) := by decide +kernel
theorem dX3_errorOfMove_14 : decode cX3_errorOfMove 14 = .ok (.ifCond .lt 18, 3) := by decide +kernel
theorem dX3_errorOfMove_17 : decode cX3_errorOfMove 17 = .ok (.iload_n 2, 1) := by decide +kernel
theorem dX3_errorOfMove_18 : decode cX3_errorOfMove 18 = .ok (.iconst 4, 1) := by decide +kernel
theorem dX3_errorOfMove_19 : decode cX3_errorOfMove 19 = .ok (.if_icmp .ge 13, 3) := by decide +kernel
theorem dX3_errorOfMove_22 : decode cX3_errorOfMove 22 = .ok (.iload_n 3, 1) := by decide +kernel
theorem dX3_errorOfMove_23 : decode cX3_errorOfMove 23 = .ok (.iconst 1, 1) := by decide +kernel
theorem dX3_errorOfMove_24 : decode cX3_errorOfMove 24 = .ok (.if_icmp .lt 8, 3) := by decide +kernel
theorem dX3_errorOfMove_27 : decode cX3_errorOfMove 27 = .ok (.iload_n 3, 1) := by decide +kernel
theorem dX3_errorOfMove_28 : decode cX3_errorOfMove 28 = .ok (.iconst 3, 1) := by decide +kernel
theorem dX3_errorOfMove_29 : decode cX3_errorOfMove 29 = .ok (.if_icmp .le 6, 3) := by decide +kernel
theorem dX3_errorOfMove_32 : decode cX3_errorOfMove 32 = .ok (.bipush (-2), 2) := by decide +kernel
theorem dX3_errorOfMove_34 : decode cX3_errorOfMove 34 = .ok (.ireturn, 1) := by decide +kernel
theorem dX3_errorOfMove_35 : decode cX3_errorOfMove 35 = .ok (.iconst 0, 1) := by decide +kernel
theorem dX3_errorOfMove_36 : decode cX3_errorOfMove 36 = .ok (.ireturn, 1) := by decide +kernel
theorem dX3_reasonAgainst_0 : decode cX3_reasonAgainst 0 = .ok (.aload_n 0, 1) := by decide +kernel
theorem dX3_reasonAgainst_1 : decode cX3_reasonAgainst 1 = .ok (.getfield 9, 3) := by decide +kernel
theorem dX3_reasonAgainst_4 : decode cX3_reasonAgainst 4 = .ok (.invokevirtual 104, 3) := by decide +kernel
theorem dX3_reasonAgainst_7 : decode cX3_reasonAgainst 7 = .ok (.ifCond .eq 5, 3) := by decide +kernel
theorem dX3_reasonAgainst_10 : decode cX3_reasonAgainst 10 = .ok (.iconst 1, 1) := by decide +kernel
theorem dX3_reasonAgainst_11 : decode cX3_reasonAgainst 11 = .ok (.ireturn, 1) := by decide +kernel
theorem dX3_reasonAgainst_12 : decode cX3_reasonAgainst 12 = .ok (.aload_n 0, 1) := by decide +kernel
theorem dX3_reasonAgainst_13 : decode cX3_reasonAgainst 13 = .ok (.getfield 9, 3) := by decide +kernel
theorem dX3_reasonAgainst_16 : decode cX3_reasonAgainst 16 = .ok (.iload_n 1, 1) := by decide +kernel
theorem dX3_reasonAgainst_17 : decode cX3_reasonAgainst 17 = .ok (.invokevirtual 114, 3) := by decide +kernel
theorem dX3_reasonAgainst_20 : decode cX3_reasonAgainst 20 = .ok (.ifCond .ne 5, 3) := by decide +kernel
theorem dX3_reasonAgainst_23 : decode cX3_reasonAgainst 23 = .ok (.iconst 2, 1) := by decide +kernel
theorem dX3_reasonAgainst_24 : decode cX3_reasonAgainst 24 = .ok (.ireturn, 1) := by decide +kernel
theorem dX3_reasonAgainst_25 : decode cX3_reasonAgainst 25 = .ok (.iload 4, 2) := by decide +kernel
theorem dX3_reasonAgainst_27 : decode cX3_reasonAgainst 27 = .ok (.ifCond .ne 26, 3) := by decide +kernel
theorem dX3_reasonAgainst_30 : decode cX3_reasonAgainst 30 = .ok (.aload_n 0, 1) := by decide +kernel
theorem dX3_reasonAgainst_31 : decode cX3_reasonAgainst 31 = .ok (.getfield 9, 3) := by decide +kernel
theorem dX3_reasonAgainst_34 : decode cX3_reasonAgainst 34 = .ok (.getfield 56, 3) := by decide +kernel
theorem dX3_reasonAgainst_37 : decode cX3_reasonAgainst 37 = .ok (.iload_n 1, 1) := by decide +kernel
theorem dX3_reasonAgainst_38 : decode cX3_reasonAgainst 38 = .ok (.invokestatic 32, 3) := by decide +kernel
theorem dX3_reasonAgainst_41 : decode cX3_reasonAgainst 41 = .ok (.aload_n 0, 1) := by decide +kernel
theorem dX3_reasonAgainst_42 : decode cX3_reasonAgainst 42 = .ok (.getfield 9, 3) := by decide +kernel
theorem dX3_reasonAgainst_45 : decode cX3_reasonAgainst 45 = .ok (.invokevirtual 117, 3) := by decide +kernel
theorem dX3_reasonAgainst_48 : decode cX3_reasonAgainst 48 = .ok (.if_icmp .eq 5, 3) := by decide +kernel
theorem dX3_reasonAgainst_51 : decode cX3_reasonAgainst 51 = .ok (.iconst 3, 1) := by decide +kernel
theorem dX3_reasonAgainst_52 : decode cX3_reasonAgainst 52 = .ok (.ireturn, 1) := by decide +kernel
theorem dX3_reasonAgainst_53 : decode cX3_reasonAgainst 53 = .ok (.aload_n 0, 1) := by decide +kernel
theorem dX3_reasonAgainst_54 : decode cX3_reasonAgainst 54 = .ok (.getfield 9, 3) := by decide +kernel
theorem dX3_reasonAgainst_57 : decode cX3_reasonAgainst 57 = .ok (.iload_n 1, 1) := by decide +kernel
theorem dX3_reasonAgainst_58 : decode cX3_reasonAgainst 58 = .ok (.invokevirtual 121, 3) := by decide +kernel
theorem dX3_reasonAgainst_61 : decode cX3_reasonAgainst 61 = .ok (.ifCond .ne 5, 3) := by decide +kernel
theorem dX3_reasonAgainst_64 : decode cX3_reasonAgainst 64 = .ok (.iconst 4, 1) := by decide +kernel
theorem dX3_reasonAgainst_65 : decode cX3_reasonAgainst 65 = .ok (.ireturn, 1) := by decide +kernel
theorem dX3_reasonAgainst_66 : decode cX3_reasonAgainst 66 = .ok (.aload_n 0, 1) := by decide +kernel
theorem dX3_reasonAgainst_67 : decode cX3_reasonAgainst 67 = .ok (.iload_n 1, 1) := by decide +kernel
theorem dX3_reasonAgainst_68 : decode cX3_reasonAgainst 68 = .ok (.iload_n 2, 1) := by decide +kernel
theorem dX3_reasonAgainst_69 : decode cX3_reasonAgainst 69 = .ok (.iload_n 3, 1) := by decide +kernel
theorem dX3_reasonAgainst_70 : decode cX3_reasonAgainst 70 = .ok (.invokevirtual 124, 3) := by decide +kernel
theorem dX3_reasonAgainst_73 : decode cX3_reasonAgainst 73 = .ok (.ifCond .ne 5, 3) := by decide +kernel
theorem dX3_reasonAgainst_76 : decode cX3_reasonAgainst 76 = .ok (.iconst 5, 1) := by decide +kernel
theorem dX3_reasonAgainst_77 : decode cX3_reasonAgainst 77 = .ok (.ireturn, 1) := by decide +kernel
theorem dX3_reasonAgainst_78 : decode cX3_reasonAgainst 78 = .ok (.aload_n 0, 1) := by decide +kernel
theorem dX3_reasonAgainst_79 : decode cX3_reasonAgainst 79 = .ok (.iload_n 1, 1) := by decide +kernel
theorem dX3_reasonAgainst_80 : decode cX3_reasonAgainst 80 = .ok (.iload_n 2, 1) := by decide +kernel
theorem dX3_reasonAgainst_81 : decode cX3_reasonAgainst 81 = .ok (.iload_n 3, 1) := by decide +kernel
theorem dX3_reasonAgainst_82 : decode cX3_reasonAgainst 82 = .ok (.invokevirtual 128, 3) := by decide +kernel
theorem dX3_reasonAgainst_85 : decode cX3_reasonAgainst 85 = .ok (.ifCond .eq 8, 3) := by decide +kernel
theorem dX3_reasonAgainst_88 : decode cX3_reasonAgainst 88 = .ok (.bipush 6, 2) := by decide +kernel
theorem dX3_reasonAgainst_90 : decode cX3_reasonAgainst 90 = .ok (.goto 4, 3) := by decide +kernel
theorem dX3_reasonAgainst_93 : decode cX3_reasonAgainst 93 = .ok (.iconst 0, 1) := by decide +kernel
theorem dX3_reasonAgainst_94 : decode cX3_reasonAgainst 94 = .ok (.ireturn, 1) := by decide +kernel
theorem dX3_movesOf_0 : decode cX3_movesOf 0 = .ok (.iconst 0, 1) := by decide +kernel
theorem dX3_movesOf_1 : decode cX3_movesOf 1 = .ok (.istore_n 2, 1) := by decide +kernel
theorem dX3_movesOf_2 : decode cX3_movesOf 2 = .ok (.iconst 0, 1) := by decide +kernel
theorem dX3_movesOf_3 : decode cX3_movesOf 3 = .ok (.istore_n 3, 1) := by decide +kernel
theorem dX3_movesOf_4 : decode cX3_movesOf 4 = .ok (.iload_n 3, 1) := by decide +kernel
theorem dX3_movesOf_5 : decode cX3_movesOf 5 = .ok (.iconst 4, 1) := by decide +kernel
theorem dX3_movesOf_6 : decode cX3_movesOf 6 = .ok (.if_icmp .ge 39, 3) := by decide +kernel
theorem dX3_movesOf_9 : decode cX3_movesOf 9 = .ok (.iconst 1, 1) := by decide +kernel
theorem dX3_movesOf_10 : decode cX3_movesOf 10 = .ok (.istore 4, 2) := by decide +kernel
theorem dX3_movesOf_12 : decode cX3_movesOf 12 = .ok (.iload 4, 2) := by decide +kernel
theorem dX3_movesOf_14 : decode cX3_movesOf 14 = .ok (.iconst 3, 1) := by decide +kernel
theorem dX3_movesOf_15 : decode cX3_movesOf 15 = .ok (.if_icmp .gt 24, 3) := by decide +kernel
theorem dX3_movesOf_18 : decode cX3_movesOf 18 = .ok (.aload_n 0, 1) := by decide +kernel
theorem dX3_movesOf_19 : decode cX3_movesOf 19 = .ok (.iload_n 1, 1) := by decide +kernel
theorem dX3_movesOf_20 : decode cX3_movesOf 20 = .ok (.iload_n 3, 1) := by decide +kernel
theorem dX3_movesOf_21 : decode cX3_movesOf 21 = .ok (.iload 4, 2) := by decide +kernel
theorem dX3_movesOf_23 : decode cX3_movesOf 23 = .ok (.iconst 1, 1) := by decide +kernel
theorem dX3_movesOf_24 : decode cX3_movesOf 24 = .ok (.invokevirtual 88, 3) := by decide +kernel
theorem dX3_movesOf_27 : decode cX3_movesOf 27 = .ok (.ifCond .ne 6, 3) := by decide +kernel
theorem dX3_movesOf_30 : decode cX3_movesOf 30 = .ok (.iinc 2 1, 3) := by decide +kernel
theorem dX3_movesOf_33 : decode cX3_movesOf 33 = .ok (.iinc 4 1, 3) := by decide +kernel
theorem dX3_movesOf_36 : decode cX3_movesOf 36 = .ok (.goto (-24), 3) := by decide +kernel
theorem dX3_movesOf_39 : decode cX3_movesOf 39 = .ok (.iinc 3 1, 3) := by decide +kernel
theorem dX3_movesOf_42 : decode cX3_movesOf 42 = .ok (.goto (-38), 3) := by decide +kernel
theorem dX3_movesOf_45 : decode cX3_movesOf 45 = .ok (.iload_n 2, 1) := by decide +kernel
theorem dX3_movesOf_46 : decode cX3_movesOf 46 = .ok (.ireturn, 1) := by decide +kernel
theorem dX3_isWayOpen_0 : decode cX3_isWayOpen 0 = .ok (.aload_n 0, 1) := by decide +kernel
theorem dX3_isWayOpen_1 : decode cX3_isWayOpen 1 = .ok (.getfield 9, 3) := by decide +kernel
theorem dX3_isWayOpen_4 : decode cX3_isWayOpen 4 = .ok (.getfield 59, 3) := by decide +kernel
theorem dX3_isWayOpen_7 : decode cX3_isWayOpen 7 = .ok (.iload_n 1, 1) := by decide +kernel
theorem dX3_isWayOpen_8 : decode cX3_isWayOpen 8 = .ok (.invokestatic 32, 3) := by decide +kernel
theorem dX3_isWayOpen_11 : decode cX3_isWayOpen 11 = .ok (.istore 4, 2) := by decide +kernel
theorem dX3_isWayOpen_13 : decode cX3_isWayOpen 13 = .ok (.aload_n 0, 1) := by decide +kernel
theorem dX3_isWayOpen_14 : decode cX3_isWayOpen 14 = .ok (.getfield 9, 3) := by decide +kernel
theorem dX3_isWayOpen_17 : decode cX3_isWayOpen 17 = .ok (.getfield 56, 3) := by decide +kernel
theorem dX3_isWayOpen_20 : decode cX3_isWayOpen 20 = .ok (.iload_n 1, 1) := by decide +kernel
theorem dX3_isWayOpen_21 : decode cX3_isWayOpen 21 = .ok (.invokestatic 32, 3) := by decide +kernel
theorem dX3_isWayOpen_24 : decode cX3_isWayOpen 24 = .ok (.invokestatic 98, 3) := by decide +kernel
theorem dX3_isWayOpen_27 : decode cX3_isWayOpen 27 = .ok (.istore 5, 2) := by decide +kernel
theorem dX3_isWayOpen_29 : decode cX3_isWayOpen 29 = .ok (.aload_n 0, 1) := by decide +kernel
theorem dX3_isWayOpen_30 : decode cX3_isWayOpen 30 = .ok (.getfield 9, 3) := by decide +kernel
theorem dX3_isWayOpen_33 : decode cX3_isWayOpen 33 = .ok (.getfield 65, 3) := by decide +kernel
theorem dX3_isWayOpen_36 : decode cX3_isWayOpen 36 = .ok (.iload_n 1, 1) := by decide +kernel
theorem dX3_isWayOpen_37 : decode cX3_isWayOpen 37 = .ok (.invokestatic 32, 3) := by decide +kernel
theorem dX3_isWayOpen_40 : decode cX3_isWayOpen 40 = .ok (.istore 6, 2) := by decide +kernel
theorem dX3_isWayOpen_42 : decode cX3_isWayOpen 42 = .ok (.iconst 1, 1) := by decide +kernel
theorem dX3_isWayOpen_43 : decode cX3_isWayOpen 43 = .ok (.istore 7, 2) := by decide +kernel
theorem dX3_isWayOpen_45 : decode cX3_isWayOpen 45 = .ok (.iload 7, 2) := by decide +kernel
theorem dX3_isWayOpen_47 : decode cX3_isWayOpen 47 = .ok (.iload_n 3, 1) := by decide +kernel
theorem dX3_isWayOpen_48 : decode cX3_isWayOpen 48 = .ok (.if_icmp .gt 93, 3) := by decide +kernel
theorem dX3_isWayOpen_51 : decode cX3_isWayOpen 51 = .ok (.iload 7, 2) := by decide +kernel
theorem dX3_isWayOpen_53 : decode cX3_isWayOpen 53 = .ok (.iconst 3, 1) := by decide +kernel
theorem dX3_isWayOpen_54 : decode cX3_isWayOpen 54 = .ok (.if_icmp .gt 87, 3) := by decide +kernel
theorem dX3_isWayOpen_57 : decode cX3_isWayOpen 57 = .ok (.iload 6, 2) := by decide +kernel
theorem dX3_isWayOpen_59 : decode cX3_isWayOpen 59 = .ok (.iload_n 2, 1) := by decide +kernel
theorem dX3_isWayOpen_60 : decode cX3_isWayOpen 60 = .ok (.invokestatic 131, 3) := by decide +kernel
theorem dX3_isWayOpen_63 : decode cX3_isWayOpen 63 = .ok (.istore 6, 2) := by decide +kernel
theorem dX3_isWayOpen_65 : decode cX3_isWayOpen 65 = .ok (.iload 6, 2) := by decide +kernel
theorem dX3_isWayOpen_67 : decode cX3_isWayOpen 67 = .ok (.iload 5, 2) := by decide +kernel
theorem dX3_isWayOpen_69 : decode cX3_isWayOpen 69 = .ok (.if_icmp .ne 17, 3) := by decide +kernel
theorem dX3_isWayOpen_72 : decode cX3_isWayOpen 72 = .ok (.iload 7, 2) := by decide +kernel
theorem dX3_isWayOpen_74 : decode cX3_isWayOpen 74 = .ok (.iload_n 3, 1) := by decide +kernel
theorem dX3_isWayOpen_75 : decode cX3_isWayOpen 75 = .ok (.if_icmp .ne 7, 3) := by decide +kernel
theorem dX3_isWayOpen_78 : decode cX3_isWayOpen 78 = .ok (.iconst 1, 1) := by decide +kernel
theorem dX3_isWayOpen_79 : decode cX3_isWayOpen 79 = .ok (.goto 20, 3) := by decide +kernel
theorem dX3_isWayOpen_82 : decode cX3_isWayOpen 82 = .ok (.iconst 0, 1) := by decide +kernel
theorem dX3_isWayOpen_83 : decode cX3_isWayOpen 83 = .ok (.goto 16, 3) := by decide +kernel
theorem dX3_isWayOpen_86 : decode cX3_isWayOpen 86 = .ok (.iload 6, 2) := by decide +kernel
theorem dX3_isWayOpen_88 : decode cX3_isWayOpen 88 = .ok (.invokestatic 19, 3) := by decide +kernel
theorem dX3_isWayOpen_91 : decode cX3_isWayOpen 91 = .ok (.ifCond .ne 7, 3) := by decide +kernel
theorem dX3_isWayOpen_94 : decode cX3_isWayOpen 94 = .ok (.iconst 1, 1) := by decide +kernel
theorem dX3_isWayOpen_95 : decode cX3_isWayOpen 95 = .ok (.goto 4, 3) := by decide +kernel
theorem dX3_isWayOpen_98 : decode cX3_isWayOpen 98 = .ok (.iconst 0, 1) := by decide +kernel
theorem dX3_isWayOpen_99 : decode cX3_isWayOpen 99 = .ok (.istore 8, 2) := by decide +kernel
theorem dX3_isWayOpen_101 : decode cX3_isWayOpen 101 = .ok (.iload 6, 2) := by decide +kernel
theorem dX3_isWayOpen_103 : decode cX3_isWayOpen 103 = .ok (.iconst (-1), 1) := by decide +kernel
theorem dX3_isWayOpen_104 : decode cX3_isWayOpen 104 = .ok (.if_icmp .eq 29, 3) := by decide +kernel
theorem dX3_isWayOpen_107 : decode cX3_isWayOpen 107 = .ok (.iload 8, 2) := by decide +kernel
theorem dX3_isWayOpen_109 : decode cX3_isWayOpen 109 = .ok (.ifCond .eq 24, 3) := by decide +kernel
theorem dX3_isWayOpen_112 : decode cX3_isWayOpen 112 = .ok (.aload_n 0, 1) := by decide +kernel
theorem dX3_isWayOpen_113 : decode cX3_isWayOpen 113 = .ok (.getfield 9, 3) := by decide +kernel
theorem dX3_isWayOpen_116 : decode cX3_isWayOpen 116 = .ok (.iload 6, 2) := by decide +kernel
theorem dX3_isWayOpen_118 : decode cX3_isWayOpen 118 = .ok (.iload 4, 2) := by decide +kernel
theorem dX3_isWayOpen_120 : decode cX3_isWayOpen 120 = .ok (.aload_n 0, 1) := by decide +kernel
theorem dX3_isWayOpen_121 : decode cX3_isWayOpen 121 = .ok (.getfield 9, 3) := by decide +kernel
theorem dX3_isWayOpen_124 : decode cX3_isWayOpen 124 = .ok (.getfield 22, 3) := by decide +kernel
theorem dX3_isWayOpen_127 : decode cX3_isWayOpen 127 = .ok (.invokevirtual 135, 3) := by decide +kernel
theorem dX3_isWayOpen_130 : decode cX3_isWayOpen 130 = .ok (.ifCond .ne 5, 3) := by decide +kernel
theorem dX3_isWayOpen_133 : decode cX3_isWayOpen 133 = .ok (.iconst 0, 1) := by decide +kernel
theorem dX3_isWayOpen_134 : decode cX3_isWayOpen 134 = .ok (.ireturn, 1) := by decide +kernel
theorem dX3_isWayOpen_135 : decode cX3_isWayOpen 135 = .ok (.iinc 7 1, 3) := by decide +kernel
theorem dX3_isWayOpen_138 : decode cX3_isWayOpen 138 = .ok (.goto (-93), 3) := by decide +kernel
theorem dX3_isWayOpen_141 : decode cX3_isWayOpen 141 = .ok (.iconst 1, 1) := by decide +kernel
theorem dX3_isWayOpen_142 : decode cX3_isWayOpen 142 = .ok (.ireturn, 1) := by decide +kernel
theorem dX3_isBoatInWay_0 : decode cX3_isBoatInWay 0 = .ok (.aload_n 0, 1) := by decide +kernel
theorem dX3_isBoatInWay_1 : decode cX3_isBoatInWay 1 = .ok (.getfield 9, 3) := by decide +kernel
theorem dX3_isBoatInWay_4 : decode cX3_isBoatInWay 4 = .ok (.getfield 65, 3) := by decide +kernel
theorem dX3_isBoatInWay_7 : decode cX3_isBoatInWay 7 = .ok (.iload_n 1, 1) := by decide +kernel
theorem dX3_isBoatInWay_8 : decode cX3_isBoatInWay 8 = .ok (.invokestatic 32, 3) := by decide +kernel
theorem dX3_isBoatInWay_11 : decode cX3_isBoatInWay 11 = .ok (.istore 4, 2) := by decide +kernel
theorem dX3_isBoatInWay_13 : decode cX3_isBoatInWay 13 = .ok (.iconst 1, 1) := by decide +kernel
theorem dX3_isBoatInWay_14 : decode cX3_isBoatInWay 14 = .ok (.istore 5, 2) := by decide +kernel
theorem dX3_isBoatInWay_16 : decode cX3_isBoatInWay 16 = .ok (.iload 5, 2) := by decide +kernel
theorem dX3_isBoatInWay_18 : decode cX3_isBoatInWay 18 = .ok (.iload_n 3, 1) := by decide +kernel
theorem dX3_isBoatInWay_19 : decode cX3_isBoatInWay 19 = .ok (.if_icmp .gt 118, 3) := by decide +kernel
theorem dX3_isBoatInWay_22 : decode cX3_isBoatInWay 22 = .ok (.iload 5, 2) := by decide +kernel
theorem dX3_isBoatInWay_24 : decode cX3_isBoatInWay 24 = .ok (.iconst 3, 1) := by decide +kernel
theorem dX3_isBoatInWay_25 : decode cX3_isBoatInWay 25 = .ok (.if_icmp .gt 112, 3) := by decide +kernel
theorem dX3_isBoatInWay_28 : decode cX3_isBoatInWay 28 = .ok (.iload 4, 2) := by decide +kernel
theorem dX3_isBoatInWay_30 : decode cX3_isBoatInWay 30 = .ok (.iload_n 2, 1) := by decide +kernel
theorem dX3_isBoatInWay_31 : decode cX3_isBoatInWay 31 = .ok (.invokestatic 131, 3) := by decide +kernel
theorem dX3_isBoatInWay_34 : decode cX3_isBoatInWay 34 = .ok (.istore 4, 2) := by decide +kernel
theorem dX3_isBoatInWay_36 : decode cX3_isBoatInWay 36 = .ok (.aload_n 0, 1) := by decide +kernel
theorem dX3_isBoatInWay_37 : decode cX3_isBoatInWay 37 = .ok (.getfield 9, 3) := by decide +kernel
theorem dX3_isBoatInWay_40 : decode cX3_isBoatInWay 40 = .ok (.iload 4, 2) := by decide +kernel
theorem dX3_isBoatInWay_42 : decode cX3_isBoatInWay 42 = .ok (.invokevirtual 49, 3) := by decide +kernel
theorem dX3_isBoatInWay_45 : decode cX3_isBoatInWay 45 = .ok (.istore 6, 2) := by decide +kernel
theorem dX3_isBoatInWay_47 : decode cX3_isBoatInWay 47 = .ok (.iload 5, 2) := by decide +kernel
theorem dX3_isBoatInWay_49 : decode cX3_isBoatInWay 49 = .ok (.iload_n 3, 1) := by decide +kernel
theorem dX3_isBoatInWay_50 : decode cX3_isBoatInWay 50 = .ok (.if_icmp .ne 64, 3) := by decide +kernel
theorem dX3_isBoatInWay_53 : decode cX3_isBoatInWay 53 = .ok (.aload_n 0, 1) := by decide +kernel
theorem dX3_isBoatInWay_54 : decode cX3_isBoatInWay 54 = .ok (.getfield 9, 3) := by decide +kernel
theorem dX3_isBoatInWay_57 : decode cX3_isBoatInWay 57 = .ok (.getfield 56, 3) := by decide +kernel
theorem dX3_isBoatInWay_60 : decode cX3_isBoatInWay 60 = .ok (.iload 6, 2) := by decide +kernel
theorem dX3_isBoatInWay_62 : decode cX3_isBoatInWay 62 = .ok (.invokestatic 32, 3) := by decide +kernel
theorem dX3_isBoatInWay_65 : decode cX3_isBoatInWay 65 = .ok (.aload_n 0, 1) := by decide +kernel
theorem dX3_isBoatInWay_66 : decode cX3_isBoatInWay 66 = .ok (.getfield 9, 3) := by decide +kernel
theorem dX3_isBoatInWay_69 : decode cX3_isBoatInWay 69 = .ok (.getfield 56, 3) := by decide +kernel
theorem dX3_isBoatInWay_72 : decode cX3_isBoatInWay 72 = .ok (.iload_n 1, 1) := by decide +kernel
theorem dX3_isBoatInWay_73 : decode cX3_isBoatInWay 73 = .ok (.invokestatic 32, 3) := by decide +kernel
theorem dX3_isBoatInWay_76 : decode cX3_isBoatInWay 76 = .ok (.if_icmp .eq 38, 3) := by decide +kernel
theorem dX3_isBoatInWay_79 : decode cX3_isBoatInWay 79 = .ok (.aload_n 0, 1) := by decide +kernel
theorem dX3_isBoatInWay_80 : decode cX3_isBoatInWay 80 = .ok (.getfield 9, 3) := by decide +kernel
theorem dX3_isBoatInWay_83 : decode cX3_isBoatInWay 83 = .ok (.iload 4, 2) := by decide +kernel
theorem dX3_isBoatInWay_85 : decode cX3_isBoatInWay 85 = .ok (.aload_n 0, 1) := by decide +kernel
theorem dX3_isBoatInWay_86 : decode cX3_isBoatInWay 86 = .ok (.getfield 9, 3) := by decide +kernel
theorem dX3_isBoatInWay_89 : decode cX3_isBoatInWay 89 = .ok (.getfield 59, 3) := by decide +kernel
theorem dX3_isBoatInWay_92 : decode cX3_isBoatInWay 92 = .ok (.iload 6, 2) := by decide +kernel
theorem dX3_isBoatInWay_94 : decode cX3_isBoatInWay 94 = .ok (.invokestatic 32, 3) := by decide +kernel
theorem dX3_isBoatInWay_97 : decode cX3_isBoatInWay 97 = .ok (.aload_n 0, 1) := by decide +kernel
theorem dX3_isBoatInWay_98 : decode cX3_isBoatInWay 98 = .ok (.getfield 9, 3) := by decide +kernel
theorem dX3_isBoatInWay_101 : decode cX3_isBoatInWay 101 = .ok (.getfield 22, 3) := by decide +kernel
theorem dX3_isBoatInWay_104 : decode cX3_isBoatInWay 104 = .ok (.invokevirtual 135, 3) := by decide +kernel
theorem dX3_isBoatInWay_107 : decode cX3_isBoatInWay 107 = .ok (.ifCond .ne 7, 3) := by decide +kernel
theorem dX3_isBoatInWay_110 : decode cX3_isBoatInWay 110 = .ok (.iconst 1, 1) := by decide +kernel
theorem dX3_isBoatInWay_111 : decode cX3_isBoatInWay 111 = .ok (.goto 4, 3) := by decide +kernel
theorem dX3_isBoatInWay_114 : decode cX3_isBoatInWay 114 = .ok (.iconst 0, 1) := by decide +kernel
theorem dX3_isBoatInWay_115 : decode cX3_isBoatInWay 115 = .ok (.istore 7, 2) := by decide +kernel
theorem dX3_isBoatInWay_117 : decode cX3_isBoatInWay 117 = .ok (.iload 6, 2) := by decide +kernel
theorem dX3_isBoatInWay_119 : decode cX3_isBoatInWay 119 = .ok (.bipush (-5), 2) := by decide +kernel
theorem dX3_isBoatInWay_121 : decode cX3_isBoatInWay 121 = .ok (.if_icmp .eq 10, 3) := by decide +kernel
theorem dX3_isBoatInWay_124 : decode cX3_isBoatInWay 124 = .ok (.iload 7, 2) := by decide +kernel
theorem dX3_isBoatInWay_126 : decode cX3_isBoatInWay 126 = .ok (.ifCond .ne 5, 3) := by decide +kernel
theorem dX3_isBoatInWay_129 : decode cX3_isBoatInWay 129 = .ok (.iconst 1, 1) := by decide +kernel
theorem dX3_isBoatInWay_130 : decode cX3_isBoatInWay 130 = .ok (.ireturn, 1) := by decide +kernel
theorem dX3_isBoatInWay_131 : decode cX3_isBoatInWay 131 = .ok (.iinc 5 1, 3) := by decide +kernel
theorem dX3_isBoatInWay_134 : decode cX3_isBoatInWay 134 = .ok (.goto (-118), 3) := by decide +kernel
theorem dX3_isBoatInWay_137 : decode cX3_isBoatInWay 137 = .ok (.iconst 0, 1) := by decide +kernel
theorem dX3_isBoatInWay_138 : decode cX3_isBoatInWay 138 = .ok (.ireturn, 1) := by decide +kernel
theorem dX3_ram_0 : decode cX3_ram 0 = .ok (.iload_n 1, 1) := by decide +kernel
theorem dX3_ram_1 : decode cX3_ram 1 = .ok (.bipush (-5), 2) := by decide +kernel
theorem dX3_ram_3 : decode cX3_ram 3 = .ok (.if_icmp .ne 5, 3) := by decide +kernel
theorem dX3_ram_6 : decode cX3_ram 6 = .ok (.iconst 0, 1) := by decide +kernel
theorem dX3_ram_7 : decode cX3_ram 7 = .ok (.ireturn, 1) := by decide +kernel
theorem dX3_ram_8 : decode cX3_ram 8 = .ok (.aload_n 0, 1) := by decide +kernel
theorem dX3_ram_9 : decode cX3_ram 9 = .ok (.getfield 9, 3) := by decide +kernel
theorem dX3_ram_12 : decode cX3_ram 12 = .ok (.getfield 62, 3) := by decide +kernel
theorem dX3_ram_15 : decode cX3_ram 15 = .ok (.iload_n 1, 1) := by decide +kernel
theorem dX3_ram_16 : decode cX3_ram 16 = .ok (.iconst 2, 1) := by decide +kernel
theorem dX3_ram_17 : decode cX3_ram 17 = .ok (.invokestatic 39, 3) := by decide +kernel
theorem dX3_ram_20 : decode cX3_ram 20 = .ok (.aload_n 0, 1) := by decide +kernel
theorem dX3_ram_21 : decode cX3_ram 21 = .ok (.getfield 9, 3) := by decide +kernel
theorem dX3_ram_24 : decode cX3_ram 24 = .ok (.dup, 1) := by decide +kernel
theorem dX3_ram_25 : decode cX3_ram 25 = .ok (.getfield 138, 3) := by decide +kernel
theorem dX3_ram_28 : decode cX3_ram 28 = .ok (.iconst 1, 1) := by decide +kernel
theorem dX3_ram_29 : decode cX3_ram 29 = .ok (.iadd, 1) := by decide +kernel
theorem dX3_ram_30 : decode cX3_ram 30 = .ok (.putfield 138, 3) := by decide +kernel
theorem dX3_ram_33 : decode cX3_ram 33 = .ok (.aload_n 0, 1) := by decide +kernel
theorem dX3_ram_34 : decode cX3_ram 34 = .ok (.getfield 9, 3) := by decide +kernel
theorem dX3_ram_37 : decode cX3_ram 37 = .ok (.getfield 59, 3) := by decide +kernel
theorem dX3_ram_40 : decode cX3_ram 40 = .ok (.iload_n 1, 1) := by decide +kernel
theorem dX3_ram_41 : decode cX3_ram 41 = .ok (.invokestatic 32, 3) := by decide +kernel
theorem dX3_ram_44 : decode cX3_ram 44 = .ok (.ireturn, 1) := by decide +kernel
theorem dX3_endTurn_0 : decode cX3_endTurn 0 = .ok (.iconst 0, 1) := by decide +kernel
theorem dX3_endTurn_1 : decode cX3_endTurn 1 = .ok (.istore_n 1, 1) := by decide +kernel
theorem dX3_endTurn_2 : decode cX3_endTurn 2 = .ok (.iload_n 1, 1) := by decide +kernel
theorem dX3_endTurn_3 : decode cX3_endTurn 3 = .ok (.aload_n 0, 1) := by decide +kernel
theorem dX3_endTurn_4 : decode cX3_endTurn 4 = .ok (.getfield 9, 3) := by decide +kernel
theorem dX3_endTurn_7 : decode cX3_endTurn 7 = .ok (.getfield 53, 3) := by decide +kernel
theorem dX3_endTurn_10 : decode cX3_endTurn 10 = .ok (.if_icmp .ge 32, 3) := by decide +kernel
theorem dX3_endTurn_13 : decode cX3_endTurn 13 = .ok (.aload_n 0, 1) := by decide +kernel
theorem dX3_endTurn_14 : decode cX3_endTurn 14 = .ok (.getfield 9, 3) := by decide +kernel
theorem dX3_endTurn_17 : decode cX3_endTurn 17 = .ok (.iload_n 1, 1) := by decide +kernel
theorem dX3_endTurn_18 : decode cX3_endTurn 18 = .ok (.invokevirtual 141, 3) := by decide +kernel
theorem dX3_endTurn_21 : decode cX3_endTurn 21 = .ok (.ifCond .eq 15, 3) := by decide +kernel
theorem dX3_endTurn_24 : decode cX3_endTurn 24 = .ok (.aload_n 0, 1) := by decide +kernel
theorem dX3_endTurn_25 : decode cX3_endTurn 25 = .ok (.getfield 9, 3) := by decide +kernel
theorem dX3_endTurn_28 : decode cX3_endTurn 28 = .ok (.getfield 62, 3) := by decide +kernel
theorem dX3_endTurn_31 : decode cX3_endTurn 31 = .ok (.iload_n 1, 1) := by decide +kernel
theorem dX3_endTurn_32 : decode cX3_endTurn 32 = .ok (.iconst 2, 1) := by decide +kernel
theorem dX3_endTurn_33 : decode cX3_endTurn 33 = .ok (.invokestatic 39, 3) := by decide +kernel
theorem dX3_endTurn_36 : decode cX3_endTurn 36 = .ok (.iinc 1 1, 3) := by decide +kernel
theorem dX3_endTurn_39 : decode cX3_endTurn 39 = .ok (.goto (-37), 3) := by decide +kernel
theorem dX3_endTurn_42 : decode cX3_endTurn 42 = .ok (.aload_n 0, 1) := by decide +kernel
theorem dX3_endTurn_43 : decode cX3_endTurn 43 = .ok (.getfield 9, 3) := by decide +kernel
theorem dX3_endTurn_46 : decode cX3_endTurn 46 = .ok (.dup, 1) := by decide +kernel
theorem dX3_endTurn_47 : decode cX3_endTurn 47 = .ok (.getfield 22, 3) := by decide +kernel
theorem dX3_endTurn_50 : decode cX3_endTurn 50 = .ok (.iconst 1, 1) := by decide +kernel
theorem dX3_endTurn_51 : decode cX3_endTurn 51 = .ok (.iadd, 1) := by decide +kernel
theorem dX3_endTurn_52 : decode cX3_endTurn 52 = .ok (.putfield 22, 3) := by decide +kernel
theorem dX3_endTurn_55 : decode cX3_endTurn 55 = .ok (.return_, 1) := by decide +kernel
theorem dX4_init_0 : decode cX4_init 0 = .ok (.aload_n 0, 1) := by decide +kernel
theorem dX4_init_1 : decode cX4_init 1 = .ok (.invokespecial 3, 3) := by decide +kernel
theorem dX4_init_4 : decode cX4_init 4 = .ok (.aload_n 0, 1) := by decide +kernel
theorem dX4_init_5 : decode cX4_init 5 = .ok (.bipush 36, 2) := by decide +kernel
theorem dX4_init_7 : decode cX4_init 7 = .ok (.newarray .int, 2) := by decide +kernel
theorem dX4_init_9 : decode cX4_init 9 = .ok (.putfield 9, 3) := by decide +kernel
theorem dX4_init_12 : decode cX4_init 12 = .ok (.aload_n 0, 1) := by decide +kernel
theorem dX4_init_13 : decode cX4_init 13 = .ok (.bipush 36, 2) := by decide +kernel
theorem dX4_init_15 : decode cX4_init 15 = .ok (.newarray .int, 2) := by decide +kernel
theorem dX4_init_17 : decode cX4_init 17 = .ok (.putfield 15, 3) := by decide +kernel
theorem dX4_init_20 : decode cX4_init 20 = .ok (.aload_n 0, 1) := by decide +kernel
theorem dX4_init_21 : decode cX4_init 21 = .ok (.bipush 10, 2) := by decide +kernel
theorem dX4_init_23 : decode cX4_init 23 = .ok (.newarray .int, 2) := by decide +kernel
theorem dX4_init_25 : decode cX4_init 25 = .ok (.putfield 18, 3) := by decide +kernel
theorem dX4_init_28 : decode cX4_init 28 = .ok (.aload_n 0, 1) := by decide +kernel
theorem dX4_init_29 : decode cX4_init 29 = .ok (.bipush 10, 2) := by decide +kernel
theorem dX4_init_31 : decode cX4_init 31 = .ok (.newarray .int, 2) := by decide +kernel
theorem dX4_init_33 : decode cX4_init 33 = .ok (.putfield 21, 3) := by decide +kernel
theorem dX4_init_36 : decode cX4_init 36 = .ok (.aload_n 0, 1) := by decide +kernel
theorem dX4_init_37 : decode cX4_init 37 = .ok (.bipush 10, 2) := by decide +kernel
theorem dX4_init_39 : decode cX4_init 39 = .ok (.newarray .int, 2) := by decide +kernel
theorem dX4_init_41 : decode cX4_init 41 = .ok (.putfield 24, 3) := by decide +kernel
theorem dX4_init_44 : decode cX4_init 44 = .ok (.aload_n 0, 1) := by decide +kernel
theorem dX4_init_45 : decode cX4_init 45 = .ok (.bipush 10, 2) := by decide +kernel
theorem dX4_init_47 : decode cX4_init 47 = .ok (.newarray .int, 2) := by decide +kernel
theorem dX4_init_49 : decode cX4_init 49 = .ok (.putfield 27, 3) := by decide +kernel
theorem dX4_init_52 : decode cX4_init 52 = .ok (.aload_n 0, 1) := by decide +kernel
theorem dX4_init_53 : decode cX4_init 53 = .ok (.bipush 10, 2) := by decide +kernel
theorem dX4_init_55 : decode cX4_init 55 = .ok (.newarray .int, 2) := by decide +kernel
theorem dX4_init_57 : decode cX4_init 57 = .ok (.putfield 30, 3) := by decide +kernel
theorem dX4_init_60 : decode cX4_init 60 = .ok (.aload_n 0, 1) := by decide +kernel
theorem dX4_init_61 : decode cX4_init 61 = .ok (.iconst 1, 1) := by decide +kernel
theorem dX4_init_62 : decode cX4_init 62 = .ok (.putfield 33, 3) := by decide +kernel
theorem dX4_init_65 : decode cX4_init 65 = .ok (.aload_n 0, 1) := by decide +kernel
theorem dX4_init_66 : decode cX4_init 66 = .ok (.iconst 3, 1) := by decide +kernel
theorem dX4_init_67 : decode cX4_init 67 = .ok (.putfield 37, 3) := by decide +kernel
theorem dX4_init_70 : decode cX4_init 70 = .ok (.aload_n 0, 1) := by decide +kernel
theorem dX4_init_71 : decode cX4_init 71 = .ok (.iconst 1, 1) := by decide +kernel
theorem dX4_init_72 : decode cX4_init 72 = .ok (.putfield 40, 3) := by decide +kernel
theorem dX4_init_75 : decode cX4_init 75 = .ok (.aload_n 0, 1) := by decide +kernel
theorem dX4_init_76 : decode cX4_init 76 = .ok (.bipush 60, 2) := by decide +kernel
theorem dX4_init_78 : decode cX4_init 78 = .ok (.putfield 43, 3) := by decide +kernel
theorem dX4_init_81 : decode cX4_init 81 = .ok (.iconst 0, 1) := by decide +kernel
theorem dX4_init_82 : decode cX4_init 82 = .ok (.istore_n 1, 1) := by decide +kernel
theorem dX4_init_83 : decode cX4_init 83 = .ok (.iload_n 1, 1) := by decide +kernel
theorem dX4_init_84 : decode cX4_init 84 = .ok (.bipush 36, 2) := by decide +kernel
theorem dX4_init_86 : decode cX4_init 86 = .ok (.if_icmp .ge 29, 3) := by decide +kernel
theorem dX4_init_89 : decode cX4_init 89 = .ok (.aload_n 0, 1) := by decide +kernel
theorem dX4_init_90 : decode cX4_init 90 = .ok (.getfield 9, 3) := by decide +kernel
theorem dX4_init_93 : decode cX4_init 93 = .ok (.iload_n 1, 1) := by decide +kernel
theorem dX4_init_94 : decode cX4_init 94 = .ok (.iload_n 1, 1) := by decide +kernel
theorem dX4_init_95 : decode cX4_init 95 = .ok (.invokestatic 46, 3) := by decide +kernel
theorem dX4_init_98 : decode cX4_init 98 = .ok (.ifCond .eq 7, 3) := by decide +kernel
theorem dX4_init_101 : decode cX4_init 101 = .ok (.iconst 0, 1) := by decide +kernel
theorem dX4_init_102 : decode cX4_init 102 = .ok (.goto 4, 3) := by decide +kernel
theorem dX4_init_105 : decode cX4_init 105 = .ok (.iconst 1, 1) := by decide +kernel
theorem dX4_init_106 : decode cX4_init 106 = .ok (.invokestatic 50, 3) := by decide +kernel
theorem dX4_init_109 : decode cX4_init 109 = .ok (.iinc 1 1, 3) := by decide +kernel
theorem dX4_init_112 : decode cX4_init 112 = .ok (.goto (-29), 3) := by decide +kernel
theorem dX4_init_115 : decode cX4_init 115 = .ok (.return_, 1) := by decide +kernel
theorem dX4_copyFrom_0 : decode cX4_copyFrom 0 = .ok (.aload_n 1, 1) := by decide +kernel
theorem dX4_copyFrom_1 : decode cX4_copyFrom 1 = .ok (.getfield 9, 3) := by decide +kernel
theorem dX4_copyFrom_4 : decode cX4_copyFrom 4 = .ok (.aload_n 0, 1) := by decide +kernel
theorem dX4_copyFrom_5 : decode cX4_copyFrom 5 = .ok (.getfield 9, 3) := by decide +kernel
theorem dX4_copyFrom_8 : decode cX4_copyFrom 8 = .ok (.invokestatic 54, 3) := by decide +kernel
theorem dX4_copyFrom_11 : decode cX4_copyFrom 11 = .ok (.aload_n 1, 1) := by decide +kernel
theorem dX4_copyFrom_12 : decode cX4_copyFrom 12 = .ok (.getfield 15, 3) := by decide +kernel
theorem dX4_copyFrom_15 : decode cX4_copyFrom 15 = .ok (.aload_n 0, 1) := by decide +kernel
theorem dX4_copyFrom_16 : decode cX4_copyFrom 16 = .ok (.getfield 15, 3) := by decide +kernel
theorem dX4_copyFrom_19 : decode cX4_copyFrom 19 = .ok (.invokestatic 54, 3) := by decide +kernel
theorem dX4_copyFrom_22 : decode cX4_copyFrom 22 = .ok (.aload_n 1, 1) := by decide +kernel
theorem dX4_copyFrom_23 : decode cX4_copyFrom 23 = .ok (.getfield 18, 3) := by decide +kernel
theorem dX4_copyFrom_26 : decode cX4_copyFrom 26 = .ok (.aload_n 0, 1) := by decide +kernel
theorem dX4_copyFrom_27 : decode cX4_copyFrom 27 = .ok (.getfield 18, 3) := by decide +kernel
theorem dX4_copyFrom_30 : decode cX4_copyFrom 30 = .ok (.invokestatic 54, 3) := by decide +kernel
theorem dX4_copyFrom_33 : decode cX4_copyFrom 33 = .ok (.aload_n 1, 1) := by decide +kernel
theorem dX4_copyFrom_34 : decode cX4_copyFrom 34 = .ok (.getfield 21, 3) := by decide +kernel
theorem dX4_copyFrom_37 : decode cX4_copyFrom 37 = .ok (.aload_n 0, 1) := by decide +kernel
theorem dX4_copyFrom_38 : decode cX4_copyFrom 38 = .ok (.getfield 21, 3) := by decide +kernel
theorem dX4_copyFrom_41 : decode cX4_copyFrom 41 = .ok (.invokestatic 54, 3) := by decide +kernel
theorem dX4_copyFrom_44 : decode cX4_copyFrom 44 = .ok (.aload_n 1, 1) := by decide +kernel
theorem dX4_copyFrom_45 : decode cX4_copyFrom 45 = .ok (.getfield 24, 3) := by decide +kernel
theorem dX4_copyFrom_48 : decode cX4_copyFrom 48 = .ok (.aload_n 0, 1) := by decide +kernel
theorem dX4_copyFrom_49 : decode cX4_copyFrom 49 = .ok (.getfield 24, 3) := by decide +kernel
theorem dX4_copyFrom_52 : decode cX4_copyFrom 52 = .ok (.invokestatic 54, 3) := by decide +kernel
theorem dX4_copyFrom_55 : decode cX4_copyFrom 55 = .ok (.aload_n 1, 1) := by decide +kernel
theorem dX4_copyFrom_56 : decode cX4_copyFrom 56 = .ok (.getfield 27, 3) := by decide +kernel
theorem dX4_copyFrom_59 : decode cX4_copyFrom 59 = .ok (.aload_n 0, 1) := by decide +kernel
theorem dX4_copyFrom_60 : decode cX4_copyFrom 60 = .ok (.getfield 27, 3) := by decide +kernel
theorem dX4_copyFrom_63 : decode cX4_copyFrom 63 = .ok (.invokestatic 54, 3) := by decide +kernel
theorem dX4_copyFrom_66 : decode cX4_copyFrom 66 = .ok (.aload_n 1, 1) := by decide +kernel
theorem dX4_copyFrom_67 : decode cX4_copyFrom 67 = .ok (.getfield 30, 3) := by decide +kernel
theorem dX4_copyFrom_70 : decode cX4_copyFrom 70 = .ok (.aload_n 0, 1) := by decide +kernel
theorem dX4_copyFrom_71 : decode cX4_copyFrom 71 = .ok (.getfield 30, 3) := by decide +kernel
theorem dX4_copyFrom_74 : decode cX4_copyFrom 74 = .ok (.invokestatic 54, 3) := by decide +kernel
theorem dX4_copyFrom_77 : decode cX4_copyFrom 77 = .ok (.aload_n 0, 1) := by decide +kernel
theorem dX4_copyFrom_78 : decode cX4_copyFrom 78 = .ok (.aload_n 1, 1) := by decide +kernel
theorem dX4_copyFrom_79 : decode cX4_copyFrom 79 = .ok (.getfield 58, 3) := by decide +kernel
theorem dX4_copyFrom_82 : decode cX4_copyFrom 82 = .ok (.putfield 58, 3) := by decide +kernel
theorem dX4_copyFrom_85 : decode cX4_copyFrom 85 = .ok (.aload_n 0, 1) := by decide +kernel
theorem dX4_copyFrom_86 : decode cX4_copyFrom 86 = .ok (.aload_n 1, 1) := by decide +kernel
theorem dX4_copyFrom_87 : decode cX4_copyFrom 87 = .ok (.getfield 61, 3) := by decide +kernel
theorem dX4_copyFrom_90 : decode cX4_copyFrom 90 = .ok (.putfield 61, 3) := by decide +kernel
theorem dX4_copyFrom_93 : decode cX4_copyFrom 93 = .ok (.aload_n 0, 1) := by decide +kernel
theorem dX4_copyFrom_94 : decode cX4_copyFrom 94 = .ok (.aload_n 1, 1) := by decide +kernel
theorem dX4_copyFrom_95 : decode cX4_copyFrom 95 = .ok (.getfield 64, 3) := by decide +kernel
theorem dX4_copyFrom_98 : decode cX4_copyFrom 98 = .ok (.putfield 64, 3) := by decide +kernel
theorem dX4_copyFrom_101 : decode cX4_copyFrom 101 = .ok (.aload_n 0, 1) := by decide +kernel
theorem dX4_copyFrom_102 : decode cX4_copyFrom 102 = .ok (.aload_n 1, 1) := by decide +kernel
theorem dX4_copyFrom_103 : decode cX4_copyFrom 103 = .ok (.getfield 33, 3) := by decide +kernel
theorem dX4_copyFrom_106 : decode cX4_copyFrom 106 = .ok (.putfield 33, 3) := by decide +kernel
theorem dX4_copyFrom_109 : decode cX4_copyFrom 109 = .ok (.aload_n 0, 1) := by decide +kernel
theorem dX4_copyFrom_110 : decode cX4_copyFrom 110 = .ok (.aload_n 1, 1) := by decide +kernel
theorem dX4_copyFrom_111 : decode cX4_copyFrom 111 = .ok (.getfield 37, 3) := by decide +kernel
theorem dX4_copyFrom_114 : decode cX4_copyFrom 114 = .ok (.putfield 37, 3) := by decide +kernel
theorem dX4_copyFrom_117 : decode cX4_copyFrom 117 = .ok (.aload_n 0, 1) := by decide +kernel
theorem dX4_copyFrom_118 : decode cX4_copyFrom 118 = .ok (.aload_n 1, 1) := by decide +kernel
theorem dX4_copyFrom_119 : decode cX4_copyFrom 119 = .ok (.getfield 40, 3) := by decide +kernel
theorem dX4_copyFrom_122 : decode cX4_copyFrom 122 = .ok (.putfield 40, 3) := by decide +kernel
theorem dX4_copyFrom_125 : decode cX4_copyFrom 125 = .ok (.aload_n 0, 1) := by decide +kernel
theorem dX4_copyFrom_126 : decode cX4_copyFrom 126 = .ok (.aload_n 1, 1) := by decide +kernel
theorem dX4_copyFrom_127 : decode cX4_copyFrom 127 = .ok (.getfield 43, 3) := by decide +kernel
theorem dX4_copyFrom_130 : decode cX4_copyFrom 130 = .ok (.putfield 43, 3) := by decide +kernel
theorem dX4_copyFrom_133 : decode cX4_copyFrom 133 = .ok (.return_, 1) := by decide +kernel
theorem dX4_settingOf_0 : decode cX4_settingOf 0 = .ok (.iload_n 1, 1) := by decide +kernel
theorem dX4_settingOf_1 : decode cX4_settingOf 1 = .ok (.tableswitch 42 0 2 #[27, 32, 37], 27) := by decide +kernel
theorem dX4_settingOf_28 : decode cX4_settingOf 28 = .ok (.aload_n 0, 1) := by decide +kernel
theorem dX4_settingOf_29 : decode cX4_settingOf 29 = .ok (.getfield 33, 3) := by decide +kernel
theorem dX4_settingOf_32 : decode cX4_settingOf 32 = .ok (.ireturn, 1) := by decide +kernel
theorem dX4_settingOf_33 : decode cX4_settingOf 33 = .ok (.aload_n 0, 1) := by decide +kernel
theorem dX4_settingOf_34 : decode cX4_settingOf 34 = .ok (.getfield 37, 3) := by decide +kernel
theorem dX4_settingOf_37 : decode cX4_settingOf 37 = .ok (.ireturn, 1) := by decide +kernel
theorem dX4_settingOf_38 : decode cX4_settingOf 38 = .ok (.aload_n 0, 1) := by decide +kernel
theorem dX4_settingOf_39 : decode cX4_settingOf 39 = .ok (.getfield 40, 3) := by decide +kernel
theorem dX4_settingOf_42 : decode cX4_settingOf 42 = .ok (.ireturn, 1) := by decide +kernel
theorem dX4_settingOf_43 : decode cX4_settingOf 43 = .ok (.aload_n 0, 1) := by decide +kernel
theorem dX4_settingOf_44 : decode cX4_settingOf 44 = .ok (.getfield 43, 3) := by decide +kernel
theorem dX4_settingOf_47 : decode cX4_settingOf 47 = .ok (.ireturn, 1) := by decide +kernel
theorem dX4_changeSetting_0 : decode cX4_changeSetting 0 = .ok (.iload_n 1, 1) := by decide +kernel
theorem dX4_changeSetting_1 : decode cX4_changeSetting 1 = .ok (.tableswitch 51 0 2 #[27, 35, 43], 27) := by decide +kernel
theorem dX4_changeSetting_28 : decode cX4_changeSetting 28 = .ok (.aload_n 0, 1) := by decide +kernel
theorem dX4_changeSetting_29 : decode cX4_changeSetting 29 = .ok (.iload_n 2, 1) := by decide +kernel
theorem dX4_changeSetting_30 : decode cX4_changeSetting 30 = .ok (.putfield 33, 3) := by decide +kernel
theorem dX4_changeSetting_33 : decode cX4_changeSetting 33 = .ok (.goto 24, 3) := by decide +kernel
theorem dX4_changeSetting_36 : decode cX4_changeSetting 36 = .ok (.aload_n 0, 1) := by decide +kernel
theorem dX4_changeSetting_37 : decode cX4_changeSetting 37 = .ok (.iload_n 2, 1) := by decide +kernel
theorem dX4_changeSetting_38 : decode cX4_changeSetting 38 = .ok (.putfield 37, 3) := by decide +kernel
theorem dX4_changeSetting_41 : decode cX4_changeSetting 41 = .ok (.goto 16, 3) := by decide +kernel
theorem dX4_changeSetting_44 : decode cX4_changeSetting 44 = .ok (.aload_n 0, 1) := by decide +kernel
theorem dX4_changeSetting_45 : decode cX4_changeSetting 45 = .ok (.iload_n 2, 1) := by decide +kernel
theorem dX4_changeSetting_46 : decode cX4_changeSetting 46 = .ok (.putfield 40, 3) := by decide +kernel
theorem dX4_changeSetting_49 : decode cX4_changeSetting 49 = .ok (.goto 8, 3) := by decide +kernel
theorem dX4_changeSetting_52 : decode cX4_changeSetting 52 = .ok (.aload_n 0, 1) := by decide +kernel
theorem dX4_changeSetting_53 : decode cX4_changeSetting 53 = .ok (.iload_n 2, 1) := by decide +kernel
theorem dX4_changeSetting_54 : decode cX4_changeSetting 54 = .ok (.putfield 43, 3) := by decide +kernel
theorem dX4_changeSetting_57 : decode cX4_changeSetting 57 = .ok (.return_, 1) := by decide +kernel
theorem dX4_turnsOfTide_0 : decode cX4_turnsOfTide 0 = .ok (.iconst 2, 1) := by decide +kernel
theorem dX4_turnsOfTide_1 : decode cX4_turnsOfTide 1 = .ok (.aload_n 0, 1) := by decide +kernel
theorem dX4_turnsOfTide_2 : decode cX4_turnsOfTide 2 = .ok (.getfield 37, 3) := by decide +kernel
theorem dX4_turnsOfTide_5 : decode cX4_turnsOfTide 5 = .ok (.imul, 1) := by decide +kernel
theorem dX4_turnsOfTide_6 : decode cX4_turnsOfTide 6 = .ok (.aload_n 0, 1) := by decide +kernel
theorem dX4_turnsOfTide_7 : decode cX4_turnsOfTide 7 = .ok (.getfield 40, 3) := by decide +kernel
theorem dX4_turnsOfTide_10 : decode cX4_turnsOfTide 10 = .ok (.imul, 1) := by decide +kernel
theorem dX4_turnsOfTide_11 : decode cX4_turnsOfTide 11 = .ok (.ireturn, 1) := by decide +kernel
theorem dX4_tideIn_0 : decode cX4_tideIn 0 = .ok (.iconst 2, 1) := by decide +kernel
theorem dX4_tideIn_1 : decode cX4_tideIn 1 = .ok (.aload_n 0, 1) := by decide +kernel
theorem dX4_tideIn_2 : decode cX4_tideIn 2 = .ok (.getfield 37, 3) := by decide +kernel
theorem dX4_tideIn_5 : decode cX4_tideIn 5 = .ok (.imul, 1) := by decide +kernel
theorem dX4_tideIn_6 : decode cX4_tideIn 6 = .ok (.istore_n 2, 1) := by decide +kernel
theorem dX4_tideIn_7 : decode cX4_tideIn 7 = .ok (.aload_n 0, 1) := by decide +kernel
theorem dX4_tideIn_8 : decode cX4_tideIn 8 = .ok (.getfield 40, 3) := by decide +kernel
theorem dX4_tideIn_11 : decode cX4_tideIn 11 = .ok (.iconst 1, 1) := by decide +kernel
theorem dX4_tideIn_12 : decode cX4_tideIn 12 = .ok (.if_icmp .lt 8, 3) := by decide +kernel
theorem dX4_tideIn_15 : decode cX4_tideIn 15 = .ok (.iload_n 2, 1) := by decide +kernel
theorem dX4_tideIn_16 : decode cX4_tideIn 16 = .ok (.iconst 1, 1) := by decide +kernel
theorem dX4_tideIn_17 : decode cX4_tideIn 17 = .ok (.if_icmp .ge 8, 3) := by decide +kernel
theorem dX4_tideIn_20 : decode cX4_tideIn 20 = .ok (.aload_n 0, 1) := by decide +kernel
theorem dX4_tideIn_21 : decode cX4_tideIn 21 = .ok (.getfield 33, 3) := by decide +kernel
theorem dX4_tideIn_24 : decode cX4_tideIn 24 = .ok (.ireturn, 1) := by decide +kernel
theorem dX4_tideIn_25 : decode cX4_tideIn 25 = .ok (.iload_n 1, 1) := by decide +kernel
theorem dX4_tideIn_26 : decode cX4_tideIn 26 = .ok (.aload_n 0, 1) := by decide +kernel
theorem dX4_tideIn_27 : decode cX4_tideIn 27 = .ok (.getfield 40, 3) := by decide +kernel
theorem dX4_tideIn_30 : decode cX4_tideIn 30 = .ok (.idiv, 1) := by decide +kernel
theorem dX4_tideIn_31 : decode cX4_tideIn 31 = .ok (.iload_n 2, 1) := by decide +kernel
theorem dX4_tideIn_32 : decode cX4_tideIn 32 = .ok (.irem, 1) := by decide +kernel
theorem dX4_tideIn_33 : decode cX4_tideIn 33 = .ok (.istore_n 3, 1) := by decide +kernel
theorem dX4_tideIn_34 : decode cX4_tideIn 34 = .ok (.aload_n 0, 1) := by decide +kernel
theorem dX4_tideIn_35 : decode cX4_tideIn 35 = .ok (.getfield 33, 3) := by decide +kernel
theorem dX4_tideIn_38 : decode cX4_tideIn 38 = .ok (.iload_n 3, 1) := by decide +kernel
theorem dX4_tideIn_39 : decode cX4_tideIn 39 = .ok (.aload_n 0, 1) := by decide +kernel
theorem dX4_tideIn_40 : decode cX4_tideIn 40 = .ok (.getfield 37, 3) := by decide +kernel
theorem dX4_tideIn_43 : decode cX4_tideIn 43 = .ok (.if_icmp .gt 7, 3) := by decide +kernel
theorem dX4_tideIn_46 : decode cX4_tideIn 46 = .ok (.iload_n 3, 1) := by decide +kernel
theorem dX4_tideIn_47 : decode cX4_tideIn 47 = .ok (.goto 6, 3) := by decide +kernel
theorem dX4_tideIn_50 : decode cX4_tideIn 50 = .ok (.iload_n 2, 1) := by decide +kernel
theorem dX4_tideIn_51 : decode cX4_tideIn 51 = .ok (.iload_n 3, 1) := by decide +kernel
theorem dX4_tideIn_52 : decode cX4_tideIn 52 = .ok (.isub, 1) := by decide +kernel
theorem dX4_tideIn_53 : decode cX4_tideIn 53 = .ok (.iadd, 1) := by decide +kernel
theorem dX4_tideIn_54 : decode cX4_tideIn 54 = .ok (.ireturn, 1) := by decide +kernel
theorem dX4_waterOver_0 : decode cX4_waterOver 0 = .ok (.iconst 0, 1) := by decide +kernel
theorem dX4_waterOver_1 : decode cX4_waterOver 1 = .ok (.aload_n 0, 1) := by decide +kernel
theorem dX4_waterOver_2 : decode cX4_waterOver 2 = .ok (.aload_n 0, 1) := by decide +kernel
theorem dX4_waterOver_3 : decode cX4_waterOver 3 = .ok (.getfield 64, 3) := by decide +kernel
theorem dX4_waterOver_6 : decode cX4_waterOver 6 = .ok (.invokevirtual 67, 3) := by decide +kernel
theorem dX4_waterOver_9 : decode cX4_waterOver 9 = .ok (.aload_n 0, 1) := by decide +kernel
theorem dX4_waterOver_10 : decode cX4_waterOver 10 = .ok (.getfield 9, 3) := by decide +kernel
theorem dX4_waterOver_13 : decode cX4_waterOver 13 = .ok (.iload_n 1, 1) := by decide +kernel
theorem dX4_waterOver_14 : decode cX4_waterOver 14 = .ok (.invokestatic 71, 3) := by decide +kernel
theorem dX4_waterOver_17 : decode cX4_waterOver 17 = .ok (.isub, 1) := by decide +kernel
theorem dX4_waterOver_18 : decode cX4_waterOver 18 = .ok (.invokestatic 75, 3) := by decide +kernel
theorem dX4_waterOver_21 : decode cX4_waterOver 21 = .ok (.ireturn, 1) := by decide +kernel
theorem dX4_isWet_0 : decode cX4_isWet 0 = .ok (.aload_n 0, 1) := by decide +kernel
theorem dX4_isWet_1 : decode cX4_isWet 1 = .ok (.iload_n 3, 1) := by decide +kernel
theorem dX4_isWet_2 : decode cX4_isWet 2 = .ok (.invokevirtual 67, 3) := by decide +kernel
theorem dX4_isWet_5 : decode cX4_isWet 5 = .ok (.aload_n 0, 1) := by decide +kernel
theorem dX4_isWet_6 : decode cX4_isWet 6 = .ok (.getfield 9, 3) := by decide +kernel
theorem dX4_isWet_9 : decode cX4_isWet 9 = .ok (.iload_n 1, 1) := by decide +kernel
theorem dX4_isWet_10 : decode cX4_isWet 10 = .ok (.invokestatic 71, 3) := by decide +kernel
theorem dX4_isWet_13 : decode cX4_isWet 13 = .ok (.isub, 1) := by decide +kernel
theorem dX4_isWet_14 : decode cX4_isWet 14 = .ok (.iload_n 2, 1) := by decide +kernel
theorem dX4_isWet_15 : decode cX4_isWet 15 = .ok (.if_icmp .lt 7, 3) := by decide +kernel
theorem dX4_isWet_18 : decode cX4_isWet 18 = .ok (.iconst 1, 1) := by decide +kernel
theorem dX4_isWet_19 : decode cX4_isWet 19 = .ok (.goto 4, 3) := by decide +kernel
theorem dX4_isWet_22 : decode cX4_isWet 22 = .ok (.iconst 0, 1) := by decide +kernel
theorem dX4_isWet_23 : decode cX4_isWet 23 = .ok (.ireturn, 1) := by decide +kernel
theorem dX4_isBoat_0 : decode cX4_isBoat 0 = .ok (.iload_n 1, 1) := by decide +kernel
theorem dX4_isBoat_1 : decode cX4_isBoat 1 = .ok (.ifCond .lt 15, 3) := by decide +kernel
theorem dX4_isBoat_4 : decode cX4_isBoat 4 = .ok (.iload_n 1, 1) := by decide +kernel
theorem dX4_isBoat_5 : decode cX4_isBoat 5 = .ok (.aload_n 0, 1) := by decide +kernel
theorem dX4_isBoat_6 : decode cX4_isBoat 6 = .ok (.getfield 58, 3) := by decide +kernel
theorem dX4_isBoat_9 : decode cX4_isBoat 9 = .ok (.if_icmp .ge 7, 3) := by decide +kernel
theorem dX4_isBoat_12 : decode cX4_isBoat 12 = .ok (.iconst 1, 1) := by decide +kernel
theorem dX4_isBoat_13 : decode cX4_isBoat 13 = .ok (.goto 4, 3) := by decide +kernel
theorem dX4_isBoat_16 : decode cX4_isBoat 16 = .ok (.iconst 0, 1) := by decide +kernel
theorem dX4_isBoat_17 : decode cX4_isBoat 17 = .ok (.ireturn, 1) := by decide +kernel
theorem dX4_isOnBoard_0 : decode cX4_isOnBoard 0 = .ok (.aload_n 0, 1) := by decide +kernel
theorem dX4_isOnBoard_1 : decode cX4_isOnBoard 1 = .ok (.iload_n 1, 1) := by decide +kernel
theorem dX4_isOnBoard_2 : decode cX4_isOnBoard 2 = .ok (.invokevirtual 81, 3) := by decide +kernel
theorem dX4_isOnBoard_5 : decode cX4_isOnBoard 5 = .ok (.ifCond .eq 18, 3) := by decide +kernel
theorem dX4_isOnBoard_8 : decode cX4_isOnBoard 8 = .ok (.aload_n 0, 1) := by decide +kernel
theorem dX4_isOnBoard_9 : decode cX4_isOnBoard 9 = .ok (.getfield 24, 3) := by decide +kernel
theorem dX4_isOnBoard_12 : decode cX4_isOnBoard 12 = .ok (.iload_n 1, 1) := by decide +kernel
theorem dX4_isOnBoard_13 : decode cX4_isOnBoard 13 = .ok (.invokestatic 71, 3) := by decide +kernel
theorem dX4_isOnBoard_16 : decode cX4_isOnBoard 16 = .ok (.ifCond .ne 7, 3) := by decide +kernel
theorem dX4_isOnBoard_19 : decode cX4_isOnBoard 19 = .ok (.iconst 1, 1) := by decide +kernel
theorem dX4_isOnBoard_20 : decode cX4_isOnBoard 20 = .ok (.goto 4, 3) := by decide +kernel
theorem dX4_isOnBoard_23 : decode cX4_isOnBoard 23 = .ok (.iconst 0, 1) := by decide +kernel
theorem dX4_isOnBoard_24 : decode cX4_isOnBoard 24 = .ok (.ireturn, 1) := by decide +kernel
theorem dX4_floats_0 : decode cX4_floats 0 = .ok (.aload_n 0, 1) := by decide +kernel
theorem dX4_floats_1 : decode cX4_floats 1 = .ok (.aload_n 0, 1) := by decide +kernel
theorem dX4_floats_2 : decode cX4_floats 2 = .ok (.getfield 27, 3) := by decide +kernel
theorem dX4_floats_5 : decode cX4_floats 5 = .ok (.iload_n 1, 1) := by decide +kernel
theorem dX4_floats_6 : decode cX4_floats 6 = .ok (.invokestatic 71, 3) := by decide +kernel
theorem dX4_floats_9 : decode cX4_floats 9 = .ok (.aload_n 0, 1) := by decide +kernel
theorem dX4_floats_10 : decode cX4_floats 10 = .ok (.getfield 21, 3) := by decide +kernel
theorem dX4_floats_13 : decode cX4_floats 13 = .ok (.iload_n 1, 1) := by decide +kernel
theorem dX4_floats_14 : decode cX4_floats 14 = .ok (.invokestatic 71, 3) := by decide +kernel
theorem dX4_floats_17 : decode cX4_floats 17 = .ok (.aload_n 0, 1) := by decide +kernel
theorem dX4_floats_18 : decode cX4_floats 18 = .ok (.getfield 64, 3) := by decide +kernel
theorem dX4_floats_21 : decode cX4_floats 21 = .ok (.invokevirtual 84, 3) := by decide +kernel
theorem dX4_floats_24 : decode cX4_floats 24 = .ok (.ireturn, 1) := by decide +kernel
theorem dX4_isWreckedAhead_0 : decode cX4_isWreckedAhead 0 = .ok (.aload_n 0, 1) := by decide +kernel
theorem dX4_isWreckedAhead_1 : decode cX4_isWreckedAhead 1 = .ok (.getfield 27, 3) := by decide +kernel
theorem dX4_isWreckedAhead_4 : decode cX4_isWreckedAhead 4 = .ok (.iload_n 1, 1) := by decide +kernel
theorem dX4_isWreckedAhead_5 : decode cX4_isWreckedAhead 5 = .ok (.invokestatic 71, 3) := by decide +kernel
theorem dX4_isWreckedAhead_8 : decode cX4_isWreckedAhead 8 = .ok (.istore_n 2, 1) := by decide +kernel
theorem dX4_isWreckedAhead_9 : decode cX4_isWreckedAhead 9 = .ok (.aload_n 0, 1) := by decide +kernel
theorem dX4_isWreckedAhead_10 : decode cX4_isWreckedAhead 10 = .ok (.iload_n 1, 1) := by decide +kernel
theorem dX4_isWreckedAhead_11 : decode cX4_isWreckedAhead 11 = .ok (.invokevirtual 88, 3) := by decide +kernel
theorem dX4_isWreckedAhead_14 : decode cX4_isWreckedAhead 14 = .ok (.ifCond .eq 61, 3) := by decide +kernel
theorem dX4_isWreckedAhead_17 : decode cX4_isWreckedAhead 17 = .ok (.aload_n 0, 1) := by decide +kernel
theorem dX4_isWreckedAhead_18 : decode cX4_isWreckedAhead 18 = .ok (.getfield 15, 3) := by decide +kernel
theorem dX4_isWreckedAhead_21 : decode cX4_isWreckedAhead 21 = .ok (.iload_n 2, 1) := by decide +kernel
theorem dX4_isWreckedAhead_22 : decode cX4_isWreckedAhead 22 = .ok (.invokestatic 71, 3) := by decide +kernel
theorem dX4_isWreckedAhead_25 : decode cX4_isWreckedAhead 25 = .ok (.iconst 1, 1) := by decide +kernel
theorem dX4_isWreckedAhead_26 : decode cX4_isWreckedAhead 26 = .ok (.if_icmp .ne 49, 3) := by decide +kernel
theorem dX4_isWreckedAhead_29 : decode cX4_isWreckedAhead 29 = .ok (.aload_n 0, 1) := by decide +kernel
theorem dX4_isWreckedAhead_30 : decode cX4_isWreckedAhead 30 = .ok (.iload_n 2, 1) := by decide +kernel
theorem dX4_isWreckedAhead_31 : decode cX4_isWreckedAhead 31 = .ok (.aload_n 0, 1) := by decide +kernel
theorem dX4_isWreckedAhead_32 : decode cX4_isWreckedAhead 32 = .ok (.getfield 21, 3) := by decide +kernel
theorem dX4_isWreckedAhead_35 : decode cX4_isWreckedAhead 35 = .ok (.iload_n 1, 1) := by decide +kernel
theorem dX4_isWreckedAhead_36 : decode cX4_isWreckedAhead 36 = .ok (.invokestatic 71, 3) := by decide +kernel
theorem dX4_isWreckedAhead_39 : decode cX4_isWreckedAhead 39 = .ok (.aload_n 0, 1) := by decide +kernel
theorem dX4_isWreckedAhead_40 : decode cX4_isWreckedAhead 40 = .ok (.getfield 64, 3) := by decide +kernel
theorem dX4_isWreckedAhead_43 : decode cX4_isWreckedAhead 43 = .ok (.invokevirtual 84, 3) := by decide +kernel
theorem dX4_isWreckedAhead_46 : decode cX4_isWreckedAhead 46 = .ok (.ifCond .eq 29, 3) := by decide +kernel
theorem dX4_isWreckedAhead_49 : decode cX4_isWreckedAhead 49 = .ok (.aload_n 0, 1) := by decide +kernel
theorem dX4_isWreckedAhead_50 : decode cX4_isWreckedAhead 50 = .ok (.iload_n 2, 1) := by decide +kernel
theorem dX4_isWreckedAhead_51 : decode cX4_isWreckedAhead 51 = .ok (.aload_n 0, 1) := by decide +kernel
theorem dX4_isWreckedAhead_52 : decode cX4_isWreckedAhead 52 = .ok (.getfield 21, 3) := by decide +kernel
theorem dX4_isWreckedAhead_55 : decode cX4_isWreckedAhead 55 = .ok (.iload_n 1, 1) := by decide +kernel
theorem dX4_isWreckedAhead_56 : decode cX4_isWreckedAhead 56 = .ok (.invokestatic 71, 3) := by decide +kernel
theorem dX4_isWreckedAhead_59 : decode cX4_isWreckedAhead 59 = .ok (.aload_n 0, 1) := by decide +kernel
theorem dX4_isWreckedAhead_60 : decode cX4_isWreckedAhead 60 = .ok (.getfield 64, 3) := by decide +kernel
theorem dX4_isWreckedAhead_63 : decode cX4_isWreckedAhead 63 = .ok (.iconst 1, 1) := by decide +kernel
theorem dX4_isWreckedAhead_64 : decode cX4_isWreckedAhead 64 = .ok (.iadd, 1) := by decide +kernel
theorem dX4_isWreckedAhead_65 : decode cX4_isWreckedAhead 65 = .ok (.invokevirtual 84, 3) := by decide +kernel
theorem dX4_isWreckedAhead_68 : decode cX4_isWreckedAhead 68 = .ok (.ifCond .ne 7, 3) := by decide +kernel
theorem dX4_isWreckedAhead_71 : decode cX4_isWreckedAhead 71 = .ok (.iconst 1, 1) := by decide +kernel
theorem dX4_isWreckedAhead_72 : decode cX4_isWreckedAhead 72 = .ok (.goto 4, 3) := by decide +kernel
theorem dX4_isWreckedAhead_75 : decode cX4_isWreckedAhead 75 = .ok (.iconst 0, 1) := by decide +kernel
theorem dX4_isWreckedAhead_76 : decode cX4_isWreckedAhead 76 = .ok (.ireturn, 1) := by decide +kernel
theorem dX4_boatAt_0 : decode cX4_boatAt 0 = .ok (.iconst 0, 1) := by decide +kernel
theorem dX4_boatAt_1 : decode cX4_boatAt 1 = .ok (.istore_n 2, 1) := by decide +kernel
theorem dX4_boatAt_2 : decode cX4_boatAt 2 = .ok (.iload_n 2, 1) := by decide +kernel
theorem dX4_boatAt_3 : decode cX4_boatAt 3 = .ok (.aload_n 0, 1) := by decide +kernel
theorem dX4_boatAt_4 : decode cX4_boatAt 4 = .ok (.getfield 58, 3) := by decide +kernel
theorem dX4_boatAt_7 : decode cX4_boatAt 7 = .ok (.if_icmp .ge 34, 3) := by decide +kernel
theorem dX4_boatAt_10 : decode cX4_boatAt 10 = .ok (.aload_n 0, 1) := by decide +kernel
theorem dX4_boatAt_11 : decode cX4_boatAt 11 = .ok (.getfield 24, 3) := by decide +kernel
theorem dX4_boatAt_14 : decode cX4_boatAt 14 = .ok (.iload_n 2, 1) := by decide +kernel
theorem dX4_boatAt_15 : decode cX4_boatAt 15 = .ok (.invokestatic 71, 3) := by decide +kernel
theorem dX4_boatAt_18 : decode cX4_boatAt 18 = .ok (.ifCond .ne 17, 3) := by decide +kernel
theorem dX4_boatAt_21 : decode cX4_boatAt 21 = .ok (.aload_n 0, 1) := by decide +kernel
theorem dX4_boatAt_22 : decode cX4_boatAt 22 = .ok (.getfield 27, 3) := by decide +kernel
theorem dX4_boatAt_25 : decode cX4_boatAt 25 = .ok (.iload_n 2, 1) := by decide +kernel
theorem dX4_boatAt_26 : decode cX4_boatAt 26 = .ok (.invokestatic 71, 3) := by decide +kernel
theorem dX4_boatAt_29 : decode cX4_boatAt 29 = .ok (.iload_n 1, 1) := by decide +kernel
theorem dX4_boatAt_30 : decode cX4_boatAt 30 = .ok (.if_icmp .ne 5, 3) := by decide +kernel
theorem dX4_boatAt_33 : decode cX4_boatAt 33 = .ok (.iload_n 2, 1) := by decide +kernel
theorem dX4_boatAt_34 : decode cX4_boatAt 34 = .ok (.ireturn, 1) := by decide +kernel
theorem dX4_boatAt_35 : decode cX4_boatAt 35 = .ok (.iinc 2 1, 3) := by decide +kernel
theorem dX4_boatAt_38 : decode cX4_boatAt 38 = .ok (.goto (-36), 3) := by decide +kernel
theorem dX4_boatAt_41 : decode cX4_boatAt 41 = .ok (.bipush (-5), 2) := by decide +kernel
theorem dX4_boatAt_43 : decode cX4_boatAt 43 = .ok (.ireturn, 1) := by decide +kernel
theorem dX4_boatsThatAre_0 : decode cX4_boatsThatAre 0 = .ok (.iconst 0, 1) := by decide +kernel
theorem dX4_boatsThatAre_1 : decode cX4_boatsThatAre 1 = .ok (.istore_n 2, 1) := by decide +kernel
theorem dX4_boatsThatAre_2 : decode cX4_boatsThatAre 2 = .ok (.iconst 0, 1) := by decide +kernel
theorem dX4_boatsThatAre_3 : decode cX4_boatsThatAre 3 = .ok (.istore_n 3, 1) := by decide +kernel
theorem dX4_boatsThatAre_4 : decode cX4_boatsThatAre 4 = .ok (.iload_n 3, 1) := by decide +kernel
theorem dX4_boatsThatAre_5 : decode cX4_boatsThatAre 5 = .ok (.aload_n 0, 1) := by decide +kernel
theorem dX4_boatsThatAre_6 : decode cX4_boatsThatAre 6 = .ok (.getfield 58, 3) := by decide +kernel
theorem dX4_boatsThatAre_9 : decode cX4_boatsThatAre 9 = .ok (.if_icmp .ge 24, 3) := by decide +kernel
theorem dX4_boatsThatAre_12 : decode cX4_boatsThatAre 12 = .ok (.aload_n 0, 1) := by decide +kernel
theorem dX4_boatsThatAre_13 : decode cX4_boatsThatAre 13 = .ok (.getfield 24, 3) := by decide +kernel
theorem dX4_boatsThatAre_16 : decode cX4_boatsThatAre 16 = .ok (.iload_n 3, 1) := by decide +kernel
theorem dX4_boatsThatAre_17 : decode cX4_boatsThatAre 17 = .ok (.invokestatic 71, 3) := by decide +kernel
theorem dX4_boatsThatAre_20 : decode cX4_boatsThatAre 20 = .ok (.iload_n 1, 1) := by decide +kernel
theorem dX4_boatsThatAre_21 : decode cX4_boatsThatAre 21 = .ok (.if_icmp .ne 6, 3) := by decide +kernel
theorem dX4_boatsThatAre_24 : decode cX4_boatsThatAre 24 = .ok (.iinc 2 1, 3) := by decide +kernel
theorem dX4_boatsThatAre_27 : decode cX4_boatsThatAre 27 = .ok (.iinc 3 1, 3) := by decide +kernel
theorem dX4_boatsThatAre_30 : decode cX4_boatsThatAre 30 = .ok (.goto (-26), 3) := by decide +kernel
theorem dX4_boatsThatAre_33 : decode cX4_boatsThatAre 33 = .ok (.iload_n 2, 1) := by decide +kernel
theorem dX4_boatsThatAre_34 : decode cX4_boatsThatAre 34 = .ok (.ireturn, 1) := by decide +kernel
theorem dX4_boatsAground_0 : decode cX4_boatsAground 0 = .ok (.iconst 0, 1) := by decide +kernel
theorem dX4_boatsAground_1 : decode cX4_boatsAground 1 = .ok (.istore_n 1, 1) := by decide +kernel
theorem dX4_boatsAground_2 : decode cX4_boatsAground 2 = .ok (.iconst 0, 1) := by decide +kernel
theorem dX4_boatsAground_3 : decode cX4_boatsAground 3 = .ok (.istore_n 2, 1) := by decide +kernel
theorem dX4_boatsAground_4 : decode cX4_boatsAground 4 = .ok (.iload_n 2, 1) := by decide +kernel
theorem dX4_boatsAground_5 : decode cX4_boatsAground 5 = .ok (.aload_n 0, 1) := by decide +kernel
theorem dX4_boatsAground_6 : decode cX4_boatsAground 6 = .ok (.getfield 58, 3) := by decide +kernel
theorem dX4_boatsAground_9 : decode cX4_boatsAground 9 = .ok (.if_icmp .ge 28, 3) := by decide +kernel
theorem dX4_boatsAground_12 : decode cX4_boatsAground 12 = .ok (.aload_n 0, 1) := by decide +kernel
theorem dX4_boatsAground_13 : decode cX4_boatsAground 13 = .ok (.iload_n 2, 1) := by decide +kernel
theorem dX4_boatsAground_14 : decode cX4_boatsAground 14 = .ok (.invokevirtual 88, 3) := by decide +kernel
theorem dX4_boatsAground_17 : decode cX4_boatsAground 17 = .ok (.ifCond .eq 14, 3) := by decide +kernel
theorem dX4_boatsAground_20 : decode cX4_boatsAground 20 = .ok (.aload_n 0, 1) := by decide +kernel
theorem dX4_boatsAground_21 : decode cX4_boatsAground 21 = .ok (.iload_n 2, 1) := by decide +kernel
theorem dX4_boatsAground_22 : decode cX4_boatsAground 22 = .ok (.invokevirtual 91, 3) := by decide +kernel
theorem dX4_boatsAground_25 : decode cX4_boatsAground 25 = .ok (.ifCond .ne 6, 3) := by decide +kernel
theorem dX4_boatsAground_28 : decode cX4_boatsAground 28 = .ok (.iinc 1 1, 3) := by decide +kernel
theorem dX4_boatsAground_31 : decode cX4_boatsAground 31 = .ok (.iinc 2 1, 3) := by decide +kernel
theorem dX4_boatsAground_34 : decode cX4_boatsAground 34 = .ok (.goto (-30), 3) := by decide +kernel
theorem dX4_boatsAground_37 : decode cX4_boatsAground 37 = .ok (.iload_n 1, 1) := by decide +kernel
theorem dX4_boatsAground_38 : decode cX4_boatsAground 38 = .ok (.ireturn, 1) := by decide +kernel
theorem dX4_scoreOf_0 : decode cX4_scoreOf 0 = .ok (.iconst 0, 1) := by decide +kernel
theorem dX4_scoreOf_1 : decode cX4_scoreOf 1 = .ok (.istore_n 2, 1) := by decide +kernel
theorem dX4_scoreOf_2 : decode cX4_scoreOf 2 = .ok (.iconst 0, 1) := by decide +kernel
theorem dX4_scoreOf_3 : decode cX4_scoreOf 3 = .ok (.istore_n 3, 1) := by decide +kernel
theorem dX4_scoreOf_4 : decode cX4_scoreOf 4 = .ok (.iload_n 3, 1) := by decide +kernel
theorem dX4_scoreOf_5 : decode cX4_scoreOf 5 = .ok (.aload_n 0, 1) := by decide +kernel
theorem dX4_scoreOf_6 : decode cX4_scoreOf 6 = .ok (.getfield 58, 3) := by decide +kernel
theorem dX4_scoreOf_9 : decode cX4_scoreOf 9 = .ok (.if_icmp .ge 44, 3) := by decide +kernel
theorem dX4_scoreOf_12 : decode cX4_scoreOf 12 = .ok (.aload_n 0, 1) := by decide +kernel
theorem dX4_scoreOf_13 : decode cX4_scoreOf 13 = .ok (.getfield 18, 3) := by decide +kernel
theorem dX4_scoreOf_16 : decode cX4_scoreOf 16 = .ok (.iload_n 3, 1) := by decide +kernel
theorem dX4_scoreOf_17 : decode cX4_scoreOf 17 = .ok (.invokestatic 71, 3) := by decide +kernel
theorem dX4_scoreOf_20 : decode cX4_scoreOf 20 = .ok (.iload_n 1, 1) := by decide +kernel
theorem dX4_scoreOf_21 : decode cX4_scoreOf 21 = .ok (.if_icmp .ne 26, 3) := by decide +kernel
theorem dX4_scoreOf_24 : decode cX4_scoreOf 24 = .ok (.aload_n 0, 1) := by decide +kernel
theorem dX4_scoreOf_25 : decode cX4_scoreOf 25 = .ok (.getfield 24, 3) := by decide +kernel
theorem dX4_scoreOf_28 : decode cX4_scoreOf 28 = .ok (.iload_n 3, 1) := by decide +kernel
theorem dX4_scoreOf_29 : decode cX4_scoreOf 29 = .ok (.invokestatic 71, 3) := by decide +kernel
theorem dX4_scoreOf_32 : decode cX4_scoreOf 32 = .ok (.iconst 1, 1) := by decide +kernel
theorem dX4_scoreOf_33 : decode cX4_scoreOf 33 = .ok (.if_icmp .ne 14, 3) := by decide +kernel
theorem dX4_scoreOf_36 : decode cX4_scoreOf 36 = .ok (.iload_n 2, 1) := by decide +kernel
theorem dX4_scoreOf_37 : decode cX4_scoreOf 37 = .ok (.aload_n 0, 1) := by decide +kernel
theorem dX4_scoreOf_38 : decode cX4_scoreOf 38 = .ok (.getfield 21, 3) := by decide +kernel
theorem dX4_scoreOf_41 : decode cX4_scoreOf 41 = .ok (.iload_n 3, 1) := by decide +kernel
theorem dX4_scoreOf_42 : decode cX4_scoreOf 42 = .ok (.invokestatic 71, 3) := by decide +kernel
theorem dX4_scoreOf_45 : decode cX4_scoreOf 45 = .ok (.iadd, 1) := by decide +kernel
theorem dX4_scoreOf_46 : decode cX4_scoreOf 46 = .ok (.istore_n 2, 1) := by decide +kernel
theorem dX4_scoreOf_47 : decode cX4_scoreOf 47 = .ok (.iinc 3 1, 3) := by decide +kernel
theorem dX4_scoreOf_50 : decode cX4_scoreOf 50 = .ok (.goto (-46), 3) := by decide +kernel
theorem dX4_scoreOf_53 : decode cX4_scoreOf 53 = .ok (.iload_n 2, 1) := by decide +kernel
theorem dX4_scoreOf_54 : decode cX4_scoreOf 54 = .ok (.ireturn, 1) := by decide +kernel
theorem dX4_mover_0 : decode cX4_mover 0 = .ok (.aload_n 0, 1) := by decide +kernel
theorem dX4_mover_1 : decode cX4_mover 1 = .ok (.getfield 64, 3) := by decide +kernel
theorem dX4_mover_4 : decode cX4_mover 4 = .ok (.iconst 2, 1) := by decide +kernel
theorem dX4_mover_5 : decode cX4_mover 5 = .ok (.irem, 1) := by decide +kernel
theorem dX4_mover_6 : decode cX4_mover 6 = .ok (.ireturn, 1) := by decide +kernel
theorem dX4_isOver_0 : decode cX4_isOver 0 = .ok (.aload_n 0, 1) := by decide +kernel
theorem dX4_isOver_1 : decode cX4_isOver 1 = .ok (.getfield 64, 3) := by decide +kernel
theorem dX4_isOver_4 : decode cX4_isOver 4 = .ok (.aload_n 0, 1) := by decide +kernel
theorem dX4_isOver_5 : decode cX4_isOver 5 = .ok (.getfield 43, 3) := by decide +kernel
theorem dX4_isOver_8 : decode cX4_isOver 8 = .ok (.if_icmp .gt 11, 3) := by decide +kernel
theorem dX4_isOver_11 : decode cX4_isOver 11 = .ok (.aload_n 0, 1) := by decide +kernel
theorem dX4_isOver_12 : decode cX4_isOver 12 = .ok (.iconst 0, 1) := by decide +kernel
theorem dX4_isOver_13 : decode cX4_isOver 13 = .ok (.invokevirtual 94, 3) := by decide +kernel
theorem dX4_isOver_16 : decode cX4_isOver 16 = .ok (.ifCond .ne 7, 3) := by decide +kernel
theorem dX4_isOver_19 : decode cX4_isOver 19 = .ok (.iconst 1, 1) := by decide +kernel
theorem dX4_isOver_20 : decode cX4_isOver 20 = .ok (.goto 4, 3) := by decide +kernel
theorem dX4_isOver_23 : decode cX4_isOver 23 = .ok (.iconst 0, 1) := by decide +kernel
theorem dX4_isOver_24 : decode cX4_isOver 24 = .ok (.ireturn, 1) := by decide +kernel
theorem dX5_init_0 : decode cX5_init 0 = .ok (.aload_n 0, 1) := by decide +kernel
theorem dX5_init_1 : decode cX5_init 1 = .ok (.invokespecial 1, 3) := by decide +kernel
theorem dX5_init_4 : decode cX5_init 4 = .ok (.aload_n 0, 1) := by decide +kernel
theorem dX5_init_5 : decode cX5_init 5 = .ok (.new 7, 3) := by decide +kernel
theorem dX5_init_8 : decode cX5_init 8 = .ok (.dup, 1) := by decide +kernel
theorem dX5_init_9 : decode cX5_init 9 = .ok (.invokespecial 9, 3) := by decide +kernel
theorem dX5_init_12 : decode cX5_init 12 = .ok (.putfield 10, 3) := by decide +kernel
theorem dX5_init_15 : decode cX5_init 15 = .ok (.aload_n 0, 1) := by decide +kernel
theorem dX5_init_16 : decode cX5_init 16 = .ok (.new 7, 3) := by decide +kernel
theorem dX5_init_19 : decode cX5_init 19 = .ok (.dup, 1) := by decide +kernel
theorem dX5_init_20 : decode cX5_init 20 = .ok (.invokespecial 9, 3) := by decide +kernel
theorem dX5_init_23 : decode cX5_init 23 = .ok (.putfield 16, 3) := by decide +kernel
theorem dX5_init_26 : decode cX5_init 26 = .ok (.aload_n 0, 1) := by decide +kernel
theorem dX5_init_27 : decode cX5_init 27 = .ok (.new 19, 3) := by decide +kernel
theorem dX5_init_30 : decode cX5_init 30 = .ok (.dup, 1) := by decide +kernel
theorem dX5_init_31 : decode cX5_init 31 = .ok (.aload_n 0, 1) := by decide +kernel
theorem dX5_init_32 : decode cX5_init 32 = .ok (.getfield 10, 3) := by decide +kernel
theorem dX5_init_35 : decode cX5_init 35 = .ok (.invokespecial 21, 3) := by decide +kernel
theorem dX5_init_38 : decode cX5_init 38 = .ok (.putfield 24, 3) := by decide +kernel
theorem dX5_init_41 : decode cX5_init 41 = .ok (.aload_n 0, 1) := by decide +kernel
theorem dX5_init_42 : decode cX5_init 42 = .ok (.new 28, 3) := by decide +kernel
theorem dX5_init_45 : decode cX5_init 45 = .ok (.dup, 1) := by decide +kernel
theorem dX5_init_46 : decode cX5_init 46 = .ok (.aload_n 0, 1) := by decide +kernel
theorem dX5_init_47 : decode cX5_init 47 = .ok (.getfield 10, 3) := by decide +kernel
theorem dX5_init_50 : decode cX5_init 50 = .ok (.invokespecial 30, 3) := by decide +kernel
theorem dX5_init_53 : decode cX5_init 53 = .ok (.putfield 31, 3) := by decide +kernel
theorem dX5_init_56 : decode cX5_init 56 = .ok (.aload_n 0, 1) := by decide +kernel
theorem dX5_init_57 : decode cX5_init 57 = .ok (.new 35, 3) := by decide +kernel
theorem dX5_init_60 : decode cX5_init 60 = .ok (.dup, 1) := by decide +kernel
theorem dX5_init_61 : decode cX5_init 61 = .ok (.invokespecial 37, 3) := by decide +kernel
theorem dX5_init_64 : decode cX5_init 64 = .ok (.putfield 38, 3) := by decide +kernel
theorem dX5_init_67 : decode cX5_init 67 = .ok (.aload_n 0, 1) := by decide +kernel
theorem dX5_init_68 : decode cX5_init 68 = .ok (.new 42, 3) := by decide +kernel
theorem dX5_init_71 : decode cX5_init 71 = .ok (.dup, 1) := by decide +kernel
theorem dX5_init_72 : decode cX5_init 72 = .ok (.invokespecial 44, 3) := by decide +kernel
theorem dX5_init_75 : decode cX5_init 75 = .ok (.putfield 45, 3) := by decide +kernel
theorem dX5_init_78 : decode cX5_init 78 = .ok (.return_, 1) := by decide +kernel
theorem dX5_sand_0 : decode cX5_sand 0 = .ok (.aload_n 0, 1) := by decide +kernel
theorem dX5_sand_1 : decode cX5_sand 1 = .ok (.getfield 16, 3) := by decide +kernel
theorem dX5_sand_4 : decode cX5_sand 4 = .ok (.aload_n 0, 1) := by decide +kernel
theorem dX5_sand_5 : decode cX5_sand 5 = .ok (.getfield 10, 3) := by decide +kernel
theorem dX5_sand_8 : decode cX5_sand 8 = .ok (.invokevirtual 49, 3) := by decide +kernel
theorem dX5_sand_11 : decode cX5_sand 11 = .ok (.aload_n 0, 1) := by decide +kernel
theorem dX5_sand_12 : decode cX5_sand 12 = .ok (.aload_n 0, 1) := by decide +kernel
theorem dX5_sand_13 : decode cX5_sand 13 = .ok (.getfield 24, 3) := by decide +kernel
theorem dX5_sand_16 : decode cX5_sand 16 = .ok (.iload_n 1, 1) := by decide +kernel
theorem dX5_sand_17 : decode cX5_sand 17 = .ok (.iload_n 2, 1) := by decide +kernel
theorem dX5_sand_18 : decode cX5_sand 18 = .ok (.iload_n 3, 1) := by decide +kernel
theorem dX5_sand_19 : decode cX5_sand 19 = .ok (.invokevirtual 52, 3) := by decide +kernel
theorem dX5_sand_22 : decode cX5_sand 22 = .ok (.invokevirtual 56, 3) := by decide +kernel
theorem dX5_sand_25 : decode cX5_sand 25 = .ok (.ireturn, 1) := by decide +kernel
theorem dX5_boat_0 : decode cX5_boat 0 = .ok (.aload_n 0, 1) := by decide +kernel
theorem dX5_boat_1 : decode cX5_boat 1 = .ok (.getfield 16, 3) := by decide +kernel
theorem dX5_boat_4 : decode cX5_boat 4 = .ok (.aload_n 0, 1) := by decide +kernel
theorem dX5_boat_5 : decode cX5_boat 5 = .ok (.getfield 10, 3) := by decide +kernel
theorem dX5_boat_8 : decode cX5_boat 8 = .ok (.invokevirtual 49, 3) := by decide +kernel
theorem dX5_boat_11 : decode cX5_boat 11 = .ok (.aload_n 0, 1) := by decide +kernel
theorem dX5_boat_12 : decode cX5_boat 12 = .ok (.aload_n 0, 1) := by decide +kernel
theorem dX5_boat_13 : decode cX5_boat 13 = .ok (.getfield 24, 3) := by decide +kernel
theorem dX5_boat_16 : decode cX5_boat 16 = .ok (.iload_n 1, 1) := by decide +kernel
theorem dX5_boat_17 : decode cX5_boat 17 = .ok (.iload_n 2, 1) := by decide +kernel
theorem dX5_boat_18 : decode cX5_boat 18 = .ok (.iload_n 3, 1) := by decide +kernel
theorem dX5_boat_19 : decode cX5_boat 19 = .ok (.invokevirtual 60, 3) := by decide +kernel
theorem dX5_boat_22 : decode cX5_boat 22 = .ok (.invokevirtual 56, 3) := by decide +kernel
theorem dX5_boat_25 : decode cX5_boat 25 = .ok (.ireturn, 1) := by decide +kernel
theorem dX5_set_0 : decode cX5_set 0 = .ok (.aload_n 0, 1) := by decide +kernel
theorem dX5_set_1 : decode cX5_set 1 = .ok (.getfield 16, 3) := by decide +kernel
theorem dX5_set_4 : decode cX5_set 4 = .ok (.aload_n 0, 1) := by decide +kernel
theorem dX5_set_5 : decode cX5_set 5 = .ok (.getfield 10, 3) := by decide +kernel
theorem dX5_set_8 : decode cX5_set 8 = .ok (.invokevirtual 49, 3) := by decide +kernel
theorem dX5_set_11 : decode cX5_set 11 = .ok (.aload_n 0, 1) := by decide +kernel
theorem dX5_set_12 : decode cX5_set 12 = .ok (.aload_n 0, 1) := by decide +kernel
theorem dX5_set_13 : decode cX5_set 13 = .ok (.getfield 24, 3) := by decide +kernel
theorem dX5_set_16 : decode cX5_set 16 = .ok (.iload_n 1, 1) := by decide +kernel
theorem dX5_set_17 : decode cX5_set 17 = .ok (.iload_n 2, 1) := by decide +kernel
theorem dX5_set_18 : decode cX5_set 18 = .ok (.invokevirtual 64, 3) := by decide +kernel
theorem dX5_set_21 : decode cX5_set 21 = .ok (.invokevirtual 56, 3) := by decide +kernel
theorem dX5_set_24 : decode cX5_set 24 = .ok (.ireturn, 1) := by decide +kernel
theorem dX5_move_0 : decode cX5_move 0 = .ok (.aload_n 0, 1) := by decide +kernel
theorem dX5_move_1 : decode cX5_move 1 = .ok (.getfield 16, 3) := by decide +kernel
theorem dX5_move_4 : decode cX5_move 4 = .ok (.aload_n 0, 1) := by decide +kernel
theorem dX5_move_5 : decode cX5_move 5 = .ok (.getfield 10, 3) := by decide +kernel
theorem dX5_move_8 : decode cX5_move 8 = .ok (.invokevirtual 49, 3) := by decide +kernel
theorem dX5_move_11 : decode cX5_move 11 = .ok (.aload_n 0, 1) := by decide +kernel
theorem dX5_move_12 : decode cX5_move 12 = .ok (.aload_n 0, 1) := by decide +kernel
theorem dX5_move_13 : decode cX5_move 13 = .ok (.getfield 24, 3) := by decide +kernel
theorem dX5_move_16 : decode cX5_move 16 = .ok (.iload_n 1, 1) := by decide +kernel
theorem dX5_move_17 : decode cX5_move 17 = .ok (.iload_n 2, 1) := by decide +kernel
theorem dX5_move_18 : decode cX5_move 18 = .ok (.iload_n 3, 1) := by decide +kernel
theorem dX5_move_19 : decode cX5_move 19 = .ok (.invokevirtual 68, 3) := by decide +kernel
theorem dX5_move_22 : decode cX5_move 22 = .ok (.invokevirtual 56, 3) := by decide +kernel
theorem dX5_move_25 : decode cX5_move 25 = .ok (.ireturn, 1) := by decide +kernel
theorem dX5_pause_0 : decode cX5_pause 0 = .ok (.aload_n 0, 1) := by decide +kernel
theorem dX5_pause_1 : decode cX5_pause 1 = .ok (.getfield 16, 3) := by decide +kernel
theorem dX5_pause_4 : decode cX5_pause 4 = .ok (.aload_n 0, 1) := by decide +kernel
theorem dX5_pause_5 : decode cX5_pause 5 = .ok (.getfield 10, 3) := by decide +kernel
theorem dX5_pause_8 : decode cX5_pause 8 = .ok (.invokevirtual 49, 3) := by decide +kernel
theorem dX5_pause_11 : decode cX5_pause 11 = .ok (.aload_n 0, 1) := by decide +kernel
theorem dX5_pause_12 : decode cX5_pause 12 = .ok (.aload_n 0, 1) := by decide +kernel
theorem dX5_pause_13 : decode cX5_pause 13 = .ok (.getfield 24, 3) := by decide +kernel
theorem dX5_pause_16 : decode cX5_pause 16 = .ok (.invokevirtual 71, 3) := by decide +kernel
theorem dX5_pause_19 : decode cX5_pause 19 = .ok (.invokevirtual 56, 3) := by decide +kernel
theorem dX5_pause_22 : decode cX5_pause 22 = .ok (.ireturn, 1) := by decide +kernel
theorem dX5_type_0 : decode cX5_type 0 = .ok (.aload_n 0, 1) := by decide +kernel
theorem dX5_type_1 : decode cX5_type 1 = .ok (.getfield 45, 3) := by decide +kernel
theorem dX5_type_4 : decode cX5_type 4 = .ok (.iload_n 1, 1) := by decide +kernel
theorem dX5_type_5 : decode cX5_type 5 = .ok (.invokevirtual 75, 3) := by decide +kernel
theorem dX5_type_8 : decode cX5_type 8 = .ok (.ireturn, 1) := by decide +kernel
theorem dX5_clearText_0 : decode cX5_clearText 0 = .ok (.aload_n 0, 1) := by decide +kernel
theorem dX5_clearText_1 : decode cX5_clearText 1 = .ok (.getfield 45, 3) := by decide +kernel
theorem dX5_clearText_4 : decode cX5_clearText 4 = .ok (.invokevirtual 79, 3) := by decide +kernel
theorem dX5_clearText_7 : decode cX5_clearText 7 = .ok (.ireturn, 1) := by decide +kernel
theorem dX5_fault_0 : decode cX5_fault 0 = .ok (.aload_n 0, 1) := by decide +kernel
theorem dX5_fault_1 : decode cX5_fault 1 = .ok (.getfield 45, 3) := by decide +kernel
theorem dX5_fault_4 : decode cX5_fault 4 = .ok (.invokevirtual 82, 3) := by decide +kernel
theorem dX5_fault_7 : decode cX5_fault 7 = .ok (.ireturn, 1) := by decide +kernel
theorem dX5_doAll_0 : decode cX5_doAll 0 = .ok (.aload_n 0, 1) := by decide +kernel
theorem dX5_doAll_1 : decode cX5_doAll 1 = .ok (.getfield 45, 3) := by decide +kernel
theorem dX5_doAll_4 : decode cX5_doAll 4 = .ok (.invokevirtual 82, 3) := by decide +kernel
theorem dX5_doAll_7 : decode cX5_doAll 7 = .ok (.istore_n 1, 1) := by decide +kernel
theorem dX5_doAll_8 : decode cX5_doAll 8 = .ok (.iload_n 1, 1) := by decide +kernel
theorem dX5_doAll_9 : decode cX5_doAll 9 = .ok (.bipush (-5), 2) := by decide +kernel
theorem dX5_doAll_11 : decode cX5_doAll 11 = .ok (.if_icmp .eq 8, 3) := by decide +kernel
theorem dX5_doAll_14 : decode cX5_doAll 14 = .ok (.bipush (-100), 2) := by decide +kernel
theorem dX5_doAll_16 : decode cX5_doAll 16 = .ok (.iload_n 1, 1) := by decide +kernel
theorem dX5_doAll_17 : decode cX5_doAll 17 = .ok (.isub, 1) := by decide +kernel
theorem dX5_doAll_18 : decode cX5_doAll 18 = .ok (.ireturn, 1) := by decide +kernel
theorem dX5_doAll_19 : decode cX5_doAll 19 = .ok (.aload_n 0, 1) := by decide +kernel
theorem dX5_doAll_20 : decode cX5_doAll 20 = .ok (.getfield 16, 3) := by decide +kernel
theorem dX5_doAll_23 : decode cX5_doAll 23 = .ok (.aload_n 0, 1) := by decide +kernel
theorem dX5_doAll_24 : decode cX5_doAll 24 = .ok (.getfield 10, 3) := by decide +kernel
theorem dX5_doAll_27 : decode cX5_doAll 27 = .ok (.invokevirtual 49, 3) := by decide +kernel
theorem dX5_doAll_30 : decode cX5_doAll 30 = .ok (.iconst 0, 1) := by decide +kernel
theorem dX5_doAll_31 : decode cX5_doAll 31 = .ok (.istore_n 2, 1) := by decide +kernel
theorem dX5_doAll_32 : decode cX5_doAll 32 = .ok (.iconst 0, 1) := by decide +kernel
theorem dX5_doAll_33 : decode cX5_doAll 33 = .ok (.istore_n 3, 1) := by decide +kernel
theorem dX5_doAll_34 : decode cX5_doAll 34 = .ok (.iconst 0, 1) := by decide +kernel
theorem dX5_doAll_35 : decode cX5_doAll 35 = .ok (.istore 4, 2) := by decide +kernel
theorem dX5_doAll_37 : decode cX5_doAll 37 = .ok (.iload 4, 2) := by decide +kernel
theorem dX5_doAll_39 : decode cX5_doAll 39 = .ok (.bipush 60, 2) := by decide +kernel
theorem dX5_doAll_41 : decode cX5_doAll 41 = .ok (.if_icmp .ge 67, 3) := by decide +kernel
theorem dX5_doAll_44 : decode cX5_doAll 44 = .ok (.iload_n 3, 1) := by decide +kernel
theorem dX5_doAll_45 : decode cX5_doAll 45 = .ok (.aload_n 0, 1) := by decide +kernel
theorem dX5_doAll_46 : decode cX5_doAll 46 = .ok (.getfield 45, 3) := by decide +kernel
theorem dX5_doAll_49 : decode cX5_doAll 49 = .ok (.getfield 85, 3) := by decide +kernel
theorem dX5_doAll_52 : decode cX5_doAll 52 = .ok (.if_icmp .ge 56, 3) := by decide +kernel
theorem dX5_doAll_55 : decode cX5_doAll 55 = .ok (.aload_n 0, 1) := by decide +kernel
theorem dX5_doAll_56 : decode cX5_doAll 56 = .ok (.iload_n 3, 1) := by decide +kernel
theorem dX5_doAll_57 : decode cX5_doAll 57 = .ok (.invokevirtual 89, 3) := by decide +kernel
theorem dX5_doAll_60 : decode cX5_doAll 60 = .ok (.istore 5, 2) := by decide +kernel
theorem dX5_doAll_62 : decode cX5_doAll 62 = .ok (.iload 5, 2) := by decide +kernel
theorem dX5_doAll_64 : decode cX5_doAll 64 = .ok (.ifCond .ge 24, 3) := by decide +kernel
theorem dX5_doAll_67 : decode cX5_doAll 67 = .ok (.iload 5, 2) := by decide +kernel
theorem dX5_doAll_69 : decode cX5_doAll 69 = .ok (.bipush (-5), 2) := by decide +kernel
theorem dX5_doAll_71 : decode cX5_doAll 71 = .ok (.if_icmp .eq 17, 3) := by decide +kernel
theorem dX5_doAll_74 : decode cX5_doAll 74 = .ok (.aload_n 0, 1) := by decide +kernel
theorem dX5_doAll_75 : decode cX5_doAll 75 = .ok (.getfield 10, 3) := by decide +kernel
theorem dX5_doAll_78 : decode cX5_doAll 78 = .ok (.aload_n 0, 1) := by decide +kernel
theorem dX5_doAll_79 : decode cX5_doAll 79 = .ok (.getfield 16, 3) := by decide +kernel
theorem dX5_doAll_82 : decode cX5_doAll 82 = .ok (.invokevirtual 49, 3) := by decide +kernel
theorem dX5_doAll_85 : decode cX5_doAll 85 = .ok (.iload 5, 2) := by decide +kernel
theorem dX5_doAll_87 : decode cX5_doAll 87 = .ok (.ireturn, 1) := by decide +kernel
theorem dX5_doAll_88 : decode cX5_doAll 88 = .ok (.iinc 2 1, 3) := by decide +kernel
theorem dX5_doAll_91 : decode cX5_doAll 91 = .ok (.aload_n 0, 1) := by decide +kernel
theorem dX5_doAll_92 : decode cX5_doAll 92 = .ok (.getfield 45, 3) := by decide +kernel
theorem dX5_doAll_95 : decode cX5_doAll 95 = .ok (.iload_n 3, 1) := by decide +kernel
theorem dX5_doAll_96 : decode cX5_doAll 96 = .ok (.invokevirtual 92, 3) := by decide +kernel
theorem dX5_doAll_99 : decode cX5_doAll 99 = .ok (.iconst 1, 1) := by decide +kernel
theorem dX5_doAll_100 : decode cX5_doAll 100 = .ok (.iadd, 1) := by decide +kernel
theorem dX5_doAll_101 : decode cX5_doAll 101 = .ok (.istore_n 3, 1) := by decide +kernel
theorem dX5_doAll_102 : decode cX5_doAll 102 = .ok (.iinc 4 1, 3) := by decide +kernel
theorem dX5_doAll_105 : decode cX5_doAll 105 = .ok (.goto (-68), 3) := by decide +kernel
theorem dX5_doAll_108 : decode cX5_doAll 108 = .ok (.aload_n 0, 1) := by decide +kernel
theorem dX5_doAll_109 : decode cX5_doAll 109 = .ok (.iload_n 2, 1) := by decide +kernel
theorem dX5_doAll_110 : decode cX5_doAll 110 = .ok (.invokevirtual 56, 3) := by decide +kernel
theorem dX5_doAll_113 : decode cX5_doAll 113 = .ok (.ireturn, 1) := by decide +kernel
theorem dX5_undo_0 : decode cX5_undo 0 = .ok (.aload_n 0, 1) := by decide +kernel
theorem dX5_undo_1 : decode cX5_undo 1 = .ok (.getfield 38, 3) := by decide +kernel
theorem dX5_undo_4 : decode cX5_undo 4 = .ok (.aload_n 0, 1) := by decide +kernel
theorem dX5_undo_5 : decode cX5_undo 5 = .ok (.getfield 10, 3) := by decide +kernel
theorem dX5_undo_8 : decode cX5_undo 8 = .ok (.invokevirtual 95, 3) := by decide +kernel
theorem dX5_undo_11 : decode cX5_undo 11 = .ok (.ireturn, 1) := by decide +kernel
theorem dX5_keep_0 : decode cX5_keep 0 = .ok (.aload_n 0, 1) := by decide +kernel
theorem dX5_keep_1 : decode cX5_keep 1 = .ok (.getfield 38, 3) := by decide +kernel
theorem dX5_keep_4 : decode cX5_keep 4 = .ok (.aload_n 0, 1) := by decide +kernel
theorem dX5_keep_5 : decode cX5_keep 5 = .ok (.getfield 10, 3) := by decide +kernel
theorem dX5_keep_8 : decode cX5_keep 8 = .ok (.invokevirtual 99, 3) := by decide +kernel
theorem dX5_keep_11 : decode cX5_keep 11 = .ok (.aload_n 0, 1) := by decide +kernel
theorem dX5_keep_12 : decode cX5_keep 12 = .ok (.getfield 10, 3) := by decide +kernel
theorem dX5_keep_15 : decode cX5_keep 15 = .ok (.getfield 102, 3) := by decide +kernel
theorem dX5_keep_18 : decode cX5_keep 18 = .ok (.ireturn, 1) := by decide +kernel
theorem dX5_restore_0 : decode cX5_restore 0 = .ok (.aload_n 0, 1) := by decide +kernel
theorem dX5_restore_1 : decode cX5_restore 1 = .ok (.getfield 16, 3) := by decide +kernel
theorem dX5_restore_4 : decode cX5_restore 4 = .ok (.aload_n 0, 1) := by decide +kernel
theorem dX5_restore_5 : decode cX5_restore 5 = .ok (.getfield 10, 3) := by decide +kernel
theorem dX5_restore_8 : decode cX5_restore 8 = .ok (.invokevirtual 49, 3) := by decide +kernel
theorem dX5_restore_11 : decode cX5_restore 11 = .ok (.aload_n 0, 1) := by decide +kernel
theorem dX5_restore_12 : decode cX5_restore 12 = .ok (.aload_n 0, 1) := by decide +kernel
theorem dX5_restore_13 : decode cX5_restore 13 = .ok (.getfield 38, 3) := by decide +kernel
theorem dX5_restore_16 : decode cX5_restore 16 = .ok (.aload_n 0, 1) := by decide +kernel
theorem dX5_restore_17 : decode cX5_restore 17 = .ok (.getfield 10, 3) := by decide +kernel
theorem dX5_restore_20 : decode cX5_restore 20 = .ok (.invokevirtual 105, 3) := by decide +kernel
theorem dX5_restore_23 : decode cX5_restore 23 = .ok (.invokevirtual 56, 3) := by decide +kernel
theorem dX5_restore_26 : decode cX5_restore 26 = .ok (.ireturn, 1) := by decide +kernel
theorem dX5_cellOf_0 : decode cX5_cellOf 0 = .ok (.iload_n 1, 1) := by decide +kernel
theorem dX5_cellOf_1 : decode cX5_cellOf 1 = .ok (.invokestatic 108, 3) := by decide +kernel
theorem dX5_cellOf_4 : decode cX5_cellOf 4 = .ok (.ifCond .ne 5, 3) := by decide +kernel
theorem dX5_cellOf_7 : decode cX5_cellOf 7 = .ok (.iconst (-1), 1) := by decide +kernel
theorem dX5_cellOf_8 : decode cX5_cellOf 8 = .ok (.ireturn, 1) := by decide +kernel
theorem dX5_cellOf_9 : decode cX5_cellOf 9 = .ok (.iload_n 2, 1) := by decide +kernel
theorem dX5_cellOf_10 : decode cX5_cellOf 10 = .ok (.tableswitch 72 0 3 #[30, 42, 54, 63], 30) := by decide +kernel
theorem dX5_cellOf_40 : decode cX5_cellOf 40 = .ok (.aload_n 0, 1) := by decide +kernel
theorem dX5_cellOf_41 : decode cX5_cellOf 41 = .ok (.getfield 10, 3) := by decide +kernel
theorem dX5_cellOf_44 : decode cX5_cellOf 44 = .ok (.getfield 112, 3) := by decide +kernel
theorem dX5_cellOf_47 : decode cX5_cellOf 47 = .ok (.iload_n 1, 1) := by decide +kernel
theorem dX5_cellOf_48 : decode cX5_cellOf 48 = .ok (.invokestatic 116, 3) := by decide +kernel
theorem dX5_cellOf_51 : decode cX5_cellOf 51 = .ok (.ireturn, 1) := by decide +kernel
theorem dX5_cellOf_52 : decode cX5_cellOf 52 = .ok (.aload_n 0, 1) := by decide +kernel
theorem dX5_cellOf_53 : decode cX5_cellOf 53 = .ok (.getfield 10, 3) := by decide +kernel
theorem dX5_cellOf_56 : decode cX5_cellOf 56 = .ok (.getfield 120, 3) := by decide +kernel
theorem dX5_cellOf_59 : decode cX5_cellOf 59 = .ok (.iload_n 1, 1) := by decide +kernel
theorem dX5_cellOf_60 : decode cX5_cellOf 60 = .ok (.invokestatic 116, 3) := by decide +kernel
theorem dX5_cellOf_63 : decode cX5_cellOf 63 = .ok (.ireturn, 1) := by decide +kernel
theorem dX5_cellOf_64 : decode cX5_cellOf 64 = .ok (.aload_n 0, 1) := by decide +kernel
theorem dX5_cellOf_65 : decode cX5_cellOf 65 = .ok (.getfield 10, 3) := by decide +kernel
theorem dX5_cellOf_68 : decode cX5_cellOf 68 = .ok (.iload_n 1, 1) := by decide +kernel
theorem dX5_cellOf_69 : decode cX5_cellOf 69 = .ok (.invokevirtual 123, 3) := by decide +kernel
theorem dX5_cellOf_72 : decode cX5_cellOf 72 = .ok (.ireturn, 1) := by decide +kernel
theorem dX5_cellOf_73 : decode cX5_cellOf 73 = .ok (.aload_n 0, 1) := by decide +kernel
theorem dX5_cellOf_74 : decode cX5_cellOf 74 = .ok (.getfield 10, 3) := by decide +kernel
theorem dX5_cellOf_77 : decode cX5_cellOf 77 = .ok (.iload_n 1, 1) := by decide +kernel
theorem dX5_cellOf_78 : decode cX5_cellOf 78 = .ok (.invokevirtual 126, 3) := by decide +kernel
theorem dX5_cellOf_81 : decode cX5_cellOf 81 = .ok (.ireturn, 1) := by decide +kernel
theorem dX5_cellOf_82 : decode cX5_cellOf 82 = .ok (.bipush (-2), 2) := by decide +kernel
theorem dX5_cellOf_84 : decode cX5_cellOf 84 = .ok (.ireturn, 1) := by decide +kernel
theorem dX5_boatOf_0 : decode cX5_boatOf 0 = .ok (.aload_n 0, 1) := by decide +kernel
theorem dX5_boatOf_1 : decode cX5_boatOf 1 = .ok (.getfield 10, 3) := by decide +kernel
theorem dX5_boatOf_4 : decode cX5_boatOf 4 = .ok (.iload_n 1, 1) := by decide +kernel
theorem dX5_boatOf_5 : decode cX5_boatOf 5 = .ok (.invokevirtual 129, 3) := by decide +kernel
theorem dX5_boatOf_8 : decode cX5_boatOf 8 = .ok (.ifCond .ne 5, 3) := by decide +kernel
theorem dX5_boatOf_11 : decode cX5_boatOf 11 = .ok (.iconst (-1), 1) := by decide +kernel
theorem dX5_boatOf_12 : decode cX5_boatOf 12 = .ok (.ireturn, 1) := by decide +kernel
theorem dX5_boatOf_13 : decode cX5_boatOf 13 = .ok (.iload_n 2, 1) := by decide +kernel
theorem dX5_boatOf_14 : decode cX5_boatOf 14 = .ok (.tableswitch 155 0 6 #[42, 54, 66, 78, 106, 134, 146], 42) := by decide +kernel
theorem dX5_boatOf_56 : decode cX5_boatOf 56 = .ok (.aload_n 0, 1) := by decide +kernel
theorem dX5_boatOf_57 : decode cX5_boatOf 57 = .ok (.getfield 10, 3) := by decide +kernel
theorem dX5_boatOf_60 : decode cX5_boatOf 60 = .ok (.getfield 132, 3) := by decide +kernel
theorem dX5_boatOf_63 : decode cX5_boatOf 63 = .ok (.iload_n 1, 1) := by decide +kernel
theorem dX5_boatOf_64 : decode cX5_boatOf 64 = .ok (.invokestatic 116, 3) := by decide +kernel
theorem dX5_boatOf_67 : decode cX5_boatOf 67 = .ok (.ireturn, 1) := by decide +kernel
theorem dX5_boatOf_68 : decode cX5_boatOf 68 = .ok (.aload_n 0, 1) := by decide +kernel
theorem dX5_boatOf_69 : decode cX5_boatOf 69 = .ok (.getfield 10, 3) := by decide +kernel
theorem dX5_boatOf_72 : decode cX5_boatOf 72 = .ok (.getfield 135, 3) := by decide +kernel
theorem dX5_boatOf_75 : decode cX5_boatOf 75 = .ok (.iload_n 1, 1) := by decide +kernel
theorem dX5_boatOf_76 : decode cX5_boatOf 76 = .ok (.invokestatic 116, 3) := by decide +kernel
theorem dX5_boatOf_79 : decode cX5_boatOf 79 = .ok (.ireturn, 1) := by decide +kernel
theorem dX5_boatOf_80 : decode cX5_boatOf 80 = .ok (.aload_n 0, 1) := by decide +kernel
theorem dX5_boatOf_81 : decode cX5_boatOf 81 = .ok (.getfield 10, 3) := by decide +kernel
theorem dX5_boatOf_84 : decode cX5_boatOf 84 = .ok (.getfield 138, 3) := by decide +kernel
theorem dX5_boatOf_87 : decode cX5_boatOf 87 = .ok (.iload_n 1, 1) := by decide +kernel
theorem dX5_boatOf_88 : decode cX5_boatOf 88 = .ok (.invokestatic 116, 3) := by decide +kernel
theorem dX5_boatOf_91 : decode cX5_boatOf 91 = .ok (.ireturn, 1) := by decide +kernel
theorem dX5_boatOf_92 : decode cX5_boatOf 92 = .ok (.aload_n 0, 1) := by decide +kernel
theorem dX5_boatOf_93 : decode cX5_boatOf 93 = .ok (.getfield 10, 3) := by decide +kernel
theorem dX5_boatOf_96 : decode cX5_boatOf 96 = .ok (.iload_n 1, 1) := by decide +kernel
theorem dX5_boatOf_97 : decode cX5_boatOf 97 = .ok (.invokevirtual 141, 3) := by decide +kernel
theorem dX5_boatOf_100 : decode cX5_boatOf 100 = .ok (.ifCond .eq 17, 3) := by decide +kernel
theorem dX5_boatOf_103 : decode cX5_boatOf 103 = .ok (.aload_n 0, 1) := by decide +kernel
theorem dX5_boatOf_104 : decode cX5_boatOf 104 = .ok (.getfield 10, 3) := by decide +kernel
theorem dX5_boatOf_107 : decode cX5_boatOf 107 = .ok (.getfield 144, 3) := by decide +kernel
theorem dX5_boatOf_110 : decode cX5_boatOf 110 = .ok (.iload_n 1, 1) := by decide +kernel
theorem dX5_boatOf_111 : decode cX5_boatOf 111 = .ok (.invokestatic 116, 3) := by decide +kernel
theorem dX5_boatOf_114 : decode cX5_boatOf 114 = .ok (.goto 5, 3) := by decide +kernel
theorem dX5_boatOf_117 : decode cX5_boatOf 117 = .ok (.bipush (-5), 2) := by decide +kernel
theorem dX5_boatOf_119 : decode cX5_boatOf 119 = .ok (.ireturn, 1) := by decide +kernel
theorem dX5_boatOf_120 : decode cX5_boatOf 120 = .ok (.aload_n 0, 1) := by decide +kernel
theorem dX5_boatOf_121 : decode cX5_boatOf 121 = .ok (.getfield 10, 3) := by decide +kernel
theorem dX5_boatOf_124 : decode cX5_boatOf 124 = .ok (.iload_n 1, 1) := by decide +kernel
theorem dX5_boatOf_125 : decode cX5_boatOf 125 = .ok (.invokevirtual 141, 3) := by decide +kernel
theorem dX5_boatOf_128 : decode cX5_boatOf 128 = .ok (.ifCond .eq 18, 3) := by decide +kernel
theorem dX5_boatOf_131 : decode cX5_boatOf 131 = .ok (.aload_n 0, 1) := by decide +kernel
theorem dX5_boatOf_132 : decode cX5_boatOf 132 = .ok (.getfield 10, 3) := by decide +kernel
theorem dX5_boatOf_135 : decode cX5_boatOf 135 = .ok (.iload_n 1, 1) := by decide +kernel
theorem dX5_boatOf_136 : decode cX5_boatOf 136 = .ok (.invokevirtual 147, 3) := by decide +kernel
theorem dX5_boatOf_139 : decode cX5_boatOf 139 = .ok (.ifCond .eq 7, 3) := by decide +kernel
theorem dX5_boatOf_142 : decode cX5_boatOf 142 = .ok (.iconst 1, 1) := by decide +kernel
theorem dX5_boatOf_143 : decode cX5_boatOf 143 = .ok (.goto 4, 3) := by decide +kernel
theorem dX5_boatOf_146 : decode cX5_boatOf 146 = .ok (.iconst 0, 1) := by decide +kernel
theorem dX5_boatOf_147 : decode cX5_boatOf 147 = .ok (.ireturn, 1) := by decide +kernel
theorem dX5_boatOf_148 : decode cX5_boatOf 148 = .ok (.aload_n 0, 1) := by decide +kernel
theorem dX5_boatOf_149 : decode cX5_boatOf 149 = .ok (.getfield 10, 3) := by decide +kernel
theorem dX5_boatOf_152 : decode cX5_boatOf 152 = .ok (.getfield 150, 3) := by decide +kernel
theorem dX5_boatOf_155 : decode cX5_boatOf 155 = .ok (.iload_n 1, 1) := by decide +kernel
theorem dX5_boatOf_156 : decode cX5_boatOf 156 = .ok (.invokestatic 116, 3) := by decide +kernel
theorem dX5_boatOf_159 : decode cX5_boatOf 159 = .ok (.ireturn, 1) := by decide +kernel
theorem dX5_boatOf_160 : decode cX5_boatOf 160 = .ok (.aload_n 0, 1) := by decide +kernel
theorem dX5_boatOf_161 : decode cX5_boatOf 161 = .ok (.getfield 24, 3) := by decide +kernel
theorem dX5_boatOf_164 : decode cX5_boatOf 164 = .ok (.iload_n 1, 1) := by decide +kernel
theorem dX5_boatOf_165 : decode cX5_boatOf 165 = .ok (.invokevirtual 153, 3) := by decide +kernel
theorem dX5_boatOf_168 : decode cX5_boatOf 168 = .ok (.ireturn, 1) := by decide +kernel
theorem dX5_boatOf_169 : decode cX5_boatOf 169 = .ok (.bipush (-2), 2) := by decide +kernel
theorem dX5_boatOf_171 : decode cX5_boatOf 171 = .ok (.ireturn, 1) := by decide +kernel
theorem dX5_tide_0 : decode cX5_tide 0 = .ok (.iload_n 1, 1) := by decide +kernel
theorem dX5_tide_1 : decode cX5_tide 1 = .ok (.ifCond .lt 10, 3) := by decide +kernel
theorem dX5_tide_4 : decode cX5_tide 4 = .ok (.iload_n 1, 1) := by decide +kernel
theorem dX5_tide_5 : decode cX5_tide 5 = .ok (.sipush 1000, 3) := by decide +kernel
theorem dX5_tide_8 : decode cX5_tide 8 = .ok (.if_icmp .le 7, 3) := by decide +kernel
theorem dX5_tide_11 : decode cX5_tide 11 = .ok (.iconst (-1), 1) := by decide +kernel
theorem dX5_tide_12 : decode cX5_tide 12 = .ok (.goto 11, 3) := by decide +kernel
theorem dX5_tide_15 : decode cX5_tide 15 = .ok (.aload_n 0, 1) := by decide +kernel
theorem dX5_tide_16 : decode cX5_tide 16 = .ok (.getfield 10, 3) := by decide +kernel
theorem dX5_tide_19 : decode cX5_tide 19 = .ok (.iload_n 1, 1) := by decide +kernel
theorem dX5_tide_20 : decode cX5_tide 20 = .ok (.invokevirtual 156, 3) := by decide +kernel
theorem dX5_tide_23 : decode cX5_tide 23 = .ok (.ireturn, 1) := by decide +kernel
theorem dX5_why_0 : decode cX5_why 0 = .ok (.aload_n 0, 1) := by decide +kernel
theorem dX5_why_1 : decode cX5_why 1 = .ok (.getfield 24, 3) := by decide +kernel
theorem dX5_why_4 : decode cX5_why 4 = .ok (.iload_n 1, 1) := by decide +kernel
theorem dX5_why_5 : decode cX5_why 5 = .ok (.iload_n 2, 1) := by decide +kernel
theorem dX5_why_6 : decode cX5_why 6 = .ok (.iload_n 3, 1) := by decide +kernel
theorem dX5_why_7 : decode cX5_why 7 = .ok (.invokevirtual 159, 3) := by decide +kernel
theorem dX5_why_10 : decode cX5_why 10 = .ok (.istore 4, 2) := by decide +kernel
theorem dX5_why_12 : decode cX5_why 12 = .ok (.iload 4, 2) := by decide +kernel
theorem dX5_why_14 : decode cX5_why 14 = .ok (.ifCond .eq 8, 3) := by decide +kernel
theorem dX5_why_17 : decode cX5_why 17 = .ok (.iload 4, 2) := by decide +kernel
theorem dX5_why_19 : decode cX5_why 19 = .ok (.goto 14, 3) := by decide +kernel
theorem dX5_why_22 : decode cX5_why 22 = .ok (.aload_n 0, 1) := by decide +kernel
theorem dX5_why_23 : decode cX5_why 23 = .ok (.getfield 24, 3) := by decide +kernel
theorem dX5_why_26 : decode cX5_why 26 = .ok (.iload_n 1, 1) := by decide +kernel
theorem dX5_why_27 : decode cX5_why 27 = .ok (.iload_n 2, 1) := by decide +kernel
theorem dX5_why_28 : decode cX5_why 28 = .ok (.iload_n 3, 1) := by decide +kernel
theorem dX5_why_29 : decode cX5_why 29 = .ok (.iconst 0, 1) := by decide +kernel
theorem dX5_why_30 : decode cX5_why 30 = .ok (.invokevirtual 162, 3) := by decide +kernel
theorem dX5_why_33 : decode cX5_why 33 = .ok (.ireturn, 1) := by decide +kernel
theorem dX5_count_0 : decode cX5_count 0 = .ok (.iload_n 1, 1) := by decide +kernel
theorem dX5_count_1 : decode cX5_count 1 = .ok (.tableswitch 260 0 18 #[91, 99, 107, 122, 131, 140, 148, 157, 166, 175, 183, 191, 207, 212, 220, 228, 236, 244, 252], 91) := by decide +kernel
theorem dX5_count_92 : decode cX5_count 92 = .ok (.aload_n 0, 1) := by decide +kernel
theorem dX5_count_93 : decode cX5_count 93 = .ok (.getfield 10, 3) := by decide +kernel
theorem dX5_count_96 : decode cX5_count 96 = .ok (.getfield 102, 3) := by decide +kernel
theorem dX5_count_99 : decode cX5_count 99 = .ok (.ireturn, 1) := by decide +kernel
theorem dX5_count_100 : decode cX5_count 100 = .ok (.aload_n 0, 1) := by decide +kernel
theorem dX5_count_101 : decode cX5_count 101 = .ok (.getfield 10, 3) := by decide +kernel
theorem dX5_count_104 : decode cX5_count 104 = .ok (.invokevirtual 166, 3) := by decide +kernel
theorem dX5_count_107 : decode cX5_count 107 = .ok (.ireturn, 1) := by decide +kernel
theorem dX5_count_108 : decode cX5_count 108 = .ok (.aload_n 0, 1) := by decide +kernel
theorem dX5_count_109 : decode cX5_count 109 = .ok (.getfield 10, 3) := by decide +kernel
theorem dX5_count_112 : decode cX5_count 112 = .ok (.aload_n 0, 1) := by decide +kernel
theorem dX5_count_113 : decode cX5_count 113 = .ok (.getfield 10, 3) := by decide +kernel
theorem dX5_count_116 : decode cX5_count 116 = .ok (.getfield 102, 3) := by decide +kernel
theorem dX5_count_119 : decode cX5_count 119 = .ok (.invokevirtual 156, 3) := by decide +kernel
theorem dX5_count_122 : decode cX5_count 122 = .ok (.ireturn, 1) := by decide +kernel
theorem dX5_count_123 : decode cX5_count 123 = .ok (.aload_n 0, 1) := by decide +kernel
theorem dX5_count_124 : decode cX5_count 124 = .ok (.getfield 10, 3) := by decide +kernel
theorem dX5_count_127 : decode cX5_count 127 = .ok (.iconst 0, 1) := by decide +kernel
theorem dX5_count_128 : decode cX5_count 128 = .ok (.invokevirtual 169, 3) := by decide +kernel
theorem dX5_count_131 : decode cX5_count 131 = .ok (.ireturn, 1) := by decide +kernel
theorem dX5_count_132 : decode cX5_count 132 = .ok (.aload_n 0, 1) := by decide +kernel
theorem dX5_count_133 : decode cX5_count 133 = .ok (.getfield 10, 3) := by decide +kernel
theorem dX5_count_136 : decode cX5_count 136 = .ok (.iconst 1, 1) := by decide +kernel
theorem dX5_count_137 : decode cX5_count 137 = .ok (.invokevirtual 169, 3) := by decide +kernel
theorem dX5_count_140 : decode cX5_count 140 = .ok (.ireturn, 1) := by decide +kernel
theorem dX5_count_141 : decode cX5_count 141 = .ok (.aload_n 0, 1) := by decide +kernel
theorem dX5_count_142 : decode cX5_count 142 = .ok (.getfield 10, 3) := by decide +kernel
theorem dX5_count_145 : decode cX5_count 145 = .ok (.getfield 172, 3) := by decide +kernel
theorem dX5_count_148 : decode cX5_count 148 = .ok (.ireturn, 1) := by decide +kernel
theorem dX5_count_149 : decode cX5_count 149 = .ok (.aload_n 0, 1) := by decide +kernel
theorem dX5_count_150 : decode cX5_count 150 = .ok (.getfield 10, 3) := by decide +kernel
theorem dX5_count_153 : decode cX5_count 153 = .ok (.iconst 0, 1) := by decide +kernel
theorem dX5_count_154 : decode cX5_count 154 = .ok (.invokevirtual 175, 3) := by decide +kernel
