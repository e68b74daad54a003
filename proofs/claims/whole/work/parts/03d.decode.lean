theorem dX6_isAfloat_20 : decode cX6_isAfloat 20 = .ok (.iload_n 1, 1) := by decide +kernel
theorem dX6_isAfloat_21 : decode cX6_isAfloat 21 = .ok (.iload_n 2, 1) := by decide +kernel
theorem dX6_isAfloat_22 : decode cX6_isAfloat 22 = .ok (.iconst 1, 1) := by decide +kernel
theorem dX6_isAfloat_23 : decode cX6_isAfloat 23 = .ok (.invokevirtual 68, 3) := by decide +kernel
theorem dX6_isAfloat_26 : decode cX6_isAfloat 26 = .ok (.aload_n 0, 1) := by decide +kernel
theorem dX6_isAfloat_27 : decode cX6_isAfloat 27 = .ok (.getfield 7, 3) := by decide +kernel
theorem dX6_isAfloat_30 : decode cX6_isAfloat 30 = .ok (.iload_n 1, 1) := by decide +kernel
theorem dX6_isAfloat_31 : decode cX6_isAfloat 31 = .ok (.bipush 126, 2) := by decide +kernel
theorem dX6_isAfloat_33 : decode cX6_isAfloat 33 = .ok (.iadd, 1) := by decide +kernel
theorem dX6_isAfloat_34 : decode cX6_isAfloat 34 = .ok (.iaload, 1) := by decide +kernel
theorem dX6_isAfloat_35 : decode cX6_isAfloat 35 = .ok (.invokevirtual 57, 3) := by decide +kernel
theorem dX6_isAfloat_38 : decode cX6_isAfloat 38 = .ok (.ifCond .eq 7, 3) := by decide +kernel
theorem dX6_isAfloat_41 : decode cX6_isAfloat 41 = .ok (.iconst 1, 1) := by decide +kernel
theorem dX6_isAfloat_42 : decode cX6_isAfloat 42 = .ok (.goto 4, 3) := by decide +kernel
theorem dX6_isAfloat_45 : decode cX6_isAfloat 45 = .ok (.iconst 0, 1) := by decide +kernel
theorem dX6_isAfloat_46 : decode cX6_isAfloat 46 = .ok (.ireturn, 1) := by decide +kernel
theorem dX6_isBlocked_0 : decode cX6_isBlocked 0 = .ok (.aload_n 0, 1) := by decide +kernel
theorem dX6_isBlocked_1 : decode cX6_isBlocked 1 = .ok (.iload_n 1, 1) := by decide +kernel
theorem dX6_isBlocked_2 : decode cX6_isBlocked 2 = .ok (.iload_n 2, 1) := by decide +kernel
theorem dX6_isBlocked_3 : decode cX6_isBlocked 3 = .ok (.iconst 3, 1) := by decide +kernel
theorem dX6_isBlocked_4 : decode cX6_isBlocked 4 = .ok (.invokevirtual 68, 3) := by decide +kernel
theorem dX6_isBlocked_7 : decode cX6_isBlocked 7 = .ok (.istore 4, 2) := by decide +kernel
theorem dX6_isBlocked_9 : decode cX6_isBlocked 9 = .ok (.iconst 0, 1) := by decide +kernel
theorem dX6_isBlocked_10 : decode cX6_isBlocked 10 = .ok (.istore 5, 2) := by decide +kernel
theorem dX6_isBlocked_12 : decode cX6_isBlocked 12 = .ok (.iconst 0, 1) := by decide +kernel
theorem dX6_isBlocked_13 : decode cX6_isBlocked 13 = .ok (.istore 6, 2) := by decide +kernel
theorem dX6_isBlocked_15 : decode cX6_isBlocked 15 = .ok (.iload 6, 2) := by decide +kernel
theorem dX6_isBlocked_17 : decode cX6_isBlocked 17 = .ok (.iload_n 3, 1) := by decide +kernel
theorem dX6_isBlocked_18 : decode cX6_isBlocked 18 = .ok (.bipush 10, 2) := by decide +kernel
theorem dX6_isBlocked_20 : decode cX6_isBlocked 20 = .ok (.irem, 1) := by decide +kernel
theorem dX6_isBlocked_21 : decode cX6_isBlocked 21 = .ok (.if_icmp .ge 118, 3) := by decide +kernel
theorem dX6_isBlocked_24 : decode cX6_isBlocked 24 = .ok (.iload 4, 2) := by decide +kernel
theorem dX6_isBlocked_26 : decode cX6_isBlocked 26 = .ok (.iload_n 3, 1) := by decide +kernel
theorem dX6_isBlocked_27 : decode cX6_isBlocked 27 = .ok (.bipush 10, 2) := by decide +kernel
theorem dX6_isBlocked_29 : decode cX6_isBlocked 29 = .ok (.idiv, 1) := by decide +kernel
theorem dX6_isBlocked_30 : decode cX6_isBlocked 30 = .ok (.invokestatic 65, 3) := by decide +kernel
theorem dX6_isBlocked_33 : decode cX6_isBlocked 33 = .ok (.istore 4, 2) := by decide +kernel
theorem dX6_isBlocked_35 : decode cX6_isBlocked 35 = .ok (.aload_n 0, 1) := by decide +kernel
theorem dX6_isBlocked_36 : decode cX6_isBlocked 36 = .ok (.iload_n 1, 1) := by decide +kernel
theorem dX6_isBlocked_37 : decode cX6_isBlocked 37 = .ok (.iload 4, 2) := by decide +kernel
theorem dX6_isBlocked_39 : decode cX6_isBlocked 39 = .ok (.invokevirtual 71, 3) := by decide +kernel
theorem dX6_isBlocked_42 : decode cX6_isBlocked 42 = .ok (.istore 7, 2) := by decide +kernel
theorem dX6_isBlocked_44 : decode cX6_isBlocked 44 = .ok (.iload 6, 2) := by decide +kernel
theorem dX6_isBlocked_46 : decode cX6_isBlocked 46 = .ok (.iload_n 3, 1) := by decide +kernel
theorem dX6_isBlocked_47 : decode cX6_isBlocked 47 = .ok (.bipush 10, 2) := by decide +kernel
theorem dX6_isBlocked_49 : decode cX6_isBlocked 49 = .ok (.irem, 1) := by decide +kernel
theorem dX6_isBlocked_50 : decode cX6_isBlocked 50 = .ok (.iconst 1, 1) := by decide +kernel
theorem dX6_isBlocked_51 : decode cX6_isBlocked 51 = .ok (.isub, 1) := by decide +kernel
theorem dX6_isBlocked_52 : decode cX6_isBlocked 52 = .ok (.if_icmp .ne 7, 3) := by decide +kernel
theorem dX6_isBlocked_55 : decode cX6_isBlocked 55 = .ok (.iconst 1, 1) := by decide +kernel
theorem dX6_isBlocked_56 : decode cX6_isBlocked 56 = .ok (.goto 4, 3) := by decide +kernel
theorem dX6_isBlocked_59 : decode cX6_isBlocked 59 = .ok (.iconst 0, 1) := by decide +kernel
theorem dX6_isBlocked_60 : decode cX6_isBlocked 60 = .ok (.istore 8, 2) := by decide +kernel
theorem dX6_isBlocked_62 : decode cX6_isBlocked 62 = .ok (.iload 7, 2) := by decide +kernel
theorem dX6_isBlocked_64 : decode cX6_isBlocked 64 = .ok (.bipush (-5), 2) := by decide +kernel
theorem dX6_isBlocked_66 : decode cX6_isBlocked 66 = .ok (.if_icmp .eq 40, 3) := by decide +kernel
theorem dX6_isBlocked_69 : decode cX6_isBlocked 69 = .ok (.iload 8, 2) := by decide +kernel
theorem dX6_isBlocked_71 : decode cX6_isBlocked 71 = .ok (.ifCond .eq 35, 3) := by decide +kernel
theorem dX6_isBlocked_74 : decode cX6_isBlocked 74 = .ok (.aload_n 0, 1) := by decide +kernel
theorem dX6_isBlocked_75 : decode cX6_isBlocked 75 = .ok (.iload_n 1, 1) := by decide +kernel
theorem dX6_isBlocked_76 : decode cX6_isBlocked 76 = .ok (.iload 7, 2) := by decide +kernel
theorem dX6_isBlocked_78 : decode cX6_isBlocked 78 = .ok (.iconst 0, 1) := by decide +kernel
theorem dX6_isBlocked_79 : decode cX6_isBlocked 79 = .ok (.invokevirtual 68, 3) := by decide +kernel
theorem dX6_isBlocked_82 : decode cX6_isBlocked 82 = .ok (.aload_n 0, 1) := by decide +kernel
theorem dX6_isBlocked_83 : decode cX6_isBlocked 83 = .ok (.iload_n 1, 1) := by decide +kernel
theorem dX6_isBlocked_84 : decode cX6_isBlocked 84 = .ok (.iload_n 2, 1) := by decide +kernel
theorem dX6_isBlocked_85 : decode cX6_isBlocked 85 = .ok (.iconst 0, 1) := by decide +kernel
theorem dX6_isBlocked_86 : decode cX6_isBlocked 86 = .ok (.invokevirtual 68, 3) := by decide +kernel
theorem dX6_isBlocked_89 : decode cX6_isBlocked 89 = .ok (.if_icmp .eq 17, 3) := by decide +kernel
theorem dX6_isBlocked_92 : decode cX6_isBlocked 92 = .ok (.aload_n 0, 1) := by decide +kernel
theorem dX6_isBlocked_93 : decode cX6_isBlocked 93 = .ok (.iload_n 1, 1) := by decide +kernel
theorem dX6_isBlocked_94 : decode cX6_isBlocked 94 = .ok (.iload 7, 2) := by decide +kernel
theorem dX6_isBlocked_96 : decode cX6_isBlocked 96 = .ok (.invokevirtual 74, 3) := by decide +kernel
theorem dX6_isBlocked_99 : decode cX6_isBlocked 99 = .ok (.ifCond .ne 7, 3) := by decide +kernel
theorem dX6_isBlocked_102 : decode cX6_isBlocked 102 = .ok (.iconst 1, 1) := by decide +kernel
theorem dX6_isBlocked_103 : decode cX6_isBlocked 103 = .ok (.goto 4, 3) := by decide +kernel
theorem dX6_isBlocked_106 : decode cX6_isBlocked 106 = .ok (.iconst 0, 1) := by decide +kernel
theorem dX6_isBlocked_107 : decode cX6_isBlocked 107 = .ok (.istore 9, 2) := by decide +kernel
theorem dX6_isBlocked_109 : decode cX6_isBlocked 109 = .ok (.iload 5, 2) := by decide +kernel
theorem dX6_isBlocked_111 : decode cX6_isBlocked 111 = .ok (.ifCond .ne 15, 3) := by decide +kernel
theorem dX6_isBlocked_114 : decode cX6_isBlocked 114 = .ok (.iload 7, 2) := by decide +kernel
theorem dX6_isBlocked_116 : decode cX6_isBlocked 116 = .ok (.bipush (-5), 2) := by decide +kernel
theorem dX6_isBlocked_118 : decode cX6_isBlocked 118 = .ok (.if_icmp .eq 12, 3) := by decide +kernel
theorem dX6_isBlocked_121 : decode cX6_isBlocked 121 = .ok (.iload 9, 2) := by decide +kernel
theorem dX6_isBlocked_123 : decode cX6_isBlocked 123 = .ok (.ifCond .ne 7, 3) := by decide +kernel
theorem dX6_isBlocked_126 : decode cX6_isBlocked 126 = .ok (.iconst 1, 1) := by decide +kernel
theorem dX6_isBlocked_127 : decode cX6_isBlocked 127 = .ok (.goto 4, 3) := by decide +kernel
theorem dX6_isBlocked_130 : decode cX6_isBlocked 130 = .ok (.iconst 0, 1) := by decide +kernel
theorem dX6_isBlocked_131 : decode cX6_isBlocked 131 = .ok (.istore 5, 2) := by decide +kernel
theorem dX6_isBlocked_133 : decode cX6_isBlocked 133 = .ok (.iinc 6 1, 3) := by decide +kernel
theorem dX6_isBlocked_136 : decode cX6_isBlocked 136 = .ok (.goto (-121), 3) := by decide +kernel
theorem dX6_isBlocked_139 : decode cX6_isBlocked 139 = .ok (.iload 5, 2) := by decide +kernel
theorem dX6_isBlocked_141 : decode cX6_isBlocked 141 = .ok (.ireturn, 1) := by decide +kernel
theorem dX6_kind_0 : decode cX6_kind 0 = .ok (.bipush 100, 2) := by decide +kernel
theorem dX6_kind_2 : decode cX6_kind 2 = .ok (.aload_n 0, 1) := by decide +kernel
theorem dX6_kind_3 : decode cX6_kind 3 = .ok (.iload_n 1, 1) := by decide +kernel
theorem dX6_kind_4 : decode cX6_kind 4 = .ok (.iload_n 2, 1) := by decide +kernel
theorem dX6_kind_5 : decode cX6_kind 5 = .ok (.iconst 0, 1) := by decide +kernel
theorem dX6_kind_6 : decode cX6_kind 6 = .ok (.invokevirtual 68, 3) := by decide +kernel
theorem dX6_kind_9 : decode cX6_kind 9 = .ok (.imul, 1) := by decide +kernel
theorem dX6_kind_10 : decode cX6_kind 10 = .ok (.aload_n 0, 1) := by decide +kernel
theorem dX6_kind_11 : decode cX6_kind 11 = .ok (.iload_n 1, 1) := by decide +kernel
theorem dX6_kind_12 : decode cX6_kind 12 = .ok (.iload_n 2, 1) := by decide +kernel
theorem dX6_kind_13 : decode cX6_kind 13 = .ok (.iconst 1, 1) := by decide +kernel
theorem dX6_kind_14 : decode cX6_kind 14 = .ok (.invokevirtual 68, 3) := by decide +kernel
theorem dX6_kind_17 : decode cX6_kind 17 = .ok (.iadd, 1) := by decide +kernel
theorem dX6_kind_18 : decode cX6_kind 18 = .ok (.ireturn, 1) := by decide +kernel
theorem dX6_onBoard_0 : decode cX6_onBoard 0 = .ok (.iconst 0, 1) := by decide +kernel
theorem dX6_onBoard_1 : decode cX6_onBoard 1 = .ok (.istore_n 3, 1) := by decide +kernel
theorem dX6_onBoard_2 : decode cX6_onBoard 2 = .ok (.iconst 0, 1) := by decide +kernel
theorem dX6_onBoard_3 : decode cX6_onBoard 3 = .ok (.istore 4, 2) := by decide +kernel
theorem dX6_onBoard_5 : decode cX6_onBoard 5 = .ok (.iload 4, 2) := by decide +kernel
theorem dX6_onBoard_7 : decode cX6_onBoard 7 = .ok (.aload_n 0, 1) := by decide +kernel
theorem dX6_onBoard_8 : decode cX6_onBoard 8 = .ok (.getfield 7, 3) := by decide +kernel
theorem dX6_onBoard_11 : decode cX6_onBoard 11 = .ok (.iload_n 1, 1) := by decide +kernel
theorem dX6_onBoard_12 : decode cX6_onBoard 12 = .ok (.bipush 127, 2) := by decide +kernel
theorem dX6_onBoard_14 : decode cX6_onBoard 14 = .ok (.iadd, 1) := by decide +kernel
theorem dX6_onBoard_15 : decode cX6_onBoard 15 = .ok (.iaload, 1) := by decide +kernel
theorem dX6_onBoard_16 : decode cX6_onBoard 16 = .ok (.if_icmp .ge 29, 3) := by decide +kernel
theorem dX6_onBoard_19 : decode cX6_onBoard 19 = .ok (.iload_n 3, 1) := by decide +kernel
theorem dX6_onBoard_20 : decode cX6_onBoard 20 = .ok (.aload_n 0, 1) := by decide +kernel
theorem dX6_onBoard_21 : decode cX6_onBoard 21 = .ok (.iload_n 1, 1) := by decide +kernel
theorem dX6_onBoard_22 : decode cX6_onBoard 22 = .ok (.iload 4, 2) := by decide +kernel
theorem dX6_onBoard_24 : decode cX6_onBoard 24 = .ok (.iconst 2, 1) := by decide +kernel
theorem dX6_onBoard_25 : decode cX6_onBoard 25 = .ok (.invokevirtual 68, 3) := by decide +kernel
theorem dX6_onBoard_28 : decode cX6_onBoard 28 = .ok (.iload_n 2, 1) := by decide +kernel
theorem dX6_onBoard_29 : decode cX6_onBoard 29 = .ok (.if_icmp .ne 7, 3) := by decide +kernel
theorem dX6_onBoard_32 : decode cX6_onBoard 32 = .ok (.iconst 1, 1) := by decide +kernel
theorem dX6_onBoard_33 : decode cX6_onBoard 33 = .ok (.goto 4, 3) := by decide +kernel
theorem dX6_onBoard_36 : decode cX6_onBoard 36 = .ok (.iconst 0, 1) := by decide +kernel
theorem dX6_onBoard_37 : decode cX6_onBoard 37 = .ok (.iadd, 1) := by decide +kernel
theorem dX6_onBoard_38 : decode cX6_onBoard 38 = .ok (.istore_n 3, 1) := by decide +kernel
theorem dX6_onBoard_39 : decode cX6_onBoard 39 = .ok (.iinc 4 1, 3) := by decide +kernel
theorem dX6_onBoard_42 : decode cX6_onBoard 42 = .ok (.goto (-37), 3) := by decide +kernel
theorem dX6_onBoard_45 : decode cX6_onBoard 45 = .ok (.iload_n 3, 1) := by decide +kernel
theorem dX6_onBoard_46 : decode cX6_onBoard 46 = .ok (.ireturn, 1) := by decide +kernel
theorem dX6_isOver_0 : decode cX6_isOver 0 = .ok (.aload_n 0, 1) := by decide +kernel
theorem dX6_isOver_1 : decode cX6_isOver 1 = .ok (.getfield 7, 3) := by decide +kernel
theorem dX6_isOver_4 : decode cX6_isOver 4 = .ok (.iload_n 1, 1) := by decide +kernel
theorem dX6_isOver_5 : decode cX6_isOver 5 = .ok (.bipush 126, 2) := by decide +kernel
theorem dX6_isOver_7 : decode cX6_isOver 7 = .ok (.iadd, 1) := by decide +kernel
theorem dX6_isOver_8 : decode cX6_isOver 8 = .ok (.iaload, 1) := by decide +kernel
theorem dX6_isOver_9 : decode cX6_isOver 9 = .ok (.aload_n 0, 1) := by decide +kernel
theorem dX6_isOver_10 : decode cX6_isOver 10 = .ok (.getfield 7, 3) := by decide +kernel
theorem dX6_isOver_13 : decode cX6_isOver 13 = .ok (.iload_n 1, 1) := by decide +kernel
theorem dX6_isOver_14 : decode cX6_isOver 14 = .ok (.bipush 122, 2) := by decide +kernel
theorem dX6_isOver_16 : decode cX6_isOver 16 = .ok (.iadd, 1) := by decide +kernel
theorem dX6_isOver_17 : decode cX6_isOver 17 = .ok (.iconst 3, 1) := by decide +kernel
theorem dX6_isOver_18 : decode cX6_isOver 18 = .ok (.iadd, 1) := by decide +kernel
theorem dX6_isOver_19 : decode cX6_isOver 19 = .ok (.iaload, 1) := by decide +kernel
theorem dX6_isOver_20 : decode cX6_isOver 20 = .ok (.if_icmp .gt 12, 3) := by decide +kernel
theorem dX6_isOver_23 : decode cX6_isOver 23 = .ok (.aload_n 0, 1) := by decide +kernel
theorem dX6_isOver_24 : decode cX6_isOver 24 = .ok (.iload_n 1, 1) := by decide +kernel
theorem dX6_isOver_25 : decode cX6_isOver 25 = .ok (.iconst 0, 1) := by decide +kernel
theorem dX6_isOver_26 : decode cX6_isOver 26 = .ok (.invokevirtual 78, 3) := by decide +kernel
theorem dX6_isOver_29 : decode cX6_isOver 29 = .ok (.ifCond .ne 7, 3) := by decide +kernel
theorem dX6_isOver_32 : decode cX6_isOver 32 = .ok (.iconst 1, 1) := by decide +kernel
theorem dX6_isOver_33 : decode cX6_isOver 33 = .ok (.goto 4, 3) := by decide +kernel
theorem dX6_isOver_36 : decode cX6_isOver 36 = .ok (.iconst 0, 1) := by decide +kernel
theorem dX6_isOver_37 : decode cX6_isOver 37 = .ok (.ireturn, 1) := by decide +kernel
theorem dX6_reason_0 : decode cX6_reason 0 = .ok (.aload_n 0, 1) := by decide +kernel
theorem dX6_reason_1 : decode cX6_reason 1 = .ok (.iload_n 1, 1) := by decide +kernel
theorem dX6_reason_2 : decode cX6_reason 2 = .ok (.invokevirtual 81, 3) := by decide +kernel
theorem dX6_reason_5 : decode cX6_reason 5 = .ok (.ifCond .eq 5, 3) := by decide +kernel
theorem dX6_reason_8 : decode cX6_reason 8 = .ok (.iconst 1, 1) := by decide +kernel
theorem dX6_reason_9 : decode cX6_reason 9 = .ok (.ireturn, 1) := by decide +kernel
theorem dX6_reason_10 : decode cX6_reason 10 = .ok (.aload_n 0, 1) := by decide +kernel
theorem dX6_reason_11 : decode cX6_reason 11 = .ok (.iload_n 1, 1) := by decide +kernel
theorem dX6_reason_12 : decode cX6_reason 12 = .ok (.iload_n 2, 1) := by decide +kernel
theorem dX6_reason_13 : decode cX6_reason 13 = .ok (.iconst 2, 1) := by decide +kernel
theorem dX6_reason_14 : decode cX6_reason 14 = .ok (.invokevirtual 68, 3) := by decide +kernel
theorem dX6_reason_17 : decode cX6_reason 17 = .ok (.ifCond .eq 5, 3) := by decide +kernel
theorem dX6_reason_20 : decode cX6_reason 20 = .ok (.iconst 2, 1) := by decide +kernel
theorem dX6_reason_21 : decode cX6_reason 21 = .ok (.ireturn, 1) := by decide +kernel
theorem dX6_reason_22 : decode cX6_reason 22 = .ok (.aload_n 0, 1) := by decide +kernel
theorem dX6_reason_23 : decode cX6_reason 23 = .ok (.iload_n 1, 1) := by decide +kernel
theorem dX6_reason_24 : decode cX6_reason 24 = .ok (.iload_n 2, 1) := by decide +kernel
theorem dX6_reason_25 : decode cX6_reason 25 = .ok (.invokevirtual 74, 3) := by decide +kernel
theorem dX6_reason_28 : decode cX6_reason 28 = .ok (.ifCond .ne 5, 3) := by decide +kernel
theorem dX6_reason_31 : decode cX6_reason 31 = .ok (.iconst 4, 1) := by decide +kernel
theorem dX6_reason_32 : decode cX6_reason 32 = .ok (.ireturn, 1) := by decide +kernel
theorem dX6_reason_33 : decode cX6_reason 33 = .ok (.aload_n 0, 1) := by decide +kernel
theorem dX6_reason_34 : decode cX6_reason 34 = .ok (.iload_n 1, 1) := by decide +kernel
theorem dX6_reason_35 : decode cX6_reason 35 = .ok (.aload_n 0, 1) := by decide +kernel
theorem dX6_reason_36 : decode cX6_reason 36 = .ok (.iload_n 1, 1) := by decide +kernel
theorem dX6_reason_37 : decode cX6_reason 37 = .ok (.iload_n 2, 1) := by decide +kernel
theorem dX6_reason_38 : decode cX6_reason 38 = .ok (.invokevirtual 85, 3) := by decide +kernel
theorem dX6_reason_41 : decode cX6_reason 41 = .ok (.aload_n 0, 1) := by decide +kernel
theorem dX6_reason_42 : decode cX6_reason 42 = .ok (.iload_n 1, 1) := by decide +kernel
theorem dX6_reason_43 : decode cX6_reason 43 = .ok (.iload_n 2, 1) := by decide +kernel
theorem dX6_reason_44 : decode cX6_reason 44 = .ok (.iconst 3, 1) := by decide +kernel
theorem dX6_reason_45 : decode cX6_reason 45 = .ok (.invokevirtual 68, 3) := by decide +kernel
theorem dX6_reason_48 : decode cX6_reason 48 = .ok (.iload_n 3, 1) := by decide +kernel
theorem dX6_reason_49 : decode cX6_reason 49 = .ok (.aload_n 0, 1) := by decide +kernel
theorem dX6_reason_50 : decode cX6_reason 50 = .ok (.getfield 7, 3) := by decide +kernel
theorem dX6_reason_53 : decode cX6_reason 53 = .ok (.iload_n 1, 1) := by decide +kernel
theorem dX6_reason_54 : decode cX6_reason 54 = .ok (.bipush 126, 2) := by decide +kernel
theorem dX6_reason_56 : decode cX6_reason 56 = .ok (.iadd, 1) := by decide +kernel
theorem dX6_reason_57 : decode cX6_reason 57 = .ok (.iaload, 1) := by decide +kernel
theorem dX6_reason_58 : decode cX6_reason 58 = .ok (.invokevirtual 88, 3) := by decide +kernel
theorem dX6_reason_61 : decode cX6_reason 61 = .ok (.istore 4, 2) := by decide +kernel
theorem dX6_reason_63 : decode cX6_reason 63 = .ok (.iload 4, 2) := by decide +kernel
theorem dX6_reason_65 : decode cX6_reason 65 = .ok (.bipush (-5), 2) := by decide +kernel
theorem dX6_reason_67 : decode cX6_reason 67 = .ok (.if_icmp .ne 7, 3) := by decide +kernel
theorem dX6_reason_70 : decode cX6_reason 70 = .ok (.iconst 5, 1) := by decide +kernel
theorem dX6_reason_71 : decode cX6_reason 71 = .ok (.goto 19, 3) := by decide +kernel
theorem dX6_reason_74 : decode cX6_reason 74 = .ok (.aload_n 0, 1) := by decide +kernel
theorem dX6_reason_75 : decode cX6_reason 75 = .ok (.iload_n 1, 1) := by decide +kernel
theorem dX6_reason_76 : decode cX6_reason 76 = .ok (.iload_n 2, 1) := by decide +kernel
theorem dX6_reason_77 : decode cX6_reason 77 = .ok (.iload_n 3, 1) := by decide +kernel
theorem dX6_reason_78 : decode cX6_reason 78 = .ok (.invokevirtual 92, 3) := by decide +kernel
theorem dX6_reason_81 : decode cX6_reason 81 = .ok (.ifCond .eq 8, 3) := by decide +kernel
theorem dX6_reason_84 : decode cX6_reason 84 = .ok (.bipush 6, 2) := by decide +kernel
theorem dX6_reason_86 : decode cX6_reason 86 = .ok (.goto 4, 3) := by decide +kernel
theorem dX6_reason_89 : decode cX6_reason 89 = .ok (.iconst 0, 1) := by decide +kernel
theorem dX6_reason_90 : decode cX6_reason 90 = .ok (.ireturn, 1) := by decide +kernel
theorem dX6_whyNot_0 : decode cX6_whyNot 0 = .ok (.aload_n 0, 1) := by decide +kernel
theorem dX6_whyNot_1 : decode cX6_whyNot 1 = .ok (.iload_n 1, 1) := by decide +kernel
theorem dX6_whyNot_2 : decode cX6_whyNot 2 = .ok (.iload_n 2, 1) := by decide +kernel
theorem dX6_whyNot_3 : decode cX6_whyNot 3 = .ok (.iload_n 3, 1) := by decide +kernel
theorem dX6_whyNot_4 : decode cX6_whyNot 4 = .ok (.invokevirtual 95, 3) := by decide +kernel
theorem dX6_whyNot_7 : decode cX6_whyNot 7 = .ok (.istore 4, 2) := by decide +kernel
theorem dX6_whyNot_9 : decode cX6_whyNot 9 = .ok (.aload_n 0, 1) := by decide +kernel
theorem dX6_whyNot_10 : decode cX6_whyNot 10 = .ok (.iload_n 1, 1) := by decide +kernel
theorem dX6_whyNot_11 : decode cX6_whyNot 11 = .ok (.iload_n 2, 1) := by decide +kernel
theorem dX6_whyNot_12 : decode cX6_whyNot 12 = .ok (.iconst 0, 1) := by decide +kernel
theorem dX6_whyNot_13 : decode cX6_whyNot 13 = .ok (.invokevirtual 68, 3) := by decide +kernel
theorem dX6_whyNot_16 : decode cX6_whyNot 16 = .ok (.aload_n 0, 1) := by decide +kernel
theorem dX6_whyNot_17 : decode cX6_whyNot 17 = .ok (.getfield 7, 3) := by decide +kernel
theorem dX6_whyNot_20 : decode cX6_whyNot 20 = .ok (.iload_n 1, 1) := by decide +kernel
theorem dX6_whyNot_21 : decode cX6_whyNot 21 = .ok (.bipush 126, 2) := by decide +kernel
theorem dX6_whyNot_23 : decode cX6_whyNot 23 = .ok (.iadd, 1) := by decide +kernel
theorem dX6_whyNot_24 : decode cX6_whyNot 24 = .ok (.iaload, 1) := by decide +kernel
theorem dX6_whyNot_25 : decode cX6_whyNot 25 = .ok (.iconst 2, 1) := by decide +kernel
theorem dX6_whyNot_26 : decode cX6_whyNot 26 = .ok (.irem, 1) := by decide +kernel
theorem dX6_whyNot_27 : decode cX6_whyNot 27 = .ok (.if_icmp .eq 7, 3) := by decide +kernel
theorem dX6_whyNot_30 : decode cX6_whyNot 30 = .ok (.iconst 1, 1) := by decide +kernel
theorem dX6_whyNot_31 : decode cX6_whyNot 31 = .ok (.goto 4, 3) := by decide +kernel
theorem dX6_whyNot_34 : decode cX6_whyNot 34 = .ok (.iconst 0, 1) := by decide +kernel
theorem dX6_whyNot_35 : decode cX6_whyNot 35 = .ok (.istore 5, 2) := by decide +kernel
theorem dX6_whyNot_37 : decode cX6_whyNot 37 = .ok (.iload 4, 2) := by decide +kernel
theorem dX6_whyNot_39 : decode cX6_whyNot 39 = .ok (.iconst 1, 1) := by decide +kernel
theorem dX6_whyNot_40 : decode cX6_whyNot 40 = .ok (.if_icmp .eq 18, 3) := by decide +kernel
theorem dX6_whyNot_43 : decode cX6_whyNot 43 = .ok (.iload 4, 2) := by decide +kernel
theorem dX6_whyNot_45 : decode cX6_whyNot 45 = .ok (.iconst 2, 1) := by decide +kernel
theorem dX6_whyNot_46 : decode cX6_whyNot 46 = .ok (.if_icmp .eq 12, 3) := by decide +kernel
theorem dX6_whyNot_49 : decode cX6_whyNot 49 = .ok (.iload 5, 2) := by decide +kernel
theorem dX6_whyNot_51 : decode cX6_whyNot 51 = .ok (.ifCond .eq 7, 3) := by decide +kernel
theorem dX6_whyNot_54 : decode cX6_whyNot 54 = .ok (.iconst 3, 1) := by decide +kernel
theorem dX6_whyNot_55 : decode cX6_whyNot 55 = .ok (.goto 5, 3) := by decide +kernel
theorem dX6_whyNot_58 : decode cX6_whyNot 58 = .ok (.iload 4, 2) := by decide +kernel
theorem dX6_whyNot_60 : decode cX6_whyNot 60 = .ok (.ireturn, 1) := by decide +kernel
theorem dX6_wayOf_0 : decode cX6_wayOf 0 = .ok (.iload_n 0, 1) := by decide +kernel
theorem dX6_wayOf_1 : decode cX6_wayOf 1 = .ok (.iconst 0, 1) := by decide +kernel
theorem dX6_wayOf_2 : decode cX6_wayOf 2 = .ok (.iconst 3, 1) := by decide +kernel
theorem dX6_wayOf_3 : decode cX6_wayOf 3 = .ok (.invokestatic 35, 3) := by decide +kernel
theorem dX6_wayOf_6 : decode cX6_wayOf 6 = .ok (.ifCond .eq 21, 3) := by decide +kernel
theorem dX6_wayOf_9 : decode cX6_wayOf 9 = .ok (.iload_n 1, 1) := by decide +kernel
theorem dX6_wayOf_10 : decode cX6_wayOf 10 = .ok (.iconst 1, 1) := by decide +kernel
theorem dX6_wayOf_11 : decode cX6_wayOf 11 = .ok (.iconst 3, 1) := by decide +kernel
theorem dX6_wayOf_12 : decode cX6_wayOf 12 = .ok (.invokestatic 35, 3) := by decide +kernel
theorem dX6_wayOf_15 : decode cX6_wayOf 15 = .ok (.ifCond .eq 12, 3) := by decide +kernel
theorem dX6_wayOf_18 : decode cX6_wayOf 18 = .ok (.bipush 10, 2) := by decide +kernel
theorem dX6_wayOf_20 : decode cX6_wayOf 20 = .ok (.iload_n 0, 1) := by decide +kernel
theorem dX6_wayOf_21 : decode cX6_wayOf 21 = .ok (.imul, 1) := by decide +kernel
theorem dX6_wayOf_22 : decode cX6_wayOf 22 = .ok (.iload_n 1, 1) := by decide +kernel
theorem dX6_wayOf_23 : decode cX6_wayOf 23 = .ok (.iadd, 1) := by decide +kernel
theorem dX6_wayOf_24 : decode cX6_wayOf 24 = .ok (.goto 5, 3) := by decide +kernel
theorem dX6_wayOf_27 : decode cX6_wayOf 27 = .ok (.bipush (-5), 2) := by decide +kernel
theorem dX6_wayOf_29 : decode cX6_wayOf 29 = .ok (.ireturn, 1) := by decide +kernel
theorem dX6_sands_0 : decode cX6_sands 0 = .ok (.iload_n 2, 1) := by decide +kernel
theorem dX6_sands_1 : decode cX6_sands 1 = .ok (.invokestatic 98, 3) := by decide +kernel
theorem dX6_sands_4 : decode cX6_sands 4 = .ok (.ifCond .ne 5, 3) := by decide +kernel
theorem dX6_sands_7 : decode cX6_sands 7 = .ok (.iconst (-1), 1) := by decide +kernel
theorem dX6_sands_8 : decode cX6_sands 8 = .ok (.ireturn, 1) := by decide +kernel
theorem dX6_sands_9 : decode cX6_sands 9 = .ok (.iload_n 3, 1) := by decide +kernel
theorem dX6_sands_10 : decode cX6_sands 10 = .ok (.iconst 0, 1) := by decide +kernel
theorem dX6_sands_11 : decode cX6_sands 11 = .ok (.iconst 4, 1) := by decide +kernel
theorem dX6_sands_12 : decode cX6_sands 12 = .ok (.invokestatic 35, 3) := by decide +kernel
theorem dX6_sands_15 : decode cX6_sands 15 = .ok (.ifCond .ne 6, 3) := by decide +kernel
theorem dX6_sands_18 : decode cX6_sands 18 = .ok (.bipush (-2), 2) := by decide +kernel
theorem dX6_sands_20 : decode cX6_sands 20 = .ok (.ireturn, 1) := by decide +kernel
theorem dX6_sands_21 : decode cX6_sands 21 = .ok (.iload_n 2, 1) := by decide +kernel
theorem dX6_sands_22 : decode cX6_sands 22 = .ok (.ifCond .eq 21, 3) := by decide +kernel
theorem dX6_sands_25 : decode cX6_sands 25 = .ok (.iload_n 2, 1) := by decide +kernel
theorem dX6_sands_26 : decode cX6_sands 26 = .ok (.bipush 35, 2) := by decide +kernel
theorem dX6_sands_28 : decode cX6_sands 28 = .ok (.if_icmp .eq 15, 3) := by decide +kernel
theorem dX6_sands_31 : decode cX6_sands 31 = .ok (.aload_n 0, 1) := by decide +kernel
theorem dX6_sands_32 : decode cX6_sands 32 = .ok (.getfield 7, 3) := by decide +kernel
theorem dX6_sands_35 : decode cX6_sands 35 = .ok (.iload_n 1, 1) := by decide +kernel
theorem dX6_sands_36 : decode cX6_sands 36 = .ok (.bipush 126, 2) := by decide +kernel
theorem dX6_sands_38 : decode cX6_sands 38 = .ok (.iadd, 1) := by decide +kernel
theorem dX6_sands_39 : decode cX6_sands 39 = .ok (.iaload, 1) := by decide +kernel
theorem dX6_sands_40 : decode cX6_sands 40 = .ok (.ifCond .eq 6, 3) := by decide +kernel
theorem dX6_sands_43 : decode cX6_sands 43 = .ok (.bipush (-4), 2) := by decide +kernel
theorem dX6_sands_45 : decode cX6_sands 45 = .ok (.ireturn, 1) := by decide +kernel
theorem dX6_sands_46 : decode cX6_sands 46 = .ok (.aload_n 0, 1) := by decide +kernel
theorem dX6_sands_47 : decode cX6_sands 47 = .ok (.getfield 7, 3) := by decide +kernel
theorem dX6_sands_50 : decode cX6_sands 50 = .ok (.iload_n 1, 1) := by decide +kernel
theorem dX6_sands_51 : decode cX6_sands 51 = .ok (.iconst 0, 1) := by decide +kernel
theorem dX6_sands_52 : decode cX6_sands 52 = .ok (.iadd, 1) := by decide +kernel
theorem dX6_sands_53 : decode cX6_sands 53 = .ok (.iload_n 2, 1) := by decide +kernel
theorem dX6_sands_54 : decode cX6_sands 54 = .ok (.iadd, 1) := by decide +kernel
theorem dX6_sands_55 : decode cX6_sands 55 = .ok (.iaload, 1) := by decide +kernel
theorem dX6_sands_56 : decode cX6_sands 56 = .ok (.istore 5, 2) := by decide +kernel
theorem dX6_sands_58 : decode cX6_sands 58 = .ok (.iload 5, 2) := by decide +kernel
theorem dX6_sands_60 : decode cX6_sands 60 = .ok (.iload_n 3, 1) := by decide +kernel
theorem dX6_sands_61 : decode cX6_sands 61 = .ok (.if_icmp .ne 22, 3) := by decide +kernel
theorem dX6_sands_64 : decode cX6_sands 64 = .ok (.aload_n 0, 1) := by decide +kernel
theorem dX6_sands_65 : decode cX6_sands 65 = .ok (.getfield 7, 3) := by decide +kernel
theorem dX6_sands_68 : decode cX6_sands 68 = .ok (.iload_n 1, 1) := by decide +kernel
theorem dX6_sands_69 : decode cX6_sands 69 = .ok (.bipush 36, 2) := by decide +kernel
theorem dX6_sands_71 : decode cX6_sands 71 = .ok (.iadd, 1) := by decide +kernel
theorem dX6_sands_72 : decode cX6_sands 72 = .ok (.iload_n 2, 1) := by decide +kernel
theorem dX6_sands_73 : decode cX6_sands 73 = .ok (.iadd, 1) := by decide +kernel
theorem dX6_sands_74 : decode cX6_sands 74 = .ok (.iaload, 1) := by decide +kernel
theorem dX6_sands_75 : decode cX6_sands 75 = .ok (.iload 4, 2) := by decide +kernel
theorem dX6_sands_77 : decode cX6_sands 77 = .ok (.if_icmp .ne 6, 3) := by decide +kernel
theorem dX6_sands_80 : decode cX6_sands 80 = .ok (.bipush (-5), 2) := by decide +kernel
theorem dX6_sands_82 : decode cX6_sands 82 = .ok (.ireturn, 1) := by decide +kernel
theorem dX6_sands_83 : decode cX6_sands 83 = .ok (.aload_n 0, 1) := by decide +kernel
theorem dX6_sands_84 : decode cX6_sands 84 = .ok (.getfield 7, 3) := by decide +kernel
theorem dX6_sands_87 : decode cX6_sands 87 = .ok (.iload_n 1, 1) := by decide +kernel
theorem dX6_sands_88 : decode cX6_sands 88 = .ok (.iconst 0, 1) := by decide +kernel
theorem dX6_sands_89 : decode cX6_sands 89 = .ok (.iadd, 1) := by decide +kernel
theorem dX6_sands_90 : decode cX6_sands 90 = .ok (.iload_n 2, 1) := by decide +kernel
theorem dX6_sands_91 : decode cX6_sands 91 = .ok (.iadd, 1) := by decide +kernel
theorem dX6_sands_92 : decode cX6_sands 92 = .ok (.iload_n 3, 1) := by decide +kernel
theorem dX6_sands_93 : decode cX6_sands 93 = .ok (.iastore, 1) := by decide +kernel
theorem dX6_sands_94 : decode cX6_sands 94 = .ok (.aload_n 0, 1) := by decide +kernel
theorem dX6_sands_95 : decode cX6_sands 95 = .ok (.getfield 7, 3) := by decide +kernel
theorem dX6_sands_98 : decode cX6_sands 98 = .ok (.iload_n 1, 1) := by decide +kernel
theorem dX6_sands_99 : decode cX6_sands 99 = .ok (.bipush 36, 2) := by decide +kernel
theorem dX6_sands_101 : decode cX6_sands 101 = .ok (.iadd, 1) := by decide +kernel
theorem dX6_sands_102 : decode cX6_sands 102 = .ok (.iload_n 2, 1) := by decide +kernel
theorem dX6_sands_103 : decode cX6_sands 103 = .ok (.iadd, 1) := by decide +kernel
theorem dX6_sands_104 : decode cX6_sands 104 = .ok (.iload 4, 2) := by decide +kernel
theorem dX6_sands_106 : decode cX6_sands 106 = .ok (.iastore, 1) := by decide +kernel
theorem dX6_sands_107 : decode cX6_sands 107 = .ok (.iload 5, 2) := by decide +kernel
theorem dX6_sands_109 : decode cX6_sands 109 = .ok (.ireturn, 1) := by decide +kernel
theorem dX6_comes_0 : decode cX6_comes 0 = .ok (.iload_n 2, 1) := by decide +kernel
theorem dX6_comes_1 : decode cX6_comes 1 = .ok (.iconst 0, 1) := by decide +kernel
theorem dX6_comes_2 : decode cX6_comes 2 = .ok (.iconst 1, 1) := by decide +kernel
theorem dX6_comes_3 : decode cX6_comes 3 = .ok (.invokestatic 35, 3) := by decide +kernel
theorem dX6_comes_6 : decode cX6_comes 6 = .ok (.ifCond .eq 11, 3) := by decide +kernel
theorem dX6_comes_9 : decode cX6_comes 9 = .ok (.iload 4, 2) := by decide +kernel
theorem dX6_comes_11 : decode cX6_comes 11 = .ok (.invokestatic 98, 3) := by decide +kernel
theorem dX6_comes_14 : decode cX6_comes 14 = .ok (.ifCond .ne 5, 3) := by decide +kernel
theorem dX6_comes_17 : decode cX6_comes 17 = .ok (.iconst (-1), 1) := by decide +kernel
theorem dX6_comes_18 : decode cX6_comes 18 = .ok (.ireturn, 1) := by decide +kernel
theorem dX6_comes_19 : decode cX6_comes 19 = .ok (.iload_n 3, 1) := by decide +kernel
theorem dX6_comes_20 : decode cX6_comes 20 = .ok (.iconst 1, 1) := by decide +kernel
theorem dX6_comes_21 : decode cX6_comes 21 = .ok (.iconst 3, 1) := by decide +kernel
theorem dX6_comes_22 : decode cX6_comes 22 = .ok (.invokestatic 35, 3) := by decide +kernel
theorem dX6_comes_25 : decode cX6_comes 25 = .ok (.ifCond .ne 6, 3) := by decide +kernel
theorem dX6_comes_28 : decode cX6_comes 28 = .ok (.bipush (-2), 2) := by decide +kernel
theorem dX6_comes_30 : decode cX6_comes 30 = .ok (.ireturn, 1) := by decide +kernel
theorem dX6_comes_31 : decode cX6_comes 31 = .ok (.aload_n 0, 1) := by decide +kernel
theorem dX6_comes_32 : decode cX6_comes 32 = .ok (.getfield 7, 3) := by decide +kernel
theorem dX6_comes_35 : decode cX6_comes 35 = .ok (.iload_n 1, 1) := by decide +kernel
theorem dX6_comes_36 : decode cX6_comes 36 = .ok (.bipush 126, 2) := by decide +kernel
theorem dX6_comes_38 : decode cX6_comes 38 = .ok (.iadd, 1) := by decide +kernel
theorem dX6_comes_39 : decode cX6_comes 39 = .ok (.iaload, 1) := by decide +kernel
theorem dX6_comes_40 : decode cX6_comes 40 = .ok (.ifCond .ne 27, 3) := by decide +kernel
theorem dX6_comes_43 : decode cX6_comes 43 = .ok (.iload 4, 2) := by decide +kernel
theorem dX6_comes_45 : decode cX6_comes 45 = .ok (.ifCond .eq 22, 3) := by decide +kernel
theorem dX6_comes_48 : decode cX6_comes 48 = .ok (.iload 4, 2) := by decide +kernel
theorem dX6_comes_50 : decode cX6_comes 50 = .ok (.bipush 35, 2) := by decide +kernel
theorem dX6_comes_52 : decode cX6_comes 52 = .ok (.if_icmp .eq 15, 3) := by decide +kernel
theorem dX6_comes_55 : decode cX6_comes 55 = .ok (.aload_n 0, 1) := by decide +kernel
theorem dX6_comes_56 : decode cX6_comes 56 = .ok (.iload_n 1, 1) := by decide +kernel
theorem dX6_comes_57 : decode cX6_comes 57 = .ok (.iload 4, 2) := by decide +kernel
theorem dX6_comes_59 : decode cX6_comes 59 = .ok (.invokevirtual 71, 3) := by decide +kernel
theorem dX6_comes_62 : decode cX6_comes 62 = .ok (.bipush (-5), 2) := by decide +kernel
theorem dX6_comes_64 : decode cX6_comes 64 = .ok (.if_icmp .eq 6, 3) := by decide +kernel
theorem dX6_comes_67 : decode cX6_comes 67 = .ok (.bipush (-4), 2) := by decide +kernel
theorem dX6_comes_69 : decode cX6_comes 69 = .ok (.ireturn, 1) := by decide +kernel
theorem dX6_comes_70 : decode cX6_comes 70 = .ok (.aload_n 0, 1) := by decide +kernel
theorem dX6_comes_71 : decode cX6_comes 71 = .ok (.getfield 7, 3) := by decide +kernel
theorem dX6_comes_74 : decode cX6_comes 74 = .ok (.iload_n 1, 1) := by decide +kernel
theorem dX6_comes_75 : decode cX6_comes 75 = .ok (.bipush 127, 2) := by decide +kernel
theorem dX6_comes_77 : decode cX6_comes 77 = .ok (.iadd, 1) := by decide +kernel
theorem dX6_comes_78 : decode cX6_comes 78 = .ok (.iaload, 1) := by decide +kernel
theorem dX6_comes_79 : decode cX6_comes 79 = .ok (.bipush 10, 2) := by decide +kernel
theorem dX6_comes_81 : decode cX6_comes 81 = .ok (.if_icmp .ne 6, 3) := by decide +kernel
theorem dX6_comes_84 : decode cX6_comes 84 = .ok (.bipush (-3), 2) := by decide +kernel
theorem dX6_comes_86 : decode cX6_comes 86 = .ok (.ireturn, 1) := by decide +kernel
theorem dX6_comes_87 : decode cX6_comes 87 = .ok (.iload_n 1, 1) := by decide +kernel
theorem dX6_comes_88 : decode cX6_comes 88 = .ok (.aload_n 0, 1) := by decide +kernel
theorem dX6_comes_89 : decode cX6_comes 89 = .ok (.getfield 7, 3) := by decide +kernel
theorem dX6_comes_92 : decode cX6_comes 92 = .ok (.iload_n 1, 1) := by decide +kernel
theorem dX6_comes_93 : decode cX6_comes 93 = .ok (.bipush 127, 2) := by decide +kernel
theorem dX6_comes_95 : decode cX6_comes 95 = .ok (.iadd, 1) := by decide +kernel
theorem dX6_comes_96 : decode cX6_comes 96 = .ok (.iaload, 1) := by decide +kernel
theorem dX6_comes_97 : decode cX6_comes 97 = .ok (.invokestatic 39, 3) := by decide +kernel
theorem dX6_comes_100 : decode cX6_comes 100 = .ok (.istore 5, 2) := by decide +kernel
theorem dX6_comes_102 : decode cX6_comes 102 = .ok (.aload_n 0, 1) := by decide +kernel
theorem dX6_comes_103 : decode cX6_comes 103 = .ok (.getfield 7, 3) := by decide +kernel
theorem dX6_comes_106 : decode cX6_comes 106 = .ok (.iload 5, 2) := by decide +kernel
theorem dX6_comes_108 : decode cX6_comes 108 = .ok (.iconst 0, 1) := by decide +kernel
theorem dX6_comes_109 : decode cX6_comes 109 = .ok (.iadd, 1) := by decide +kernel
theorem dX6_comes_110 : decode cX6_comes 110 = .ok (.iload_n 2, 1) := by decide +kernel
theorem dX6_comes_111 : decode cX6_comes 111 = .ok (.iastore, 1) := by decide +kernel
theorem dX6_comes_112 : decode cX6_comes 112 = .ok (.aload_n 0, 1) := by decide +kernel
theorem dX6_comes_113 : decode cX6_comes 113 = .ok (.getfield 7, 3) := by decide +kernel
theorem dX6_comes_116 : decode cX6_comes 116 = .ok (.iload 5, 2) := by decide +kernel
theorem dX6_comes_118 : decode cX6_comes 118 = .ok (.iconst 1, 1) := by decide +kernel
theorem dX6_comes_119 : decode cX6_comes 119 = .ok (.iadd, 1) := by decide +kernel
theorem dX6_comes_120 : decode cX6_comes 120 = .ok (.iload_n 3, 1) := by decide +kernel
theorem dX6_comes_121 : decode cX6_comes 121 = .ok (.iastore, 1) := by decide +kernel
theorem dX6_comes_122 : decode cX6_comes 122 = .ok (.aload_n 0, 1) := by decide +kernel
theorem dX6_comes_123 : decode cX6_comes 123 = .ok (.getfield 7, 3) := by decide +kernel
theorem dX6_comes_126 : decode cX6_comes 126 = .ok (.iload 5, 2) := by decide +kernel
theorem dX6_comes_128 : decode cX6_comes 128 = .ok (.iconst 2, 1) := by decide +kernel
theorem dX6_comes_129 : decode cX6_comes 129 = .ok (.iadd, 1) := by decide +kernel
theorem dX6_comes_130 : decode cX6_comes 130 = .ok (.iconst 0, 1) := by decide +kernel
theorem dX6_comes_131 : decode cX6_comes 131 = .ok (.iastore, 1) := by decide +kernel
theorem dX6_comes_132 : decode cX6_comes 132 = .ok (.aload_n 0, 1) := by decide +kernel
theorem dX6_comes_133 : decode cX6_comes 133 = .ok (.getfield 7, 3) := by decide +kernel
theorem dX6_comes_136 : decode cX6_comes 136 = .ok (.iload 5, 2) := by decide +kernel
theorem dX6_comes_138 : decode cX6_comes 138 = .ok (.iconst 3, 1) := by decide +kernel
theorem dX6_comes_139 : decode cX6_comes 139 = .ok (.iadd, 1) := by decide +kernel
theorem dX6_comes_140 : decode cX6_comes 140 = .ok (.iload 4, 2) := by decide +kernel
theorem dX6_comes_142 : decode cX6_comes 142 = .ok (.iastore, 1) := by decide +kernel
theorem dX6_comes_143 : decode cX6_comes 143 = .ok (.aload_n 0, 1) := by decide +kernel
theorem dX6_comes_144 : decode cX6_comes 144 = .ok (.getfield 7, 3) := by decide +kernel
theorem dX6_comes_147 : decode cX6_comes 147 = .ok (.iload 5, 2) := by decide +kernel
theorem dX6_comes_149 : decode cX6_comes 149 = .ok (.iconst 4, 1) := by decide +kernel
theorem dX6_comes_150 : decode cX6_comes 150 = .ok (.iadd, 1) := by decide +kernel
theorem dX6_comes_151 : decode cX6_comes 151 = .ok (.iconst 0, 1) := by decide +kernel
theorem dX6_comes_152 : decode cX6_comes 152 = .ok (.iastore, 1) := by decide +kernel
theorem dX6_comes_153 : decode cX6_comes 153 = .ok (.aload_n 0, 1) := by decide +kernel
theorem dX6_comes_154 : decode cX6_comes 154 = .ok (.getfield 7, 3) := by decide +kernel
theorem dX6_comes_157 : decode cX6_comes 157 = .ok (.iload_n 1, 1) := by decide +kernel
theorem dX6_comes_158 : decode cX6_comes 158 = .ok (.bipush 127, 2) := by decide +kernel
theorem dX6_comes_160 : decode cX6_comes 160 = .ok (.iadd, 1) := by decide +kernel
theorem dX6_comes_161 : decode cX6_comes 161 = .ok (.dup2, 1) := by decide +kernel
theorem dX6_comes_162 : decode cX6_comes 162 = .ok (.iaload, 1) := by decide +kernel
theorem dX6_comes_163 : decode cX6_comes 163 = .ok (.iconst 1, 1) := by decide +kernel
theorem dX6_comes_164 : decode cX6_comes 164 = .ok (.iadd, 1) := by decide +kernel
theorem dX6_comes_165 : decode cX6_comes 165 = .ok (.iastore, 1) := by decide +kernel
theorem dX6_comes_166 : decode cX6_comes 166 = .ok (.aload_n 0, 1) := by decide +kernel
theorem dX6_comes_167 : decode cX6_comes 167 = .ok (.getfield 7, 3) := by decide +kernel
theorem dX6_comes_170 : decode cX6_comes 170 = .ok (.iload_n 1, 1) := by decide +kernel
theorem dX6_comes_171 : decode cX6_comes 171 = .ok (.bipush 127, 2) := by decide +kernel
theorem dX6_comes_173 : decode cX6_comes 173 = .ok (.iadd, 1) := by decide +kernel
theorem dX6_comes_174 : decode cX6_comes 174 = .ok (.iaload, 1) := by decide +kernel
theorem dX6_comes_175 : decode cX6_comes 175 = .ok (.iconst 1, 1) := by decide +kernel
theorem dX6_comes_176 : decode cX6_comes 176 = .ok (.isub, 1) := by decide +kernel
theorem dX6_comes_177 : decode cX6_comes 177 = .ok (.ireturn, 1) := by decide +kernel
theorem dX6_passes_0 : decode cX6_passes 0 = .ok (.iconst 0, 1) := by decide +kernel
theorem dX6_passes_1 : decode cX6_passes 1 = .ok (.istore_n 2, 1) := by decide +kernel
theorem dX6_passes_2 : decode cX6_passes 2 = .ok (.iload_n 2, 1) := by decide +kernel
theorem dX6_passes_3 : decode cX6_passes 3 = .ok (.aload_n 0, 1) := by decide +kernel
theorem dX6_passes_4 : decode cX6_passes 4 = .ok (.getfield 7, 3) := by decide +kernel
theorem dX6_passes_7 : decode cX6_passes 7 = .ok (.iload_n 1, 1) := by decide +kernel
theorem dX6_passes_8 : decode cX6_passes 8 = .ok (.bipush 127, 2) := by decide +kernel
theorem dX6_passes_10 : decode cX6_passes 10 = .ok (.iadd, 1) := by decide +kernel
theorem dX6_passes_11 : decode cX6_passes 11 = .ok (.iaload, 1) := by decide +kernel
theorem dX6_passes_12 : decode cX6_passes 12 = .ok (.if_icmp .ge 83, 3) := by decide +kernel
theorem dX6_passes_15 : decode cX6_passes 15 = .ok (.aload_n 0, 1) := by decide +kernel
theorem dX6_passes_16 : decode cX6_passes 16 = .ok (.iload_n 1, 1) := by decide +kernel
theorem dX6_passes_17 : decode cX6_passes 17 = .ok (.iload_n 2, 1) := by decide +kernel
theorem dX6_passes_18 : decode cX6_passes 18 = .ok (.iconst 2, 1) := by decide +kernel
theorem dX6_passes_19 : decode cX6_passes 19 = .ok (.invokevirtual 68, 3) := by decide +kernel
theorem dX6_passes_22 : decode cX6_passes 22 = .ok (.ifCond .ne 38, 3) := by decide +kernel
theorem dX6_passes_25 : decode cX6_passes 25 = .ok (.aload_n 0, 1) := by decide +kernel
theorem dX6_passes_26 : decode cX6_passes 26 = .ok (.iload_n 1, 1) := by decide +kernel
theorem dX6_passes_27 : decode cX6_passes 27 = .ok (.aload_n 0, 1) := by decide +kernel
theorem dX6_passes_28 : decode cX6_passes 28 = .ok (.iload_n 1, 1) := by decide +kernel
theorem dX6_passes_29 : decode cX6_passes 29 = .ok (.iload_n 2, 1) := by decide +kernel
theorem dX6_passes_30 : decode cX6_passes 30 = .ok (.iconst 3, 1) := by decide +kernel
theorem dX6_passes_31 : decode cX6_passes 31 = .ok (.invokevirtual 68, 3) := by decide +kernel
theorem dX6_passes_34 : decode cX6_passes 34 = .ok (.aload_n 0, 1) := by decide +kernel
theorem dX6_passes_35 : decode cX6_passes 35 = .ok (.iload_n 1, 1) := by decide +kernel
theorem dX6_passes_36 : decode cX6_passes 36 = .ok (.iload_n 2, 1) := by decide +kernel
theorem dX6_passes_37 : decode cX6_passes 37 = .ok (.iconst 1, 1) := by decide +kernel
theorem dX6_passes_38 : decode cX6_passes 38 = .ok (.invokevirtual 68, 3) := by decide +kernel
theorem dX6_passes_41 : decode cX6_passes 41 = .ok (.aload_n 0, 1) := by decide +kernel
theorem dX6_passes_42 : decode cX6_passes 42 = .ok (.getfield 7, 3) := by decide +kernel
theorem dX6_passes_45 : decode cX6_passes 45 = .ok (.iload_n 1, 1) := by decide +kernel
theorem dX6_passes_46 : decode cX6_passes 46 = .ok (.bipush 126, 2) := by decide +kernel
theorem dX6_passes_48 : decode cX6_passes 48 = .ok (.iadd, 1) := by decide +kernel
theorem dX6_passes_49 : decode cX6_passes 49 = .ok (.iaload, 1) := by decide +kernel
theorem dX6_passes_50 : decode cX6_passes 50 = .ok (.invokevirtual 101, 3) := by decide +kernel
theorem dX6_passes_53 : decode cX6_passes 53 = .ok (.ifCond .eq 7, 3) := by decide +kernel
theorem dX6_passes_56 : decode cX6_passes 56 = .ok (.iconst 1, 1) := by decide +kernel
theorem dX6_passes_57 : decode cX6_passes 57 = .ok (.goto 4, 3) := by decide +kernel
theorem dX6_passes_60 : decode cX6_passes 60 = .ok (.iconst 0, 1) := by decide +kernel
theorem dX6_passes_61 : decode cX6_passes 61 = .ok (.istore_n 3, 1) := by decide +kernel
theorem dX6_passes_62 : decode cX6_passes 62 = .ok (.aload_n 0, 1) := by decide +kernel
theorem dX6_passes_63 : decode cX6_passes 63 = .ok (.getfield 7, 3) := by decide +kernel
theorem dX6_passes_66 : decode cX6_passes 66 = .ok (.iload_n 1, 1) := by decide +kernel
theorem dX6_passes_67 : decode cX6_passes 67 = .ok (.iload_n 2, 1) := by decide +kernel
theorem dX6_passes_68 : decode cX6_passes 68 = .ok (.invokestatic 39, 3) := by decide +kernel
theorem dX6_passes_71 : decode cX6_passes 71 = .ok (.iconst 2, 1) := by decide +kernel
theorem dX6_passes_72 : decode cX6_passes 72 = .ok (.iadd, 1) := by decide +kernel
theorem dX6_passes_73 : decode cX6_passes 73 = .ok (.iload_n 3, 1) := by decide +kernel
theorem dX6_passes_74 : decode cX6_passes 74 = .ok (.ifCond .eq 7, 3) := by decide +kernel
theorem dX6_passes_77 : decode cX6_passes 77 = .ok (.iconst 2, 1) := by decide +kernel
theorem dX6_passes_78 : decode cX6_passes 78 = .ok (.goto 10, 3) := by decide +kernel
theorem dX6_passes_81 : decode cX6_passes 81 = .ok (.aload_n 0, 1) := by decide +kernel
theorem dX6_passes_82 : decode cX6_passes 82 = .ok (.iload_n 1, 1) := by decide +kernel
theorem dX6_passes_83 : decode cX6_passes 83 = .ok (.iload_n 2, 1) := by decide +kernel
theorem dX6_passes_84 : decode cX6_passes 84 = .ok (.iconst 2, 1) := by decide +kernel
theorem dX6_passes_85 : decode cX6_passes 85 = .ok (.invokevirtual 68, 3) := by decide +kernel
theorem dX6_passes_88 : decode cX6_passes 88 = .ok (.iastore, 1) := by decide +kernel
theorem dX6_passes_89 : decode cX6_passes 89 = .ok (.iinc 2 1, 3) := by decide +kernel
theorem dX6_passes_92 : decode cX6_passes 92 = .ok (.goto (-90), 3) := by decide +kernel
theorem dX6_passes_95 : decode cX6_passes 95 = .ok (.aload_n 0, 1) := by decide +kernel
theorem dX6_passes_96 : decode cX6_passes 96 = .ok (.getfield 7, 3) := by decide +kernel
theorem dX6_passes_99 : decode cX6_passes 99 = .ok (.iload_n 1, 1) := by decide +kernel
theorem dX6_passes_100 : decode cX6_passes 100 = .ok (.bipush 126, 2) := by decide +kernel
theorem dX6_passes_102 : decode cX6_passes 102 = .ok (.iadd, 1) := by decide +kernel
theorem dX6_passes_103 : decode cX6_passes 103 = .ok (.dup2, 1) := by decide +kernel
theorem dX6_passes_104 : decode cX6_passes 104 = .ok (.iaload, 1) := by decide +kernel
theorem dX6_passes_105 : decode cX6_passes 105 = .ok (.iconst 1, 1) := by decide +kernel
theorem dX6_passes_106 : decode cX6_passes 106 = .ok (.iadd, 1) := by decide +kernel
theorem dX6_passes_107 : decode cX6_passes 107 = .ok (.iastore, 1) := by decide +kernel
theorem dX6_passes_108 : decode cX6_passes 108 = .ok (.return_, 1) := by decide +kernel
theorem dX6_moves_0 : decode cX6_moves 0 = .ok (.aload_n 0, 1) := by decide +kernel
theorem dX6_moves_1 : decode cX6_moves 1 = .ok (.iload_n 1, 1) := by decide +kernel
theorem dX6_moves_2 : decode cX6_moves 2 = .ok (.iload_n 2, 1) := by decide +kernel
theorem dX6_moves_3 : decode cX6_moves 3 = .ok (.invokevirtual 104, 3) := by decide +kernel
theorem dX6_moves_6 : decode cX6_moves 6 = .ok (.ifCond .ne 5, 3) := by decide +kernel
theorem dX6_moves_9 : decode cX6_moves 9 = .ok (.iconst (-1), 1) := by decide +kernel
theorem dX6_moves_10 : decode cX6_moves 10 = .ok (.ireturn, 1) := by decide +kernel
theorem dX6_moves_11 : decode cX6_moves 11 = .ok (.iload_n 3, 1) := by decide +kernel
theorem dX6_moves_12 : decode cX6_moves 12 = .ok (.bipush (-5), 2) := by decide +kernel
theorem dX6_moves_14 : decode cX6_moves 14 = .ok (.if_icmp .ne 6, 3) := by decide +kernel
theorem dX6_moves_17 : decode cX6_moves 17 = .ok (.bipush (-2), 2) := by decide +kernel
theorem dX6_moves_19 : decode cX6_moves 19 = .ok (.ireturn, 1) := by decide +kernel
theorem dX6_moves_20 : decode cX6_moves 20 = .ok (.aload_n 0, 1) := by decide +kernel
theorem dX6_moves_21 : decode cX6_moves 21 = .ok (.iload_n 1, 1) := by decide +kernel
theorem dX6_moves_22 : decode cX6_moves 22 = .ok (.iload_n 2, 1) := by decide +kernel
theorem dX6_moves_23 : decode cX6_moves 23 = .ok (.iload_n 3, 1) := by decide +kernel
theorem dX6_moves_24 : decode cX6_moves 24 = .ok (.invokevirtual 107, 3) := by decide +kernel
theorem dX6_moves_27 : decode cX6_moves 27 = .ok (.istore 4, 2) := by decide +kernel
theorem dX6_moves_29 : decode cX6_moves 29 = .ok (.iload 4, 2) := by decide +kernel
theorem dX6_moves_31 : decode cX6_moves 31 = .ok (.ifCond .le 9, 3) := by decide +kernel
theorem dX6_moves_34 : decode cX6_moves 34 = .ok (.bipush (-10), 2) := by decide +kernel
theorem dX6_moves_36 : decode cX6_moves 36 = .ok (.iload 4, 2) := by decide +kernel
theorem dX6_moves_38 : decode cX6_moves 38 = .ok (.isub, 1) := by decide +kernel
theorem dX6_moves_39 : decode cX6_moves 39 = .ok (.ireturn, 1) := by decide +kernel
theorem dX6_moves_40 : decode cX6_moves 40 = .ok (.aload_n 0, 1) := by decide +kernel
theorem dX6_moves_41 : decode cX6_moves 41 = .ok (.iload_n 1, 1) := by decide +kernel
theorem dX6_moves_42 : decode cX6_moves 42 = .ok (.aload_n 0, 1) := by decide +kernel
theorem dX6_moves_43 : decode cX6_moves 43 = .ok (.iload_n 1, 1) := by decide +kernel
theorem dX6_moves_44 : decode cX6_moves 44 = .ok (.iload_n 2, 1) := by decide +kernel
theorem dX6_moves_45 : decode cX6_moves 45 = .ok (.invokevirtual 85, 3) := by decide +kernel
theorem dX6_moves_48 : decode cX6_moves 48 = .ok (.aload_n 0, 1) := by decide +kernel
theorem dX6_moves_49 : decode cX6_moves 49 = .ok (.iload_n 1, 1) := by decide +kernel
theorem dX6_moves_50 : decode cX6_moves 50 = .ok (.iload_n 2, 1) := by decide +kernel
theorem dX6_moves_51 : decode cX6_moves 51 = .ok (.iconst 3, 1) := by decide +kernel
theorem dX6_moves_52 : decode cX6_moves 52 = .ok (.invokevirtual 68, 3) := by decide +kernel
theorem dX6_moves_55 : decode cX6_moves 55 = .ok (.iload_n 3, 1) := by decide +kernel
theorem dX6_moves_56 : decode cX6_moves 56 = .ok (.aload_n 0, 1) := by decide +kernel
theorem dX6_moves_57 : decode cX6_moves 57 = .ok (.getfield 7, 3) := by decide +kernel
theorem dX6_moves_60 : decode cX6_moves 60 = .ok (.iload_n 1, 1) := by decide +kernel
theorem dX6_moves_61 : decode cX6_moves 61 = .ok (.bipush 126, 2) := by decide +kernel
theorem dX6_moves_63 : decode cX6_moves 63 = .ok (.iadd, 1) := by decide +kernel
theorem dX6_moves_64 : decode cX6_moves 64 = .ok (.iaload, 1) := by decide +kernel
theorem dX6_moves_65 : decode cX6_moves 65 = .ok (.invokevirtual 88, 3) := by decide +kernel
theorem dX6_moves_68 : decode cX6_moves 68 = .ok (.istore 5, 2) := by decide +kernel
theorem dX6_moves_70 : decode cX6_moves 70 = .ok (.aload_n 0, 1) := by decide +kernel
theorem dX6_moves_71 : decode cX6_moves 71 = .ok (.iload_n 1, 1) := by decide +kernel
theorem dX6_moves_72 : decode cX6_moves 72 = .ok (.iload 5, 2) := by decide +kernel
theorem dX6_moves_74 : decode cX6_moves 74 = .ok (.invokevirtual 71, 3) := by decide +kernel
theorem dX6_moves_77 : decode cX6_moves 77 = .ok (.istore 6, 2) := by decide +kernel
theorem dX6_moves_79 : decode cX6_moves 79 = .ok (.iconst 0, 1) := by decide +kernel
theorem dX6_moves_80 : decode cX6_moves 80 = .ok (.istore 7, 2) := by decide +kernel
theorem dX6_moves_82 : decode cX6_moves 82 = .ok (.iload 6, 2) := by decide +kernel
theorem dX6_moves_84 : decode cX6_moves 84 = .ok (.bipush (-5), 2) := by decide +kernel
theorem dX6_moves_86 : decode cX6_moves 86 = .ok (.if_icmp .eq 41, 3) := by decide +kernel
theorem dX6_moves_89 : decode cX6_moves 89 = .ok (.aload_n 0, 1) := by decide +kernel
theorem dX6_moves_90 : decode cX6_moves 90 = .ok (.iload_n 1, 1) := by decide +kernel
theorem dX6_moves_91 : decode cX6_moves 91 = .ok (.iload 6, 2) := by decide +kernel
theorem dX6_moves_93 : decode cX6_moves 93 = .ok (.iconst 1, 1) := by decide +kernel
theorem dX6_moves_94 : decode cX6_moves 94 = .ok (.invokevirtual 68, 3) := by decide +kernel
theorem dX6_moves_97 : decode cX6_moves 97 = .ok (.istore 7, 2) := by decide +kernel
theorem dX6_moves_99 : decode cX6_moves 99 = .ok (.aload_n 0, 1) := by decide +kernel
theorem dX6_moves_100 : decode cX6_moves 100 = .ok (.getfield 7, 3) := by decide +kernel
theorem dX6_moves_103 : decode cX6_moves 103 = .ok (.iload_n 1, 1) := by decide +kernel
theorem dX6_moves_104 : decode cX6_moves 104 = .ok (.iload 6, 2) := by decide +kernel
theorem dX6_moves_106 : decode cX6_moves 106 = .ok (.invokestatic 39, 3) := by decide +kernel
theorem dX6_moves_109 : decode cX6_moves 109 = .ok (.iconst 2, 1) := by decide +kernel
theorem dX6_moves_110 : decode cX6_moves 110 = .ok (.iadd, 1) := by decide +kernel
theorem dX6_moves_111 : decode cX6_moves 111 = .ok (.iconst 2, 1) := by decide +kernel
theorem dX6_moves_112 : decode cX6_moves 112 = .ok (.iastore, 1) := by decide +kernel
theorem dX6_moves_113 : decode cX6_moves 113 = .ok (.aload_n 0, 1) := by decide +kernel
theorem dX6_moves_114 : decode cX6_moves 114 = .ok (.getfield 7, 3) := by decide +kernel
theorem dX6_moves_117 : decode cX6_moves 117 = .ok (.iload_n 1, 1) := by decide +kernel
theorem dX6_moves_118 : decode cX6_moves 118 = .ok (.sipush 128, 3) := by decide +kernel
theorem dX6_moves_121 : decode cX6_moves 121 = .ok (.iadd, 1) := by decide +kernel
theorem dX6_moves_122 : decode cX6_moves 122 = .ok (.dup2, 1) := by decide +kernel
theorem dX6_moves_123 : decode cX6_moves 123 = .ok (.iaload, 1) := by decide +kernel
theorem dX6_moves_124 : decode cX6_moves 124 = .ok (.iconst 1, 1) := by decide +kernel
theorem dX6_moves_125 : decode cX6_moves 125 = .ok (.iadd, 1) := by decide +kernel
theorem dX6_moves_126 : decode cX6_moves 126 = .ok (.iastore, 1) := by decide +kernel
theorem dX6_moves_127 : decode cX6_moves 127 = .ok (.aload_n 0, 1) := by decide +kernel
theorem dX6_moves_128 : decode cX6_moves 128 = .ok (.getfield 7, 3) := by decide +kernel
theorem dX6_moves_131 : decode cX6_moves 131 = .ok (.iload_n 1, 1) := by decide +kernel
theorem dX6_moves_132 : decode cX6_moves 132 = .ok (.iload_n 2, 1) := by decide +kernel
theorem dX6_moves_133 : decode cX6_moves 133 = .ok (.invokestatic 39, 3) := by decide +kernel
theorem dX6_moves_136 : decode cX6_moves 136 = .ok (.iconst 3, 1) := by decide +kernel
theorem dX6_moves_137 : decode cX6_moves 137 = .ok (.iadd, 1) := by decide +kernel
theorem dX6_moves_138 : decode cX6_moves 138 = .ok (.iload 5, 2) := by decide +kernel
theorem dX6_moves_140 : decode cX6_moves 140 = .ok (.iastore, 1) := by decide +kernel
theorem dX6_moves_141 : decode cX6_moves 141 = .ok (.aload_n 0, 1) := by decide +kernel
theorem dX6_moves_142 : decode cX6_moves 142 = .ok (.getfield 7, 3) := by decide +kernel
theorem dX6_moves_145 : decode cX6_moves 145 = .ok (.iload_n 1, 1) := by decide +kernel
theorem dX6_moves_146 : decode cX6_moves 146 = .ok (.iload_n 2, 1) := by decide +kernel
theorem dX6_moves_147 : decode cX6_moves 147 = .ok (.invokestatic 39, 3) := by decide +kernel
theorem dX6_moves_150 : decode cX6_moves 150 = .ok (.iconst 4, 1) := by decide +kernel
theorem dX6_moves_151 : decode cX6_moves 151 = .ok (.iadd, 1) := by decide +kernel
theorem dX6_moves_152 : decode cX6_moves 152 = .ok (.dup2, 1) := by decide +kernel
theorem dX6_moves_153 : decode cX6_moves 153 = .ok (.iaload, 1) := by decide +kernel
theorem dX6_moves_154 : decode cX6_moves 154 = .ok (.iload_n 3, 1) := by decide +kernel
theorem dX6_moves_155 : decode cX6_moves 155 = .ok (.bipush 10, 2) := by decide +kernel
theorem dX6_moves_157 : decode cX6_moves 157 = .ok (.irem, 1) := by decide +kernel
theorem dX6_moves_158 : decode cX6_moves 158 = .ok (.iadd, 1) := by decide +kernel
theorem dX6_moves_159 : decode cX6_moves 159 = .ok (.iastore, 1) := by decide +kernel
theorem dX6_moves_160 : decode cX6_moves 160 = .ok (.aload_n 0, 1) := by decide +kernel
theorem dX6_moves_161 : decode cX6_moves 161 = .ok (.getfield 7, 3) := by decide +kernel
theorem dX6_moves_164 : decode cX6_moves 164 = .ok (.iload_n 1, 1) := by decide +kernel
theorem dX6_moves_165 : decode cX6_moves 165 = .ok (.iload_n 2, 1) := by decide +kernel
theorem dX6_moves_166 : decode cX6_moves 166 = .ok (.invokestatic 39, 3) := by decide +kernel
theorem dX6_moves_169 : decode cX6_moves 169 = .ok (.iconst 2, 1) := by decide +kernel
theorem dX6_moves_170 : decode cX6_moves 170 = .ok (.iadd, 1) := by decide +kernel
theorem dX6_moves_171 : decode cX6_moves 171 = .ok (.iload 5, 2) := by decide +kernel
theorem dX6_moves_173 : decode cX6_moves 173 = .ok (.aload_n 0, 1) := by decide +kernel
theorem dX6_moves_174 : decode cX6_moves 174 = .ok (.iload_n 1, 1) := by decide +kernel
theorem dX6_moves_175 : decode cX6_moves 175 = .ok (.iload_n 2, 1) := by decide +kernel
theorem dX6_moves_176 : decode cX6_moves 176 = .ok (.iconst 0, 1) := by decide +kernel
theorem dX6_moves_177 : decode cX6_moves 177 = .ok (.invokevirtual 68, 3) := by decide +kernel
theorem dX6_moves_180 : decode cX6_moves 180 = .ok (.invokestatic 61, 3) := by decide +kernel
theorem dX6_moves_183 : decode cX6_moves 183 = .ok (.if_icmp .ne 7, 3) := by decide +kernel
theorem dX6_moves_186 : decode cX6_moves 186 = .ok (.iconst 1, 1) := by decide +kernel
theorem dX6_moves_187 : decode cX6_moves 187 = .ok (.goto 4, 3) := by decide +kernel
theorem dX6_moves_190 : decode cX6_moves 190 = .ok (.iconst 0, 1) := by decide +kernel
theorem dX6_moves_191 : decode cX6_moves 191 = .ok (.iastore, 1) := by decide +kernel
theorem dX6_moves_192 : decode cX6_moves 192 = .ok (.aload_n 0, 1) := by decide +kernel
theorem dX6_moves_193 : decode cX6_moves 193 = .ok (.iload_n 1, 1) := by decide +kernel
theorem dX6_moves_194 : decode cX6_moves 194 = .ok (.invokevirtual 110, 3) := by decide +kernel
theorem dX6_moves_197 : decode cX6_moves 197 = .ok (.iload 7, 2) := by decide +kernel
theorem dX6_moves_199 : decode cX6_moves 199 = .ok (.ireturn, 1) := by decide +kernel
theorem dX6_waits_0 : decode cX6_waits 0 = .ok (.aload_n 0, 1) := by decide +kernel
theorem dX6_waits_1 : decode cX6_waits 1 = .ok (.iload_n 1, 1) := by decide +kernel
theorem dX6_waits_2 : decode cX6_waits 2 = .ok (.invokevirtual 81, 3) := by decide +kernel
theorem dX6_waits_5 : decode cX6_waits 5 = .ok (.ifCond .eq 6, 3) := by decide +kernel
theorem dX6_waits_8 : decode cX6_waits 8 = .ok (.bipush (-4), 2) := by decide +kernel
theorem dX6_waits_10 : decode cX6_waits 10 = .ok (.ireturn, 1) := by decide +kernel
theorem dX6_waits_11 : decode cX6_waits 11 = .ok (.aload_n 0, 1) := by decide +kernel
theorem dX6_waits_12 : decode cX6_waits 12 = .ok (.iload_n 1, 1) := by decide +kernel
theorem dX6_waits_13 : decode cX6_waits 13 = .ok (.invokevirtual 110, 3) := by decide +kernel
theorem dX6_waits_16 : decode cX6_waits 16 = .ok (.aload_n 0, 1) := by decide +kernel
theorem dX6_waits_17 : decode cX6_waits 17 = .ok (.iload_n 1, 1) := by decide +kernel
theorem dX6_waits_18 : decode cX6_waits 18 = .ok (.aload_n 0, 1) := by decide +kernel
theorem dX6_waits_19 : decode cX6_waits 19 = .ok (.getfield 7, 3) := by decide +kernel
theorem dX6_waits_22 : decode cX6_waits 22 = .ok (.iload_n 1, 1) := by decide +kernel
theorem dX6_waits_23 : decode cX6_waits 23 = .ok (.bipush 126, 2) := by decide +kernel
theorem dX6_waits_25 : decode cX6_waits 25 = .ok (.iadd, 1) := by decide +kernel
theorem dX6_waits_26 : decode cX6_waits 26 = .ok (.iaload, 1) := by decide +kernel
theorem dX6_waits_27 : decode cX6_waits 27 = .ok (.invokevirtual 50, 3) := by decide +kernel
theorem dX6_waits_30 : decode cX6_waits 30 = .ok (.ireturn, 1) := by decide +kernel
theorem dX6_sand_0 : decode cX6_sand 0 = .ok (.aload_n 0, 1) := by decide +kernel
theorem dX6_sand_1 : decode cX6_sand 1 = .ok (.invokevirtual 114, 3) := by decide +kernel
theorem dX6_sand_4 : decode cX6_sand 4 = .ok (.aload_n 0, 1) := by decide +kernel
theorem dX6_sand_5 : decode cX6_sand 5 = .ok (.aload_n 0, 1) := by decide +kernel
theorem dX6_sand_6 : decode cX6_sand 6 = .ok (.sipush 129, 3) := by decide +kernel
theorem dX6_sand_9 : decode cX6_sand 9 = .ok (.iload_n 1, 1) := by decide +kernel
theorem dX6_sand_10 : decode cX6_sand 10 = .ok (.iload_n 2, 1) := by decide +kernel
theorem dX6_sand_11 : decode cX6_sand 11 = .ok (.iload_n 3, 1) := by decide +kernel
theorem dX6_sand_12 : decode cX6_sand 12 = .ok (.ifCond .eq 7, 3) := by decide +kernel
theorem dX6_sand_15 : decode cX6_sand 15 = .ok (.iconst 1, 1) := by decide +kernel
theorem dX6_sand_16 : decode cX6_sand 16 = .ok (.goto 4, 3) := by decide +kernel
theorem dX6_sand_19 : decode cX6_sand 19 = .ok (.iconst 0, 1) := by decide +kernel
theorem dX6_sand_20 : decode cX6_sand 20 = .ok (.invokevirtual 117, 3) := by decide +kernel
theorem dX6_sand_23 : decode cX6_sand 23 = .ok (.invokevirtual 121, 3) := by decide +kernel
theorem dX6_sand_26 : decode cX6_sand 26 = .ok (.ireturn, 1) := by decide +kernel
theorem dX6_boat_0 : decode cX6_boat 0 = .ok (.aload_n 0, 1) := by decide +kernel
theorem dX6_boat_1 : decode cX6_boat 1 = .ok (.invokevirtual 114, 3) := by decide +kernel
theorem dX6_boat_4 : decode cX6_boat 4 = .ok (.aload_n 0, 1) := by decide +kernel
theorem dX6_boat_5 : decode cX6_boat 5 = .ok (.aload_n 0, 1) := by decide +kernel
theorem dX6_boat_6 : decode cX6_boat 6 = .ok (.sipush 129, 3) := by decide +kernel
theorem dX6_boat_9 : decode cX6_boat 9 = .ok (.iload_n 1, 1) := by decide +kernel
theorem dX6_boat_10 : decode cX6_boat 10 = .ok (.iload_n 2, 1) := by decide +kernel
theorem dX6_boat_11 : decode cX6_boat 11 = .ok (.iload_n 3, 1) := by decide +kernel
theorem dX6_boat_12 : decode cX6_boat 12 = .ok (.invokevirtual 124, 3) := by decide +kernel
theorem dX6_boat_15 : decode cX6_boat 15 = .ok (.invokevirtual 121, 3) := by decide +kernel
theorem dX6_boat_18 : decode cX6_boat 18 = .ok (.ireturn, 1) := by decide +kernel
theorem dX6_set_0 : decode cX6_set 0 = .ok (.iload_n 1, 1) := by decide +kernel
theorem dX6_set_1 : decode cX6_set 1 = .ok (.ifCond .ne 12, 3) := by decide +kernel
theorem dX6_set_4 : decode cX6_set 4 = .ok (.iload_n 2, 1) := by decide +kernel
theorem dX6_set_5 : decode cX6_set 5 = .ok (.iconst 0, 1) := by decide +kernel
theorem dX6_set_6 : decode cX6_set 6 = .ok (.iconst 3, 1) := by decide +kernel
theorem dX6_set_7 : decode cX6_set 7 = .ok (.invokestatic 35, 3) := by decide +kernel
theorem dX6_set_10 : decode cX6_set 10 = .ok (.goto 52, 3) := by decide +kernel
theorem dX6_set_13 : decode cX6_set 13 = .ok (.iload_n 1, 1) := by decide +kernel
theorem dX6_set_14 : decode cX6_set 14 = .ok (.iconst 1, 1) := by decide +kernel
theorem dX6_set_15 : decode cX6_set 15 = .ok (.if_icmp .ne 12, 3) := by decide +kernel
theorem dX6_set_18 : decode cX6_set 18 = .ok (.iload_n 2, 1) := by decide +kernel
theorem dX6_set_19 : decode cX6_set 19 = .ok (.iconst 1, 1) := by decide +kernel
theorem dX6_set_20 : decode cX6_set 20 = .ok (.iconst 4, 1) := by decide +kernel
theorem dX6_set_21 : decode cX6_set 21 = .ok (.invokestatic 35, 3) := by decide +kernel
theorem dX6_set_24 : decode cX6_set 24 = .ok (.goto 38, 3) := by decide +kernel
theorem dX6_set_27 : decode cX6_set 27 = .ok (.iload_n 1, 1) := by decide +kernel
theorem dX6_set_28 : decode cX6_set 28 = .ok (.iconst 2, 1) := by decide +kernel
theorem dX6_set_29 : decode cX6_set 29 = .ok (.if_icmp .ne 12, 3) := by decide +kernel
theorem dX6_set_32 : decode cX6_set 32 = .ok (.iload_n 2, 1) := by decide +kernel
theorem dX6_set_33 : decode cX6_set 33 = .ok (.iconst 1, 1) := by decide +kernel
theorem dX6_set_34 : decode cX6_set 34 = .ok (.iconst 3, 1) := by decide +kernel
theorem dX6_set_35 : decode cX6_set 35 = .ok (.invokestatic 35, 3) := by decide +kernel
theorem dX6_set_38 : decode cX6_set 38 = .ok (.goto 24, 3) := by decide +kernel
theorem dX6_set_41 : decode cX6_set 41 = .ok (.iload_n 1, 1) := by decide +kernel
theorem dX6_set_42 : decode cX6_set 42 = .ok (.iconst 3, 1) := by decide +kernel
theorem dX6_set_43 : decode cX6_set 43 = .ok (.if_icmp .ne 18, 3) := by decide +kernel
theorem dX6_set_46 : decode cX6_set 46 = .ok (.iload_n 2, 1) := by decide +kernel
theorem dX6_set_47 : decode cX6_set 47 = .ok (.bipush 10, 2) := by decide +kernel
theorem dX6_set_49 : decode cX6_set 49 = .ok (.bipush 99, 2) := by decide +kernel
theorem dX6_set_51 : decode cX6_set 51 = .ok (.invokestatic 35, 3) := by decide +kernel
theorem dX6_set_54 : decode cX6_set 54 = .ok (.ifCond .eq 7, 3) := by decide +kernel
theorem dX6_set_57 : decode cX6_set 57 = .ok (.iconst 1, 1) := by decide +kernel
theorem dX6_set_58 : decode cX6_set 58 = .ok (.goto 4, 3) := by decide +kernel
theorem dX6_set_61 : decode cX6_set 61 = .ok (.iconst 0, 1) := by decide +kernel
theorem dX6_set_62 : decode cX6_set 62 = .ok (.istore_n 3, 1) := by decide +kernel
theorem dX6_set_63 : decode cX6_set 63 = .ok (.iload_n 3, 1) := by decide +kernel
theorem dX6_set_64 : decode cX6_set 64 = .ok (.ifCond .ne 6, 3) := by decide +kernel
theorem dX6_set_67 : decode cX6_set 67 = .ok (.bipush (-2), 2) := by decide +kernel
theorem dX6_set_69 : decode cX6_set 69 = .ok (.ireturn, 1) := by decide +kernel
theorem dX6_set_70 : decode cX6_set 70 = .ok (.aload_n 0, 1) := by decide +kernel
theorem dX6_set_71 : decode cX6_set 71 = .ok (.getfield 7, 3) := by decide +kernel
theorem dX6_set_74 : decode cX6_set 74 = .ok (.bipush 126, 2) := by decide +kernel
theorem dX6_set_76 : decode cX6_set 76 = .ok (.iaload, 1) := by decide +kernel
theorem dX6_set_77 : decode cX6_set 77 = .ok (.ifCond .eq 6, 3) := by decide +kernel
theorem dX6_set_80 : decode cX6_set 80 = .ok (.bipush (-4), 2) := by decide +kernel
theorem dX6_set_82 : decode cX6_set 82 = .ok (.ireturn, 1) := by decide +kernel
theorem dX6_set_83 : decode cX6_set 83 = .ok (.aload_n 0, 1) := by decide +kernel
theorem dX6_set_84 : decode cX6_set 84 = .ok (.getfield 7, 3) := by decide +kernel
theorem dX6_set_87 : decode cX6_set 87 = .ok (.bipush 122, 2) := by decide +kernel
theorem dX6_set_89 : decode cX6_set 89 = .ok (.iload_n 1, 1) := by decide +kernel
theorem dX6_set_90 : decode cX6_set 90 = .ok (.iadd, 1) := by decide +kernel
theorem dX6_set_91 : decode cX6_set 91 = .ok (.iaload, 1) := by decide +kernel
theorem dX6_set_92 : decode cX6_set 92 = .ok (.istore 4, 2) := by decide +kernel
theorem dX6_set_94 : decode cX6_set 94 = .ok (.iload 4, 2) := by decide +kernel
theorem dX6_set_96 : decode cX6_set 96 = .ok (.iload_n 2, 1) := by decide +kernel
theorem dX6_set_97 : decode cX6_set 97 = .ok (.if_icmp .ne 6, 3) := by decide +kernel
theorem dX6_set_100 : decode cX6_set 100 = .ok (.bipush (-5), 2) := by decide +kernel
theorem dX6_set_102 : decode cX6_set 102 = .ok (.ireturn, 1) := by decide +kernel
theorem dX6_set_103 : decode cX6_set 103 = .ok (.aload_n 0, 1) := by decide +kernel
theorem dX6_set_104 : decode cX6_set 104 = .ok (.invokevirtual 47, 3) := by decide +kernel
theorem dX6_set_107 : decode cX6_set 107 = .ok (.aload_n 0, 1) := by decide +kernel
theorem dX6_set_108 : decode cX6_set 108 = .ok (.getfield 7, 3) := by decide +kernel
theorem dX6_set_111 : decode cX6_set 111 = .ok (.bipush 122, 2) := by decide +kernel
theorem dX6_set_113 : decode cX6_set 113 = .ok (.iload_n 1, 1) := by decide +kernel
theorem dX6_set_114 : decode cX6_set 114 = .ok (.iadd, 1) := by decide +kernel
theorem dX6_set_115 : decode cX6_set 115 = .ok (.iload_n 2, 1) := by decide +kernel
theorem dX6_set_116 : decode cX6_set 116 = .ok (.iastore, 1) := by decide +kernel
theorem dX6_set_117 : decode cX6_set 117 = .ok (.iload 4, 2) := by decide +kernel
theorem dX6_set_119 : decode cX6_set 119 = .ok (.ireturn, 1) := by decide +kernel
theorem dX6_move_0 : decode cX6_move 0 = .ok (.aload_n 0, 1) := by decide +kernel
theorem dX6_move_1 : decode cX6_move 1 = .ok (.invokevirtual 114, 3) := by decide +kernel
theorem dX6_move_4 : decode cX6_move 4 = .ok (.aload_n 0, 1) := by decide +kernel
theorem dX6_move_5 : decode cX6_move 5 = .ok (.aload_n 0, 1) := by decide +kernel
theorem dX6_move_6 : decode cX6_move 6 = .ok (.sipush 129, 3) := by decide +kernel
theorem dX6_move_9 : decode cX6_move 9 = .ok (.iload_n 1, 1) := by decide +kernel
theorem dX6_move_10 : decode cX6_move 10 = .ok (.iload_n 2, 1) := by decide +kernel
theorem dX6_move_11 : decode cX6_move 11 = .ok (.iload_n 3, 1) := by decide +kernel
theorem dX6_move_12 : decode cX6_move 12 = .ok (.invokestatic 127, 3) := by decide +kernel
theorem dX6_move_15 : decode cX6_move 15 = .ok (.invokevirtual 130, 3) := by decide +kernel
theorem dX6_move_18 : decode cX6_move 18 = .ok (.invokevirtual 121, 3) := by decide +kernel
theorem dX6_move_21 : decode cX6_move 21 = .ok (.ireturn, 1) := by decide +kernel
theorem dX6_pause_0 : decode cX6_pause 0 = .ok (.aload_n 0, 1) := by decide +kernel
theorem dX6_pause_1 : decode cX6_pause 1 = .ok (.invokevirtual 114, 3) := by decide +kernel
theorem dX6_pause_4 : decode cX6_pause 4 = .ok (.aload_n 0, 1) := by decide +kernel
theorem dX6_pause_5 : decode cX6_pause 5 = .ok (.aload_n 0, 1) := by decide +kernel
theorem dX6_pause_6 : decode cX6_pause 6 = .ok (.sipush 129, 3) := by decide +kernel
theorem dX6_pause_9 : decode cX6_pause 9 = .ok (.invokevirtual 133, 3) := by decide +kernel
theorem dX6_pause_12 : decode cX6_pause 12 = .ok (.invokevirtual 121, 3) := by decide +kernel
theorem dX6_pause_15 : decode cX6_pause 15 = .ok (.ireturn, 1) := by decide +kernel
theorem dX6_type_0 : decode cX6_type 0 = .ok (.aload_n 0, 1) := by decide +kernel
theorem dX6_type_1 : decode cX6_type 1 = .ok (.getfield 136, 3) := by decide +kernel
theorem dX6_type_4 : decode cX6_type 4 = .ok (.bipush 60, 2) := by decide +kernel
theorem dX6_type_6 : decode cX6_type 6 = .ok (.if_icmp .ne 6, 3) := by decide +kernel
theorem dX6_type_9 : decode cX6_type 9 = .ok (.bipush (-3), 2) := by decide +kernel
theorem dX6_type_11 : decode cX6_type 11 = .ok (.ireturn, 1) := by decide +kernel
theorem dX6_type_12 : decode cX6_type 12 = .ok (.aload_n 0, 1) := by decide +kernel
theorem dX6_type_13 : decode cX6_type 13 = .ok (.getfield 19, 3) := by decide +kernel
theorem dX6_type_16 : decode cX6_type 16 = .ok (.aload_n 0, 1) := by decide +kernel
theorem dX6_type_17 : decode cX6_type 17 = .ok (.getfield 136, 3) := by decide +kernel
theorem dX6_type_20 : decode cX6_type 20 = .ok (.iload_n 1, 1) := by decide +kernel
theorem dX6_type_21 : decode cX6_type 21 = .ok (.iastore, 1) := by decide +kernel
theorem dX6_type_22 : decode cX6_type 22 = .ok (.aload_n 0, 1) := by decide +kernel
theorem dX6_type_23 : decode cX6_type 23 = .ok (.dup, 1) := by decide +kernel
theorem dX6_type_24 : decode cX6_type 24 = .ok (.getfield 136, 3) := by decide +kernel
theorem dX6_type_27 : decode cX6_type 27 = .ok (.iconst 1, 1) := by decide +kernel
theorem dX6_type_28 : decode cX6_type 28 = .ok (.iadd, 1) := by decide +kernel
theorem dX6_type_29 : decode cX6_type 29 = .ok (.putfield 136, 3) := by decide +kernel
theorem dX6_type_32 : decode cX6_type 32 = .ok (.aload_n 0, 1) := by decide +kernel
theorem dX6_type_33 : decode cX6_type 33 = .ok (.getfield 136, 3) := by decide +kernel
theorem dX6_type_36 : decode cX6_type 36 = .ok (.ireturn, 1) := by decide +kernel
theorem dX6_clearText_0 : decode cX6_clearText 0 = .ok (.aload_n 0, 1) := by decide +kernel
theorem dX6_clearText_1 : decode cX6_clearText 1 = .ok (.getfield 136, 3) := by decide +kernel
theorem dX6_clearText_4 : decode cX6_clearText 4 = .ok (.istore_n 1, 1) := by decide +kernel
theorem dX6_clearText_5 : decode cX6_clearText 5 = .ok (.aload_n 0, 1) := by decide +kernel
theorem dX6_clearText_6 : decode cX6_clearText 6 = .ok (.iconst 0, 1) := by decide +kernel
theorem dX6_clearText_7 : decode cX6_clearText 7 = .ok (.putfield 136, 3) := by decide +kernel
theorem dX6_clearText_10 : decode cX6_clearText 10 = .ok (.iload_n 1, 1) := by decide +kernel
theorem dX6_clearText_11 : decode cX6_clearText 11 = .ok (.ireturn, 1) := by decide +kernel
theorem dX6_sign_0 : decode cX6_sign 0 = .ok (.iload_n 1, 1) := by decide +kernel
theorem dX6_sign_1 : decode cX6_sign 1 = .ok (.aload_n 0, 1) := by decide +kernel
theorem dX6_sign_2 : decode cX6_sign 2 = .ok (.getfield 136, 3) := by decide +kernel
theorem dX6_sign_5 : decode cX6_sign 5 = .ok (.if_icmp .ge 12, 3) := by decide +kernel
theorem dX6_sign_8 : decode cX6_sign 8 = .ok (.aload_n 0, 1) := by decide +kernel
theorem dX6_sign_9 : decode cX6_sign 9 = .ok (.getfield 19, 3) := by decide +kernel
theorem dX6_sign_12 : decode cX6_sign 12 = .ok (.iload_n 1, 1) := by decide +kernel
theorem dX6_sign_13 : decode cX6_sign 13 = .ok (.iaload, 1) := by decide +kernel
theorem dX6_sign_14 : decode cX6_sign 14 = .ok (.goto 4, 3) := by decide +kernel
theorem dX6_sign_17 : decode cX6_sign 17 = .ok (.iconst (-1), 1) := by decide +kernel
theorem dX6_sign_18 : decode cX6_sign 18 = .ok (.ireturn, 1) := by decide +kernel
theorem dX6_isSign_0 : decode cX6_isSign 0 = .ok (.aload_n 0, 1) := by decide +kernel
theorem dX6_isSign_1 : decode cX6_isSign 1 = .ok (.iload_n 1, 1) := by decide +kernel
theorem dX6_isSign_2 : decode cX6_isSign 2 = .ok (.invokevirtual 139, 3) := by decide +kernel
theorem dX6_isSign_5 : decode cX6_isSign 5 = .ok (.iload_n 2, 1) := by decide +kernel
theorem dX6_isSign_6 : decode cX6_isSign 6 = .ok (.iload_n 3, 1) := by decide +kernel
theorem dX6_isSign_7 : decode cX6_isSign 7 = .ok (.invokestatic 35, 3) := by decide +kernel
theorem dX6_isSign_10 : decode cX6_isSign 10 = .ok (.ireturn, 1) := by decide +kernel
theorem dX6_cellEnd_0 : decode cX6_cellEnd 0 = .ok (.aload_n 0, 1) := by decide +kernel
theorem dX6_cellEnd_1 : decode cX6_cellEnd 1 = .ok (.iload_n 1, 1) := by decide +kernel
theorem dX6_cellEnd_2 : decode cX6_cellEnd 2 = .ok (.bipush 97, 2) := by decide +kernel
theorem dX6_cellEnd_4 : decode cX6_cellEnd 4 = .ok (.bipush 102, 2) := by decide +kernel
theorem dX6_cellEnd_6 : decode cX6_cellEnd 6 = .ok (.invokevirtual 142, 3) := by decide +kernel
theorem dX6_cellEnd_9 : decode cX6_cellEnd 9 = .ok (.ifCond .ne 7, 3) := by decide +kernel
theorem dX6_cellEnd_12 : decode cX6_cellEnd 12 = .ok (.iconst (-1), 1) := by decide +kernel
theorem dX6_cellEnd_13 : decode cX6_cellEnd 13 = .ok (.iload_n 1, 1) := by decide +kernel
theorem dX6_cellEnd_14 : decode cX6_cellEnd 14 = .ok (.isub, 1) := by decide +kernel
theorem dX6_cellEnd_15 : decode cX6_cellEnd 15 = .ok (.ireturn, 1) := by decide +kernel
theorem dX6_cellEnd_16 : decode cX6_cellEnd 16 = .ok (.aload_n 0, 1) := by decide +kernel
theorem dX6_cellEnd_17 : decode cX6_cellEnd 17 = .ok (.iload_n 1, 1) := by decide +kernel
theorem dX6_cellEnd_18 : decode cX6_cellEnd 18 = .ok (.iconst 1, 1) := by decide +kernel
theorem dX6_cellEnd_19 : decode cX6_cellEnd 19 = .ok (.iadd, 1) := by decide +kernel
theorem dX6_cellEnd_20 : decode cX6_cellEnd 20 = .ok (.bipush 49, 2) := by decide +kernel
theorem dX6_cellEnd_22 : decode cX6_cellEnd 22 = .ok (.bipush 54, 2) := by decide +kernel
theorem dX6_cellEnd_24 : decode cX6_cellEnd 24 = .ok (.invokevirtual 142, 3) := by decide +kernel
theorem dX6_cellEnd_27 : decode cX6_cellEnd 27 = .ok (.ifCond .eq 9, 3) := by decide +kernel
theorem dX6_cellEnd_30 : decode cX6_cellEnd 30 = .ok (.iload_n 1, 1) := by decide +kernel
theorem dX6_cellEnd_31 : decode cX6_cellEnd 31 = .ok (.iconst 2, 1) := by decide +kernel
theorem dX6_cellEnd_32 : decode cX6_cellEnd 32 = .ok (.iadd, 1) := by decide +kernel
theorem dX6_cellEnd_33 : decode cX6_cellEnd 33 = .ok (.goto 7, 3) := by decide +kernel
theorem dX6_cellEnd_36 : decode cX6_cellEnd 36 = .ok (.bipush (-2), 2) := by decide +kernel
theorem dX6_cellEnd_38 : decode cX6_cellEnd 38 = .ok (.iload_n 1, 1) := by decide +kernel
theorem dX6_cellEnd_39 : decode cX6_cellEnd 39 = .ok (.isub, 1) := by decide +kernel
theorem dX6_cellEnd_40 : decode cX6_cellEnd 40 = .ok (.ireturn, 1) := by decide +kernel
theorem dX6_cellIn_0 : decode cX6_cellIn 0 = .ok (.bipush 6, 2) := by decide +kernel
theorem dX6_cellIn_2 : decode cX6_cellIn 2 = .ok (.aload_n 0, 1) := by decide +kernel
theorem dX6_cellIn_3 : decode cX6_cellIn 3 = .ok (.iload_n 1, 1) := by decide +kernel
theorem dX6_cellIn_4 : decode cX6_cellIn 4 = .ok (.iconst 1, 1) := by decide +kernel
theorem dX6_cellIn_5 : decode cX6_cellIn 5 = .ok (.iadd, 1) := by decide +kernel
theorem dX6_cellIn_6 : decode cX6_cellIn 6 = .ok (.invokevirtual 139, 3) := by decide +kernel
theorem dX6_cellIn_9 : decode cX6_cellIn 9 = .ok (.bipush 49, 2) := by decide +kernel
theorem dX6_cellIn_11 : decode cX6_cellIn 11 = .ok (.isub, 1) := by decide +kernel
theorem dX6_cellIn_12 : decode cX6_cellIn 12 = .ok (.imul, 1) := by decide +kernel
theorem dX6_cellIn_13 : decode cX6_cellIn 13 = .ok (.aload_n 0, 1) := by decide +kernel
theorem dX6_cellIn_14 : decode cX6_cellIn 14 = .ok (.iload_n 1, 1) := by decide +kernel
theorem dX6_cellIn_15 : decode cX6_cellIn 15 = .ok (.invokevirtual 139, 3) := by decide +kernel
theorem dX6_cellIn_18 : decode cX6_cellIn 18 = .ok (.iadd, 1) := by decide +kernel
theorem dX6_cellIn_19 : decode cX6_cellIn 19 = .ok (.bipush 97, 2) := by decide +kernel
theorem dX6_cellIn_21 : decode cX6_cellIn 21 = .ok (.isub, 1) := by decide +kernel
theorem dX6_cellIn_22 : decode cX6_cellIn 22 = .ok (.ireturn, 1) := by decide +kernel
theorem dX6_directionOf_0 : decode cX6_directionOf 0 = .ok (.iload_n 1, 1) := by decide +kernel
theorem dX6_directionOf_1 : decode cX6_directionOf 1 = .ok (.bipush 114, 2) := by decide +kernel
theorem dX6_directionOf_3 : decode cX6_directionOf 3 = .ok (.if_icmp .ne 7, 3) := by decide +kernel
theorem dX6_directionOf_6 : decode cX6_directionOf 6 = .ok (.iconst 0, 1) := by decide +kernel
theorem dX6_directionOf_7 : decode cX6_directionOf 7 = .ok (.goto 35, 3) := by decide +kernel
theorem dX6_directionOf_10 : decode cX6_directionOf 10 = .ok (.iload_n 1, 1) := by decide +kernel
theorem dX6_directionOf_11 : decode cX6_directionOf 11 = .ok (.bipush 100, 2) := by decide +kernel
theorem dX6_directionOf_13 : decode cX6_directionOf 13 = .ok (.if_icmp .ne 7, 3) := by decide +kernel
theorem dX6_directionOf_16 : decode cX6_directionOf 16 = .ok (.iconst 1, 1) := by decide +kernel
theorem dX6_directionOf_17 : decode cX6_directionOf 17 = .ok (.goto 25, 3) := by decide +kernel
theorem dX6_directionOf_20 : decode cX6_directionOf 20 = .ok (.iload_n 1, 1) := by decide +kernel
theorem dX6_directionOf_21 : decode cX6_directionOf 21 = .ok (.bipush 108, 2) := by decide +kernel
theorem dX6_directionOf_23 : decode cX6_directionOf 23 = .ok (.if_icmp .ne 7, 3) := by decide +kernel
theorem dX6_directionOf_26 : decode cX6_directionOf 26 = .ok (.iconst 2, 1) := by decide +kernel
theorem dX6_directionOf_27 : decode cX6_directionOf 27 = .ok (.goto 15, 3) := by decide +kernel
theorem dX6_directionOf_30 : decode cX6_directionOf 30 = .ok (.iload_n 1, 1) := by decide +kernel
theorem dX6_directionOf_31 : decode cX6_directionOf 31 = .ok (.bipush 117, 2) := by decide +kernel
theorem dX6_directionOf_33 : decode cX6_directionOf 33 = .ok (.if_icmp .ne 7, 3) := by decide +kernel
theorem dX6_directionOf_36 : decode cX6_directionOf 36 = .ok (.iconst 3, 1) := by decide +kernel
theorem dX6_directionOf_37 : decode cX6_directionOf 37 = .ok (.goto 5, 3) := by decide +kernel
theorem dX6_directionOf_40 : decode cX6_directionOf 40 = .ok (.bipush (-5), 2) := by decide +kernel
theorem dX6_directionOf_42 : decode cX6_directionOf 42 = .ok (.ireturn, 1) := by decide +kernel
theorem dX6_sandEnd_0 : decode cX6_sandEnd 0 = .ok (.aload_n 0, 1) := by decide +kernel
theorem dX6_sandEnd_1 : decode cX6_sandEnd 1 = .ok (.iload_n 1, 1) := by decide +kernel
theorem dX6_sandEnd_2 : decode cX6_sandEnd 2 = .ok (.invokevirtual 145, 3) := by decide +kernel
theorem dX6_sandEnd_5 : decode cX6_sandEnd 5 = .ok (.istore_n 2, 1) := by decide +kernel
theorem dX6_sandEnd_6 : decode cX6_sandEnd 6 = .ok (.iload_n 2, 1) := by decide +kernel
theorem dX6_sandEnd_7 : decode cX6_sandEnd 7 = .ok (.ifCond .lt 13, 3) := by decide +kernel
theorem dX6_sandEnd_10 : decode cX6_sandEnd 10 = .ok (.aload_n 0, 1) := by decide +kernel
theorem dX6_sandEnd_11 : decode cX6_sandEnd 11 = .ok (.iload_n 2, 1) := by decide +kernel
theorem dX6_sandEnd_12 : decode cX6_sandEnd 12 = .ok (.invokevirtual 139, 3) := by decide +kernel
theorem dX6_sandEnd_15 : decode cX6_sandEnd 15 = .ok (.bipush 61, 2) := by decide +kernel
theorem dX6_sandEnd_17 : decode cX6_sandEnd 17 = .ok (.if_icmp .eq 15, 3) := by decide +kernel
theorem dX6_sandEnd_20 : decode cX6_sandEnd 20 = .ok (.iload_n 2, 1) := by decide +kernel
theorem dX6_sandEnd_21 : decode cX6_sandEnd 21 = .ok (.ifCond .ge 7, 3) := by decide +kernel
theorem dX6_sandEnd_24 : decode cX6_sandEnd 24 = .ok (.iload_n 2, 1) := by decide +kernel
theorem dX6_sandEnd_25 : decode cX6_sandEnd 25 = .ok (.goto 6, 3) := by decide +kernel
theorem dX6_sandEnd_28 : decode cX6_sandEnd 28 = .ok (.iconst (-1), 1) := by decide +kernel
theorem dX6_sandEnd_29 : decode cX6_sandEnd 29 = .ok (.iload_n 2, 1) := by decide +kernel
theorem dX6_sandEnd_30 : decode cX6_sandEnd 30 = .ok (.isub, 1) := by decide +kernel
theorem dX6_sandEnd_31 : decode cX6_sandEnd 31 = .ok (.ireturn, 1) := by decide +kernel
theorem dX6_sandEnd_32 : decode cX6_sandEnd 32 = .ok (.aload_n 0, 1) := by decide +kernel
theorem dX6_sandEnd_33 : decode cX6_sandEnd 33 = .ok (.iload_n 2, 1) := by decide +kernel
theorem dX6_sandEnd_34 : decode cX6_sandEnd 34 = .ok (.iconst 1, 1) := by decide +kernel
theorem dX6_sandEnd_35 : decode cX6_sandEnd 35 = .ok (.iadd, 1) := by decide +kernel
theorem dX6_sandEnd_36 : decode cX6_sandEnd 36 = .ok (.bipush 48, 2) := by decide +kernel
theorem dX6_sandEnd_38 : decode cX6_sandEnd 38 = .ok (.bipush 52, 2) := by decide +kernel
theorem dX6_sandEnd_40 : decode cX6_sandEnd 40 = .ok (.invokevirtual 142, 3) := by decide +kernel
theorem dX6_sandEnd_43 : decode cX6_sandEnd 43 = .ok (.ifCond .ne 8, 3) := by decide +kernel
theorem dX6_sandEnd_46 : decode cX6_sandEnd 46 = .ok (.bipush (-2), 2) := by decide +kernel
theorem dX6_sandEnd_48 : decode cX6_sandEnd 48 = .ok (.iload_n 2, 1) := by decide +kernel
theorem dX6_sandEnd_49 : decode cX6_sandEnd 49 = .ok (.isub, 1) := by decide +kernel
theorem dX6_sandEnd_50 : decode cX6_sandEnd 50 = .ok (.ireturn, 1) := by decide +kernel
theorem dX6_sandEnd_51 : decode cX6_sandEnd 51 = .ok (.aload_n 0, 1) := by decide +kernel
theorem dX6_sandEnd_52 : decode cX6_sandEnd 52 = .ok (.iload_n 2, 1) := by decide +kernel
theorem dX6_sandEnd_53 : decode cX6_sandEnd 53 = .ok (.iconst 2, 1) := by decide +kernel
theorem dX6_sandEnd_54 : decode cX6_sandEnd 54 = .ok (.iadd, 1) := by decide +kernel
theorem dX6_sandEnd_55 : decode cX6_sandEnd 55 = .ok (.invokevirtual 139, 3) := by decide +kernel
theorem dX6_sandEnd_58 : decode cX6_sandEnd 58 = .ok (.bipush 42, 2) := by decide +kernel
theorem dX6_sandEnd_60 : decode cX6_sandEnd 60 = .ok (.if_icmp .ne 9, 3) := by decide +kernel
theorem dX6_sandEnd_63 : decode cX6_sandEnd 63 = .ok (.iload_n 2, 1) := by decide +kernel
theorem dX6_sandEnd_64 : decode cX6_sandEnd 64 = .ok (.iconst 3, 1) := by decide +kernel
theorem dX6_sandEnd_65 : decode cX6_sandEnd 65 = .ok (.iadd, 1) := by decide +kernel
theorem dX6_sandEnd_66 : decode cX6_sandEnd 66 = .ok (.goto 6, 3) := by decide +kernel
theorem dX6_sandEnd_69 : decode cX6_sandEnd 69 = .ok (.iload_n 2, 1) := by decide +kernel
theorem dX6_sandEnd_70 : decode cX6_sandEnd 70 = .ok (.iconst 2, 1) := by decide +kernel
theorem dX6_sandEnd_71 : decode cX6_sandEnd 71 = .ok (.iadd, 1) := by decide +kernel
theorem dX6_sandEnd_72 : decode cX6_sandEnd 72 = .ok (.ireturn, 1) := by decide +kernel
theorem dX6_orderEnd_0 : decode cX6_orderEnd 0 = .ok (.aload_n 0, 1) := by decide +kernel
theorem dX6_orderEnd_1 : decode cX6_orderEnd 1 = .ok (.iload_n 1, 1) := by decide +kernel
theorem dX6_orderEnd_2 : decode cX6_orderEnd 2 = .ok (.invokevirtual 139, 3) := by decide +kernel
theorem dX6_orderEnd_5 : decode cX6_orderEnd 5 = .ok (.bipush 119, 2) := by decide +kernel
theorem dX6_orderEnd_7 : decode cX6_orderEnd 7 = .ok (.if_icmp .ne 7, 3) := by decide +kernel
theorem dX6_orderEnd_10 : decode cX6_orderEnd 10 = .ok (.iload_n 1, 1) := by decide +kernel
theorem dX6_orderEnd_11 : decode cX6_orderEnd 11 = .ok (.iconst 1, 1) := by decide +kernel
theorem dX6_orderEnd_12 : decode cX6_orderEnd 12 = .ok (.iadd, 1) := by decide +kernel
theorem dX6_orderEnd_13 : decode cX6_orderEnd 13 = .ok (.ireturn, 1) := by decide +kernel
theorem dX6_orderEnd_14 : decode cX6_orderEnd 14 = .ok (.aload_n 0, 1) := by decide +kernel
theorem dX6_orderEnd_15 : decode cX6_orderEnd 15 = .ok (.iload_n 1, 1) := by decide +kernel
theorem dX6_orderEnd_16 : decode cX6_orderEnd 16 = .ok (.invokevirtual 139, 3) := by decide +kernel
theorem dX6_orderEnd_19 : decode cX6_orderEnd 19 = .ok (.bipush 43, 2) := by decide +kernel
theorem dX6_orderEnd_21 : decode cX6_orderEnd 21 = .ok (.if_icmp .ne 55, 3) := by decide +kernel
theorem dX6_orderEnd_24 : decode cX6_orderEnd 24 = .ok (.aload_n 0, 1) := by decide +kernel
theorem dX6_orderEnd_25 : decode cX6_orderEnd 25 = .ok (.iload_n 1, 1) := by decide +kernel
theorem dX6_orderEnd_26 : decode cX6_orderEnd 26 = .ok (.iconst 1, 1) := by decide +kernel
theorem dX6_orderEnd_27 : decode cX6_orderEnd 27 = .ok (.iadd, 1) := by decide +kernel
theorem dX6_orderEnd_28 : decode cX6_orderEnd 28 = .ok (.bipush 48, 2) := by decide +kernel
theorem dX6_orderEnd_30 : decode cX6_orderEnd 30 = .ok (.bipush 49, 2) := by decide +kernel
theorem dX6_orderEnd_32 : decode cX6_orderEnd 32 = .ok (.invokevirtual 142, 3) := by decide +kernel
theorem dX6_orderEnd_35 : decode cX6_orderEnd 35 = .ok (.istore_n 2, 1) := by decide +kernel
theorem dX6_orderEnd_36 : decode cX6_orderEnd 36 = .ok (.iload_n 2, 1) := by decide +kernel
theorem dX6_orderEnd_37 : decode cX6_orderEnd 37 = .ok (.ifCond .ne 10, 3) := by decide +kernel
theorem dX6_orderEnd_40 : decode cX6_orderEnd 40 = .ok (.bipush (-2), 2) := by decide +kernel
theorem dX6_orderEnd_42 : decode cX6_orderEnd 42 = .ok (.iload_n 1, 1) := by decide +kernel
theorem dX6_orderEnd_43 : decode cX6_orderEnd 43 = .ok (.isub, 1) := by decide +kernel
theorem dX6_orderEnd_44 : decode cX6_orderEnd 44 = .ok (.goto 31, 3) := by decide +kernel
theorem dX6_orderEnd_47 : decode cX6_orderEnd 47 = .ok (.aload_n 0, 1) := by decide +kernel
theorem dX6_orderEnd_48 : decode cX6_orderEnd 48 = .ok (.iload_n 1, 1) := by decide +kernel
theorem dX6_orderEnd_49 : decode cX6_orderEnd 49 = .ok (.iconst 2, 1) := by decide +kernel
theorem dX6_orderEnd_50 : decode cX6_orderEnd 50 = .ok (.iadd, 1) := by decide +kernel
theorem dX6_orderEnd_51 : decode cX6_orderEnd 51 = .ok (.bipush 49, 2) := by decide +kernel
theorem dX6_orderEnd_53 : decode cX6_orderEnd 53 = .ok (.bipush 51, 2) := by decide +kernel
theorem dX6_orderEnd_55 : decode cX6_orderEnd 55 = .ok (.invokevirtual 142, 3) := by decide +kernel
theorem dX6_orderEnd_58 : decode cX6_orderEnd 58 = .ok (.ifCond .ne 10, 3) := by decide +kernel
theorem dX6_orderEnd_61 : decode cX6_orderEnd 61 = .ok (.bipush (-3), 2) := by decide +kernel
theorem dX6_orderEnd_63 : decode cX6_orderEnd 63 = .ok (.iload_n 1, 1) := by decide +kernel
theorem dX6_orderEnd_64 : decode cX6_orderEnd 64 = .ok (.isub, 1) := by decide +kernel
theorem dX6_orderEnd_65 : decode cX6_orderEnd 65 = .ok (.goto 10, 3) := by decide +kernel
theorem dX6_orderEnd_68 : decode cX6_orderEnd 68 = .ok (.aload_n 0, 1) := by decide +kernel
theorem dX6_orderEnd_69 : decode cX6_orderEnd 69 = .ok (.iload_n 1, 1) := by decide +kernel
theorem dX6_orderEnd_70 : decode cX6_orderEnd 70 = .ok (.iconst 3, 1) := by decide +kernel
theorem dX6_orderEnd_71 : decode cX6_orderEnd 71 = .ok (.iadd, 1) := by decide +kernel
theorem dX6_orderEnd_72 : decode cX6_orderEnd 72 = .ok (.invokevirtual 145, 3) := by decide +kernel
theorem dX6_orderEnd_75 : decode cX6_orderEnd 75 = .ok (.ireturn, 1) := by decide +kernel
theorem dX6_orderEnd_76 : decode cX6_orderEnd 76 = .ok (.aload_n 0, 1) := by decide +kernel
theorem dX6_orderEnd_77 : decode cX6_orderEnd 77 = .ok (.iload_n 1, 1) := by decide +kernel
theorem dX6_orderEnd_78 : decode cX6_orderEnd 78 = .ok (.bipush 48, 2) := by decide +kernel
theorem dX6_orderEnd_80 : decode cX6_orderEnd 80 = .ok (.bipush 57, 2) := by decide +kernel
theorem dX6_orderEnd_82 : decode cX6_orderEnd 82 = .ok (.invokevirtual 142, 3) := by decide +kernel
theorem dX6_orderEnd_85 : decode cX6_orderEnd 85 = .ok (.ifCond .eq 51, 3) := by decide +kernel
theorem dX6_orderEnd_88 : decode cX6_orderEnd 88 = .ok (.aload_n 0, 1) := by decide +kernel
theorem dX6_orderEnd_89 : decode cX6_orderEnd 89 = .ok (.aload_n 0, 1) := by decide +kernel
theorem dX6_orderEnd_90 : decode cX6_orderEnd 90 = .ok (.iload_n 1, 1) := by decide +kernel
theorem dX6_orderEnd_91 : decode cX6_orderEnd 91 = .ok (.iconst 1, 1) := by decide +kernel
theorem dX6_orderEnd_92 : decode cX6_orderEnd 92 = .ok (.iadd, 1) := by decide +kernel
theorem dX6_orderEnd_93 : decode cX6_orderEnd 93 = .ok (.invokevirtual 139, 3) := by decide +kernel
theorem dX6_orderEnd_96 : decode cX6_orderEnd 96 = .ok (.invokevirtual 148, 3) := by decide +kernel
theorem dX6_orderEnd_99 : decode cX6_orderEnd 99 = .ok (.bipush (-5), 2) := by decide +kernel
theorem dX6_orderEnd_101 : decode cX6_orderEnd 101 = .ok (.if_icmp .ne 10, 3) := by decide +kernel
theorem dX6_orderEnd_104 : decode cX6_orderEnd 104 = .ok (.bipush (-2), 2) := by decide +kernel
theorem dX6_orderEnd_106 : decode cX6_orderEnd 106 = .ok (.iload_n 1, 1) := by decide +kernel
theorem dX6_orderEnd_107 : decode cX6_orderEnd 107 = .ok (.isub, 1) := by decide +kernel
theorem dX6_orderEnd_108 : decode cX6_orderEnd 108 = .ok (.goto 27, 3) := by decide +kernel
theorem dX6_orderEnd_111 : decode cX6_orderEnd 111 = .ok (.aload_n 0, 1) := by decide +kernel
theorem dX6_orderEnd_112 : decode cX6_orderEnd 112 = .ok (.iload_n 1, 1) := by decide +kernel
theorem dX6_orderEnd_113 : decode cX6_orderEnd 113 = .ok (.iconst 2, 1) := by decide +kernel
theorem dX6_orderEnd_114 : decode cX6_orderEnd 114 = .ok (.iadd, 1) := by decide +kernel
theorem dX6_orderEnd_115 : decode cX6_orderEnd 115 = .ok (.bipush 49, 2) := by decide +kernel
theorem dX6_orderEnd_117 : decode cX6_orderEnd 117 = .ok (.bipush 51, 2) := by decide +kernel
theorem dX6_orderEnd_119 : decode cX6_orderEnd 119 = .ok (.invokevirtual 142, 3) := by decide +kernel
theorem dX6_orderEnd_122 : decode cX6_orderEnd 122 = .ok (.ifCond .eq 9, 3) := by decide +kernel
theorem dX6_orderEnd_125 : decode cX6_orderEnd 125 = .ok (.iload_n 1, 1) := by decide +kernel
theorem dX6_orderEnd_126 : decode cX6_orderEnd 126 = .ok (.iconst 3, 1) := by decide +kernel
theorem dX6_orderEnd_127 : decode cX6_orderEnd 127 = .ok (.iadd, 1) := by decide +kernel
theorem dX6_orderEnd_128 : decode cX6_orderEnd 128 = .ok (.goto 7, 3) := by decide +kernel
theorem dX6_orderEnd_131 : decode cX6_orderEnd 131 = .ok (.bipush (-3), 2) := by decide +kernel
theorem dX6_orderEnd_133 : decode cX6_orderEnd 133 = .ok (.iload_n 1, 1) := by decide +kernel
theorem dX6_orderEnd_134 : decode cX6_orderEnd 134 = .ok (.isub, 1) := by decide +kernel
theorem dX6_orderEnd_135 : decode cX6_orderEnd 135 = .ok (.ireturn, 1) := by decide +kernel
theorem dX6_orderEnd_136 : decode cX6_orderEnd 136 = .ok (.aload_n 0, 1) := by decide +kernel
theorem dX6_orderEnd_137 : decode cX6_orderEnd 137 = .ok (.iload_n 1, 1) := by decide +kernel
theorem dX6_orderEnd_138 : decode cX6_orderEnd 138 = .ok (.invokevirtual 151, 3) := by decide +kernel
theorem dX6_orderEnd_141 : decode cX6_orderEnd 141 = .ok (.ireturn, 1) := by decide +kernel
theorem dX6_fault_0 : decode cX6_fault 0 = .ok (.iconst 0, 1) := by decide +kernel
theorem dX6_fault_1 : decode cX6_fault 1 = .ok (.istore_n 1, 1) := by decide +kernel
theorem dX6_fault_2 : decode cX6_fault 2 = .ok (.iconst 0, 1) := by decide +kernel
theorem dX6_fault_3 : decode cX6_fault 3 = .ok (.istore_n 2, 1) := by decide +kernel
theorem dX6_fault_4 : decode cX6_fault 4 = .ok (.iload_n 2, 1) := by decide +kernel
theorem dX6_fault_5 : decode cX6_fault 5 = .ok (.bipush 60, 2) := by decide +kernel
theorem dX6_fault_7 : decode cX6_fault 7 = .ok (.if_icmp .ge 50, 3) := by decide +kernel
theorem dX6_fault_10 : decode cX6_fault 10 = .ok (.aload_n 0, 1) := by decide +kernel
theorem dX6_fault_11 : decode cX6_fault 11 = .ok (.iload_n 1, 1) := by decide +kernel
theorem dX6_fault_12 : decode cX6_fault 12 = .ok (.invokevirtual 154, 3) := by decide +kernel
theorem dX6_fault_15 : decode cX6_fault 15 = .ok (.istore_n 3, 1) := by decide +kernel
theorem dX6_fault_16 : decode cX6_fault 16 = .ok (.iload_n 3, 1) := by decide +kernel
theorem dX6_fault_17 : decode cX6_fault 17 = .ok (.ifCond .ge 7, 3) := by decide +kernel
theorem dX6_fault_20 : decode cX6_fault 20 = .ok (.iconst (-1), 1) := by decide +kernel
theorem dX6_fault_21 : decode cX6_fault 21 = .ok (.iload_n 3, 1) := by decide +kernel
theorem dX6_fault_22 : decode cX6_fault 22 = .ok (.isub, 1) := by decide +kernel
theorem dX6_fault_23 : decode cX6_fault 23 = .ok (.ireturn, 1) := by decide +kernel
theorem dX6_fault_24 : decode cX6_fault 24 = .ok (.iload_n 3, 1) := by decide +kernel
theorem dX6_fault_25 : decode cX6_fault 25 = .ok (.aload_n 0, 1) := by decide +kernel
theorem dX6_fault_26 : decode cX6_fault 26 = .ok (.getfield 136, 3) := by decide +kernel
theorem dX6_fault_29 : decode cX6_fault 29 = .ok (.if_icmp .ne 6, 3) := by decide +kernel
theorem dX6_fault_32 : decode cX6_fault 32 = .ok (.bipush (-5), 2) := by decide +kernel
theorem dX6_fault_34 : decode cX6_fault 34 = .ok (.ireturn, 1) := by decide +kernel
theorem dX6_fault_35 : decode cX6_fault 35 = .ok (.aload_n 0, 1) := by decide +kernel
theorem dX6_fault_36 : decode cX6_fault 36 = .ok (.iload_n 3, 1) := by decide +kernel
theorem dX6_fault_37 : decode cX6_fault 37 = .ok (.invokevirtual 139, 3) := by decide +kernel
theorem dX6_fault_40 : decode cX6_fault 40 = .ok (.bipush 59, 2) := by decide +kernel
theorem dX6_fault_42 : decode cX6_fault 42 = .ok (.if_icmp .eq 5, 3) := by decide +kernel
theorem dX6_fault_45 : decode cX6_fault 45 = .ok (.iload_n 3, 1) := by decide +kernel
theorem dX6_fault_46 : decode cX6_fault 46 = .ok (.ireturn, 1) := by decide +kernel
theorem dX6_fault_47 : decode cX6_fault 47 = .ok (.iload_n 3, 1) := by decide +kernel
theorem dX6_fault_48 : decode cX6_fault 48 = .ok (.iconst 1, 1) := by decide +kernel
theorem dX6_fault_49 : decode cX6_fault 49 = .ok (.iadd, 1) := by decide +kernel
theorem dX6_fault_50 : decode cX6_fault 50 = .ok (.istore_n 1, 1) := by decide +kernel
theorem dX6_fault_51 : decode cX6_fault 51 = .ok (.iinc 2 1, 3) := by decide +kernel
theorem dX6_fault_54 : decode cX6_fault 54 = .ok (.goto (-50), 3) := by decide +kernel
theorem dX6_fault_57 : decode cX6_fault 57 = .ok (.bipush (-5), 2) := by decide +kernel
theorem dX6_fault_59 : decode cX6_fault 59 = .ok (.ireturn, 1) := by decide +kernel
theorem dX6_does_0 : decode cX6_does 0 = .ok (.aload_n 0, 1) := by decide +kernel
theorem dX6_does_1 : decode cX6_does 1 = .ok (.iload_n 1, 1) := by decide +kernel
theorem dX6_does_2 : decode cX6_does 2 = .ok (.invokevirtual 139, 3) := by decide +kernel
theorem dX6_does_5 : decode cX6_does 5 = .ok (.bipush 119, 2) := by decide +kernel
theorem dX6_does_7 : decode cX6_does 7 = .ok (.if_icmp .ne 11, 3) := by decide +kernel
theorem dX6_does_10 : decode cX6_does 10 = .ok (.aload_n 0, 1) := by decide +kernel
theorem dX6_does_11 : decode cX6_does 11 = .ok (.sipush 129, 3) := by decide +kernel
theorem dX6_does_14 : decode cX6_does 14 = .ok (.invokevirtual 133, 3) := by decide +kernel
theorem dX6_does_17 : decode cX6_does 17 = .ok (.ireturn, 1) := by decide +kernel
theorem dX6_does_18 : decode cX6_does 18 = .ok (.aload_n 0, 1) := by decide +kernel
theorem dX6_does_19 : decode cX6_does 19 = .ok (.iload_n 1, 1) := by decide +kernel
theorem dX6_does_20 : decode cX6_does 20 = .ok (.invokevirtual 139, 3) := by decide +kernel
theorem dX6_does_23 : decode cX6_does 23 = .ok (.bipush 43, 2) := by decide +kernel
theorem dX6_does_25 : decode cX6_does 25 = .ok (.if_icmp .ne 38, 3) := by decide +kernel
theorem dX6_does_28 : decode cX6_does 28 = .ok (.aload_n 0, 1) := by decide +kernel
theorem dX6_does_29 : decode cX6_does 29 = .ok (.sipush 129, 3) := by decide +kernel
theorem dX6_does_32 : decode cX6_does 32 = .ok (.aload_n 0, 1) := by decide +kernel
theorem dX6_does_33 : decode cX6_does 33 = .ok (.iload_n 1, 1) := by decide +kernel
theorem dX6_does_34 : decode cX6_does 34 = .ok (.iconst 1, 1) := by decide +kernel
theorem dX6_does_35 : decode cX6_does 35 = .ok (.iadd, 1) := by decide +kernel
theorem dX6_does_36 : decode cX6_does 36 = .ok (.invokevirtual 139, 3) := by decide +kernel
theorem dX6_does_39 : decode cX6_does 39 = .ok (.bipush 48, 2) := by decide +kernel
theorem dX6_does_41 : decode cX6_does 41 = .ok (.isub, 1) := by decide +kernel
theorem dX6_does_42 : decode cX6_does 42 = .ok (.aload_n 0, 1) := by decide +kernel
theorem dX6_does_43 : decode cX6_does 43 = .ok (.iload_n 1, 1) := by decide +kernel
theorem dX6_does_44 : decode cX6_does 44 = .ok (.iconst 2, 1) := by decide +kernel
theorem dX6_does_45 : decode cX6_does 45 = .ok (.iadd, 1) := by decide +kernel
theorem dX6_does_46 : decode cX6_does 46 = .ok (.invokevirtual 139, 3) := by decide +kernel
theorem dX6_does_49 : decode cX6_does 49 = .ok (.bipush 48, 2) := by decide +kernel
theorem dX6_does_51 : decode cX6_does 51 = .ok (.isub, 1) := by decide +kernel
theorem dX6_does_52 : decode cX6_does 52 = .ok (.aload_n 0, 1) := by decide +kernel
theorem dX6_does_53 : decode cX6_does 53 = .ok (.iload_n 1, 1) := by decide +kernel
theorem dX6_does_54 : decode cX6_does 54 = .ok (.iconst 3, 1) := by decide +kernel
theorem dX6_does_55 : decode cX6_does 55 = .ok (.iadd, 1) := by decide +kernel
theorem dX6_does_56 : decode cX6_does 56 = .ok (.invokevirtual 157, 3) := by decide +kernel
theorem dX6_does_59 : decode cX6_does 59 = .ok (.invokevirtual 124, 3) := by decide +kernel
theorem dX6_does_62 : decode cX6_does 62 = .ok (.ireturn, 1) := by decide +kernel
theorem dX6_does_63 : decode cX6_does 63 = .ok (.aload_n 0, 1) := by decide +kernel
theorem dX6_does_64 : decode cX6_does 64 = .ok (.iload_n 1, 1) := by decide +kernel
theorem dX6_does_65 : decode cX6_does 65 = .ok (.bipush 48, 2) := by decide +kernel
