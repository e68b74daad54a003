theorem dX3_endTurn_24 : decode cX3_endTurn 24 = .ok (.aload_n 0, 1) := by decide +kernel
theorem dX3_endTurn_25 : decode cX3_endTurn 25 = .ok (.getfield 9, 3) := by decide +kernel
theorem dX3_endTurn_28 : decode cX3_endTurn 28 = .ok (.getfield 62, 3) := by decide +kernel
theorem dX3_endTurn_31 : decode cX3_endTurn 31 = .ok (.iload_n 1, 1) := by decide +kernel
theorem dX3_endTurn_32 : decode cX3_endTurn 32 = .ok (.iconst 2, 1) := by decide +kernel
theorem dX3_endTurn_33 : decode cX3_endTurn 33 = .ok (.invokestatic 39, 3) := by decide +kernel
theorem dX3_endTurn_36 : decode cX3_endTurn 36 = .ok (.iinc 1 1, 3) := by decide +kernel
theorem dX3_endTurn_39 : decode cX3_endTurn 39 = .ok (.goto (-37), 3) := by decide +kernel
theorem dX3_endTurn_42 : decode cX3_endTurn 42 = .ok (.aload_n 0, 1) := by decide +kernel
theorem dX3_endTurn_43 : decode cX3_endTurn 43 = .ok (.getfield 9, 3) := by decide +kernel
theorem dX3_endTurn_46 : decode cX3_endTurn 46 = .ok (.dup, 1) := by decide +kernel
theorem dX3_endTurn_47 : decode cX3_endTurn 47 = .ok (.getfield 22, 3) := by decide +kernel
theorem dX3_endTurn_50 : decode cX3_endTurn 50 = .ok (.iconst 1, 1) := by decide +kernel
theorem dX3_endTurn_51 : decode cX3_endTurn 51 = .ok (.iadd, 1) := by decide +kernel
theorem dX3_endTurn_52 : decode cX3_endTurn 52 = .ok (.putfield 22, 3) := by decide +kernel
theorem dX3_endTurn_55 : decode cX3_endTurn 55 = .ok (.return_, 1) := by decide +kernel
theorem dX4_init_0 : decode cX4_init 0 = .ok (.aload_n 0, 1) := by decide +kernel
theorem dX4_init_1 : decode cX4_init 1 = .ok (.invokespecial 3, 3) := by decide +kernel
theorem dX4_init_4 : decode cX4_init 4 = .ok (.aload_n 0, 1) := by decide +kernel
theorem dX4_init_5 : decode cX4_init 5 = .ok (.bipush 36, 2) := by decide +kernel
theorem dX4_init_7 : decode cX4_init 7 = .ok (.newarray .int, 2) := by decide +kernel
theorem dX4_init_9 : decode cX4_init 9 = .ok (.putfield 9, 3) := by decide +kernel
theorem dX4_init_12 : decode cX4_init 12 = .ok (.aload_n 0, 1) := by decide +kernel
theorem dX4_init_13 : decode cX4_init 13 = .ok (.bipush 36, 2) := by decide +kernel
theorem dX4_init_15 : decode cX4_init 15 = .ok (.newarray .int, 2) := by decide +kernel
theorem dX4_init_17 : decode cX4_init 17 = .ok (.putfield 15, 3) := by decide +kernel
theorem dX4_init_20 : decode cX4_init 20 = .ok (.aload_n 0, 1) := by decide +kernel
theorem dX4_init_21 : decode cX4_init 21 = .ok (.bipush 10, 2) := by decide +kernel
theorem dX4_init_23 : decode cX4_init 23 = .ok (.newarray .int, 2) := by decide +kernel
theorem dX4_init_25 : decode cX4_init 25 = .ok (.putfield 18, 3) := by decide +kernel
theorem dX4_init_28 : decode cX4_init 28 = .ok (.aload_n 0, 1) := by decide +kernel
theorem dX4_init_29 : decode cX4_init 29 = .ok (.bipush 10, 2) := by decide +kernel
theorem dX4_init_31 : decode cX4_init 31 = .ok (.newarray .int, 2) := by decide +kernel
theorem dX4_init_33 : decode cX4_init 33 = .ok (.putfield 21, 3) := by decide +kernel
theorem dX4_init_36 : decode cX4_init 36 = .ok (.aload_n 0, 1) := by decide +kernel
theorem dX4_init_37 : decode cX4_init 37 = .ok (.bipush 10, 2) := by decide +kernel
theorem dX4_init_39 : decode cX4_init 39 = .ok (.newarray .int, 2) := by decide +kernel
theorem dX4_init_41 : decode cX4_init 41 = .ok (.putfield 24, 3) := by decide +kernel
theorem dX4_init_44 : decode cX4_init 44 = .ok (.aload_n 0, 1) := by decide +kernel
theorem dX4_init_45 : decode cX4_init 45 = .ok (.bipush 10, 2) := by decide +kernel
theorem dX4_init_47 : decode cX4_init 47 = .ok (.newarray .int, 2) := by decide +kernel
theorem dX4_init_49 : decode cX4_init 49 = .ok (.putfield 27, 3) := by decide +kernel
theorem dX4_init_52 : decode cX4_init 52 = .ok (.aload_n 0, 1) := by decide +kernel
theorem dX4_init_53 : decode cX4_init 53 = .ok (.bipush 10, 2) := by decide +kernel
theorem dX4_init_55 : decode cX4_init 55 = .ok (.newarray .int, 2) := by decide +kernel
theorem dX4_init_57 : decode cX4_init 57 = .ok (.putfield 30, 3) := by decide +kernel
theorem dX4_init_60 : decode cX4_init 60 = .ok (.aload_n 0, 1) := by decide +kernel
theorem dX4_init_61 : decode cX4_init 61 = .ok (.iconst 1, 1) := by decide +kernel
theorem dX4_init_62 : decode cX4_init 62 = .ok (.putfield 33, 3) := by decide +kernel
theorem dX4_init_65 : decode cX4_init 65 = .ok (.aload_n 0, 1) := by decide +kernel
theorem dX4_init_66 : decode cX4_init 66 = .ok (.iconst 3, 1) := by decide +kernel
theorem dX4_init_67 : decode cX4_init 67 = .ok (.putfield 37, 3) := by decide +kernel
theorem dX4_init_70 : decode cX4_init 70 = .ok (.aload_n 0, 1) := by decide +kernel
theorem dX4_init_71 : decode cX4_init 71 = .ok (.iconst 1, 1) := by decide +kernel
theorem dX4_init_72 : decode cX4_init 72 = .ok (.putfield 40, 3) := by decide +kernel
theorem dX4_init_75 : decode cX4_init 75 = .ok (.aload_n 0, 1) := by decide +kernel
theorem dX4_init_76 : decode cX4_init 76 = .ok (.bipush 60, 2) := by decide +kernel
theorem dX4_init_78 : decode cX4_init 78 = .ok (.putfield 43, 3) := by decide +kernel
theorem dX4_init_81 : decode cX4_init 81 = .ok (.iconst 0, 1) := by decide +kernel
theorem dX4_init_82 : decode cX4_init 82 = .ok (.istore_n 1, 1) := by decide +kernel
theorem dX4_init_83 : decode cX4_init 83 = .ok (.iload_n 1, 1) := by decide +kernel
theorem dX4_init_84 : decode cX4_init 84 = .ok (.bipush 36, 2) := by decide +kernel
theorem dX4_init_86 : decode cX4_init 86 = .ok (.if_icmp .ge 29, 3) := by decide +kernel
theorem dX4_init_89 : decode cX4_init 89 = .ok (.aload_n 0, 1) := by decide +kernel
theorem dX4_init_90 : decode cX4_init 90 = .ok (.getfield 9, 3) := by decide +kernel
theorem dX4_init_93 : decode cX4_init 93 = .ok (.iload_n 1, 1) := by decide +kernel
theorem dX4_init_94 : decode cX4_init 94 = .ok (.iload_n 1, 1) := by decide +kernel
theorem dX4_init_95 : decode cX4_init 95 = .ok (.invokestatic 46, 3) := by decide +kernel
theorem dX4_init_98 : decode cX4_init 98 = .ok (.ifCond .eq 7, 3) := by decide +kernel
theorem dX4_init_101 : decode cX4_init 101 = .ok (.iconst 0, 1) := by decide +kernel
theorem dX4_init_102 : decode cX4_init 102 = .ok (.goto 4, 3) := by decide +kernel
theorem dX4_init_105 : decode cX4_init 105 = .ok (.iconst 1, 1) := by decide +kernel
theorem dX4_init_106 : decode cX4_init 106 = .ok (.invokestatic 50, 3) := by decide +kernel
theorem dX4_init_109 : decode cX4_init 109 = .ok (.iinc 1 1, 3) := by decide +kernel
theorem dX4_init_112 : decode cX4_init 112 = .ok (.goto (-29), 3) := by decide +kernel
theorem dX4_init_115 : decode cX4_init 115 = .ok (.return_, 1) := by decide +kernel
theorem dX4_copyFrom_0 : decode cX4_copyFrom 0 = .ok (.aload_n 1, 1) := by decide +kernel
theorem dX4_copyFrom_1 : decode cX4_copyFrom 1 = .ok (.getfield 9, 3) := by decide +kernel
theorem dX4_copyFrom_4 : decode cX4_copyFrom 4 = .ok (.aload_n 0, 1) := by decide +kernel
theorem dX4_copyFrom_5 : decode cX4_copyFrom 5 = .ok (.getfield 9, 3) := by decide +kernel
theorem dX4_copyFrom_8 : decode cX4_copyFrom 8 = .ok (.invokestatic 54, 3) := by decide +kernel
theorem dX4_copyFrom_11 : decode cX4_copyFrom 11 = .ok (.aload_n 1, 1) := by decide +kernel
theorem dX4_copyFrom_12 : decode cX4_copyFrom 12 = .ok (.getfield 15, 3) := by decide +kernel
theorem dX4_copyFrom_15 : decode cX4_copyFrom 15 = .ok (.aload_n 0, 1) := by decide +kernel
theorem dX4_copyFrom_16 : decode cX4_copyFrom 16 = .ok (.getfield 15, 3) := by decide +kernel
theorem dX4_copyFrom_19 : decode cX4_copyFrom 19 = .ok (.invokestatic 54, 3) := by decide +kernel
theorem dX4_copyFrom_22 : decode cX4_copyFrom 22 = .ok (.aload_n 1, 1) := by decide +kernel
theorem dX4_copyFrom_23 : decode cX4_copyFrom 23 = .ok (.getfield 18, 3) := by decide +kernel
theorem dX4_copyFrom_26 : decode cX4_copyFrom 26 = .ok (.aload_n 0, 1) := by decide +kernel
theorem dX4_copyFrom_27 : decode cX4_copyFrom 27 = .ok (.getfield 18, 3) := by decide +kernel
theorem dX4_copyFrom_30 : decode cX4_copyFrom 30 = .ok (.invokestatic 54, 3) := by decide +kernel
theorem dX4_copyFrom_33 : decode cX4_copyFrom 33 = .ok (.aload_n 1, 1) := by decide +kernel
theorem dX4_copyFrom_34 : decode cX4_copyFrom 34 = .ok (.getfield 21, 3) := by decide +kernel
theorem dX4_copyFrom_37 : decode cX4_copyFrom 37 = .ok (.aload_n 0, 1) := by decide +kernel
theorem dX4_copyFrom_38 : decode cX4_copyFrom 38 = .ok (.getfield 21, 3) := by decide +kernel
theorem dX4_copyFrom_41 : decode cX4_copyFrom 41 = .ok (.invokestatic 54, 3) := by decide +kernel
theorem dX4_copyFrom_44 : decode cX4_copyFrom 44 = .ok (.aload_n 1, 1) := by decide +kernel
theorem dX4_copyFrom_45 : decode cX4_copyFrom 45 = .ok (.getfield 24, 3) := by decide +kernel
theorem dX4_copyFrom_48 : decode cX4_copyFrom 48 = .ok (.aload_n 0, 1) := by decide +kernel
theorem dX4_copyFrom_49 : decode cX4_copyFrom 49 = .ok (.getfield 24, 3) := by decide +kernel
theorem dX4_copyFrom_52 : decode cX4_copyFrom 52 = .ok (.invokestatic 54, 3) := by decide +kernel
theorem dX4_copyFrom_55 : decode cX4_copyFrom 55 = .ok (.aload_n 1, 1) := by decide +kernel
theorem dX4_copyFrom_56 : decode cX4_copyFrom 56 = .ok (.getfield 27, 3) := by decide +kernel
theorem dX4_copyFrom_59 : decode cX4_copyFrom 59 = .ok (.aload_n 0, 1) := by decide +kernel
theorem dX4_copyFrom_60 : decode cX4_copyFrom 60 = .ok (.getfield 27, 3) := by decide +kernel
theorem dX4_copyFrom_63 : decode cX4_copyFrom 63 = .ok (.invokestatic 54, 3) := by decide +kernel
theorem dX4_copyFrom_66 : decode cX4_copyFrom 66 = .ok (.aload_n 1, 1) := by decide +kernel
theorem dX4_copyFrom_67 : decode cX4_copyFrom 67 = .ok (.getfield 30, 3) := by decide +kernel
theorem dX4_copyFrom_70 : decode cX4_copyFrom 70 = .ok (.aload_n 0, 1) := by decide +kernel
theorem dX4_copyFrom_71 : decode cX4_copyFrom 71 = .ok (.getfield 30, 3) := by decide +kernel
theorem dX4_copyFrom_74 : decode cX4_copyFrom 74 = .ok (.invokestatic 54, 3) := by decide +kernel
theorem dX4_copyFrom_77 : decode cX4_copyFrom 77 = .ok (.aload_n 0, 1) := by decide +kernel
theorem dX4_copyFrom_78 : decode cX4_copyFrom 78 = .ok (.aload_n 1, 1) := by decide +kernel
theorem dX4_copyFrom_79 : decode cX4_copyFrom 79 = .ok (.getfield 58, 3) := by decide +kernel
theorem dX4_copyFrom_82 : decode cX4_copyFrom 82 = .ok (.putfield 58, 3) := by decide +kernel
theorem dX4_copyFrom_85 : decode cX4_copyFrom 85 = .ok (.aload_n 0, 1) := by decide +kernel
theorem dX4_copyFrom_86 : decode cX4_copyFrom 86 = .ok (.aload_n 1, 1) := by decide +kernel
theorem dX4_copyFrom_87 : decode cX4_copyFrom 87 = .ok (.getfield 61, 3) := by decide +kernel
theorem dX4_copyFrom_90 : decode cX4_copyFrom 90 = .ok (.putfield 61, 3) := by decide +kernel
theorem dX4_copyFrom_93 : decode cX4_copyFrom 93 = .ok (.aload_n 0, 1) := by decide +kernel
theorem dX4_copyFrom_94 : decode cX4_copyFrom 94 = .ok (.aload_n 1, 1) := by decide +kernel
theorem dX4_copyFrom_95 : decode cX4_copyFrom 95 = .ok (.getfield 64, 3) := by decide +kernel
theorem dX4_copyFrom_98 : decode cX4_copyFrom 98 = .ok (.putfield 64, 3) := by decide +kernel
theorem dX4_copyFrom_101 : decode cX4_copyFrom 101 = .ok (.aload_n 0, 1) := by decide +kernel
theorem dX4_copyFrom_102 : decode cX4_copyFrom 102 = .ok (.aload_n 1, 1) := by decide +kernel
theorem dX4_copyFrom_103 : decode cX4_copyFrom 103 = .ok (.getfield 33, 3) := by decide +kernel
theorem dX4_copyFrom_106 : decode cX4_copyFrom 106 = .ok (.putfield 33, 3) := by decide +kernel
theorem dX4_copyFrom_109 : decode cX4_copyFrom 109 = .ok (.aload_n 0, 1) := by decide +kernel
theorem dX4_copyFrom_110 : decode cX4_copyFrom 110 = .ok (.aload_n 1, 1) := by decide +kernel
theorem dX4_copyFrom_111 : decode cX4_copyFrom 111 = .ok (.getfield 37, 3) := by decide +kernel
theorem dX4_copyFrom_114 : decode cX4_copyFrom 114 = .ok (.putfield 37, 3) := by decide +kernel
theorem dX4_copyFrom_117 : decode cX4_copyFrom 117 = .ok (.aload_n 0, 1) := by decide +kernel
theorem dX4_copyFrom_118 : decode cX4_copyFrom 118 = .ok (.aload_n 1, 1) := by decide +kernel
theorem dX4_copyFrom_119 : decode cX4_copyFrom 119 = .ok (.getfield 40, 3) := by decide +kernel
theorem dX4_copyFrom_122 : decode cX4_copyFrom 122 = .ok (.putfield 40, 3) := by decide +kernel
theorem dX4_copyFrom_125 : decode cX4_copyFrom 125 = .ok (.aload_n 0, 1) := by decide +kernel
theorem dX4_copyFrom_126 : decode cX4_copyFrom 126 = .ok (.aload_n 1, 1) := by decide +kernel
theorem dX4_copyFrom_127 : decode cX4_copyFrom 127 = .ok (.getfield 43, 3) := by decide +kernel
theorem dX4_copyFrom_130 : decode cX4_copyFrom 130 = .ok (.putfield 43, 3) := by decide +kernel
theorem dX4_copyFrom_133 : decode cX4_copyFrom 133 = .ok (.return_, 1) := by decide +kernel
theorem dX4_settingOf_0 : decode cX4_settingOf 0 = .ok (.iload_n 1, 1) := by decide +kernel
theorem dX4_settingOf_1 : decode cX4_settingOf 1 = .ok (.tableswitch 42 0 2 #[27, 32, 37], 27) := by decide +kernel
theorem dX4_settingOf_28 : decode cX4_settingOf 28 = .ok (.aload_n 0, 1) := by decide +kernel
theorem dX4_settingOf_29 : decode cX4_settingOf 29 = .ok (.getfield 33, 3) := by decide +kernel
theorem dX4_settingOf_32 : decode cX4_settingOf 32 = .ok (.ireturn, 1) := by decide +kernel
theorem dX4_settingOf_33 : decode cX4_settingOf 33 = .ok (.aload_n 0, 1) := by decide +kernel
theorem dX4_settingOf_34 : decode cX4_settingOf 34 = .ok (.getfield 37, 3) := by decide +kernel
theorem dX4_settingOf_37 : decode cX4_settingOf 37 = .ok (.ireturn, 1) := by decide +kernel
theorem dX4_settingOf_38 : decode cX4_settingOf 38 = .ok (.aload_n 0, 1) := by decide +kernel
theorem dX4_settingOf_39 : decode cX4_settingOf 39 = .ok (.getfield 40, 3) := by decide +kernel
theorem dX4_settingOf_42 : decode cX4_settingOf 42 = .ok (.ireturn, 1) := by decide +kernel
theorem dX4_settingOf_43 : decode cX4_settingOf 43 = .ok (.aload_n 0, 1) := by decide +kernel
theorem dX4_settingOf_44 : decode cX4_settingOf 44 = .ok (.getfield 43, 3) := by decide +kernel
theorem dX4_settingOf_47 : decode cX4_settingOf 47 = .ok (.ireturn, 1) := by decide +kernel
theorem dX4_changeSetting_0 : decode cX4_changeSetting 0 = .ok (.iload_n 1, 1) := by decide +kernel
theorem dX4_changeSetting_1 : decode cX4_changeSetting 1 = .ok (.tableswitch 51 0 2 #[27, 35, 43], 27) := by decide +kernel
theorem dX4_changeSetting_28 : decode cX4_changeSetting 28 = .ok (.aload_n 0, 1) := by decide +kernel
theorem dX4_changeSetting_29 : decode cX4_changeSetting 29 = .ok (.iload_n 2, 1) := by decide +kernel
theorem dX4_changeSetting_30 : decode cX4_changeSetting 30 = .ok (.putfield 33, 3) := by decide +kernel
theorem dX4_changeSetting_33 : decode cX4_changeSetting 33 = .ok (.goto 24, 3) := by decide +kernel
theorem dX4_changeSetting_36 : decode cX4_changeSetting 36 = .ok (.aload_n 0, 1) := by decide +kernel
theorem dX4_changeSetting_37 : decode cX4_changeSetting 37 = .ok (.iload_n 2, 1) := by decide +kernel
theorem dX4_changeSetting_38 : decode cX4_changeSetting 38 = .ok (.putfield 37, 3) := by decide +kernel
theorem dX4_changeSetting_41 : decode cX4_changeSetting 41 = .ok (.goto 16, 3) := by decide +kernel
theorem dX4_changeSetting_44 : decode cX4_changeSetting 44 = .ok (.aload_n 0, 1) := by decide +kernel
theorem dX4_changeSetting_45 : decode cX4_changeSetting 45 = .ok (.iload_n 2, 1) := by decide +kernel
theorem dX4_changeSetting_46 : decode cX4_changeSetting 46 = .ok (.putfield 40, 3) := by decide +kernel
theorem dX4_changeSetting_49 : decode cX4_changeSetting 49 = .ok (.goto 8, 3) := by decide +kernel
theorem dX4_changeSetting_52 : decode cX4_changeSetting 52 = .ok (.aload_n 0, 1) := by decide +kernel
theorem dX4_changeSetting_53 : decode cX4_changeSetting 53 = .ok (.iload_n 2, 1) := by decide +kernel
theorem dX4_changeSetting_54 : decode cX4_changeSetting 54 = .ok (.putfield 43, 3) := by decide +kernel
theorem dX4_changeSetting_57 : decode cX4_changeSetting 57 = .ok (.return_, 1) := by decide +kernel
theorem dX4_turnsOfTide_0 : decode cX4_turnsOfTide 0 = .ok (.iconst 2, 1) := by decide +kernel
theorem dX4_turnsOfTide_1 : decode cX4_turnsOfTide 1 = .ok (.aload_n 0, 1) := by decide +kernel
theorem dX4_turnsOfTide_2 : decode cX4_turnsOfTide 2 = .ok (.getfield 37, 3) := by decide +kernel
theorem dX4_turnsOfTide_5 : decode cX4_turnsOfTide 5 = .ok (.imul, 1) := by decide +kernel
theorem dX4_turnsOfTide_6 : decode cX4_turnsOfTide 6 = .ok (.aload_n 0, 1) := by decide +kernel
theorem dX4_turnsOfTide_7 : decode cX4_turnsOfTide 7 = .ok (.getfield 40, 3) := by decide +kernel
theorem dX4_turnsOfTide_10 : decode cX4_turnsOfTide 10 = .ok (.imul, 1) := by decide +kernel
theorem dX4_turnsOfTide_11 : decode cX4_turnsOfTide 11 = .ok (.ireturn, 1) := by decide +kernel
theorem dX4_tideIn_0 : decode cX4_tideIn 0 = .ok (.iconst 2, 1) := by decide +kernel
theorem dX4_tideIn_1 : decode cX4_tideIn 1 = .ok (.aload_n 0, 1) := by decide +kernel
theorem dX4_tideIn_2 : decode cX4_tideIn 2 = .ok (.getfield 37, 3) := by decide +kernel
theorem dX4_tideIn_5 : decode cX4_tideIn 5 = .ok (.imul, 1) := by decide +kernel
theorem dX4_tideIn_6 : decode cX4_tideIn 6 = .ok (.istore_n 2, 1) := by decide +kernel
theorem dX4_tideIn_7 : decode cX4_tideIn 7 = .ok (.aload_n 0, 1) := by decide +kernel
theorem dX4_tideIn_8 : decode cX4_tideIn 8 = .ok (.getfield 40, 3) := by decide +kernel
theorem dX4_tideIn_11 : decode cX4_tideIn 11 = .ok (.iconst 1, 1) := by decide +kernel
theorem dX4_tideIn_12 : decode cX4_tideIn 12 = .ok (.if_icmp .lt 8, 3) := by decide +kernel
theorem dX4_tideIn_15 : decode cX4_tideIn 15 = .ok (.iload_n 2, 1) := by decide +kernel
theorem dX4_tideIn_16 : decode cX4_tideIn 16 = .ok (.iconst 1, 1) := by decide +kernel
theorem dX4_tideIn_17 : decode cX4_tideIn 17 = .ok (.if_icmp .ge 8, 3) := by decide +kernel
theorem dX4_tideIn_20 : decode cX4_tideIn 20 = .ok (.aload_n 0, 1) := by decide +kernel
theorem dX4_tideIn_21 : decode cX4_tideIn 21 = .ok (.getfield 33, 3) := by decide +kernel
theorem dX4_tideIn_24 : decode cX4_tideIn 24 = .ok (.ireturn, 1) := by decide +kernel
theorem dX4_tideIn_25 : decode cX4_tideIn 25 = .ok (.iload_n 1, 1) := by decide +kernel
theorem dX4_tideIn_26 : decode cX4_tideIn 26 = .ok (.aload_n 0, 1) := by decide +kernel
theorem dX4_tideIn_27 : decode cX4_tideIn 27 = .ok (.getfield 40, 3) := by decide +kernel
theorem dX4_tideIn_30 : decode cX4_tideIn 30 = .ok (.idiv, 1) := by decide +kernel
theorem dX4_tideIn_31 : decode cX4_tideIn 31 = .ok (.iload_n 2, 1) := by decide +kernel
theorem dX4_tideIn_32 : decode cX4_tideIn 32 = .ok (.irem, 1) := by decide +kernel
theorem dX4_tideIn_33 : decode cX4_tideIn 33 = .ok (.istore_n 3, 1) := by decide +kernel
theorem dX4_tideIn_34 : decode cX4_tideIn 34 = .ok (.aload_n 0, 1) := by decide +kernel
theorem dX4_tideIn_35 : decode cX4_tideIn 35 = .ok (.getfield 33, 3) := by decide +kernel
theorem dX4_tideIn_38 : decode cX4_tideIn 38 = .ok (.iload_n 3, 1) := by decide +kernel
theorem dX4_tideIn_39 : decode cX4_tideIn 39 = .ok (.aload_n 0, 1) := by decide +kernel
theorem dX4_tideIn_40 : decode cX4_tideIn 40 = .ok (.getfield 37, 3) := by decide +kernel
theorem dX4_tideIn_43 : decode cX4_tideIn 43 = .ok (.if_icmp .gt 7, 3) := by decide +kernel
theorem dX4_tideIn_46 : decode cX4_tideIn 46 = .ok (.iload_n 3, 1) := by decide +kernel
theorem dX4_tideIn_47 : decode cX4_tideIn 47 = .ok (.goto 6, 3) := by decide +kernel
theorem dX4_tideIn_50 : decode cX4_tideIn 50 = .ok (.iload_n 2, 1) := by decide +kernel
theorem dX4_tideIn_51 : decode cX4_tideIn 51 = .ok (.iload_n 3, 1) := by decide +kernel
theorem dX4_tideIn_52 : decode cX4_tideIn 52 = .ok (.isub, 1) := by decide +kernel
theorem dX4_tideIn_53 : decode cX4_tideIn 53 = .ok (.iadd, 1) := by decide +kernel
theorem dX4_tideIn_54 : decode cX4_tideIn 54 = .ok (.ireturn, 1) := by decide +kernel
theorem dX4_waterOver_0 : decode cX4_waterOver 0 = .ok (.iconst 0, 1) := by decide +kernel
theorem dX4_waterOver_1 : decode cX4_waterOver 1 = .ok (.aload_n 0, 1) := by decide +kernel
theorem dX4_waterOver_2 : decode cX4_waterOver 2 = .ok (.aload_n 0, 1) := by decide +kernel
theorem dX4_waterOver_3 : decode cX4_waterOver 3 = .ok (.getfield 64, 3) := by decide +kernel
theorem dX4_waterOver_6 : decode cX4_waterOver 6 = .ok (.invokevirtual 67, 3) := by decide +kernel
theorem dX4_waterOver_9 : decode cX4_waterOver 9 = .ok (.aload_n 0, 1) := by decide +kernel
theorem dX4_waterOver_10 : decode cX4_waterOver 10 = .ok (.getfield 9, 3) := by decide +kernel
theorem dX4_waterOver_13 : decode cX4_waterOver 13 = .ok (.iload_n 1, 1) := by decide +kernel
theorem dX4_waterOver_14 : decode cX4_waterOver 14 = .ok (.invokestatic 71, 3) := by decide +kernel
theorem dX4_waterOver_17 : decode cX4_waterOver 17 = .ok (.isub, 1) := by decide +kernel
theorem dX4_waterOver_18 : decode cX4_waterOver 18 = .ok (.invokestatic 75, 3) := by decide +kernel
theorem dX4_waterOver_21 : decode cX4_waterOver 21 = .ok (.ireturn, 1) := by decide +kernel
theorem dX4_isWet_0 : decode cX4_isWet 0 = .ok (.aload_n 0, 1) := by decide +kernel
theorem dX4_isWet_1 : decode cX4_isWet 1 = .ok (.iload_n 3, 1) := by decide +kernel
theorem dX4_isWet_2 : decode cX4_isWet 2 = .ok (.invokevirtual 67, 3) := by decide +kernel
theorem dX4_isWet_5 : decode cX4_isWet 5 = .ok (.aload_n 0, 1) := by decide +kernel
theorem dX4_isWet_6 : decode cX4_isWet 6 = .ok (.getfield 9, 3) := by decide +kernel
theorem dX4_isWet_9 : decode cX4_isWet 9 = .ok (.iload_n 1, 1) := by decide +kernel
theorem dX4_isWet_10 : decode cX4_isWet 10 = .ok (.invokestatic 71, 3) := by decide +kernel
theorem dX4_isWet_13 : decode cX4_isWet 13 = .ok (.isub, 1) := by decide +kernel
theorem dX4_isWet_14 : decode cX4_isWet 14 = .ok (.iload_n 2, 1) := by decide +kernel
theorem dX4_isWet_15 : decode cX4_isWet 15 = .ok (.if_icmp .lt 7, 3) := by decide +kernel
theorem dX4_isWet_18 : decode cX4_isWet 18 = .ok (.iconst 1, 1) := by decide +kernel
theorem dX4_isWet_19 : decode cX4_isWet 19 = .ok (.goto 4, 3) := by decide +kernel
theorem dX4_isWet_22 : decode cX4_isWet 22 = .ok (.iconst 0, 1) := by decide +kernel
theorem dX4_isWet_23 : decode cX4_isWet 23 = .ok (.ireturn, 1) := by decide +kernel
theorem dX4_isBoat_0 : decode cX4_isBoat 0 = .ok (.iload_n 1, 1) := by decide +kernel
theorem dX4_isBoat_1 : decode cX4_isBoat 1 = .ok (.ifCond .lt 15, 3) := by decide +kernel
theorem dX4_isBoat_4 : decode cX4_isBoat 4 = .ok (.iload_n 1, 1) := by decide +kernel
theorem dX4_isBoat_5 : decode cX4_isBoat 5 = .ok (.aload_n 0, 1) := by decide +kernel
theorem dX4_isBoat_6 : decode cX4_isBoat 6 = .ok (.getfield 58, 3) := by decide +kernel
theorem dX4_isBoat_9 : decode cX4_isBoat 9 = .ok (.if_icmp .ge 7, 3) := by decide +kernel
theorem dX4_isBoat_12 : decode cX4_isBoat 12 = .ok (.iconst 1, 1) := by decide +kernel
theorem dX4_isBoat_13 : decode cX4_isBoat 13 = .ok (.goto 4, 3) := by decide +kernel
theorem dX4_isBoat_16 : decode cX4_isBoat 16 = .ok (.iconst 0, 1) := by decide +kernel
theorem dX4_isBoat_17 : decode cX4_isBoat 17 = .ok (.ireturn, 1) := by decide +kernel
theorem dX4_isOnBoard_0 : decode cX4_isOnBoard 0 = .ok (.aload_n 0, 1) := by decide +kernel
theorem dX4_isOnBoard_1 : decode cX4_isOnBoard 1 = .ok (.iload_n 1, 1) := by decide +kernel
theorem dX4_isOnBoard_2 : decode cX4_isOnBoard 2 = .ok (.invokevirtual 81, 3) := by decide +kernel
theorem dX4_isOnBoard_5 : decode cX4_isOnBoard 5 = .ok (.ifCond .eq 18, 3) := by decide +kernel
theorem dX4_isOnBoard_8 : decode cX4_isOnBoard 8 = .ok (.aload_n 0, 1) := by decide +kernel
theorem dX4_isOnBoard_9 : decode cX4_isOnBoard 9 = .ok (.getfield 24, 3) := by decide +kernel
theorem dX4_isOnBoard_12 : decode cX4_isOnBoard 12 = .ok (.iload_n 1, 1) := by decide +kernel
theorem dX4_isOnBoard_13 : decode cX4_isOnBoard 13 = .ok (.invokestatic 71, 3) := by decide +kernel
theorem dX4_isOnBoard_16 : decode cX4_isOnBoard 16 = .ok (.ifCond .ne 7, 3) := by decide +kernel
theorem dX4_isOnBoard_19 : decode cX4_isOnBoard 19 = .ok (.iconst 1, 1) := by decide +kernel
theorem dX4_isOnBoard_20 : decode cX4_isOnBoard 20 = .ok (.goto 4, 3) := by decide +kernel
theorem dX4_isOnBoard_23 : decode cX4_isOnBoard 23 = .ok (.iconst 0, 1) := by decide +kernel
theorem dX4_isOnBoard_24 : decode cX4_isOnBoard 24 = .ok (.ireturn, 1) := by decide +kernel
theorem dX4_floats_0 : decode cX4_floats 0 = .ok (.aload_n 0, 1) := by decide +kernel
theorem dX4_floats_1 : decode cX4_floats 1 = .ok (.aload_n 0, 1) := by decide +kernel
theorem dX4_floats_2 : decode cX4_floats 2 = .ok (.getfield 27, 3) := by decide +kernel
theorem dX4_floats_5 : decode cX4_floats 5 = .ok (.iload_n 1, 1) := by decide +kernel
theorem dX4_floats_6 : decode cX4_floats 6 = .ok (.invokestatic 71, 3) := by decide +kernel
theorem dX4_floats_9 : decode cX4_floats 9 = .ok (.aload_n 0, 1) := by decide +kernel
theorem dX4_floats_10 : decode cX4_floats 10 = .ok (.getfield 21, 3) := by decide +kernel
theorem dX4_floats_13 : decode cX4_floats 13 = .ok (.iload_n 1, 1) := by decide +kernel
theorem dX4_floats_14 : decode cX4_floats 14 = .ok (.invokestatic 71, 3) := by decide +kernel
theorem dX4_floats_17 : decode cX4_floats 17 = .ok (.aload_n 0, 1) := by decide +kernel
theorem dX4_floats_18 : decode cX4_floats 18 = .ok (.getfield 64, 3) := by decide +kernel
theorem dX4_floats_21 : decode cX4_floats 21 = .ok (.invokevirtual 84, 3) := by decide +kernel
theorem dX4_floats_24 : decode cX4_floats 24 = .ok (.ireturn, 1) := by decide +kernel
theorem dX4_isWreckedAhead_0 : decode cX4_isWreckedAhead 0 = .ok (.aload_n 0, 1) := by decide +kernel
theorem dX4_isWreckedAhead_1 : decode cX4_isWreckedAhead 1 = .ok (.getfield 27, 3) := by decide +kernel
theorem dX4_isWreckedAhead_4 : decode cX4_isWreckedAhead 4 = .ok (.iload_n 1, 1) := by decide +kernel
theorem dX4_isWreckedAhead_5 : decode cX4_isWreckedAhead 5 = .ok (.invokestatic 71, 3) := by decide +kernel
theorem dX4_isWreckedAhead_8 : decode cX4_isWreckedAhead 8 = .ok (.istore_n 2, 1) := by decide +kernel
theorem dX4_isWreckedAhead_9 : decode cX4_isWreckedAhead 9 = .ok (.aload_n 0, 1) := by decide +kernel
theorem dX4_isWreckedAhead_10 : decode cX4_isWreckedAhead 10 = .ok (.iload_n 1, 1) := by decide +kernel
theorem dX4_isWreckedAhead_11 : decode cX4_isWreckedAhead 11 = .ok (.invokevirtual 88, 3) := by decide +kernel
theorem dX4_isWreckedAhead_14 : decode cX4_isWreckedAhead 14 = .ok (.ifCond .eq 61, 3) := by decide +kernel
theorem dX4_isWreckedAhead_17 : decode cX4_isWreckedAhead 17 = .ok (.aload_n 0, 1) := by decide +kernel
theorem dX4_isWreckedAhead_18 : decode cX4_isWreckedAhead 18 = .ok (.getfield 15, 3) := by decide +kernel
theorem dX4_isWreckedAhead_21 : decode cX4_isWreckedAhead 21 = .ok (.iload_n 2, 1) := by decide +kernel
theorem dX4_isWreckedAhead_22 : decode cX4_isWreckedAhead 22 = .ok (.invokestatic 71, 3) := by decide +kernel
theorem dX4_isWreckedAhead_25 : decode cX4_isWreckedAhead 25 = .ok (.iconst 1, 1) := by decide +kernel
theorem dX4_isWreckedAhead_26 : decode cX4_isWreckedAhead 26 = .ok (.if_icmp .ne 49, 3) := by decide +kernel
theorem dX4_isWreckedAhead_29 : decode cX4_isWreckedAhead 29 = .ok (.aload_n 0, 1) := by decide +kernel
theorem dX4_isWreckedAhead_30 : decode cX4_isWreckedAhead 30 = .ok (.iload_n 2, 1) := by decide +kernel
theorem dX4_isWreckedAhead_31 : decode cX4_isWreckedAhead 31 = .ok (.aload_n 0, 1) := by decide +kernel
theorem dX4_isWreckedAhead_32 : decode cX4_isWreckedAhead 32 = .ok (.getfield 21, 3) := by decide +kernel
theorem dX4_isWreckedAhead_35 : decode cX4_isWreckedAhead 35 = .ok (.iload_n 1, 1) := by decide +kernel
theorem dX4_isWreckedAhead_36 : decode cX4_isWreckedAhead 36 = .ok (.invokestatic 71, 3) := by decide +kernel
theorem dX4_isWreckedAhead_39 : decode cX4_isWreckedAhead 39 = .ok (.aload_n 0, 1) := by decide +kernel
theorem dX4_isWreckedAhead_40 : decode cX4_isWreckedAhead 40 = .ok (.getfield 64, 3) := by decide +kernel
theorem dX4_isWreckedAhead_43 : decode cX4_isWreckedAhead 43 = .ok (.invokevirtual 84, 3) := by decide +kernel
theorem dX4_isWreckedAhead_46 : decode cX4_isWreckedAhead 46 = .ok (.ifCond .eq 29, 3) := by decide +kernel
theorem dX4_isWreckedAhead_49 : decode cX4_isWreckedAhead 49 = .ok (.aload_n 0, 1) := by decide +kernel
theorem dX4_isWreckedAhead_50 : decode cX4_isWreckedAhead 50 = .ok (.iload_n 2, 1) := by decide +kernel
theorem dX4_isWreckedAhead_51 : decode cX4_isWreckedAhead 51 = .ok (.aload_n 0, 1) := by decide +kernel
theorem dX4_isWreckedAhead_52 : decode cX4_isWreckedAhead 52 = .ok (.getfield 21, 3) := by decide +kernel
theorem dX4_isWreckedAhead_55 : decode cX4_isWreckedAhead 55 = .ok (.iload_n 1, 1) := by decide +kernel
theorem dX4_isWreckedAhead_56 : decode cX4_isWreckedAhead 56 = .ok (.invokestatic 71, 3) := by decide +kernel
theorem dX4_isWreckedAhead_59 : decode cX4_isWreckedAhead 59 = .ok (.aload_n 0, 1) := by decide +kernel
theorem dX4_isWreckedAhead_60 : decode cX4_isWreckedAhead 60 = .ok (.getfield 64, 3) := by decide +kernel
theorem dX4_isWreckedAhead_63 : decode cX4_isWreckedAhead 63 = .ok (.iconst 1, 1) := by decide +kernel
theorem dX4_isWreckedAhead_64 : decode cX4_isWreckedAhead 64 = .ok (.iadd, 1) := by decide +kernel
theorem dX4_isWreckedAhead_65 : decode cX4_isWreckedAhead 65 = .ok (.invokevirtual 84, 3) := by decide +kernel
theorem dX4_isWreckedAhead_68 : decode cX4_isWreckedAhead 68 = .ok (.ifCond .ne 7, 3) := by decide +kernel
theorem dX4_isWreckedAhead_71 : decode cX4_isWreckedAhead 71 = .ok (.iconst 1, 1) := by decide +kernel
theorem dX4_isWreckedAhead_72 : decode cX4_isWreckedAhead 72 = .ok (.goto 4, 3) := by decide +kernel
theorem dX4_isWreckedAhead_75 : decode cX4_isWreckedAhead 75 = .ok (.iconst 0, 1) := by decide +kernel
theorem dX4_isWreckedAhead_76 : decode cX4_isWreckedAhead 76 = .ok (.ireturn, 1) := by decide +kernel
theorem dX4_boatAt_0 : decode cX4_boatAt 0 = .ok (.iconst 0, 1) := by decide +kernel
theorem dX4_boatAt_1 : decode cX4_boatAt 1 = .ok (.istore_n 2, 1) := by decide +kernel
theorem dX4_boatAt_2 : decode cX4_boatAt 2 = .ok (.iload_n 2, 1) := by decide +kernel
theorem dX4_boatAt_3 : decode cX4_boatAt 3 = .ok (.aload_n 0, 1) := by decide +kernel
theorem dX4_boatAt_4 : decode cX4_boatAt 4 = .ok (.getfield 58, 3) := by decide +kernel
theorem dX4_boatAt_7 : decode cX4_boatAt 7 = .ok (.if_icmp .ge 34, 3) := by decide +kernel
theorem dX4_boatAt_10 : decode cX4_boatAt 10 = .ok (.aload_n 0, 1) := by decide +kernel
theorem dX4_boatAt_11 : decode cX4_boatAt 11 = .ok (.getfield 24, 3) := by decide +kernel
theorem dX4_boatAt_14 : decode cX4_boatAt 14 = .ok (.iload_n 2, 1) := by decide +kernel
theorem dX4_boatAt_15 : decode cX4_boatAt 15 = .ok (.invokestatic 71, 3) := by decide +kernel
theorem dX4_boatAt_18 : decode cX4_boatAt 18 = .ok (.ifCond .ne 17, 3) := by decide +kernel
theorem dX4_boatAt_21 : decode cX4_boatAt 21 = .ok (.aload_n 0, 1) := by decide +kernel
theorem dX4_boatAt_22 : decode cX4_boatAt 22 = .ok (.getfield 27, 3) := by decide +kernel
theorem dX4_boatAt_25 : decode cX4_boatAt 25 = .ok (.iload_n 2, 1) := by decide +kernel
theorem dX4_boatAt_26 : decode cX4_boatAt 26 = .ok (.invokestatic 71, 3) := by decide +kernel
theorem dX4_boatAt_29 : decode cX4_boatAt 29 = .ok (.iload_n 1, 1) := by decide +kernel
theorem dX4_boatAt_30 : decode cX4_boatAt 30 = .ok (.if_icmp .ne 5, 3) := by decide +kernel
theorem dX4_boatAt_33 : decode cX4_boatAt 33 = .ok (.iload_n 2, 1) := by decide +kernel
theorem dX4_boatAt_34 : decode cX4_boatAt 34 = .ok (.ireturn, 1) := by decide +kernel
theorem dX4_boatAt_35 : decode cX4_boatAt 35 = .ok (.iinc 2 1, 3) := by decide +kernel
theorem dX4_boatAt_38 : decode cX4_boatAt 38 = .ok (.goto (-36), 3) := by decide +kernel
theorem dX4_boatAt_41 : decode cX4_boatAt 41 = .ok (.bipush (-5), 2) := by decide +kernel
theorem dX4_boatAt_43 : decode cX4_boatAt 43 = .ok (.ireturn, 1) := by decide +kernel
theorem dX4_boatsThatAre_0 : decode cX4_boatsThatAre 0 = .ok (.iconst 0, 1) := by decide +kernel
theorem dX4_boatsThatAre_1 : decode cX4_boatsThatAre 1 = .ok (.istore_n 2, 1) := by decide +kernel
theorem dX4_boatsThatAre_2 : decode cX4_boatsThatAre 2 = .ok (.iconst 0, 1) := by decide +kernel
theorem dX4_boatsThatAre_3 : decode cX4_boatsThatAre 3 = .ok (.istore_n 3, 1) := by decide +kernel
theorem dX4_boatsThatAre_4 : decode cX4_boatsThatAre 4 = .ok (.iload_n 3, 1) := by decide +kernel
theorem dX4_boatsThatAre_5 : decode cX4_boatsThatAre 5 = .ok (.aload_n 0, 1) := by decide +kernel
theorem dX4_boatsThatAre_6 : decode cX4_boatsThatAre 6 = .ok (.getfield 58, 3) := by decide +kernel
theorem dX4_boatsThatAre_9 : decode cX4_boatsThatAre 9 = .ok (.if_icmp .ge 24, 3) := by decide +kernel
theorem dX4_boatsThatAre_12 : decode cX4_boatsThatAre 12 = .ok (.aload_n 0, 1) := by decide +kernel
theorem dX4_boatsThatAre_13 : decode cX4_boatsThatAre 13 = .ok (.getfield 24, 3) := by decide +kernel
theorem dX4_boatsThatAre_16 : decode cX4_boatsThatAre 16 = .ok (.iload_n 3, 1) := by decide +kernel
theorem dX4_boatsThatAre_17 : decode cX4_boatsThatAre 17 = .ok (.invokestatic 71, 3) := by decide +kernel
theorem dX4_boatsThatAre_20 : decode cX4_boatsThatAre 20 = .ok (.iload_n 1, 1) := by decide +kernel
theorem dX4_boatsThatAre_21 : decode cX4_boatsThatAre 21 = .ok (.if_icmp .ne 6, 3) := by decide +kernel
theorem dX4_boatsThatAre_24 : decode cX4_boatsThatAre 24 = .ok (.iinc 2 1, 3) := by decide +kernel
theorem dX4_boatsThatAre_27 : decode cX4_boatsThatAre 27 = .ok (.iinc 3 1, 3) := by decide +kernel
theorem dX4_boatsThatAre_30 : decode cX4_boatsThatAre 30 = .ok (.goto (-26), 3) := by decide +kernel
theorem dX4_boatsThatAre_33 : decode cX4_boatsThatAre 33 = .ok (.iload_n 2, 1) := by decide +kernel
theorem dX4_boatsThatAre_34 : decode cX4_boatsThatAre 34 = .ok (.ireturn, 1) := by decide +kernel
theorem dX4_boatsAground_0 : decode cX4_boatsAground 0 = .ok (.iconst 0, 1) := by decide +kernel
theorem dX4_boatsAground_1 : decode cX4_boatsAground 1 = .ok (.istore_n 1, 1) := by decide +kernel
theorem dX4_boatsAground_2 : decode cX4_boatsAground 2 = .ok (.iconst 0, 1) := by decide +kernel
theorem dX4_boatsAground_3 : decode cX4_boatsAground 3 = .ok (.istore_n 2, 1) := by decide +kernel
theorem dX4_boatsAground_4 : decode cX4_boatsAground 4 = .ok (.iload_n 2, 1) := by decide +kernel
theorem dX4_boatsAground_5 : decode cX4_boatsAground 5 = .ok (.aload_n 0, 1) := by decide +kernel
theorem dX4_boatsAground_6 : decode cX4_boatsAground 6 = .ok (.getfield 58, 3) := by decide +kernel
theorem dX4_boatsAground_9 : decode cX4_boatsAground 9 = .ok (.if_icmp .ge 28, 3) := by decide +kernel
theorem dX4_boatsAground_12 : decode cX4_boatsAground 12 = .ok (.aload_n 0, 1) := by decide +kernel
theorem dX4_boatsAground_13 : decode cX4_boatsAground 13 = .ok (.iload_n 2, 1) := by decide +kernel
theorem dX4_boatsAground_14 : decode cX4_boatsAground 14 = .ok (.invokevirtual 88, 3) := by decide +kernel
theorem dX4_boatsAground_17 : decode cX4_boatsAground 17 = .ok (.ifCond .eq 14, 3) := by decide +kernel
theorem dX4_boatsAground_20 : decode cX4_boatsAground 20 = .ok (.aload_n 0, 1) := by decide +kernel
theorem dX4_boatsAground_21 : decode cX4_boatsAground 21 = .ok (.iload_n 2, 1) := by decide +kernel
theorem dX4_boatsAground_22 : decode cX4_boatsAground 22 = .ok (.invokevirtual 91, 3) := by decide +kernel
theorem dX4_boatsAground_25 : decode cX4_boatsAground 25 = .ok (.ifCond .ne 6, 3) := by decide +kernel
theorem dX4_boatsAground_28 : decode cX4_boatsAground 28 = .ok (.iinc 1 1, 3) := by decide +kernel
theorem dX4_boatsAground_31 : decode cX4_boatsAground 31 = .ok (.iinc 2 1, 3) := by decide +kernel
theorem dX4_boatsAground_34 : decode cX4_boatsAground 34 = .ok (.goto (-30), 3) := by decide +kernel
theorem dX4_boatsAground_37 : decode cX4_boatsAground 37 = .ok (.iload_n 1, 1) := by decide +kernel
theorem dX4_boatsAground_38 : decode cX4_boatsAground 38 = .ok (.ireturn, 1) := by decide +kernel
theorem dX4_scoreOf_0 : decode cX4_scoreOf 0 = .ok (.iconst 0, 1) := by decide +kernel
theorem dX4_scoreOf_1 : decode cX4_scoreOf 1 = .ok (.istore_n 2, 1) := by decide +kernel
theorem dX4_scoreOf_2 : decode cX4_scoreOf 2 = .ok (.iconst 0, 1) := by decide +kernel
theorem dX4_scoreOf_3 : decode cX4_scoreOf 3 = .ok (.istore_n 3, 1) := by decide +kernel
theorem dX4_scoreOf_4 : decode cX4_scoreOf 4 = .ok (.iload_n 3, 1) := by decide +kernel
theorem dX4_scoreOf_5 : decode cX4_scoreOf 5 = .ok (.aload_n 0, 1) := by decide +kernel
theorem dX4_scoreOf_6 : decode cX4_scoreOf 6 = .ok (.getfield 58, 3) := by decide +kernel
theorem dX4_scoreOf_9 : decode cX4_scoreOf 9 = .ok (.if_icmp .ge 44, 3) := by decide +kernel
theorem dX4_scoreOf_12 : decode cX4_scoreOf 12 = .ok (.aload_n 0, 1) := by decide +kernel
theorem dX4_scoreOf_13 : decode cX4_scoreOf 13 = .ok (.getfield 18, 3) := by decide +kernel
theorem dX4_scoreOf_16 : decode cX4_scoreOf 16 = .ok (.iload_n 3, 1) := by decide +kernel
theorem dX4_scoreOf_17 : decode cX4_scoreOf 17 = .ok (.invokestatic 71, 3) := by decide +kernel
theorem dX4_scoreOf_20 : decode cX4_scoreOf 20 = .ok (.iload_n 1, 1) := by decide +kernel
theorem dX4_scoreOf_21 : decode cX4_scoreOf 21 = .ok (.if_icmp .ne 26, 3) := by decide +kernel
theorem dX4_scoreOf_24 : decode cX4_scoreOf 24 = .ok (.aload_n 0, 1) := by decide +kernel
theorem dX4_scoreOf_25 : decode cX4_scoreOf 25 = .ok (.getfield 24, 3) := by decide +kernel
theorem dX4_scoreOf_28 : decode cX4_scoreOf 28 = .ok (.iload_n 3, 1) := by decide +kernel
theorem dX4_scoreOf_29 : decode cX4_scoreOf 29 = .ok (.invokestatic 71, 3) := by decide +kernel
theorem dX4_scoreOf_32 : decode cX4_scoreOf 32 = .ok (.iconst 1, 1) := by decide +kernel
theorem dX4_scoreOf_33 : decode cX4_scoreOf 33 = .ok (.if_icmp .ne 14, 3) := by decide +kernel
theorem dX4_scoreOf_36 : decode cX4_scoreOf 36 = .ok (.iload_n 2, 1) := by decide +kernel
theorem dX4_scoreOf_37 : decode cX4_scoreOf 37 = .ok (.aload_n 0, 1) := by decide +kernel
theorem dX4_scoreOf_38 : decode cX4_scoreOf 38 = .ok (.getfield 21, 3) := by decide +kernel
theorem dX4_scoreOf_41 : decode cX4_scoreOf 41 = .ok (.iload_n 3, 1) := by decide +kernel
theorem dX4_scoreOf_42 : decode cX4_scoreOf 42 = .ok (.invokestatic 71, 3) := by decide +kernel
theorem dX4_scoreOf_45 : decode cX4_scoreOf 45 = .ok (.iadd, 1) := by decide +kernel
theorem dX4_scoreOf_46 : decode cX4_scoreOf 46 = .ok (.istore_n 2, 1) := by decide +kernel
theorem dX4_scoreOf_47 : decode cX4_scoreOf 47 = .ok (.iinc 3 1, 3) := by decide +kernel
theorem dX4_scoreOf_50 : decode cX4_scoreOf 50 = .ok (.goto (-46), 3) := by decide +kernel
theorem dX4_scoreOf_53 : decode cX4_scoreOf 53 = .ok (.iload_n 2, 1) := by decide +kernel
theorem dX4_scoreOf_54 : decode cX4_scoreOf 54 = .ok (.ireturn, 1) := by decide +kernel
theorem dX4_mover_0 : decode cX4_mover 0 = .ok (.aload_n 0, 1) := by decide +kernel
theorem dX4_mover_1 : decode cX4_mover 1 = .ok (.getfield 64, 3) := by decide +kernel
theorem dX4_mover_4 : decode cX4_mover 4 = .ok (.iconst 2, 1) := by decide +kernel
theorem dX4_mover_5 : decode cX4_mover 5 = .ok (.irem, 1) := by decide +kernel
theorem dX4_mover_6 : decode cX4_mover 6 = .ok (.ireturn, 1) := by decide +kernel
theorem dX4_isOver_0 : decode cX4_isOver 0 = .ok (.aload_n 0, 1) := by decide +kernel
theorem dX4_isOver_1 : decode cX4_isOver 1 = .ok (.getfield 64, 3) := by decide +kernel
theorem dX4_isOver_4 : decode cX4_isOver 4 = .ok (.aload_n 0, 1) := by decide +kernel
theorem dX4_isOver_5 : decode cX4_isOver 5 = .ok (.getfield 43, 3) := by decide +kernel
theorem dX4_isOver_8 : decode cX4_isOver 8 = .ok (.if_icmp .gt 11, 3) := by decide +kernel
theorem dX4_isOver_11 : decode cX4_isOver 11 = .ok (.aload_n 0, 1) := by decide +kernel
theorem dX4_isOver_12 : decode cX4_isOver 12 = .ok (.iconst 0, 1) := by decide +kernel
theorem dX4_isOver_13 : decode cX4_isOver 13 = .ok (.invokevirtual 94, 3) := by decide +kernel
theorem dX4_isOver_16 : decode cX4_isOver 16 = .ok (.ifCond .ne 7, 3) := by decide +kernel
theorem dX4_isOver_19 : decode cX4_isOver 19 = .ok (.iconst 1, 1) := by decide +kernel
theorem dX4_isOver_20 : decode cX4_isOver 20 = .ok (.goto 4, 3) := by decide +kernel
theorem dX4_isOver_23 : decode cX4_isOver 23 = .ok (.iconst 0, 1) := by decide +kernel
theorem dX4_isOver_24 : decode cX4_isOver 24 = .ok (.ireturn, 1) := by decide +kernel
theorem dX5_init_0 : decode cX5_init 0 = .ok (.aload_n 0, 1) := by decide +kernel
theorem dX5_init_1 : decode cX5_init 1 = .ok (.invokespecial 1, 3) := by decide +kernel
theorem dX5_init_4 : decode cX5_init 4 = .ok (.aload_n 0, 1) := by decide +kernel
theorem dX5_init_5 : decode cX5_init 5 = .ok (.new 7, 3) := by decide +kernel
theorem dX5_init_8 : decode cX5_init 8 = .ok (.dup, 1) := by decide +kernel
theorem dX5_init_9 : decode cX5_init 9 = .ok (.invokespecial 9, 3) := by decide +kernel
theorem dX5_init_12 : decode cX5_init 12 = .ok (.putfield 10, 3) := by decide +kernel
theorem dX5_init_15 : decode cX5_init 15 = .ok (.aload_n 0, 1) := by decide +kernel
theorem dX5_init_16 : decode cX5_init 16 = .ok (.new 7, 3) := by decide +kernel
theorem dX5_init_19 : decode cX5_init 19 = .ok (.dup, 1) := by decide +kernel
theorem dX5_init_20 : decode cX5_init 20 = .ok (.invokespecial 9, 3) := by decide +kernel
theorem dX5_init_23 : decode cX5_init 23 = .ok (.putfield 16, 3) := by decide +kernel
theorem dX5_init_26 : decode cX5_init 26 = .ok (.aload_n 0, 1) := by decide +kernel
theorem dX5_init_27 : decode cX5_init 27 = .ok (.new 19, 3) := by decide +kernel
theorem dX5_init_30 : decode cX5_init 30 = .ok (.dup, 1) := by decide +kernel
theorem dX5_init_31 : decode cX5_init 31 = .ok (.aload_n 0, 1) := by decide +kernel
theorem dX5_init_32 : decode cX5_init 32 = .ok (.getfield 10, 3) := by decide +kernel
theorem dX5_init_35 : decode cX5_init 35 = .ok (.invokespecial 21, 3) := by decide +kernel
theorem dX5_init_38 : decode cX5_init 38 = .ok (.putfield 24, 3) := by decide +kernel
theorem dX5_init_41 : decode cX5_init 41 = .ok (.aload_n 0, 1) := by decide +kernel
theorem dX5_init_42 : decode cX5_init 42 = .ok (.new 28, 3) := by decide +kernel
theorem dX5_init_45 : decode cX5_init 45 = .ok (.dup, 1) := by decide +kernel
theorem dX5_init_46 : decode cX5_init 46 = .ok (.aload_n 0, 1) := by decide +kernel
theorem dX5_init_47 : decode cX5_init 47 = .ok (.getfield 10, 3) := by decide +kernel
theorem dX5_init_50 : decode cX5_init 50 = .ok (.invokespecial 30, 3) := by decide +kernel
theorem dX5_init_53 : decode cX5_init 53 = .ok (.putfield 31, 3) := by decide +kernel
theorem dX5_init_56 : decode cX5_init 56 = .ok (.aload_n 0, 1) := by decide +kernel
theorem dX5_init_57 : decode cX5_init 57 = .ok (.new 35, 3) := by decide +kernel
theorem dX5_init_60 : decode cX5_init 60 = .ok (.dup, 1) := by decide +kernel
theorem dX5_init_61 : decode cX5_init 61 = .ok (.invokespecial 37, 3) := by decide +kernel
theorem dX5_init_64 : decode cX5_init 64 = .ok (.putfield 38, 3) := by decide +kernel
theorem dX5_init_67 : decode cX5_init 67 = .ok (.aload_n 0, 1) := by decide +kernel
theorem dX5_init_68 : decode cX5_init 68 = .ok (.new 42, 3) := by decide +kernel
theorem dX5_init_71 : decode cX5_init 71 = .ok (.dup, 1) := by decide +kernel
theorem dX5_init_72 : decode cX5_init 72 = .ok (.invokespecial 44, 3) := by decide +kernel
theorem dX5_init_75 : decode cX5_init 75 = .ok (.putfield 45, 3) := by decide +kernel
theorem dX5_init_78 : decode cX5_init 78 = .ok (.return_, 1) := by decide +kernel
theorem dX5_sand_0 : decode cX5_sand 0 = .ok (.aload_n 0, 1) := by decide +kernel
theorem dX5_sand_1 : decode cX5_sand 1 = .ok (.getfield 16, 3) := by decide +kernel
theorem dX5_sand_4 : decode cX5_sand 4 = .ok (.aload_n 0, 1) := by decide +kernel
theorem dX5_sand_5 : decode cX5_sand 5 = .ok (.getfield 10, 3) := by decide +kernel
theorem dX5_sand_8 : decode cX5_sand 8 = .ok (.invokevirtual 49, 3) := by decide +kernel
theorem dX5_sand_11 : decode cX5_sand 11 = .ok (.aload_n 0, 1) := by decide +kernel
theorem dX5_sand_12 : decode cX5_sand 12 = .ok (.aload_n 0, 1) := by decide +kernel
theorem dX5_sand_13 : decode cX5_sand 13 = .ok (.getfield 24, 3) := by decide +kernel
theorem dX5_sand_16 : decode cX5_sand 16 = .ok (.iload_n 1, 1) := by decide +kernel
theorem dX5_sand_17 : decode cX5_sand 17 = .ok (.iload_n 2, 1) := by decide +kernel
theorem dX5_sand_18 : decode cX5_sand 18 = .ok (.iload_n 3, 1) := by decide +kernel
theorem dX5_sand_19 : decode cX5_sand 19 = .ok (.invokevirtual 52, 3) := by decide +kernel
theorem dX5_sand_22 : decode cX5_sand 22 = .ok (.invokevirtual 56, 3) := by decide +kernel
theorem dX5_sand_25 : decode cX5_sand 25 = .ok (.ireturn, 1) := by decide +kernel
theorem dX5_boat_0 : decode cX5_boat 0 = .ok (.aload_n 0, 1) := by decide +kernel
theorem dX5_boat_1 : decode cX5_boat 1 = .ok (.getfield 16, 3) := by decide +kernel
theorem dX5_boat_4 : decode cX5_boat 4 = .ok (.aload_n 0, 1) := by decide +kernel
theorem dX5_boat_5 : decode cX5_boat 5 = .ok (.getfield 10, 3) := by decide +kernel
theorem dX5_boat_8 : decode cX5_boat 8 = .ok (.invokevirtual 49, 3) := by decide +kernel
theorem dX5_boat_11 : decode cX5_boat 11 = .ok (.aload_n 0, 1) := by decide +kernel
theorem dX5_boat_12 : decode cX5_boat 12 = .ok (.aload_n 0, 1) := by decide +kernel
theorem dX5_boat_13 : decode cX5_boat 13 = .ok (.getfield 24, 3) := by decide +kernel
theorem dX5_boat_16 : decode cX5_boat 16 = .ok (.iload_n 1, 1) := by decide +kernel
theorem dX5_boat_17 : decode cX5_boat 17 = .ok (.iload_n 2, 1) := by decide +kernel
theorem dX5_boat_18 : decode cX5_boat 18 = .ok (.iload_n 3, 1) := by decide +kernel
theorem dX5_boat_19 : decode cX5_boat 19 = .ok (.invokevirtual 60, 3) := by decide +kernel
theorem dX5_boat_22 : decode cX5_boat 22 = .ok (.invokevirtual 56, 3) := by decide +kernel
theorem dX5_boat_25 : decode cX5_boat 25 = .ok (.ireturn, 1) := by decide +kernel
theorem dX5_set_0 : decode cX5_set 0 = .ok (.aload_n 0, 1) := by decide +kernel
theorem dX5_set_1 : decode cX5_set 1 = .ok (.getfield 16, 3) := by decide +kernel
theorem dX5_set_4 : decode cX5_set 4 = .ok (.aload_n 0, 1) := by decide +kernel
theorem dX5_set_5 : decode cX5_set 5 = .ok (.getfield 10, 3) := by decide +kernel
theorem dX5_set_8 : decode cX5_set 8 = .ok (.invokevirtual 49, 3) := by decide +kernel
theorem dX5_set_11 : decode cX5_set 11 = .ok (.aload_n 0, 1) := by decide +kernel
theorem dX5_set_12 : decode cX5_set 12 = .ok (.aload_n 0, 1) := by decide +kernel
theorem dX5_set_13 : decode cX5_set 13 = .ok (.getfield 24, 3) := by decide +kernel
theorem dX5_set_16 : decode cX5_set 16 = .ok (.iload_n 1, 1) := by decide +kernel
theorem dX5_set_17 : decode cX5_set 17 = .ok (.iload_n 2, 1) := by decide +kernel
theorem dX5_set_18 : decode cX5_set 18 = .ok (.invokevirtual 64, 3) := by decide +kernel
theorem dX5_set_21 : decode cX5_set 21 = .ok (.invokevirtual 56, 3) := by decide +kernel
theorem dX5_set_24 : decode cX5_set 24 = .ok (.ireturn, 1) := by decide +kernel
theorem dX5_move_0 : decode cX5_move 0 = .ok (.aload_n 0, 1) := by decide +kernel
theorem dX5_move_1 : decode cX5_move 1 = .ok (.getfield 16, 3) := by decide +kernel
theorem dX5_move_4 : decode cX5_move 4 = .ok (.aload_n 0, 1) := by decide +kernel
theorem dX5_move_5 : decode cX5_move 5 = .ok (.getfield 10, 3) := by decide +kernel
theorem dX5_move_8 : decode cX5_move 8 = .ok (.invokevirtual 49, 3) := by decide +kernel
theorem dX5_move_11 : decode cX5_move 11 = .ok (.aload_n 0, 1) := by decide +kernel
theorem dX5_move_12 : decode cX5_move 12 = .ok (.aload_n 0, 1) := by decide +kernel
theorem dX5_move_13 : decode cX5_move 13 = .ok (.getfield 24, 3) := by decide +kernel
theorem dX5_move_16 : decode cX5_move 16 = .ok (.iload_n 1, 1) := by decide +kernel
theorem dX5_move_17 : decode cX5_move 17 = .ok (.iload_n 2, 1) := by decide +kernel
theorem dX5_move_18 : decode cX5_move 18 = .ok (.iload_n 3, 1) := by decide +kernel
theorem dX5_move_19 : decode cX5_move 19 = .ok (.invokevirtual 68, 3) := by decide +kernel
theorem dX5_move_22 : decode cX5_move 22 = .ok (.invokevirtual 56, 3) := by decide +kernel
theorem dX5_move_25 : decode cX5_move 25 = .ok (.ireturn, 1) := by decide +kernel
theorem dX5_pause_0 : decode cX5_pause 0 = .ok (.aload_n 0, 1) := by decide +kernel
theorem dX5_pause_1 : decode cX5_pause 1 = .ok (.getfield 16, 3) := by decide +kernel
theorem dX5_pause_4 : decode cX5_pause 4 = .ok (.aload_n 0, 1) := by decide +kernel
theorem dX5_pause_5 : decode cX5_pause 5 = .ok (.getfield 10, 3) := by decide +kernel
theorem dX5_pause_8 : decode cX5_pause 8 = .ok (.invokevirtual 49, 3) := by decide +kernel
theorem dX5_pause_11 : decode cX5_pause 11 = .ok (.aload_n 0, 1) := by decide +kernel
theorem dX5_pause_12 : decode cX5_pause 12 = .ok (.aload_n 0, 1) := by decide +kernel
theorem dX5_pause_13 : decode cX5_pause 13 = .ok (.getfield 24, 3) := by decide +kernel
theorem dX5_pause_16 : decode cX5_pause 16 = .ok (.invokevirtual 71, 3) := by decide +kernel
theorem dX5_pause_19 : decode cX5_pause 19 = .ok (.invokevirtual 56, 3) := by decide +kernel
theorem dX5_pause_22 : decode cX5_pause 22 = .ok (.ireturn, 1) := by decide +kernel
theorem dX5_undo_0 : decode cX5_undo 0 = .ok (.aload_n 0, 1) := by decide +kernel
theorem dX5_undo_1 : decode cX5_undo 1 = .ok (.getfield 38, 3) := by decide +kernel
theorem dX5_undo_4 : decode cX5_undo 4 = .ok (.aload_n 0, 1) := by decide +kernel
theorem dX5_undo_5 : decode cX5_undo 5 = .ok (.getfield 10, 3) := by decide +kernel
theorem dX5_undo_8 : decode cX5_undo 8 = .ok (.invokevirtual 95, 3) := by decide +kernel
theorem dX5_undo_11 : decode cX5_undo 11 = .ok (.ireturn, 1) := by decide +kernel
theorem dX5_restore_0 : decode cX5_restore 0 = .ok (.aload_n 0, 1) := by decide +kernel
theorem dX5_restore_1 : decode cX5_restore 1 = .ok (.getfield 16, 3) := by decide +kernel
theorem dX5_restore_4 : decode cX5_restore 4 = .ok (.aload_n 0, 1) := by decide +kernel
theorem dX5_restore_5 : decode cX5_restore 5 = .ok (.getfield 10, 3) := by decide +kernel
theorem dX5_restore_8 : decode cX5_restore 8 = .ok (.invokevirtual 49, 3) := by decide +kernel
theorem dX5_restore_11 : decode cX5_restore 11 = .ok (.aload_n 0, 1) := by decide +kernel
theorem dX5_restore_12 : decode cX5_restore 12 = .ok (.aload_n 0, 1) := by decide +kernel
theorem dX5_restore_13 : decode cX5_restore 13 = .ok (.getfield 38, 3) := by decide +kernel
theorem dX5_restore_16 : decode cX5_restore 16 = .ok (.aload_n 0, 1) := by decide +kernel
theorem dX5_restore_17 : decode cX5_restore 17 = .ok (.getfield 10, 3) := by decide +kernel
theorem dX5_restore_20 : decode cX5_restore 20 = .ok (.invokevirtual 105, 3) := by decide +kernel
theorem dX5_restore_23 : decode cX5_restore 23 = .ok (.invokevirtual 56, 3) := by decide +kernel
theorem dX5_restore_26 : decode cX5_restore 26 = .ok (.ireturn, 1) := by decide +kernel
theorem dX5_cellOf_0 : decode cX5_cellOf 0 = .ok (.iload_n 1, 1) := by decide +kernel
theorem dX5_cellOf_1 : decode cX5_cellOf 1 = .ok (.invokestatic 108, 3) := by decide +kernel
theorem dX5_cellOf_4 : decode cX5_cellOf 4 = .ok (.ifCond .ne 5, 3) := by decide +kernel
theorem dX5_cellOf_7 : decode cX5_cellOf 7 = .ok (.iconst (-1), 1) := by decide +kernel
theorem dX5_cellOf_8 : decode cX5_cellOf 8 = .ok (.ireturn, 1) := by decide +kernel
theorem dX5_cellOf_9 : decode cX5_cellOf 9 = .ok (.iload_n 2, 1) := by decide +kernel
theorem dX5_cellOf_10 : decode cX5_cellOf 10 = .ok (.tableswitch 72 0 3 #[30, 42, 54, 63], 30) := by decide +kernel
theorem dX5_cellOf_40 : decode cX5_cellOf 40 = .ok (.aload_n 0, 1) := by decide +kernel
theorem dX5_cellOf_41 : decode cX5_cellOf 41 = .ok (.getfield 10, 3) := by decide +kernel
theorem dX5_cellOf_44 : decode cX5_cellOf 44 = .ok (.getfield 112, 3) := by decide +kernel
theorem dX5_cellOf_47 : decode cX5_cellOf 47 = .ok (.iload_n 1, 1) := by decide +kernel
theorem dX5_cellOf_48 : decode cX5_cellOf 48 = .ok (.invokestatic 116, 3) := by decide +kernel
theorem dX5_cellOf_51 : decode cX5_cellOf 51 = .ok (.ireturn, 1) := by decide +kernel
theorem dX5_cellOf_52 : decode cX5_cellOf 52 = .ok (.aload_n 0, 1) := by decide +kernel
theorem dX5_cellOf_53 : decode cX5_cellOf 53 = .ok (.getfield 10, 3) := by decide +kernel
theorem dX5_cellOf_56 : decode cX5_cellOf 56 = .ok (.getfield 120, 3) := by decide +kernel
theorem dX5_cellOf_59 : decode cX5_cellOf 59 = .ok (.iload_n 1, 1) := by decide +kernel
theorem dX5_cellOf_60 : decode cX5_cellOf 60 = .ok (.invokestatic 116, 3) := by decide +kernel
theorem dX5_cellOf_63 : decode cX5_cellOf 63 = .ok (.ireturn, 1) := by decide +kernel
theorem dX5_cellOf_64 : decode cX5_cellOf 64 = .ok (.aload_n 0, 1) := by decide +kernel
theorem dX5_cellOf_65 : decode cX5_cellOf 65 = .ok (.getfield 10, 3) := by decide +kernel
theorem dX5_cellOf_68 : decode cX5_cellOf 68 = .ok (.iload_n 1, 1) := by decide +kernel
theorem dX5_cellOf_69 : decode cX5_cellOf 69 = .ok (.invokevirtual 123, 3) := by decide +kernel
theorem dX5_cellOf_72 : decode cX5_cellOf 72 = .ok (.ireturn, 1) := by decide +kernel
theorem dX5_cellOf_73 : decode cX5_cellOf 73 = .ok (.aload_n 0, 1) := by decide +kernel
theorem dX5_cellOf_74 : decode cX5_cellOf 74 = .ok (.getfield 10, 3) := by decide +kernel
theorem dX5_cellOf_77 : decode cX5_cellOf 77 = .ok (.iload_n 1, 1) := by decide +kernel
theorem dX5_cellOf_78 : decode cX5_cellOf 78 = .ok (.invokevirtual 126, 3) := by decide +kernel
theorem dX5_cellOf_81 : decode cX5_cellOf 81 = .ok (.ireturn, 1) := by decide +kernel
theorem dX5_cellOf_82 : decode cX5_cellOf 82 = .ok (.bipush (-2), 2) := by decide +kernel
theorem dX5_cellOf_84 : decode cX5_cellOf 84 = .ok (.ireturn, 1) := by decide +kernel
theorem dX5_boatOf_0 : decode cX5_boatOf 0 = .ok (.aload_n 0, 1) := by decide +kernel
theorem dX5_boatOf_1 : decode cX5_boatOf 1 = .ok (.getfield 10, 3) := by decide +kernel
theorem dX5_boatOf_4 : decode cX5_boatOf 4 = .ok (.iload_n 1, 1) := by decide +kernel
theorem dX5_boatOf_5 : decode cX5_boatOf 5 = .ok (.invokevirtual 129, 3) := by decide +kernel
theorem dX5_boatOf_8 : decode cX5_boatOf 8 = .ok (.ifCond .ne 5, 3) := by decide +kernel
theorem dX5_boatOf_11 : decode cX5_boatOf 11 = .ok (.iconst (-1), 1) := by decide +kernel
theorem dX5_boatOf_12 : decode cX5_boatOf 12 = .ok (.ireturn, 1) := by decide +kernel
theorem dX5_boatOf_13 : decode cX5_boatOf 13 = .ok (.iload_n 2, 1) := by decide +kernel
theorem dX5_boatOf_14 : decode cX5_boatOf 14 = .ok (.tableswitch 155 0 6 #[42, 54, 66, 78, 106, 134, 146], 42) := by decide +kernel
theorem dX5_boatOf_56 : decode cX5_boatOf 56 = .ok (.aload_n 0, 1) := by decide +kernel
theorem dX5_boatOf_57 : decode cX5_boatOf 57 = .ok (.getfield 10, 3) := by decide +kernel
theorem dX5_boatOf_60 : decode cX5_boatOf 60 = .ok (.getfield 132, 3) := by decide +kernel
theorem dX5_boatOf_63 : decode cX5_boatOf 63 = .ok (.iload_n 1, 1) := by decide +kernel
theorem dX5_boatOf_64 : decode cX5_boatOf 64 = .ok (.invokestatic 116, 3) := by decide +kernel
theorem dX5_boatOf_67 : decode cX5_boatOf 67 = .ok (.ireturn, 1) := by decide +kernel
theorem dX5_boatOf_68 : decode cX5_boatOf 68 = .ok (.aload_n 0, 1) := by decide +kernel
theorem dX5_boatOf_69 : decode cX5_boatOf 69 = .ok (.getfield 10, 3) := by decide +kernel
theorem dX5_boatOf_72 : decode cX5_boatOf 72 = .ok (.getfield 135, 3) := by decide +kernel
theorem dX5_boatOf_75 : decode cX5_boatOf 75 = .ok (.iload_n 1, 1) := by decide +kernel
theorem dX5_boatOf_76 : decode cX5_boatOf 76 = .ok (.invokestatic 116, 3) := by decide +kernel
theorem dX5_boatOf_79 : decode cX5_boatOf 79 = .ok (.ireturn, 1) := by decide +kernel
theorem dX5_boatOf_80 : decode cX5_boatOf 80 = .ok (.aload_n 0, 1) := by decide +kernel
theorem dX5_boatOf_81 : decode cX5_boatOf 81 = .ok (.getfield 10, 3) := by decide +kernel
theorem dX5_boatOf_84 : decode cX5_boatOf 84 = .ok (.getfield 138, 3) := by decide +kernel
theorem dX5_boatOf_87 : decode cX5_boatOf 87 = .ok (.iload_n 1, 1) := by decide +kernel
theorem dX5_boatOf_88 : decode cX5_boatOf 88 = .ok (.invokestatic 116, 3) := by decide +kernel
theorem dX5_boatOf_91 : decode cX5_boatOf 91 = .ok (.ireturn, 1) := by decide +kernel
theorem dX5_boatOf_92 : decode cX5_boatOf 92 = .ok (.aload_n 0, 1) := by decide +kernel
theorem dX5_boatOf_93 : decode cX5_boatOf 93 = .ok (.getfield 10, 3) := by decide +kernel
theorem dX5_boatOf_96 : decode cX5_boatOf 96 = .ok (.iload_n 1, 1) := by decide +kernel
theorem dX5_boatOf_97 : decode cX5_boatOf 97 = .ok (.invokevirtual 141, 3) := by decide +kernel
theorem dX5_boatOf_100 : decode cX5_boatOf 100 = .ok (.ifCond .eq 17, 3) := by decide +kernel
theorem dX5_boatOf_103 : decode cX5_boatOf 103 = .ok (.aload_n 0, 1) := by decide +kernel
theorem dX5_boatOf_104 : decode cX5_boatOf 104 = .ok (.getfield 10, 3) := by decide +kernel
theorem dX5_boatOf_107 : decode cX5_boatOf 107 = .ok (.getfield 144, 3) := by decide +kernel
theorem dX5_boatOf_110 : decode cX5_boatOf 110 = .ok (.iload_n 1, 1) := by decide +kernel
theorem dX5_boatOf_111 : decode cX5_boatOf 111 = .ok (.invokestatic 116, 3) := by decide +kernel
theorem dX5_boatOf_114 : decode cX5_boatOf 114 = .ok (.goto 5, 3) := by decide +kernel
theorem dX5_boatOf_117 : decode cX5_boatOf 117 = .ok (.bipush (-5), 2) := by decide +kernel
theorem dX5_boatOf_119 : decode cX5_boatOf 119 = .ok (.ireturn, 1) := by decide +kernel
theorem dX5_boatOf_120 : decode cX5_boatOf 120 = .ok (.aload_n 0, 1) := by decide +kernel
theorem dX5_boatOf_121 : decode cX5_boatOf 121 = .ok (.getfield 10, 3) := by decide +kernel
theorem dX5_boatOf_124 : decode cX5_boatOf 124 = .ok (.iload_n 1, 1) := by decide +kernel
theorem dX5_boatOf_125 : decode cX5_boatOf 125 = .ok (.invokevirtual 141, 3) := by decide +kernel
theorem dX5_boatOf_128 : decode cX5_boatOf 128 = .ok (.ifCond .eq 18, 3) := by decide +kernel
theorem dX5_boatOf_131 : decode cX5_boatOf 131 = .ok (.aload_n 0, 1) := by decide +kernel
theorem dX5_boatOf_132 : decode cX5_boatOf 132 = .ok (.getfield 10, 3) := by decide +kernel
theorem dX5_boatOf_135 : decode cX5_boatOf 135 = .ok (.iload_n 1, 1) := by decide +kernel
theorem dX5_boatOf_136 : decode cX5_boatOf 136 = .ok (.invokevirtual 147, 3) := by decide +kernel
theorem dX5_boatOf_139 : decode cX5_boatOf 139 = .ok (.ifCond .eq 7, 3) := by decide +kernel
theorem dX5_boatOf_142 : decode cX5_boatOf 142 = .ok (.iconst 1, 1) := by decide +kernel
theorem dX5_boatOf_143 : decode cX5_boatOf 143 = .ok (.goto 4, 3) := by decide +kernel
theorem dX5_boatOf_146 : decode cX5_boatOf 146 = .ok (.iconst 0, 1) := by decide +kernel
theorem dX5_boatOf_147 : decode cX5_boatOf 147 = .ok (.ireturn, 1) := by decide +kernel
theorem dX5_boatOf_148 : decode cX5_boatOf 148 = .ok (.aload_n 0, 1) := by decide +kernel
theorem dX5_boatOf_149 : decode cX5_boatOf 149 = .ok (.getfield 10, 3) := by decide +kernel
theorem dX5_boatOf_152 : decode cX5_boatOf 152 = .ok (.getfield 150, 3) := by decide +kernel
theorem dX5_boatOf_155 : decode cX5_boatOf 155 = .ok (.iload_n 1, 1) := by decide +kernel
theorem dX5_boatOf_156 : decode cX5_boatOf 156 = .ok (.invokestatic 116, 3) := by decide +kernel
theorem dX5_boatOf_159 : decode cX5_boatOf 159 = .ok (.ireturn, 1) := by decide +kernel
theorem dX5_boatOf_160 : decode cX5_boatOf 160 = .ok (.aload_n 0, 1) := by decide +kernel
theorem dX5_boatOf_161 : decode cX5_boatOf 161 = .ok (.getfield 24, 3) := by decide +kernel
theorem dX5_boatOf_164 : decode cX5_boatOf 164 = .ok (.iload_n 1, 1) := by decide +kernel
theorem dX5_boatOf_165 : decode cX5_boatOf 165 = .ok (.invokevirtual 153, 3) := by decide +kernel
theorem dX5_boatOf_168 : decode cX5_boatOf 168 = .ok (.ireturn, 1) := by decide +kernel
theorem dX5_boatOf_169 : decode cX5_boatOf 169 = .ok (.bipush (-2), 2) := by decide +kernel
theorem dX5_boatOf_171 : decode cX5_boatOf 171 = .ok (.ireturn, 1) := by decide +kernel
theorem dX5_tide_0 : decode cX5_tide 0 = .ok (.iload_n 1, 1) := by decide +kernel
theorem dX5_tide_1 : decode cX5_tide 1 = .ok (.ifCond .lt 10, 3) := by decide +kernel
theorem dX5_tide_4 : decode cX5_tide 4 = .ok (.iload_n 1, 1) := by decide +kernel
theorem dX5_tide_5 : decode cX5_tide 5 = .ok (.sipush 1000, 3) := by decide +kernel
theorem dX5_tide_8 : decode cX5_tide 8 = .ok (.if_icmp .le 7, 3) := by decide +kernel
theorem dX5_tide_11 : decode cX5_tide 11 = .ok (.iconst (-1), 1) := by decide +kernel
theorem dX5_tide_12 : decode cX5_tide 12 = .ok (.goto 11, 3) := by decide +kernel
theorem dX5_tide_15 : decode cX5_tide 15 = .ok (.aload_n 0, 1) := by decide +kernel
theorem dX5_tide_16 : decode cX5_tide 16 = .ok (.getfield 10, 3) := by decide +kernel
theorem dX5_tide_19 : decode cX5_tide 19 = .ok (.iload_n 1, 1) := by decide +kernel
theorem dX5_tide_20 : decode cX5_tide 20 = .ok (.invokevirtual 156, 3) := by decide +kernel
theorem dX5_tide_23 : decode cX5_tide 23 = .ok (.ireturn, 1) := by decide +kernel
theorem dX5_why_0 : decode cX5_why 0 = .ok (.aload_n 0, 1) := by decide +kernel
theorem dX5_why_1 : decode cX5_why 1 = .ok (.getfield 24, 3) := by decide +kernel
theorem dX5_why_4 : decode cX5_why 4 = .ok (.iload_n 1, 1) := by decide +kernel
theorem dX5_why_5 : decode cX5_why 5 = .ok (.iload_n 2, 1) := by decide +kernel
theorem dX5_why_6 : decode cX5_why 6 = .ok (.iload_n 3, 1) := by decide +kernel
theorem dX5_why_7 : decode cX5_why 7 = .ok (.invokevirtual 159, 3) := by decide +kernel
theorem dX5_why_10 : decode cX5_why 10 = .ok (.istore 4, 2) := by decide +kernel
theorem dX5_why_12 : decode cX5_why 12 = .ok (.iload 4, 2) := by decide +kernel
theorem dX5_why_14 : decode cX5_why 14 = .ok (.ifCond .eq 8, 3) := by decide +kernel
theorem dX5_why_17 : decode cX5_why 17 = .ok (.iload 4, 2) := by decide +kernel
theorem dX5_why_19 : decode cX5_why 19 = .ok (.goto 14, 3) := by decide +kernel
theorem dX5_why_22 : decode cX5_why 22 = .ok (.aload_n 0, 1) := by decide +kernel
theorem dX5_why_23 : decode cX5_why 23 = .ok (.getfield 24, 3) := by decide +kernel
theorem dX5_why_26 : decode cX5_why 26 = .ok (.iload_n 1, 1) := by decide +kernel
theorem dX5_why_27 : decode cX5_why 27 = .ok (.iload_n 2, 1) := by decide +kernel
theorem dX5_why_28 : decode cX5_why 28 = .ok (.iload_n 3, 1) := by decide +kernel
theorem dX5_why_29 : decode cX5_why 29 = .ok (.iconst 0, 1) := by decide +kernel
theorem dX5_why_30 : decode cX5_why 30 = .ok (.invokevirtual 162, 3) := by decide +kernel
theorem dX5_why_33 : decode cX5_why 33 = .ok (.ireturn, 1) := by decide +kernel
theorem dX5_count_0 : decode cX5_count 0 = .ok (.iload_n 1, 1) := by decide +kernel
theorem dX5_count_1 : decode cX5_count 1 = .ok (.tableswitch 260 0 18 #[91, 99, 107, 122, 131, 140, 148, 157, 166, 175, 183, 191, 207, 212, 220, 228, 236, 244, 252], 91) := by decide +kernel
theorem dX5_count_92 : decode cX5_count 92 = .ok (.aload_n 0, 1) := by decide +kernel
theorem dX5_count_93 : decode cX5_count 93 = .ok (.getfield 10, 3) := by decide +kernel
theorem dX5_count_96 : decode cX5_count 96 = .ok (.getfield 102, 3) := by decide +kernel
theorem dX5_count_99 : decode cX5_count 99 = .ok (.ireturn, 1) := by decide +kernel
theorem dX5_count_100 : decode cX5_count 100 = .ok (.aload_n 0, 1) := by decide +kernel
theorem dX5_count_101 : decode cX5_count 101 = .ok (.getfield 10, 3) := by decide +kernel
theorem dX5_count_104 : decode cX5_count 104 = .ok (.invokevirtual 166, 3) := by decide +kernel
theorem dX5_count_107 : decode cX5_count 107 = .ok (.ireturn, 1) := by decide +kernel
theorem dX5_count_108 : decode cX5_count 108 = .ok (.aload_n 0, 1) := by decide +kernel
theorem dX5_count_109 : decode cX5_count 109 = .ok (.getfield 10, 3) := by decide +kernel
theorem dX5_count_112 : decode cX5_count 112 = .ok (.aload_n 0, 1) := by decide +kernel
theorem dX5_count_113 : decode cX5_count 113 = .ok (.getfield 10, 3) := by decide +kernel
theorem dX5_count_116 : decode cX5_count 116 = .ok (.getfield 102, 3) := by decide +kernel
theorem dX5_count_119 : decode cX5_count 119 = .ok (.invokevirtual 156, 3) := by decide +kernel
theorem dX5_count_122 : decode cX5_count 122 = .ok (.ireturn, 1) := by decide +kernel
theorem dX5_count_123 : decode cX5_count 123 = .ok (.aload_n 0, 1) := by decide +kernel
theorem dX5_count_124 : decode cX5_count 124 = .ok (.getfield 10, 3) := by decide +kernel
theorem dX5_count_127 : decode cX5_count 127 = .ok (.iconst 0, 1) := by decide +kernel
theorem dX5_count_128 : decode cX5_count 128 = .ok (.invokevirtual 169, 3) := by decide +kernel
theorem dX5_count_131 : decode cX5_count 131 = .ok (.ireturn, 1) := by decide +kernel
theorem dX5_count_132 : decode cX5_count 132 = .ok (.aload_n 0, 1) := by decide +kernel
theorem dX5_count_133 : decode cX5_count 133 = .ok (.getfield 10, 3) := by decide +kernel
theorem dX5_count_136 : decode cX5_count 136 = .ok (.iconst 1, 1) := by decide +kernel
theorem dX5_count_137 : decode cX5_count 137 = .ok (.invokevirtual 169, 3) := by decide +kernel
theorem dX5_count_140 : decode cX5_count 140 = .ok (.ireturn, 1) := by decide +kernel
theorem dX5_count_141 : decode cX5_count 141 = .ok (.aload_n 0, 1) := by decide +kernel
theorem dX5_count_142 : decode cX5_count 142 = .ok (.getfield 10, 3) := by decide +kernel
theorem dX5_count_145 : decode cX5_count 145 = .ok (.getfield 172, 3) := by decide +kernel
theorem dX5_count_148 : decode cX5_count 148 = .ok (.ireturn, 1) := by decide +kernel
theorem dX5_count_149 : decode cX5_count 149 = .ok (.aload_n 0, 1) := by decide +kernel
theorem dX5_count_150 : decode cX5_count 150 = .ok (.getfield 10, 3) := by decide +kernel
theorem dX5_count_153 : decode cX5_count 153 = .ok (.iconst 0, 1) := by decide +kernel
theorem dX5_count_154 : decode cX5_count 154 = .ok (.invokevirtual 175, 3) := by decide +kernel
theorem dX5_count_157 : decode cX5_count 157 = .ok (.ireturn, 1) := by decide +kernel
theorem dX5_count_158 : decode cX5_count 158 = .ok (.aload_n 0, 1) := by decide +kernel
theorem dX5_count_159 : decode cX5_count 159 = .ok (.getfield 10, 3) := by decide +kernel
theorem dX5_count_162 : decode cX5_count 162 = .ok (.iconst 1, 1) := by decide +kernel
theorem dX5_count_163 : decode cX5_count 163 = .ok (.invokevirtual 175, 3) := by decide +kernel
theorem dX5_count_166 : decode cX5_count 166 = .ok (.ireturn, 1) := by decide +kernel
theorem dX5_count_167 : decode cX5_count 167 = .ok (.aload_n 0, 1) := by decide +kernel
theorem dX5_count_168 : decode cX5_count 168 = .ok (.getfield 10, 3) := by decide +kernel
theorem dX5_count_171 : decode cX5_count 171 = .ok (.iconst 2, 1) := by decide +kernel
theorem dX5_count_172 : decode cX5_count 172 = .ok (.invokevirtual 175, 3) := by decide +kernel
theorem dX5_count_175 : decode cX5_count 175 = .ok (.ireturn, 1) := by decide +kernel
theorem dX5_count_176 : decode cX5_count 176 = .ok (.aload_n 0, 1) := by decide +kernel
theorem dX5_count_177 : decode cX5_count 177 = .ok (.getfield 10, 3) := by decide +kernel
theorem dX5_count_180 : decode cX5_count 180 = .ok (.invokevirtual 178, 3) := by decide +kernel
theorem dX5_count_183 : decode cX5_count 183 = .ok (.ireturn, 1) := by decide +kernel
theorem dX5_count_184 : decode cX5_count 184 = .ok (.aload_n 0, 1) := by decide +kernel
theorem dX5_count_185 : decode cX5_count 185 = .ok (.getfield 10, 3) := by decide +kernel
theorem dX5_count_188 : decode cX5_count 188 = .ok (.getfield 181, 3) := by decide +kernel
theorem dX5_count_191 : decode cX5_count 191 = .ok (.ireturn, 1) := by decide +kernel
theorem dX5_count_192 : decode cX5_count 192 = .ok (.aload_n 0, 1) := by decide +kernel
theorem dX5_count_193 : decode cX5_count 193 = .ok (.getfield 10, 3) := by decide +kernel
theorem dX5_count_196 : decode cX5_count 196 = .ok (.invokevirtual 184, 3) := by decide +kernel
theorem dX5_count_199 : decode cX5_count 199 = .ok (.ifCond .eq 7, 3) := by decide +kernel
theorem dX5_count_202 : decode cX5_count 202 = .ok (.iconst 1, 1) := by decide +kernel
theorem dX5_count_203 : decode cX5_count 203 = .ok (.goto 4, 3) := by decide +kernel
theorem dX5_count_206 : decode cX5_count 206 = .ok (.iconst 0, 1) := by decide +kernel
theorem dX5_count_207 : decode cX5_count 207 = .ok (.ireturn, 1) := by decide +kernel
theorem dX5_count_208 : decode cX5_count 208 = .ok (.aload_n 0, 1) := by decide +kernel
theorem dX5_count_209 : decode cX5_count 209 = .ok (.invokevirtual 188, 3) := by decide +kernel
theorem dX5_count_212 : decode cX5_count 212 = .ok (.ireturn, 1) := by decide +kernel
theorem dX5_count_213 : decode cX5_count 213 = .ok (.aload_n 0, 1) := by decide +kernel
theorem dX5_count_214 : decode cX5_count 214 = .ok (.getfield 38, 3) := by decide +kernel
theorem dX5_count_217 : decode cX5_count 217 = .ok (.getfield 191, 3) := by decide +kernel
theorem dX5_count_220 : decode cX5_count 220 = .ok (.ireturn, 1) := by decide +kernel
theorem dX5_count_221 : decode cX5_count 221 = .ok (.aload_n 0, 1) := by decide +kernel
theorem dX5_count_222 : decode cX5_count 222 = .ok (.getfield 45, 3) := by decide +kernel
theorem dX5_count_225 : decode cX5_count 225 = .ok (.getfield 85, 3) := by decide +kernel
theorem dX5_count_228 : decode cX5_count 228 = .ok (.ireturn, 1) := by decide +kernel
theorem dX5_count_229 : decode cX5_count 229 = .ok (.aload_n 0, 1) := by decide +kernel
theorem dX5_count_230 : decode cX5_count 230 = .ok (.getfield 10, 3) := by decide +kernel
theorem dX5_count_233 : decode cX5_count 233 = .ok (.getfield 194, 3) := by decide +kernel
theorem dX5_count_236 : decode cX5_count 236 = .ok (.ireturn, 1) := by decide +kernel
theorem dX5_count_237 : decode cX5_count 237 = .ok (.aload_n 0, 1) := by decide +kernel
theorem dX5_count_238 : decode cX5_count 238 = .ok (.getfield 10, 3) := by decide +kernel
theorem dX5_count_241 : decode cX5_count 241 = .ok (.getfield 197, 3) := by decide +kernel
theorem dX5_count_244 : decode cX5_count 244 = .ok (.ireturn, 1) := by decide +kernel
theorem dX5_count_245 : decode cX5_count 245 = .ok (.aload_n 0, 1) := by decide +kernel
theorem dX5_count_246 : decode cX5_count 246 = .ok (.getfield 10, 3) := by decide +kernel
theorem dX5_count_249 : decode cX5_count 249 = .ok (.getfield 200, 3) := by decide +kernel
theorem dX5_count_252 : decode cX5_count 252 = .ok (.ireturn, 1) := by decide +kernel
theorem dX5_count_253 : decode cX5_count 253 = .ok (.aload_n 0, 1) := by decide +kernel
theorem dX5_count_254 : decode cX5_count 254 = .ok (.getfield 10, 3) := by decide +kernel
theorem dX5_count_257 : decode cX5_count 257 = .ok (.getfield 203, 3) := by decide +kernel
theorem dX5_count_260 : decode cX5_count 260 = .ok (.ireturn, 1) := by decide +kernel
theorem dX5_count_261 : decode cX5_count 261 = .ok (.bipush (-2), 2) := by decide +kernel
theorem dX5_count_263 : decode cX5_count 263 = .ok (.ireturn, 1) := by decide +kernel
theorem dX5_afloat_0 : decode cX5_afloat 0 = .ok (.aload_n 0, 1) := by decide +kernel
theorem dX5_afloat_1 : decode cX5_afloat 1 = .ok (.getfield 10, 3) := by decide +kernel
theorem dX5_afloat_4 : decode cX5_afloat 4 = .ok (.invokevirtual 206, 3) := by decide +kernel
theorem dX5_afloat_7 : decode cX5_afloat 7 = .ok (.istore_n 3, 1) := by decide +kernel
theorem dX5_afloat_8 : decode cX5_afloat 8 = .ok (.iload_n 1, 1) := by decide +kernel
theorem dX5_afloat_9 : decode cX5_afloat 9 = .ok (.invokestatic 108, 3) := by decide +kernel
theorem dX5_afloat_12 : decode cX5_afloat 12 = .ok (.ifCond .eq 15, 3) := by decide +kernel
theorem dX5_afloat_15 : decode cX5_afloat 15 = .ok (.iload_n 2, 1) := by decide +kernel
theorem dX5_afloat_16 : decode cX5_afloat 16 = .ok (.invokestatic 209, 3) := by decide +kernel
theorem dX5_afloat_19 : decode cX5_afloat 19 = .ok (.ifCond .eq 8, 3) := by decide +kernel
theorem dX5_afloat_22 : decode cX5_afloat 22 = .ok (.iload_n 3, 1) := by decide +kernel
theorem dX5_afloat_23 : decode cX5_afloat 23 = .ok (.iconst 1, 1) := by decide +kernel
theorem dX5_afloat_24 : decode cX5_afloat 24 = .ok (.if_icmp .ge 6, 3) := by decide +kernel
theorem dX5_afloat_27 : decode cX5_afloat 27 = .ok (.ldc 212, 2) := by decide +kernel
theorem dX5_afloat_29 : decode cX5_afloat 29 = .ok (.freturn, 1) := by decide +kernel
theorem dX5_afloat_30 : decode cX5_afloat 30 = .ok (.iconst 0, 1) := by decide +kernel
theorem dX5_afloat_31 : decode cX5_afloat 31 = .ok (.istore 4, 2) := by decide +kernel
theorem dX5_afloat_33 : decode cX5_afloat 33 = .ok (.iconst 0, 1) := by decide +kernel
theorem dX5_afloat_34 : decode cX5_afloat 34 = .ok (.istore 5, 2) := by decide +kernel
theorem dX5_afloat_36 : decode cX5_afloat 36 = .ok (.iload 5, 2) := by decide +kernel
theorem dX5_afloat_38 : decode cX5_afloat 38 = .ok (.iload_n 3, 1) := by decide +kernel
theorem dX5_afloat_39 : decode cX5_afloat 39 = .ok (.if_icmp .ge 26, 3) := by decide +kernel
theorem dX5_afloat_42 : decode cX5_afloat 42 = .ok (.aload_n 0, 1) := by decide +kernel
theorem dX5_afloat_43 : decode cX5_afloat 43 = .ok (.getfield 10, 3) := by decide +kernel
theorem dX5_afloat_46 : decode cX5_afloat 46 = .ok (.iload_n 1, 1) := by decide +kernel
theorem dX5_afloat_47 : decode cX5_afloat 47 = .ok (.iload_n 2, 1) := by decide +kernel
theorem dX5_afloat_48 : decode cX5_afloat 48 = .ok (.iload 5, 2) := by decide +kernel
theorem dX5_afloat_50 : decode cX5_afloat 50 = .ok (.invokevirtual 213, 3) := by decide +kernel
theorem dX5_afloat_53 : decode cX5_afloat 53 = .ok (.ifCond .eq 6, 3) := by decide +kernel
theorem dX5_afloat_56 : decode cX5_afloat 56 = .ok (.iinc 4 1, 3) := by decide +kernel
theorem dX5_afloat_59 : decode cX5_afloat 59 = .ok (.iinc 5 1, 3) := by decide +kernel
theorem dX5_afloat_62 : decode cX5_afloat 62 = .ok (.goto (-26), 3) := by decide +kernel
theorem dX5_afloat_65 : decode cX5_afloat 65 = .ok (.iload 4, 2) := by decide +kernel
theorem dX5_afloat_67 : decode cX5_afloat 67 = .ok (.i2f, 1) := by decide +kernel
theorem dX5_afloat_68 : decode cX5_afloat 68 = .ok (.iload_n 3, 1) := by decide +kernel
theorem dX5_afloat_69 : decode cX5_afloat 69 = .ok (.i2f, 1) := by decide +kernel
theorem dX5_afloat_70 : decode cX5_afloat 70 = .ok (.fdiv, 1) := by decide +kernel
theorem dX5_afloat_71 : decode cX5_afloat 71 = .ok (.freturn, 1) := by decide +kernel
theorem dX5_floatsIn_0 : decode cX5_floatsIn 0 = .ok (.aload_n 0, 1) := by decide +kernel
theorem dX5_floatsIn_1 : decode cX5_floatsIn 1 = .ok (.getfield 10, 3) := by decide +kernel
theorem dX5_floatsIn_4 : decode cX5_floatsIn 4 = .ok (.iload_n 1, 1) := by decide +kernel
theorem dX5_floatsIn_5 : decode cX5_floatsIn 5 = .ok (.invokevirtual 129, 3) := by decide +kernel
theorem dX5_floatsIn_8 : decode cX5_floatsIn 8 = .ok (.ifCond .ne 5, 3) := by decide +kernel
theorem dX5_floatsIn_11 : decode cX5_floatsIn 11 = .ok (.iconst (-1), 1) := by decide +kernel
theorem dX5_floatsIn_12 : decode cX5_floatsIn 12 = .ok (.ireturn, 1) := by decide +kernel
theorem dX5_floatsIn_13 : decode cX5_floatsIn 13 = .ok (.aload_n 0, 1) := by decide +kernel
theorem dX5_floatsIn_14 : decode cX5_floatsIn 14 = .ok (.getfield 10, 3) := by decide +kernel
theorem dX5_floatsIn_17 : decode cX5_floatsIn 17 = .ok (.iload_n 1, 1) := by decide +kernel
theorem dX5_floatsIn_18 : decode cX5_floatsIn 18 = .ok (.invokevirtual 141, 3) := by decide +kernel
theorem dX5_floatsIn_21 : decode cX5_floatsIn 21 = .ok (.ifCond .ne 6, 3) := by decide +kernel
theorem dX5_floatsIn_24 : decode cX5_floatsIn 24 = .ok (.bipush (-4), 2) := by decide +kernel
theorem dX5_floatsIn_26 : decode cX5_floatsIn 26 = .ok (.ireturn, 1) := by decide +kernel
theorem dX5_floatsIn_27 : decode cX5_floatsIn 27 = .ok (.aload_n 0, 1) := by decide +kernel
theorem dX5_floatsIn_28 : decode cX5_floatsIn 28 = .ok (.getfield 10, 3) := by decide +kernel
theorem dX5_floatsIn_31 : decode cX5_floatsIn 31 = .ok (.getfield 144, 3) := by decide +kernel
theorem dX5_floatsIn_34 : decode cX5_floatsIn 34 = .ok (.iload_n 1, 1) := by decide +kernel
theorem dX5_floatsIn_35 : decode cX5_floatsIn 35 = .ok (.invokestatic 116, 3) := by decide +kernel
theorem dX5_floatsIn_38 : decode cX5_floatsIn 38 = .ok (.istore_n 2, 1) := by decide +kernel
theorem dX5_floatsIn_39 : decode cX5_floatsIn 39 = .ok (.aload_n 0, 1) := by decide +kernel
theorem dX5_floatsIn_40 : decode cX5_floatsIn 40 = .ok (.getfield 10, 3) := by decide +kernel
theorem dX5_floatsIn_43 : decode cX5_floatsIn 43 = .ok (.getfield 135, 3) := by decide +kernel
theorem dX5_floatsIn_46 : decode cX5_floatsIn 46 = .ok (.iload_n 1, 1) := by decide +kernel
theorem dX5_floatsIn_47 : decode cX5_floatsIn 47 = .ok (.invokestatic 116, 3) := by decide +kernel
theorem dX5_floatsIn_50 : decode cX5_floatsIn 50 = .ok (.istore_n 3, 1) := by decide +kernel
theorem dX5_floatsIn_51 : decode cX5_floatsIn 51 = .ok (.aload_n 0, 1) := by decide +kernel
theorem dX5_floatsIn_52 : decode cX5_floatsIn 52 = .ok (.getfield 10, 3) := by decide +kernel
theorem dX5_floatsIn_55 : decode cX5_floatsIn 55 = .ok (.invokevirtual 206, 3) := by decide +kernel
theorem dX5_floatsIn_58 : decode cX5_floatsIn 58 = .ok (.istore 4, 2) := by decide +kernel
theorem dX5_floatsIn_60 : decode cX5_floatsIn 60 = .ok (.iconst 0, 1) := by decide +kernel
theorem dX5_floatsIn_61 : decode cX5_floatsIn 61 = .ok (.istore 5, 2) := by decide +kernel
theorem dX5_floatsIn_63 : decode cX5_floatsIn 63 = .ok (.iload 5, 2) := by decide +kernel
theorem dX5_floatsIn_65 : decode cX5_floatsIn 65 = .ok (.iload 4, 2) := by decide +kernel
theorem dX5_floatsIn_67 : decode cX5_floatsIn 67 = .ok (.if_icmp .ge 34, 3) := by decide +kernel
theorem dX5_floatsIn_70 : decode cX5_floatsIn 70 = .ok (.aload_n 0, 1) := by decide +kernel
theorem dX5_floatsIn_71 : decode cX5_floatsIn 71 = .ok (.getfield 10, 3) := by decide +kernel
theorem dX5_floatsIn_74 : decode cX5_floatsIn 74 = .ok (.iload_n 2, 1) := by decide +kernel
theorem dX5_floatsIn_75 : decode cX5_floatsIn 75 = .ok (.iload_n 3, 1) := by decide +kernel
theorem dX5_floatsIn_76 : decode cX5_floatsIn 76 = .ok (.aload_n 0, 1) := by decide +kernel
theorem dX5_floatsIn_77 : decode cX5_floatsIn 77 = .ok (.getfield 10, 3) := by decide +kernel
theorem dX5_floatsIn_80 : decode cX5_floatsIn 80 = .ok (.getfield 102, 3) := by decide +kernel
theorem dX5_floatsIn_83 : decode cX5_floatsIn 83 = .ok (.iload 5, 2) := by decide +kernel
theorem dX5_floatsIn_85 : decode cX5_floatsIn 85 = .ok (.iadd, 1) := by decide +kernel
theorem dX5_floatsIn_86 : decode cX5_floatsIn 86 = .ok (.invokevirtual 213, 3) := by decide +kernel
theorem dX5_floatsIn_89 : decode cX5_floatsIn 89 = .ok (.ifCond .eq 6, 3) := by decide +kernel
theorem dX5_floatsIn_92 : decode cX5_floatsIn 92 = .ok (.iload 5, 2) := by decide +kernel
theorem dX5_floatsIn_94 : decode cX5_floatsIn 94 = .ok (.ireturn, 1) := by decide +kernel
theorem dX5_floatsIn_95 : decode cX5_floatsIn 95 = .ok (.iinc 5 1, 3) := by decide +kernel
theorem dX5_floatsIn_98 : decode cX5_floatsIn 98 = .ok (.goto (-35), 3) := by decide +kernel
theorem dX5_floatsIn_101 : decode cX5_floatsIn 101 = .ok (.bipush (-5), 2) := by decide +kernel
theorem dX5_floatsIn_103 : decode cX5_floatsIn 103 = .ok (.ireturn, 1) := by decide +kernel
theorem dX5_homeIn_0 : decode cX5_homeIn 0 = .ok (.aload_n 0, 1) := by decide +kernel
theorem dX5_homeIn_1 : decode cX5_homeIn 1 = .ok (.getfield 10, 3) := by decide +kernel
theorem dX5_homeIn_4 : decode cX5_homeIn 4 = .ok (.iload_n 1, 1) := by decide +kernel
theorem dX5_homeIn_5 : decode cX5_homeIn 5 = .ok (.invokevirtual 129, 3) := by decide +kernel
theorem dX5_homeIn_8 : decode cX5_homeIn 8 = .ok (.ifCond .ne 5, 3) := by decide +kernel
theorem dX5_homeIn_11 : decode cX5_homeIn 11 = .ok (.iconst (-1), 1) := by decide +kernel
theorem dX5_homeIn_12 : decode cX5_homeIn 12 = .ok (.ireturn, 1) := by decide +kernel
theorem dX5_homeIn_13 : decode cX5_homeIn 13 = .ok (.iload_n 2, 1) := by decide +kernel
theorem dX5_homeIn_14 : decode cX5_homeIn 14 = .ok (.ifCond .eq 11, 3) := by decide +kernel
theorem dX5_homeIn_17 : decode cX5_homeIn 17 = .ok (.iload_n 2, 1) := by decide +kernel
theorem dX5_homeIn_18 : decode cX5_homeIn 18 = .ok (.iconst 1, 1) := by decide +kernel
theorem dX5_homeIn_19 : decode cX5_homeIn 19 = .ok (.if_icmp .eq 6, 3) := by decide +kernel
theorem dX5_homeIn_22 : decode cX5_homeIn 22 = .ok (.bipush (-2), 2) := by decide +kernel
theorem dX5_homeIn_24 : decode cX5_homeIn 24 = .ok (.ireturn, 1) := by decide +kernel
theorem dX5_homeIn_25 : decode cX5_homeIn 25 = .ok (.aload_n 0, 1) := by decide +kernel
theorem dX5_homeIn_26 : decode cX5_homeIn 26 = .ok (.getfield 10, 3) := by decide +kernel
theorem dX5_homeIn_29 : decode cX5_homeIn 29 = .ok (.iload_n 1, 1) := by decide +kernel
theorem dX5_homeIn_30 : decode cX5_homeIn 30 = .ok (.invokevirtual 141, 3) := by decide +kernel
theorem dX5_homeIn_33 : decode cX5_homeIn 33 = .ok (.ifCond .ne 6, 3) := by decide +kernel
theorem dX5_homeIn_36 : decode cX5_homeIn 36 = .ok (.bipush (-4), 2) := by decide +kernel
theorem dX5_homeIn_38 : decode cX5_homeIn 38 = .ok (.ireturn, 1) := by decide +kernel
theorem dX5_homeIn_39 : decode cX5_homeIn 39 = .ok (.aload_n 0, 1) := by decide +kernel
theorem dX5_homeIn_40 : decode cX5_homeIn 40 = .ok (.getfield 31, 3) := by decide +kernel
theorem dX5_homeIn_43 : decode cX5_homeIn 43 = .ok (.iload_n 1, 1) := by decide +kernel
theorem dX5_homeIn_44 : decode cX5_homeIn 44 = .ok (.invokevirtual 217, 3) := by decide +kernel
theorem dX5_homeIn_47 : decode cX5_homeIn 47 = .ok (.aload_n 0, 1) := by decide +kernel
theorem dX5_homeIn_48 : decode cX5_homeIn 48 = .ok (.getfield 10, 3) := by decide +kernel
theorem dX5_homeIn_51 : decode cX5_homeIn 51 = .ok (.getfield 144, 3) := by decide +kernel
theorem dX5_homeIn_54 : decode cX5_homeIn 54 = .ok (.iload_n 1, 1) := by decide +kernel
theorem dX5_homeIn_55 : decode cX5_homeIn 55 = .ok (.invokestatic 116, 3) := by decide +kernel
theorem dX5_homeIn_58 : decode cX5_homeIn 58 = .ok (.istore_n 3, 1) := by decide +kernel
theorem dX5_homeIn_59 : decode cX5_homeIn 59 = .ok (.iload_n 2, 1) := by decide +kernel
theorem dX5_homeIn_60 : decode cX5_homeIn 60 = .ok (.ifCond .ne 21, 3) := by decide +kernel
theorem dX5_homeIn_63 : decode cX5_homeIn 63 = .ok (.aload_n 0, 1) := by decide +kernel
theorem dX5_homeIn_64 : decode cX5_homeIn 64 = .ok (.getfield 31, 3) := by decide +kernel
theorem dX5_homeIn_67 : decode cX5_homeIn 67 = .ok (.iload_n 3, 1) := by decide +kernel
theorem dX5_homeIn_68 : decode cX5_homeIn 68 = .ok (.aload_n 0, 1) := by decide +kernel
theorem dX5_homeIn_69 : decode cX5_homeIn 69 = .ok (.getfield 10, 3) := by decide +kernel
theorem dX5_homeIn_72 : decode cX5_homeIn 72 = .ok (.getfield 102, 3) := by decide +kernel
theorem dX5_homeIn_75 : decode cX5_homeIn 75 = .ok (.invokevirtual 221, 3) := by decide +kernel
theorem dX5_homeIn_78 : decode cX5_homeIn 78 = .ok (.goto 18, 3) := by decide +kernel
theorem dX5_homeIn_81 : decode cX5_homeIn 81 = .ok (.aload_n 0, 1) := by decide +kernel
theorem dX5_homeIn_82 : decode cX5_homeIn 82 = .ok (.getfield 31, 3) := by decide +kernel
theorem dX5_homeIn_85 : decode cX5_homeIn 85 = .ok (.iload_n 3, 1) := by decide +kernel
theorem dX5_homeIn_86 : decode cX5_homeIn 86 = .ok (.aload_n 0, 1) := by decide +kernel
theorem dX5_homeIn_87 : decode cX5_homeIn 87 = .ok (.getfield 10, 3) := by decide +kernel
theorem dX5_homeIn_90 : decode cX5_homeIn 90 = .ok (.getfield 102, 3) := by decide +kernel
theorem dX5_homeIn_93 : decode cX5_homeIn 93 = .ok (.invokevirtual 224, 3) := by decide +kernel
theorem dX5_homeIn_96 : decode cX5_homeIn 96 = .ok (.ireturn, 1) := by decide +kernel
theorem dX5_inDanger_0 : decode cX5_inDanger 0 = .ok (.iload_n 1, 1) := by decide +kernel
theorem dX5_inDanger_1 : decode cX5_inDanger 1 = .ok (.invokestatic 227, 3) := by decide +kernel
theorem dX5_inDanger_4 : decode cX5_inDanger 4 = .ok (.ifCond .ne 5, 3) := by decide +kernel
theorem dX5_inDanger_7 : decode cX5_inDanger 7 = .ok (.iconst (-1), 1) := by decide +kernel
theorem dX5_inDanger_8 : decode cX5_inDanger 8 = .ok (.ireturn, 1) := by decide +kernel
theorem dX5_inDanger_9 : decode cX5_inDanger 9 = .ok (.aload_n 0, 1) := by decide +kernel
theorem dX5_inDanger_10 : decode cX5_inDanger 10 = .ok (.getfield 10, 3) := by decide +kernel
theorem dX5_inDanger_13 : decode cX5_inDanger 13 = .ok (.invokevirtual 184, 3) := by decide +kernel
theorem dX5_inDanger_16 : decode cX5_inDanger 16 = .ok (.ifCond .eq 5, 3) := by decide +kernel
theorem dX5_inDanger_19 : decode cX5_inDanger 19 = .ok (.iconst 0, 1) := by decide +kernel
theorem dX5_inDanger_20 : decode cX5_inDanger 20 = .ok (.ireturn, 1) := by decide +kernel
theorem dX5_inDanger_21 : decode cX5_inDanger 21 = .ok (.iconst 0, 1) := by decide +kernel
theorem dX5_inDanger_22 : decode cX5_inDanger 22 = .ok (.istore_n 2, 1) := by decide +kernel
theorem dX5_inDanger_23 : decode cX5_inDanger 23 = .ok (.iconst 0, 1) := by decide +kernel
theorem dX5_inDanger_24 : decode cX5_inDanger 24 = .ok (.istore_n 3, 1) := by decide +kernel
theorem dX5_inDanger_25 : decode cX5_inDanger 25 = .ok (.iload_n 3, 1) := by decide +kernel
theorem dX5_inDanger_26 : decode cX5_inDanger 26 = .ok (.aload_n 0, 1) := by decide +kernel
theorem dX5_inDanger_27 : decode cX5_inDanger 27 = .ok (.getfield 10, 3) := by decide +kernel
theorem dX5_inDanger_30 : decode cX5_inDanger 30 = .ok (.getfield 172, 3) := by decide +kernel
theorem dX5_inDanger_33 : decode cX5_inDanger 33 = .ok (.if_icmp .ge 41, 3) := by decide +kernel
theorem dX5_inDanger_36 : decode cX5_inDanger 36 = .ok (.aload_n 0, 1) := by decide +kernel
theorem dX5_inDanger_37 : decode cX5_inDanger 37 = .ok (.getfield 10, 3) := by decide +kernel
theorem dX5_inDanger_40 : decode cX5_inDanger 40 = .ok (.getfield 132, 3) := by decide +kernel
theorem dX5_inDanger_43 : decode cX5_inDanger 43 = .ok (.iload_n 3, 1) := by decide +kernel
theorem dX5_inDanger_44 : decode cX5_inDanger 44 = .ok (.invokestatic 116, 3) := by decide +kernel
theorem dX5_inDanger_47 : decode cX5_inDanger 47 = .ok (.iload_n 1, 1) := by decide +kernel
theorem dX5_inDanger_48 : decode cX5_inDanger 48 = .ok (.if_icmp .ne 20, 3) := by decide +kernel
theorem dX5_inDanger_51 : decode cX5_inDanger 51 = .ok (.aload_n 0, 1) := by decide +kernel
theorem dX5_inDanger_52 : decode cX5_inDanger 52 = .ok (.getfield 10, 3) := by decide +kernel
theorem dX5_inDanger_55 : decode cX5_inDanger 55 = .ok (.iload_n 3, 1) := by decide +kernel
theorem dX5_inDanger_56 : decode cX5_inDanger 56 = .ok (.invokevirtual 230, 3) := by decide +kernel
theorem dX5_inDanger_59 : decode cX5_inDanger 59 = .ok (.ifCond .eq 9, 3) := by decide +kernel
theorem dX5_inDanger_62 : decode cX5_inDanger 62 = .ok (.iload_n 2, 1) := by decide +kernel
theorem dX5_inDanger_63 : decode cX5_inDanger 63 = .ok (.iconst 1, 1) := by decide +kernel
theorem dX5_inDanger_64 : decode cX5_inDanger 64 = .ok (.iload_n 3, 1) := by decide +kernel
theorem dX5_inDanger_65 : decode cX5_inDanger 65 = .ok (.ishl, 1) := by decide +kernel
theorem dX5_inDanger_66 : decode cX5_inDanger 66 = .ok (.ior, 1) := by decide +kernel
theorem dX5_inDanger_67 : decode cX5_inDanger 67 = .ok (.istore_n 2, 1) := by decide +kernel
theorem dX5_inDanger_68 : decode cX5_inDanger 68 = .ok (.iinc 3 1, 3) := by decide +kernel
theorem dX5_inDanger_71 : decode cX5_inDanger 71 = .ok (.goto (-46), 3) := by decide +kernel
theorem dX5_inDanger_74 : decode cX5_inDanger 74 = .ok (.iload_n 2, 1) := by decide +kernel
theorem dX5_inDanger_75 : decode cX5_inDanger 75 = .ok (.ireturn, 1) := by decide +kernel
theorem dX5_best_0 : decode cX5_best 0 = .ok (.aload_n 0, 1) := by decide +kernel
theorem dX5_best_1 : decode cX5_best 1 = .ok (.getfield 10, 3) := by decide +kernel
theorem dX5_best_4 : decode cX5_best 4 = .ok (.invokevirtual 184, 3) := by decide +kernel
theorem dX5_best_7 : decode cX5_best 7 = .ok (.ifCond .eq 6, 3) := by decide +kernel
theorem dX5_best_10 : decode cX5_best 10 = .ok (.bipush (-4), 2) := by decide +kernel
theorem dX5_best_12 : decode cX5_best 12 = .ok (.ireturn, 1) := by decide +kernel
theorem dX5_best_13 : decode cX5_best 13 = .ok (.bipush (-5), 2) := by decide +kernel
theorem dX5_best_15 : decode cX5_best 15 = .ok (.istore_n 1, 1) := by decide +kernel
theorem dX5_best_16 : decode cX5_best 16 = .ok (.iconst 0, 1) := by decide +kernel
theorem dX5_best_17 : decode cX5_best 17 = .ok (.istore_n 2, 1) := by decide +kernel
theorem dX5_best_18 : decode cX5_best 18 = .ok (.iconst 0, 1) := by decide +kernel
theorem dX5_best_19 : decode cX5_best 19 = .ok (.istore_n 3, 1) := by decide +kernel
theorem dX5_best_20 : decode cX5_best 20 = .ok (.iload_n 3, 1) := by decide +kernel
theorem dX5_best_21 : decode cX5_best 21 = .ok (.aload_n 0, 1) := by decide +kernel
theorem dX5_best_22 : decode cX5_best 22 = .ok (.getfield 10, 3) := by decide +kernel
theorem dX5_best_25 : decode cX5_best 25 = .ok (.getfield 172, 3) := by decide +kernel
theorem dX5_best_28 : decode cX5_best 28 = .ok (.if_icmp .ge 73, 3) := by decide +kernel
theorem dX5_best_31 : decode cX5_best 31 = .ok (.iconst 0, 1) := by decide +kernel
theorem dX5_best_32 : decode cX5_best 32 = .ok (.istore 4, 2) := by decide +kernel
theorem dX5_best_34 : decode cX5_best 34 = .ok (.iload 4, 2) := by decide +kernel
theorem dX5_best_36 : decode cX5_best 36 = .ok (.iconst 4, 1) := by decide +kernel
theorem dX5_best_37 : decode cX5_best 37 = .ok (.if_icmp .ge 58, 3) := by decide +kernel
theorem dX5_best_40 : decode cX5_best 40 = .ok (.iconst 1, 1) := by decide +kernel
theorem dX5_best_41 : decode cX5_best 41 = .ok (.istore 5, 2) := by decide +kernel
theorem dX5_best_43 : decode cX5_best 43 = .ok (.iload 5, 2) := by decide +kernel
theorem dX5_best_45 : decode cX5_best 45 = .ok (.iconst 3, 1) := by decide +kernel
theorem dX5_best_46 : decode cX5_best 46 = .ok (.if_icmp .gt 43, 3) := by decide +kernel
theorem dX5_best_49 : decode cX5_best 49 = .ok (.aload_n 0, 1) := by decide +kernel
theorem dX5_best_50 : decode cX5_best 50 = .ok (.iload_n 3, 1) := by decide +kernel
theorem dX5_best_51 : decode cX5_best 51 = .ok (.iload 4, 2) := by decide +kernel
theorem dX5_best_53 : decode cX5_best 53 = .ok (.iload 5, 2) := by decide +kernel
theorem dX5_best_55 : decode cX5_best 55 = .ok (.invokevirtual 233, 3) := by decide +kernel
theorem dX5_best_58 : decode cX5_best 58 = .ok (.istore 6, 2) := by decide +kernel
theorem dX5_best_60 : decode cX5_best 60 = .ok (.iload 6, 2) := by decide +kernel
theorem dX5_best_62 : decode cX5_best 62 = .ok (.iload_n 2, 1) := by decide +kernel
theorem dX5_best_63 : decode cX5_best 63 = .ok (.if_icmp .le 20, 3) := by decide +kernel
theorem dX5_best_66 : decode cX5_best 66 = .ok (.iload 6, 2) := by decide +kernel
theorem dX5_best_68 : decode cX5_best 68 = .ok (.istore_n 2, 1) := by decide +kernel
theorem dX5_best_69 : decode cX5_best 69 = .ok (.bipush 100, 2) := by decide +kernel
theorem dX5_best_71 : decode cX5_best 71 = .ok (.iload_n 3, 1) := by decide +kernel
theorem dX5_best_72 : decode cX5_best 72 = .ok (.imul, 1) := by decide +kernel
theorem dX5_best_73 : decode cX5_best 73 = .ok (.bipush 10, 2) := by decide +kernel
theorem dX5_best_75 : decode cX5_best 75 = .ok (.iload 4, 2) := by decide +kernel
theorem dX5_best_77 : decode cX5_best 77 = .ok (.imul, 1) := by decide +kernel
theorem dX5_best_78 : decode cX5_best 78 = .ok (.iadd, 1) := by decide +kernel
theorem dX5_best_79 : decode cX5_best 79 = .ok (.iload 5, 2) := by decide +kernel
theorem dX5_best_81 : decode cX5_best 81 = .ok (.iadd, 1) := by decide +kernel
theorem dX5_best_82 : decode cX5_best 82 = .ok (.istore_n 1, 1) := by decide +kernel
theorem dX5_best_83 : decode cX5_best 83 = .ok (.iinc 5 1, 3) := by decide +kernel
theorem dX5_best_86 : decode cX5_best 86 = .ok (.goto (-43), 3) := by decide +kernel
theorem dX5_best_89 : decode cX5_best 89 = .ok (.iinc 4 1, 3) := by decide +kernel
theorem dX5_best_92 : decode cX5_best 92 = .ok (.goto (-58), 3) := by decide +kernel
theorem dX5_best_95 : decode cX5_best 95 = .ok (.iinc 3 1, 3) := by decide +kernel
theorem dX5_best_98 : decode cX5_best 98 = .ok (.goto (-78), 3) := by decide +kernel
theorem dX5_best_101 : decode cX5_best 101 = .ok (.iload_n 1, 1) := by decide +kernel
theorem dX5_best_102 : decode cX5_best 102 = .ok (.ireturn, 1) := by decide +kernel
theorem dX5_recorded_0 : decode cX5_recorded 0 = .ok (.iload_n 1, 1) := by decide +kernel
theorem dX5_recorded_1 : decode cX5_recorded 1 = .ok (.ifCond .lt 14, 3) := by decide +kernel
theorem dX5_recorded_4 : decode cX5_recorded 4 = .ok (.aload_n 0, 1) := by decide +kernel
theorem dX5_recorded_5 : decode cX5_recorded 5 = .ok (.getfield 38, 3) := by decide +kernel
theorem dX5_recorded_8 : decode cX5_recorded 8 = .ok (.aload_n 0, 1) := by decide +kernel
theorem dX5_recorded_9 : decode cX5_recorded 9 = .ok (.getfield 16, 3) := by decide +kernel
theorem dX5_recorded_12 : decode cX5_recorded 12 = .ok (.invokevirtual 236, 3) := by decide +kernel
theorem dX5_recorded_15 : decode cX5_recorded 15 = .ok (.iload_n 1, 1) := by decide +kernel
theorem dX5_recorded_16 : decode cX5_recorded 16 = .ok (.ireturn, 1) := by decide +kernel
theorem dX5_movesOfMover_0 : decode cX5_movesOfMover 0 = .ok (.iconst 0, 1) := by decide +kernel
theorem dX5_movesOfMover_1 : decode cX5_movesOfMover 1 = .ok (.istore_n 1, 1) := by decide +kernel
theorem dX5_movesOfMover_2 : decode cX5_movesOfMover 2 = .ok (.iconst 0, 1) := by decide +kernel
theorem dX5_movesOfMover_3 : decode cX5_movesOfMover 3 = .ok (.istore_n 2, 1) := by decide +kernel
theorem dX5_movesOfMover_4 : decode cX5_movesOfMover 4 = .ok (.iload_n 2, 1) := by decide +kernel
theorem dX5_movesOfMover_5 : decode cX5_movesOfMover 5 = .ok (.aload_n 0, 1) := by decide +kernel
theorem dX5_movesOfMover_6 : decode cX5_movesOfMover 6 = .ok (.getfield 10, 3) := by decide +kernel
theorem dX5_movesOfMover_9 : decode cX5_movesOfMover 9 = .ok (.getfield 172, 3) := by decide +kernel
theorem dX5_movesOfMover_12 : decode cX5_movesOfMover 12 = .ok (.if_icmp .ge 41, 3) := by decide +kernel
theorem dX5_movesOfMover_15 : decode cX5_movesOfMover 15 = .ok (.aload_n 0, 1) := by decide +kernel
theorem dX5_movesOfMover_16 : decode cX5_movesOfMover 16 = .ok (.getfield 10, 3) := by decide +kernel
theorem dX5_movesOfMover_19 : decode cX5_movesOfMover 19 = .ok (.getfield 132, 3) := by decide +kernel
theorem dX5_movesOfMover_22 : decode cX5_movesOfMover 22 = .ok (.iload_n 2, 1) := by decide +kernel
theorem dX5_movesOfMover_23 : decode cX5_movesOfMover 23 = .ok (.invokestatic 116, 3) := by decide +kernel
theorem dX5_movesOfMover_26 : decode cX5_movesOfMover 26 = .ok (.aload_n 0, 1) := by decide +kernel
theorem dX5_movesOfMover_27 : decode cX5_movesOfMover 27 = .ok (.getfield 10, 3) := by decide +kernel
theorem dX5_movesOfMover_30 : decode cX5_movesOfMover 30 = .ok (.invokevirtual 166, 3) := by decide +kernel
theorem dX5_movesOfMover_33 : decode cX5_movesOfMover 33 = .ok (.if_icmp .ne 14, 3) := by decide +kernel
theorem dX5_movesOfMover_36 : decode cX5_movesOfMover 36 = .ok (.iload_n 1, 1) := by decide +kernel
theorem dX5_movesOfMover_37 : decode cX5_movesOfMover 37 = .ok (.aload_n 0, 1) := by decide +kernel
theorem dX5_movesOfMover_38 : decode cX5_movesOfMover 38 = .ok (.getfield 24, 3) := by decide +kernel
theorem dX5_movesOfMover_41 : decode cX5_movesOfMover 41 = .ok (.iload_n 2, 1) := by decide +kernel
theorem dX5_movesOfMover_42 : decode cX5_movesOfMover 42 = .ok (.invokevirtual 153, 3) := by decide +kernel
theorem dX5_movesOfMover_45 : decode cX5_movesOfMover 45 = .ok (.iadd, 1) := by decide +kernel
theorem dX5_movesOfMover_46 : decode cX5_movesOfMover 46 = .ok (.istore_n 1, 1) := by decide +kernel
theorem dX5_movesOfMover_47 : decode cX5_movesOfMover 47 = .ok (.iinc 2 1, 3) := by decide +kernel
theorem dX5_movesOfMover_50 : decode cX5_movesOfMover 50 = .ok (.goto (-46), 3) := by decide +kernel
theorem dX5_movesOfMover_53 : decode cX5_movesOfMover 53 = .ok (.iload_n 1, 1) := by decide +kernel
theorem dX5_movesOfMover_54 : decode cX5_movesOfMover 54 = .ok (.ireturn, 1) := by decide +kernel
theorem dX5_worthOf_0 : decode cX5_worthOf 0 = .ok (.aload_n 0, 1) := by decide +kernel
theorem dX5_worthOf_1 : decode cX5_worthOf 1 = .ok (.getfield 24, 3) := by decide +kernel
theorem dX5_worthOf_4 : decode cX5_worthOf 4 = .ok (.iload_n 1, 1) := by decide +kernel
theorem dX5_worthOf_5 : decode cX5_worthOf 5 = .ok (.iload_n 2, 1) := by decide +kernel
theorem dX5_worthOf_6 : decode cX5_worthOf 6 = .ok (.iload_n 3, 1) := by decide +kernel
theorem dX5_worthOf_7 : decode cX5_worthOf 7 = .ok (.iconst 0, 1) := by decide +kernel
theorem dX5_worthOf_8 : decode cX5_worthOf 8 = .ok (.invokevirtual 162, 3) := by decide +kernel
theorem dX5_worthOf_11 : decode cX5_worthOf 11 = .ok (.ifCond .eq 5, 3) := by decide +kernel
theorem dX5_worthOf_14 : decode cX5_worthOf 14 = .ok (.iconst 0, 1) := by decide +kernel
theorem dX5_worthOf_15 : decode cX5_worthOf 15 = .ok (.ireturn, 1) := by decide +kernel
theorem dX5_worthOf_16 : decode cX5_worthOf 16 = .ok (.aload_n 0, 1) := by decide +kernel
theorem dX5_worthOf_17 : decode cX5_worthOf 17 = .ok (.getfield 10, 3) := by decide +kernel
theorem dX5_worthOf_20 : decode cX5_worthOf 20 = .ok (.getfield 144, 3) := by decide +kernel
theorem dX5_worthOf_23 : decode cX5_worthOf 23 = .ok (.iload_n 1, 1) := by decide +kernel
theorem dX5_worthOf_24 : decode cX5_worthOf 24 = .ok (.invokestatic 116, 3) := by decide +kernel
theorem dX5_worthOf_27 : decode cX5_worthOf 27 = .ok (.iload_n 2, 1) := by decide +kernel
theorem dX5_worthOf_28 : decode cX5_worthOf 28 = .ok (.iload_n 3, 1) := by decide +kernel
theorem dX5_worthOf_29 : decode cX5_worthOf 29 = .ok (.invokestatic 269, 3) := by decide +kernel
theorem dX5_worthOf_32 : decode cX5_worthOf 32 = .ok (.istore 4, 2) := by decide +kernel
theorem dX5_worthOf_34 : decode cX5_worthOf 34 = .ok (.iload 4, 2) := by decide +kernel
theorem dX5_worthOf_36 : decode cX5_worthOf 36 = .ok (.aload_n 0, 1) := by decide +kernel
theorem dX5_worthOf_37 : decode cX5_worthOf 37 = .ok (.getfield 10, 3) := by decide +kernel
theorem dX5_worthOf_40 : decode cX5_worthOf 40 = .ok (.getfield 132, 3) := by decide +kernel
theorem dX5_worthOf_43 : decode cX5_worthOf 43 = .ok (.iload_n 1, 1) := by decide +kernel
theorem dX5_worthOf_44 : decode cX5_worthOf 44 = .ok (.invokestatic 116, 3) := by decide +kernel
theorem dX5_worthOf_47 : decode cX5_worthOf 47 = .ok (.invokestatic 272, 3) := by decide +kernel
theorem dX5_worthOf_50 : decode cX5_worthOf 50 = .ok (.if_icmp .ne 19, 3) := by decide +kernel
theorem dX5_worthOf_53 : decode cX5_worthOf 53 = .ok (.sipush 3000, 3) := by decide +kernel
theorem dX5_worthOf_56 : decode cX5_worthOf 56 = .ok (.aload_n 0, 1) := by decide +kernel
theorem dX5_worthOf_57 : decode cX5_worthOf 57 = .ok (.getfield 10, 3) := by decide +kernel
theorem dX5_worthOf_60 : decode cX5_worthOf 60 = .ok (.getfield 135, 3) := by decide +kernel
theorem dX5_worthOf_63 : decode cX5_worthOf 63 = .ok (.iload_n 1, 1) := by decide +kernel
theorem dX5_worthOf_64 : decode cX5_worthOf 64 = .ok (.invokestatic 116, 3) := by decide +kernel
theorem dX5_worthOf_67 : decode cX5_worthOf 67 = .ok (.iadd, 1) := by decide +kernel
theorem dX5_worthOf_68 : decode cX5_worthOf 68 = .ok (.ireturn, 1) := by decide +kernel
theorem dX5_worthOf_69 : decode cX5_worthOf 69 = .ok (.aload_n 0, 1) := by decide +kernel
theorem dX5_worthOf_70 : decode cX5_worthOf 70 = .ok (.getfield 10, 3) := by decide +kernel
theorem dX5_worthOf_73 : decode cX5_worthOf 73 = .ok (.iload 4, 2) := by decide +kernel
theorem dX5_worthOf_75 : decode cX5_worthOf 75 = .ok (.invokevirtual 126, 3) := by decide +kernel
theorem dX5_worthOf_78 : decode cX5_worthOf 78 = .ok (.istore 5, 2) := by decide +kernel
theorem dX5_worthOf_80 : decode cX5_worthOf 80 = .ok (.iload 5, 2) := by decide +kernel
theorem dX5_worthOf_82 : decode cX5_worthOf 82 = .ok (.bipush (-5), 2) := by decide +kernel
theorem dX5_worthOf_84 : decode cX5_worthOf 84 = .ok (.if_icmp .eq 20, 3) := by decide +kernel
theorem dX5_worthOf_87 : decode cX5_worthOf 87 = .ok (.sipush 2000, 3) := by decide +kernel
theorem dX5_worthOf_90 : decode cX5_worthOf 90 = .ok (.aload_n 0, 1) := by decide +kernel
theorem dX5_worthOf_91 : decode cX5_worthOf 91 = .ok (.getfield 10, 3) := by decide +kernel
theorem dX5_worthOf_94 : decode cX5_worthOf 94 = .ok (.getfield 135, 3) := by decide +kernel
theorem dX5_worthOf_97 : decode cX5_worthOf 97 = .ok (.iload 5, 2) := by decide +kernel
theorem dX5_worthOf_99 : decode cX5_worthOf 99 = .ok (.invokestatic 116, 3) := by decide +kernel
theorem dX5_worthOf_102 : decode cX5_worthOf 102 = .ok (.iadd, 1) := by decide +kernel
theorem dX5_worthOf_103 : decode cX5_worthOf 103 = .ok (.ireturn, 1) := by decide +kernel
theorem dX5_worthOf_104 : decode cX5_worthOf 104 = .ok (.aload_n 0, 1) := by decide +kernel
theorem dX5_worthOf_105 : decode cX5_worthOf 105 = .ok (.getfield 31, 3) := by decide +kernel
