theorem dX0_init_0 : decode cX0_init 0 = .ok (.aload_n 0, 1) := by decide +kernel
theorem dX0_init_1 : decode cX0_init 1 = .ok (.invokespecial 3, 3) := by decide +kernel
theorem dX0_init_4 : decode cX0_init 4 = .ok (.aload_n 0, 1) := by decide +kernel
theorem dX0_init_5 : decode cX0_init 5 = .ok (.iconst 4, 1) := by decide +kernel
theorem dX0_init_6 : decode cX0_init 6 = .ok (.anewarray 9, 3) := by decide +kernel
theorem dX0_init_9 : decode cX0_init 9 = .ok (.putfield 11, 3) := by decide +kernel
theorem dX0_init_12 : decode cX0_init 12 = .ok (.aload_n 0, 1) := by decide +kernel
theorem dX0_init_13 : decode cX0_init 13 = .ok (.new 9, 3) := by decide +kernel
theorem dX0_init_16 : decode cX0_init 16 = .ok (.dup, 1) := by decide +kernel
theorem dX0_init_17 : decode cX0_init 17 = .ok (.invokespecial 17, 3) := by decide +kernel
theorem dX0_init_20 : decode cX0_init 20 = .ok (.putfield 18, 3) := by decide +kernel
theorem dX0_init_23 : decode cX0_init 23 = .ok (.iconst 0, 1) := by decide +kernel
theorem dX0_init_24 : decode cX0_init 24 = .ok (.istore_n 1, 1) := by decide +kernel
theorem dX0_init_25 : decode cX0_init 25 = .ok (.iload_n 1, 1) := by decide +kernel
theorem dX0_init_26 : decode cX0_init 26 = .ok (.aload_n 0, 1) := by decide +kernel
theorem dX0_init_27 : decode cX0_init 27 = .ok (.getfield 11, 3) := by decide +kernel
theorem dX0_init_30 : decode cX0_init 30 = .ok (.arraylength, 1) := by decide +kernel
theorem dX0_init_31 : decode cX0_init 31 = .ok (.if_icmp .ge 22, 3) := by decide +kernel
theorem dX0_init_34 : decode cX0_init 34 = .ok (.aload_n 0, 1) := by decide +kernel
theorem dX0_init_35 : decode cX0_init 35 = .ok (.getfield 11, 3) := by decide +kernel
theorem dX0_init_38 : decode cX0_init 38 = .ok (.iload_n 1, 1) := by decide +kernel
theorem dX0_init_39 : decode cX0_init 39 = .ok (.new 9, 3) := by decide +kernel
theorem dX0_init_42 : decode cX0_init 42 = .ok (.dup, 1) := by decide +kernel
theorem dX0_init_43 : decode cX0_init 43 = .ok (.invokespecial 17, 3) := by decide +kernel
theorem dX0_init_46 : decode cX0_init 46 = .ok (.aastore, 1) := by decide +kernel
theorem dX0_init_47 : decode cX0_init 47 = .ok (.iinc 1 1, 3) := by decide +kernel
theorem dX0_init_50 : decode cX0_init 50 = .ok (.goto (-25), 3) := by decide +kernel
theorem dX0_init_53 : decode cX0_init 53 = .ok (.return_, 1) := by decide +kernel
theorem dX0_record_0 : decode cX0_record 0 = .ok (.aload_n 0, 1) := by decide +kernel
theorem dX0_record_1 : decode cX0_record 1 = .ok (.getfield 22, 3) := by decide +kernel
theorem dX0_record_4 : decode cX0_record 4 = .ok (.iconst 4, 1) := by decide +kernel
theorem dX0_record_5 : decode cX0_record 5 = .ok (.if_icmp .lt 7, 3) := by decide +kernel
theorem dX0_record_8 : decode cX0_record 8 = .ok (.aload_n 0, 1) := by decide +kernel
theorem dX0_record_9 : decode cX0_record 9 = .ok (.invokevirtual 26, 3) := by decide +kernel
theorem dX0_record_12 : decode cX0_record 12 = .ok (.aload_n 0, 1) := by decide +kernel
theorem dX0_record_13 : decode cX0_record 13 = .ok (.aload_n 0, 1) := by decide +kernel
theorem dX0_record_14 : decode cX0_record 14 = .ok (.getfield 22, 3) := by decide +kernel
theorem dX0_record_17 : decode cX0_record 17 = .ok (.invokevirtual 29, 3) := by decide +kernel
theorem dX0_record_20 : decode cX0_record 20 = .ok (.astore_n 2, 1) := by decide +kernel
theorem dX0_record_21 : decode cX0_record 21 = .ok (.aload_n 2, 1) := by decide +kernel
theorem dX0_record_22 : decode cX0_record 22 = .ok (.ifnull 18, 3) := by decide +kernel
theorem dX0_record_25 : decode cX0_record 25 = .ok (.aload_n 2, 1) := by decide +kernel
theorem dX0_record_26 : decode cX0_record 26 = .ok (.aload_n 1, 1) := by decide +kernel
theorem dX0_record_27 : decode cX0_record 27 = .ok (.invokevirtual 33, 3) := by decide +kernel
theorem dX0_record_30 : decode cX0_record 30 = .ok (.aload_n 0, 1) := by decide +kernel
theorem dX0_record_31 : decode cX0_record 31 = .ok (.dup, 1) := by decide +kernel
theorem dX0_record_32 : decode cX0_record 32 = .ok (.getfield 22, 3) := by decide +kernel
theorem dX0_record_35 : decode cX0_record 35 = .ok (.iconst 1, 1) := by decide +kernel
theorem dX0_record_36 : decode cX0_record 36 = .ok (.iadd, 1) := by decide +kernel
theorem dX0_record_37 : decode cX0_record 37 = .ok (.putfield 22, 3) := by decide +kernel
theorem dX0_record_40 : decode cX0_record 40 = .ok (.return_, 1) := by decide +kernel
theorem dX0_takeLatest_0 : decode cX0_takeLatest 0 = .ok (.aload_n 0, 1) := by decide +kernel
theorem dX0_takeLatest_1 : decode cX0_takeLatest 1 = .ok (.aload_n 0, 1) := by decide +kernel
theorem dX0_takeLatest_2 : decode cX0_takeLatest 2 = .ok (.getfield 22, 3) := by decide +kernel
theorem dX0_takeLatest_5 : decode cX0_takeLatest 5 = .ok (.iconst 1, 1) := by decide +kernel
theorem dX0_takeLatest_6 : decode cX0_takeLatest 6 = .ok (.isub, 1) := by decide +kernel
theorem dX0_takeLatest_7 : decode cX0_takeLatest 7 = .ok (.invokevirtual 29, 3) := by decide +kernel
theorem dX0_takeLatest_10 : decode cX0_takeLatest 10 = .ok (.astore_n 2, 1) := by decide +kernel
theorem dX0_takeLatest_11 : decode cX0_takeLatest 11 = .ok (.aload_n 2, 1) := by decide +kernel
theorem dX0_takeLatest_12 : decode cX0_takeLatest 12 = .ok (.ifnonnull 6, 3) := by decide +kernel
theorem dX0_takeLatest_15 : decode cX0_takeLatest 15 = .ok (.bipush (-5), 2) := by decide +kernel
theorem dX0_takeLatest_17 : decode cX0_takeLatest 17 = .ok (.ireturn, 1) := by decide +kernel
theorem dX0_takeLatest_18 : decode cX0_takeLatest 18 = .ok (.aload_n 1, 1) := by decide +kernel
theorem dX0_takeLatest_19 : decode cX0_takeLatest 19 = .ok (.aload_n 2, 1) := by decide +kernel
theorem dX0_takeLatest_20 : decode cX0_takeLatest 20 = .ok (.invokevirtual 33, 3) := by decide +kernel
theorem dX0_takeLatest_23 : decode cX0_takeLatest 23 = .ok (.aload_n 0, 1) := by decide +kernel
theorem dX0_takeLatest_24 : decode cX0_takeLatest 24 = .ok (.dup, 1) := by decide +kernel
theorem dX0_takeLatest_25 : decode cX0_takeLatest 25 = .ok (.getfield 22, 3) := by decide +kernel
theorem dX0_takeLatest_28 : decode cX0_takeLatest 28 = .ok (.iconst 1, 1) := by decide +kernel
theorem dX0_takeLatest_29 : decode cX0_takeLatest 29 = .ok (.isub, 1) := by decide +kernel
theorem dX0_takeLatest_30 : decode cX0_takeLatest 30 = .ok (.putfield 22, 3) := by decide +kernel
theorem dX0_takeLatest_33 : decode cX0_takeLatest 33 = .ok (.aload_n 0, 1) := by decide +kernel
theorem dX0_takeLatest_34 : decode cX0_takeLatest 34 = .ok (.getfield 22, 3) := by decide +kernel
theorem dX0_takeLatest_37 : decode cX0_takeLatest 37 = .ok (.ireturn, 1) := by decide +kernel
theorem dX0_giveSnapshot_0 : decode cX0_giveSnapshot 0 = .ok (.aload_n 0, 1) := by decide +kernel
theorem dX0_giveSnapshot_1 : decode cX0_giveSnapshot 1 = .ok (.getfield 37, 3) := by decide +kernel
theorem dX0_giveSnapshot_4 : decode cX0_giveSnapshot 4 = .ok (.ifCond .ne 6, 3) := by decide +kernel
theorem dX0_giveSnapshot_7 : decode cX0_giveSnapshot 7 = .ok (.bipush (-5), 2) := by decide +kernel
theorem dX0_giveSnapshot_9 : decode cX0_giveSnapshot 9 = .ok (.ireturn, 1) := by decide +kernel
theorem dX0_giveSnapshot_10 : decode cX0_giveSnapshot 10 = .ok (.aload_n 1, 1) := by decide +kernel
theorem dX0_giveSnapshot_11 : decode cX0_giveSnapshot 11 = .ok (.aload_n 0, 1) := by decide +kernel
theorem dX0_giveSnapshot_12 : decode cX0_giveSnapshot 12 = .ok (.getfield 18, 3) := by decide +kernel
theorem dX0_giveSnapshot_15 : decode cX0_giveSnapshot 15 = .ok (.invokevirtual 33, 3) := by decide +kernel
theorem dX0_giveSnapshot_18 : decode cX0_giveSnapshot 18 = .ok (.aload_n 1, 1) := by decide +kernel
theorem dX0_giveSnapshot_19 : decode cX0_giveSnapshot 19 = .ok (.getfield 41, 3) := by decide +kernel
theorem dX0_giveSnapshot_22 : decode cX0_giveSnapshot 22 = .ok (.ireturn, 1) := by decide +kernel
theorem dX0_slotAt_0 : decode cX0_slotAt 0 = .ok (.iload_n 1, 1) := by decide +kernel
theorem dX0_slotAt_1 : decode cX0_slotAt 1 = .ok (.ifCond .lt 21, 3) := by decide +kernel
theorem dX0_slotAt_4 : decode cX0_slotAt 4 = .ok (.iload_n 1, 1) := by decide +kernel
theorem dX0_slotAt_5 : decode cX0_slotAt 5 = .ok (.aload_n 0, 1) := by decide +kernel
theorem dX0_slotAt_6 : decode cX0_slotAt 6 = .ok (.getfield 11, 3) := by decide +kernel
theorem dX0_slotAt_9 : decode cX0_slotAt 9 = .ok (.arraylength, 1) := by decide +kernel
theorem dX0_slotAt_10 : decode cX0_slotAt 10 = .ok (.if_icmp .ge 12, 3) := by decide +kernel
theorem dX0_slotAt_13 : decode cX0_slotAt 13 = .ok (.aload_n 0, 1) := by decide +kernel
theorem dX0_slotAt_14 : decode cX0_slotAt 14 = .ok (.getfield 11, 3) := by decide +kernel
theorem dX0_slotAt_17 : decode cX0_slotAt 17 = .ok (.iload_n 1, 1) := by decide +kernel
theorem dX0_slotAt_18 : decode cX0_slotAt 18 = .ok (.aaload, 1) := by decide +kernel
theorem dX0_slotAt_19 : decode cX0_slotAt 19 = .ok (.goto 4, 3) := by decide +kernel
theorem dX0_slotAt_22 : decode cX0_slotAt 22 = .ok (.aconst_null, 1) := by decide +kernel
theorem dX0_slotAt_23 : decode cX0_slotAt 23 = .ok (.areturn, 1) := by decide +kernel
theorem dX0_dropOldest_0 : decode cX0_dropOldest 0 = .ok (.aload_n 0, 1) := by decide +kernel
theorem dX0_dropOldest_1 : decode cX0_dropOldest 1 = .ok (.iconst 0, 1) := by decide +kernel
theorem dX0_dropOldest_2 : decode cX0_dropOldest 2 = .ok (.invokevirtual 29, 3) := by decide +kernel
theorem dX0_dropOldest_5 : decode cX0_dropOldest 5 = .ok (.astore_n 1, 1) := by decide +kernel
theorem dX0_dropOldest_6 : decode cX0_dropOldest 6 = .ok (.iconst 1, 1) := by decide +kernel
theorem dX0_dropOldest_7 : decode cX0_dropOldest 7 = .ok (.istore_n 2, 1) := by decide +kernel
theorem dX0_dropOldest_8 : decode cX0_dropOldest 8 = .ok (.iload_n 2, 1) := by decide +kernel
theorem dX0_dropOldest_9 : decode cX0_dropOldest 9 = .ok (.aload_n 0, 1) := by decide +kernel
theorem dX0_dropOldest_10 : decode cX0_dropOldest 10 = .ok (.getfield 11, 3) := by decide +kernel
theorem dX0_dropOldest_13 : decode cX0_dropOldest 13 = .ok (.arraylength, 1) := by decide +kernel
theorem dX0_dropOldest_14 : decode cX0_dropOldest 14 = .ok (.if_icmp .ge 23, 3) := by decide +kernel
theorem dX0_dropOldest_17 : decode cX0_dropOldest 17 = .ok (.aload_n 0, 1) := by decide +kernel
theorem dX0_dropOldest_18 : decode cX0_dropOldest 18 = .ok (.getfield 11, 3) := by decide +kernel
theorem dX0_dropOldest_21 : decode cX0_dropOldest 21 = .ok (.iload_n 2, 1) := by decide +kernel
theorem dX0_dropOldest_22 : decode cX0_dropOldest 22 = .ok (.iconst 1, 1) := by decide +kernel
theorem dX0_dropOldest_23 : decode cX0_dropOldest 23 = .ok (.isub, 1) := by decide +kernel
theorem dX0_dropOldest_24 : decode cX0_dropOldest 24 = .ok (.aload_n 0, 1) := by decide +kernel
theorem dX0_dropOldest_25 : decode cX0_dropOldest 25 = .ok (.getfield 11, 3) := by decide +kernel
theorem dX0_dropOldest_28 : decode cX0_dropOldest 28 = .ok (.iload_n 2, 1) := by decide +kernel
theorem dX0_dropOldest_29 : decode cX0_dropOldest 29 = .ok (.aaload, 1) := by decide +kernel
theorem dX0_dropOldest_30 : decode cX0_dropOldest 30 = .ok (.aastore, 1) := by decide +kernel
theorem dX0_dropOldest_31 : decode cX0_dropOldest 31 = .ok (.iinc 2 1, 3) := by decide +kernel
theorem dX0_dropOldest_34 : decode cX0_dropOldest 34 = .ok (.goto (-26), 3) := by decide +kernel
theorem dX0_dropOldest_37 : decode cX0_dropOldest 37 = .ok (.aload_n 0, 1) := by decide +kernel
theorem dX0_dropOldest_38 : decode cX0_dropOldest 38 = .ok (.getfield 11, 3) := by decide +kernel
theorem dX0_dropOldest_41 : decode cX0_dropOldest 41 = .ok (.iconst 3, 1) := by decide +kernel
theorem dX0_dropOldest_42 : decode cX0_dropOldest 42 = .ok (.aload_n 1, 1) := by decide +kernel
theorem dX0_dropOldest_43 : decode cX0_dropOldest 43 = .ok (.aastore, 1) := by decide +kernel
theorem dX0_dropOldest_44 : decode cX0_dropOldest 44 = .ok (.aload_n 0, 1) := by decide +kernel
theorem dX0_dropOldest_45 : decode cX0_dropOldest 45 = .ok (.dup, 1) := by decide +kernel
theorem dX0_dropOldest_46 : decode cX0_dropOldest 46 = .ok (.getfield 22, 3) := by decide +kernel
theorem dX0_dropOldest_49 : decode cX0_dropOldest 49 = .ok (.iconst 1, 1) := by decide +kernel
theorem dX0_dropOldest_50 : decode cX0_dropOldest 50 = .ok (.isub, 1) := by decide +kernel
theorem dX0_dropOldest_51 : decode cX0_dropOldest 51 = .ok (.putfield 22, 3) := by decide +kernel
theorem dX0_dropOldest_54 : decode cX0_dropOldest 54 = .ok (.return_, 1) := by decide +kernel
theorem dX1_init_0 : decode cX1_init 0 = .ok (.aload_n 0, 1) := by decide +kernel
theorem dX1_init_1 : decode cX1_init 1 = .ok (.invokespecial 3, 3) := by decide +kernel
theorem dX1_init_4 : decode cX1_init 4 = .ok (.aload_n 0, 1) := by decide +kernel
theorem dX1_init_5 : decode cX1_init 5 = .ok (.iconst 5, 1) := by decide +kernel
theorem dX1_init_6 : decode cX1_init 6 = .ok (.newarray .long, 2) := by decide +kernel
theorem dX1_init_8 : decode cX1_init 8 = .ok (.putfield 9, 3) := by decide +kernel
theorem dX1_init_11 : decode cX1_init 11 = .ok (.aload_n 0, 1) := by decide +kernel
theorem dX1_init_12 : decode cX1_init 12 = .ok (.aload_n 1, 1) := by decide +kernel
theorem dX1_init_13 : decode cX1_init 13 = .ok (.putfield 15, 3) := by decide +kernel
theorem dX1_init_16 : decode cX1_init 16 = .ok (.return_, 1) := by decide +kernel
theorem dX1_prepare_0 : decode cX1_prepare 0 = .ok (.aload_n 0, 1) := by decide +kernel
theorem dX1_prepare_1 : decode cX1_prepare 1 = .ok (.aload_n 0, 1) := by decide +kernel
theorem dX1_prepare_2 : decode cX1_prepare 2 = .ok (.getfield 15, 3) := by decide +kernel
theorem dX1_prepare_5 : decode cX1_prepare 5 = .ok (.getfield 19, 3) := by decide +kernel
theorem dX1_prepare_8 : decode cX1_prepare 8 = .ok (.iload_n 1, 1) := by decide +kernel
theorem dX1_prepare_9 : decode cX1_prepare 9 = .ok (.invokestatic 25, 3) := by decide +kernel
theorem dX1_prepare_12 : decode cX1_prepare 12 = .ok (.putfield 29, 3) := by decide +kernel
theorem dX1_prepare_15 : decode cX1_prepare 15 = .ok (.aload_n 0, 1) := by decide +kernel
theorem dX1_prepare_16 : decode cX1_prepare 16 = .ok (.aload_n 0, 1) := by decide +kernel
theorem dX1_prepare_17 : decode cX1_prepare 17 = .ok (.getfield 15, 3) := by decide +kernel
theorem dX1_prepare_20 : decode cX1_prepare 20 = .ok (.getfield 33, 3) := by decide +kernel
theorem dX1_prepare_23 : decode cX1_prepare 23 = .ok (.iload_n 1, 1) := by decide +kernel
theorem dX1_prepare_24 : decode cX1_prepare 24 = .ok (.invokestatic 25, 3) := by decide +kernel
theorem dX1_prepare_27 : decode cX1_prepare 27 = .ok (.putfield 36, 3) := by decide +kernel
theorem dX1_prepare_30 : decode cX1_prepare 30 = .ok (.aload_n 0, 1) := by decide +kernel
theorem dX1_prepare_31 : decode cX1_prepare 31 = .ok (.aload_n 0, 1) := by decide +kernel
theorem dX1_prepare_32 : decode cX1_prepare 32 = .ok (.getfield 29, 3) := by decide +kernel
theorem dX1_prepare_35 : decode cX1_prepare 35 = .ok (.invokestatic 39, 3) := by decide +kernel
theorem dX1_prepare_38 : decode cX1_prepare 38 = .ok (.invokestatic 43, 3) := by decide +kernel
theorem dX1_prepare_41 : decode cX1_prepare 41 = .ok (.putfield 47, 3) := by decide +kernel
theorem dX1_prepare_44 : decode cX1_prepare 44 = .ok (.aload_n 0, 1) := by decide +kernel
theorem dX1_prepare_45 : decode cX1_prepare 45 = .ok (.iconst 1, 1) := by decide +kernel
theorem dX1_prepare_46 : decode cX1_prepare 46 = .ok (.aload_n 0, 1) := by decide +kernel
theorem dX1_prepare_47 : decode cX1_prepare 47 = .ok (.getfield 29, 3) := by decide +kernel
theorem dX1_prepare_50 : decode cX1_prepare 50 = .ok (.isub, 1) := by decide +kernel
theorem dX1_prepare_51 : decode cX1_prepare 51 = .ok (.invokestatic 39, 3) := by decide +kernel
theorem dX1_prepare_54 : decode cX1_prepare 54 = .ok (.invokestatic 43, 3) := by decide +kernel
theorem dX1_prepare_57 : decode cX1_prepare 57 = .ok (.putfield 51, 3) := by decide +kernel
theorem dX1_prepare_60 : decode cX1_prepare 60 = .ok (.aload_n 0, 1) := by decide +kernel
theorem dX1_prepare_61 : decode cX1_prepare 61 = .ok (.lconst 0, 1) := by decide +kernel
theorem dX1_prepare_62 : decode cX1_prepare 62 = .ok (.putfield 54, 3) := by decide +kernel
theorem dX1_prepare_65 : decode cX1_prepare 65 = .ok (.iconst 0, 1) := by decide +kernel
theorem dX1_prepare_66 : decode cX1_prepare 66 = .ok (.istore_n 2, 1) := by decide +kernel
theorem dX1_prepare_67 : decode cX1_prepare 67 = .ok (.iload_n 2, 1) := by decide +kernel
theorem dX1_prepare_68 : decode cX1_prepare 68 = .ok (.aload_n 0, 1) := by decide +kernel
theorem dX1_prepare_69 : decode cX1_prepare 69 = .ok (.getfield 9, 3) := by decide +kernel
theorem dX1_prepare_72 : decode cX1_prepare 72 = .ok (.arraylength, 1) := by decide +kernel
theorem dX1_prepare_73 : decode cX1_prepare 73 = .ok (.if_icmp .ge 16, 3) := by decide +kernel
theorem dX1_prepare_76 : decode cX1_prepare 76 = .ok (.aload_n 0, 1) := by decide +kernel
theorem dX1_prepare_77 : decode cX1_prepare 77 = .ok (.getfield 9, 3) := by decide +kernel
theorem dX1_prepare_80 : decode cX1_prepare 80 = .ok (.iload_n 2, 1) := by decide +kernel
theorem dX1_prepare_81 : decode cX1_prepare 81 = .ok (.lconst 0, 1) := by decide +kernel
theorem dX1_prepare_82 : decode cX1_prepare 82 = .ok (.lastore, 1) := by decide +kernel
theorem dX1_prepare_83 : decode cX1_prepare 83 = .ok (.iinc 2 1, 3) := by decide +kernel
theorem dX1_prepare_86 : decode cX1_prepare 86 = .ok (.goto (-19), 3) := by decide +kernel
theorem dX1_prepare_89 : decode cX1_prepare 89 = .ok (.iconst 0, 1) := by decide +kernel
theorem dX1_prepare_90 : decode cX1_prepare 90 = .ok (.istore_n 2, 1) := by decide +kernel
theorem dX1_prepare_91 : decode cX1_prepare 91 = .ok (.iload_n 2, 1) := by decide +kernel
theorem dX1_prepare_92 : decode cX1_prepare 92 = .ok (.bipush 36, 2) := by decide +kernel
theorem dX1_prepare_94 : decode cX1_prepare 94 = .ok (.if_icmp .ge 81, 3) := by decide +kernel
theorem dX1_prepare_97 : decode cX1_prepare 97 = .ok (.aload_n 0, 1) := by decide +kernel
theorem dX1_prepare_98 : decode cX1_prepare 98 = .ok (.getfield 15, 3) := by decide +kernel
theorem dX1_prepare_101 : decode cX1_prepare 101 = .ok (.getfield 57, 3) := by decide +kernel
theorem dX1_prepare_104 : decode cX1_prepare 104 = .ok (.iload_n 2, 1) := by decide +kernel
theorem dX1_prepare_105 : decode cX1_prepare 105 = .ok (.invokestatic 25, 3) := by decide +kernel
theorem dX1_prepare_108 : decode cX1_prepare 108 = .ok (.iconst 1, 1) := by decide +kernel
theorem dX1_prepare_109 : decode cX1_prepare 109 = .ok (.if_icmp .ne 16, 3) := by decide +kernel
theorem dX1_prepare_112 : decode cX1_prepare 112 = .ok (.aload_n 0, 1) := by decide +kernel
theorem dX1_prepare_113 : decode cX1_prepare 113 = .ok (.dup, 1) := by decide +kernel
theorem dX1_prepare_114 : decode cX1_prepare 114 = .ok (.getfield 54, 3) := by decide +kernel
theorem dX1_prepare_117 : decode cX1_prepare 117 = .ok (.iload_n 2, 1) := by decide +kernel
theorem dX1_prepare_118 : decode cX1_prepare 118 = .ok (.invokestatic 43, 3) := by decide +kernel
theorem dX1_prepare_121 : decode cX1_prepare 121 = .ok (.lor, 1) := by decide +kernel
theorem dX1_prepare_122 : decode cX1_prepare 122 = .ok (.putfield 54, 3) := by decide +kernel
theorem dX1_prepare_125 : decode cX1_prepare 125 = .ok (.iconst 0, 1) := by decide +kernel
theorem dX1_prepare_126 : decode cX1_prepare 126 = .ok (.aload_n 0, 1) := by decide +kernel
theorem dX1_prepare_127 : decode cX1_prepare 127 = .ok (.getfield 15, 3) := by decide +kernel
theorem dX1_prepare_130 : decode cX1_prepare 130 = .ok (.getfield 60, 3) := by decide +kernel
theorem dX1_prepare_133 : decode cX1_prepare 133 = .ok (.iload_n 2, 1) := by decide +kernel
theorem dX1_prepare_134 : decode cX1_prepare 134 = .ok (.invokestatic 25, 3) := by decide +kernel
theorem dX1_prepare_137 : decode cX1_prepare 137 = .ok (.invokestatic 63, 3) := by decide +kernel
theorem dX1_prepare_140 : decode cX1_prepare 140 = .ok (.istore_n 3, 1) := by decide +kernel
theorem dX1_prepare_141 : decode cX1_prepare 141 = .ok (.iload_n 3, 1) := by decide +kernel
theorem dX1_prepare_142 : decode cX1_prepare 142 = .ok (.aload_n 0, 1) := by decide +kernel
theorem dX1_prepare_143 : decode cX1_prepare 143 = .ok (.getfield 9, 3) := by decide +kernel
theorem dX1_prepare_146 : decode cX1_prepare 146 = .ok (.arraylength, 1) := by decide +kernel
theorem dX1_prepare_147 : decode cX1_prepare 147 = .ok (.if_icmp .ge 22, 3) := by decide +kernel
theorem dX1_prepare_150 : decode cX1_prepare 150 = .ok (.aload_n 0, 1) := by decide +kernel
theorem dX1_prepare_151 : decode cX1_prepare 151 = .ok (.getfield 9, 3) := by decide +kernel
theorem dX1_prepare_154 : decode cX1_prepare 154 = .ok (.iload_n 3, 1) := by decide +kernel
theorem dX1_prepare_155 : decode cX1_prepare 155 = .ok (.dup2, 1) := by decide +kernel
theorem dX1_prepare_156 : decode cX1_prepare 156 = .ok (.laload, 1) := by decide +kernel
theorem dX1_prepare_157 : decode cX1_prepare 157 = .ok (.iload_n 2, 1) := by decide +kernel
theorem dX1_prepare_158 : decode cX1_prepare 158 = .ok (.invokestatic 43, 3) := by decide +kernel
theorem dX1_prepare_161 : decode cX1_prepare 161 = .ok (.lor, 1) := by decide +kernel
theorem dX1_prepare_162 : decode cX1_prepare 162 = .ok (.lastore, 1) := by decide +kernel
theorem dX1_prepare_163 : decode cX1_prepare 163 = .ok (.iinc 3 1, 3) := by decide +kernel
theorem dX1_prepare_166 : decode cX1_prepare 166 = .ok (.goto (-25), 3) := by decide +kernel
theorem dX1_prepare_169 : decode cX1_prepare 169 = .ok (.iinc 2 1, 3) := by decide +kernel
theorem dX1_prepare_172 : decode cX1_prepare 172 = .ok (.goto (-81), 3) := by decide +kernel
theorem dX1_prepare_175 : decode cX1_prepare 175 = .ok (.return_, 1) := by decide +kernel
theorem dX1_turnsForwards_0 : decode cX1_turnsForwards 0 = .ok (.iload_n 1, 1) := by decide +kernel
theorem dX1_turnsForwards_1 : decode cX1_turnsForwards 1 = .ok (.invokestatic 43, 3) := by decide +kernel
theorem dX1_turnsForwards_4 : decode cX1_turnsForwards 4 = .ok (.lstore_n 3, 1) := by decide +kernel
theorem dX1_turnsForwards_5 : decode cX1_turnsForwards 5 = .ok (.iload_n 2, 1) := by decide +kernel
theorem dX1_turnsForwards_6 : decode cX1_turnsForwards 6 = .ok (.istore 5, 2) := by decide +kernel
theorem dX1_turnsForwards_8 : decode cX1_turnsForwards 8 = .ok (.iload 5, 2) := by decide +kernel
theorem dX1_turnsForwards_10 : decode cX1_turnsForwards 10 = .ok (.aload_n 0, 1) := by decide +kernel
theorem dX1_turnsForwards_11 : decode cX1_turnsForwards 11 = .ok (.getfield 15, 3) := by decide +kernel
theorem dX1_turnsForwards_14 : decode cX1_turnsForwards 14 = .ok (.getfield 69, 3) := by decide +kernel
theorem dX1_turnsForwards_17 : decode cX1_turnsForwards 17 = .ok (.if_icmp .gt 71, 3) := by decide +kernel
theorem dX1_turnsForwards_20 : decode cX1_turnsForwards 20 = .ok (.lload_n 3, 1) := by decide +kernel
theorem dX1_turnsForwards_21 : decode cX1_turnsForwards 21 = .ok (.lconst 0, 1) := by decide +kernel
theorem dX1_turnsForwards_22 : decode cX1_turnsForwards 22 = .ok (.lcmp, 1) := by decide +kernel
theorem dX1_turnsForwards_23 : decode cX1_turnsForwards 23 = .ok (.ifCond .eq 65, 3) := by decide +kernel
theorem dX1_turnsForwards_26 : decode cX1_turnsForwards 26 = .ok (.iload 5, 2) := by decide +kernel
theorem dX1_turnsForwards_28 : decode cX1_turnsForwards 28 = .ok (.iconst 2, 1) := by decide +kernel
theorem dX1_turnsForwards_29 : decode cX1_turnsForwards 29 = .ok (.irem, 1) := by decide +kernel
theorem dX1_turnsForwards_30 : decode cX1_turnsForwards 30 = .ok (.aload_n 0, 1) := by decide +kernel
theorem dX1_turnsForwards_31 : decode cX1_turnsForwards 31 = .ok (.getfield 29, 3) := by decide +kernel
theorem dX1_turnsForwards_34 : decode cX1_turnsForwards 34 = .ok (.if_icmp .ne 35, 3) := by decide +kernel
theorem dX1_turnsForwards_37 : decode cX1_turnsForwards 37 = .ok (.lload_n 3, 1) := by decide +kernel
theorem dX1_turnsForwards_38 : decode cX1_turnsForwards 38 = .ok (.aload_n 0, 1) := by decide +kernel
theorem dX1_turnsForwards_39 : decode cX1_turnsForwards 39 = .ok (.lload_n 3, 1) := by decide +kernel
theorem dX1_turnsForwards_40 : decode cX1_turnsForwards 40 = .ok (.aload_n 0, 1) := by decide +kernel
theorem dX1_turnsForwards_41 : decode cX1_turnsForwards 41 = .ok (.iload 5, 2) := by decide +kernel
theorem dX1_turnsForwards_43 : decode cX1_turnsForwards 43 = .ok (.invokevirtual 72, 3) := by decide +kernel
theorem dX1_turnsForwards_46 : decode cX1_turnsForwards 46 = .ok (.invokevirtual 75, 3) := by decide +kernel
theorem dX1_turnsForwards_49 : decode cX1_turnsForwards 49 = .ok (.lor, 1) := by decide +kernel
theorem dX1_turnsForwards_50 : decode cX1_turnsForwards 50 = .ok (.lstore_n 3, 1) := by decide +kernel
theorem dX1_turnsForwards_51 : decode cX1_turnsForwards 51 = .ok (.lload_n 3, 1) := by decide +kernel
theorem dX1_turnsForwards_52 : decode cX1_turnsForwards 52 = .ok (.aload_n 0, 1) := by decide +kernel
theorem dX1_turnsForwards_53 : decode cX1_turnsForwards 53 = .ok (.getfield 47, 3) := by decide +kernel
theorem dX1_turnsForwards_56 : decode cX1_turnsForwards 56 = .ok (.land, 1) := by decide +kernel
theorem dX1_turnsForwards_57 : decode cX1_turnsForwards 57 = .ok (.lconst 0, 1) := by decide +kernel
theorem dX1_turnsForwards_58 : decode cX1_turnsForwards 58 = .ok (.lcmp, 1) := by decide +kernel
theorem dX1_turnsForwards_59 : decode cX1_turnsForwards 59 = .ok (.ifCond .eq 10, 3) := by decide +kernel
theorem dX1_turnsForwards_62 : decode cX1_turnsForwards 62 = .ok (.iload 5, 2) := by decide +kernel
theorem dX1_turnsForwards_64 : decode cX1_turnsForwards 64 = .ok (.iload_n 2, 1) := by decide +kernel
theorem dX1_turnsForwards_65 : decode cX1_turnsForwards 65 = .ok (.isub, 1) := by decide +kernel
theorem dX1_turnsForwards_66 : decode cX1_turnsForwards 66 = .ok (.iconst 1, 1) := by decide +kernel
theorem dX1_turnsForwards_67 : decode cX1_turnsForwards 67 = .ok (.iadd, 1) := by decide +kernel
theorem dX1_turnsForwards_68 : decode cX1_turnsForwards 68 = .ok (.ireturn, 1) := by decide +kernel
theorem dX1_turnsForwards_69 : decode cX1_turnsForwards 69 = .ok (.lload_n 3, 1) := by decide +kernel
theorem dX1_turnsForwards_70 : decode cX1_turnsForwards 70 = .ok (.aload_n 0, 1) := by decide +kernel
theorem dX1_turnsForwards_71 : decode cX1_turnsForwards 71 = .ok (.iload 5, 2) := by decide +kernel
theorem dX1_turnsForwards_73 : decode cX1_turnsForwards 73 = .ok (.invokevirtual 79, 3) := by decide +kernel
theorem dX1_turnsForwards_76 : decode cX1_turnsForwards 76 = .ok (.ldc2_w 82, 3) := by decide +kernel
theorem dX1_turnsForwards_79 : decode cX1_turnsForwards 79 = .ok (.lxor, 1) := by decide +kernel
theorem dX1_turnsForwards_80 : decode cX1_turnsForwards 80 = .ok (.land, 1) := by decide +kernel
theorem dX1_turnsForwards_81 : decode cX1_turnsForwards 81 = .ok (.lstore_n 3, 1) := by decide +kernel
theorem dX1_turnsForwards_82 : decode cX1_turnsForwards 82 = .ok (.iinc 5 1, 3) := by decide +kernel
theorem dX1_turnsForwards_85 : decode cX1_turnsForwards 85 = .ok (.goto (-77), 3) := by decide +kernel
theorem dX1_turnsForwards_88 : decode cX1_turnsForwards 88 = .ok (.bipush (-5), 2) := by decide +kernel
theorem dX1_turnsForwards_90 : decode cX1_turnsForwards 90 = .ok (.ireturn, 1) := by decide +kernel
theorem dX1_turnsBackwards_0 : decode cX1_turnsBackwards 0 = .ok (.iload_n 2, 1) := by decide +kernel
theorem dX1_turnsBackwards_1 : decode cX1_turnsBackwards 1 = .ok (.istore_n 3, 1) := by decide +kernel
theorem dX1_turnsBackwards_2 : decode cX1_turnsBackwards 2 = .ok (.iload_n 3, 1) := by decide +kernel
theorem dX1_turnsBackwards_3 : decode cX1_turnsBackwards 3 = .ok (.aload_n 0, 1) := by decide +kernel
theorem dX1_turnsBackwards_4 : decode cX1_turnsBackwards 4 = .ok (.getfield 15, 3) := by decide +kernel
theorem dX1_turnsBackwards_7 : decode cX1_turnsBackwards 7 = .ok (.getfield 69, 3) := by decide +kernel
theorem dX1_turnsBackwards_10 : decode cX1_turnsBackwards 10 = .ok (.if_icmp .gt 41, 3) := by decide +kernel
theorem dX1_turnsBackwards_13 : decode cX1_turnsBackwards 13 = .ok (.iload_n 3, 1) := by decide +kernel
theorem dX1_turnsBackwards_14 : decode cX1_turnsBackwards 14 = .ok (.iconst 2, 1) := by decide +kernel
theorem dX1_turnsBackwards_15 : decode cX1_turnsBackwards 15 = .ok (.irem, 1) := by decide +kernel
theorem dX1_turnsBackwards_16 : decode cX1_turnsBackwards 16 = .ok (.aload_n 0, 1) := by decide +kernel
theorem dX1_turnsBackwards_17 : decode cX1_turnsBackwards 17 = .ok (.getfield 29, 3) := by decide +kernel
theorem dX1_turnsBackwards_20 : decode cX1_turnsBackwards 20 = .ok (.if_icmp .ne 25, 3) := by decide +kernel
theorem dX1_turnsBackwards_23 : decode cX1_turnsBackwards 23 = .ok (.aload_n 0, 1) := by decide +kernel
theorem dX1_turnsBackwards_24 : decode cX1_turnsBackwards 24 = .ok (.iload_n 2, 1) := by decide +kernel
theorem dX1_turnsBackwards_25 : decode cX1_turnsBackwards 25 = .ok (.iload_n 3, 1) := by decide +kernel
theorem dX1_turnsBackwards_26 : decode cX1_turnsBackwards 26 = .ok (.invokevirtual 84, 3) := by decide +kernel
theorem dX1_turnsBackwards_29 : decode cX1_turnsBackwards 29 = .ok (.iload_n 1, 1) := by decide +kernel
theorem dX1_turnsBackwards_30 : decode cX1_turnsBackwards 30 = .ok (.invokestatic 43, 3) := by decide +kernel
theorem dX1_turnsBackwards_33 : decode cX1_turnsBackwards 33 = .ok (.land, 1) := by decide +kernel
theorem dX1_turnsBackwards_34 : decode cX1_turnsBackwards 34 = .ok (.lconst 0, 1) := by decide +kernel
theorem dX1_turnsBackwards_35 : decode cX1_turnsBackwards 35 = .ok (.lcmp, 1) := by decide +kernel
theorem dX1_turnsBackwards_36 : decode cX1_turnsBackwards 36 = .ok (.ifCond .eq 9, 3) := by decide +kernel
theorem dX1_turnsBackwards_39 : decode cX1_turnsBackwards 39 = .ok (.iload_n 3, 1) := by decide +kernel
theorem dX1_turnsBackwards_40 : decode cX1_turnsBackwards 40 = .ok (.iload_n 2, 1) := by decide +kernel
theorem dX1_turnsBackwards_41 : decode cX1_turnsBackwards 41 = .ok (.isub, 1) := by decide +kernel
theorem dX1_turnsBackwards_42 : decode cX1_turnsBackwards 42 = .ok (.iconst 1, 1) := by decide +kernel
theorem dX1_turnsBackwards_43 : decode cX1_turnsBackwards 43 = .ok (.iadd, 1) := by decide +kernel
theorem dX1_turnsBackwards_44 : decode cX1_turnsBackwards 44 = .ok (.ireturn, 1) := by decide +kernel
theorem dX1_turnsBackwards_45 : decode cX1_turnsBackwards 45 = .ok (.iinc 3 1, 3) := by decide +kernel
theorem dX1_turnsBackwards_48 : decode cX1_turnsBackwards 48 = .ok (.goto (-46), 3) := by decide +kernel
theorem dX1_turnsBackwards_51 : decode cX1_turnsBackwards 51 = .ok (.bipush (-5), 2) := by decide +kernel
theorem dX1_turnsBackwards_53 : decode cX1_turnsBackwards 53 = .ok (.ireturn, 1) := by decide +kernel
theorem dX1_turnsBehind_0 : decode cX1_turnsBehind 0 = .ok (.aload_n 0, 1) := by decide +kernel
theorem dX1_turnsBehind_1 : decode cX1_turnsBehind 1 = .ok (.iload_n 2, 1) := by decide +kernel
theorem dX1_turnsBehind_2 : decode cX1_turnsBehind 2 = .ok (.invokevirtual 79, 3) := by decide +kernel
theorem dX1_turnsBehind_5 : decode cX1_turnsBehind 5 = .ok (.iload_n 1, 1) := by decide +kernel
theorem dX1_turnsBehind_6 : decode cX1_turnsBehind 6 = .ok (.invokestatic 43, 3) := by decide +kernel
theorem dX1_turnsBehind_9 : decode cX1_turnsBehind 9 = .ok (.land, 1) := by decide +kernel
theorem dX1_turnsBehind_10 : decode cX1_turnsBehind 10 = .ok (.lconst 0, 1) := by decide +kernel
theorem dX1_turnsBehind_11 : decode cX1_turnsBehind 11 = .ok (.lcmp, 1) := by decide +kernel
theorem dX1_turnsBehind_12 : decode cX1_turnsBehind 12 = .ok (.ifCond .eq 7, 3) := by decide +kernel
theorem dX1_turnsBehind_15 : decode cX1_turnsBehind 15 = .ok (.iconst 1, 1) := by decide +kernel
theorem dX1_turnsBehind_16 : decode cX1_turnsBehind 16 = .ok (.goto 4, 3) := by decide +kernel
theorem dX1_turnsBehind_19 : decode cX1_turnsBehind 19 = .ok (.iconst 0, 1) := by decide +kernel
theorem dX1_turnsBehind_20 : decode cX1_turnsBehind 20 = .ok (.istore_n 3, 1) := by decide +kernel
theorem dX1_turnsBehind_21 : decode cX1_turnsBehind 21 = .ok (.iload_n 3, 1) := by decide +kernel
theorem dX1_turnsBehind_22 : decode cX1_turnsBehind 22 = .ok (.ifCond .eq 8, 3) := by decide +kernel
theorem dX1_turnsBehind_25 : decode cX1_turnsBehind 25 = .ok (.bipush (-5), 2) := by decide +kernel
theorem dX1_turnsBehind_27 : decode cX1_turnsBehind 27 = .ok (.goto 11, 3) := by decide +kernel
theorem dX1_turnsBehind_30 : decode cX1_turnsBehind 30 = .ok (.aload_n 0, 1) := by decide +kernel
theorem dX1_turnsBehind_31 : decode cX1_turnsBehind 31 = .ok (.iload_n 1, 1) := by decide +kernel
theorem dX1_turnsBehind_32 : decode cX1_turnsBehind 32 = .ok (.iload_n 2, 1) := by decide +kernel
theorem dX1_turnsBehind_33 : decode cX1_turnsBehind 33 = .ok (.iconst 1, 1) := by decide +kernel
theorem dX1_turnsBehind_34 : decode cX1_turnsBehind 34 = .ok (.iadd, 1) := by decide +kernel
theorem dX1_turnsBehind_35 : decode cX1_turnsBehind 35 = .ok (.invokevirtual 88, 3) := by decide +kernel
theorem dX1_turnsBehind_38 : decode cX1_turnsBehind 38 = .ok (.ireturn, 1) := by decide +kernel
theorem dX1_cellsThatLeadHome_0 : decode cX1_cellsThatLeadHome 0 = .ok (.aload_n 0, 1) := by decide +kernel
theorem dX1_cellsThatLeadHome_1 : decode cX1_cellsThatLeadHome 1 = .ok (.aload_n 0, 1) := by decide +kernel
theorem dX1_cellsThatLeadHome_2 : decode cX1_cellsThatLeadHome 2 = .ok (.getfield 47, 3) := by decide +kernel
theorem dX1_cellsThatLeadHome_5 : decode cX1_cellsThatLeadHome 5 = .ok (.aload_n 0, 1) := by decide +kernel
theorem dX1_cellsThatLeadHome_6 : decode cX1_cellsThatLeadHome 6 = .ok (.iload_n 2, 1) := by decide +kernel
theorem dX1_cellsThatLeadHome_7 : decode cX1_cellsThatLeadHome 7 = .ok (.invokevirtual 72, 3) := by decide +kernel
theorem dX1_cellsThatLeadHome_10 : decode cX1_cellsThatLeadHome 10 = .ok (.invokevirtual 91, 3) := by decide +kernel
theorem dX1_cellsThatLeadHome_13 : decode cX1_cellsThatLeadHome 13 = .ok (.lstore_n 3, 1) := by decide +kernel
theorem dX1_cellsThatLeadHome_14 : decode cX1_cellsThatLeadHome 14 = .ok (.iload_n 2, 1) := by decide +kernel
theorem dX1_cellsThatLeadHome_15 : decode cX1_cellsThatLeadHome 15 = .ok (.iconst 1, 1) := by decide +kernel
theorem dX1_cellsThatLeadHome_16 : decode cX1_cellsThatLeadHome 16 = .ok (.isub, 1) := by decide +kernel
theorem dX1_cellsThatLeadHome_17 : decode cX1_cellsThatLeadHome 17 = .ok (.istore 5, 2) := by decide +kernel
theorem dX1_cellsThatLeadHome_19 : decode cX1_cellsThatLeadHome 19 = .ok (.iload 5, 2) := by decide +kernel
theorem dX1_cellsThatLeadHome_21 : decode cX1_cellsThatLeadHome 21 = .ok (.iload_n 1, 1) := by decide +kernel
theorem dX1_cellsThatLeadHome_22 : decode cX1_cellsThatLeadHome 22 = .ok (.if_icmp .lt 53, 3) := by decide +kernel
theorem dX1_cellsThatLeadHome_25 : decode cX1_cellsThatLeadHome 25 = .ok (.lload_n 3, 1) := by decide +kernel
theorem dX1_cellsThatLeadHome_26 : decode cX1_cellsThatLeadHome 26 = .ok (.lconst 0, 1) := by decide +kernel
theorem dX1_cellsThatLeadHome_27 : decode cX1_cellsThatLeadHome 27 = .ok (.lcmp, 1) := by decide +kernel
theorem dX1_cellsThatLeadHome_28 : decode cX1_cellsThatLeadHome 28 = .ok (.ifCond .eq 47, 3) := by decide +kernel
theorem dX1_cellsThatLeadHome_31 : decode cX1_cellsThatLeadHome 31 = .ok (.lload_n 3, 1) := by decide +kernel
theorem dX1_cellsThatLeadHome_32 : decode cX1_cellsThatLeadHome 32 = .ok (.aload_n 0, 1) := by decide +kernel
theorem dX1_cellsThatLeadHome_33 : decode cX1_cellsThatLeadHome 33 = .ok (.iload 5, 2) := by decide +kernel
theorem dX1_cellsThatLeadHome_35 : decode cX1_cellsThatLeadHome 35 = .ok (.invokevirtual 79, 3) := by decide +kernel
theorem dX1_cellsThatLeadHome_38 : decode cX1_cellsThatLeadHome 38 = .ok (.ldc2_w 82, 3) := by decide +kernel
theorem dX1_cellsThatLeadHome_41 : decode cX1_cellsThatLeadHome 41 = .ok (.lxor, 1) := by decide +kernel
theorem dX1_cellsThatLeadHome_42 : decode cX1_cellsThatLeadHome 42 = .ok (.land, 1) := by decide +kernel
theorem dX1_cellsThatLeadHome_43 : decode cX1_cellsThatLeadHome 43 = .ok (.lstore_n 3, 1) := by decide +kernel
theorem dX1_cellsThatLeadHome_44 : decode cX1_cellsThatLeadHome 44 = .ok (.iload 5, 2) := by decide +kernel
theorem dX1_cellsThatLeadHome_46 : decode cX1_cellsThatLeadHome 46 = .ok (.iconst 2, 1) := by decide +kernel
theorem dX1_cellsThatLeadHome_47 : decode cX1_cellsThatLeadHome 47 = .ok (.irem, 1) := by decide +kernel
theorem dX1_cellsThatLeadHome_48 : decode cX1_cellsThatLeadHome 48 = .ok (.aload_n 0, 1) := by decide +kernel
theorem dX1_cellsThatLeadHome_49 : decode cX1_cellsThatLeadHome 49 = .ok (.getfield 29, 3) := by decide +kernel
theorem dX1_cellsThatLeadHome_52 : decode cX1_cellsThatLeadHome 52 = .ok (.if_icmp .ne 17, 3) := by decide +kernel
theorem dX1_cellsThatLeadHome_55 : decode cX1_cellsThatLeadHome 55 = .ok (.lload_n 3, 1) := by decide +kernel
theorem dX1_cellsThatLeadHome_56 : decode cX1_cellsThatLeadHome 56 = .ok (.aload_n 0, 1) := by decide +kernel
theorem dX1_cellsThatLeadHome_57 : decode cX1_cellsThatLeadHome 57 = .ok (.lload_n 3, 1) := by decide +kernel
theorem dX1_cellsThatLeadHome_58 : decode cX1_cellsThatLeadHome 58 = .ok (.aload_n 0, 1) := by decide +kernel
theorem dX1_cellsThatLeadHome_59 : decode cX1_cellsThatLeadHome 59 = .ok (.iload 5, 2) := by decide +kernel
theorem dX1_cellsThatLeadHome_61 : decode cX1_cellsThatLeadHome 61 = .ok (.invokevirtual 72, 3) := by decide +kernel
theorem dX1_cellsThatLeadHome_64 : decode cX1_cellsThatLeadHome 64 = .ok (.invokevirtual 91, 3) := by decide +kernel
theorem dX1_cellsThatLeadHome_67 : decode cX1_cellsThatLeadHome 67 = .ok (.lor, 1) := by decide +kernel
theorem dX1_cellsThatLeadHome_68 : decode cX1_cellsThatLeadHome 68 = .ok (.lstore_n 3, 1) := by decide +kernel
theorem dX1_cellsThatLeadHome_69 : decode cX1_cellsThatLeadHome 69 = .ok (.iinc 5 (-1), 3) := by decide +kernel
theorem dX1_cellsThatLeadHome_72 : decode cX1_cellsThatLeadHome 72 = .ok (.goto (-53), 3) := by decide +kernel
theorem dX1_cellsThatLeadHome_75 : decode cX1_cellsThatLeadHome 75 = .ok (.lload_n 3, 1) := by decide +kernel
theorem dX1_cellsThatLeadHome_76 : decode cX1_cellsThatLeadHome 76 = .ok (.lreturn, 1) := by decide +kernel
theorem dX1_goalsOf_0 : decode cX1_goalsOf 0 = .ok (.lconst 0, 1) := by decide +kernel
theorem dX1_goalsOf_1 : decode cX1_goalsOf 1 = .ok (.lstore 5, 2) := by decide +kernel
theorem dX1_goalsOf_3 : decode cX1_goalsOf 3 = .ok (.iconst 0, 1) := by decide +kernel
theorem dX1_goalsOf_4 : decode cX1_goalsOf 4 = .ok (.istore 7, 2) := by decide +kernel
theorem dX1_goalsOf_6 : decode cX1_goalsOf 6 = .ok (.iload 7, 2) := by decide +kernel
theorem dX1_goalsOf_8 : decode cX1_goalsOf 8 = .ok (.iconst 4, 1) := by decide +kernel
theorem dX1_goalsOf_9 : decode cX1_goalsOf 9 = .ok (.if_icmp .ge 65, 3) := by decide +kernel
theorem dX1_goalsOf_12 : decode cX1_goalsOf 12 = .ok (.lload_n 1, 1) := by decide +kernel
theorem dX1_goalsOf_13 : decode cX1_goalsOf 13 = .ok (.lload_n 3, 1) := by decide +kernel
theorem dX1_goalsOf_14 : decode cX1_goalsOf 14 = .ok (.land, 1) := by decide +kernel
theorem dX1_goalsOf_15 : decode cX1_goalsOf 15 = .ok (.lstore 8, 2) := by decide +kernel
theorem dX1_goalsOf_17 : decode cX1_goalsOf 17 = .ok (.iconst 0, 1) := by decide +kernel
theorem dX1_goalsOf_18 : decode cX1_goalsOf 18 = .ok (.istore 10, 2) := by decide +kernel
theorem dX1_goalsOf_20 : decode cX1_goalsOf 20 = .ok (.iload 10, 2) := by decide +kernel
theorem dX1_goalsOf_22 : decode cX1_goalsOf 22 = .ok (.iconst 3, 1) := by decide +kernel
theorem dX1_goalsOf_23 : decode cX1_goalsOf 23 = .ok (.if_icmp .ge 45, 3) := by decide +kernel
theorem dX1_goalsOf_26 : decode cX1_goalsOf 26 = .ok (.lload 8, 2) := by decide +kernel
theorem dX1_goalsOf_28 : decode cX1_goalsOf 28 = .ok (.aload_n 0, 1) := by decide +kernel
theorem dX1_goalsOf_29 : decode cX1_goalsOf 29 = .ok (.getfield 47, 3) := by decide +kernel
theorem dX1_goalsOf_32 : decode cX1_goalsOf 32 = .ok (.ldc2_w 82, 3) := by decide +kernel
theorem dX1_goalsOf_35 : decode cX1_goalsOf 35 = .ok (.lxor, 1) := by decide +kernel
theorem dX1_goalsOf_36 : decode cX1_goalsOf 36 = .ok (.land, 1) := by decide +kernel
theorem dX1_goalsOf_37 : decode cX1_goalsOf 37 = .ok (.iload 7, 2) := by decide +kernel
theorem dX1_goalsOf_39 : decode cX1_goalsOf 39 = .ok (.invokestatic 94, 3) := by decide +kernel
theorem dX1_goalsOf_42 : decode cX1_goalsOf 42 = .ok (.lload_n 3, 1) := by decide +kernel
theorem dX1_goalsOf_43 : decode cX1_goalsOf 43 = .ok (.land, 1) := by decide +kernel
theorem dX1_goalsOf_44 : decode cX1_goalsOf 44 = .ok (.aload_n 0, 1) := by decide +kernel
theorem dX1_goalsOf_45 : decode cX1_goalsOf 45 = .ok (.getfield 51, 3) := by decide +kernel
theorem dX1_goalsOf_48 : decode cX1_goalsOf 48 = .ok (.ldc2_w 82, 3) := by decide +kernel
theorem dX1_goalsOf_51 : decode cX1_goalsOf 51 = .ok (.lxor, 1) := by decide +kernel
theorem dX1_goalsOf_52 : decode cX1_goalsOf 52 = .ok (.land, 1) := by decide +kernel
theorem dX1_goalsOf_53 : decode cX1_goalsOf 53 = .ok (.lstore 8, 2) := by decide +kernel
theorem dX1_goalsOf_55 : decode cX1_goalsOf 55 = .ok (.lload 5, 2) := by decide +kernel
theorem dX1_goalsOf_57 : decode cX1_goalsOf 57 = .ok (.lload 8, 2) := by decide +kernel
theorem dX1_goalsOf_59 : decode cX1_goalsOf 59 = .ok (.lor, 1) := by decide +kernel
theorem dX1_goalsOf_60 : decode cX1_goalsOf 60 = .ok (.lstore 5, 2) := by decide +kernel
theorem dX1_goalsOf_62 : decode cX1_goalsOf 62 = .ok (.iinc 10 1, 3) := by decide +kernel
theorem dX1_goalsOf_65 : decode cX1_goalsOf 65 = .ok (.goto (-45), 3) := by decide +kernel
theorem dX1_goalsOf_68 : decode cX1_goalsOf 68 = .ok (.iinc 7 1, 3) := by decide +kernel
theorem dX1_goalsOf_71 : decode cX1_goalsOf 71 = .ok (.goto (-65), 3) := by decide +kernel
theorem dX1_goalsOf_74 : decode cX1_goalsOf 74 = .ok (.lload 5, 2) := by decide +kernel
theorem dX1_goalsOf_76 : decode cX1_goalsOf 76 = .ok (.lreturn, 1) := by decide +kernel
theorem dX1_startsFor_0 : decode cX1_startsFor 0 = .ok (.lload_n 3, 1) := by decide +kernel
theorem dX1_startsFor_1 : decode cX1_startsFor 1 = .ok (.aload_n 0, 1) := by decide +kernel
theorem dX1_startsFor_2 : decode cX1_startsFor 2 = .ok (.getfield 47, 3) := by decide +kernel
theorem dX1_startsFor_5 : decode cX1_startsFor 5 = .ok (.ldc2_w 82, 3) := by decide +kernel
theorem dX1_startsFor_8 : decode cX1_startsFor 8 = .ok (.lxor, 1) := by decide +kernel
theorem dX1_startsFor_9 : decode cX1_startsFor 9 = .ok (.land, 1) := by decide +kernel
theorem dX1_startsFor_10 : decode cX1_startsFor 10 = .ok (.aload_n 0, 1) := by decide +kernel
theorem dX1_startsFor_11 : decode cX1_startsFor 11 = .ok (.getfield 51, 3) := by decide +kernel
theorem dX1_startsFor_14 : decode cX1_startsFor 14 = .ok (.ldc2_w 82, 3) := by decide +kernel
theorem dX1_startsFor_17 : decode cX1_startsFor 17 = .ok (.lxor, 1) := by decide +kernel
theorem dX1_startsFor_18 : decode cX1_startsFor 18 = .ok (.land, 1) := by decide +kernel
theorem dX1_startsFor_19 : decode cX1_startsFor 19 = .ok (.lstore 5, 2) := by decide +kernel
theorem dX1_startsFor_21 : decode cX1_startsFor 21 = .ok (.lconst 0, 1) := by decide +kernel
theorem dX1_startsFor_22 : decode cX1_startsFor 22 = .ok (.lstore 7, 2) := by decide +kernel
theorem dX1_startsFor_24 : decode cX1_startsFor 24 = .ok (.iconst 0, 1) := by decide +kernel
theorem dX1_startsFor_25 : decode cX1_startsFor 25 = .ok (.istore 9, 2) := by decide +kernel
theorem dX1_startsFor_27 : decode cX1_startsFor 27 = .ok (.iload 9, 2) := by decide +kernel
theorem dX1_startsFor_29 : decode cX1_startsFor 29 = .ok (.iconst 4, 1) := by decide +kernel
theorem dX1_startsFor_30 : decode cX1_startsFor 30 = .ok (.if_icmp .ge 48, 3) := by decide +kernel
theorem dX1_startsFor_33 : decode cX1_startsFor 33 = .ok (.lload_n 1, 1) := by decide +kernel
theorem dX1_startsFor_34 : decode cX1_startsFor 34 = .ok (.lload_n 3, 1) := by decide +kernel
theorem dX1_startsFor_35 : decode cX1_startsFor 35 = .ok (.land, 1) := by decide +kernel
theorem dX1_startsFor_36 : decode cX1_startsFor 36 = .ok (.lstore 10, 2) := by decide +kernel
theorem dX1_startsFor_38 : decode cX1_startsFor 38 = .ok (.iconst 0, 1) := by decide +kernel
theorem dX1_startsFor_39 : decode cX1_startsFor 39 = .ok (.istore 12, 2) := by decide +kernel
theorem dX1_startsFor_41 : decode cX1_startsFor 41 = .ok (.iload 12, 2) := by decide +kernel
theorem dX1_startsFor_43 : decode cX1_startsFor 43 = .ok (.iconst 3, 1) := by decide +kernel
theorem dX1_startsFor_44 : decode cX1_startsFor 44 = .ok (.if_icmp .ge 28, 3) := by decide +kernel
theorem dX1_startsFor_47 : decode cX1_startsFor 47 = .ok (.lload 10, 2) := by decide +kernel
theorem dX1_startsFor_49 : decode cX1_startsFor 49 = .ok (.iload 9, 2) := by decide +kernel
theorem dX1_startsFor_51 : decode cX1_startsFor 51 = .ok (.invokestatic 94, 3) := by decide +kernel
theorem dX1_startsFor_54 : decode cX1_startsFor 54 = .ok (.lload 5, 2) := by decide +kernel
theorem dX1_startsFor_56 : decode cX1_startsFor 56 = .ok (.land, 1) := by decide +kernel
theorem dX1_startsFor_57 : decode cX1_startsFor 57 = .ok (.lstore 10, 2) := by decide +kernel
theorem dX1_startsFor_59 : decode cX1_startsFor 59 = .ok (.lload 7, 2) := by decide +kernel
theorem dX1_startsFor_61 : decode cX1_startsFor 61 = .ok (.lload 10, 2) := by decide +kernel
theorem dX1_startsFor_63 : decode cX1_startsFor 63 = .ok (.lor, 1) := by decide +kernel
theorem dX1_startsFor_64 : decode cX1_startsFor 64 = .ok (.lstore 7, 2) := by decide +kernel
theorem dX1_startsFor_66 : decode cX1_startsFor 66 = .ok (.iinc 12 1, 3) := by decide +kernel
theorem dX1_startsFor_69 : decode cX1_startsFor 69 = .ok (.goto (-28), 3) := by decide +kernel
theorem dX1_startsFor_72 : decode cX1_startsFor 72 = .ok (.iinc 9 1, 3) := by decide +kernel
theorem dX1_startsFor_75 : decode cX1_startsFor 75 = .ok (.goto (-48), 3) := by decide +kernel
theorem dX1_startsFor_78 : decode cX1_startsFor 78 = .ok (.lload 7, 2) := by decide +kernel
theorem dX1_startsFor_80 : decode cX1_startsFor 80 = .ok (.lreturn, 1) := by decide +kernel
theorem dX1_wetCells_0 : decode cX1_wetCells 0 = .ok (.aload_n 0, 1) := by decide +kernel
theorem dX1_wetCells_1 : decode cX1_wetCells 1 = .ok (.getfield 15, 3) := by decide +kernel
theorem dX1_wetCells_4 : decode cX1_wetCells 4 = .ok (.iload_n 1, 1) := by decide +kernel
theorem dX1_wetCells_5 : decode cX1_wetCells 5 = .ok (.invokevirtual 98, 3) := by decide +kernel
theorem dX1_wetCells_8 : decode cX1_wetCells 8 = .ok (.aload_n 0, 1) := by decide +kernel
theorem dX1_wetCells_9 : decode cX1_wetCells 9 = .ok (.getfield 36, 3) := by decide +kernel
theorem dX1_wetCells_12 : decode cX1_wetCells 12 = .ok (.isub, 1) := by decide +kernel
theorem dX1_wetCells_13 : decode cX1_wetCells 13 = .ok (.iconst 4, 1) := by decide +kernel
theorem dX1_wetCells_14 : decode cX1_wetCells 14 = .ok (.invokestatic 101, 3) := by decide +kernel
theorem dX1_wetCells_17 : decode cX1_wetCells 17 = .ok (.istore_n 2, 1) := by decide +kernel
theorem dX1_wetCells_18 : decode cX1_wetCells 18 = .ok (.iload_n 2, 1) := by decide +kernel
theorem dX1_wetCells_19 : decode cX1_wetCells 19 = .ok (.ifCond .lt 21, 3) := by decide +kernel
theorem dX1_wetCells_22 : decode cX1_wetCells 22 = .ok (.iload_n 2, 1) := by decide +kernel
theorem dX1_wetCells_23 : decode cX1_wetCells 23 = .ok (.aload_n 0, 1) := by decide +kernel
theorem dX1_wetCells_24 : decode cX1_wetCells 24 = .ok (.getfield 9, 3) := by decide +kernel
theorem dX1_wetCells_27 : decode cX1_wetCells 27 = .ok (.arraylength, 1) := by decide +kernel
theorem dX1_wetCells_28 : decode cX1_wetCells 28 = .ok (.if_icmp .ge 12, 3) := by decide +kernel
theorem dX1_wetCells_31 : decode cX1_wetCells 31 = .ok (.aload_n 0, 1) := by decide +kernel
theorem dX1_wetCells_32 : decode cX1_wetCells 32 = .ok (.getfield 9, 3) := by decide +kernel
theorem dX1_wetCells_35 : decode cX1_wetCells 35 = .ok (.iload_n 2, 1) := by decide +kernel
theorem dX1_wetCells_36 : decode cX1_wetCells 36 = .ok (.laload, 1) := by decide +kernel
theorem dX1_wetCells_37 : decode cX1_wetCells 37 = .ok (.goto 4, 3) := by decide +kernel
theorem dX1_wetCells_40 : decode cX1_wetCells 40 = .ok (.lconst 0, 1) := by decide +kernel
theorem dX1_wetCells_41 : decode cX1_wetCells 41 = .ok (.lreturn, 1) := by decide +kernel
theorem dX1_wreckingCells_0 : decode cX1_wreckingCells 0 = .ok (.aload_n 0, 1) := by decide +kernel
theorem dX1_wreckingCells_1 : decode cX1_wreckingCells 1 = .ok (.getfield 54, 3) := by decide +kernel
theorem dX1_wreckingCells_4 : decode cX1_wreckingCells 4 = .ok (.aload_n 0, 1) := by decide +kernel
theorem dX1_wreckingCells_5 : decode cX1_wreckingCells 5 = .ok (.iload_n 1, 1) := by decide +kernel
theorem dX1_wreckingCells_6 : decode cX1_wreckingCells 6 = .ok (.invokevirtual 72, 3) := by decide +kernel
theorem dX1_wreckingCells_9 : decode cX1_wreckingCells 9 = .ok (.land, 1) := by decide +kernel
theorem dX1_wreckingCells_10 : decode cX1_wreckingCells 10 = .ok (.aload_n 0, 1) := by decide +kernel
theorem dX1_wreckingCells_11 : decode cX1_wreckingCells 11 = .ok (.iload_n 1, 1) := by decide +kernel
theorem dX1_wreckingCells_12 : decode cX1_wreckingCells 12 = .ok (.iconst 1, 1) := by decide +kernel
theorem dX1_wreckingCells_13 : decode cX1_wreckingCells 13 = .ok (.iadd, 1) := by decide +kernel
theorem dX1_wreckingCells_14 : decode cX1_wreckingCells 14 = .ok (.invokevirtual 72, 3) := by decide +kernel
theorem dX1_wreckingCells_17 : decode cX1_wreckingCells 17 = .ok (.ldc2_w 82, 3) := by decide +kernel
theorem dX1_wreckingCells_20 : decode cX1_wreckingCells 20 = .ok (.lxor, 1) := by decide +kernel
theorem dX1_wreckingCells_21 : decode cX1_wreckingCells 21 = .ok (.land, 1) := by decide +kernel
theorem dX1_wreckingCells_22 : decode cX1_wreckingCells 22 = .ok (.lreturn, 1) := by decide +kernel
theorem dX1_setOf_0 : decode cX1_setOf 0 = .ok (.iload_n 0, 1) := by decide +kernel
theorem dX1_setOf_1 : decode cX1_setOf 1 = .ok (.invokestatic 104, 3) := by decide +kernel
theorem dX1_setOf_4 : decode cX1_setOf 4 = .ok (.ifCond .eq 9, 3) := by decide +kernel
theorem dX1_setOf_7 : decode cX1_setOf 7 = .ok (.lconst 1, 1) := by decide +kernel
theorem dX1_setOf_8 : decode cX1_setOf 8 = .ok (.iload_n 0, 1) := by decide +kernel
theorem dX1_setOf_9 : decode cX1_setOf 9 = .ok (.lshl, 1) := by decide +kernel
theorem dX1_setOf_10 : decode cX1_setOf 10 = .ok (.goto 4, 3) := by decide +kernel
theorem dX1_setOf_13 : decode cX1_setOf 13 = .ok (.lconst 0, 1) := by decide +kernel
theorem dX1_setOf_14 : decode cX1_setOf 14 = .ok (.lreturn, 1) := by decide +kernel
theorem dX1_beside_0 : decode cX1_beside 0 = .ok (.iload_n 2, 1) := by decide +kernel
theorem dX1_beside_1 : decode cX1_beside 1 = .ok (.tableswitch 61 0 3 #[31, 39, 48, 56], 31) := by decide +kernel
theorem dX1_beside_32 : decode cX1_beside 32 = .ok (.lload_n 0, 1) := by decide +kernel
theorem dX1_beside_33 : decode cX1_beside 33 = .ok (.ldc2_w 108, 3) := by decide +kernel
theorem dX1_beside_36 : decode cX1_beside 36 = .ok (.land, 1) := by decide +kernel
theorem dX1_beside_37 : decode cX1_beside 37 = .ok (.iconst 1, 1) := by decide +kernel
theorem dX1_beside_38 : decode cX1_beside 38 = .ok (.lshl, 1) := by decide +kernel
theorem dX1_beside_39 : decode cX1_beside 39 = .ok (.lreturn, 1) := by decide +kernel
theorem dX1_beside_40 : decode cX1_beside 40 = .ok (.lload_n 0, 1) := by decide +kernel
theorem dX1_beside_41 : decode cX1_beside 41 = .ok (.bipush 6, 2) := by decide +kernel
theorem dX1_beside_43 : decode cX1_beside 43 = .ok (.lshl, 1) := by decide +kernel
theorem dX1_beside_44 : decode cX1_beside 44 = .ok (.ldc2_w 110, 3) := by decide +kernel
theorem dX1_beside_47 : decode cX1_beside 47 = .ok (.land, 1) := by decide +kernel
theorem dX1_beside_48 : decode cX1_beside 48 = .ok (.lreturn, 1) := by decide +kernel
theorem dX1_beside_49 : decode cX1_beside 49 = .ok (.lload_n 0, 1) := by decide +kernel
theorem dX1_beside_50 : decode cX1_beside 50 = .ok (.ldc2_w 112, 3) := by decide +kernel
theorem dX1_beside_53 : decode cX1_beside 53 = .ok (.land, 1) := by decide +kernel
theorem dX1_beside_54 : decode cX1_beside 54 = .ok (.iconst 1, 1) := by decide +kernel
theorem dX1_beside_55 : decode cX1_beside 55 = .ok (.lushr, 1) := by decide +kernel
theorem dX1_beside_56 : decode cX1_beside 56 = .ok (.lreturn, 1) := by decide +kernel
theorem dX1_beside_57 : decode cX1_beside 57 = .ok (.lload_n 0, 1) := by decide +kernel
theorem dX1_beside_58 : decode cX1_beside 58 = .ok (.bipush 6, 2) := by decide +kernel
theorem dX1_beside_60 : decode cX1_beside 60 = .ok (.lushr, 1) := by decide +kernel
theorem dX1_beside_61 : decode cX1_beside 61 = .ok (.lreturn, 1) := by decide +kernel
theorem dX1_beside_62 : decode cX1_beside 62 = .ok (.lconst 0, 1) := by decide +kernel
theorem dX1_beside_63 : decode cX1_beside 63 = .ok (.lreturn, 1) := by decide +kernel
theorem dX2_init_0 : decode cX2_init 0 = .ok (.aload_n 0, 1) := by decide +kernel
theorem dX2_init_1 : decode cX2_init 1 = .ok (.invokespecial 3, 3) := by decide +kernel
theorem dX2_init_4 : decode cX2_init 4 = .ok (.aload_n 0, 1) := by decide +kernel
theorem dX2_init_5 : decode cX2_init 5 = .ok (.bipush 60, 2) := by decide +kernel
theorem dX2_init_7 : decode cX2_init 7 = .ok (.newarray .char, 2) := by decide +kernel
theorem dX2_init_9 : decode cX2_init 9 = .ok (.putfield 9, 3) := by decide +kernel
theorem dX2_init_12 : decode cX2_init 12 = .ok (.return_, 1) := by decide +kernel
theorem dX3_init_0 : decode cX3_init 0 = .ok (.aload_n 0, 1) := by decide +kernel
theorem dX3_init_1 : decode cX3_init 1 = .ok (.invokespecial 3, 3) := by decide +kernel
theorem dX3_init_4 : decode cX3_init 4 = .ok (.aload_n 0, 1) := by decide +kernel
theorem dX3_init_5 : decode cX3_init 5 = .ok (.aload_n 1, 1) := by decide +kernel
theorem dX3_init_6 : decode cX3_init 6 = .ok (.putfield 9, 3) := by decide +kernel
theorem dX3_init_9 : decode cX3_init 9 = .ok (.return_, 1) := by decide +kernel
theorem dX3_laySand_0 : decode cX3_laySand 0 = .ok (.iload_n 1, 1) := by decide +kernel
theorem dX3_laySand_1 : decode cX3_laySand 1 = .ok (.invokestatic 15, 3) := by decide +kernel
theorem dX3_laySand_4 : decode cX3_laySand 4 = .ok (.ifCond .ne 5, 3) := by decide +kernel
theorem dX3_laySand_7 : decode cX3_laySand 7 = .ok (.iconst (-1), 1) := by decide +kernel
theorem dX3_laySand_8 : decode cX3_laySand 8 = .ok (.ireturn, 1) := by decide +kernel
theorem dX3_laySand_9 : decode cX3_laySand 9 = .ok (.iload_n 2, 1) := by decide +kernel
theorem dX3_laySand_10 : decode cX3_laySand 10 = .ok (.ifCond .lt 8, 3) := by decide +kernel
theorem dX3_laySand_13 : decode cX3_laySand 13 = .ok (.iload_n 2, 1) := by decide +kernel
theorem dX3_laySand_14 : decode cX3_laySand 14 = .ok (.iconst 4, 1) := by decide +kernel
theorem dX3_laySand_15 : decode cX3_laySand 15 = .ok (.if_icmp .le 6, 3) := by decide +kernel
theorem dX3_laySand_18 : decode cX3_laySand 18 = .ok (.bipush (-2), 2) := by decide +kernel
theorem dX3_laySand_20 : decode cX3_laySand 20 = .ok (.ireturn, 1) := by decide +kernel
theorem dX3_laySand_21 : decode cX3_laySand 21 = .ok (.iload_n 1, 1) := by decide +kernel
theorem dX3_laySand_22 : decode cX3_laySand 22 = .ok (.invokestatic 19, 3) := by decide +kernel
theorem dX3_laySand_25 : decode cX3_laySand 25 = .ok (.ifCond .ne 13, 3) := by decide +kernel
theorem dX3_laySand_28 : decode cX3_laySand 28 = .ok (.aload_n 0, 1) := by decide +kernel
theorem dX3_laySand_29 : decode cX3_laySand 29 = .ok (.getfield 9, 3) := by decide +kernel
theorem dX3_laySand_32 : decode cX3_laySand 32 = .ok (.getfield 22, 3) := by decide +kernel
theorem dX3_laySand_35 : decode cX3_laySand 35 = .ok (.ifCond .eq 6, 3) := by decide +kernel
theorem dX3_laySand_38 : decode cX3_laySand 38 = .ok (.bipush (-4), 2) := by decide +kernel
theorem dX3_laySand_40 : decode cX3_laySand 40 = .ok (.ireturn, 1) := by decide +kernel
theorem dX3_laySand_41 : decode cX3_laySand 41 = .ok (.iload_n 3, 1) := by decide +kernel
theorem dX3_laySand_42 : decode cX3_laySand 42 = .ok (.ifCond .eq 7, 3) := by decide +kernel
theorem dX3_laySand_45 : decode cX3_laySand 45 = .ok (.iconst 1, 1) := by decide +kernel
theorem dX3_laySand_46 : decode cX3_laySand 46 = .ok (.goto 4, 3) := by decide +kernel
theorem dX3_laySand_49 : decode cX3_laySand 49 = .ok (.iconst 0, 1) := by decide +kernel
theorem dX3_laySand_50 : decode cX3_laySand 50 = .ok (.istore 4, 2) := by decide +kernel
theorem dX3_laySand_52 : decode cX3_laySand 52 = .ok (.aload_n 0, 1) := by decide +kernel
theorem dX3_laySand_53 : decode cX3_laySand 53 = .ok (.getfield 9, 3) := by decide +kernel
theorem dX3_laySand_56 : decode cX3_laySand 56 = .ok (.getfield 28, 3) := by decide +kernel
theorem dX3_laySand_59 : decode cX3_laySand 59 = .ok (.iload_n 1, 1) := by decide +kernel
theorem dX3_laySand_60 : decode cX3_laySand 60 = .ok (.invokestatic 32, 3) := by decide +kernel
theorem dX3_laySand_63 : decode cX3_laySand 63 = .ok (.istore 5, 2) := by decide +kernel
theorem dX3_laySand_65 : decode cX3_laySand 65 = .ok (.iload 5, 2) := by decide +kernel
theorem dX3_laySand_67 : decode cX3_laySand 67 = .ok (.iload_n 2, 1) := by decide +kernel
theorem dX3_laySand_68 : decode cX3_laySand 68 = .ok (.if_icmp .ne 22, 3) := by decide +kernel
theorem dX3_laySand_71 : decode cX3_laySand 71 = .ok (.aload_n 0, 1) := by decide +kernel
theorem dX3_laySand_72 : decode cX3_laySand 72 = .ok (.getfield 9, 3) := by decide +kernel
theorem dX3_laySand_75 : decode cX3_laySand 75 = .ok (.getfield 36, 3) := by decide +kernel
theorem dX3_laySand_78 : decode cX3_laySand 78 = .ok (.iload_n 1, 1) := by decide +kernel
theorem dX3_laySand_79 : decode cX3_laySand 79 = .ok (.invokestatic 32, 3) := by decide +kernel
theorem dX3_laySand_82 : decode cX3_laySand 82 = .ok (.iload 4, 2) := by decide +kernel
theorem dX3_laySand_84 : decode cX3_laySand 84 = .ok (.if_icmp .ne 6, 3) := by decide +kernel
theorem dX3_laySand_87 : decode cX3_laySand 87 = .ok (.bipush (-5), 2) := by decide +kernel
theorem dX3_laySand_89 : decode cX3_laySand 89 = .ok (.ireturn, 1) := by decide +kernel
theorem dX3_laySand_90 : decode cX3_laySand 90 = .ok (.aload_n 0, 1) := by decide +kernel
theorem dX3_laySand_91 : decode cX3_laySand 91 = .ok (.getfield 9, 3) := by decide +kernel
theorem dX3_laySand_94 : decode cX3_laySand 94 = .ok (.getfield 28, 3) := by decide +kernel
theorem dX3_laySand_97 : decode cX3_laySand 97 = .ok (.iload_n 1, 1) := by decide +kernel
theorem dX3_laySand_98 : decode cX3_laySand 98 = .ok (.iload_n 2, 1) := by decide +kernel
theorem dX3_laySand_99 : decode cX3_laySand 99 = .ok (.invokestatic 39, 3) := by decide +kernel
theorem dX3_laySand_102 : decode cX3_laySand 102 = .ok (.aload_n 0, 1) := by decide +kernel
theorem dX3_laySand_103 : decode cX3_laySand 103 = .ok (.getfield 9, 3) := by decide +kernel
theorem dX3_laySand_106 : decode cX3_laySand 106 = .ok (.getfield 36, 3) := by decide +kernel
theorem dX3_laySand_109 : decode cX3_laySand 109 = .ok (.iload_n 1, 1) := by decide +kernel
theorem dX3_laySand_110 : decode cX3_laySand 110 = .ok (.iload 4, 2) := by decide +kernel
theorem dX3_laySand_112 : decode cX3_laySand 112 = .ok (.invokestatic 39, 3) := by decide +kernel
theorem dX3_laySand_115 : decode cX3_laySand 115 = .ok (.iload 5, 2) := by decide +kernel
theorem dX3_laySand_117 : decode cX3_laySand 117 = .ok (.ireturn, 1) := by decide +kernel
theorem dX3_addBoat_0 : decode cX3_addBoat 0 = .ok (.iload_n 1, 1) := by decide +kernel
theorem dX3_addBoat_1 : decode cX3_addBoat 1 = .ok (.invokestatic 43, 3) := by decide +kernel
theorem dX3_addBoat_4 : decode cX3_addBoat 4 = .ok (.ifCond .eq 10, 3) := by decide +kernel
theorem dX3_addBoat_7 : decode cX3_addBoat 7 = .ok (.iload_n 3, 1) := by decide +kernel
theorem dX3_addBoat_8 : decode cX3_addBoat 8 = .ok (.invokestatic 15, 3) := by decide +kernel
theorem dX3_addBoat_11 : decode cX3_addBoat 11 = .ok (.ifCond .ne 5, 3) := by decide +kernel
theorem dX3_addBoat_14 : decode cX3_addBoat 14 = .ok (.iconst (-1), 1) := by decide +kernel
theorem dX3_addBoat_15 : decode cX3_addBoat 15 = .ok (.ireturn, 1) := by decide +kernel
theorem dX3_addBoat_16 : decode cX3_addBoat 16 = .ok (.iload_n 2, 1) := by decide +kernel
theorem dX3_addBoat_17 : decode cX3_addBoat 17 = .ok (.invokestatic 46, 3) := by decide +kernel
theorem dX3_addBoat_20 : decode cX3_addBoat 20 = .ok (.ifCond .ne 6, 3) := by decide +kernel
theorem dX3_addBoat_23 : decode cX3_addBoat 23 = .ok (.bipush (-2), 2) := by decide +kernel
theorem dX3_addBoat_25 : decode cX3_addBoat 25 = .ok (.ireturn, 1) := by decide +kernel
theorem dX3_addBoat_26 : decode cX3_addBoat 26 = .ok (.aload_n 0, 1) := by decide +kernel
theorem dX3_addBoat_27 : decode cX3_addBoat 27 = .ok (.getfield 9, 3) := by decide +kernel
theorem dX3_addBoat_30 : decode cX3_addBoat 30 = .ok (.getfield 22, 3) := by decide +kernel
theorem dX3_addBoat_33 : decode cX3_addBoat 33 = .ok (.ifCond .ne 23, 3) := by decide +kernel
theorem dX3_addBoat_36 : decode cX3_addBoat 36 = .ok (.iload_n 3, 1) := by decide +kernel
theorem dX3_addBoat_37 : decode cX3_addBoat 37 = .ok (.invokestatic 19, 3) := by decide +kernel
theorem dX3_addBoat_40 : decode cX3_addBoat 40 = .ok (.ifCond .ne 16, 3) := by decide +kernel
theorem dX3_addBoat_43 : decode cX3_addBoat 43 = .ok (.aload_n 0, 1) := by decide +kernel
theorem dX3_addBoat_44 : decode cX3_addBoat 44 = .ok (.getfield 9, 3) := by decide +kernel
theorem dX3_addBoat_47 : decode cX3_addBoat 47 = .ok (.iload_n 3, 1) := by decide +kernel
theorem dX3_addBoat_48 : decode cX3_addBoat 48 = .ok (.invokevirtual 49, 3) := by decide +kernel
theorem dX3_addBoat_51 : decode cX3_addBoat 51 = .ok (.bipush (-5), 2) := by decide +kernel
theorem dX3_addBoat_53 : decode cX3_addBoat 53 = .ok (.if_icmp .eq 6, 3) := by decide +kernel
theorem dX3_addBoat_56 : decode cX3_addBoat 56 = .ok (.bipush (-4), 2) := by decide +kernel
theorem dX3_addBoat_58 : decode cX3_addBoat 58 = .ok (.ireturn, 1) := by decide +kernel
theorem dX3_addBoat_59 : decode cX3_addBoat 59 = .ok (.aload_n 0, 1) := by decide +kernel
theorem dX3_addBoat_60 : decode cX3_addBoat 60 = .ok (.getfield 9, 3) := by decide +kernel
theorem dX3_addBoat_63 : decode cX3_addBoat 63 = .ok (.getfield 53, 3) := by decide +kernel
theorem dX3_addBoat_66 : decode cX3_addBoat 66 = .ok (.istore 4, 2) := by decide +kernel
theorem dX3_addBoat_68 : decode cX3_addBoat 68 = .ok (.iload 4, 2) := by decide +kernel
theorem dX3_addBoat_70 : decode cX3_addBoat 70 = .ok (.bipush 10, 2) := by decide +kernel
theorem dX3_addBoat_72 : decode cX3_addBoat 72 = .ok (.if_icmp .lt 6, 3) := by decide +kernel
theorem dX3_addBoat_75 : decode cX3_addBoat 75 = .ok (.bipush (-3), 2) := by decide +kernel
theorem dX3_addBoat_77 : decode cX3_addBoat 77 = .ok (.ireturn, 1) := by decide +kernel
theorem dX3_addBoat_78 : decode cX3_addBoat 78 = .ok (.aload_n 0, 1) := by decide +kernel
theorem dX3_addBoat_79 : decode cX3_addBoat 79 = .ok (.getfield 9, 3) := by decide +kernel
theorem dX3_addBoat_82 : decode cX3_addBoat 82 = .ok (.getfield 56, 3) := by decide +kernel
theorem dX3_addBoat_85 : decode cX3_addBoat 85 = .ok (.iload 4, 2) := by decide +kernel
theorem dX3_addBoat_87 : decode cX3_addBoat 87 = .ok (.iload_n 1, 1) := by decide +kernel
theorem dX3_addBoat_88 : decode cX3_addBoat 88 = .ok (.invokestatic 39, 3) := by decide +kernel
theorem dX3_addBoat_91 : decode cX3_addBoat 91 = .ok (.aload_n 0, 1) := by decide +kernel
theorem dX3_addBoat_92 : decode cX3_addBoat 92 = .ok (.getfield 9, 3) := by decide +kernel
theorem dX3_addBoat_95 : decode cX3_addBoat 95 = .ok (.getfield 59, 3) := by decide +kernel
theorem dX3_addBoat_98 : decode cX3_addBoat 98 = .ok (.iload 4, 2) := by decide +kernel
theorem dX3_addBoat_100 : decode cX3_addBoat 100 = .ok (.iload_n 2, 1) := by decide +kernel
theorem dX3_addBoat_101 : decode cX3_addBoat 101 = .ok (.invokestatic 39, 3) := by decide +kernel
theorem dX3_addBoat_104 : decode cX3_addBoat 104 = .ok (.aload_n 0, 1) := by decide +kernel
theorem dX3_addBoat_105 : decode cX3_addBoat 105 = .ok (.getfield 9, 3) := by decide +kernel
theorem dX3_addBoat_108 : decode cX3_addBoat 108 = .ok (.getfield 62, 3) := by decide +kernel
theorem dX3_addBoat_111 : decode cX3_addBoat 111 = .ok (.iload 4, 2) := by decide +kernel
theorem dX3_addBoat_113 : decode cX3_addBoat 113 = .ok (.iconst 0, 1) := by decide +kernel
theorem dX3_addBoat_114 : decode cX3_addBoat 114 = .ok (.invokestatic 39, 3) := by decide +kernel
theorem dX3_addBoat_117 : decode cX3_addBoat 117 = .ok (.aload_n 0, 1) := by decide +kernel
theorem dX3_addBoat_118 : decode cX3_addBoat 118 = .ok (.getfield 9, 3) := by decide +kernel
theorem dX3_addBoat_121 : decode cX3_addBoat 121 = .ok (.getfield 65, 3) := by decide +kernel
theorem dX3_addBoat_124 : decode cX3_addBoat 124 = .ok (.iload 4, 2) := by decide +kernel
theorem dX3_addBoat_126 : decode cX3_addBoat 126 = .ok (.iload_n 3, 1) := by decide +kernel
theorem dX3_addBoat_127 : decode cX3_addBoat 127 = .ok (.invokestatic 39, 3) := by decide +kernel
theorem dX3_addBoat_130 : decode cX3_addBoat 130 = .ok (.aload_n 0, 1) := by decide +kernel
theorem dX3_addBoat_131 : decode cX3_addBoat 131 = .ok (.getfield 9, 3) := by decide +kernel
theorem dX3_addBoat_134 : decode cX3_addBoat 134 = .ok (.getfield 68, 3) := by decide +kernel
theorem dX3_addBoat_137 : decode cX3_addBoat 137 = .ok (.iload 4, 2) := by decide +kernel
theorem dX3_addBoat_139 : decode cX3_addBoat 139 = .ok (.iconst 0, 1) := by decide +kernel
theorem dX3_addBoat_140 : decode cX3_addBoat 140 = .ok (.invokestatic 39, 3) := by decide +kernel
theorem dX3_addBoat_143 : decode cX3_addBoat 143 = .ok (.aload_n 0, 1) := by decide +kernel
theorem dX3_addBoat_144 : decode cX3_addBoat 144 = .ok (.getfield 9, 3) := by decide +kernel
theorem dX3_addBoat_147 : decode cX3_addBoat 147 = .ok (.iload 4, 2) := by decide +kernel
theorem dX3_addBoat_149 : decode cX3_addBoat 149 = .ok (.iconst 1, 1) := by decide +kernel
theorem dX3_addBoat_150 : decode cX3_addBoat 150 = .ok (.iadd, 1) := by decide +kernel
theorem dX3_addBoat_151 : decode cX3_addBoat 151 = .ok (.putfield 53, 3) := by decide +kernel
theorem dX3_addBoat_154 : decode cX3_addBoat 154 = .ok (.iload 4, 2) := by decide +kernel
theorem dX3_addBoat_156 : decode cX3_addBoat 156 = .ok (.ireturn, 1) := by decide +kernel
theorem dX3_changeSetting_0 : decode cX3_changeSetting 0 = .ok (.iload_n 1, 1) := by decide +kernel
theorem dX3_changeSetting_1 : decode cX3_changeSetting 1 = .ok (.ifCond .lt 8, 3) := by decide +kernel
theorem dX3_changeSetting_4 : decode cX3_changeSetting 4 = .ok (.iload_n 1, 1) := by decide +kernel
theorem dX3_changeSetting_5 : decode cX3_changeSetting 5 = .ok (.iconst 4, 1) := by decide +kernel
theorem dX3_changeSetting_6 : decode cX3_changeSetting 6 = .ok (.if_icmp .lt 6, 3) := by decide +kernel
theorem dX3_changeSetting_9 : decode cX3_changeSetting 9 = .ok (.bipush (-2), 2) := by decide +kernel
theorem dX3_changeSetting_11 : decode cX3_changeSetting 11 = .ok (.ireturn, 1) := by decide +kernel
theorem dX3_changeSetting_12 : decode cX3_changeSetting 12 = .ok (.iload_n 2, 1) := by decide +kernel
theorem dX3_changeSetting_13 : decode cX3_changeSetting 13 = .ok (.getstatic 71, 3) := by decide +kernel
theorem dX3_changeSetting_16 : decode cX3_changeSetting 16 = .ok (.iload_n 1, 1) := by decide +kernel
theorem dX3_changeSetting_17 : decode cX3_changeSetting 17 = .ok (.invokestatic 32, 3) := by decide +kernel
theorem dX3_changeSetting_20 : decode cX3_changeSetting 20 = .ok (.if_icmp .lt 14, 3) := by decide +kernel
theorem dX3_changeSetting_23 : decode cX3_changeSetting 23 = .ok (.iload_n 2, 1) := by decide +kernel
theorem dX3_changeSetting_24 : decode cX3_changeSetting 24 = .ok (.getstatic 74, 3) := by decide +kernel
theorem dX3_changeSetting_27 : decode cX3_changeSetting 27 = .ok (.iload_n 1, 1) := by decide +kernel
theorem dX3_changeSetting_28 : decode cX3_changeSetting 28 = .ok (.invokestatic 32, 3) := by decide +kernel
theorem dX3_changeSetting_31 : decode cX3_changeSetting 31 = .ok (.if_icmp .le 6, 3) := by decide +kernel
theorem dX3_changeSetting_34 : decode cX3_changeSetting 34 = .ok (.bipush (-2), 2) := by decide +kernel
theorem dX3_changeSetting_36 : decode cX3_changeSetting 36 = .ok (.ireturn, 1) := by decide +kernel
theorem dX3_changeSetting_37 : decode cX3_changeSetting 37 = .ok (.aload_n 0, 1) := by decide +kernel
theorem dX3_changeSetting_38 : decode cX3_changeSetting 38 = .ok (.getfield 9, 3) := by decide +kernel
theorem dX3_changeSetting_41 : decode cX3_changeSetting 41 = .ok (.getfield 22, 3) := by decide +kernel
theorem dX3_changeSetting_44 : decode cX3_changeSetting 44 = .ok (.ifCond .eq 6, 3) := by decide +kernel
theorem dX3_changeSetting_47 : decode cX3_changeSetting 47 = .ok (.bipush (-4), 2) := by decide +kernel
theorem dX3_changeSetting_49 : decode cX3_changeSetting 49 = .ok (.ireturn, 1) := by decide +kernel
theorem dX3_changeSetting_50 : decode cX3_changeSetting 50 = .ok (.aload_n 0, 1) := by decide +kernel
theorem dX3_changeSetting_51 : decode cX3_changeSetting 51 = .ok (.getfield 9, 3) := by decide +kernel
theorem dX3_changeSetting_54 : decode cX3_changeSetting 54 = .ok (.iload_n 1, 1) := by decide +kernel
theorem dX3_changeSetting_55 : decode cX3_changeSetting 55 = .ok (.invokevirtual 77, 3) := by decide +kernel
theorem dX3_changeSetting_58 : decode cX3_changeSetting 58 = .ok (.istore_n 3, 1) := by decide +kernel
theorem dX3_changeSetting_59 : decode cX3_changeSetting 59 = .ok (.iload_n 3, 1) := by decide +kernel
theorem dX3_changeSetting_60 : decode cX3_changeSetting 60 = .ok (.iload_n 2, 1) := by decide +kernel
theorem dX3_changeSetting_61 : decode cX3_changeSetting 61 = .ok (.if_icmp .ne 6, 3) := by decide +kernel
theorem dX3_changeSetting_64 : decode cX3_changeSetting 64 = .ok (.bipush (-5), 2) := by decide +kernel
theorem dX3_changeSetting_66 : decode cX3_changeSetting 66 = .ok (.ireturn, 1) := by decide +kernel
theorem dX3_changeSetting_67 : decode cX3_changeSetting 67 = .ok (.aload_n 0, 1) := by decide +kernel
theorem dX3_changeSetting_68 : decode cX3_changeSetting 68 = .ok (.getfield 9, 3) := by decide +kernel
theorem dX3_changeSetting_71 : decode cX3_changeSetting 71 = .ok (.iload_n 1, 1) := by decide +kernel
theorem dX3_changeSetting_72 : decode cX3_changeSetting 72 = .ok (.iload_n 2, 1) := by decide +kernel
theorem dX3_changeSetting_73 : decode cX3_changeSetting 73 = .ok (.invokevirtual 80, 3) := by decide +kernel
theorem dX3_changeSetting_76 : decode cX3_changeSetting 76 = .ok (.iload_n 3, 1) := by decide +kernel
theorem dX3_changeSetting_77 : decode cX3_changeSetting 77 = .ok (.ireturn, 1) := by decide +kernel
theorem dX3_sail_0 : decode cX3_sail 0 = .ok (.aload_n 0, 1) := by decide +kernel
theorem dX3_sail_1 : decode cX3_sail 1 = .ok (.iload_n 1, 1) := by decide +kernel
theorem dX3_sail_2 : decode cX3_sail 2 = .ok (.iload_n 2, 1) := by decide +kernel
theorem dX3_sail_3 : decode cX3_sail 3 = .ok (.iload_n 3, 1) := by decide +kernel
theorem dX3_sail_4 : decode cX3_sail 4 = .ok (.invokevirtual 84, 3) := by decide +kernel
theorem dX3_sail_7 : decode cX3_sail 7 = .ok (.istore 4, 2) := by decide +kernel
theorem dX3_sail_9 : decode cX3_sail 9 = .ok (.iload 4, 2) := by decide +kernel
theorem dX3_sail_11 : decode cX3_sail 11 = .ok (.ifCond .eq 6, 3) := by decide +kernel
theorem dX3_sail_14 : decode cX3_sail 14 = .ok (.iload 4, 2) := by decide +kernel
theorem dX3_sail_16 : decode cX3_sail 16 = .ok (.ireturn, 1) := by decide +kernel
theorem dX3_sail_17 : decode cX3_sail 17 = .ok (.aload_n 0, 1) := by decide +kernel
theorem dX3_sail_18 : decode cX3_sail 18 = .ok (.iload_n 1, 1) := by decide +kernel
theorem dX3_sail_19 : decode cX3_sail 19 = .ok (.iload_n 2, 1) := by decide +kernel
theorem dX3_sail_20 : decode cX3_sail 20 = .ok (.iload_n 3, 1) := by decide +kernel
theorem dX3_sail_21 : decode cX3_sail 21 = .ok (.iconst 0, 1) := by decide +kernel
theorem dX3_sail_22 : decode cX3_sail 22 = .ok (.invokevirtual 88, 3) := by decide +kernel
theorem dX3_sail_25 : decode cX3_sail 25 = .ok (.istore 5, 2) := by decide +kernel
theorem dX3_sail_27 : decode cX3_sail 27 = .ok (.iload 5, 2) := by decide +kernel
theorem dX3_sail_29 : decode cX3_sail 29 = .ok (.ifCond .eq 9, 3) := by decide +kernel
theorem dX3_sail_32 : decode cX3_sail 32 = .ok (.bipush (-10), 2) := by decide +kernel
theorem dX3_sail_34 : decode cX3_sail 34 = .ok (.iload 5, 2) := by decide +kernel
theorem dX3_sail_36 : decode cX3_sail 36 = .ok (.isub, 1) := by decide +kernel
theorem dX3_sail_37 : decode cX3_sail 37 = .ok (.ireturn, 1) := by decide +kernel
theorem dX3_sail_38 : decode cX3_sail 38 = .ok (.aload_n 0, 1) := by decide +kernel
theorem dX3_sail_39 : decode cX3_sail 39 = .ok (.getfield 9, 3) := by decide +kernel
theorem dX3_sail_42 : decode cX3_sail 42 = .ok (.getfield 65, 3) := by decide +kernel
theorem dX3_sail_45 : decode cX3_sail 45 = .ok (.iload_n 1, 1) := by decide +kernel
theorem dX3_sail_46 : decode cX3_sail 46 = .ok (.invokestatic 32, 3) := by decide +kernel
theorem dX3_sail_49 : decode cX3_sail 49 = .ok (.iload_n 2, 1) := by decide +kernel
theorem dX3_sail_50 : decode cX3_sail 50 = .ok (.iload_n 3, 1) := by decide +kernel
theorem dX3_sail_51 : decode cX3_sail 51 = .ok (.invokestatic 92, 3) := by decide +kernel
theorem dX3_sail_54 : decode cX3_sail 54 = .ok (.istore 6, 2) := by decide +kernel
theorem dX3_sail_56 : decode cX3_sail 56 = .ok (.aload_n 0, 1) := by decide +kernel
theorem dX3_sail_57 : decode cX3_sail 57 = .ok (.aload_n 0, 1) := by decide +kernel
theorem dX3_sail_58 : decode cX3_sail 58 = .ok (.getfield 9, 3) := by decide +kernel
theorem dX3_sail_61 : decode cX3_sail 61 = .ok (.iload 6, 2) := by decide +kernel
theorem dX3_sail_63 : decode cX3_sail 63 = .ok (.invokevirtual 49, 3) := by decide +kernel
theorem dX3_sail_66 : decode cX3_sail 66 = .ok (.invokevirtual 95, 3) := by decide +kernel
theorem dX3_sail_69 : decode cX3_sail 69 = .ok (.istore 7, 2) := by decide +kernel
theorem dX3_sail_71 : decode cX3_sail 71 = .ok (.aload_n 0, 1) := by decide +kernel
theorem dX3_sail_72 : decode cX3_sail 72 = .ok (.getfield 9, 3) := by decide +kernel
theorem dX3_sail_75 : decode cX3_sail 75 = .ok (.getfield 68, 3) := by decide +kernel
theorem dX3_sail_78 : decode cX3_sail 78 = .ok (.iload_n 1, 1) := by decide +kernel
theorem dX3_sail_79 : decode cX3_sail 79 = .ok (.aload_n 0, 1) := by decide +kernel
theorem dX3_sail_80 : decode cX3_sail 80 = .ok (.getfield 9, 3) := by decide +kernel
theorem dX3_sail_83 : decode cX3_sail 83 = .ok (.getfield 68, 3) := by decide +kernel
theorem dX3_sail_86 : decode cX3_sail 86 = .ok (.iload_n 1, 1) := by decide +kernel
theorem dX3_sail_87 : decode cX3_sail 87 = .ok (.invokestatic 32, 3) := by decide +kernel
theorem dX3_sail_90 : decode cX3_sail 90 = .ok (.iload_n 3, 1) := by decide +kernel
theorem dX3_sail_91 : decode cX3_sail 91 = .ok (.iadd, 1) := by decide +kernel
theorem dX3_sail_92 : decode cX3_sail 92 = .ok (.invokestatic 39, 3) := by decide +kernel
theorem dX3_sail_95 : decode cX3_sail 95 = .ok (.aload_n 0, 1) := by decide +kernel
theorem dX3_sail_96 : decode cX3_sail 96 = .ok (.getfield 9, 3) := by decide +kernel
theorem dX3_sail_99 : decode cX3_sail 99 = .ok (.getfield 65, 3) := by decide +kernel
theorem dX3_sail_102 : decode cX3_sail 102 = .ok (.iload_n 1, 1) := by decide +kernel
theorem dX3_sail_103 : decode cX3_sail 103 = .ok (.iload 6, 2) := by decide +kernel
theorem dX3_sail_105 : decode cX3_sail 105 = .ok (.invokestatic 39, 3) := by decide +kernel
theorem dX3_sail_108 : decode cX3_sail 108 = .ok (.iload 6, 2) := by decide +kernel
theorem dX3_sail_110 : decode cX3_sail 110 = .ok (.aload_n 0, 1) := by decide +kernel
theorem dX3_sail_111 : decode cX3_sail 111 = .ok (.getfield 9, 3) := by decide +kernel
theorem dX3_sail_114 : decode cX3_sail 114 = .ok (.getfield 56, 3) := by decide +kernel
theorem dX3_sail_117 : decode cX3_sail 117 = .ok (.iload_n 1, 1) := by decide +kernel
theorem dX3_sail_118 : decode cX3_sail 118 = .ok (.invokestatic 32, 3) := by decide +kernel
theorem dX3_sail_121 : decode cX3_sail 121 = .ok (.invokestatic 98, 3) := by decide +kernel
theorem dX3_sail_124 : decode cX3_sail 124 = .ok (.if_icmp .ne 15, 3) := by decide +kernel
theorem dX3_sail_127 : decode cX3_sail 127 = .ok (.aload_n 0, 1) := by decide +kernel
theorem dX3_sail_128 : decode cX3_sail 128 = .ok (.getfield 9, 3) := by decide +kernel
theorem dX3_sail_131 : decode cX3_sail 131 = .ok (.getfield 62, 3) := by decide +kernel
theorem dX3_sail_134 : decode cX3_sail 134 = .ok (.iload_n 1, 1) := by decide +kernel
theorem dX3_sail_135 : decode cX3_sail 135 = .ok (.iconst 1, 1) := by decide +kernel
theorem dX3_sail_136 : decode cX3_sail 136 = .ok (.invokestatic 39, 3) := by decide +kernel
theorem dX3_sail_139 : decode cX3_sail 139 = .ok (.aload_n 0, 1) := by decide +kernel
theorem dX3_sail_140 : decode cX3_sail 140 = .ok (.invokevirtual 101, 3) := by decide +kernel
theorem dX3_sail_143 : decode cX3_sail 143 = .ok (.iload 7, 2) := by decide +kernel
theorem dX3_sail_145 : decode cX3_sail 145 = .ok (.ireturn, 1) := by decide +kernel
theorem dX3_waitATurn_0 : decode cX3_waitATurn 0 = .ok (.aload_n 0, 1) := by decide +kernel
theorem dX3_waitATurn_1 : decode cX3_waitATurn 1 = .ok (.getfield 9, 3) := by decide +kernel
theorem dX3_waitATurn_4 : decode cX3_waitATurn 4 = .ok (.invokevirtual 104, 3) := by decide +kernel
theorem dX3_waitATurn_7 : decode cX3_waitATurn 7 = .ok (.ifCond .eq 6, 3) := by decide +kernel
theorem dX3_waitATurn_10 : decode cX3_waitATurn 10 = .ok (.bipush (-4), 2) := by decide +kernel
theorem dX3_waitATurn_12 : decode cX3_waitATurn 12 = .ok (.ireturn, 1) := by decide +kernel
theorem dX3_waitATurn_13 : decode cX3_waitATurn 13 = .ok (.aload_n 0, 1) := by decide +kernel
theorem dX3_waitATurn_14 : decode cX3_waitATurn 14 = .ok (.invokevirtual 101, 3) := by decide +kernel
theorem dX3_waitATurn_17 : decode cX3_waitATurn 17 = .ok (.aload_n 0, 1) := by decide +kernel
theorem dX3_waitATurn_18 : decode cX3_waitATurn 18 = .ok (.getfield 9, 3) := by decide +kernel
theorem dX3_waitATurn_21 : decode cX3_waitATurn 21 = .ok (.aload_n 0, 1) := by decide +kernel
theorem dX3_waitATurn_22 : decode cX3_waitATurn 22 = .ok (.getfield 9, 3) := by decide +kernel
theorem dX3_waitATurn_25 : decode cX3_waitATurn 25 = .ok (.getfield 22, 3) := by decide +kernel
theorem dX3_waitATurn_28 : decode cX3_waitATurn 28 = .ok (.invokevirtual 108, 3) := by decide +kernel
theorem dX3_waitATurn_31 : decode cX3_waitATurn 31 = .ok (.ireturn, 1) := by decide +kernel
theorem dX3_errorOfMove_0 : decode cX3_errorOfMove 0 = .ok (.aload_n 0, 1) := by decide +kernel
theorem dX3_errorOfMove_1 : decode cX3_errorOfMove 1 = .ok (.getfield 9, 3) := by decide +kernel
theorem dX3_errorOfMove_4 : decode cX3_errorOfMove 4 = .ok (.iload_n 1, 1) := by decide +kernel
theorem dX3_errorOfMove_5 : decode cX3_errorOfMove 5 = .ok (.invokevirtual 111, 3) := by decide +kernel
theorem dX3_errorOfMove_8 : decode cX3_errorOfMove 8 = .ok (.ifCond .ne 5, 3) := by decide +kernel
theorem dX3_errorOfMove_11 : decode cX3_errorOfMove 11 = .ok (.iconst (-1), 1) := by decide +kernel
theorem dX3_errorOfMove_12 : decode cX3_errorOfMove 12 = .ok (.ireturn, 1) := by decide +kernel
theorem dX3_errorOfMove_13 : decode cX3_errorOfMove 13 = .ok (.iload_n 2, 1) := by decide +kernel
theorem dX3_errorOfMove_14 : decode cX3_errorOfMove 14 = .ok (.ifCond .lt 18, 3) := by decide +kernel
theorem dX3_errorOfMove_17 : decode cX3_errorOfMove 17 = .ok (.iload_n 2, 1) := by decide +kernel
theorem dX3_errorOfMove_18 : decode cX3_errorOfMove 18 = .ok (.iconst 4, 1) := by decide +kernel
theorem dX3_errorOfMove_19 : decode cX3_errorOfMove 19 = .ok (.if_icmp .ge 13, 3) := by decide +kernel
theorem dX3_errorOfMove_22 : decode cX3_errorOfMove 22 = .ok (.iload_n 3, 1) := by decide +kernel
theorem dX3_errorOfMove_23 : decode cX3_errorOfMove 23 = .ok (.iconst 1, 1) := by decide +kernel
theorem dX3_errorOfMove_24 : decode cX3_errorOfMove 24 = .ok (.if_icmp .lt 8, 3) := by decide +kernel
theorem dX3_errorOfMove_27 : decode cX3_errorOfMove 27 = .ok (.iload_n 3, 1) := by decide +kernel
theorem dX3_errorOfMove_28 : decode cX3_errorOfMove 28 = .ok (.iconst 3, 1) := by decide +kernel
theorem dX3_errorOfMove_29 : decode cX3_errorOfMove 29 = .ok (.if_icmp .le 6, 3) := by decide +kernel
theorem dX3_errorOfMove_32 : decode cX3_errorOfMove 32 = .ok (.bipush (-2), 2) := by decide +kernel
theorem dX3_errorOfMove_34 : decode cX3_errorOfMove 34 = .ok (.ireturn, 1) := by decide +kernel
theorem dX3_errorOfMove_35 : decode cX3_errorOfMove 35 = .ok (.iconst 0, 1) := by decide +kernel
theorem dX3_errorOfMove_36 : decode cX3_errorOfMove 36 = .ok (.ireturn, 1) := by decide +kernel
theorem dX3_reasonAgainst_0 : decode cX3_reasonAgainst 0 = .ok (.aload_n 0, 1) := by decide +kernel
theorem dX3_reasonAgainst_1 : decode cX3_reasonAgainst 1 = .ok (.getfield 9, 3) := by decide +kernel
theorem dX3_reasonAgainst_4 : decode cX3_reasonAgainst 4 = .ok (.invokevirtual 104, 3) := by decide +kernel
theorem dX3_reasonAgainst_7 : decode cX3_reasonAgainst 7 = .ok (.ifCond .eq 5, 3) := by decide +kernel
theorem dX3_reasonAgainst_10 : decode cX3_reasonAgainst 10 = .ok (.iconst 1, 1) := by decide +kernel
theorem dX3_reasonAgainst_11 : decode cX3_reasonAgainst 11 = .ok (.ireturn, 1) := by decide +kernel
theorem dX3_reasonAgainst_12 : decode cX3_reasonAgainst 12 = .ok (.aload_n 0, 1) := by decide +kernel
theorem dX3_reasonAgainst_13 : decode cX3_reasonAgainst 13 = .ok (.getfield 9, 3) := by decide +kernel
theorem dX3_reasonAgainst_16 : decode cX3_reasonAgainst 16 = .ok (.iload_n 1, 1) := by decide +kernel
theorem dX3_reasonAgainst_17 : decode cX3_reasonAgainst 17 = .ok (.invokevirtual 114, 3) := by decide +kernel
theorem dX3_reasonAgainst_20 : decode cX3_reasonAgainst 20 = .ok (.ifCond .ne 5, 3) := by decide +kernel
theorem dX3_reasonAgainst_23 : decode cX3_reasonAgainst 23 = .ok (.iconst 2, 1) := by decide +kernel
theorem dX3_reasonAgainst_24 : decode cX3_reasonAgainst 24 = .ok (.ireturn, 1) := by decide +kernel
theorem dX3_reasonAgainst_25 : decode cX3_reasonAgainst 25 = .ok (.iload 4, 2) := by decide +kernel
theorem dX3_reasonAgainst_27 : decode cX3_reasonAgainst 27 = .ok (.ifCond .ne 26, 3) := by decide +kernel
theorem dX3_reasonAgainst_30 : decode cX3_reasonAgainst 30 = .ok (.aload_n 0, 1) := by decide +kernel
theorem dX3_reasonAgainst_31 : decode cX3_reasonAgainst 31 = .ok (.getfield 9, 3) := by decide +kernel
theorem dX3_reasonAgainst_34 : decode cX3_reasonAgainst 34 = .ok (.getfield 56, 3) := by decide +kernel
theorem dX3_reasonAgainst_37 : decode cX3_reasonAgainst 37 = .ok (.iload_n 1, 1) := by decide +kernel
theorem dX3_reasonAgainst_38 : decode cX3_reasonAgainst 38 = .ok (.invokestatic 32, 3) := by decide +kernel
theorem dX3_reasonAgainst_41 : decode cX3_reasonAgainst 41 = .ok (.aload_n 0, 1) := by decide +kernel
theorem dX3_reasonAgainst_42 : decode cX3_reasonAgainst 42 = .ok (.getfield 9, 3) := by decide +kernel
theorem dX3_reasonAgainst_45 : decode cX3_reasonAgainst 45 = .ok (.invokevirtual 117, 3) := by decide +kernel
theorem dX3_reasonAgainst_48 : decode cX3_reasonAgainst 48 = .ok (.if_icmp .eq 5, 3) := by decide +kernel
theorem dX3_reasonAgainst_51 : decode cX3_reasonAgainst 51 = .ok (.iconst 3, 1) := by decide +kernel
theorem dX3_reasonAgainst_52 : decode cX3_reasonAgainst 52 = .ok (.ireturn, 1) := by decide +kernel
theorem dX3_reasonAgainst_53 : decode cX3_reasonAgainst 53 = .ok (.aload_n 0, 1) := by decide +kernel
theorem dX3_reasonAgainst_54 : decode cX3_reasonAgainst 54 = .ok (.getfield 9, 3) := by decide +kernel
theorem dX3_reasonAgainst_57 : decode cX3_reasonAgainst 57 = .ok (.iload_n 1, 1) := by decide +kernel
theorem dX3_reasonAgainst_58 : decode cX3_reasonAgainst 58 = .ok (.invokevirtual 121, 3) := by decide +kernel
theorem dX3_reasonAgainst_61 : decode cX3_reasonAgainst 61 = .ok (.ifCond .ne 5, 3) := by decide +kernel
theorem dX3_reasonAgainst_64 : decode cX3_reasonAgainst 64 = .ok (.iconst 4, 1) := by decide +kernel
theorem dX3_reasonAgainst_65 : decode cX3_reasonAgainst 65 = .ok (.ireturn, 1) := by decide +kernel
theorem dX3_reasonAgainst_66 : decode cX3_reasonAgainst 66 = .ok (.aload_n 0, 1) := by decide +kernel
theorem dX3_reasonAgainst_67 : decode cX3_reasonAgainst 67 = .ok (.iload_n 1, 1) := by decide +kernel
theorem dX3_reasonAgainst_68 : decode cX3_reasonAgainst 68 = .ok (.iload_n 2, 1) := by decide +kernel
theorem dX3_reasonAgainst_69 : decode cX3_reasonAgainst 69 = .ok (.iload_n 3, 1) := by decide +kernel
theorem dX3_reasonAgainst_70 : decode cX3_reasonAgainst 70 = .ok (.invokevirtual 124, 3) := by decide +kernel
theorem dX3_reasonAgainst_73 : decode cX3_reasonAgainst 73 = .ok (.ifCond .ne 5, 3) := by decide +kernel
theorem dX3_reasonAgainst_76 : decode cX3_reasonAgainst 76 = .ok (.iconst 5, 1) := by decide +kernel
theorem dX3_reasonAgainst_77 : decode cX3_reasonAgainst 77 = .ok (.ireturn, 1) := by decide +kernel
theorem dX3_reasonAgainst_78 : decode cX3_reasonAgainst 78 = .ok (.aload_n 0, 1) := by decide +kernel
theorem dX3_reasonAgainst_79 : decode cX3_reasonAgainst 79 = .ok (.iload_n 1, 1) := by decide +kernel
theorem dX3_reasonAgainst_80 : decode cX3_reasonAgainst 80 = .ok (.iload_n 2, 1) := by decide +kernel
theorem dX3_reasonAgainst_81 : decode cX3_reasonAgainst 81 = .ok (.iload_n 3, 1) := by decide +kernel
theorem dX3_reasonAgainst_82 : decode cX3_reasonAgainst 82 = .ok (.invokevirtual 128, 3) := by decide +kernel
theorem dX3_reasonAgainst_85 : decode cX3_reasonAgainst 85 = .ok (.ifCond .eq 8, 3) := by decide +kernel
theorem dX3_reasonAgainst_88 : decode cX3_reasonAgainst 88 = .ok (.bipush 6, 2) := by decide +kernel
theorem dX3_reasonAgainst_90 : decode cX3_reasonAgainst 90 = .ok (.goto 4, 3) := by decide +kernel
theorem dX3_reasonAgainst_93 : decode cX3_reasonAgainst 93 = .ok (.iconst 0, 1) := by decide +kernel
theorem dX3_reasonAgainst_94 : decode cX3_reasonAgainst 94 = .ok (.ireturn, 1) := by decide +kernel
theorem dX3_movesOf_0 : decode cX3_movesOf 0 = .ok (.iconst 0, 1) := by decide +kernel
theorem dX3_movesOf_1 : decode cX3_movesOf 1 = .ok (.istore_n 2, 1) := by decide +kernel
theorem dX3_movesOf_2 : decode cX3_movesOf 2 = .ok (.iconst 0, 1) := by decide +kernel
theorem dX3_movesOf_3 : decode cX3_movesOf 3 = .ok (.istore_n 3, 1) := by decide +kernel
theorem dX3_movesOf_4 : decode cX3_movesOf 4 = .ok (.iload_n 3, 1) := by decide +kernel
theorem dX3_movesOf_5 : decode cX3_movesOf 5 = .ok (.iconst 4, 1) := by decide +kernel
theorem dX3_movesOf_6 : decode cX3_movesOf 6 = .ok (.if_icmp .ge 39, 3) := by decide +kernel
theorem dX3_movesOf_9 : decode cX3_movesOf 9 = .ok (.iconst 1, 1) := by decide +kernel
theorem dX3_movesOf_10 : decode cX3_movesOf 10 = .ok (.istore 4, 2) := by decide +kernel
theorem dX3_movesOf_12 : decode cX3_movesOf 12 = .ok (.iload 4, 2) := by decide +kernel
theorem dX3_movesOf_14 : decode cX3_movesOf 14 = .ok (.iconst 3, 1) := by decide +kernel
theorem dX3_movesOf_15 : decode cX3_movesOf 15 = .ok (.if_icmp .gt 24, 3) := by decide +kernel
theorem dX3_movesOf_18 : decode cX3_movesOf 18 = .ok (.aload_n 0, 1) := by decide +kernel
theorem dX3_movesOf_19 : decode cX3_movesOf 19 = .ok (.iload_n 1, 1) := by decide +kernel
theorem dX3_movesOf_20 : decode cX3_movesOf 20 = .ok (.iload_n 3, 1) := by decide +kernel
theorem dX3_movesOf_21 : decode cX3_movesOf 21 = .ok (.iload 4, 2) := by decide +kernel
theorem dX3_movesOf_23 : decode cX3_movesOf 23 = .ok (.iconst 1, 1) := by decide +kernel
theorem dX3_movesOf_24 : decode cX3_movesOf 24 = .ok (.invokevirtual 88, 3) := by decide +kernel
theorem dX3_movesOf_27 : decode cX3_movesOf 27 = .ok (.ifCond .ne 6, 3) := by decide +kernel
theorem dX3_movesOf_30 : decode cX3_movesOf 30 = .ok (.iinc 2 1, 3) := by decide +kernel
theorem dX3_movesOf_33 : decode cX3_movesOf 33 = .ok (.iinc 4 1, 3) := by decide +kernel
theorem dX3_movesOf_36 : decode cX3_movesOf 36 = .ok (.goto (-24), 3) := by decide +kernel
theorem dX3_movesOf_39 : decode cX3_movesOf 39 = .ok (.iinc 3 1, 3) := by decide +kernel
theorem dX3_movesOf_42 : decode cX3_movesOf 42 = .ok (.goto (-38), 3) := by decide +kernel
theorem dX3_movesOf_45 : decode cX3_movesOf 45 = .ok (.iload_n 2, 1) := by decide +kernel
theorem dX3_movesOf_46 : decode cX3_movesOf 46 = .ok (.ireturn, 1) := by decide +kernel
theorem dX3_isWayOpen_0 : decode cX3_isWayOpen 0 = .ok (.aload_n 0, 1) := by decide +kernel
theorem dX3_isWayOpen_1 : decode cX3_isWayOpen 1 = .ok (.getfield 9, 3) := by decide +kernel
theorem dX3_isWayOpen_4 : decode cX3_isWayOpen 4 = .ok (.getfield 59, 3) := by decide +kernel
theorem dX3_isWayOpen_7 : decode cX3_isWayOpen 7 = .ok (.iload_n 1, 1) := by decide +kernel
theorem dX3_isWayOpen_8 : decode cX3_isWayOpen 8 = .ok (.invokestatic 32, 3) := by decide +kernel
theorem dX3_isWayOpen_11 : decode cX3_isWayOpen 11 = .ok (.istore 4, 2) := by decide +kernel
theorem dX3_isWayOpen_13 : decode cX3_isWayOpen 13 = .ok (.aload_n 0, 1) := by decide +kernel
theorem dX3_isWayOpen_14 : decode cX3_isWayOpen 14 = .ok (.getfield 9, 3) := by decide +kernel
theorem dX3_isWayOpen_17 : decode cX3_isWayOpen 17 = .ok (.getfield 56, 3) := by decide +kernel
theorem dX3_isWayOpen_20 : decode cX3_isWayOpen 20 = .ok (.iload_n 1, 1) := by decide +kernel
theorem dX3_isWayOpen_21 : decode cX3_isWayOpen 21 = .ok (.invokestatic 32, 3) := by decide +kernel
theorem dX3_isWayOpen_24 : decode cX3_isWayOpen 24 = .ok (.invokestatic 98, 3) := by decide +kernel
theorem dX3_isWayOpen_27 : decode cX3_isWayOpen 27 = .ok (.istore 5, 2) := by decide +kernel
theorem dX3_isWayOpen_29 : decode cX3_isWayOpen 29 = .ok (.aload_n 0, 1) := by decide +kernel
theorem dX3_isWayOpen_30 : decode cX3_isWayOpen 30 = .ok (.getfield 9, 3) := by decide +kernel
theorem dX3_isWayOpen_33 : decode cX3_isWayOpen 33 = .ok (.getfield 65, 3) := by decide +kernel
theorem dX3_isWayOpen_36 : decode cX3_isWayOpen 36 = .ok (.iload_n 1, 1) := by decide +kernel
theorem dX3_isWayOpen_37 : decode cX3_isWayOpen 37 = .ok (.invokestatic 32, 3) := by decide +kernel
theorem dX3_isWayOpen_40 : decode cX3_isWayOpen 40 = .ok (.istore 6, 2) := by decide +kernel
theorem dX3_isWayOpen_42 : decode cX3_isWayOpen 42 = .ok (.iconst 1, 1) := by decide +kernel
theorem dX3_isWayOpen_43 : decode cX3_isWayOpen 43 = .ok (.istore 7, 2) := by decide +kernel
theorem dX3_isWayOpen_45 : decode cX3_isWayOpen 45 = .ok (.iload 7, 2) := by decide +kernel
theorem dX3_isWayOpen_47 : decode cX3_isWayOpen 47 = .ok (.iload_n 3, 1) := by decide +kernel
theorem dX3_isWayOpen_48 : decode cX3_isWayOpen 48 = .ok (.if_icmp .gt 93, 3) := by decide +kernel
theorem dX3_isWayOpen_51 : decode cX3_isWayOpen 51 = .ok (.iload 7, 2) := by decide +kernel
theorem dX3_isWayOpen_53 : decode cX3_isWayOpen 53 = .ok (.iconst 3, 1) := by decide +kernel
theorem dX3_isWayOpen_54 : decode cX3_isWayOpen 54 = .ok (.if_icmp .gt 87, 3) := by decide +kernel
theorem dX3_isWayOpen_57 : decode cX3_isWayOpen 57 = .ok (.iload 6, 2) := by decide +kernel
theorem dX3_isWayOpen_59 : decode cX3_isWayOpen 59 = .ok (.iload_n 2, 1) := by decide +kernel
theorem dX3_isWayOpen_60 : decode cX3_isWayOpen 60 = .ok (.invokestatic 131, 3) := by decide +kernel
theorem dX3_isWayOpen_63 : decode cX3_isWayOpen 63 = .ok (.istore 6, 2) := by decide +kernel
theorem dX3_isWayOpen_65 : decode cX3_isWayOpen 65 = .ok (.iload 6, 2) := by decide +kernel
theorem dX3_isWayOpen_67 : decode cX3_isWayOpen 67 = .ok (.iload 5, 2) := by decide +kernel
theorem dX3_isWayOpen_69 : decode cX3_isWayOpen 69 = .ok (.if_icmp .ne 17, 3) := by decide +kernel
theorem dX3_isWayOpen_72 : decode cX3_isWayOpen 72 = .ok (.iload 7, 2) := by decide +kernel
theorem dX3_isWayOpen_74 : decode cX3_isWayOpen 74 = .ok (.iload_n 3, 1) := by decide +kernel
theorem dX3_isWayOpen_75 : decode cX3_isWayOpen 75 = .ok (.if_icmp .ne 7, 3) := by decide +kernel
theorem dX3_isWayOpen_78 : decode cX3_isWayOpen 78 = .ok (.iconst 1, 1) := by decide +kernel
theorem dX3_isWayOpen_79 : decode cX3_isWayOpen 79 = .ok (.goto 20, 3) := by decide +kernel
theorem dX3_isWayOpen_82 : decode cX3_isWayOpen 82 = .ok (.iconst 0, 1) := by decide +kernel
theorem dX3_isWayOpen_83 : decode cX3_isWayOpen 83 = .ok (.goto 16, 3) := by decide +kernel
theorem dX3_isWayOpen_86 : decode cX3_isWayOpen 86 = .ok (.iload 6, 2) := by decide +kernel
theorem dX3_isWayOpen_88 : decode cX3_isWayOpen 88 = .ok (.invokestatic 19, 3) := by decide +kernel
theorem dX3_isWayOpen_91 : decode cX3_isWayOpen 91 = .ok (.ifCond .ne 7, 3) := by decide +kernel
theorem dX3_isWayOpen_94 : decode cX3_isWayOpen 94 = .ok (.iconst 1, 1) := by decide +kernel
theorem dX3_isWayOpen_95 : decode cX3_isWayOpen 95 = .ok (.goto 4, 3) := by decide +kernel
theorem dX3_isWayOpen_98 : decode cX3_isWayOpen 98 = .ok (.iconst 0, 1) := by decide +kernel
theorem dX3_isWayOpen_99 : decode cX3_isWayOpen 99 = .ok (.istore 8, 2) := by decide +kernel
theorem dX3_isWayOpen_101 : decode cX3_isWayOpen 101 = .ok (.iload 6, 2) := by decide +kernel
theorem dX3_isWayOpen_103 : decode cX3_isWayOpen 103 = .ok (.iconst (-1), 1) := by decide +kernel
theorem dX3_isWayOpen_104 : decode cX3_isWayOpen 104 = .ok (.if_icmp .eq 29, 3) := by decide +kernel
theorem dX3_isWayOpen_107 : decode cX3_isWayOpen 107 = .ok (.iload 8, 2) := by decide +kernel
theorem dX3_isWayOpen_109 : decode cX3_isWayOpen 109 = .ok (.ifCond .eq 24, 3) := by decide +kernel
theorem dX3_isWayOpen_112 : decode cX3_isWayOpen 112 = .ok (.aload_n 0, 1) := by decide +kernel
theorem dX3_isWayOpen_113 : decode cX3_isWayOpen 113 = .ok (.getfield 9, 3) := by decide +kernel
theorem dX3_isWayOpen_116 : decode cX3_isWayOpen 116 = .ok (.iload 6, 2) := by decide +kernel
theorem dX3_isWayOpen_118 : decode cX3_isWayOpen 118 = .ok (.iload 4, 2) := by decide +kernel
theorem dX3_isWayOpen_120 : decode cX3_isWayOpen 120 = .ok (.aload_n 0, 1) := by decide +kernel
theorem dX3_isWayOpen_121 : decode cX3_isWayOpen 121 = .ok (.getfield 9, 3) := by decide +kernel
theorem dX3_isWayOpen_124 : decode cX3_isWayOpen 124 = .ok (.getfield 22, 3) := by decide +kernel
theorem dX3_isWayOpen_127 : decode cX3_isWayOpen 127 = .ok (.invokevirtual 135, 3) := by decide +kernel
theorem dX3_isWayOpen_130 : decode cX3_isWayOpen 130 = .ok (.ifCond .ne 5, 3) := by decide +kernel
theorem dX3_isWayOpen_133 : decode cX3_isWayOpen 133 = .ok (.iconst 0, 1) := by decide +kernel
theorem dX3_isWayOpen_134 : decode cX3_isWayOpen 134 = .ok (.ireturn, 1) := by decide +kernel
theorem dX3_isWayOpen_135 : decode cX3_isWayOpen 135 = .ok (.iinc 7 1, 3) := by decide +kernel
theorem dX3_isWayOpen_138 : decode cX3_isWayOpen 138 = .ok (.goto (-93), 3) := by decide +kernel
theorem dX3_isWayOpen_141 : decode cX3_isWayOpen 141 = .ok (.iconst 1, 1) := by decide +kernel
theorem dX3_isWayOpen_142 : decode cX3_isWayOpen 142 = .ok (.ireturn, 1) := by decide +kernel
theorem dX3_isBoatInWay_0 : decode cX3_isBoatInWay 0 = .ok (.aload_n 0, 1) := by decide +kernel
theorem dX3_isBoatInWay_1 : decode cX3_isBoatInWay 1 = .ok (.getfield 9, 3) := by decide +kernel
theorem dX3_isBoatInWay_4 : decode cX3_isBoatInWay 4 = .ok (.getfield 65, 3) := by decide +kernel
theorem dX3_isBoatInWay_7 : decode cX3_isBoatInWay 7 = .ok (.iload_n 1, 1) := by decide +kernel
theorem dX3_isBoatInWay_8 : decode cX3_isBoatInWay 8 = .ok (.invokestatic 32, 3) := by decide +kernel
theorem dX3_isBoatInWay_11 : decode cX3_isBoatInWay 11 = .ok (.istore 4, 2) := by decide +kernel
theorem dX3_isBoatInWay_13 : decode cX3_isBoatInWay 13 = .ok (.iconst 1, 1) := by decide +kernel
theorem dX3_isBoatInWay_14 : decode cX3_isBoatInWay 14 = .ok (.istore 5, 2) := by decide +kernel
theorem dX3_isBoatInWay_16 : decode cX3_isBoatInWay 16 = .ok (.iload 5, 2) := by decide +kernel
theorem dX3_isBoatInWay_18 : decode cX3_isBoatInWay 18 = .ok (.iload_n 3, 1) := by decide +kernel
theorem dX3_isBoatInWay_19 : decode cX3_isBoatInWay 19 = .ok (.if_icmp .gt 118, 3) := by decide +kernel
theorem dX3_isBoatInWay_22 : decode cX3_isBoatInWay 22 = .ok (.iload 5, 2) := by decide +kernel
theorem dX3_isBoatInWay_24 : decode cX3_isBoatInWay 24 = .ok (.iconst 3, 1) := by decide +kernel
theorem dX3_isBoatInWay_25 : decode cX3_isBoatInWay 25 = .ok (.if_icmp .gt 112, 3) := by decide +kernel
theorem dX3_isBoatInWay_28 : decode cX3_isBoatInWay 28 = .ok (.iload 4, 2) := by decide +kernel
theorem dX3_isBoatInWay_30 : decode cX3_isBoatInWay 30 = .ok (.iload_n 2, 1) := by decide +kernel
theorem dX3_isBoatInWay_31 : decode cX3_isBoatInWay 31 = .ok (.invokestatic 131, 3) := by decide +kernel
theorem dX3_isBoatInWay_34 : decode cX3_isBoatInWay 34 = .ok (.istore 4, 2) := by decide +kernel
theorem dX3_isBoatInWay_36 : decode cX3_isBoatInWay 36 = .ok (.aload_n 0, 1) := by decide +kernel
theorem dX3_isBoatInWay_37 : decode cX3_isBoatInWay 37 = .ok (.getfield 9, 3) := by decide +kernel
theorem dX3_isBoatInWay_40 : decode cX3_isBoatInWay 40 = .ok (.iload 4, 2) := by decide +kernel
theorem dX3_isBoatInWay_42 : decode cX3_isBoatInWay 42 = .ok (.invokevirtual 49, 3) := by decide +kernel
theorem dX3_isBoatInWay_45 : decode cX3_isBoatInWay 45 = .ok (.istore 6, 2) := by decide +kernel
theorem dX3_isBoatInWay_47 : decode cX3_isBoatInWay 47 = .ok (.iload 5, 2) := by decide +kernel
theorem dX3_isBoatInWay_49 : decode cX3_isBoatInWay 49 = .ok (.iload_n 3, 1) := by decide +kernel
theorem dX3_isBoatInWay_50 : decode cX3_isBoatInWay 50 = .ok (.if_icmp .ne 64, 3) := by decide +kernel
theorem dX3_isBoatInWay_53 : decode cX3_isBoatInWay 53 = .ok (.aload_n 0, 1) := by decide +kernel
theorem dX3_isBoatInWay_54 : decode cX3_isBoatInWay 54 = .ok (.getfield 9, 3) := by decide +kernel
theorem dX3_isBoatInWay_57 : decode cX3_isBoatInWay 57 = .ok (.getfield 56, 3) := by decide +kernel
theorem dX3_isBoatInWay_60 : decode cX3_isBoatInWay 60 = .ok (.iload 6, 2) := by decide +kernel
theorem dX3_isBoatInWay_62 : decode cX3_isBoatInWay 62 = .ok (.invokestatic 32, 3) := by decide +kernel
theorem dX3_isBoatInWay_65 : decode cX3_isBoatInWay 65 = .ok (.aload_n 0, 1) := by decide +kernel
theorem dX3_isBoatInWay_66 : decode cX3_isBoatInWay 66 = .ok (.getfield 9, 3) := by decide +kernel
theorem dX3_isBoatInWay_69 : decode cX3_isBoatInWay 69 = .ok (.getfield 56, 3) := by decide +kernel
theorem dX3_isBoatInWay_72 : decode cX3_isBoatInWay 72 = .ok (.iload_n 1, 1) := by decide +kernel
theorem dX3_isBoatInWay_73 : decode cX3_isBoatInWay 73 = .ok (.invokestatic 32, 3) := by decide +kernel
theorem dX3_isBoatInWay_76 : decode cX3_isBoatInWay 76 = .ok (.if_icmp .eq 38, 3) := by decide +kernel
theorem dX3_isBoatInWay_79 : decode cX3_isBoatInWay 79 = .ok (.aload_n 0, 1) := by decide +kernel
theorem dX3_isBoatInWay_80 : decode cX3_isBoatInWay 80 = .ok (.getfield 9, 3) := by decide +kernel
theorem dX3_isBoatInWay_83 : decode cX3_isBoatInWay 83 = .ok (.iload 4, 2) := by decide +kernel
theorem dX3_isBoatInWay_85 : decode cX3_isBoatInWay 85 = .ok (.aload_n 0, 1) := by decide +kernel
theorem dX3_isBoatInWay_86 : decode cX3_isBoatInWay 86 = .ok (.getfield 9, 3) := by decide +kernel
theorem dX3_isBoatInWay_89 : decode cX3_isBoatInWay 89 = .ok (.getfield 59, 3) := by decide +kernel
theorem dX3_isBoatInWay_92 : decode cX3_isBoatInWay 92 = .ok (.iload 6, 2) := by decide +kernel
theorem dX3_isBoatInWay_94 : decode cX3_isBoatInWay 94 = .ok (.invokestatic 32, 3) := by decide +kernel
theorem dX3_isBoatInWay_97 : decode cX3_isBoatInWay 97 = .ok (.aload_n 0, 1) := by decide +kernel
theorem dX3_isBoatInWay_98 : decode cX3_isBoatInWay 98 = .ok (.getfield 9, 3) := by decide +kernel
theorem dX3_isBoatInWay_101 : decode cX3_isBoatInWay 101 = .ok (.getfield 22, 3) := by decide +kernel
theorem dX3_isBoatInWay_104 : decode cX3_isBoatInWay 104 = .ok (.invokevirtual 135, 3) := by decide +kernel
theorem dX3_isBoatInWay_107 : decode cX3_isBoatInWay 107 = .ok (.ifCond .ne 7, 3) := by decide +kernel
theorem dX3_isBoatInWay_110 : decode cX3_isBoatInWay 110 = .ok (.iconst 1, 1) := by decide +kernel
theorem dX3_isBoatInWay_111 : decode cX3_isBoatInWay 111 = .ok (.goto 4, 3) := by decide +kernel
theorem dX3_isBoatInWay_114 : decode cX3_isBoatInWay 114 = .ok (.iconst 0, 1) := by decide +kernel
theorem dX3_isBoatInWay_115 : decode cX3_isBoatInWay 115 = .ok (.istore 7, 2) := by decide +kernel
theorem dX3_isBoatInWay_117 : decode cX3_isBoatInWay 117 = .ok (.iload 6, 2) := by decide +kernel
theorem dX3_isBoatInWay_119 : decode cX3_isBoatInWay 119 = .ok (.bipush (-5), 2) := by decide +kernel
theorem dX3_isBoatInWay_121 : decode cX3_isBoatInWay 121 = .ok (.if_icmp .eq 10, 3) := by decide +kernel
theorem dX3_isBoatInWay_124 : decode cX3_isBoatInWay 124 = .ok (.iload 7, 2) := by decide +kernel
theorem dX3_isBoatInWay_126 : decode cX3_isBoatInWay 126 = .ok (.ifCond .ne 5, 3) := by decide +kernel
theorem dX3_isBoatInWay_129 : decode cX3_isBoatInWay 129 = .ok (.iconst 1, 1) := by decide +kernel
theorem dX3_isBoatInWay_130 : decode cX3_isBoatInWay 130 = .ok (.ireturn, 1) := by decide +kernel
theorem dX3_isBoatInWay_131 : decode cX3_isBoatInWay 131 = .ok (.iinc 5 1, 3) := by decide +kernel
theorem dX3_isBoatInWay_134 : decode cX3_isBoatInWay 134 = .ok (.goto (-118), 3) := by decide +kernel
theorem dX3_isBoatInWay_137 : decode cX3_isBoatInWay 137 = .ok (.iconst 0, 1) := by decide +kernel
theorem dX3_isBoatInWay_138 : decode cX3_isBoatInWay 138 = .ok (.ireturn, 1) := by decide +kernel
theorem dX3_ram_0 : decode cX3_ram 0 = .ok (.iload_n 1, 1) := by decide +kernel
theorem dX3_ram_1 : decode cX3_ram 1 = .ok (.bipush (-5), 2) := by decide +kernel
theorem dX3_ram_3 : decode cX3_ram 3 = .ok (.if_icmp .ne 5, 3) := by decide +kernel
theorem dX3_ram_6 : decode cX3_ram 6 = .ok (.iconst 0, 1) := by decide +kernel
theorem dX3_ram_7 : decode cX3_ram 7 = .ok (.ireturn, 1) := by decide +kernel
theorem dX3_ram_8 : decode cX3_ram 8 = .ok (.aload_n 0, 1) := by decide +kernel
theorem dX3_ram_9 : decode cX3_ram 9 = .ok (.getfield 9, 3) := by decide +kernel
theorem dX3_ram_12 : decode cX3_ram 12 = .ok (.getfield 62, 3) := by decide +kernel
theorem dX3_ram_15 : decode cX3_ram 15 = .ok (.iload_n 1, 1) := by decide +kernel
theorem dX3_ram_16 : decode cX3_ram 16 = .ok (.iconst 2, 1) := by decide +kernel
theorem dX3_ram_17 : decode cX3_ram 17 = .ok (.invokestatic 39, 3) := by decide +kernel
theorem dX3_ram_20 : decode cX3_ram 20 = .ok (.aload_n 0, 1) := by decide +kernel
theorem dX3_ram_21 : decode cX3_ram 21 = .ok (.getfield 9, 3) := by decide +kernel
theorem dX3_ram_24 : decode cX3_ram 24 = .ok (.dup, 1) := by decide +kernel
theorem dX3_ram_25 : decode cX3_ram 25 = .ok (.getfield 138, 3) := by decide +kernel
theorem dX3_ram_28 : decode cX3_ram 28 = .ok (.iconst 1, 1) := by decide +kernel
theorem dX3_ram_29 : decode cX3_ram 29 = .ok (.iadd, 1) := by decide +kernel
theorem dX3_ram_30 : decode cX3_ram 30 = .ok (.putfield 138, 3) := by decide +kernel
theorem dX3_ram_33 : decode cX3_ram 33 = .ok (.aload_n 0, 1) := by decide +kernel
theorem dX3_ram_34 : decode cX3_ram 34 = .ok (.getfield 9, 3) := by decide +kernel
theorem dX3_ram_37 : decode cX3_ram 37 = .ok (.getfield 59, 3) := by decide +kernel
theorem dX3_ram_40 : decode cX3_ram 40 = .ok (.iload_n 1, 1) := by decide +kernel
theorem dX3_ram_41 : decode cX3_ram 41 = .ok (.invokestatic 32, 3) := by decide +kernel
theorem dX3_ram_44 : decode cX3_ram 44 = .ok (.ireturn, 1) := by decide +kernel
theorem dX3_endTurn_0 : decode cX3_endTurn 0 = .ok (.iconst 0, 1) := by decide +kernel
theorem dX3_endTurn_1 : decode cX3_endTurn 1 = .ok (.istore_n 1, 1) := by decide +kernel
theorem dX3_endTurn_2 : decode cX3_endTurn 2 = .ok (.iload_n 1, 1) := by decide +kernel
theorem dX3_endTurn_3 : decode cX3_endTurn 3 = .ok (.aload_n 0, 1) := by decide +kernel
theorem dX3_endTurn_4 : decode cX3_endTurn 4 = .ok (.getfield 9, 3) := by decide +kernel
theorem dX3_endTurn_7 : decode cX3_endTurn 7 = .ok (.getfield 53, 3) := by decide +kernel
theorem dX3_endTurn_10 : decode cX3_endTurn 10 = .ok (.if_icmp .ge 32, 3) := by decide +kernel
theorem dX3_endTurn_13 : decode cX3_endTurn 13 = .ok (.aload_n 0, 1) := by decide +kernel
theorem dX3_endTurn_14 : decode cX3_endTurn 14 = .ok (.getfield 9, 3) := by decide +kernel
theorem dX3_endTurn_17 : decode cX3_endTurn 17 = .ok (.iload_n 1, 1) := by decide +kernel
theorem dX3_endTurn_18 : decode cX3_endTurn 18 = .ok (.invokevirtual 141, 3) := by decide +kernel
theorem dX3_endTurn_21 : decode cX3_endTurn 21 = .ok (.ifCond .eq 15, 3) := by decide +kernel
