theorem dX0_init_0 : decode cX0_init 0 = .ok (.aload_n 0, 1) := by decide +kernel
theorem dX0_init_1 : decode cX0_init 1 = .ok (.invokespecial 3, 3) := by decide +kernel
theorem dX0_init_4 : decode cX0_init 4 = .ok (.aload_n 0, 1) := by decide +kernel
theorem dX0_init_5 : decode cX0_init 5 = .ok (.bipush 119, 2) := by decide +kernel
theorem dX0_init_7 : decode cX0_init 7 = .ok (.putfield 9, 3) := by decide +kernel
theorem dX0_init_10 : decode cX0_init 10 = .ok (.aload_n 0, 1) := by decide +kernel
theorem dX0_init_11 : decode cX0_init 11 = .ok (.iconst (-1), 1) := by decide +kernel
theorem dX0_init_12 : decode cX0_init 12 = .ok (.putfield 15, 3) := by decide +kernel
theorem dX0_init_15 : decode cX0_init 15 = .ok (.aload_n 0, 1) := by decide +kernel
theorem dX0_init_16 : decode cX0_init 16 = .ok (.iload_n 1, 1) := by decide +kernel
theorem dX0_init_17 : decode cX0_init 17 = .ok (.putfield 19, 3) := by decide +kernel
theorem dX0_init_20 : decode cX0_init 20 = .ok (.aload_n 0, 1) := by decide +kernel
theorem dX0_init_21 : decode cX0_init 21 = .ok (.aload_n 2, 1) := by decide +kernel
theorem dX0_init_22 : decode cX0_init 22 = .ok (.putfield 22, 3) := by decide +kernel
theorem dX0_init_25 : decode cX0_init 25 = .ok (.return_, 1) := by decide +kernel
theorem dX0_copyFrom_0 : decode cX0_copyFrom 0 = .ok (.aload_n 0, 1) := by decide +kernel
theorem dX0_copyFrom_1 : decode cX0_copyFrom 1 = .ok (.aload_n 1, 1) := by decide +kernel
theorem dX0_copyFrom_2 : decode cX0_copyFrom 2 = .ok (.getfield 26, 3) := by decide +kernel
theorem dX0_copyFrom_5 : decode cX0_copyFrom 5 = .ok (.putfield 26, 3) := by decide +kernel
theorem dX0_copyFrom_8 : decode cX0_copyFrom 8 = .ok (.aload_n 0, 1) := by decide +kernel
theorem dX0_copyFrom_9 : decode cX0_copyFrom 9 = .ok (.aload_n 1, 1) := by decide +kernel
theorem dX0_copyFrom_10 : decode cX0_copyFrom 10 = .ok (.getfield 9, 3) := by decide +kernel
theorem dX0_copyFrom_13 : decode cX0_copyFrom 13 = .ok (.putfield 9, 3) := by decide +kernel
theorem dX0_copyFrom_16 : decode cX0_copyFrom 16 = .ok (.aload_n 0, 1) := by decide +kernel
theorem dX0_copyFrom_17 : decode cX0_copyFrom 17 = .ok (.aload_n 1, 1) := by decide +kernel
theorem dX0_copyFrom_18 : decode cX0_copyFrom 18 = .ok (.getfield 15, 3) := by decide +kernel
theorem dX0_copyFrom_21 : decode cX0_copyFrom 21 = .ok (.putfield 15, 3) := by decide +kernel
theorem dX0_copyFrom_24 : decode cX0_copyFrom 24 = .ok (.aload_n 0, 1) := by decide +kernel
theorem dX0_copyFrom_25 : decode cX0_copyFrom 25 = .ok (.aload_n 1, 1) := by decide +kernel
theorem dX0_copyFrom_26 : decode cX0_copyFrom 26 = .ok (.getfield 29, 3) := by decide +kernel
theorem dX0_copyFrom_29 : decode cX0_copyFrom 29 = .ok (.putfield 29, 3) := by decide +kernel
theorem dX0_copyFrom_32 : decode cX0_copyFrom 32 = .ok (.aload_n 0, 1) := by decide +kernel
theorem dX0_copyFrom_33 : decode cX0_copyFrom 33 = .ok (.aload_n 1, 1) := by decide +kernel
theorem dX0_copyFrom_34 : decode cX0_copyFrom 34 = .ok (.getfield 32, 3) := by decide +kernel
theorem dX0_copyFrom_37 : decode cX0_copyFrom 37 = .ok (.putfield 32, 3) := by decide +kernel
theorem dX0_copyFrom_40 : decode cX0_copyFrom 40 = .ok (.aload_n 0, 1) := by decide +kernel
theorem dX0_copyFrom_41 : decode cX0_copyFrom 41 = .ok (.aload_n 1, 1) := by decide +kernel
theorem dX0_copyFrom_42 : decode cX0_copyFrom 42 = .ok (.getfield 36, 3) := by decide +kernel
theorem dX0_copyFrom_45 : decode cX0_copyFrom 45 = .ok (.putfield 36, 3) := by decide +kernel
theorem dX0_copyFrom_48 : decode cX0_copyFrom 48 = .ok (.aload_n 0, 1) := by decide +kernel
theorem dX0_copyFrom_49 : decode cX0_copyFrom 49 = .ok (.aload_n 1, 1) := by decide +kernel
theorem dX0_copyFrom_50 : decode cX0_copyFrom 50 = .ok (.getfield 39, 3) := by decide +kernel
theorem dX0_copyFrom_53 : decode cX0_copyFrom 53 = .ok (.putfield 39, 3) := by decide +kernel
theorem dX0_copyFrom_56 : decode cX0_copyFrom 56 = .ok (.aload_n 0, 1) := by decide +kernel
theorem dX0_copyFrom_57 : decode cX0_copyFrom 57 = .ok (.aload_n 1, 1) := by decide +kernel
theorem dX0_copyFrom_58 : decode cX0_copyFrom 58 = .ok (.getfield 42, 3) := by decide +kernel
theorem dX0_copyFrom_61 : decode cX0_copyFrom 61 = .ok (.putfield 42, 3) := by decide +kernel
theorem dX0_copyFrom_64 : decode cX0_copyFrom 64 = .ok (.aload_n 0, 1) := by decide +kernel
theorem dX0_copyFrom_65 : decode cX0_copyFrom 65 = .ok (.aload_n 1, 1) := by decide +kernel
theorem dX0_copyFrom_66 : decode cX0_copyFrom 66 = .ok (.getfield 45, 3) := by decide +kernel
theorem dX0_copyFrom_69 : decode cX0_copyFrom 69 = .ok (.putfield 45, 3) := by decide +kernel
theorem dX0_copyFrom_72 : decode cX0_copyFrom 72 = .ok (.return_, 1) := by decide +kernel
theorem dX0_isWanting_0 : decode cX0_isWanting 0 = .ok (.aload_n 0, 1) := by decide +kernel
theorem dX0_isWanting_1 : decode cX0_isWanting 1 = .ok (.getfield 26, 3) := by decide +kernel
theorem dX0_isWanting_4 : decode cX0_isWanting 4 = .ok (.iload_n 1, 1) := by decide +kernel
theorem dX0_isWanting_5 : decode cX0_isWanting 5 = .ok (.ishr, 1) := by decide +kernel
theorem dX0_isWanting_6 : decode cX0_isWanting 6 = .ok (.iconst 1, 1) := by decide +kernel
theorem dX0_isWanting_7 : decode cX0_isWanting 7 = .ok (.iand, 1) := by decide +kernel
theorem dX0_isWanting_8 : decode cX0_isWanting 8 = .ok (.ifCond .eq 7, 3) := by decide +kernel
theorem dX0_isWanting_11 : decode cX0_isWanting 11 = .ok (.iconst 1, 1) := by decide +kernel
theorem dX0_isWanting_12 : decode cX0_isWanting 12 = .ok (.goto 4, 3) := by decide +kernel
theorem dX0_isWanting_15 : decode cX0_isWanting 15 = .ok (.iconst 0, 1) := by decide +kernel
theorem dX0_isWanting_16 : decode cX0_isWanting 16 = .ok (.ireturn, 1) := by decide +kernel
theorem dX0_hasEntered_0 : decode cX0_hasEntered 0 = .ok (.aload_n 0, 1) := by decide +kernel
theorem dX0_hasEntered_1 : decode cX0_hasEntered 1 = .ok (.getfield 39, 3) := by decide +kernel
theorem dX0_hasEntered_4 : decode cX0_hasEntered 4 = .ok (.iload_n 1, 1) := by decide +kernel
theorem dX0_hasEntered_5 : decode cX0_hasEntered 5 = .ok (.ishr, 1) := by decide +kernel
theorem dX0_hasEntered_6 : decode cX0_hasEntered 6 = .ok (.iconst 1, 1) := by decide +kernel
theorem dX0_hasEntered_7 : decode cX0_hasEntered 7 = .ok (.iand, 1) := by decide +kernel
theorem dX0_hasEntered_8 : decode cX0_hasEntered 8 = .ok (.ifCond .eq 7, 3) := by decide +kernel
theorem dX0_hasEntered_11 : decode cX0_hasEntered 11 = .ok (.iconst 1, 1) := by decide +kernel
theorem dX0_hasEntered_12 : decode cX0_hasEntered 12 = .ok (.goto 4, 3) := by decide +kernel
theorem dX0_hasEntered_15 : decode cX0_hasEntered 15 = .ok (.iconst 0, 1) := by decide +kernel
theorem dX0_hasEntered_16 : decode cX0_hasEntered 16 = .ok (.ireturn, 1) := by decide +kernel
theorem dX0_isFaulty_0 : decode cX0_isFaulty 0 = .ok (.aload_n 0, 1) := by decide +kernel
theorem dX0_isFaulty_1 : decode cX0_isFaulty 1 = .ok (.getfield 36, 3) := by decide +kernel
theorem dX0_isFaulty_4 : decode cX0_isFaulty 4 = .ok (.iload_n 1, 1) := by decide +kernel
theorem dX0_isFaulty_5 : decode cX0_isFaulty 5 = .ok (.ishr, 1) := by decide +kernel
theorem dX0_isFaulty_6 : decode cX0_isFaulty 6 = .ok (.iconst 1, 1) := by decide +kernel
theorem dX0_isFaulty_7 : decode cX0_isFaulty 7 = .ok (.iand, 1) := by decide +kernel
theorem dX0_isFaulty_8 : decode cX0_isFaulty 8 = .ok (.ifCond .eq 7, 3) := by decide +kernel
theorem dX0_isFaulty_11 : decode cX0_isFaulty 11 = .ok (.iconst 1, 1) := by decide +kernel
theorem dX0_isFaulty_12 : decode cX0_isFaulty 12 = .ok (.goto 4, 3) := by decide +kernel
theorem dX0_isFaulty_15 : decode cX0_isFaulty 15 = .ok (.iconst 0, 1) := by decide +kernel
theorem dX0_isFaulty_16 : decode cX0_isFaulty 16 = .ok (.ireturn, 1) := by decide +kernel
theorem dX0_openFault_0 : decode cX0_openFault 0 = .ok (.aload_n 0, 1) := by decide +kernel
theorem dX0_openFault_1 : decode cX0_openFault 1 = .ok (.dup, 1) := by decide +kernel
theorem dX0_openFault_2 : decode cX0_openFault 2 = .ok (.getfield 36, 3) := by decide +kernel
theorem dX0_openFault_5 : decode cX0_openFault 5 = .ok (.iconst 1, 1) := by decide +kernel
theorem dX0_openFault_6 : decode cX0_openFault 6 = .ok (.iload_n 1, 1) := by decide +kernel
theorem dX0_openFault_7 : decode cX0_openFault 7 = .ok (.ishl, 1) := by decide +kernel
theorem dX0_openFault_8 : decode cX0_openFault 8 = .ok (.ior, 1) := by decide +kernel
theorem dX0_openFault_9 : decode cX0_openFault 9 = .ok (.putfield 36, 3) := by decide +kernel
theorem dX0_openFault_12 : decode cX0_openFault 12 = .ok (.return_, 1) := by decide +kernel
theorem dX0_closeFault_0 : decode cX0_closeFault 0 = .ok (.aload_n 0, 1) := by decide +kernel
theorem dX0_closeFault_1 : decode cX0_closeFault 1 = .ok (.dup, 1) := by decide +kernel
theorem dX0_closeFault_2 : decode cX0_closeFault 2 = .ok (.getfield 36, 3) := by decide +kernel
theorem dX0_closeFault_5 : decode cX0_closeFault 5 = .ok (.iconst 1, 1) := by decide +kernel
theorem dX0_closeFault_6 : decode cX0_closeFault 6 = .ok (.iload_n 1, 1) := by decide +kernel
theorem dX0_closeFault_7 : decode cX0_closeFault 7 = .ok (.ishl, 1) := by decide +kernel
theorem dX0_closeFault_8 : decode cX0_closeFault 8 = .ok (.iconst (-1), 1) := by decide +kernel
theorem dX0_closeFault_9 : decode cX0_closeFault 9 = .ok (.ixor, 1) := by decide +kernel
theorem dX0_closeFault_10 : decode cX0_closeFault 10 = .ok (.iand, 1) := by decide +kernel
theorem dX0_closeFault_11 : decode cX0_closeFault 11 = .ok (.putfield 36, 3) := by decide +kernel
theorem dX0_closeFault_14 : decode cX0_closeFault 14 = .ok (.return_, 1) := by decide +kernel
theorem dX0_faultCount_0 : decode cX0_faultCount 0 = .ok (.aload_n 0, 1) := by decide +kernel
theorem dX0_faultCount_1 : decode cX0_faultCount 1 = .ok (.getfield 36, 3) := by decide +kernel
theorem dX0_faultCount_4 : decode cX0_faultCount 4 = .ok (.invokestatic 48, 3) := by decide +kernel
theorem dX0_faultCount_7 : decode cX0_faultCount 7 = .ok (.ireturn, 1) := by decide +kernel
theorem dX0_lowestFault_0 : decode cX0_lowestFault 0 = .ok (.iconst 0, 1) := by decide +kernel
theorem dX0_lowestFault_1 : decode cX0_lowestFault 1 = .ok (.istore_n 1, 1) := by decide +kernel
theorem dX0_lowestFault_2 : decode cX0_lowestFault 2 = .ok (.iload_n 1, 1) := by decide +kernel
theorem dX0_lowestFault_3 : decode cX0_lowestFault 3 = .ok (.bipush 8, 2) := by decide +kernel
theorem dX0_lowestFault_5 : decode cX0_lowestFault 5 = .ok (.if_icmp .ge 19, 3) := by decide +kernel
theorem dX0_lowestFault_8 : decode cX0_lowestFault 8 = .ok (.aload_n 0, 1) := by decide +kernel
theorem dX0_lowestFault_9 : decode cX0_lowestFault 9 = .ok (.iload_n 1, 1) := by decide +kernel
theorem dX0_lowestFault_10 : decode cX0_lowestFault 10 = .ok (.invokevirtual 54, 3) := by decide +kernel
theorem dX0_lowestFault_13 : decode cX0_lowestFault 13 = .ok (.ifCond .eq 5, 3) := by decide +kernel
theorem dX0_lowestFault_16 : decode cX0_lowestFault 16 = .ok (.iload_n 1, 1) := by decide +kernel
theorem dX0_lowestFault_17 : decode cX0_lowestFault 17 = .ok (.ireturn, 1) := by decide +kernel
theorem dX0_lowestFault_18 : decode cX0_lowestFault 18 = .ok (.iinc 1 1, 3) := by decide +kernel
theorem dX0_lowestFault_21 : decode cX0_lowestFault 21 = .ok (.goto (-19), 3) := by decide +kernel
theorem dX0_lowestFault_24 : decode cX0_lowestFault 24 = .ok (.iconst (-1), 1) := by decide +kernel
theorem dX0_lowestFault_25 : decode cX0_lowestFault 25 = .ok (.ireturn, 1) := by decide +kernel
theorem dX0_stand_0 : decode cX0_stand 0 = .ok (.aload_n 0, 1) := by decide +kernel
theorem dX0_stand_1 : decode cX0_stand 1 = .ok (.bipush 115, 2) := by decide +kernel
theorem dX0_stand_3 : decode cX0_stand 3 = .ok (.putfield 9, 3) := by decide +kernel
theorem dX0_stand_6 : decode cX0_stand 6 = .ok (.aload_n 0, 1) := by decide +kernel
theorem dX0_stand_7 : decode cX0_stand 7 = .ok (.iload_n 1, 1) := by decide +kernel
theorem dX0_stand_8 : decode cX0_stand 8 = .ok (.putfield 15, 3) := by decide +kernel
theorem dX0_stand_11 : decode cX0_stand 11 = .ok (.aload_n 0, 1) := by decide +kernel
theorem dX0_stand_12 : decode cX0_stand 12 = .ok (.iload_n 2, 1) := by decide +kernel
theorem dX0_stand_13 : decode cX0_stand 13 = .ok (.putfield 29, 3) := by decide +kernel
theorem dX0_stand_16 : decode cX0_stand 16 = .ok (.aload_n 0, 1) := by decide +kernel
theorem dX0_stand_17 : decode cX0_stand 17 = .ok (.iload_n 3, 1) := by decide +kernel
theorem dX0_stand_18 : decode cX0_stand 18 = .ok (.putfield 32, 3) := by decide +kernel
theorem dX0_stand_21 : decode cX0_stand 21 = .ok (.aload_n 0, 1) := by decide +kernel
theorem dX0_stand_22 : decode cX0_stand 22 = .ok (.dup, 1) := by decide +kernel
theorem dX0_stand_23 : decode cX0_stand 23 = .ok (.getfield 39, 3) := by decide +kernel
theorem dX0_stand_26 : decode cX0_stand 26 = .ok (.iconst 1, 1) := by decide +kernel
theorem dX0_stand_27 : decode cX0_stand 27 = .ok (.iload_n 1, 1) := by decide +kernel
theorem dX0_stand_28 : decode cX0_stand 28 = .ok (.ishl, 1) := by decide +kernel
theorem dX0_stand_29 : decode cX0_stand 29 = .ok (.ior, 1) := by decide +kernel
theorem dX0_stand_30 : decode cX0_stand 30 = .ok (.putfield 39, 3) := by decide +kernel
theorem dX0_stand_33 : decode cX0_stand 33 = .ok (.return_, 1) := by decide +kernel
theorem dX0_goAway_0 : decode cX0_goAway 0 = .ok (.aload_n 0, 1) := by decide +kernel
theorem dX0_goAway_1 : decode cX0_goAway 1 = .ok (.iload_n 1, 1) := by decide +kernel
theorem dX0_goAway_2 : decode cX0_goAway 2 = .ok (.putfield 9, 3) := by decide +kernel
theorem dX0_goAway_5 : decode cX0_goAway 5 = .ok (.aload_n 0, 1) := by decide +kernel
theorem dX0_goAway_6 : decode cX0_goAway 6 = .ok (.iconst (-1), 1) := by decide +kernel
theorem dX0_goAway_7 : decode cX0_goAway 7 = .ok (.putfield 15, 3) := by decide +kernel
theorem dX0_goAway_10 : decode cX0_goAway 10 = .ok (.aload_n 0, 1) := by decide +kernel
theorem dX0_goAway_11 : decode cX0_goAway 11 = .ok (.iconst 0, 1) := by decide +kernel
theorem dX0_goAway_12 : decode cX0_goAway 12 = .ok (.putfield 29, 3) := by decide +kernel
theorem dX0_goAway_15 : decode cX0_goAway 15 = .ok (.aload_n 0, 1) := by decide +kernel
theorem dX0_goAway_16 : decode cX0_goAway 16 = .ok (.iconst 0, 1) := by decide +kernel
theorem dX0_goAway_17 : decode cX0_goAway 17 = .ok (.putfield 32, 3) := by decide +kernel
theorem dX0_goAway_20 : decode cX0_goAway 20 = .ok (.return_, 1) := by decide +kernel
theorem dX1_init_0 : decode cX1_init 0 = .ok (.aload_n 0, 1) := by decide +kernel
theorem dX1_init_1 : decode cX1_init 1 = .ok (.invokespecial 3, 3) := by decide +kernel
theorem dX1_init_4 : decode cX1_init 4 = .ok (.aload_n 0, 1) := by decide +kernel
theorem dX1_init_5 : decode cX1_init 5 = .ok (.bipush 8, 2) := by decide +kernel
theorem dX1_init_7 : decode cX1_init 7 = .ok (.anewarray 9, 3) := by decide +kernel
theorem dX1_init_10 : decode cX1_init 10 = .ok (.putfield 11, 3) := by decide +kernel
theorem dX1_init_13 : decode cX1_init 13 = .ok (.aload_n 0, 1) := by decide +kernel
theorem dX1_init_14 : decode cX1_init 14 = .ok (.bipush 30, 2) := by decide +kernel
theorem dX1_init_16 : decode cX1_init 16 = .ok (.anewarray 17, 3) := by decide +kernel
theorem dX1_init_19 : decode cX1_init 19 = .ok (.putfield 19, 3) := by decide +kernel
theorem dX1_init_22 : decode cX1_init 22 = .ok (.aload_n 0, 1) := by decide +kernel
theorem dX1_init_23 : decode cX1_init 23 = .ok (.bipush 6, 2) := by decide +kernel
theorem dX1_init_25 : decode cX1_init 25 = .ok (.newarray .int, 2) := by decide +kernel
theorem dX1_init_27 : decode cX1_init 27 = .ok (.putfield 23, 3) := by decide +kernel
theorem dX1_init_30 : decode cX1_init 30 = .ok (.aload_n 0, 1) := by decide +kernel
theorem dX1_init_31 : decode cX1_init 31 = .ok (.new 27, 3) := by decide +kernel
theorem dX1_init_34 : decode cX1_init 34 = .ok (.dup, 1) := by decide +kernel
theorem dX1_init_35 : decode cX1_init 35 = .ok (.invokespecial 29, 3) := by decide +kernel
theorem dX1_init_38 : decode cX1_init 38 = .ok (.putfield 30, 3) := by decide +kernel
theorem dX1_init_41 : decode cX1_init 41 = .ok (.aload_n 0, 1) := by decide +kernel
theorem dX1_init_42 : decode cX1_init 42 = .ok (.new 27, 3) := by decide +kernel
theorem dX1_init_45 : decode cX1_init 45 = .ok (.dup, 1) := by decide +kernel
theorem dX1_init_46 : decode cX1_init 46 = .ok (.invokespecial 29, 3) := by decide +kernel
theorem dX1_init_49 : decode cX1_init 49 = .ok (.putfield 34, 3) := by decide +kernel
theorem dX1_init_52 : decode cX1_init 52 = .ok (.aload_n 0, 1) := by decide +kernel
theorem dX1_init_53 : decode cX1_init 53 = .ok (.new 27, 3) := by decide +kernel
theorem dX1_init_56 : decode cX1_init 56 = .ok (.dup, 1) := by decide +kernel
theorem dX1_init_57 : decode cX1_init 57 = .ok (.invokespecial 29, 3) := by decide +kernel
theorem dX1_init_60 : decode cX1_init 60 = .ok (.putfield 37, 3) := by decide +kernel
theorem dX1_init_63 : decode cX1_init 63 = .ok (.aload_n 0, 1) := by decide +kernel
theorem dX1_init_64 : decode cX1_init 64 = .ok (.bipush 10, 2) := by decide +kernel
theorem dX1_init_66 : decode cX1_init 66 = .ok (.putfield 40, 3) := by decide +kernel
theorem dX1_init_69 : decode cX1_init 69 = .ok (.iconst 0, 1) := by decide +kernel
theorem dX1_init_70 : decode cX1_init 70 = .ok (.istore_n 2, 1) := by decide +kernel
theorem dX1_init_71 : decode cX1_init 71 = .ok (.iload_n 2, 1) := by decide +kernel
theorem dX1_init_72 : decode cX1_init 72 = .ok (.aload_n 0, 1) := by decide +kernel
theorem dX1_init_73 : decode cX1_init 73 = .ok (.getfield 11, 3) := by decide +kernel
theorem dX1_init_76 : decode cX1_init 76 = .ok (.arraylength, 1) := by decide +kernel
theorem dX1_init_77 : decode cX1_init 77 = .ok (.if_icmp .ge 22, 3) := by decide +kernel
theorem dX1_init_80 : decode cX1_init 80 = .ok (.aload_n 0, 1) := by decide +kernel
theorem dX1_init_81 : decode cX1_init 81 = .ok (.getfield 11, 3) := by decide +kernel
theorem dX1_init_84 : decode cX1_init 84 = .ok (.iload_n 2, 1) := by decide +kernel
theorem dX1_init_85 : decode cX1_init 85 = .ok (.new 9, 3) := by decide +kernel
theorem dX1_init_88 : decode cX1_init 88 = .ok (.dup, 1) := by decide +kernel
theorem dX1_init_89 : decode cX1_init 89 = .ok (.invokespecial 44, 3) := by decide +kernel
theorem dX1_init_92 : decode cX1_init 92 = .ok (.aastore, 1) := by decide +kernel
theorem dX1_init_93 : decode cX1_init 93 = .ok (.iinc 2 1, 3) := by decide +kernel
theorem dX1_init_96 : decode cX1_init 96 = .ok (.goto (-25), 3) := by decide +kernel
theorem dX1_init_99 : decode cX1_init 99 = .ok (.iconst 0, 1) := by decide +kernel
theorem dX1_init_100 : decode cX1_init 100 = .ok (.istore_n 2, 1) := by decide +kernel
theorem dX1_init_101 : decode cX1_init 101 = .ok (.iload_n 2, 1) := by decide +kernel
theorem dX1_init_102 : decode cX1_init 102 = .ok (.aload_n 0, 1) := by decide +kernel
theorem dX1_init_103 : decode cX1_init 103 = .ok (.getfield 19, 3) := by decide +kernel
theorem dX1_init_106 : decode cX1_init 106 = .ok (.arraylength, 1) := by decide +kernel
theorem dX1_init_107 : decode cX1_init 107 = .ok (.if_icmp .ge 38, 3) := by decide +kernel
theorem dX1_init_110 : decode cX1_init 110 = .ok (.aload_n 0, 1) := by decide +kernel
theorem dX1_init_111 : decode cX1_init 111 = .ok (.getfield 19, 3) := by decide +kernel
theorem dX1_init_114 : decode cX1_init 114 = .ok (.iload_n 2, 1) := by decide +kernel
theorem dX1_init_115 : decode cX1_init 115 = .ok (.new 17, 3) := by decide +kernel
theorem dX1_init_118 : decode cX1_init 118 = .ok (.dup, 1) := by decide +kernel
theorem dX1_init_119 : decode cX1_init 119 = .ok (.iload_n 2, 1) := by decide +kernel
theorem dX1_init_120 : decode cX1_init 120 = .ok (.iload_n 1, 1) := by decide +kernel
theorem dX1_init_121 : decode cX1_init 121 = .ok (.ifCond .eq 13, 3) := by decide +kernel
theorem dX1_init_124 : decode cX1_init 124 = .ok (.new 45, 3) := by decide +kernel
theorem dX1_init_127 : decode cX1_init 127 = .ok (.dup, 1) := by decide +kernel
theorem dX1_init_128 : decode cX1_init 128 = .ok (.invokespecial 47, 3) := by decide +kernel
theorem dX1_init_131 : decode cX1_init 131 = .ok (.goto 4, 3) := by decide +kernel
theorem dX1_init_134 : decode cX1_init 134 = .ok (.aconst_null, 1) := by decide +kernel
theorem dX1_init_135 : decode cX1_init 135 = .ok (.invokespecial 48, 3) := by decide +kernel
theorem dX1_init_138 : decode cX1_init 138 = .ok (.aastore, 1) := by decide +kernel
theorem dX1_init_139 : decode cX1_init 139 = .ok (.iinc 2 1, 3) := by decide +kernel
theorem dX1_init_142 : decode cX1_init 142 = .ok (.goto (-41), 3) := by decide +kernel
theorem dX1_init_145 : decode cX1_init 145 = .ok (.return_, 1) := by decide +kernel
theorem dX1_copyFrom_0 : decode cX1_copyFrom 0 = .ok (.aload_n 0, 1) := by decide +kernel
theorem dX1_copyFrom_1 : decode cX1_copyFrom 1 = .ok (.aload_n 1, 1) := by decide +kernel
theorem dX1_copyFrom_2 : decode cX1_copyFrom 2 = .ok (.getfield 51, 3) := by decide +kernel
theorem dX1_copyFrom_5 : decode cX1_copyFrom 5 = .ok (.putfield 51, 3) := by decide +kernel
theorem dX1_copyFrom_8 : decode cX1_copyFrom 8 = .ok (.aload_n 0, 1) := by decide +kernel
theorem dX1_copyFrom_9 : decode cX1_copyFrom 9 = .ok (.aload_n 1, 1) := by decide +kernel
theorem dX1_copyFrom_10 : decode cX1_copyFrom 10 = .ok (.getfield 54, 3) := by decide +kernel
theorem dX1_copyFrom_13 : decode cX1_copyFrom 13 = .ok (.putfield 54, 3) := by decide +kernel
theorem dX1_copyFrom_16 : decode cX1_copyFrom 16 = .ok (.aload_n 0, 1) := by decide +kernel
theorem dX1_copyFrom_17 : decode cX1_copyFrom 17 = .ok (.aload_n 1, 1) := by decide +kernel
theorem dX1_copyFrom_18 : decode cX1_copyFrom 18 = .ok (.getfield 57, 3) := by decide +kernel
theorem dX1_copyFrom_21 : decode cX1_copyFrom 21 = .ok (.putfield 57, 3) := by decide +kernel
theorem dX1_copyFrom_24 : decode cX1_copyFrom 24 = .ok (.aload_n 0, 1) := by decide +kernel
theorem dX1_copyFrom_25 : decode cX1_copyFrom 25 = .ok (.aload_n 1, 1) := by decide +kernel
theorem dX1_copyFrom_26 : decode cX1_copyFrom 26 = .ok (.getfield 40, 3) := by decide +kernel
theorem dX1_copyFrom_29 : decode cX1_copyFrom 29 = .ok (.putfield 40, 3) := by decide +kernel
theorem dX1_copyFrom_32 : decode cX1_copyFrom 32 = .ok (.iconst 0, 1) := by decide +kernel
theorem dX1_copyFrom_33 : decode cX1_copyFrom 33 = .ok (.istore_n 2, 1) := by decide +kernel
theorem dX1_copyFrom_34 : decode cX1_copyFrom 34 = .ok (.iload_n 2, 1) := by decide +kernel
theorem dX1_copyFrom_35 : decode cX1_copyFrom 35 = .ok (.aload_n 0, 1) := by decide +kernel
theorem dX1_copyFrom_36 : decode cX1_copyFrom 36 = .ok (.getfield 23, 3) := by decide +kernel
theorem dX1_copyFrom_39 : decode cX1_copyFrom 39 = .ok (.arraylength, 1) := by decide +kernel
theorem dX1_copyFrom_40 : decode cX1_copyFrom 40 = .ok (.if_icmp .ge 20, 3) := by decide +kernel
theorem dX1_copyFrom_43 : decode cX1_copyFrom 43 = .ok (.aload_n 0, 1) := by decide +kernel
theorem dX1_copyFrom_44 : decode cX1_copyFrom 44 = .ok (.getfield 23, 3) := by decide +kernel
theorem dX1_copyFrom_47 : decode cX1_copyFrom 47 = .ok (.iload_n 2, 1) := by decide +kernel
theorem dX1_copyFrom_48 : decode cX1_copyFrom 48 = .ok (.aload_n 1, 1) := by decide +kernel
theorem dX1_copyFrom_49 : decode cX1_copyFrom 49 = .ok (.iload_n 2, 1) := by decide +kernel
theorem dX1_copyFrom_50 : decode cX1_copyFrom 50 = .ok (.invokevirtual 60, 3) := by decide +kernel
theorem dX1_copyFrom_53 : decode cX1_copyFrom 53 = .ok (.iastore, 1) := by decide +kernel
theorem dX1_copyFrom_54 : decode cX1_copyFrom 54 = .ok (.iinc 2 1, 3) := by decide +kernel
theorem dX1_copyFrom_57 : decode cX1_copyFrom 57 = .ok (.goto (-23), 3) := by decide +kernel
theorem dX1_copyFrom_60 : decode cX1_copyFrom 60 = .ok (.iconst 0, 1) := by decide +kernel
theorem dX1_copyFrom_61 : decode cX1_copyFrom 61 = .ok (.istore_n 2, 1) := by decide +kernel
theorem dX1_copyFrom_62 : decode cX1_copyFrom 62 = .ok (.iload_n 2, 1) := by decide +kernel
theorem dX1_copyFrom_63 : decode cX1_copyFrom 63 = .ok (.aload_n 0, 1) := by decide +kernel
theorem dX1_copyFrom_64 : decode cX1_copyFrom 64 = .ok (.getfield 51, 3) := by decide +kernel
theorem dX1_copyFrom_67 : decode cX1_copyFrom 67 = .ok (.if_icmp .ge 22, 3) := by decide +kernel
theorem dX1_copyFrom_70 : decode cX1_copyFrom 70 = .ok (.aload_n 0, 1) := by decide +kernel
theorem dX1_copyFrom_71 : decode cX1_copyFrom 71 = .ok (.iload_n 2, 1) := by decide +kernel
theorem dX1_copyFrom_72 : decode cX1_copyFrom 72 = .ok (.invokevirtual 64, 3) := by decide +kernel
theorem dX1_copyFrom_75 : decode cX1_copyFrom 75 = .ok (.aload_n 1, 1) := by decide +kernel
theorem dX1_copyFrom_76 : decode cX1_copyFrom 76 = .ok (.iload_n 2, 1) := by decide +kernel
theorem dX1_copyFrom_77 : decode cX1_copyFrom 77 = .ok (.invokevirtual 64, 3) := by decide +kernel
theorem dX1_copyFrom_80 : decode cX1_copyFrom 80 = .ok (.invokestatic 68, 3) := by decide +kernel
theorem dX1_copyFrom_83 : decode cX1_copyFrom 83 = .ok (.iinc 2 1, 3) := by decide +kernel
theorem dX1_copyFrom_86 : decode cX1_copyFrom 86 = .ok (.goto (-24), 3) := by decide +kernel
theorem dX1_copyFrom_89 : decode cX1_copyFrom 89 = .ok (.iconst 0, 1) := by decide +kernel
theorem dX1_copyFrom_90 : decode cX1_copyFrom 90 = .ok (.istore_n 2, 1) := by decide +kernel
theorem dX1_copyFrom_91 : decode cX1_copyFrom 91 = .ok (.iload_n 2, 1) := by decide +kernel
theorem dX1_copyFrom_92 : decode cX1_copyFrom 92 = .ok (.aload_n 0, 1) := by decide +kernel
theorem dX1_copyFrom_93 : decode cX1_copyFrom 93 = .ok (.getfield 54, 3) := by decide +kernel
theorem dX1_copyFrom_96 : decode cX1_copyFrom 96 = .ok (.if_icmp .ge 22, 3) := by decide +kernel
theorem dX1_copyFrom_99 : decode cX1_copyFrom 99 = .ok (.aload_n 0, 1) := by decide +kernel
theorem dX1_copyFrom_100 : decode cX1_copyFrom 100 = .ok (.iload_n 2, 1) := by decide +kernel
theorem dX1_copyFrom_101 : decode cX1_copyFrom 101 = .ok (.invokevirtual 72, 3) := by decide +kernel
theorem dX1_copyFrom_104 : decode cX1_copyFrom 104 = .ok (.aload_n 1, 1) := by decide +kernel
theorem dX1_copyFrom_105 : decode cX1_copyFrom 105 = .ok (.iload_n 2, 1) := by decide +kernel
theorem dX1_copyFrom_106 : decode cX1_copyFrom 106 = .ok (.invokevirtual 72, 3) := by decide +kernel
theorem dX1_copyFrom_109 : decode cX1_copyFrom 109 = .ok (.invokestatic 76, 3) := by decide +kernel
theorem dX1_copyFrom_112 : decode cX1_copyFrom 112 = .ok (.iinc 2 1, 3) := by decide +kernel
theorem dX1_copyFrom_115 : decode cX1_copyFrom 115 = .ok (.goto (-24), 3) := by decide +kernel
theorem dX1_copyFrom_118 : decode cX1_copyFrom 118 = .ok (.aload_n 0, 1) := by decide +kernel
theorem dX1_copyFrom_119 : decode cX1_copyFrom 119 = .ok (.getfield 30, 3) := by decide +kernel
theorem dX1_copyFrom_122 : decode cX1_copyFrom 122 = .ok (.aload_n 1, 1) := by decide +kernel
theorem dX1_copyFrom_123 : decode cX1_copyFrom 123 = .ok (.getfield 30, 3) := by decide +kernel
theorem dX1_copyFrom_126 : decode cX1_copyFrom 126 = .ok (.invokevirtual 80, 3) := by decide +kernel
theorem dX1_copyFrom_129 : decode cX1_copyFrom 129 = .ok (.aload_n 0, 1) := by decide +kernel
theorem dX1_copyFrom_130 : decode cX1_copyFrom 130 = .ok (.getfield 34, 3) := by decide +kernel
theorem dX1_copyFrom_133 : decode cX1_copyFrom 133 = .ok (.aload_n 1, 1) := by decide +kernel
theorem dX1_copyFrom_134 : decode cX1_copyFrom 134 = .ok (.getfield 34, 3) := by decide +kernel
theorem dX1_copyFrom_137 : decode cX1_copyFrom 137 = .ok (.invokevirtual 80, 3) := by decide +kernel
theorem dX1_copyFrom_140 : decode cX1_copyFrom 140 = .ok (.aload_n 0, 1) := by decide +kernel
theorem dX1_copyFrom_141 : decode cX1_copyFrom 141 = .ok (.getfield 37, 3) := by decide +kernel
theorem dX1_copyFrom_144 : decode cX1_copyFrom 144 = .ok (.aload_n 1, 1) := by decide +kernel
theorem dX1_copyFrom_145 : decode cX1_copyFrom 145 = .ok (.getfield 37, 3) := by decide +kernel
theorem dX1_copyFrom_148 : decode cX1_copyFrom 148 = .ok (.invokevirtual 80, 3) := by decide +kernel
theorem dX1_copyFrom_151 : decode cX1_copyFrom 151 = .ok (.return_, 1) := by decide +kernel
theorem dX1_copyStation_0 : decode cX1_copyStation 0 = .ok (.aload_n 0, 1) := by decide +kernel
theorem dX1_copyStation_1 : decode cX1_copyStation 1 = .ok (.ifnull 12, 3) := by decide +kernel
theorem dX1_copyStation_4 : decode cX1_copyStation 4 = .ok (.aload_n 1, 1) := by decide +kernel
theorem dX1_copyStation_5 : decode cX1_copyStation 5 = .ok (.ifnull 8, 3) := by decide +kernel
theorem dX1_copyStation_8 : decode cX1_copyStation 8 = .ok (.aload_n 0, 1) := by decide +kernel
theorem dX1_copyStation_9 : decode cX1_copyStation 9 = .ok (.aload_n 1, 1) := by decide +kernel
theorem dX1_copyStation_10 : decode cX1_copyStation 10 = .ok (.invokevirtual 84, 3) := by decide +kernel
theorem dX1_copyStation_13 : decode cX1_copyStation 13 = .ok (.return_, 1) := by decide +kernel
theorem dX1_copyCar_0 : decode cX1_copyCar 0 = .ok (.aload_n 0, 1) := by decide +kernel
theorem dX1_copyCar_1 : decode cX1_copyCar 1 = .ok (.ifnull 12, 3) := by decide +kernel
theorem dX1_copyCar_4 : decode cX1_copyCar 4 = .ok (.aload_n 1, 1) := by decide +kernel
theorem dX1_copyCar_5 : decode cX1_copyCar 5 = .ok (.ifnull 8, 3) := by decide +kernel
theorem dX1_copyCar_8 : decode cX1_copyCar 8 = .ok (.aload_n 0, 1) := by decide +kernel
theorem dX1_copyCar_9 : decode cX1_copyCar 9 = .ok (.aload_n 1, 1) := by decide +kernel
theorem dX1_copyCar_10 : decode cX1_copyCar 10 = .ok (.invokevirtual 87, 3) := by decide +kernel
theorem dX1_copyCar_13 : decode cX1_copyCar 13 = .ok (.return_, 1) := by decide +kernel
theorem dX1_findStation_0 : decode cX1_findStation 0 = .ok (.iload_n 1, 1) := by decide +kernel
theorem dX1_findStation_1 : decode cX1_findStation 1 = .ok (.ifCond .lt 29, 3) := by decide +kernel
theorem dX1_findStation_4 : decode cX1_findStation 4 = .ok (.iload_n 1, 1) := by decide +kernel
theorem dX1_findStation_5 : decode cX1_findStation 5 = .ok (.aload_n 0, 1) := by decide +kernel
theorem dX1_findStation_6 : decode cX1_findStation 6 = .ok (.getfield 51, 3) := by decide +kernel
theorem dX1_findStation_9 : decode cX1_findStation 9 = .ok (.if_icmp .ge 21, 3) := by decide +kernel
theorem dX1_findStation_12 : decode cX1_findStation 12 = .ok (.iload_n 1, 1) := by decide +kernel
theorem dX1_findStation_13 : decode cX1_findStation 13 = .ok (.aload_n 0, 1) := by decide +kernel
theorem dX1_findStation_14 : decode cX1_findStation 14 = .ok (.getfield 11, 3) := by decide +kernel
theorem dX1_findStation_17 : decode cX1_findStation 17 = .ok (.arraylength, 1) := by decide +kernel
theorem dX1_findStation_18 : decode cX1_findStation 18 = .ok (.if_icmp .ge 12, 3) := by decide +kernel
theorem dX1_findStation_21 : decode cX1_findStation 21 = .ok (.aload_n 0, 1) := by decide +kernel
theorem dX1_findStation_22 : decode cX1_findStation 22 = .ok (.getfield 11, 3) := by decide +kernel
theorem dX1_findStation_25 : decode cX1_findStation 25 = .ok (.iload_n 1, 1) := by decide +kernel
theorem dX1_findStation_26 : decode cX1_findStation 26 = .ok (.aaload, 1) := by decide +kernel
theorem dX1_findStation_27 : decode cX1_findStation 27 = .ok (.goto 4, 3) := by decide +kernel
theorem dX1_findStation_30 : decode cX1_findStation 30 = .ok (.aconst_null, 1) := by decide +kernel
theorem dX1_findStation_31 : decode cX1_findStation 31 = .ok (.areturn, 1) := by decide +kernel
theorem dX1_findCar_0 : decode cX1_findCar 0 = .ok (.iload_n 1, 1) := by decide +kernel
theorem dX1_findCar_1 : decode cX1_findCar 1 = .ok (.ifCond .lt 29, 3) := by decide +kernel
theorem dX1_findCar_4 : decode cX1_findCar 4 = .ok (.iload_n 1, 1) := by decide +kernel
theorem dX1_findCar_5 : decode cX1_findCar 5 = .ok (.aload_n 0, 1) := by decide +kernel
theorem dX1_findCar_6 : decode cX1_findCar 6 = .ok (.getfield 54, 3) := by decide +kernel
theorem dX1_findCar_9 : decode cX1_findCar 9 = .ok (.if_icmp .ge 21, 3) := by decide +kernel
theorem dX1_findCar_12 : decode cX1_findCar 12 = .ok (.iload_n 1, 1) := by decide +kernel
theorem dX1_findCar_13 : decode cX1_findCar 13 = .ok (.aload_n 0, 1) := by decide +kernel
theorem dX1_findCar_14 : decode cX1_findCar 14 = .ok (.getfield 19, 3) := by decide +kernel
theorem dX1_findCar_17 : decode cX1_findCar 17 = .ok (.arraylength, 1) := by decide +kernel
theorem dX1_findCar_18 : decode cX1_findCar 18 = .ok (.if_icmp .ge 12, 3) := by decide +kernel
theorem dX1_findCar_21 : decode cX1_findCar 21 = .ok (.aload_n 0, 1) := by decide +kernel
theorem dX1_findCar_22 : decode cX1_findCar 22 = .ok (.getfield 19, 3) := by decide +kernel
theorem dX1_findCar_25 : decode cX1_findCar 25 = .ok (.iload_n 1, 1) := by decide +kernel
theorem dX1_findCar_26 : decode cX1_findCar 26 = .ok (.aaload, 1) := by decide +kernel
theorem dX1_findCar_27 : decode cX1_findCar 27 = .ok (.goto 4, 3) := by decide +kernel
theorem dX1_findCar_30 : decode cX1_findCar 30 = .ok (.aconst_null, 1) := by decide +kernel
theorem dX1_findCar_31 : decode cX1_findCar 31 = .ok (.areturn, 1) := by decide +kernel
theorem dX1_unitsOf_0 : decode cX1_unitsOf 0 = .ok (.iload_n 1, 1) := by decide +kernel
theorem dX1_unitsOf_1 : decode cX1_unitsOf 1 = .ok (.ifCond .lt 21, 3) := by decide +kernel
theorem dX1_unitsOf_4 : decode cX1_unitsOf 4 = .ok (.iload_n 1, 1) := by decide +kernel
theorem dX1_unitsOf_5 : decode cX1_unitsOf 5 = .ok (.aload_n 0, 1) := by decide +kernel
theorem dX1_unitsOf_6 : decode cX1_unitsOf 6 = .ok (.getfield 23, 3) := by decide +kernel
theorem dX1_unitsOf_9 : decode cX1_unitsOf 9 = .ok (.arraylength, 1) := by decide +kernel
theorem dX1_unitsOf_10 : decode cX1_unitsOf 10 = .ok (.if_icmp .ge 12, 3) := by decide +kernel
theorem dX1_unitsOf_13 : decode cX1_unitsOf 13 = .ok (.aload_n 0, 1) := by decide +kernel
theorem dX1_unitsOf_14 : decode cX1_unitsOf 14 = .ok (.getfield 23, 3) := by decide +kernel
theorem dX1_unitsOf_17 : decode cX1_unitsOf 17 = .ok (.iload_n 1, 1) := by decide +kernel
theorem dX1_unitsOf_18 : decode cX1_unitsOf 18 = .ok (.iaload, 1) := by decide +kernel
theorem dX1_unitsOf_19 : decode cX1_unitsOf 19 = .ok (.goto 4, 3) := by decide +kernel
theorem dX1_unitsOf_22 : decode cX1_unitsOf 22 = .ok (.iconst 0, 1) := by decide +kernel
theorem dX1_unitsOf_23 : decode cX1_unitsOf 23 = .ok (.ireturn, 1) := by decide +kernel
theorem dX1_changeUnits_0 : decode cX1_changeUnits 0 = .ok (.iload_n 1, 1) := by decide +kernel
theorem dX1_changeUnits_1 : decode cX1_changeUnits 1 = .ok (.ifCond .lt 22, 3) := by decide +kernel
theorem dX1_changeUnits_4 : decode cX1_changeUnits 4 = .ok (.iload_n 1, 1) := by decide +kernel
theorem dX1_changeUnits_5 : decode cX1_changeUnits 5 = .ok (.aload_n 0, 1) := by decide +kernel
theorem dX1_changeUnits_6 : decode cX1_changeUnits 6 = .ok (.getfield 23, 3) := by decide +kernel
theorem dX1_changeUnits_9 : decode cX1_changeUnits 9 = .ok (.arraylength, 1) := by decide +kernel
theorem dX1_changeUnits_10 : decode cX1_changeUnits 10 = .ok (.if_icmp .ge 13, 3) := by decide +kernel
theorem dX1_changeUnits_13 : decode cX1_changeUnits 13 = .ok (.aload_n 0, 1) := by decide +kernel
theorem dX1_changeUnits_14 : decode cX1_changeUnits 14 = .ok (.getfield 23, 3) := by decide +kernel
theorem dX1_changeUnits_17 : decode cX1_changeUnits 17 = .ok (.iload_n 1, 1) := by decide +kernel
theorem dX1_changeUnits_18 : decode cX1_changeUnits 18 = .ok (.dup2, 1) := by decide +kernel
theorem dX1_changeUnits_19 : decode cX1_changeUnits 19 = .ok (.iaload, 1) := by decide +kernel
theorem dX1_changeUnits_20 : decode cX1_changeUnits 20 = .ok (.iload_n 2, 1) := by decide +kernel
theorem dX1_changeUnits_21 : decode cX1_changeUnits 21 = .ok (.iadd, 1) := by decide +kernel
theorem dX1_changeUnits_22 : decode cX1_changeUnits 22 = .ok (.iastore, 1) := by decide +kernel
theorem dX1_changeUnits_23 : decode cX1_changeUnits 23 = .ok (.return_, 1) := by decide +kernel
theorem dX1_appendStation_0 : decode cX1_appendStation 0 = .ok (.aload_n 0, 1) := by decide +kernel
theorem dX1_appendStation_1 : decode cX1_appendStation 1 = .ok (.getfield 51, 3) := by decide +kernel
theorem dX1_appendStation_4 : decode cX1_appendStation 4 = .ok (.istore 5, 2) := by decide +kernel
theorem dX1_appendStation_6 : decode cX1_appendStation 6 = .ok (.aload_n 0, 1) := by decide +kernel
theorem dX1_appendStation_7 : decode cX1_appendStation 7 = .ok (.dup, 1) := by decide +kernel
theorem dX1_appendStation_8 : decode cX1_appendStation 8 = .ok (.getfield 51, 3) := by decide +kernel
theorem dX1_appendStation_11 : decode cX1_appendStation 11 = .ok (.iconst 1, 1) := by decide +kernel
theorem dX1_appendStation_12 : decode cX1_appendStation 12 = .ok (.iadd, 1) := by decide +kernel
theorem dX1_appendStation_13 : decode cX1_appendStation 13 = .ok (.putfield 51, 3) := by decide +kernel
theorem dX1_appendStation_16 : decode cX1_appendStation 16 = .ok (.aload_n 0, 1) := by decide +kernel
theorem dX1_appendStation_17 : decode cX1_appendStation 17 = .ok (.iload 5, 2) := by decide +kernel
theorem dX1_appendStation_19 : decode cX1_appendStation 19 = .ok (.invokevirtual 64, 3) := by decide +kernel
theorem dX1_appendStation_22 : decode cX1_appendStation 22 = .ok (.astore 6, 2) := by decide +kernel
theorem dX1_appendStation_24 : decode cX1_appendStation 24 = .ok (.aload 6, 2) := by decide +kernel
theorem dX1_appendStation_26 : decode cX1_appendStation 26 = .ok (.ifnull 13, 3) := by decide +kernel
theorem dX1_appendStation_29 : decode cX1_appendStation 29 = .ok (.aload 6, 2) := by decide +kernel
theorem dX1_appendStation_31 : decode cX1_appendStation 31 = .ok (.iload_n 1, 1) := by decide +kernel
theorem dX1_appendStation_32 : decode cX1_appendStation 32 = .ok (.iload_n 2, 1) := by decide +kernel
theorem dX1_appendStation_33 : decode cX1_appendStation 33 = .ok (.iload_n 3, 1) := by decide +kernel
theorem dX1_appendStation_34 : decode cX1_appendStation 34 = .ok (.iload 4, 2) := by decide +kernel
theorem dX1_appendStation_36 : decode cX1_appendStation 36 = .ok (.invokevirtual 90, 3) := by decide +kernel
theorem dX1_appendStation_39 : decode cX1_appendStation 39 = .ok (.iload 5, 2) := by decide +kernel
theorem dX1_appendStation_41 : decode cX1_appendStation 41 = .ok (.ireturn, 1) := by decide +kernel
theorem dX1_appendCar_0 : decode cX1_appendCar 0 = .ok (.aload_n 0, 1) := by decide +kernel
theorem dX1_appendCar_1 : decode cX1_appendCar 1 = .ok (.getfield 54, 3) := by decide +kernel
theorem dX1_appendCar_4 : decode cX1_appendCar 4 = .ok (.istore_n 2, 1) := by decide +kernel
theorem dX1_appendCar_5 : decode cX1_appendCar 5 = .ok (.aload_n 0, 1) := by decide +kernel
theorem dX1_appendCar_6 : decode cX1_appendCar 6 = .ok (.dup, 1) := by decide +kernel
theorem dX1_appendCar_7 : decode cX1_appendCar 7 = .ok (.getfield 54, 3) := by decide +kernel
theorem dX1_appendCar_10 : decode cX1_appendCar 10 = .ok (.iconst 1, 1) := by decide +kernel
theorem dX1_appendCar_11 : decode cX1_appendCar 11 = .ok (.iadd, 1) := by decide +kernel
theorem dX1_appendCar_12 : decode cX1_appendCar 12 = .ok (.putfield 54, 3) := by decide +kernel
theorem dX1_appendCar_15 : decode cX1_appendCar 15 = .ok (.aload_n 0, 1) := by decide +kernel
theorem dX1_appendCar_16 : decode cX1_appendCar 16 = .ok (.iload_n 2, 1) := by decide +kernel
theorem dX1_appendCar_17 : decode cX1_appendCar 17 = .ok (.invokevirtual 72, 3) := by decide +kernel
theorem dX1_appendCar_20 : decode cX1_appendCar 20 = .ok (.astore_n 3, 1) := by decide +kernel
theorem dX1_appendCar_21 : decode cX1_appendCar 21 = .ok (.aload_n 3, 1) := by decide +kernel
theorem dX1_appendCar_22 : decode cX1_appendCar 22 = .ok (.ifnull 8, 3) := by decide +kernel
theorem dX1_appendCar_25 : decode cX1_appendCar 25 = .ok (.aload_n 3, 1) := by decide +kernel
theorem dX1_appendCar_26 : decode cX1_appendCar 26 = .ok (.iload_n 1, 1) := by decide +kernel
theorem dX1_appendCar_27 : decode cX1_appendCar 27 = .ok (.putfield 94, 3) := by decide +kernel
theorem dX1_appendCar_30 : decode cX1_appendCar 30 = .ok (.aload_n 0, 1) := by decide +kernel
theorem dX1_appendCar_31 : decode cX1_appendCar 31 = .ok (.getfield 30, 3) := by decide +kernel
theorem dX1_appendCar_34 : decode cX1_appendCar 34 = .ok (.iload_n 2, 1) := by decide +kernel
theorem dX1_appendCar_35 : decode cX1_appendCar 35 = .ok (.invokevirtual 97, 3) := by decide +kernel
theorem dX1_appendCar_38 : decode cX1_appendCar 38 = .ok (.iload_n 2, 1) := by decide +kernel
theorem dX1_appendCar_39 : decode cX1_appendCar 39 = .ok (.ireturn, 1) := by decide +kernel
theorem dX1_hasGone_0 : decode cX1_hasGone 0 = .ok (.aload_n 0, 1) := by decide +kernel
theorem dX1_hasGone_1 : decode cX1_hasGone 1 = .ok (.iload_n 1, 1) := by decide +kernel
theorem dX1_hasGone_2 : decode cX1_hasGone 2 = .ok (.invokevirtual 72, 3) := by decide +kernel
theorem dX1_hasGone_5 : decode cX1_hasGone 5 = .ok (.astore_n 2, 1) := by decide +kernel
theorem dX1_hasGone_6 : decode cX1_hasGone 6 = .ok (.aload_n 2, 1) := by decide +kernel
theorem dX1_hasGone_7 : decode cX1_hasGone 7 = .ok (.ifnull 16, 3) := by decide +kernel
theorem dX1_hasGone_10 : decode cX1_hasGone 10 = .ok (.aload_n 2, 1) := by decide +kernel
theorem dX1_hasGone_11 : decode cX1_hasGone 11 = .ok (.getfield 101, 3) := by decide +kernel
theorem dX1_hasGone_14 : decode cX1_hasGone 14 = .ok (.bipush 100, 2) := by decide +kernel
theorem dX1_hasGone_16 : decode cX1_hasGone 16 = .ok (.if_icmp .ne 7, 3) := by decide +kernel
theorem dX1_hasGone_19 : decode cX1_hasGone 19 = .ok (.iconst 1, 1) := by decide +kernel
theorem dX1_hasGone_20 : decode cX1_hasGone 20 = .ok (.goto 4, 3) := by decide +kernel
theorem dX1_hasGone_23 : decode cX1_hasGone 23 = .ok (.iconst 0, 1) := by decide +kernel
theorem dX1_hasGone_24 : decode cX1_hasGone 24 = .ok (.ireturn, 1) := by decide +kernel
theorem dX1_ticksToRound_0 : decode cX1_ticksToRound 0 = .ok (.aload_n 0, 1) := by decide +kernel
theorem dX1_ticksToRound_1 : decode cX1_ticksToRound 1 = .ok (.getfield 40, 3) := by decide +kernel
theorem dX1_ticksToRound_4 : decode cX1_ticksToRound 4 = .ok (.ifCond .le 20, 3) := by decide +kernel
theorem dX1_ticksToRound_7 : decode cX1_ticksToRound 7 = .ok (.aload_n 0, 1) := by decide +kernel
theorem dX1_ticksToRound_8 : decode cX1_ticksToRound 8 = .ok (.getfield 40, 3) := by decide +kernel
theorem dX1_ticksToRound_11 : decode cX1_ticksToRound 11 = .ok (.aload_n 0, 1) := by decide +kernel
theorem dX1_ticksToRound_12 : decode cX1_ticksToRound 12 = .ok (.getfield 57, 3) := by decide +kernel
theorem dX1_ticksToRound_15 : decode cX1_ticksToRound 15 = .ok (.aload_n 0, 1) := by decide +kernel
theorem dX1_ticksToRound_16 : decode cX1_ticksToRound 16 = .ok (.getfield 40, 3) := by decide +kernel
theorem dX1_ticksToRound_19 : decode cX1_ticksToRound 19 = .ok (.irem, 1) := by decide +kernel
theorem dX1_ticksToRound_20 : decode cX1_ticksToRound 20 = .ok (.isub, 1) := by decide +kernel
theorem dX1_ticksToRound_21 : decode cX1_ticksToRound 21 = .ok (.goto 4, 3) := by decide +kernel
theorem dX1_ticksToRound_24 : decode cX1_ticksToRound 24 = .ok (.iconst 1, 1) := by decide +kernel
theorem dX1_ticksToRound_25 : decode cX1_ticksToRound 25 = .ok (.ireturn, 1) := by decide +kernel
theorem dX1_ticksOfGone_0 : decode cX1_ticksOfGone 0 = .ok (.lconst 0, 1) := by decide +kernel
theorem dX1_ticksOfGone_1 : decode cX1_ticksOfGone 1 = .ok (.lstore_n 1, 1) := by decide +kernel
theorem dX1_ticksOfGone_2 : decode cX1_ticksOfGone 2 = .ok (.iconst 0, 1) := by decide +kernel
theorem dX1_ticksOfGone_3 : decode cX1_ticksOfGone 3 = .ok (.istore_n 3, 1) := by decide +kernel
theorem dX1_ticksOfGone_4 : decode cX1_ticksOfGone 4 = .ok (.iload_n 3, 1) := by decide +kernel
theorem dX1_ticksOfGone_5 : decode cX1_ticksOfGone 5 = .ok (.aload_n 0, 1) := by decide +kernel
theorem dX1_ticksOfGone_6 : decode cX1_ticksOfGone 6 = .ok (.getfield 37, 3) := by decide +kernel
theorem dX1_ticksOfGone_9 : decode cX1_ticksOfGone 9 = .ok (.getfield 105, 3) := by decide +kernel
theorem dX1_ticksOfGone_12 : decode cX1_ticksOfGone 12 = .ok (.if_icmp .ge 43, 3) := by decide +kernel
theorem dX1_ticksOfGone_15 : decode cX1_ticksOfGone 15 = .ok (.aload_n 0, 1) := by decide +kernel
theorem dX1_ticksOfGone_16 : decode cX1_ticksOfGone 16 = .ok (.aload_n 0, 1) := by decide +kernel
theorem dX1_ticksOfGone_17 : decode cX1_ticksOfGone 17 = .ok (.getfield 37, 3) := by decide +kernel
theorem dX1_ticksOfGone_20 : decode cX1_ticksOfGone 20 = .ok (.iload_n 3, 1) := by decide +kernel
theorem dX1_ticksOfGone_21 : decode cX1_ticksOfGone 21 = .ok (.invokevirtual 108, 3) := by decide +kernel
theorem dX1_ticksOfGone_24 : decode cX1_ticksOfGone 24 = .ok (.invokevirtual 72, 3) := by decide +kernel
theorem dX1_ticksOfGone_27 : decode cX1_ticksOfGone 27 = .ok (.astore 4, 2) := by decide +kernel
theorem dX1_ticksOfGone_29 : decode cX1_ticksOfGone 29 = .ok (.aload 4, 2) := by decide +kernel
theorem dX1_ticksOfGone_31 : decode cX1_ticksOfGone 31 = .ok (.ifnull 18, 3) := by decide +kernel
theorem dX1_ticksOfGone_34 : decode cX1_ticksOfGone 34 = .ok (.lload_n 1, 1) := by decide +kernel
theorem dX1_ticksOfGone_35 : decode cX1_ticksOfGone 35 = .ok (.aload 4, 2) := by decide +kernel
theorem dX1_ticksOfGone_37 : decode cX1_ticksOfGone 37 = .ok (.getfield 111, 3) := by decide +kernel
theorem dX1_ticksOfGone_40 : decode cX1_ticksOfGone 40 = .ok (.aload 4, 2) := by decide +kernel
theorem dX1_ticksOfGone_42 : decode cX1_ticksOfGone 42 = .ok (.getfield 114, 3) := by decide +kernel
theorem dX1_ticksOfGone_45 : decode cX1_ticksOfGone 45 = .ok (.isub, 1) := by decide +kernel
theorem dX1_ticksOfGone_46 : decode cX1_ticksOfGone 46 = .ok (.i2l, 1) := by decide +kernel
theorem dX1_ticksOfGone_47 : decode cX1_ticksOfGone 47 = .ok (.ladd, 1) := by decide +kernel
theorem dX1_ticksOfGone_48 : decode cX1_ticksOfGone 48 = .ok (.lstore_n 1, 1) := by decide +kernel
theorem dX1_ticksOfGone_49 : decode cX1_ticksOfGone 49 = .ok (.iinc 3 1, 3) := by decide +kernel
theorem dX1_ticksOfGone_52 : decode cX1_ticksOfGone 52 = .ok (.goto (-48), 3) := by decide +kernel
theorem dX1_ticksOfGone_55 : decode cX1_ticksOfGone 55 = .ok (.lload_n 1, 1) := by decide +kernel
theorem dX1_ticksOfGone_56 : decode cX1_ticksOfGone 56 = .ok (.lreturn, 1) := by decide +kernel
theorem dX1_totalOf_0 : decode cX1_totalOf 0 = .ok (.iconst 0, 1) := by decide +kernel
theorem dX1_totalOf_1 : decode cX1_totalOf 1 = .ok (.istore_n 2, 1) := by decide +kernel
theorem dX1_totalOf_2 : decode cX1_totalOf 2 = .ok (.iconst 0, 1) := by decide +kernel
theorem dX1_totalOf_3 : decode cX1_totalOf 3 = .ok (.istore_n 3, 1) := by decide +kernel
theorem dX1_totalOf_4 : decode cX1_totalOf 4 = .ok (.iload_n 3, 1) := by decide +kernel
theorem dX1_totalOf_5 : decode cX1_totalOf 5 = .ok (.aload_n 0, 1) := by decide +kernel
theorem dX1_totalOf_6 : decode cX1_totalOf 6 = .ok (.getfield 54, 3) := by decide +kernel
theorem dX1_totalOf_9 : decode cX1_totalOf 9 = .ok (.if_icmp .ge 41, 3) := by decide +kernel
theorem dX1_totalOf_12 : decode cX1_totalOf 12 = .ok (.aload_n 0, 1) := by decide +kernel
theorem dX1_totalOf_13 : decode cX1_totalOf 13 = .ok (.iload_n 3, 1) := by decide +kernel
theorem dX1_totalOf_14 : decode cX1_totalOf 14 = .ok (.invokevirtual 72, 3) := by decide +kernel
theorem dX1_totalOf_17 : decode cX1_totalOf 17 = .ok (.astore 4, 2) := by decide +kernel
theorem dX1_totalOf_19 : decode cX1_totalOf 19 = .ok (.aload 4, 2) := by decide +kernel
theorem dX1_totalOf_21 : decode cX1_totalOf 21 = .ok (.ifnull 23, 3) := by decide +kernel
theorem dX1_totalOf_24 : decode cX1_totalOf 24 = .ok (.aload 4, 2) := by decide +kernel
theorem dX1_totalOf_26 : decode cX1_totalOf 26 = .ok (.getfield 117, 3) := by decide +kernel
theorem dX1_totalOf_29 : decode cX1_totalOf 29 = .ok (.ifnull 15, 3) := by decide +kernel
theorem dX1_totalOf_32 : decode cX1_totalOf 32 = .ok (.iload_n 2, 1) := by decide +kernel
theorem dX1_totalOf_33 : decode cX1_totalOf 33 = .ok (.aload 4, 2) := by decide +kernel
theorem dX1_totalOf_35 : decode cX1_totalOf 35 = .ok (.getfield 117, 3) := by decide +kernel
theorem dX1_totalOf_38 : decode cX1_totalOf 38 = .ok (.iload_n 1, 1) := by decide +kernel
theorem dX1_totalOf_39 : decode cX1_totalOf 39 = .ok (.invokevirtual 121, 3) := by decide +kernel
theorem dX1_totalOf_42 : decode cX1_totalOf 42 = .ok (.iadd, 1) := by decide +kernel
theorem dX1_totalOf_43 : decode cX1_totalOf 43 = .ok (.istore_n 2, 1) := by decide +kernel
theorem dX1_totalOf_44 : decode cX1_totalOf 44 = .ok (.iinc 3 1, 3) := by decide +kernel
theorem dX1_totalOf_47 : decode cX1_totalOf 47 = .ok (.goto (-43), 3) := by decide +kernel
theorem dX1_totalOf_50 : decode cX1_totalOf 50 = .ok (.iload_n 2, 1) := by decide +kernel
theorem dX1_totalOf_51 : decode cX1_totalOf 51 = .ok (.ireturn, 1) := by decide +kernel
theorem dX1_passTick_0 : decode cX1_passTick 0 = .ok (.aload_n 0, 1) := by decide +kernel
theorem dX1_passTick_1 : decode cX1_passTick 1 = .ok (.invokevirtual 125, 3) := by decide +kernel
theorem dX1_passTick_4 : decode cX1_passTick 4 = .ok (.iconst 1, 1) := by decide +kernel
theorem dX1_passTick_5 : decode cX1_passTick 5 = .ok (.if_icmp .ne 7, 3) := by decide +kernel
theorem dX1_passTick_8 : decode cX1_passTick 8 = .ok (.iconst 1, 1) := by decide +kernel
theorem dX1_passTick_9 : decode cX1_passTick 9 = .ok (.goto 4, 3) := by decide +kernel
theorem dX1_passTick_12 : decode cX1_passTick 12 = .ok (.iconst 0, 1) := by decide +kernel
theorem dX1_passTick_13 : decode cX1_passTick 13 = .ok (.istore_n 1, 1) := by decide +kernel
theorem dX1_passTick_14 : decode cX1_passTick 14 = .ok (.aload_n 0, 1) := by decide +kernel
theorem dX1_passTick_15 : decode cX1_passTick 15 = .ok (.dup, 1) := by decide +kernel
theorem dX1_passTick_16 : decode cX1_passTick 16 = .ok (.getfield 57, 3) := by decide +kernel
theorem dX1_passTick_19 : decode cX1_passTick 19 = .ok (.iconst 1, 1) := by decide +kernel
theorem dX1_passTick_20 : decode cX1_passTick 20 = .ok (.iadd, 1) := by decide +kernel
theorem dX1_passTick_21 : decode cX1_passTick 21 = .ok (.putfield 57, 3) := by decide +kernel
theorem dX1_passTick_24 : decode cX1_passTick 24 = .ok (.iload_n 1, 1) := by decide +kernel
theorem dX1_passTick_25 : decode cX1_passTick 25 = .ok (.ifCond .eq 7, 3) := by decide +kernel
theorem dX1_passTick_28 : decode cX1_passTick 28 = .ok (.aload_n 0, 1) := by decide +kernel
theorem dX1_passTick_29 : decode cX1_passTick 29 = .ok (.invokevirtual 129, 3) := by decide +kernel
theorem dX1_passTick_32 : decode cX1_passTick 32 = .ok (.aload_n 0, 1) := by decide +kernel
theorem dX1_passTick_33 : decode cX1_passTick 33 = .ok (.iconst 1, 1) := by decide +kernel
theorem dX1_passTick_34 : decode cX1_passTick 34 = .ok (.invokevirtual 132, 3) := by decide +kernel
theorem dX1_passTick_37 : decode cX1_passTick 37 = .ok (.aload_n 0, 1) := by decide +kernel
theorem dX1_passTick_38 : decode cX1_passTick 38 = .ok (.getfield 51, 3) := by decide +kernel
theorem dX1_passTick_41 : decode cX1_passTick 41 = .ok (.iconst 1, 1) := by decide +kernel
theorem dX1_passTick_42 : decode cX1_passTick 42 = .ok (.isub, 1) := by decide +kernel
theorem dX1_passTick_43 : decode cX1_passTick 43 = .ok (.istore_n 2, 1) := by decide +kernel
theorem dX1_passTick_44 : decode cX1_passTick 44 = .ok (.iload_n 2, 1) := by decide +kernel
theorem dX1_passTick_45 : decode cX1_passTick 45 = .ok (.ifCond .lt 14, 3) := by decide +kernel
theorem dX1_passTick_48 : decode cX1_passTick 48 = .ok (.aload_n 0, 1) := by decide +kernel
theorem dX1_passTick_49 : decode cX1_passTick 49 = .ok (.iload_n 2, 1) := by decide +kernel
theorem dX1_passTick_50 : decode cX1_passTick 50 = .ok (.invokevirtual 135, 3) := by decide +kernel
theorem dX1_passTick_53 : decode cX1_passTick 53 = .ok (.iinc 2 (-1), 3) := by decide +kernel
theorem dX1_passTick_56 : decode cX1_passTick 56 = .ok (.goto (-12), 3) := by decide +kernel
theorem dX1_passTick_59 : decode cX1_passTick 59 = .ok (.aload_n 0, 1) := by decide +kernel
theorem dX1_passTick_60 : decode cX1_passTick 60 = .ok (.invokevirtual 138, 3) := by decide +kernel
theorem dX1_passTick_63 : decode cX1_passTick 63 = .ok (.aload_n 0, 1) := by decide +kernel
theorem dX1_passTick_64 : decode cX1_passTick 64 = .ok (.invokevirtual 141, 3) := by decide +kernel
theorem dX1_passTick_67 : decode cX1_passTick 67 = .ok (.return_, 1) := by decide +kernel
theorem dX1_passQuietTicks_0 : decode cX1_passQuietTicks 0 = .ok (.aload_n 0, 1) := by decide +kernel
theorem dX1_passQuietTicks_1 : decode cX1_passQuietTicks 1 = .ok (.dup, 1) := by decide +kernel
theorem dX1_passQuietTicks_2 : decode cX1_passQuietTicks 2 = .ok (.getfield 57, 3) := by decide +kernel
theorem dX1_passQuietTicks_5 : decode cX1_passQuietTicks 5 = .ok (.iload_n 1, 1) := by decide +kernel
theorem dX1_passQuietTicks_6 : decode cX1_passQuietTicks 6 = .ok (.iadd, 1) := by decide +kernel
theorem dX1_passQuietTicks_7 : decode cX1_passQuietTicks 7 = .ok (.putfield 57, 3) := by decide +kernel
theorem dX1_passQuietTicks_10 : decode cX1_passQuietTicks 10 = .ok (.aload_n 0, 1) := by decide +kernel
theorem dX1_passQuietTicks_11 : decode cX1_passQuietTicks 11 = .ok (.iload_n 1, 1) := by decide +kernel
theorem dX1_passQuietTicks_12 : decode cX1_passQuietTicks 12 = .ok (.invokevirtual 132, 3) := by decide +kernel
theorem dX1_passQuietTicks_15 : decode cX1_passQuietTicks 15 = .ok (.return_, 1) := by decide +kernel
theorem dX1_quietTicks_0 : decode cX1_quietTicks 0 = .ok (.aload_n 0, 1) := by decide +kernel
theorem dX1_quietTicks_1 : decode cX1_quietTicks 1 = .ok (.invokevirtual 144, 3) := by decide +kernel
theorem dX1_quietTicks_4 : decode cX1_quietTicks 4 = .ok (.ifCond .ne 10, 3) := by decide +kernel
theorem dX1_quietTicks_7 : decode cX1_quietTicks 7 = .ok (.aload_n 0, 1) := by decide +kernel
theorem dX1_quietTicks_8 : decode cX1_quietTicks 8 = .ok (.invokevirtual 148, 3) := by decide +kernel
theorem dX1_quietTicks_11 : decode cX1_quietTicks 11 = .ok (.ifCond .eq 5, 3) := by decide +kernel
theorem dX1_quietTicks_14 : decode cX1_quietTicks 14 = .ok (.iconst 0, 1) := by decide +kernel
theorem dX1_quietTicks_15 : decode cX1_quietTicks 15 = .ok (.ireturn, 1) := by decide +kernel
theorem dX1_quietTicks_16 : decode cX1_quietTicks 16 = .ok (.aload_n 0, 1) := by decide +kernel
theorem dX1_quietTicks_17 : decode cX1_quietTicks 17 = .ok (.invokevirtual 125, 3) := by decide +kernel
theorem dX1_quietTicks_20 : decode cX1_quietTicks 20 = .ok (.iconst 1, 1) := by decide +kernel
theorem dX1_quietTicks_21 : decode cX1_quietTicks 21 = .ok (.isub, 1) := by decide +kernel
theorem dX1_quietTicks_22 : decode cX1_quietTicks 22 = .ok (.istore_n 1, 1) := by decide +kernel
theorem dX1_quietTicks_23 : decode cX1_quietTicks 23 = .ok (.iconst 0, 1) := by decide +kernel
theorem dX1_quietTicks_24 : decode cX1_quietTicks 24 = .ok (.istore_n 2, 1) := by decide +kernel
theorem dX1_quietTicks_25 : decode cX1_quietTicks 25 = .ok (.iload_n 2, 1) := by decide +kernel
theorem dX1_quietTicks_26 : decode cX1_quietTicks 26 = .ok (.aload_n 0, 1) := by decide +kernel
theorem dX1_quietTicks_27 : decode cX1_quietTicks 27 = .ok (.getfield 51, 3) := by decide +kernel
theorem dX1_quietTicks_30 : decode cX1_quietTicks 30 = .ok (.if_icmp .ge 19, 3) := by decide +kernel
theorem dX1_quietTicks_33 : decode cX1_quietTicks 33 = .ok (.iload_n 1, 1) := by decide +kernel
theorem dX1_quietTicks_34 : decode cX1_quietTicks 34 = .ok (.aload_n 0, 1) := by decide +kernel
theorem dX1_quietTicks_35 : decode cX1_quietTicks 35 = .ok (.iload_n 2, 1) := by decide +kernel
theorem dX1_quietTicks_36 : decode cX1_quietTicks 36 = .ok (.invokevirtual 151, 3) := by decide +kernel
theorem dX1_quietTicks_39 : decode cX1_quietTicks 39 = .ok (.invokestatic 154, 3) := by decide +kernel
theorem dX1_quietTicks_42 : decode cX1_quietTicks 42 = .ok (.istore_n 1, 1) := by decide +kernel
theorem dX1_quietTicks_43 : decode cX1_quietTicks 43 = .ok (.iinc 2 1, 3) := by decide +kernel
theorem dX1_quietTicks_46 : decode cX1_quietTicks 46 = .ok (.goto (-21), 3) := by decide +kernel
theorem dX1_quietTicks_49 : decode cX1_quietTicks 49 = .ok (.iload_n 1, 1) := by decide +kernel
theorem dX1_quietTicks_50 : decode cX1_quietTicks 50 = .ok (.iconst 0, 1) := by decide +kernel
theorem dX1_quietTicks_51 : decode cX1_quietTicks 51 = .ok (.invokestatic 160, 3) := by decide +kernel
theorem dX1_quietTicks_54 : decode cX1_quietTicks 54 = .ok (.ireturn, 1) := by decide +kernel
theorem dX1_quietTicksAt_0 : decode cX1_quietTicksAt 0 = .ok (.aload_n 0, 1) := by decide +kernel
theorem dX1_quietTicksAt_1 : decode cX1_quietTicksAt 1 = .ok (.iload_n 1, 1) := by decide +kernel
theorem dX1_quietTicksAt_2 : decode cX1_quietTicksAt 2 = .ok (.invokevirtual 163, 3) := by decide +kernel
theorem dX1_quietTicksAt_5 : decode cX1_quietTicksAt 5 = .ok (.astore_n 2, 1) := by decide +kernel
theorem dX1_quietTicksAt_6 : decode cX1_quietTicksAt 6 = .ok (.aload_n 2, 1) := by decide +kernel
theorem dX1_quietTicksAt_7 : decode cX1_quietTicksAt 7 = .ok (.ifnonnull 7, 3) := by decide +kernel
theorem dX1_quietTicksAt_10 : decode cX1_quietTicksAt 10 = .ok (.sipush 300, 3) := by decide +kernel
theorem dX1_quietTicksAt_13 : decode cX1_quietTicksAt 13 = .ok (.ireturn, 1) := by decide +kernel
theorem dX1_quietTicksAt_14 : decode cX1_quietTicksAt 14 = .ok (.aload_n 2, 1) := by decide +kernel
theorem dX1_quietTicksAt_15 : decode cX1_quietTicksAt 15 = .ok (.getfield 166, 3) := by decide +kernel
theorem dX1_quietTicksAt_18 : decode cX1_quietTicksAt 18 = .ok (.ifCond .le 10, 3) := by decide +kernel
theorem dX1_quietTicksAt_21 : decode cX1_quietTicksAt 21 = .ok (.aload_n 2, 1) := by decide +kernel
theorem dX1_quietTicksAt_22 : decode cX1_quietTicksAt 22 = .ok (.getfield 166, 3) := by decide +kernel
theorem dX1_quietTicksAt_25 : decode cX1_quietTicksAt 25 = .ok (.iconst 1, 1) := by decide +kernel
theorem dX1_quietTicksAt_26 : decode cX1_quietTicksAt 26 = .ok (.isub, 1) := by decide +kernel
theorem dX1_quietTicksAt_27 : decode cX1_quietTicksAt 27 = .ok (.ireturn, 1) := by decide +kernel
theorem dX1_quietTicksAt_28 : decode cX1_quietTicksAt 28 = .ok (.aload_n 0, 1) := by decide +kernel
theorem dX1_quietTicksAt_29 : decode cX1_quietTicksAt 29 = .ok (.aload_n 2, 1) := by decide +kernel
theorem dX1_quietTicksAt_30 : decode cX1_quietTicksAt 30 = .ok (.invokevirtual 169, 3) := by decide +kernel
theorem dX1_quietTicksAt_33 : decode cX1_quietTicksAt 33 = .ok (.ifCond .eq 9, 3) := by decide +kernel
theorem dX1_quietTicksAt_36 : decode cX1_quietTicksAt 36 = .ok (.sipush 300, 3) := by decide +kernel
theorem dX1_quietTicksAt_39 : decode cX1_quietTicksAt 39 = .ok (.goto 4, 3) := by decide +kernel
theorem dX1_quietTicksAt_42 : decode cX1_quietTicksAt 42 = .ok (.iconst 0, 1) := by decide +kernel
theorem dX1_quietTicksAt_43 : decode cX1_quietTicksAt 43 = .ok (.ireturn, 1) := by decide +kernel
theorem dX1_fillShelves_0 : decode cX1_fillShelves 0 = .ok (.iconst 0, 1) := by decide +kernel
theorem dX1_fillShelves_1 : decode cX1_fillShelves 1 = .ok (.istore_n 1, 1) := by decide +kernel
theorem dX1_fillShelves_2 : decode cX1_fillShelves 2 = .ok (.iload_n 1, 1) := by decide +kernel
theorem dX1_fillShelves_3 : decode cX1_fillShelves 3 = .ok (.aload_n 0, 1) := by decide +kernel
theorem dX1_fillShelves_4 : decode cX1_fillShelves 4 = .ok (.getfield 51, 3) := by decide +kernel
theorem dX1_fillShelves_7 : decode cX1_fillShelves 7 = .ok (.if_icmp .ge 68, 3) := by decide +kernel
theorem dX1_fillShelves_10 : decode cX1_fillShelves 10 = .ok (.aload_n 0, 1) := by decide +kernel
theorem dX1_fillShelves_11 : decode cX1_fillShelves 11 = .ok (.iload_n 1, 1) := by decide +kernel
theorem dX1_fillShelves_12 : decode cX1_fillShelves 12 = .ok (.invokevirtual 64, 3) := by decide +kernel
theorem dX1_fillShelves_15 : decode cX1_fillShelves 15 = .ok (.astore_n 2, 1) := by decide +kernel
theorem dX1_fillShelves_16 : decode cX1_fillShelves 16 = .ok (.aload_n 2, 1) := by decide +kernel
theorem dX1_fillShelves_17 : decode cX1_fillShelves 17 = .ok (.ifnull 52, 3) := by decide +kernel
theorem dX1_fillShelves_20 : decode cX1_fillShelves 20 = .ok (.aload_n 2, 1) := by decide +kernel
theorem dX1_fillShelves_21 : decode cX1_fillShelves 21 = .ok (.getfield 173, 3) := by decide +kernel
theorem dX1_fillShelves_24 : decode cX1_fillShelves 24 = .ok (.iconst (-1), 1) := by decide +kernel
theorem dX1_fillShelves_25 : decode cX1_fillShelves 25 = .ok (.if_icmp .eq 44, 3) := by decide +kernel
theorem dX1_fillShelves_28 : decode cX1_fillShelves 28 = .ok (.aload_n 2, 1) := by decide +kernel
theorem dX1_fillShelves_29 : decode cX1_fillShelves 29 = .ok (.getfield 176, 3) := by decide +kernel
theorem dX1_fillShelves_32 : decode cX1_fillShelves 32 = .ok (.aload_n 2, 1) := by decide +kernel
theorem dX1_fillShelves_33 : decode cX1_fillShelves 33 = .ok (.getfield 179, 3) := by decide +kernel
theorem dX1_fillShelves_36 : decode cX1_fillShelves 36 = .ok (.isub, 1) := by decide +kernel
theorem dX1_fillShelves_37 : decode cX1_fillShelves 37 = .ok (.aload_n 0, 1) := by decide +kernel
theorem dX1_fillShelves_38 : decode cX1_fillShelves 38 = .ok (.aload_n 2, 1) := by decide +kernel
theorem dX1_fillShelves_39 : decode cX1_fillShelves 39 = .ok (.getfield 173, 3) := by decide +kernel
theorem dX1_fillShelves_42 : decode cX1_fillShelves 42 = .ok (.invokevirtual 60, 3) := by decide +kernel
theorem dX1_fillShelves_45 : decode cX1_fillShelves 45 = .ok (.invokestatic 154, 3) := by decide +kernel
theorem dX1_fillShelves_48 : decode cX1_fillShelves 48 = .ok (.istore_n 3, 1) := by decide +kernel
theorem dX1_fillShelves_49 : decode cX1_fillShelves 49 = .ok (.aload_n 2, 1) := by decide +kernel
theorem dX1_fillShelves_50 : decode cX1_fillShelves 50 = .ok (.dup, 1) := by decide +kernel
theorem dX1_fillShelves_51 : decode cX1_fillShelves 51 = .ok (.getfield 179, 3) := by decide +kernel
theorem dX1_fillShelves_54 : decode cX1_fillShelves 54 = .ok (.iload_n 3, 1) := by decide +kernel
theorem dX1_fillShelves_55 : decode cX1_fillShelves 55 = .ok (.iadd, 1) := by decide +kernel
theorem dX1_fillShelves_56 : decode cX1_fillShelves 56 = .ok (.putfield 179, 3) := by decide +kernel
theorem dX1_fillShelves_59 : decode cX1_fillShelves 59 = .ok (.aload_n 0, 1) := by decide +kernel
theorem dX1_fillShelves_60 : decode cX1_fillShelves 60 = .ok (.aload_n 2, 1) := by decide +kernel
theorem dX1_fillShelves_61 : decode cX1_fillShelves 61 = .ok (.getfield 173, 3) := by decide +kernel
theorem dX1_fillShelves_64 : decode cX1_fillShelves 64 = .ok (.iload_n 3, 1) := by decide +kernel
theorem dX1_fillShelves_65 : decode cX1_fillShelves 65 = .ok (.ineg, 1) := by decide +kernel
theorem dX1_fillShelves_66 : decode cX1_fillShelves 66 = .ok (.invokevirtual 182, 3) := by decide +kernel
theorem dX1_fillShelves_69 : decode cX1_fillShelves 69 = .ok (.iinc 1 1, 3) := by decide +kernel
theorem dX1_fillShelves_72 : decode cX1_fillShelves 72 = .ok (.goto (-70), 3) := by decide +kernel
theorem dX1_fillShelves_75 : decode cX1_fillShelves 75 = .ok (.return_, 1) := by decide +kernel
theorem dX1_countDown_0 : decode cX1_countDown 0 = .ok (.iconst 0, 1) := by decide +kernel
theorem dX1_countDown_1 : decode cX1_countDown 1 = .ok (.istore_n 2, 1) := by decide +kernel
theorem dX1_countDown_2 : decode cX1_countDown 2 = .ok (.iload_n 2, 1) := by decide +kernel
theorem dX1_countDown_3 : decode cX1_countDown 3 = .ok (.aload_n 0, 1) := by decide +kernel
theorem dX1_countDown_4 : decode cX1_countDown 4 = .ok (.getfield 51, 3) := by decide +kernel
theorem dX1_countDown_7 : decode cX1_countDown 7 = .ok (.if_icmp .ge 33, 3) := by decide +kernel
theorem dX1_countDown_10 : decode cX1_countDown 10 = .ok (.aload_n 0, 1) := by decide +kernel
theorem dX1_countDown_11 : decode cX1_countDown 11 = .ok (.iload_n 2, 1) := by decide +kernel
theorem dX1_countDown_12 : decode cX1_countDown 12 = .ok (.invokevirtual 163, 3) := by decide +kernel
theorem dX1_countDown_15 : decode cX1_countDown 15 = .ok (.astore_n 3, 1) := by decide +kernel
theorem dX1_countDown_16 : decode cX1_countDown 16 = .ok (.aload_n 3, 1) := by decide +kernel
theorem dX1_countDown_17 : decode cX1_countDown 17 = .ok (.ifnull 17, 3) := by decide +kernel
theorem dX1_countDown_20 : decode cX1_countDown 20 = .ok (.aload_n 3, 1) := by decide +kernel
theorem dX1_countDown_21 : decode cX1_countDown 21 = .ok (.aload_n 3, 1) := by decide +kernel
theorem dX1_countDown_22 : decode cX1_countDown 22 = .ok (.getfield 166, 3) := by decide +kernel
theorem dX1_countDown_25 : decode cX1_countDown 25 = .ok (.iload_n 1, 1) := by decide +kernel
theorem dX1_countDown_26 : decode cX1_countDown 26 = .ok (.isub, 1) := by decide +kernel
theorem dX1_countDown_27 : decode cX1_countDown 27 = .ok (.iconst 0, 1) := by decide +kernel
theorem dX1_countDown_28 : decode cX1_countDown 28 = .ok (.invokestatic 160, 3) := by decide +kernel
theorem dX1_countDown_31 : decode cX1_countDown 31 = .ok (.putfield 166, 3) := by decide +kernel
theorem dX1_countDown_34 : decode cX1_countDown 34 = .ok (.iinc 2 1, 3) := by decide +kernel
theorem dX1_countDown_37 : decode cX1_countDown 37 = .ok (.goto (-35), 3) := by decide +kernel
theorem dX1_countDown_40 : decode cX1_countDown 40 = .ok (.return_, 1) := by decide +kernel
theorem dX1_standingAt_0 : decode cX1_standingAt 0 = .ok (.aload_n 0, 1) := by decide +kernel
theorem dX1_standingAt_1 : decode cX1_standingAt 1 = .ok (.iload_n 1, 1) := by decide +kernel
theorem dX1_standingAt_2 : decode cX1_standingAt 2 = .ok (.invokevirtual 64, 3) := by decide +kernel
theorem dX1_standingAt_5 : decode cX1_standingAt 5 = .ok (.astore_n 2, 1) := by decide +kernel
theorem dX1_standingAt_6 : decode cX1_standingAt 6 = .ok (.aload_n 2, 1) := by decide +kernel
theorem dX1_standingAt_7 : decode cX1_standingAt 7 = .ok (.ifnonnull 7, 3) := by decide +kernel
theorem dX1_standingAt_10 : decode cX1_standingAt 10 = .ok (.aconst_null, 1) := by decide +kernel
theorem dX1_standingAt_11 : decode cX1_standingAt 11 = .ok (.goto 11, 3) := by decide +kernel
theorem dX1_standingAt_14 : decode cX1_standingAt 14 = .ok (.aload_n 0, 1) := by decide +kernel
theorem dX1_standingAt_15 : decode cX1_standingAt 15 = .ok (.aload_n 2, 1) := by decide +kernel
theorem dX1_standingAt_16 : decode cX1_standingAt 16 = .ok (.getfield 186, 3) := by decide +kernel
theorem dX1_standingAt_19 : decode cX1_standingAt 19 = .ok (.invokevirtual 72, 3) := by decide +kernel
theorem dX1_standingAt_22 : decode cX1_standingAt 22 = .ok (.areturn, 1) := by decide +kernel
theorem dX1_isFree_0 : decode cX1_isFree 0 = .ok (.aload_n 0, 1) := by decide +kernel
theorem dX1_isFree_1 : decode cX1_isFree 1 = .ok (.iload_n 1, 1) := by decide +kernel
theorem dX1_isFree_2 : decode cX1_isFree 2 = .ok (.invokevirtual 64, 3) := by decide +kernel
theorem dX1_isFree_5 : decode cX1_isFree 5 = .ok (.astore_n 2, 1) := by decide +kernel
theorem dX1_isFree_6 : decode cX1_isFree 6 = .ok (.aload_n 2, 1) := by decide +kernel
theorem dX1_isFree_7 : decode cX1_isFree 7 = .ok (.ifnull 15, 3) := by decide +kernel
theorem dX1_isFree_10 : decode cX1_isFree 10 = .ok (.aload_n 2, 1) := by decide +kernel
theorem dX1_isFree_11 : decode cX1_isFree 11 = .ok (.getfield 186, 3) := by decide +kernel
theorem dX1_isFree_14 : decode cX1_isFree 14 = .ok (.iconst (-1), 1) := by decide +kernel
theorem dX1_isFree_15 : decode cX1_isFree 15 = .ok (.if_icmp .ne 7, 3) := by decide +kernel
theorem dX1_isFree_18 : decode cX1_isFree 18 = .ok (.iconst 1, 1) := by decide +kernel
theorem dX1_isFree_19 : decode cX1_isFree 19 = .ok (.goto 4, 3) := by decide +kernel
theorem dX1_isFree_22 : decode cX1_isFree 22 = .ok (.iconst 0, 1) := by decide +kernel
theorem dX1_isFree_23 : decode cX1_isFree 23 = .ok (.ireturn, 1) := by decide +kernel
theorem dX1_goesAlong_0 : decode cX1_goesAlong 0 = .ok (.aload_n 1, 1) := by decide +kernel
theorem dX1_goesAlong_1 : decode cX1_goesAlong 1 = .ok (.getfield 189, 3) := by decide +kernel
theorem dX1_goesAlong_4 : decode cX1_goesAlong 4 = .ok (.ifCond .ne 20, 3) := by decide +kernel
theorem dX1_goesAlong_7 : decode cX1_goesAlong 7 = .ok (.aload_n 1, 1) := by decide +kernel
theorem dX1_goesAlong_8 : decode cX1_goesAlong 8 = .ok (.getfield 193, 3) := by decide +kernel
theorem dX1_goesAlong_11 : decode cX1_goesAlong 11 = .ok (.iconst 1, 1) := by decide +kernel
theorem dX1_goesAlong_12 : decode cX1_goesAlong 12 = .ok (.iadd, 1) := by decide +kernel
theorem dX1_goesAlong_13 : decode cX1_goesAlong 13 = .ok (.aload_n 0, 1) := by decide +kernel
theorem dX1_goesAlong_14 : decode cX1_goesAlong 14 = .ok (.getfield 51, 3) := by decide +kernel
theorem dX1_goesAlong_17 : decode cX1_goesAlong 17 = .ok (.if_icmp .ge 7, 3) := by decide +kernel
theorem dX1_goesAlong_20 : decode cX1_goesAlong 20 = .ok (.iconst 1, 1) := by decide +kernel
theorem dX1_goesAlong_21 : decode cX1_goesAlong 21 = .ok (.goto 4, 3) := by decide +kernel
theorem dX1_goesAlong_24 : decode cX1_goesAlong 24 = .ok (.iconst 0, 1) := by decide +kernel
theorem dX1_goesAlong_25 : decode cX1_goesAlong 25 = .ok (.ireturn, 1) := by decide +kernel
theorem dX1_isHeldUp_0 : decode cX1_isHeldUp 0 = .ok (.aload_n 0, 1) := by decide +kernel
theorem dX1_isHeldUp_1 : decode cX1_isHeldUp 1 = .ok (.aload_n 1, 1) := by decide +kernel
theorem dX1_isHeldUp_2 : decode cX1_isHeldUp 2 = .ok (.invokevirtual 196, 3) := by decide +kernel
theorem dX1_isHeldUp_5 : decode cX1_isHeldUp 5 = .ok (.ifCond .eq 20, 3) := by decide +kernel
theorem dX1_isHeldUp_8 : decode cX1_isHeldUp 8 = .ok (.aload_n 0, 1) := by decide +kernel
theorem dX1_isHeldUp_9 : decode cX1_isHeldUp 9 = .ok (.aload_n 1, 1) := by decide +kernel
theorem dX1_isHeldUp_10 : decode cX1_isHeldUp 10 = .ok (.getfield 193, 3) := by decide +kernel
theorem dX1_isHeldUp_13 : decode cX1_isHeldUp 13 = .ok (.iconst 1, 1) := by decide +kernel
theorem dX1_isHeldUp_14 : decode cX1_isHeldUp 14 = .ok (.iadd, 1) := by decide +kernel
theorem dX1_isHeldUp_15 : decode cX1_isHeldUp 15 = .ok (.invokevirtual 199, 3) := by decide +kernel
theorem dX1_isHeldUp_18 : decode cX1_isHeldUp 18 = .ok (.ifCond .ne 7, 3) := by decide +kernel
theorem dX1_isHeldUp_21 : decode cX1_isHeldUp 21 = .ok (.iconst 1, 1) := by decide +kernel
theorem dX1_isHeldUp_22 : decode cX1_isHeldUp 22 = .ok (.goto 4, 3) := by decide +kernel
theorem dX1_isHeldUp_25 : decode cX1_isHeldUp 25 = .ok (.iconst 0, 1) := by decide +kernel
theorem dX1_isHeldUp_26 : decode cX1_isHeldUp 26 = .ok (.ireturn, 1) := by decide +kernel
theorem dX1_moveOn_0 : decode cX1_moveOn 0 = .ok (.aload_n 0, 1) := by decide +kernel
theorem dX1_moveOn_1 : decode cX1_moveOn 1 = .ok (.iload_n 1, 1) := by decide +kernel
theorem dX1_moveOn_2 : decode cX1_moveOn 2 = .ok (.invokevirtual 64, 3) := by decide +kernel
theorem dX1_moveOn_5 : decode cX1_moveOn 5 = .ok (.astore_n 2, 1) := by decide +kernel
theorem dX1_moveOn_6 : decode cX1_moveOn 6 = .ok (.aload_n 0, 1) := by decide +kernel
theorem dX1_moveOn_7 : decode cX1_moveOn 7 = .ok (.iload_n 1, 1) := by decide +kernel
theorem dX1_moveOn_8 : decode cX1_moveOn 8 = .ok (.invokevirtual 163, 3) := by decide +kernel
theorem dX1_moveOn_11 : decode cX1_moveOn 11 = .ok (.astore_n 3, 1) := by decide +kernel
theorem dX1_moveOn_12 : decode cX1_moveOn 12 = .ok (.aload_n 2, 1) := by decide +kernel
theorem dX1_moveOn_13 : decode cX1_moveOn 13 = .ok (.ifnull 22, 3) := by decide +kernel
theorem dX1_moveOn_16 : decode cX1_moveOn 16 = .ok (.aload_n 3, 1) := by decide +kernel
theorem dX1_moveOn_17 : decode cX1_moveOn 17 = .ok (.ifnull 18, 3) := by decide +kernel
theorem dX1_moveOn_20 : decode cX1_moveOn 20 = .ok (.aload_n 3, 1) := by decide +kernel
theorem dX1_moveOn_21 : decode cX1_moveOn 21 = .ok (.getfield 166, 3) := by decide +kernel
theorem dX1_moveOn_24 : decode cX1_moveOn 24 = .ok (.ifCond .gt 11, 3) := by decide +kernel
theorem dX1_moveOn_27 : decode cX1_moveOn 27 = .ok (.aload_n 0, 1) := by decide +kernel
theorem dX1_moveOn_28 : decode cX1_moveOn 28 = .ok (.aload_n 3, 1) := by decide +kernel
theorem dX1_moveOn_29 : decode cX1_moveOn 29 = .ok (.invokevirtual 169, 3) := by decide +kernel
theorem dX1_moveOn_32 : decode cX1_moveOn 32 = .ok (.ifCond .eq 4, 3) := by decide +kernel
theorem dX1_moveOn_35 : decode cX1_moveOn 35 = .ok (.return_, 1) := by decide +kernel
theorem dX1_moveOn_36 : decode cX1_moveOn 36 = .ok (.aload_n 2, 1) := by decide +kernel
theorem dX1_moveOn_37 : decode cX1_moveOn 37 = .ok (.iconst (-1), 1) := by decide +kernel
theorem dX1_moveOn_38 : decode cX1_moveOn 38 = .ok (.putfield 186, 3) := by decide +kernel
theorem dX1_moveOn_41 : decode cX1_moveOn 41 = .ok (.aload_n 0, 1) := by decide +kernel
theorem dX1_moveOn_42 : decode cX1_moveOn 42 = .ok (.aload_n 3, 1) := by decide +kernel
theorem dX1_moveOn_43 : decode cX1_moveOn 43 = .ok (.invokevirtual 196, 3) := by decide +kernel
theorem dX1_moveOn_46 : decode cX1_moveOn 46 = .ok (.ifCond .eq 15, 3) := by decide +kernel
theorem dX1_moveOn_49 : decode cX1_moveOn 49 = .ok (.aload_n 0, 1) := by decide +kernel
theorem dX1_moveOn_50 : decode cX1_moveOn 50 = .ok (.aload_n 3, 1) := by decide +kernel
theorem dX1_moveOn_51 : decode cX1_moveOn 51 = .ok (.iload_n 1, 1) := by decide +kernel
theorem dX1_moveOn_52 : decode cX1_moveOn 52 = .ok (.iconst 1, 1) := by decide +kernel
theorem dX1_moveOn_53 : decode cX1_moveOn 53 = .ok (.iadd, 1) := by decide +kernel
theorem dX1_moveOn_54 : decode cX1_moveOn 54 = .ok (.iconst 0, 1) := by decide +kernel
theorem dX1_moveOn_55 : decode cX1_moveOn 55 = .ok (.invokevirtual 203, 3) := by decide +kernel
theorem dX1_moveOn_58 : decode cX1_moveOn 58 = .ok (.goto 23, 3) := by decide +kernel
theorem dX1_moveOn_61 : decode cX1_moveOn 61 = .ok (.aload_n 3, 1) := by decide +kernel
theorem dX1_moveOn_62 : decode cX1_moveOn 62 = .ok (.getfield 207, 3) := by decide +kernel
theorem dX1_moveOn_65 : decode cX1_moveOn 65 = .ok (.ifCond .ne 11, 3) := by decide +kernel
theorem dX1_moveOn_68 : decode cX1_moveOn 68 = .ok (.aload_n 0, 1) := by decide +kernel
theorem dX1_moveOn_69 : decode cX1_moveOn 69 = .ok (.aload_n 3, 1) := by decide +kernel
theorem dX1_moveOn_70 : decode cX1_moveOn 70 = .ok (.invokevirtual 210, 3) := by decide +kernel
theorem dX1_moveOn_73 : decode cX1_moveOn 73 = .ok (.goto 8, 3) := by decide +kernel
theorem dX1_moveOn_76 : decode cX1_moveOn 76 = .ok (.aload_n 0, 1) := by decide +kernel
theorem dX1_moveOn_77 : decode cX1_moveOn 77 = .ok (.aload_n 3, 1) := by decide +kernel
theorem dX1_moveOn_78 : decode cX1_moveOn 78 = .ok (.invokevirtual 213, 3) := by decide +kernel
theorem dX1_moveOn_81 : decode cX1_moveOn 81 = .ok (.return_, 1) := by decide +kernel
theorem dX1_enter_0 : decode cX1_enter 0 = .ok (.aload_n 0, 1) := by decide +kernel
theorem dX1_enter_1 : decode cX1_enter 1 = .ok (.iload_n 2, 1) := by decide +kernel
theorem dX1_enter_2 : decode cX1_enter 2 = .ok (.invokevirtual 64, 3) := by decide +kernel
theorem dX1_enter_5 : decode cX1_enter 5 = .ok (.astore 4, 2) := by decide +kernel
theorem dX1_enter_7 : decode cX1_enter 7 = .ok (.aload 4, 2) := by decide +kernel
theorem dX1_enter_9 : decode cX1_enter 9 = .ok (.ifnonnull 4, 3) := by decide +kernel
theorem dX1_enter_12 : decode cX1_enter 12 = .ok (.return_, 1) := by decide +kernel
theorem dX1_enter_13 : decode cX1_enter 13 = .ok (.aload_n 1, 1) := by decide +kernel
theorem dX1_enter_14 : decode cX1_enter 14 = .ok (.getfield 216, 3) := by decide +kernel
theorem dX1_enter_17 : decode cX1_enter 17 = .ok (.ifCond .ne 11, 3) := by decide +kernel
theorem dX1_enter_20 : decode cX1_enter 20 = .ok (.aload_n 1, 1) := by decide +kernel
theorem dX1_enter_21 : decode cX1_enter 21 = .ok (.aload_n 0, 1) := by decide +kernel
theorem dX1_enter_22 : decode cX1_enter 22 = .ok (.getfield 57, 3) := by decide +kernel
theorem dX1_enter_25 : decode cX1_enter 25 = .ok (.putfield 114, 3) := by decide +kernel
theorem dX1_enter_28 : decode cX1_enter 28 = .ok (.aload 4, 2) := by decide +kernel
theorem dX1_enter_30 : decode cX1_enter 30 = .ok (.aload_n 1, 1) := by decide +kernel
theorem dX1_enter_31 : decode cX1_enter 31 = .ok (.iload_n 3, 1) := by decide +kernel
theorem dX1_enter_32 : decode cX1_enter 32 = .ok (.invokevirtual 219, 3) := by decide +kernel
theorem dX1_enter_35 : decode cX1_enter 35 = .ok (.istore 5, 2) := by decide +kernel
theorem dX1_enter_37 : decode cX1_enter 37 = .ok (.aload 4, 2) := by decide +kernel
theorem dX1_enter_39 : decode cX1_enter 39 = .ok (.aload_n 1, 1) := by decide +kernel
theorem dX1_enter_40 : decode cX1_enter 40 = .ok (.getfield 223, 3) := by decide +kernel
theorem dX1_enter_43 : decode cX1_enter 43 = .ok (.putfield 186, 3) := by decide +kernel
theorem dX1_enter_46 : decode cX1_enter 46 = .ok (.aload_n 1, 1) := by decide +kernel
theorem dX1_enter_47 : decode cX1_enter 47 = .ok (.iload_n 2, 1) := by decide +kernel
theorem dX1_enter_48 : decode cX1_enter 48 = .ok (.iload 5, 2) := by decide +kernel
theorem dX1_enter_50 : decode cX1_enter 50 = .ok (.bipush 46, 2) := by decide +kernel
theorem dX1_enter_52 : decode cX1_enter 52 = .ok (.if_icmp .ne 7, 3) := by decide +kernel
theorem dX1_enter_55 : decode cX1_enter 55 = .ok (.iconst 1, 1) := by decide +kernel
theorem dX1_enter_56 : decode cX1_enter 56 = .ok (.goto 8, 3) := by decide +kernel
theorem dX1_enter_59 : decode cX1_enter 59 = .ok (.aload 4, 2) := by decide +kernel
theorem dX1_enter_61 : decode cX1_enter 61 = .ok (.getfield 226, 3) := by decide +kernel
theorem dX1_enter_64 : decode cX1_enter 64 = .ok (.iload_n 3, 1) := by decide +kernel
theorem dX1_enter_65 : decode cX1_enter 65 = .ok (.invokevirtual 229, 3) := by decide +kernel
theorem dX1_enter_68 : decode cX1_enter 68 = .ok (.iload 5, 2) := by decide +kernel
theorem dX1_enter_70 : decode cX1_enter 70 = .ok (.bipush 43, 2) := by decide +kernel
theorem dX1_enter_72 : decode cX1_enter 72 = .ok (.if_icmp .ne 11, 3) := by decide +kernel
theorem dX1_enter_75 : decode cX1_enter 75 = .ok (.aload_n 1, 1) := by decide +kernel
theorem dX1_enter_76 : decode cX1_enter 76 = .ok (.iload_n 2, 1) := by decide +kernel
theorem dX1_enter_77 : decode cX1_enter 77 = .ok (.invokevirtual 233, 3) := by decide +kernel
theorem dX1_enter_80 : decode cX1_enter 80 = .ok (.goto 15, 3) := by decide +kernel
theorem dX1_enter_83 : decode cX1_enter 83 = .ok (.iload 5, 2) := by decide +kernel
theorem dX1_enter_85 : decode cX1_enter 85 = .ok (.bipush 45, 2) := by decide +kernel
theorem dX1_enter_87 : decode cX1_enter 87 = .ok (.if_icmp .ne 8, 3) := by decide +kernel
theorem dX1_enter_90 : decode cX1_enter 90 = .ok (.aload_n 1, 1) := by decide +kernel
theorem dX1_enter_91 : decode cX1_enter 91 = .ok (.iload_n 2, 1) := by decide +kernel
theorem dX1_enter_92 : decode cX1_enter 92 = .ok (.invokevirtual 236, 3) := by decide +kernel
theorem dX1_enter_95 : decode cX1_enter 95 = .ok (.aload_n 0, 1) := by decide +kernel
theorem dX1_enter_96 : decode cX1_enter 96 = .ok (.aload_n 1, 1) := by decide +kernel
theorem dX1_enter_97 : decode cX1_enter 97 = .ok (.bipush 48, 2) := by decide +kernel
theorem dX1_enter_99 : decode cX1_enter 99 = .ok (.iload_n 2, 1) := by decide +kernel
theorem dX1_enter_100 : decode cX1_enter 100 = .ok (.iadd, 1) := by decide +kernel
theorem dX1_enter_101 : decode cX1_enter 101 = .ok (.i2c, 1) := by decide +kernel
theorem dX1_enter_102 : decode cX1_enter 102 = .ok (.invokevirtual 239, 3) := by decide +kernel
theorem dX1_enter_105 : decode cX1_enter 105 = .ok (.aload_n 0, 1) := by decide +kernel
theorem dX1_enter_106 : decode cX1_enter 106 = .ok (.aload_n 1, 1) := by decide +kernel
theorem dX1_enter_107 : decode cX1_enter 107 = .ok (.iload 5, 2) := by decide +kernel
theorem dX1_enter_109 : decode cX1_enter 109 = .ok (.invokevirtual 239, 3) := by decide +kernel
theorem dX1_enter_112 : decode cX1_enter 112 = .ok (.return_, 1) := by decide +kernel
theorem dX1_leave_0 : decode cX1_leave 0 = .ok (.aload_n 1, 1) := by decide +kernel
theorem dX1_leave_1 : decode cX1_leave 1 = .ok (.bipush 100, 2) := by decide +kernel
theorem dX1_leave_3 : decode cX1_leave 3 = .ok (.invokevirtual 243, 3) := by decide +kernel
theorem dX1_leave_6 : decode cX1_leave 6 = .ok (.aload_n 1, 1) := by decide +kernel
theorem dX1_leave_7 : decode cX1_leave 7 = .ok (.aload_n 0, 1) := by decide +kernel
theorem dX1_leave_8 : decode cX1_leave 8 = .ok (.getfield 57, 3) := by decide +kernel
theorem dX1_leave_11 : decode cX1_leave 11 = .ok (.putfield 111, 3) := by decide +kernel
theorem dX1_leave_14 : decode cX1_leave 14 = .ok (.aload_n 0, 1) := by decide +kernel
theorem dX1_leave_15 : decode cX1_leave 15 = .ok (.getfield 37, 3) := by decide +kernel
theorem dX1_leave_18 : decode cX1_leave 18 = .ok (.aload_n 1, 1) := by decide +kernel
theorem dX1_leave_19 : decode cX1_leave 19 = .ok (.getfield 223, 3) := by decide +kernel
theorem dX1_leave_22 : decode cX1_leave 22 = .ok (.invokevirtual 97, 3) := by decide +kernel
theorem dX1_leave_25 : decode cX1_leave 25 = .ok (.aload_n 0, 1) := by decide +kernel
theorem dX1_leave_26 : decode cX1_leave 26 = .ok (.aload_n 1, 1) := by decide +kernel
theorem dX1_leave_27 : decode cX1_leave 27 = .ok (.bipush 120, 2) := by decide +kernel
theorem dX1_leave_29 : decode cX1_leave 29 = .ok (.invokevirtual 239, 3) := by decide +kernel
theorem dX1_leave_32 : decode cX1_leave 32 = .ok (.return_, 1) := by decide +kernel
theorem dX1_comeToLoop_0 : decode cX1_comeToLoop 0 = .ok (.aload_n 1, 1) := by decide +kernel
theorem dX1_comeToLoop_1 : decode cX1_comeToLoop 1 = .ok (.bipush 108, 2) := by decide +kernel
theorem dX1_comeToLoop_3 : decode cX1_comeToLoop 3 = .ok (.invokevirtual 243, 3) := by decide +kernel
theorem dX1_comeToLoop_6 : decode cX1_comeToLoop 6 = .ok (.aload_n 0, 1) := by decide +kernel
theorem dX1_comeToLoop_7 : decode cX1_comeToLoop 7 = .ok (.getfield 34, 3) := by decide +kernel
theorem dX1_comeToLoop_10 : decode cX1_comeToLoop 10 = .ok (.aload_n 1, 1) := by decide +kernel
theorem dX1_comeToLoop_11 : decode cX1_comeToLoop 11 = .ok (.getfield 223, 3) := by decide +kernel
theorem dX1_comeToLoop_14 : decode cX1_comeToLoop 14 = .ok (.invokevirtual 97, 3) := by decide +kernel
theorem dX1_comeToLoop_17 : decode cX1_comeToLoop 17 = .ok (.aload_n 0, 1) := by decide +kernel
theorem dX1_comeToLoop_18 : decode cX1_comeToLoop 18 = .ok (.aload_n 1, 1) := by decide +kernel
theorem dX1_comeToLoop_19 : decode cX1_comeToLoop 19 = .ok (.bipush 76, 2) := by decide +kernel
theorem dX1_comeToLoop_21 : decode cX1_comeToLoop 21 = .ok (.invokevirtual 239, 3) := by decide +kernel
theorem dX1_comeToLoop_24 : decode cX1_comeToLoop 24 = .ok (.return_, 1) := by decide +kernel
theorem dX1_note_0 : decode cX1_note 0 = .ok (.aload_n 1, 1) := by decide +kernel
theorem dX1_note_1 : decode cX1_note 1 = .ok (.getfield 117, 3) := by decide +kernel
theorem dX1_note_4 : decode cX1_note 4 = .ok (.ifnull 11, 3) := by decide +kernel
theorem dX1_note_7 : decode cX1_note 7 = .ok (.aload_n 1, 1) := by decide +kernel
theorem dX1_note_8 : decode cX1_note 8 = .ok (.getfield 117, 3) := by decide +kernel
theorem dX1_note_11 : decode cX1_note 11 = .ok (.iload_n 2, 1) := by decide +kernel
theorem dX1_note_12 : decode cX1_note 12 = .ok (.invokevirtual 247, 3) := by decide +kernel
theorem dX1_note_15 : decode cX1_note 15 = .ok (.return_, 1) := by decide +kernel
theorem dX1_canEnterFromLoop_0 : decode cX1_canEnterFromLoop 0 = .ok (.iconst 0, 1) := by decide +kernel
theorem dX1_canEnterFromLoop_1 : decode cX1_canEnterFromLoop 1 = .ok (.istore_n 1, 1) := by decide +kernel
theorem dX1_canEnterFromLoop_2 : decode cX1_canEnterFromLoop 2 = .ok (.iload_n 1, 1) := by decide +kernel
theorem dX1_canEnterFromLoop_3 : decode cX1_canEnterFromLoop 3 = .ok (.aload_n 0, 1) := by decide +kernel
theorem dX1_canEnterFromLoop_4 : decode cX1_canEnterFromLoop 4 = .ok (.getfield 34, 3) := by decide +kernel
theorem dX1_canEnterFromLoop_7 : decode cX1_canEnterFromLoop 7 = .ok (.getfield 105, 3) := by decide +kernel
theorem dX1_canEnterFromLoop_10 : decode cX1_canEnterFromLoop 10 = .ok (.if_icmp .ge 39, 3) := by decide +kernel
theorem dX1_canEnterFromLoop_13 : decode cX1_canEnterFromLoop 13 = .ok (.aload_n 0, 1) := by decide +kernel
theorem dX1_canEnterFromLoop_14 : decode cX1_canEnterFromLoop 14 = .ok (.aload_n 0, 1) := by decide +kernel
theorem dX1_canEnterFromLoop_15 : decode cX1_canEnterFromLoop 15 = .ok (.getfield 34, 3) := by decide +kernel
theorem dX1_canEnterFromLoop_18 : decode cX1_canEnterFromLoop 18 = .ok (.iload_n 1, 1) := by decide +kernel
theorem dX1_canEnterFromLoop_19 : decode cX1_canEnterFromLoop 19 = .ok (.invokevirtual 108, 3) := by decide +kernel
theorem dX1_canEnterFromLoop_22 : decode cX1_canEnterFromLoop 22 = .ok (.invokevirtual 72, 3) := by decide +kernel
theorem dX1_canEnterFromLoop_25 : decode cX1_canEnterFromLoop 25 = .ok (.astore_n 2, 1) := by decide +kernel
theorem dX1_canEnterFromLoop_26 : decode cX1_canEnterFromLoop 26 = .ok (.aload_n 2, 1) := by decide +kernel
theorem dX1_canEnterFromLoop_27 : decode cX1_canEnterFromLoop 27 = .ok (.ifnull 16, 3) := by decide +kernel
theorem dX1_canEnterFromLoop_30 : decode cX1_canEnterFromLoop 30 = .ok (.aload_n 0, 1) := by decide +kernel
theorem dX1_canEnterFromLoop_31 : decode cX1_canEnterFromLoop 31 = .ok (.aload_n 2, 1) := by decide +kernel
theorem dX1_canEnterFromLoop_32 : decode cX1_canEnterFromLoop 32 = .ok (.invokevirtual 249, 3) := by decide +kernel
theorem dX1_canEnterFromLoop_35 : decode cX1_canEnterFromLoop 35 = .ok (.invokevirtual 199, 3) := by decide +kernel
theorem dX1_canEnterFromLoop_38 : decode cX1_canEnterFromLoop 38 = .ok (.ifCond .eq 5, 3) := by decide +kernel
theorem dX1_canEnterFromLoop_41 : decode cX1_canEnterFromLoop 41 = .ok (.iconst 1, 1) := by decide +kernel
theorem dX1_canEnterFromLoop_42 : decode cX1_canEnterFromLoop 42 = .ok (.ireturn, 1) := by decide +kernel
theorem dX1_canEnterFromLoop_43 : decode cX1_canEnterFromLoop 43 = .ok (.iinc 1 1, 3) := by decide +kernel
theorem dX1_canEnterFromLoop_46 : decode cX1_canEnterFromLoop 46 = .ok (.goto (-44), 3) := by decide +kernel
theorem dX1_canEnterFromLoop_49 : decode cX1_canEnterFromLoop 49 = .ok (.iconst 0, 1) := by decide +kernel
theorem dX1_canEnterFromLoop_50 : decode cX1_canEnterFromLoop 50 = .ok (.ireturn, 1) := by decide +kernel
theorem dX1_enterFromLoop_0 : decode cX1_enterFromLoop 0 = .ok (.aload_n 0, 1) := by decide +kernel
theorem dX1_enterFromLoop_1 : decode cX1_enterFromLoop 1 = .ok (.getfield 34, 3) := by decide +kernel
theorem dX1_enterFromLoop_4 : decode cX1_enterFromLoop 4 = .ok (.getfield 105, 3) := by decide +kernel
theorem dX1_enterFromLoop_7 : decode cX1_enterFromLoop 7 = .ok (.istore_n 1, 1) := by decide +kernel
theorem dX1_enterFromLoop_8 : decode cX1_enterFromLoop 8 = .ok (.iconst 0, 1) := by decide +kernel
theorem dX1_enterFromLoop_9 : decode cX1_enterFromLoop 9 = .ok (.istore_n 2, 1) := by decide +kernel
theorem dX1_enterFromLoop_10 : decode cX1_enterFromLoop 10 = .ok (.iconst 0, 1) := by decide +kernel
theorem dX1_enterFromLoop_11 : decode cX1_enterFromLoop 11 = .ok (.istore_n 3, 1) := by decide +kernel
theorem dX1_enterFromLoop_12 : decode cX1_enterFromLoop 12 = .ok (.iload_n 3, 1) := by decide +kernel
theorem dX1_enterFromLoop_13 : decode cX1_enterFromLoop 13 = .ok (.iload_n 1, 1) := by decide +kernel
theorem dX1_enterFromLoop_14 : decode cX1_enterFromLoop 14 = .ok (.if_icmp .ge 66, 3) := by decide +kernel
theorem dX1_enterFromLoop_17 : decode cX1_enterFromLoop 17 = .ok (.aload_n 0, 1) := by decide +kernel
theorem dX1_enterFromLoop_18 : decode cX1_enterFromLoop 18 = .ok (.aload_n 0, 1) := by decide +kernel
theorem dX1_enterFromLoop_19 : decode cX1_enterFromLoop 19 = .ok (.getfield 34, 3) := by decide +kernel
theorem dX1_enterFromLoop_22 : decode cX1_enterFromLoop 22 = .ok (.iload_n 2, 1) := by decide +kernel
theorem dX1_enterFromLoop_23 : decode cX1_enterFromLoop 23 = .ok (.invokevirtual 108, 3) := by decide +kernel
theorem dX1_enterFromLoop_26 : decode cX1_enterFromLoop 26 = .ok (.invokevirtual 72, 3) := by decide +kernel
theorem dX1_enterFromLoop_29 : decode cX1_enterFromLoop 29 = .ok (.astore 4, 2) := by decide +kernel
theorem dX1_enterFromLoop_31 : decode cX1_enterFromLoop 31 = .ok (.aload 4, 2) := by decide +kernel
theorem dX1_enterFromLoop_33 : decode cX1_enterFromLoop 33 = .ok (.ifnull 38, 3) := by decide +kernel
theorem dX1_enterFromLoop_36 : decode cX1_enterFromLoop 36 = .ok (.aload_n 0, 1) := by decide +kernel
theorem dX1_enterFromLoop_37 : decode cX1_enterFromLoop 37 = .ok (.aload 4, 2) := by decide +kernel
theorem dX1_enterFromLoop_39 : decode cX1_enterFromLoop 39 = .ok (.invokevirtual 249, 3) := by decide +kernel
theorem dX1_enterFromLoop_42 : decode cX1_enterFromLoop 42 = .ok (.invokevirtual 199, 3) := by decide +kernel
theorem dX1_enterFromLoop_45 : decode cX1_enterFromLoop 45 = .ok (.ifCond .eq 26, 3) := by decide +kernel
theorem dX1_enterFromLoop_48 : decode cX1_enterFromLoop 48 = .ok (.aload_n 0, 1) := by decide +kernel
theorem dX1_enterFromLoop_49 : decode cX1_enterFromLoop 49 = .ok (.getfield 34, 3) := by decide +kernel
theorem dX1_enterFromLoop_52 : decode cX1_enterFromLoop 52 = .ok (.iload_n 2, 1) := by decide +kernel
theorem dX1_enterFromLoop_53 : decode cX1_enterFromLoop 53 = .ok (.invokevirtual 252, 3) := by decide +kernel
theorem dX1_enterFromLoop_56 : decode cX1_enterFromLoop 56 = .ok (.aload_n 0, 1) := by decide +kernel
theorem dX1_enterFromLoop_57 : decode cX1_enterFromLoop 57 = .ok (.aload 4, 2) := by decide +kernel
theorem dX1_enterFromLoop_59 : decode cX1_enterFromLoop 59 = .ok (.aload 4, 2) := by decide +kernel
theorem dX1_enterFromLoop_61 : decode cX1_enterFromLoop 61 = .ok (.invokevirtual 249, 3) := by decide +kernel
theorem dX1_enterFromLoop_64 : decode cX1_enterFromLoop 64 = .ok (.iconst 1, 1) := by decide +kernel
theorem dX1_enterFromLoop_65 : decode cX1_enterFromLoop 65 = .ok (.invokevirtual 203, 3) := by decide +kernel
theorem dX1_enterFromLoop_68 : decode cX1_enterFromLoop 68 = .ok (.goto 6, 3) := by decide +kernel
theorem dX1_enterFromLoop_71 : decode cX1_enterFromLoop 71 = .ok (.iinc 2 1, 3) := by decide +kernel
theorem dX1_enterFromLoop_74 : decode cX1_enterFromLoop 74 = .ok (.iinc 3 1, 3) := by decide +kernel
theorem dX1_enterFromLoop_77 : decode cX1_enterFromLoop 77 = .ok (.goto (-65), 3) := by decide +kernel
theorem dX1_enterFromLoop_80 : decode cX1_enterFromLoop 80 = .ok (.return_, 1) := by decide +kernel
theorem dX1_canEnterFromWaiting_0 : decode cX1_canEnterFromWaiting 0 = .ok (.aload_n 0, 1) := by decide +kernel
theorem dX1_canEnterFromWaiting_1 : decode cX1_canEnterFromWaiting 1 = .ok (.getfield 30, 3) := by decide +kernel
theorem dX1_canEnterFromWaiting_4 : decode cX1_canEnterFromWaiting 4 = .ok (.getfield 105, 3) := by decide +kernel
theorem dX1_canEnterFromWaiting_7 : decode cX1_canEnterFromWaiting 7 = .ok (.ifCond .le 15, 3) := by decide +kernel
theorem dX1_canEnterFromWaiting_10 : decode cX1_canEnterFromWaiting 10 = .ok (.aload_n 0, 1) := by decide +kernel
theorem dX1_canEnterFromWaiting_11 : decode cX1_canEnterFromWaiting 11 = .ok (.iconst 0, 1) := by decide +kernel
theorem dX1_canEnterFromWaiting_12 : decode cX1_canEnterFromWaiting 12 = .ok (.invokevirtual 199, 3) := by decide +kernel
theorem dX1_canEnterFromWaiting_15 : decode cX1_canEnterFromWaiting 15 = .ok (.ifCond .eq 7, 3) := by decide +kernel
theorem dX1_canEnterFromWaiting_18 : decode cX1_canEnterFromWaiting 18 = .ok (.iconst 1, 1) := by decide +kernel
theorem dX1_canEnterFromWaiting_19 : decode cX1_canEnterFromWaiting 19 = .ok (.goto 4, 3) := by decide +kernel
theorem dX1_canEnterFromWaiting_22 : decode cX1_canEnterFromWaiting 22 = .ok (.iconst 0, 1) := by decide +kernel
theorem dX1_canEnterFromWaiting_23 : decode cX1_canEnterFromWaiting 23 = .ok (.ireturn, 1) := by decide +kernel
theorem dX1_enterFromWaiting_0 : decode cX1_enterFromWaiting 0 = .ok (.aload_n 0, 1) := by decide +kernel
theorem dX1_enterFromWaiting_1 : decode cX1_enterFromWaiting 1 = .ok (.aload_n 0, 1) := by decide +kernel
theorem dX1_enterFromWaiting_2 : decode cX1_enterFromWaiting 2 = .ok (.getfield 30, 3) := by decide +kernel
theorem dX1_enterFromWaiting_5 : decode cX1_enterFromWaiting 5 = .ok (.iconst 0, 1) := by decide +kernel
theorem dX1_enterFromWaiting_6 : decode cX1_enterFromWaiting 6 = .ok (.invokevirtual 108, 3) := by decide +kernel
theorem dX1_enterFromWaiting_9 : decode cX1_enterFromWaiting 9 = .ok (.invokevirtual 72, 3) := by decide +kernel
theorem dX1_enterFromWaiting_12 : decode cX1_enterFromWaiting 12 = .ok (.astore_n 1, 1) := by decide +kernel
theorem dX1_enterFromWaiting_13 : decode cX1_enterFromWaiting 13 = .ok (.aload_n 1, 1) := by decide +kernel
theorem dX1_enterFromWaiting_14 : decode cX1_enterFromWaiting 14 = .ok (.ifnull 26, 3) := by decide +kernel
theorem dX1_enterFromWaiting_17 : decode cX1_enterFromWaiting 17 = .ok (.aload_n 0, 1) := by decide +kernel
theorem dX1_enterFromWaiting_18 : decode cX1_enterFromWaiting 18 = .ok (.iconst 0, 1) := by decide +kernel
theorem dX1_enterFromWaiting_19 : decode cX1_enterFromWaiting 19 = .ok (.invokevirtual 199, 3) := by decide +kernel
theorem dX1_enterFromWaiting_22 : decode cX1_enterFromWaiting 22 = .ok (.ifCond .eq 18, 3) := by decide +kernel
theorem dX1_enterFromWaiting_25 : decode cX1_enterFromWaiting 25 = .ok (.aload_n 0, 1) := by decide +kernel
theorem dX1_enterFromWaiting_26 : decode cX1_enterFromWaiting 26 = .ok (.getfield 30, 3) := by decide +kernel
theorem dX1_enterFromWaiting_29 : decode cX1_enterFromWaiting 29 = .ok (.iconst 0, 1) := by decide +kernel
theorem dX1_enterFromWaiting_30 : decode cX1_enterFromWaiting 30 = .ok (.invokevirtual 252, 3) := by decide +kernel
theorem dX1_enterFromWaiting_33 : decode cX1_enterFromWaiting 33 = .ok (.aload_n 0, 1) := by decide +kernel
theorem dX1_enterFromWaiting_34 : decode cX1_enterFromWaiting 34 = .ok (.aload_n 1, 1) := by decide +kernel
theorem dX1_enterFromWaiting_35 : decode cX1_enterFromWaiting 35 = .ok (.iconst 0, 1) := by decide +kernel
theorem dX1_enterFromWaiting_36 : decode cX1_enterFromWaiting 36 = .ok (.iconst 0, 1) := by decide +kernel
theorem dX1_enterFromWaiting_37 : decode cX1_enterFromWaiting 37 = .ok (.invokevirtual 203, 3) := by decide +kernel
theorem dX1_enterFromWaiting_40 : decode cX1_enterFromWaiting 40 = .ok (.return_, 1) := by decide +kernel
theorem dX2_init_0 : decode cX2_init 0 = .ok (.aload_n 0, 1) := by decide +kernel
theorem dX2_init_1 : decode cX2_init 1 = .ok (.invokespecial 3, 3) := by decide +kernel
theorem dX2_init_4 : decode cX2_init 4 = .ok (.aload_n 0, 1) := by decide +kernel
theorem dX2_init_5 : decode cX2_init 5 = .ok (.bipush 30, 2) := by decide +kernel
theorem dX2_init_7 : decode cX2_init 7 = .ok (.newarray .int, 2) := by decide +kernel
theorem dX2_init_9 : decode cX2_init 9 = .ok (.putfield 9, 3) := by decide +kernel
theorem dX2_init_12 : decode cX2_init 12 = .ok (.return_, 1) := by decide +kernel
theorem dX2_has_0 : decode cX2_has 0 = .ok (.iload_n 1, 1) := by decide +kernel
theorem dX2_has_1 : decode cX2_has 1 = .ok (.ifCond .lt 24, 3) := by decide +kernel
theorem dX2_has_4 : decode cX2_has 4 = .ok (.iload_n 1, 1) := by decide +kernel
theorem dX2_has_5 : decode cX2_has 5 = .ok (.aload_n 0, 1) := by decide +kernel
theorem dX2_has_6 : decode cX2_has 6 = .ok (.getfield 15, 3) := by decide +kernel
theorem dX2_has_9 : decode cX2_has 9 = .ok (.if_icmp .ge 16, 3) := by decide +kernel
theorem dX2_has_12 : decode cX2_has 12 = .ok (.iload_n 1, 1) := by decide +kernel
theorem dX2_has_13 : decode cX2_has 13 = .ok (.aload_n 0, 1) := by decide +kernel
theorem dX2_has_14 : decode cX2_has 14 = .ok (.getfield 9, 3) := by decide +kernel
theorem dX2_has_17 : decode cX2_has 17 = .ok (.arraylength, 1) := by decide +kernel
theorem dX2_has_18 : decode cX2_has 18 = .ok (.if_icmp .ge 7, 3) := by decide +kernel
theorem dX2_has_21 : decode cX2_has 21 = .ok (.iconst 1, 1) := by decide +kernel
theorem dX2_has_22 : decode cX2_has 22 = .ok (.goto 4, 3) := by decide +kernel
theorem dX2_has_25 : decode cX2_has 25 = .ok (.iconst 0, 1) := by decide +kernel
theorem dX2_has_26 : decode cX2_has 26 = .ok (.ireturn, 1) := by decide +kernel
theorem dX2_at_0 : decode cX2_at 0 = .ok (.aload_n 0, 1) := by decide +kernel
theorem dX2_at_1 : decode cX2_at 1 = .ok (.iload_n 1, 1) := by decide +kernel
theorem dX2_at_2 : decode cX2_at 2 = .ok (.invokevirtual 19, 3) := by decide +kernel
theorem dX2_at_5 : decode cX2_at 5 = .ok (.ifCond .eq 12, 3) := by decide +kernel
theorem dX2_at_8 : decode cX2_at 8 = .ok (.aload_n 0, 1) := by decide +kernel
theorem dX2_at_9 : decode cX2_at 9 = .ok (.getfield 9, 3) := by decide +kernel
theorem dX2_at_12 : decode cX2_at 12 = .ok (.iload_n 1, 1) := by decide +kernel
theorem dX2_at_13 : decode cX2_at 13 = .ok (.iaload, 1) := by decide +kernel
theorem dX2_at_14 : decode cX2_at 14 = .ok (.goto 4, 3) := by decide +kernel
theorem dX2_at_17 : decode cX2_at 17 = .ok (.iconst (-1), 1) := by decide +kernel
theorem dX2_at_18 : decode cX2_at 18 = .ok (.ireturn, 1) := by decide +kernel
theorem dX2_placeOf_0 : decode cX2_placeOf 0 = .ok (.iconst 0, 1) := by decide +kernel
theorem dX2_placeOf_1 : decode cX2_placeOf 1 = .ok (.istore_n 2, 1) := by decide +kernel
theorem dX2_placeOf_2 : decode cX2_placeOf 2 = .ok (.iload_n 2, 1) := by decide +kernel
theorem dX2_placeOf_3 : decode cX2_placeOf 3 = .ok (.aload_n 0, 1) := by decide +kernel
theorem dX2_placeOf_4 : decode cX2_placeOf 4 = .ok (.getfield 9, 3) := by decide +kernel
theorem dX2_placeOf_7 : decode cX2_placeOf 7 = .ok (.arraylength, 1) := by decide +kernel
theorem dX2_placeOf_8 : decode cX2_placeOf 8 = .ok (.if_icmp .ge 20, 3) := by decide +kernel
theorem dX2_placeOf_11 : decode cX2_placeOf 11 = .ok (.aload_n 0, 1) := by decide +kernel
theorem dX2_placeOf_12 : decode cX2_placeOf 12 = .ok (.iload_n 2, 1) := by decide +kernel
theorem dX2_placeOf_13 : decode cX2_placeOf 13 = .ok (.invokevirtual 23, 3) := by decide +kernel
theorem dX2_placeOf_16 : decode cX2_placeOf 16 = .ok (.iload_n 1, 1) := by decide +kernel
theorem dX2_placeOf_17 : decode cX2_placeOf 17 = .ok (.if_icmp .ne 5, 3) := by decide +kernel
theorem dX2_placeOf_20 : decode cX2_placeOf 20 = .ok (.iload_n 2, 1) := by decide +kernel
theorem dX2_placeOf_21 : decode cX2_placeOf 21 = .ok (.ireturn, 1) := by decide +kernel
theorem dX2_placeOf_22 : decode cX2_placeOf 22 = .ok (.iinc 2 1, 3) := by decide +kernel
theorem dX2_placeOf_25 : decode cX2_placeOf 25 = .ok (.goto (-23), 3) := by decide +kernel
theorem dX2_placeOf_28 : decode cX2_placeOf 28 = .ok (.iconst (-1), 1) := by decide +kernel
theorem dX2_placeOf_29 : decode cX2_placeOf 29 = .ok (.ireturn, 1) := by decide +kernel
theorem dX2_append_0 : decode cX2_append 0 = .ok (.aload_n 0, 1) := by decide +kernel
theorem dX2_append_1 : decode cX2_append 1 = .ok (.getfield 15, 3) := by decide +kernel
theorem dX2_append_4 : decode cX2_append 4 = .ok (.ifCond .lt 35, 3) := by decide +kernel
theorem dX2_append_7 : decode cX2_append 7 = .ok (.aload_n 0, 1) := by decide +kernel
theorem dX2_append_8 : decode cX2_append 8 = .ok (.getfield 15, 3) := by decide +kernel
theorem dX2_append_11 : decode cX2_append 11 = .ok (.aload_n 0, 1) := by decide +kernel
theorem dX2_append_12 : decode cX2_append 12 = .ok (.getfield 9, 3) := by decide +kernel
theorem dX2_append_15 : decode cX2_append 15 = .ok (.arraylength, 1) := by decide +kernel
theorem dX2_append_16 : decode cX2_append 16 = .ok (.if_icmp .ge 23, 3) := by decide +kernel
theorem dX2_append_19 : decode cX2_append 19 = .ok (.aload_n 0, 1) := by decide +kernel
theorem dX2_append_20 : decode cX2_append 20 = .ok (.getfield 9, 3) := by decide +kernel
theorem dX2_append_23 : decode cX2_append 23 = .ok (.aload_n 0, 1) := by decide +kernel
theorem dX2_append_24 : decode cX2_append 24 = .ok (.getfield 15, 3) := by decide +kernel
theorem dX2_append_27 : decode cX2_append 27 = .ok (.iload_n 1, 1) := by decide +kernel
theorem dX2_append_28 : decode cX2_append 28 = .ok (.iastore, 1) := by decide +kernel
theorem dX2_append_29 : decode cX2_append 29 = .ok (.aload_n 0, 1) := by decide +kernel
theorem dX2_append_30 : decode cX2_append 30 = .ok (.dup, 1) := by decide +kernel
theorem dX2_append_31 : decode cX2_append 31 = .ok (.getfield 15, 3) := by decide +kernel
theorem dX2_append_34 : decode cX2_append 34 = .ok (.iconst 1, 1) := by decide +kernel
theorem dX2_append_35 : decode cX2_append 35 = .ok (.iadd, 1) := by decide +kernel
theorem dX2_append_36 : decode cX2_append 36 = .ok (.putfield 15, 3) := by decide +kernel
theorem dX2_append_39 : decode cX2_append 39 = .ok (.return_, 1) := by decide +kernel
theorem dX2_removeAt_0 : decode cX2_removeAt 0 = .ok (.aload_n 0, 1) := by decide +kernel
theorem dX2_removeAt_1 : decode cX2_removeAt 1 = .ok (.iload_n 1, 1) := by decide +kernel
theorem dX2_removeAt_2 : decode cX2_removeAt 2 = .ok (.invokevirtual 19, 3) := by decide +kernel
theorem dX2_removeAt_5 : decode cX2_removeAt 5 = .ok (.ifCond .ne 4, 3) := by decide +kernel
theorem dX2_removeAt_8 : decode cX2_removeAt 8 = .ok (.return_, 1) := by decide +kernel
theorem dX2_removeAt_9 : decode cX2_removeAt 9 = .ok (.iload_n 1, 1) := by decide +kernel
theorem dX2_removeAt_10 : decode cX2_removeAt 10 = .ok (.istore_n 2, 1) := by decide +kernel
theorem dX2_removeAt_11 : decode cX2_removeAt 11 = .ok (.iload_n 2, 1) := by decide +kernel
theorem dX2_removeAt_12 : decode cX2_removeAt 12 = .ok (.aload_n 0, 1) := by decide +kernel
theorem dX2_removeAt_13 : decode cX2_removeAt 13 = .ok (.getfield 9, 3) := by decide +kernel
theorem dX2_removeAt_16 : decode cX2_removeAt 16 = .ok (.arraylength, 1) := by decide +kernel
theorem dX2_removeAt_17 : decode cX2_removeAt 17 = .ok (.iconst 1, 1) := by decide +kernel
theorem dX2_removeAt_18 : decode cX2_removeAt 18 = .ok (.isub, 1) := by decide +kernel
theorem dX2_removeAt_19 : decode cX2_removeAt 19 = .ok (.if_icmp .ge 23, 3) := by decide +kernel
theorem dX2_removeAt_22 : decode cX2_removeAt 22 = .ok (.aload_n 0, 1) := by decide +kernel
theorem dX2_removeAt_23 : decode cX2_removeAt 23 = .ok (.getfield 9, 3) := by decide +kernel
theorem dX2_removeAt_26 : decode cX2_removeAt 26 = .ok (.iload_n 2, 1) := by decide +kernel
theorem dX2_removeAt_27 : decode cX2_removeAt 27 = .ok (.aload_n 0, 1) := by decide +kernel
theorem dX2_removeAt_28 : decode cX2_removeAt 28 = .ok (.getfield 9, 3) := by decide +kernel
theorem dX2_removeAt_31 : decode cX2_removeAt 31 = .ok (.iload_n 2, 1) := by decide +kernel
theorem dX2_removeAt_32 : decode cX2_removeAt 32 = .ok (.iconst 1, 1) := by decide +kernel
theorem dX2_removeAt_33 : decode cX2_removeAt 33 = .ok (.iadd, 1) := by decide +kernel
theorem dX2_removeAt_34 : decode cX2_removeAt 34 = .ok (.iaload, 1) := by decide +kernel
theorem dX2_removeAt_35 : decode cX2_removeAt 35 = .ok (.iastore, 1) := by decide +kernel
theorem dX2_removeAt_36 : decode cX2_removeAt 36 = .ok (.iinc 2 1, 3) := by decide +kernel
theorem dX2_removeAt_39 : decode cX2_removeAt 39 = .ok (.goto (-28), 3) := by decide +kernel
theorem dX2_removeAt_42 : decode cX2_removeAt 42 = .ok (.aload_n 0, 1) := by decide +kernel
theorem dX2_removeAt_43 : decode cX2_removeAt 43 = .ok (.dup, 1) := by decide +kernel
theorem dX2_removeAt_44 : decode cX2_removeAt 44 = .ok (.getfield 15, 3) := by decide +kernel
theorem dX2_removeAt_47 : decode cX2_removeAt 47 = .ok (.iconst 1, 1) := by decide +kernel
theorem dX2_removeAt_48 : decode cX2_removeAt 48 = .ok (.isub, 1) := by decide +kernel
theorem dX2_removeAt_49 : decode cX2_removeAt 49 = .ok (.putfield 15, 3) := by decide +kernel
theorem dX2_removeAt_52 : decode cX2_removeAt 52 = .ok (.return_, 1) := by decide +kernel
theorem dX2_exchange_0 : decode cX2_exchange 0 = .ok (.aload_n 0, 1) := by decide +kernel
theorem dX2_exchange_1 : decode cX2_exchange 1 = .ok (.iload_n 1, 1) := by decide +kernel
theorem dX2_exchange_2 : decode cX2_exchange 2 = .ok (.invokevirtual 19, 3) := by decide +kernel
theorem dX2_exchange_5 : decode cX2_exchange 5 = .ok (.ifCond .eq 37, 3) := by decide +kernel
theorem dX2_exchange_8 : decode cX2_exchange 8 = .ok (.aload_n 0, 1) := by decide +kernel
theorem dX2_exchange_9 : decode cX2_exchange 9 = .ok (.iload_n 2, 1) := by decide +kernel
theorem dX2_exchange_10 : decode cX2_exchange 10 = .ok (.invokevirtual 19, 3) := by decide +kernel
theorem dX2_exchange_13 : decode cX2_exchange 13 = .ok (.ifCond .eq 29, 3) := by decide +kernel
theorem dX2_exchange_16 : decode cX2_exchange 16 = .ok (.aload_n 0, 1) := by decide +kernel
theorem dX2_exchange_17 : decode cX2_exchange 17 = .ok (.getfield 9, 3) := by decide +kernel
theorem dX2_exchange_20 : decode cX2_exchange 20 = .ok (.iload_n 1, 1) := by decide +kernel
theorem dX2_exchange_21 : decode cX2_exchange 21 = .ok (.iaload, 1) := by decide +kernel
theorem dX2_exchange_22 : decode cX2_exchange 22 = .ok (.istore_n 3, 1) := by decide +kernel
theorem dX2_exchange_23 : decode cX2_exchange 23 = .ok (.aload_n 0, 1) := by decide +kernel
theorem dX2_exchange_24 : decode cX2_exchange 24 = .ok (.getfield 9, 3) := by decide +kernel
theorem dX2_exchange_27 : decode cX2_exchange 27 = .ok (.iload_n 1, 1) := by decide +kernel
theorem dX2_exchange_28 : decode cX2_exchange 28 = .ok (.aload_n 0, 1) := by decide +kernel
theorem dX2_exchange_29 : decode cX2_exchange 29 = .ok (.getfield 9, 3) := by decide +kernel
theorem dX2_exchange_32 : decode cX2_exchange 32 = .ok (.iload_n 2, 1) := by decide +kernel
theorem dX2_exchange_33 : decode cX2_exchange 33 = .ok (.iaload, 1) := by decide +kernel
theorem dX2_exchange_34 : decode cX2_exchange 34 = .ok (.iastore, 1) := by decide +kernel
theorem dX2_exchange_35 : decode cX2_exchange 35 = .ok (.aload_n 0, 1) := by decide +kernel
theorem dX2_exchange_36 : decode cX2_exchange 36 = .ok (.getfield 9, 3) := by decide +kernel
theorem dX2_exchange_39 : decode cX2_exchange 39 = .ok (.iload_n 2, 1) := by decide +kernel
theorem dX2_exchange_40 : decode cX2_exchange 40 = .ok (.iload_n 3, 1) := by decide +kernel
theorem dX2_exchange_41 : decode cX2_exchange 41 = .ok (.iastore, 1) := by decide +kernel
theorem dX2_exchange_42 : decode cX2_exchange 42 = .ok (.return_, 1) := by decide +kernel
theorem dX2_copyFrom_0 : decode cX2_copyFrom 0 = .ok (.aload_n 0, 1) := by decide +kernel
theorem dX2_copyFrom_1 : decode cX2_copyFrom 1 = .ok (.aload_n 1, 1) := by decide +kernel
theorem dX2_copyFrom_2 : decode cX2_copyFrom 2 = .ok (.getfield 15, 3) := by decide +kernel
theorem dX2_copyFrom_5 : decode cX2_copyFrom 5 = .ok (.putfield 15, 3) := by decide +kernel
theorem dX2_copyFrom_8 : decode cX2_copyFrom 8 = .ok (.iconst 0, 1) := by decide +kernel
theorem dX2_copyFrom_9 : decode cX2_copyFrom 9 = .ok (.istore_n 2, 1) := by decide +kernel
theorem dX2_copyFrom_10 : decode cX2_copyFrom 10 = .ok (.iload_n 2, 1) := by decide +kernel
theorem dX2_copyFrom_11 : decode cX2_copyFrom 11 = .ok (.aload_n 0, 1) := by decide +kernel
theorem dX2_copyFrom_12 : decode cX2_copyFrom 12 = .ok (.getfield 9, 3) := by decide +kernel
theorem dX2_copyFrom_15 : decode cX2_copyFrom 15 = .ok (.arraylength, 1) := by decide +kernel
theorem dX2_copyFrom_16 : decode cX2_copyFrom 16 = .ok (.if_icmp .ge 20, 3) := by decide +kernel
theorem dX2_copyFrom_19 : decode cX2_copyFrom 19 = .ok (.aload_n 0, 1) := by decide +kernel
theorem dX2_copyFrom_20 : decode cX2_copyFrom 20 = .ok (.getfield 9, 3) := by decide +kernel
theorem dX2_copyFrom_23 : decode cX2_copyFrom 23 = .ok (.iload_n 2, 1) := by decide +kernel
theorem dX2_copyFrom_24 : decode cX2_copyFrom 24 = .ok (.aload_n 1, 1) := by decide +kernel
theorem dX2_copyFrom_25 : decode cX2_copyFrom 25 = .ok (.iload_n 2, 1) := by decide +kernel
theorem dX2_copyFrom_26 : decode cX2_copyFrom 26 = .ok (.invokevirtual 23, 3) := by decide +kernel
theorem dX2_copyFrom_29 : decode cX2_copyFrom 29 = .ok (.iastore, 1) := by decide +kernel
theorem dX2_copyFrom_30 : decode cX2_copyFrom 30 = .ok (.iinc 2 1, 3) := by decide +kernel
theorem dX2_copyFrom_33 : decode cX2_copyFrom 33 = .ok (.goto (-23), 3) := by decide +kernel
theorem dX2_copyFrom_36 : decode cX2_copyFrom 36 = .ok (.return_, 1) := by decide +kernel
theorem dX3_init_0 : decode cX3_init 0 = .ok (.aload_n 0, 1) := by decide +kernel
theorem dX3_init_1 : decode cX3_init 1 = .ok (.invokespecial 3, 3) := by decide +kernel
theorem dX3_init_4 : decode cX3_init 4 = .ok (.aload_n 0, 1) := by decide +kernel
theorem dX3_init_5 : decode cX3_init 5 = .ok (.iconst (-1), 1) := by decide +kernel
theorem dX3_init_6 : decode cX3_init 6 = .ok (.putfield 9, 3) := by decide +kernel
theorem dX3_init_9 : decode cX3_init 9 = .ok (.aload_n 0, 1) := by decide +kernel
theorem dX3_init_10 : decode cX3_init 10 = .ok (.iconst (-1), 1) := by decide +kernel
theorem dX3_init_11 : decode cX3_init 11 = .ok (.putfield 15, 3) := by decide +kernel
theorem dX3_init_14 : decode cX3_init 14 = .ok (.return_, 1) := by decide +kernel
theorem dX3_setUp_0 : decode cX3_setUp 0 = .ok (.aload_n 0, 1) := by decide +kernel
theorem dX3_setUp_1 : decode cX3_setUp 1 = .ok (.iload_n 1, 1) := by decide +kernel
theorem dX3_setUp_2 : decode cX3_setUp 2 = .ok (.putfield 18, 3) := by decide +kernel
theorem dX3_setUp_5 : decode cX3_setUp 5 = .ok (.aload_n 0, 1) := by decide +kernel
theorem dX3_setUp_6 : decode cX3_setUp 6 = .ok (.iload_n 2, 1) := by decide +kernel
theorem dX3_setUp_7 : decode cX3_setUp 7 = .ok (.putfield 9, 3) := by decide +kernel
theorem dX3_setUp_10 : decode cX3_setUp 10 = .ok (.aload_n 0, 1) := by decide +kernel
theorem dX3_setUp_11 : decode cX3_setUp 11 = .ok (.iload_n 3, 1) := by decide +kernel
theorem dX3_setUp_12 : decode cX3_setUp 12 = .ok (.putfield 21, 3) := by decide +kernel
theorem dX3_setUp_15 : decode cX3_setUp 15 = .ok (.aload_n 0, 1) := by decide +kernel
theorem dX3_setUp_16 : decode cX3_setUp 16 = .ok (.iload 4, 2) := by decide +kernel
theorem dX3_setUp_18 : decode cX3_setUp 18 = .ok (.putfield 24, 3) := by decide +kernel
theorem dX3_setUp_21 : decode cX3_setUp 21 = .ok (.return_, 1) := by decide +kernel
theorem dX3_copyFrom_0 : decode cX3_copyFrom 0 = .ok (.aload_n 0, 1) := by decide +kernel
theorem dX3_copyFrom_1 : decode cX3_copyFrom 1 = .ok (.aload_n 1, 1) := by decide +kernel
theorem dX3_copyFrom_2 : decode cX3_copyFrom 2 = .ok (.getfield 18, 3) := by decide +kernel
theorem dX3_copyFrom_5 : decode cX3_copyFrom 5 = .ok (.aload_n 1, 1) := by decide +kernel
theorem dX3_copyFrom_6 : decode cX3_copyFrom 6 = .ok (.getfield 9, 3) := by decide +kernel
theorem dX3_copyFrom_9 : decode cX3_copyFrom 9 = .ok (.aload_n 1, 1) := by decide +kernel
theorem dX3_copyFrom_10 : decode cX3_copyFrom 10 = .ok (.getfield 21, 3) := by decide +kernel
theorem dX3_copyFrom_13 : decode cX3_copyFrom 13 = .ok (.aload_n 1, 1) := by decide +kernel
theorem dX3_copyFrom_14 : decode cX3_copyFrom 14 = .ok (.getfield 24, 3) := by decide +kernel
theorem dX3_copyFrom_17 : decode cX3_copyFrom 17 = .ok (.invokevirtual 27, 3) := by decide +kernel
theorem dX3_copyFrom_20 : decode cX3_copyFrom 20 = .ok (.aload_n 0, 1) := by decide +kernel
theorem dX3_copyFrom_21 : decode cX3_copyFrom 21 = .ok (.aload_n 1, 1) := by decide +kernel
theorem dX3_copyFrom_22 : decode cX3_copyFrom 22 = .ok (.getfield 31, 3) := by decide +kernel
theorem dX3_copyFrom_25 : decode cX3_copyFrom 25 = .ok (.putfield 31, 3) := by decide +kernel
theorem dX3_copyFrom_28 : decode cX3_copyFrom 28 = .ok (.aload_n 0, 1) := by decide +kernel
theorem dX3_copyFrom_29 : decode cX3_copyFrom 29 = .ok (.aload_n 1, 1) := by decide +kernel
theorem dX3_copyFrom_30 : decode cX3_copyFrom 30 = .ok (.getfield 15, 3) := by decide +kernel
theorem dX3_copyFrom_33 : decode cX3_copyFrom 33 = .ok (.putfield 15, 3) := by decide +kernel
theorem dX3_copyFrom_36 : decode cX3_copyFrom 36 = .ok (.aload_n 0, 1) := by decide +kernel
theorem dX3_copyFrom_37 : decode cX3_copyFrom 37 = .ok (.aload_n 1, 1) := by decide +kernel
theorem dX3_copyFrom_38 : decode cX3_copyFrom 38 = .ok (.getfield 34, 3) := by decide +kernel
theorem dX3_copyFrom_41 : decode cX3_copyFrom 41 = .ok (.putfield 34, 3) := by decide +kernel
theorem dX3_copyFrom_44 : decode cX3_copyFrom 44 = .ok (.aload_n 0, 1) := by decide +kernel
theorem dX3_copyFrom_45 : decode cX3_copyFrom 45 = .ok (.aload_n 1, 1) := by decide +kernel
theorem dX3_copyFrom_46 : decode cX3_copyFrom 46 = .ok (.getfield 37, 3) := by decide +kernel
theorem dX3_copyFrom_49 : decode cX3_copyFrom 49 = .ok (.putfield 37, 3) := by decide +kernel
theorem dX3_copyFrom_52 : decode cX3_copyFrom 52 = .ok (.return_, 1) := by decide +kernel
theorem dX3_serve_0 : decode cX3_serve 0 = .ok (.aload_n 0, 1) := by decide +kernel
theorem dX3_serve_1 : decode cX3_serve 1 = .ok (.getfield 9, 3) := by decide +kernel
theorem dX3_serve_4 : decode cX3_serve 4 = .ok (.iconst (-1), 1) := by decide +kernel
theorem dX3_serve_5 : decode cX3_serve 5 = .ok (.if_icmp .ne 6, 3) := by decide +kernel
theorem dX3_serve_8 : decode cX3_serve 8 = .ok (.bipush 43, 2) := by decide +kernel
theorem dX3_serve_10 : decode cX3_serve 10 = .ok (.ireturn, 1) := by decide +kernel
theorem dX3_serve_11 : decode cX3_serve 11 = .ok (.aload_n 1, 1) := by decide +kernel
theorem dX3_serve_12 : decode cX3_serve 12 = .ok (.aload_n 0, 1) := by decide +kernel
theorem dX3_serve_13 : decode cX3_serve 13 = .ok (.getfield 9, 3) := by decide +kernel
theorem dX3_serve_16 : decode cX3_serve 16 = .ok (.invokevirtual 41, 3) := by decide +kernel
theorem dX3_serve_19 : decode cX3_serve 19 = .ok (.ifCond .ne 15, 3) := by decide +kernel
theorem dX3_serve_22 : decode cX3_serve 22 = .ok (.iload_n 2, 1) := by decide +kernel
theorem dX3_serve_23 : decode cX3_serve 23 = .ok (.ifCond .eq 8, 3) := by decide +kernel
theorem dX3_serve_26 : decode cX3_serve 26 = .ok (.bipush 43, 2) := by decide +kernel
theorem dX3_serve_28 : decode cX3_serve 28 = .ok (.goto 5, 3) := by decide +kernel
theorem dX3_serve_31 : decode cX3_serve 31 = .ok (.bipush 46, 2) := by decide +kernel
theorem dX3_serve_33 : decode cX3_serve 33 = .ok (.ireturn, 1) := by decide +kernel
theorem dX3_serve_34 : decode cX3_serve 34 = .ok (.aload_n 0, 1) := by decide +kernel
theorem dX3_serve_35 : decode cX3_serve 35 = .ok (.getfield 31, 3) := by decide +kernel
theorem dX3_serve_38 : decode cX3_serve 38 = .ok (.aload_n 0, 1) := by decide +kernel
theorem dX3_serve_39 : decode cX3_serve 39 = .ok (.getfield 21, 3) := by decide +kernel
theorem dX3_serve_42 : decode cX3_serve 42 = .ok (.if_icmp .ge 16, 3) := by decide +kernel
theorem dX3_serve_45 : decode cX3_serve 45 = .ok (.aload_n 0, 1) := by decide +kernel
theorem dX3_serve_46 : decode cX3_serve 46 = .ok (.dup, 1) := by decide +kernel
theorem dX3_serve_47 : decode cX3_serve 47 = .ok (.getfield 34, 3) := by decide +kernel
theorem dX3_serve_50 : decode cX3_serve 50 = .ok (.iconst 1, 1) := by decide +kernel
theorem dX3_serve_51 : decode cX3_serve 51 = .ok (.iadd, 1) := by decide +kernel
theorem dX3_serve_52 : decode cX3_serve 52 = .ok (.putfield 34, 3) := by decide +kernel
theorem dX3_serve_55 : decode cX3_serve 55 = .ok (.bipush 45, 2) := by decide +kernel
theorem dX3_serve_57 : decode cX3_serve 57 = .ok (.ireturn, 1) := by decide +kernel
theorem dX3_serve_58 : decode cX3_serve 58 = .ok (.aload_n 0, 1) := by decide +kernel
theorem dX3_serve_59 : decode cX3_serve 59 = .ok (.dup, 1) := by decide +kernel
theorem dX3_serve_60 : decode cX3_serve 60 = .ok (.getfield 31, 3) := by decide +kernel
theorem dX3_serve_63 : decode cX3_serve 63 = .ok (.aload_n 0, 1) := by decide +kernel
theorem dX3_serve_64 : decode cX3_serve 64 = .ok (.getfield 21, 3) := by decide +kernel
theorem dX3_serve_67 : decode cX3_serve 67 = .ok (.isub, 1) := by decide +kernel
theorem dX3_serve_68 : decode cX3_serve 68 = .ok (.putfield 31, 3) := by decide +kernel
theorem dX3_serve_71 : decode cX3_serve 71 = .ok (.aload_n 0, 1) := by decide +kernel
theorem dX3_serve_72 : decode cX3_serve 72 = .ok (.dup, 1) := by decide +kernel
theorem dX3_serve_73 : decode cX3_serve 73 = .ok (.getfield 37, 3) := by decide +kernel
theorem dX3_serve_76 : decode cX3_serve 76 = .ok (.aload_n 0, 1) := by decide +kernel
theorem dX3_serve_77 : decode cX3_serve 77 = .ok (.getfield 21, 3) := by decide +kernel
theorem dX3_serve_80 : decode cX3_serve 80 = .ok (.i2l, 1) := by decide +kernel
theorem dX3_serve_81 : decode cX3_serve 81 = .ok (.ladd, 1) := by decide +kernel
theorem dX3_serve_82 : decode cX3_serve 82 = .ok (.putfield 37, 3) := by decide +kernel
theorem dX3_serve_85 : decode cX3_serve 85 = .ok (.bipush 43, 2) := by decide +kernel
theorem dX3_serve_87 : decode cX3_serve 87 = .ok (.ireturn, 1) := by decide +kernel
theorem dX4_init_0 : decode cX4_init 0 = .ok (.aload_n 0, 1) := by decide +kernel
theorem dX4_init_1 : decode cX4_init 1 = .ok (.invokespecial 3, 3) := by decide +kernel
theorem dX4_init_4 : decode cX4_init 4 = .ok (.aload_n 0, 1) := by decide +kernel
theorem dX4_init_5 : decode cX4_init 5 = .ok (.bipush 32, 2) := by decide +kernel
theorem dX4_init_7 : decode cX4_init 7 = .ok (.newarray .char, 2) := by decide +kernel
theorem dX4_init_9 : decode cX4_init 9 = .ok (.putfield 9, 3) := by decide +kernel
theorem dX4_init_12 : decode cX4_init 12 = .ok (.aload_n 0, 1) := by decide +kernel
theorem dX4_init_13 : decode cX4_init 13 = .ok (.iconst 5, 1) := by decide +kernel
theorem dX4_init_14 : decode cX4_init 14 = .ok (.newarray .int, 2) := by decide +kernel
theorem dX4_init_16 : decode cX4_init 16 = .ok (.putfield 15, 3) := by decide +kernel
theorem dX4_init_19 : decode cX4_init 19 = .ok (.return_, 1) := by decide +kernel
theorem dX4_has_0 : decode cX4_has 0 = .ok (.iload_n 1, 1) := by decide +kernel
theorem dX4_has_1 : decode cX4_has 1 = .ok (.ifCond .lt 24, 3) := by decide +kernel
theorem dX4_has_4 : decode cX4_has 4 = .ok (.iload_n 1, 1) := by decide +kernel
theorem dX4_has_5 : decode cX4_has 5 = .ok (.aload_n 0, 1) := by decide +kernel
theorem dX4_has_6 : decode cX4_has 6 = .ok (.getfield 19, 3) := by decide +kernel
theorem dX4_has_9 : decode cX4_has 9 = .ok (.if_icmp .ge 16, 3) := by decide +kernel
theorem dX4_has_12 : decode cX4_has 12 = .ok (.iload_n 1, 1) := by decide +kernel
theorem dX4_has_13 : decode cX4_has 13 = .ok (.aload_n 0, 1) := by decide +kernel
theorem dX4_has_14 : decode cX4_has 14 = .ok (.getfield 9, 3) := by decide +kernel
theorem dX4_has_17 : decode cX4_has 17 = .ok (.arraylength, 1) := by decide +kernel
theorem dX4_has_18 : decode cX4_has 18 = .ok (.if_icmp .ge 7, 3) := by decide +kernel
theorem dX4_has_21 : decode cX4_has 21 = .ok (.iconst 1, 1) := by decide +kernel
theorem dX4_has_22 : decode cX4_has 22 = .ok (.goto 4, 3) := by decide +kernel
theorem dX4_has_25 : decode cX4_has 25 = .ok (.iconst 0, 1) := by decide +kernel
theorem dX4_has_26 : decode cX4_has 26 = .ok (.ireturn, 1) := by decide +kernel
theorem dX4_signAt_0 : decode cX4_signAt 0 = .ok (.aload_n 0, 1) := by decide +kernel
theorem dX4_signAt_1 : decode cX4_signAt 1 = .ok (.iload_n 1, 1) := by decide +kernel
theorem dX4_signAt_2 : decode cX4_signAt 2 = .ok (.invokevirtual 23, 3) := by decide +kernel
theorem dX4_signAt_5 : decode cX4_signAt 5 = .ok (.ifCond .eq 12, 3) := by decide +kernel
theorem dX4_signAt_8 : decode cX4_signAt 8 = .ok (.aload_n 0, 1) := by decide +kernel
theorem dX4_signAt_9 : decode cX4_signAt 9 = .ok (.getfield 9, 3) := by decide +kernel
theorem dX4_signAt_12 : decode cX4_signAt 12 = .ok (.iload_n 1, 1) := by decide +kernel
theorem dX4_signAt_13 : decode cX4_signAt 13 = .ok (.caload, 1) := by decide +kernel
theorem dX4_signAt_14 : decode cX4_signAt 14 = .ok (.goto 5, 3) := by decide +kernel
theorem dX4_signAt_17 : decode cX4_signAt 17 = .ok (.bipush 120, 2) := by decide +kernel
theorem dX4_signAt_19 : decode cX4_signAt 19 = .ok (.ireturn, 1) := by decide +kernel
theorem dX4_append_0 : decode cX4_append 0 = .ok (.aload_n 0, 1) := by decide +kernel
theorem dX4_append_1 : decode cX4_append 1 = .ok (.getfield 19, 3) := by decide +kernel
theorem dX4_append_4 : decode cX4_append 4 = .ok (.aload_n 0, 1) := by decide +kernel
theorem dX4_append_5 : decode cX4_append 5 = .ok (.getfield 9, 3) := by decide +kernel
theorem dX4_append_8 : decode cX4_append 8 = .ok (.arraylength, 1) := by decide +kernel
theorem dX4_append_9 : decode cX4_append 9 = .ok (.if_icmp .lt 7, 3) := by decide +kernel
theorem dX4_append_12 : decode cX4_append 12 = .ok (.aload_n 0, 1) := by decide +kernel
theorem dX4_append_13 : decode cX4_append 13 = .ok (.invokevirtual 27, 3) := by decide +kernel
theorem dX4_append_16 : decode cX4_append 16 = .ok (.aload_n 0, 1) := by decide +kernel
theorem dX4_append_17 : decode cX4_append 17 = .ok (.getfield 19, 3) := by decide +kernel
theorem dX4_append_20 : decode cX4_append 20 = .ok (.ifCond .lt 35, 3) := by decide +kernel
theorem dX4_append_23 : decode cX4_append 23 = .ok (.aload_n 0, 1) := by decide +kernel
theorem dX4_append_24 : decode cX4_append 24 = .ok (.getfield 19, 3) := by decide +kernel
theorem dX4_append_27 : decode cX4_append 27 = .ok (.aload_n 0, 1) := by decide +kernel
theorem dX4_append_28 : decode cX4_append 28 = .ok (.getfield 9, 3) := by decide +kernel
theorem dX4_append_31 : decode cX4_append 31 = .ok (.arraylength, 1) := by decide +kernel
theorem dX4_append_32 : decode cX4_append 32 = .ok (.if_icmp .ge 23, 3) := by decide +kernel
theorem dX4_append_35 : decode cX4_append 35 = .ok (.aload_n 0, 1) := by decide +kernel
theorem dX4_append_36 : decode cX4_append 36 = .ok (.getfield 9, 3) := by decide +kernel
theorem dX4_append_39 : decode cX4_append 39 = .ok (.aload_n 0, 1) := by decide +kernel
theorem dX4_append_40 : decode cX4_append 40 = .ok (.getfield 19, 3) := by decide +kernel
theorem dX4_append_43 : decode cX4_append 43 = .ok (.iload_n 1, 1) := by decide +kernel
theorem dX4_append_44 : decode cX4_append 44 = .ok (.castore, 1) := by decide +kernel
theorem dX4_append_45 : decode cX4_append 45 = .ok (.aload_n 0, 1) := by decide +kernel
theorem dX4_append_46 : decode cX4_append 46 = .ok (.dup, 1) := by decide +kernel
theorem dX4_append_47 : decode cX4_append 47 = .ok (.getfield 19, 3) := by decide +kernel
theorem dX4_append_50 : decode cX4_append 50 = .ok (.iconst 1, 1) := by decide +kernel
theorem dX4_append_51 : decode cX4_append 51 = .ok (.iadd, 1) := by decide +kernel
theorem dX4_append_52 : decode cX4_append 52 = .ok (.putfield 19, 3) := by decide +kernel
theorem dX4_append_55 : decode cX4_append 55 = .ok (.ldc 30, 2) := by decide +kernel
theorem dX4_append_57 : decode cX4_append 57 = .ok (.iload_n 1, 1) := by decide +kernel
theorem dX4_append_58 : decode cX4_append 58 = .ok (.invokevirtual 32, 3) := by decide +kernel
theorem dX4_append_61 : decode cX4_append 61 = .ok (.istore_n 2, 1) := by decide +kernel
theorem dX4_append_62 : decode cX4_append 62 = .ok (.iload_n 2, 1) := by decide +kernel
theorem dX4_append_63 : decode cX4_append 63 = .ok (.ifCond .lt 22, 3) := by decide +kernel
theorem dX4_append_66 : decode cX4_append 66 = .ok (.iload_n 2, 1) := by decide +kernel
theorem dX4_append_67 : decode cX4_append 67 = .ok (.aload_n 0, 1) := by decide +kernel
theorem dX4_append_68 : decode cX4_append 68 = .ok (.getfield 15, 3) := by decide +kernel
theorem dX4_append_71 : decode cX4_append 71 = .ok (.arraylength, 1) := by decide +kernel
theorem dX4_append_72 : decode cX4_append 72 = .ok (.if_icmp .ge 13, 3) := by decide +kernel
theorem dX4_append_75 : decode cX4_append 75 = .ok (.aload_n 0, 1) := by decide +kernel
theorem dX4_append_76 : decode cX4_append 76 = .ok (.getfield 15, 3) := by decide +kernel
theorem dX4_append_79 : decode cX4_append 79 = .ok (.iload_n 2, 1) := by decide +kernel
theorem dX4_append_80 : decode cX4_append 80 = .ok (.dup2, 1) := by decide +kernel
theorem dX4_append_81 : decode cX4_append 81 = .ok (.iaload, 1) := by decide +kernel
theorem dX4_append_82 : decode cX4_append 82 = .ok (.iconst 1, 1) := by decide +kernel
theorem dX4_append_83 : decode cX4_append 83 = .ok (.iadd, 1) := by decide +kernel
theorem dX4_append_84 : decode cX4_append 84 = .ok (.iastore, 1) := by decide +kernel
theorem dX4_append_85 : decode cX4_append 85 = .ok (.return_, 1) := by decide +kernel
theorem dX4_totalOf_0 : decode cX4_totalOf 0 = .ok (.ldc 30, 2) := by decide +kernel
theorem dX4_totalOf_2 : decode cX4_totalOf 2 = .ok (.iload_n 1, 1) := by decide +kernel
theorem dX4_totalOf_3 : decode cX4_totalOf 3 = .ok (.invokevirtual 32, 3) := by decide +kernel
theorem dX4_totalOf_6 : decode cX4_totalOf 6 = .ok (.istore_n 2, 1) := by decide +kernel
theorem dX4_totalOf_7 : decode cX4_totalOf 7 = .ok (.iload_n 2, 1) := by decide +kernel
theorem dX4_totalOf_8 : decode cX4_totalOf 8 = .ok (.ifCond .lt 21, 3) := by decide +kernel
theorem dX4_totalOf_11 : decode cX4_totalOf 11 = .ok (.iload_n 2, 1) := by decide +kernel
theorem dX4_totalOf_12 : decode cX4_totalOf 12 = .ok (.aload_n 0, 1) := by decide +kernel
theorem dX4_totalOf_13 : decode cX4_totalOf 13 = .ok (.getfield 15, 3) := by decide +kernel
theorem dX4_totalOf_16 : decode cX4_totalOf 16 = .ok (.arraylength, 1) := by decide +kernel
theorem dX4_totalOf_17 : decode cX4_totalOf 17 = .ok (.if_icmp .ge 12, 3) := by decide +kernel
theorem dX4_totalOf_20 : decode cX4_totalOf 20 = .ok (.aload_n 0, 1) := by decide +kernel
theorem dX4_totalOf_21 : decode cX4_totalOf 21 = .ok (.getfield 15, 3) := by decide +kernel
theorem dX4_totalOf_24 : decode cX4_totalOf 24 = .ok (.iload_n 2, 1) := by decide +kernel
theorem dX4_totalOf_25 : decode cX4_totalOf 25 = .ok (.iaload, 1) := by decide +kernel
theorem dX4_totalOf_26 : decode cX4_totalOf 26 = .ok (.goto 4, 3) := by decide +kernel
theorem dX4_totalOf_29 : decode cX4_totalOf 29 = .ok (.iconst 0, 1) := by decide +kernel
theorem dX4_totalOf_30 : decode cX4_totalOf 30 = .ok (.ireturn, 1) := by decide +kernel
theorem dX4_grow_0 : decode cX4_grow 0 = .ok (.aload_n 0, 1) := by decide +kernel
theorem dX4_grow_1 : decode cX4_grow 1 = .ok (.getfield 9, 3) := by decide +kernel
theorem dX4_grow_4 : decode cX4_grow 4 = .ok (.arraylength, 1) := by decide +kernel
theorem dX4_grow_5 : decode cX4_grow 5 = .ok (.iconst 2, 1) := by decide +kernel
theorem dX4_grow_6 : decode cX4_grow 6 = .ok (.imul, 1) := by decide +kernel
theorem dX4_grow_7 : decode cX4_grow 7 = .ok (.istore_n 1, 1) := by decide +kernel
theorem dX4_grow_8 : decode cX4_grow 8 = .ok (.iload_n 1, 1) := by decide +kernel
theorem dX4_grow_9 : decode cX4_grow 9 = .ok (.aload_n 0, 1) := by decide +kernel
theorem dX4_grow_10 : decode cX4_grow 10 = .ok (.getfield 9, 3) := by decide +kernel
theorem dX4_grow_13 : decode cX4_grow 13 = .ok (.arraylength, 1) := by decide +kernel
theorem dX4_grow_14 : decode cX4_grow 14 = .ok (.if_icmp .le 9, 3) := by decide +kernel
theorem dX4_grow_17 : decode cX4_grow 17 = .ok (.iload_n 1, 1) := by decide +kernel
theorem dX4_grow_18 : decode cX4_grow 18 = .ok (.ldc 38, 2) := by decide +kernel
theorem dX4_grow_20 : decode cX4_grow 20 = .ok (.if_icmp .le 4, 3) := by decide +kernel
theorem dX4_grow_23 : decode cX4_grow 23 = .ok (.return_, 1) := by decide +kernel
theorem dX4_grow_24 : decode cX4_grow 24 = .ok (.iload_n 1, 1) := by decide +kernel
theorem dX4_grow_25 : decode cX4_grow 25 = .ok (.newarray .char, 2) := by decide +kernel
theorem dX4_grow_27 : decode cX4_grow 27 = .ok (.astore_n 2, 1) := by decide +kernel
theorem dX4_grow_28 : decode cX4_grow 28 = .ok (.iconst 0, 1) := by decide +kernel
theorem dX4_grow_29 : decode cX4_grow 29 = .ok (.istore_n 3, 1) := by decide +kernel
theorem dX4_grow_30 : decode cX4_grow 30 = .ok (.iload_n 3, 1) := by decide +kernel
theorem dX4_grow_31 : decode cX4_grow 31 = .ok (.aload_n 0, 1) := by decide +kernel
theorem dX4_grow_32 : decode cX4_grow 32 = .ok (.getfield 9, 3) := by decide +kernel
theorem dX4_grow_35 : decode cX4_grow 35 = .ok (.arraylength, 1) := by decide +kernel
theorem dX4_grow_36 : decode cX4_grow 36 = .ok (.if_icmp .ge 24, 3) := by decide +kernel
theorem dX4_grow_39 : decode cX4_grow 39 = .ok (.iload_n 3, 1) := by decide +kernel
theorem dX4_grow_40 : decode cX4_grow 40 = .ok (.aload_n 2, 1) := by decide +kernel
theorem dX4_grow_41 : decode cX4_grow 41 = .ok (.arraylength, 1) := by decide +kernel
theorem dX4_grow_42 : decode cX4_grow 42 = .ok (.if_icmp .ge 18, 3) := by decide +kernel
theorem dX4_grow_45 : decode cX4_grow 45 = .ok (.aload_n 2, 1) := by decide +kernel
theorem dX4_grow_46 : decode cX4_grow 46 = .ok (.iload_n 3, 1) := by decide +kernel
theorem dX4_grow_47 : decode cX4_grow 47 = .ok (.aload_n 0, 1) := by decide +kernel
theorem dX4_grow_48 : decode cX4_grow 48 = .ok (.getfield 9, 3) := by decide +kernel
theorem dX4_grow_51 : decode cX4_grow 51 = .ok (.iload_n 3, 1) := by decide +kernel
theorem dX4_grow_52 : decode cX4_grow 52 = .ok (.caload, 1) := by decide +kernel
theorem dX4_grow_53 : decode cX4_grow 53 = .ok (.castore, 1) := by decide +kernel
theorem dX4_grow_54 : decode cX4_grow 54 = .ok (.iinc 3 1, 3) := by decide +kernel
theorem dX4_grow_57 : decode cX4_grow 57 = .ok (.goto (-27), 3) := by decide +kernel
theorem dX4_grow_60 : decode cX4_grow 60 = .ok (.aload_n 0, 1) := by decide +kernel
theorem dX4_grow_61 : decode cX4_grow 61 = .ok (.aload_n 2, 1) := by decide +kernel
theorem dX4_grow_62 : decode cX4_grow 62 = .ok (.putfield 9, 3) := by decide +kernel
theorem dX4_grow_65 : decode cX4_grow 65 = .ok (.return_, 1) := by decide +kernel
theorem dX5_init_0 : decode cX5_init 0 = .ok (.aload_n 0, 1) := by decide +kernel
theorem dX5_init_1 : decode cX5_init 1 = .ok (.invokespecial 1, 3) := by decide +kernel
theorem dX5_init_4 : decode cX5_init 4 = .ok (.aload_n 0, 1) := by decide +kernel
theorem dX5_init_5 : decode cX5_init 5 = .ok (.new 7, 3) := by decide +kernel
theorem dX5_init_8 : decode cX5_init 8 = .ok (.dup, 1) := by decide +kernel
theorem dX5_init_9 : decode cX5_init 9 = .ok (.iconst 1, 1) := by decide +kernel
theorem dX5_init_10 : decode cX5_init 10 = .ok (.invokespecial 9, 3) := by decide +kernel
theorem dX5_init_13 : decode cX5_init 13 = .ok (.putfield 12, 3) := by decide +kernel
theorem dX5_init_16 : decode cX5_init 16 = .ok (.aload_n 0, 1) := by decide +kernel
theorem dX5_init_17 : decode cX5_init 17 = .ok (.new 7, 3) := by decide +kernel
theorem dX5_init_20 : decode cX5_init 20 = .ok (.dup, 1) := by decide +kernel
theorem dX5_init_21 : decode cX5_init 21 = .ok (.iconst 0, 1) := by decide +kernel
theorem dX5_init_22 : decode cX5_init 22 = .ok (.invokespecial 9, 3) := by decide +kernel
theorem dX5_init_25 : decode cX5_init 25 = .ok (.putfield 18, 3) := by decide +kernel
theorem dX5_init_28 : decode cX5_init 28 = .ok (.return_, 1) := by decide +kernel
theorem dX5_addStation_0 : decode cX5_addStation 0 = .ok (.iload_n 1, 1) := by decide +kernel
theorem dX5_addStation_1 : decode cX5_addStation 1 = .ok (.iconst 1, 1) := by decide +kernel
theorem dX5_addStation_2 : decode cX5_addStation 2 = .ok (.bipush 9, 2) := by decide +kernel
theorem dX5_addStation_4 : decode cX5_addStation 4 = .ok (.invokestatic 21, 3) := by decide +kernel
theorem dX5_addStation_7 : decode cX5_addStation 7 = .ok (.ifCond .eq 12, 3) := by decide +kernel
theorem dX5_addStation_10 : decode cX5_addStation 10 = .ok (.iload_n 2, 1) := by decide +kernel
theorem dX5_addStation_11 : decode cX5_addStation 11 = .ok (.iconst (-1), 1) := by decide +kernel
theorem dX5_addStation_12 : decode cX5_addStation 12 = .ok (.iconst 5, 1) := by decide +kernel
theorem dX5_addStation_13 : decode cX5_addStation 13 = .ok (.invokestatic 21, 3) := by decide +kernel
theorem dX5_addStation_16 : decode cX5_addStation 16 = .ok (.ifCond .ne 13, 3) := by decide +kernel
theorem dX5_addStation_19 : decode cX5_addStation 19 = .ok (.new 25, 3) := by decide +kernel
theorem dX5_addStation_22 : decode cX5_addStation 22 = .ok (.dup, 1) := by decide +kernel
theorem dX5_addStation_23 : decode cX5_addStation 23 = .ok (.ldc 27, 2) := by decide +kernel
theorem dX5_addStation_25 : decode cX5_addStation 25 = .ok (.invokespecial 29, 3) := by decide +kernel
theorem dX5_addStation_28 : decode cX5_addStation 28 = .ok (.athrow, 1) := by decide +kernel
theorem dX5_addStation_29 : decode cX5_addStation 29 = .ok (.iload_n 2, 1) := by decide +kernel
theorem dX5_addStation_30 : decode cX5_addStation 30 = .ok (.iconst (-1), 1) := by decide +kernel
theorem dX5_addStation_31 : decode cX5_addStation 31 = .ok (.if_icmp .eq 33, 3) := by decide +kernel
theorem dX5_addStation_34 : decode cX5_addStation 34 = .ok (.iload_n 3, 1) := by decide +kernel
theorem dX5_addStation_35 : decode cX5_addStation 35 = .ok (.iconst 1, 1) := by decide +kernel
theorem dX5_addStation_36 : decode cX5_addStation 36 = .ok (.iconst 4, 1) := by decide +kernel
theorem dX5_addStation_37 : decode cX5_addStation 37 = .ok (.invokestatic 21, 3) := by decide +kernel
theorem dX5_addStation_40 : decode cX5_addStation 40 = .ok (.ifCond .eq 14, 3) := by decide +kernel
theorem dX5_addStation_43 : decode cX5_addStation 43 = .ok (.iload 4, 2) := by decide +kernel
theorem dX5_addStation_45 : decode cX5_addStation 45 = .ok (.iconst 4, 1) := by decide +kernel
theorem dX5_addStation_46 : decode cX5_addStation 46 = .ok (.bipush 30, 2) := by decide +kernel
theorem dX5_addStation_48 : decode cX5_addStation 48 = .ok (.invokestatic 21, 3) := by decide +kernel
theorem dX5_addStation_51 : decode cX5_addStation 51 = .ok (.ifCond .ne 13, 3) := by decide +kernel
theorem dX5_addStation_54 : decode cX5_addStation 54 = .ok (.new 25, 3) := by decide +kernel
theorem dX5_addStation_57 : decode cX5_addStation 57 = .ok (.dup, 1) := by decide +kernel
theorem dX5_addStation_58 : decode cX5_addStation 58 = .ok (.ldc 32, 2) := by decide +kernel
theorem dX5_addStation_60 : decode cX5_addStation 60 = .ok (.invokespecial 29, 3) := by decide +kernel
theorem dX5_addStation_63 : decode cX5_addStation 63 = .ok (.athrow, 1) := by decide +kernel
theorem dX5_addStation_64 : decode cX5_addStation 64 = .ok (.aload_n 0, 1) := by decide +kernel
theorem dX5_addStation_65 : decode cX5_addStation 65 = .ok (.getfield 12, 3) := by decide +kernel
theorem dX5_addStation_68 : decode cX5_addStation 68 = .ok (.getfield 34, 3) := by decide +kernel
theorem dX5_addStation_71 : decode cX5_addStation 71 = .ok (.bipush 8, 2) := by decide +kernel
theorem dX5_addStation_73 : decode cX5_addStation 73 = .ok (.if_icmp .ge 13, 3) := by decide +kernel
theorem dX5_addStation_76 : decode cX5_addStation 76 = .ok (.aload_n 0, 1) := by decide +kernel
theorem dX5_addStation_77 : decode cX5_addStation 77 = .ok (.getfield 12, 3) := by decide +kernel
theorem dX5_addStation_80 : decode cX5_addStation 80 = .ok (.getfield 38, 3) := by decide +kernel
theorem dX5_addStation_83 : decode cX5_addStation 83 = .ok (.ifCond .le 13, 3) := by decide +kernel
theorem dX5_addStation_86 : decode cX5_addStation 86 = .ok (.new 41, 3) := by decide +kernel
theorem dX5_addStation_89 : decode cX5_addStation 89 = .ok (.dup, 1) := by decide +kernel
theorem dX5_addStation_90 : decode cX5_addStation 90 = .ok (.ldc 43, 2) := by decide +kernel
theorem dX5_addStation_92 : decode cX5_addStation 92 = .ok (.invokespecial 45, 3) := by decide +kernel
theorem dX5_addStation_95 : decode cX5_addStation 95 = .ok (.athrow, 1) := by decide +kernel
theorem dX5_addStation_96 : decode cX5_addStation 96 = .ok (.aload_n 0, 1) := by decide +kernel
theorem dX5_addStation_97 : decode cX5_addStation 97 = .ok (.getfield 12, 3) := by decide +kernel
theorem dX5_addStation_100 : decode cX5_addStation 100 = .ok (.iload_n 1, 1) := by decide +kernel
theorem dX5_addStation_101 : decode cX5_addStation 101 = .ok (.iload_n 2, 1) := by decide +kernel
theorem dX5_addStation_102 : decode cX5_addStation 102 = .ok (.iload_n 3, 1) := by decide +kernel
theorem dX5_addStation_103 : decode cX5_addStation 103 = .ok (.iload 4, 2) := by decide +kernel
theorem dX5_addStation_105 : decode cX5_addStation 105 = .ok (.invokevirtual 46, 3) := by decide +kernel
theorem dX5_addStation_108 : decode cX5_addStation 108 = .ok (.ireturn, 1) := by decide +kernel
theorem dX5_supply_0 : decode cX5_supply 0 = .ok (.iload_n 1, 1) := by decide +kernel
theorem dX5_supply_1 : decode cX5_supply 1 = .ok (.invokestatic 50, 3) := by decide +kernel
theorem dX5_supply_4 : decode cX5_supply 4 = .ok (.iload_n 2, 1) := by decide +kernel
theorem dX5_supply_5 : decode cX5_supply 5 = .ok (.iconst 1, 1) := by decide +kernel
theorem dX5_supply_6 : decode cX5_supply 6 = .ok (.bipush 99, 2) := by decide +kernel
theorem dX5_supply_8 : decode cX5_supply 8 = .ok (.invokestatic 21, 3) := by decide +kernel
theorem dX5_supply_11 : decode cX5_supply 11 = .ok (.ifCond .ne 13, 3) := by decide +kernel
theorem dX5_supply_14 : decode cX5_supply 14 = .ok (.new 25, 3) := by decide +kernel
theorem dX5_supply_17 : decode cX5_supply 17 = .ok (.dup, 1) := by decide +kernel
theorem dX5_supply_18 : decode cX5_supply 18 = .ok (.ldc 54, 2) := by decide +kernel
theorem dX5_supply_20 : decode cX5_supply 20 = .ok (.invokespecial 29, 3) := by decide +kernel
theorem dX5_supply_23 : decode cX5_supply 23 = .ok (.athrow, 1) := by decide +kernel
theorem dX5_supply_24 : decode cX5_supply 24 = .ok (.aload_n 0, 1) := by decide +kernel
theorem dX5_supply_25 : decode cX5_supply 25 = .ok (.getfield 12, 3) := by decide +kernel
theorem dX5_supply_28 : decode cX5_supply 28 = .ok (.iload_n 1, 1) := by decide +kernel
theorem dX5_supply_29 : decode cX5_supply 29 = .ok (.invokevirtual 56, 3) := by decide +kernel
theorem dX5_supply_32 : decode cX5_supply 32 = .ok (.iload_n 2, 1) := by decide +kernel
theorem dX5_supply_33 : decode cX5_supply 33 = .ok (.iadd, 1) := by decide +kernel
theorem dX5_supply_34 : decode cX5_supply 34 = .ok (.sipush 999, 3) := by decide +kernel
theorem dX5_supply_37 : decode cX5_supply 37 = .ok (.if_icmp .le 13, 3) := by decide +kernel
theorem dX5_supply_40 : decode cX5_supply 40 = .ok (.new 41, 3) := by decide +kernel
theorem dX5_supply_43 : decode cX5_supply 43 = .ok (.dup, 1) := by decide +kernel
theorem dX5_supply_44 : decode cX5_supply 44 = .ok (.ldc 60, 2) := by decide +kernel
theorem dX5_supply_46 : decode cX5_supply 46 = .ok (.invokespecial 45, 3) := by decide +kernel
theorem dX5_supply_49 : decode cX5_supply 49 = .ok (.athrow, 1) := by decide +kernel
theorem dX5_supply_50 : decode cX5_supply 50 = .ok (.aload_n 0, 1) := by decide +kernel
theorem dX5_supply_51 : decode cX5_supply 51 = .ok (.getfield 12, 3) := by decide +kernel
theorem dX5_supply_54 : decode cX5_supply 54 = .ok (.iload_n 1, 1) := by decide +kernel
theorem dX5_supply_55 : decode cX5_supply 55 = .ok (.iload_n 2, 1) := by decide +kernel
theorem dX5_supply_56 : decode cX5_supply 56 = .ok (.invokevirtual 62, 3) := by decide +kernel
theorem dX5_supply_59 : decode cX5_supply 59 = .ok (.aload_n 0, 1) := by decide +kernel
theorem dX5_supply_60 : decode cX5_supply 60 = .ok (.getfield 12, 3) := by decide +kernel
theorem dX5_supply_63 : decode cX5_supply 63 = .ok (.iload_n 1, 1) := by decide +kernel
theorem dX5_supply_64 : decode cX5_supply 64 = .ok (.invokevirtual 56, 3) := by decide +kernel
theorem dX5_supply_67 : decode cX5_supply 67 = .ok (.ireturn, 1) := by decide +kernel
theorem dX5_setPeriod_0 : decode cX5_setPeriod 0 = .ok (.iload_n 1, 1) := by decide +kernel
theorem dX5_setPeriod_1 : decode cX5_setPeriod 1 = .ok (.iconst 1, 1) := by decide +kernel
theorem dX5_setPeriod_2 : decode cX5_setPeriod 2 = .ok (.bipush 60, 2) := by decide +kernel
theorem dX5_setPeriod_4 : decode cX5_setPeriod 4 = .ok (.invokestatic 21, 3) := by decide +kernel
theorem dX5_setPeriod_7 : decode cX5_setPeriod 7 = .ok (.ifCond .ne 13, 3) := by decide +kernel
theorem dX5_setPeriod_10 : decode cX5_setPeriod 10 = .ok (.new 25, 3) := by decide +kernel
theorem dX5_setPeriod_13 : decode cX5_setPeriod 13 = .ok (.dup, 1) := by decide +kernel
theorem dX5_setPeriod_14 : decode cX5_setPeriod 14 = .ok (.ldc 66, 2) := by decide +kernel
theorem dX5_setPeriod_16 : decode cX5_setPeriod 16 = .ok (.invokespecial 29, 3) := by decide +kernel
theorem dX5_setPeriod_19 : decode cX5_setPeriod 19 = .ok (.athrow, 1) := by decide +kernel
theorem dX5_setPeriod_20 : decode cX5_setPeriod 20 = .ok (.aload_n 0, 1) := by decide +kernel
theorem dX5_setPeriod_21 : decode cX5_setPeriod 21 = .ok (.getfield 12, 3) := by decide +kernel
theorem dX5_setPeriod_24 : decode cX5_setPeriod 24 = .ok (.getfield 68, 3) := by decide +kernel
theorem dX5_setPeriod_27 : decode cX5_setPeriod 27 = .ok (.istore_n 2, 1) := by decide +kernel
theorem dX5_setPeriod_28 : decode cX5_setPeriod 28 = .ok (.aload_n 0, 1) := by decide +kernel
theorem dX5_setPeriod_29 : decode cX5_setPeriod 29 = .ok (.getfield 12, 3) := by decide +kernel
theorem dX5_setPeriod_32 : decode cX5_setPeriod 32 = .ok (.iload_n 1, 1) := by decide +kernel
theorem dX5_setPeriod_33 : decode cX5_setPeriod 33 = .ok (.putfield 68, 3) := by decide +kernel
theorem dX5_setPeriod_36 : decode cX5_setPeriod 36 = .ok (.iload_n 2, 1) := by decide +kernel
theorem dX5_setPeriod_37 : decode cX5_setPeriod 37 = .ok (.ireturn, 1) := by decide +kernel
theorem dX5_addCar_0 : decode cX5_addCar 0 = .ok (.iload_n 1, 1) := by decide +kernel
theorem dX5_addCar_1 : decode cX5_addCar 1 = .ok (.iconst 0, 1) := by decide +kernel
theorem dX5_addCar_2 : decode cX5_addCar 2 = .ok (.bipush 63, 2) := by decide +kernel
theorem dX5_addCar_4 : decode cX5_addCar 4 = .ok (.invokestatic 21, 3) := by decide +kernel
theorem dX5_addCar_7 : decode cX5_addCar 7 = .ok (.ifCond .ne 13, 3) := by decide +kernel
theorem dX5_addCar_10 : decode cX5_addCar 10 = .ok (.new 25, 3) := by decide +kernel
theorem dX5_addCar_13 : decode cX5_addCar 13 = .ok (.dup, 1) := by decide +kernel
theorem dX5_addCar_14 : decode cX5_addCar 14 = .ok (.ldc 71, 2) := by decide +kernel
theorem dX5_addCar_16 : decode cX5_addCar 16 = .ok (.invokespecial 29, 3) := by decide +kernel
theorem dX5_addCar_19 : decode cX5_addCar 19 = .ok (.athrow, 1) := by decide +kernel
theorem dX5_addCar_20 : decode cX5_addCar 20 = .ok (.aload_n 0, 1) := by decide +kernel
theorem dX5_addCar_21 : decode cX5_addCar 21 = .ok (.getfield 12, 3) := by decide +kernel
theorem dX5_addCar_24 : decode cX5_addCar 24 = .ok (.getfield 73, 3) := by decide +kernel
theorem dX5_addCar_27 : decode cX5_addCar 27 = .ok (.bipush 30, 2) := by decide +kernel
theorem dX5_addCar_29 : decode cX5_addCar 29 = .ok (.if_icmp .ge 13, 3) := by decide +kernel
theorem dX5_addCar_32 : decode cX5_addCar 32 = .ok (.aload_n 0, 1) := by decide +kernel
theorem dX5_addCar_33 : decode cX5_addCar 33 = .ok (.getfield 12, 3) := by decide +kernel
theorem dX5_addCar_36 : decode cX5_addCar 36 = .ok (.getfield 34, 3) := by decide +kernel
theorem dX5_addCar_39 : decode cX5_addCar 39 = .ok (.ifCond .ne 13, 3) := by decide +kernel
theorem dX5_addCar_42 : decode cX5_addCar 42 = .ok (.new 41, 3) := by decide +kernel
theorem dX5_addCar_45 : decode cX5_addCar 45 = .ok (.dup, 1) := by decide +kernel
theorem dX5_addCar_46 : decode cX5_addCar 46 = .ok (.ldc 76, 2) := by decide +kernel
theorem dX5_addCar_48 : decode cX5_addCar 48 = .ok (.invokespecial 45, 3) := by decide +kernel
theorem dX5_addCar_51 : decode cX5_addCar 51 = .ok (.athrow, 1) := by decide +kernel
theorem dX5_addCar_52 : decode cX5_addCar 52 = .ok (.aload_n 0, 1) := by decide +kernel
theorem dX5_addCar_53 : decode cX5_addCar 53 = .ok (.getfield 12, 3) := by decide +kernel
theorem dX5_addCar_56 : decode cX5_addCar 56 = .ok (.iload_n 1, 1) := by decide +kernel
theorem dX5_addCar_57 : decode cX5_addCar 57 = .ok (.invokevirtual 78, 3) := by decide +kernel
theorem dX5_addCar_60 : decode cX5_addCar 60 = .ok (.ireturn, 1) := by decide +kernel
theorem dX5_swap_0 : decode cX5_swap 0 = .ok (.aload_n 0, 1) := by decide +kernel
theorem dX5_swap_1 : decode cX5_swap 1 = .ok (.iload_n 1, 1) := by decide +kernel
theorem dX5_swap_2 : decode cX5_swap 2 = .ok (.invokevirtual 81, 3) := by decide +kernel
theorem dX5_swap_5 : decode cX5_swap 5 = .ok (.astore_n 3, 1) := by decide +kernel
theorem dX5_swap_6 : decode cX5_swap 6 = .ok (.aload_n 0, 1) := by decide +kernel
theorem dX5_swap_7 : decode cX5_swap 7 = .ok (.iload_n 2, 1) := by decide +kernel
theorem dX5_swap_8 : decode cX5_swap 8 = .ok (.invokevirtual 81, 3) := by decide +kernel
theorem dX5_swap_11 : decode cX5_swap 11 = .ok (.astore 4, 2) := by decide +kernel
theorem dX5_swap_13 : decode cX5_swap 13 = .ok (.iload_n 1, 1) := by decide +kernel
theorem dX5_swap_14 : decode cX5_swap 14 = .ok (.iload_n 2, 1) := by decide +kernel
theorem dX5_swap_15 : decode cX5_swap 15 = .ok (.if_icmp .ne 13, 3) := by decide +kernel
theorem dX5_swap_18 : decode cX5_swap 18 = .ok (.new 25, 3) := by decide +kernel
theorem dX5_swap_21 : decode cX5_swap 21 = .ok (.dup, 1) := by decide +kernel
theorem dX5_swap_22 : decode cX5_swap 22 = .ok (.ldc 85, 2) := by decide +kernel
theorem dX5_swap_24 : decode cX5_swap 24 = .ok (.invokespecial 29, 3) := by decide +kernel
theorem dX5_swap_27 : decode cX5_swap 27 = .ok (.athrow, 1) := by decide +kernel
theorem dX5_swap_28 : decode cX5_swap 28 = .ok (.aload_n 3, 1) := by decide +kernel
theorem dX5_swap_29 : decode cX5_swap 29 = .ok (.getfield 87, 3) := by decide +kernel
theorem dX5_swap_32 : decode cX5_swap 32 = .ok (.bipush 119, 2) := by decide +kernel
theorem dX5_swap_34 : decode cX5_swap 34 = .ok (.if_icmp .ne 13, 3) := by decide +kernel
theorem dX5_swap_37 : decode cX5_swap 37 = .ok (.aload 4, 2) := by decide +kernel
theorem dX5_swap_39 : decode cX5_swap 39 = .ok (.getfield 87, 3) := by decide +kernel
theorem dX5_swap_42 : decode cX5_swap 42 = .ok (.bipush 119, 2) := by decide +kernel
theorem dX5_swap_44 : decode cX5_swap 44 = .ok (.if_icmp .eq 13, 3) := by decide +kernel
theorem dX5_swap_47 : decode cX5_swap 47 = .ok (.new 41, 3) := by decide +kernel
theorem dX5_swap_50 : decode cX5_swap 50 = .ok (.dup, 1) := by decide +kernel
theorem dX5_swap_51 : decode cX5_swap 51 = .ok (.ldc 93, 2) := by decide +kernel
theorem dX5_swap_53 : decode cX5_swap 53 = .ok (.invokespecial 45, 3) := by decide +kernel
theorem dX5_swap_56 : decode cX5_swap 56 = .ok (.athrow, 1) := by decide +kernel
theorem dX5_swap_57 : decode cX5_swap 57 = .ok (.aload_n 0, 1) := by decide +kernel
theorem dX5_swap_58 : decode cX5_swap 58 = .ok (.getfield 12, 3) := by decide +kernel
theorem dX5_swap_61 : decode cX5_swap 61 = .ok (.getfield 95, 3) := by decide +kernel
theorem dX5_swap_64 : decode cX5_swap 64 = .ok (.iload_n 2, 1) := by decide +kernel
theorem dX5_swap_65 : decode cX5_swap 65 = .ok (.invokevirtual 99, 3) := by decide +kernel
theorem dX5_swap_68 : decode cX5_swap 68 = .ok (.istore 5, 2) := by decide +kernel
theorem dX5_swap_70 : decode cX5_swap 70 = .ok (.aload_n 0, 1) := by decide +kernel
theorem dX5_swap_71 : decode cX5_swap 71 = .ok (.getfield 12, 3) := by decide +kernel
theorem dX5_swap_74 : decode cX5_swap 74 = .ok (.getfield 95, 3) := by decide +kernel
theorem dX5_swap_77 : decode cX5_swap 77 = .ok (.aload_n 0, 1) := by decide +kernel
theorem dX5_swap_78 : decode cX5_swap 78 = .ok (.getfield 12, 3) := by decide +kernel
theorem dX5_swap_81 : decode cX5_swap 81 = .ok (.getfield 95, 3) := by decide +kernel
theorem dX5_swap_84 : decode cX5_swap 84 = .ok (.iload_n 1, 1) := by decide +kernel
theorem dX5_swap_85 : decode cX5_swap 85 = .ok (.invokevirtual 99, 3) := by decide +kernel
theorem dX5_swap_88 : decode cX5_swap 88 = .ok (.iload 5, 2) := by decide +kernel
theorem dX5_swap_90 : decode cX5_swap 90 = .ok (.invokevirtual 104, 3) := by decide +kernel
theorem dX5_swap_93 : decode cX5_swap 93 = .ok (.iload 5, 2) := by decide +kernel
theorem dX5_swap_95 : decode cX5_swap 95 = .ok (.ireturn, 1) := by decide +kernel
theorem dX5_fault_0 : decode cX5_fault 0 = .ok (.aload_n 0, 1) := by decide +kernel
theorem dX5_fault_1 : decode cX5_fault 1 = .ok (.iload_n 1, 1) := by decide +kernel
theorem dX5_fault_2 : decode cX5_fault 2 = .ok (.invokevirtual 81, 3) := by decide +kernel
theorem dX5_fault_5 : decode cX5_fault 5 = .ok (.astore_n 3, 1) := by decide +kernel
theorem dX5_fault_6 : decode cX5_fault 6 = .ok (.aload_n 0, 1) := by decide +kernel
theorem dX5_fault_7 : decode cX5_fault 7 = .ok (.iload_n 2, 1) := by decide +kernel
theorem dX5_fault_8 : decode cX5_fault 8 = .ok (.invokevirtual 107, 3) := by decide +kernel
theorem dX5_fault_11 : decode cX5_fault 11 = .ok (.pop, 1) := by decide +kernel
theorem dX5_fault_12 : decode cX5_fault 12 = .ok (.aload_n 3, 1) := by decide +kernel
theorem dX5_fault_13 : decode cX5_fault 13 = .ok (.iload_n 2, 1) := by decide +kernel
theorem dX5_fault_14 : decode cX5_fault 14 = .ok (.invokevirtual 111, 3) := by decide +kernel
theorem dX5_fault_17 : decode cX5_fault 17 = .ok (.ifCond .eq 20, 3) := by decide +kernel
theorem dX5_fault_20 : decode cX5_fault 20 = .ok (.aload_n 3, 1) := by decide +kernel
theorem dX5_fault_21 : decode cX5_fault 21 = .ok (.getfield 115, 3) := by decide +kernel
theorem dX5_fault_24 : decode cX5_fault 24 = .ok (.iload_n 2, 1) := by decide +kernel
theorem dX5_fault_25 : decode cX5_fault 25 = .ok (.if_icmp .eq 12, 3) := by decide +kernel
theorem dX5_fault_28 : decode cX5_fault 28 = .ok (.aload_n 3, 1) := by decide +kernel
theorem dX5_fault_29 : decode cX5_fault 29 = .ok (.getfield 87, 3) := by decide +kernel
theorem dX5_fault_32 : decode cX5_fault 32 = .ok (.bipush 100, 2) := by decide +kernel
theorem dX5_fault_34 : decode cX5_fault 34 = .ok (.if_icmp .ne 13, 3) := by decide +kernel
theorem dX5_fault_37 : decode cX5_fault 37 = .ok (.new 41, 3) := by decide +kernel
theorem dX5_fault_40 : decode cX5_fault 40 = .ok (.dup, 1) := by decide +kernel
theorem dX5_fault_41 : decode cX5_fault 41 = .ok (.ldc 118, 2) := by decide +kernel
theorem dX5_fault_43 : decode cX5_fault 43 = .ok (.invokespecial 45, 3) := by decide +kernel
theorem dX5_fault_46 : decode cX5_fault 46 = .ok (.athrow, 1) := by decide +kernel
theorem dX5_fault_47 : decode cX5_fault 47 = .ok (.aload_n 3, 1) := by decide +kernel
theorem dX5_fault_48 : decode cX5_fault 48 = .ok (.iload_n 2, 1) := by decide +kernel
theorem dX5_fault_49 : decode cX5_fault 49 = .ok (.invokevirtual 120, 3) := by decide +kernel
theorem dX5_fault_52 : decode cX5_fault 52 = .ok (.ifCond .eq 13, 3) := by decide +kernel
theorem dX5_fault_55 : decode cX5_fault 55 = .ok (.new 123, 3) := by decide +kernel
theorem dX5_fault_58 : decode cX5_fault 58 = .ok (.dup, 1) := by decide +kernel
theorem dX5_fault_59 : decode cX5_fault 59 = .ok (.ldc 125, 2) := by decide +kernel
theorem dX5_fault_61 : decode cX5_fault 61 = .ok (.invokespecial 127, 3) := by decide +kernel
theorem dX5_fault_64 : decode cX5_fault 64 = .ok (.athrow, 1) := by decide +kernel
theorem dX5_fault_65 : decode cX5_fault 65 = .ok (.aload_n 3, 1) := by decide +kernel
theorem dX5_fault_66 : decode cX5_fault 66 = .ok (.iload_n 2, 1) := by decide +kernel
theorem dX5_fault_67 : decode cX5_fault 67 = .ok (.invokevirtual 128, 3) := by decide +kernel
theorem dX5_fault_70 : decode cX5_fault 70 = .ok (.aload_n 3, 1) := by decide +kernel
theorem dX5_fault_71 : decode cX5_fault 71 = .ok (.invokevirtual 131, 3) := by decide +kernel
theorem dX5_fault_74 : decode cX5_fault 74 = .ok (.ireturn, 1) := by decide +kernel
theorem dX5_tick_0 : decode cX5_tick 0 = .ok (.iload_n 1, 1) := by decide +kernel
theorem dX5_tick_1 : decode cX5_tick 1 = .ok (.iconst 1, 1) := by decide +kernel
theorem dX5_tick_2 : decode cX5_tick 2 = .ok (.bipush 60, 2) := by decide +kernel
theorem dX5_tick_4 : decode cX5_tick 4 = .ok (.invokestatic 21, 3) := by decide +kernel
theorem dX5_tick_7 : decode cX5_tick 7 = .ok (.ifCond .ne 13, 3) := by decide +kernel
theorem dX5_tick_10 : decode cX5_tick 10 = .ok (.new 25, 3) := by decide +kernel
theorem dX5_tick_13 : decode cX5_tick 13 = .ok (.dup, 1) := by decide +kernel
theorem dX5_tick_14 : decode cX5_tick 14 = .ok (.ldc 135, 2) := by decide +kernel
theorem dX5_tick_16 : decode cX5_tick 16 = .ok (.invokespecial 29, 3) := by decide +kernel
theorem dX5_tick_19 : decode cX5_tick 19 = .ok (.athrow, 1) := by decide +kernel
theorem dX5_tick_20 : decode cX5_tick 20 = .ok (.aload_n 0, 1) := by decide +kernel
theorem dX5_tick_21 : decode cX5_tick 21 = .ok (.getfield 12, 3) := by decide +kernel
theorem dX5_tick_24 : decode cX5_tick 24 = .ok (.getfield 34, 3) := by decide +kernel
theorem dX5_tick_27 : decode cX5_tick 27 = .ok (.ifCond .eq 18, 3) := by decide +kernel
theorem dX5_tick_30 : decode cX5_tick 30 = .ok (.aload_n 0, 1) := by decide +kernel
theorem dX5_tick_31 : decode cX5_tick 31 = .ok (.getfield 12, 3) := by decide +kernel
theorem dX5_tick_34 : decode cX5_tick 34 = .ok (.getfield 38, 3) := by decide +kernel
theorem dX5_tick_37 : decode cX5_tick 37 = .ok (.iload_n 1, 1) := by decide +kernel
theorem dX5_tick_38 : decode cX5_tick 38 = .ok (.iadd, 1) := by decide +kernel
theorem dX5_tick_39 : decode cX5_tick 39 = .ok (.sipush 9999, 3) := by decide +kernel
theorem dX5_tick_42 : decode cX5_tick 42 = .ok (.if_icmp .le 13, 3) := by decide +kernel
theorem dX5_tick_45 : decode cX5_tick 45 = .ok (.new 41, 3) := by decide +kernel
theorem dX5_tick_48 : decode cX5_tick 48 = .ok (.dup, 1) := by decide +kernel
theorem dX5_tick_49 : decode cX5_tick 49 = .ok (.ldc 137, 2) := by decide +kernel
theorem dX5_tick_51 : decode cX5_tick 51 = .ok (.invokespecial 45, 3) := by decide +kernel
theorem dX5_tick_54 : decode cX5_tick 54 = .ok (.athrow, 1) := by decide +kernel
theorem dX5_tick_55 : decode cX5_tick 55 = .ok (.aload_n 0, 1) := by decide +kernel
theorem dX5_tick_56 : decode cX5_tick 56 = .ok (.getfield 12, 3) := by decide +kernel
theorem dX5_tick_59 : decode cX5_tick 59 = .ok (.getfield 139, 3) := by decide +kernel
theorem dX5_tick_62 : decode cX5_tick 62 = .ok (.getfield 142, 3) := by decide +kernel
theorem dX5_tick_65 : decode cX5_tick 65 = .ok (.istore_n 2, 1) := by decide +kernel
theorem dX5_tick_66 : decode cX5_tick 66 = .ok (.iconst 0, 1) := by decide +kernel
theorem dX5_tick_67 : decode cX5_tick 67 = .ok (.istore_n 3, 1) := by decide +kernel
theorem dX5_tick_68 : decode cX5_tick 68 = .ok (.iload_n 3, 1) := by decide +kernel
theorem dX5_tick_69 : decode cX5_tick 69 = .ok (.iload_n 1, 1) := by decide +kernel
theorem dX5_tick_70 : decode cX5_tick 70 = .ok (.if_icmp .ge 16, 3) := by decide +kernel
theorem dX5_tick_73 : decode cX5_tick 73 = .ok (.aload_n 0, 1) := by decide +kernel
theorem dX5_tick_74 : decode cX5_tick 74 = .ok (.getfield 12, 3) := by decide +kernel
theorem dX5_tick_77 : decode cX5_tick 77 = .ok (.invokevirtual 145, 3) := by decide +kernel
theorem dX5_tick_80 : decode cX5_tick 80 = .ok (.iinc 3 1, 3) := by decide +kernel
theorem dX5_tick_83 : decode cX5_tick 83 = .ok (.goto (-15), 3) := by decide +kernel
theorem dX5_tick_86 : decode cX5_tick 86 = .ok (.aload_n 0, 1) := by decide +kernel
theorem dX5_tick_87 : decode cX5_tick 87 = .ok (.getfield 12, 3) := by decide +kernel
theorem dX5_tick_90 : decode cX5_tick 90 = .ok (.getfield 139, 3) := by decide +kernel
theorem dX5_tick_93 : decode cX5_tick 93 = .ok (.getfield 142, 3) := by decide +kernel
theorem dX5_tick_96 : decode cX5_tick 96 = .ok (.iload_n 2, 1) := by decide +kernel
theorem dX5_tick_97 : decode cX5_tick 97 = .ok (.isub, 1) := by decide +kernel
theorem dX5_tick_98 : decode cX5_tick 98 = .ok (.ireturn, 1) := by decide +kernel
theorem dX5_now_0 : decode cX5_now 0 = .ok (.aload_n 0, 1) := by decide +kernel
theorem dX5_now_1 : decode cX5_now 1 = .ok (.getfield 12, 3) := by decide +kernel
theorem dX5_now_4 : decode cX5_now 4 = .ok (.getfield 38, 3) := by decide +kernel
theorem dX5_now_7 : decode cX5_now 7 = .ok (.ireturn, 1) := by decide +kernel
theorem dX5_stations_0 : decode cX5_stations 0 = .ok (.aload_n 0, 1) := by decide +kernel
theorem dX5_stations_1 : decode cX5_stations 1 = .ok (.getfield 12, 3) := by decide +kernel
theorem dX5_stations_4 : decode cX5_stations 4 = .ok (.getfield 34, 3) := by decide +kernel
theorem dX5_stations_7 : decode cX5_stations 7 = .ok (.ireturn, 1) := by decide +kernel
theorem dX5_cars_0 : decode cX5_cars 0 = .ok (.aload_n 0, 1) := by decide +kernel
theorem dX5_cars_1 : decode cX5_cars 1 = .ok (.getfield 12, 3) := by decide +kernel
theorem dX5_cars_4 : decode cX5_cars 4 = .ok (.getfield 73, 3) := by decide +kernel
theorem dX5_cars_7 : decode cX5_cars 7 = .ok (.ireturn, 1) := by decide +kernel
theorem dX5_stateOf_0 : decode cX5_stateOf 0 = .ok (.aload_n 0, 1) := by decide +kernel
theorem dX5_stateOf_1 : decode cX5_stateOf 1 = .ok (.iload_n 1, 1) := by decide +kernel
theorem dX5_stateOf_2 : decode cX5_stateOf 2 = .ok (.invokevirtual 81, 3) := by decide +kernel
theorem dX5_stateOf_5 : decode cX5_stateOf 5 = .ok (.getfield 87, 3) := by decide +kernel
theorem dX5_stateOf_8 : decode cX5_stateOf 8 = .ok (.ireturn, 1) := by decide +kernel
theorem dX5_stationOf_0 : decode cX5_stationOf 0 = .ok (.aload_n 0, 1) := by decide +kernel
theorem dX5_stationOf_1 : decode cX5_stationOf 1 = .ok (.iload_n 1, 1) := by decide +kernel
theorem dX5_stationOf_2 : decode cX5_stationOf 2 = .ok (.invokevirtual 148, 3) := by decide +kernel
theorem dX5_stationOf_5 : decode cX5_stationOf 5 = .ok (.getfield 115, 3) := by decide +kernel
theorem dX5_stationOf_8 : decode cX5_stationOf 8 = .ok (.ireturn, 1) := by decide +kernel
theorem dX5_toGo_0 : decode cX5_toGo 0 = .ok (.aload_n 0, 1) := by decide +kernel
theorem dX5_toGo_1 : decode cX5_toGo 1 = .ok (.iload_n 1, 1) := by decide +kernel
theorem dX5_toGo_2 : decode cX5_toGo 2 = .ok (.invokevirtual 148, 3) := by decide +kernel
theorem dX5_toGo_5 : decode cX5_toGo 5 = .ok (.getfield 151, 3) := by decide +kernel
theorem dX5_toGo_8 : decode cX5_toGo 8 = .ok (.ireturn, 1) := by decide +kernel
theorem dX5_carAt_0 : decode cX5_carAt 0 = .ok (.aload_n 0, 1) := by decide +kernel
theorem dX5_carAt_1 : decode cX5_carAt 1 = .ok (.iload_n 1, 1) := by decide +kernel
theorem dX5_carAt_2 : decode cX5_carAt 2 = .ok (.invokevirtual 107, 3) := by decide +kernel
theorem dX5_carAt_5 : decode cX5_carAt 5 = .ok (.astore_n 2, 1) := by decide +kernel
theorem dX5_carAt_6 : decode cX5_carAt 6 = .ok (.aload_n 2, 1) := by decide +kernel
theorem dX5_carAt_7 : decode cX5_carAt 7 = .ok (.getfield 154, 3) := by decide +kernel
theorem dX5_carAt_10 : decode cX5_carAt 10 = .ok (.iconst (-1), 1) := by decide +kernel
theorem dX5_carAt_11 : decode cX5_carAt 11 = .ok (.if_icmp .ne 13, 3) := by decide +kernel
theorem dX5_carAt_14 : decode cX5_carAt 14 = .ok (.new 41, 3) := by decide +kernel
theorem dX5_carAt_17 : decode cX5_carAt 17 = .ok (.dup, 1) := by decide +kernel
theorem dX5_carAt_18 : decode cX5_carAt 18 = .ok (.ldc 159, 2) := by decide +kernel
theorem dX5_carAt_20 : decode cX5_carAt 20 = .ok (.invokespecial 45, 3) := by decide +kernel
theorem dX5_carAt_23 : decode cX5_carAt 23 = .ok (.athrow, 1) := by decide +kernel
theorem dX5_carAt_24 : decode cX5_carAt 24 = .ok (.aload_n 2, 1) := by decide +kernel
theorem dX5_carAt_25 : decode cX5_carAt 25 = .ok (.getfield 154, 3) := by decide +kernel
theorem dX5_carAt_28 : decode cX5_carAt 28 = .ok (.ireturn, 1) := by decide +kernel
theorem dX5_isBack_0 : decode cX5_isBack 0 = .ok (.aload_n 0, 1) := by decide +kernel
theorem dX5_isBack_1 : decode cX5_isBack 1 = .ok (.iload_n 1, 1) := by decide +kernel
theorem dX5_isBack_2 : decode cX5_isBack 2 = .ok (.invokevirtual 81, 3) := by decide +kernel
theorem dX5_isBack_5 : decode cX5_isBack 5 = .ok (.getfield 161, 3) := by decide +kernel
theorem dX5_isBack_8 : decode cX5_isBack 8 = .ok (.ireturn, 1) := by decide +kernel
theorem dX5_waiting_0 : decode cX5_waiting 0 = .ok (.aload_n 0, 1) := by decide +kernel
theorem dX5_waiting_1 : decode cX5_waiting 1 = .ok (.getfield 12, 3) := by decide +kernel
theorem dX5_waiting_4 : decode cX5_waiting 4 = .ok (.getfield 95, 3) := by decide +kernel
theorem dX5_waiting_7 : decode cX5_waiting 7 = .ok (.getfield 142, 3) := by decide +kernel
theorem dX5_waiting_10 : decode cX5_waiting 10 = .ok (.ireturn, 1) := by decide +kernel
theorem dX5_waitingAt_0 : decode cX5_waitingAt 0 = .ok (.aload_n 0, 1) := by decide +kernel
theorem dX5_waitingAt_1 : decode cX5_waitingAt 1 = .ok (.getfield 12, 3) := by decide +kernel
theorem dX5_waitingAt_4 : decode cX5_waitingAt 4 = .ok (.getfield 95, 3) := by decide +kernel
theorem dX5_waitingAt_7 : decode cX5_waitingAt 7 = .ok (.iload_n 1, 1) := by decide +kernel
theorem dX5_waitingAt_8 : decode cX5_waitingAt 8 = .ok (.invokestatic 165, 3) := by decide +kernel
theorem dX5_waitingAt_11 : decode cX5_waitingAt 11 = .ok (.ireturn, 1) := by decide +kernel
theorem dX5_looped_0 : decode cX5_looped 0 = .ok (.aload_n 0, 1) := by decide +kernel
theorem dX5_looped_1 : decode cX5_looped 1 = .ok (.getfield 12, 3) := by decide +kernel
theorem dX5_looped_4 : decode cX5_looped 4 = .ok (.getfield 169, 3) := by decide +kernel
theorem dX5_looped_7 : decode cX5_looped 7 = .ok (.getfield 142, 3) := by decide +kernel
theorem dX5_looped_10 : decode cX5_looped 10 = .ok (.ireturn, 1) := by decide +kernel
theorem dX5_loopedAt_0 : decode cX5_loopedAt 0 = .ok (.aload_n 0, 1) := by decide +kernel
theorem dX5_loopedAt_1 : decode cX5_loopedAt 1 = .ok (.getfield 12, 3) := by decide +kernel
theorem dX5_loopedAt_4 : decode cX5_loopedAt 4 = .ok (.getfield 169, 3) := by decide +kernel
theorem dX5_loopedAt_7 : decode cX5_loopedAt 7 = .ok (.iload_n 1, 1) := by decide +kernel
theorem dX5_loopedAt_8 : decode cX5_loopedAt 8 = .ok (.invokestatic 165, 3) := by decide +kernel
theorem dX5_loopedAt_11 : decode cX5_loopedAt 11 = .ok (.ireturn, 1) := by decide +kernel
theorem dX5_left_0 : decode cX5_left 0 = .ok (.aload_n 0, 1) := by decide +kernel
theorem dX5_left_1 : decode cX5_left 1 = .ok (.getfield 12, 3) := by decide +kernel
theorem dX5_left_4 : decode cX5_left 4 = .ok (.getfield 139, 3) := by decide +kernel
theorem dX5_left_7 : decode cX5_left 7 = .ok (.getfield 142, 3) := by decide +kernel
theorem dX5_left_10 : decode cX5_left 10 = .ok (.ireturn, 1) := by decide +kernel
theorem dX5_leftAt_0 : decode cX5_leftAt 0 = .ok (.aload_n 0, 1) := by decide +kernel
theorem dX5_leftAt_1 : decode cX5_leftAt 1 = .ok (.getfield 12, 3) := by decide +kernel
theorem dX5_leftAt_4 : decode cX5_leftAt 4 = .ok (.getfield 139, 3) := by decide +kernel
theorem dX5_leftAt_7 : decode cX5_leftAt 7 = .ok (.iload_n 1, 1) := by decide +kernel
theorem dX5_leftAt_8 : decode cX5_leftAt 8 = .ok (.invokestatic 165, 3) := by decide +kernel
theorem dX5_leftAt_11 : decode cX5_leftAt 11 = .ok (.ireturn, 1) := by decide +kernel
theorem dX5_leftIn_0 : decode cX5_leftIn 0 = .ok (.aload_n 0, 1) := by decide +kernel
theorem dX5_leftIn_1 : decode cX5_leftIn 1 = .ok (.iload_n 1, 1) := by decide +kernel
theorem dX5_leftIn_2 : decode cX5_leftIn 2 = .ok (.invokevirtual 81, 3) := by decide +kernel
theorem dX5_leftIn_5 : decode cX5_leftIn 5 = .ok (.astore_n 2, 1) := by decide +kernel
theorem dX5_leftIn_6 : decode cX5_leftIn 6 = .ok (.aload_n 2, 1) := by decide +kernel
theorem dX5_leftIn_7 : decode cX5_leftIn 7 = .ok (.getfield 87, 3) := by decide +kernel
theorem dX5_leftIn_10 : decode cX5_leftIn 10 = .ok (.bipush 100, 2) := by decide +kernel
theorem dX5_leftIn_12 : decode cX5_leftIn 12 = .ok (.if_icmp .eq 13, 3) := by decide +kernel
theorem dX5_leftIn_15 : decode cX5_leftIn 15 = .ok (.new 41, 3) := by decide +kernel
theorem dX5_leftIn_18 : decode cX5_leftIn 18 = .ok (.dup, 1) := by decide +kernel
theorem dX5_leftIn_19 : decode cX5_leftIn 19 = .ok (.ldc 172, 2) := by decide +kernel
theorem dX5_leftIn_21 : decode cX5_leftIn 21 = .ok (.invokespecial 45, 3) := by decide +kernel
theorem dX5_leftIn_24 : decode cX5_leftIn 24 = .ok (.athrow, 1) := by decide +kernel
theorem dX5_leftIn_25 : decode cX5_leftIn 25 = .ok (.aload_n 2, 1) := by decide +kernel
theorem dX5_leftIn_26 : decode cX5_leftIn 26 = .ok (.getfield 174, 3) := by decide +kernel
theorem dX5_leftIn_29 : decode cX5_leftIn 29 = .ok (.ireturn, 1) := by decide +kernel
theorem dX5_faults_0 : decode cX5_faults 0 = .ok (.aload_n 0, 1) := by decide +kernel
theorem dX5_faults_1 : decode cX5_faults 1 = .ok (.iload_n 1, 1) := by decide +kernel
theorem dX5_faults_2 : decode cX5_faults 2 = .ok (.invokevirtual 81, 3) := by decide +kernel
theorem dX5_faults_5 : decode cX5_faults 5 = .ok (.invokevirtual 131, 3) := by decide +kernel
theorem dX5_faults_8 : decode cX5_faults 8 = .ok (.ireturn, 1) := by decide +kernel
theorem dX5_hasFault_0 : decode cX5_hasFault 0 = .ok (.aload_n 0, 1) := by decide +kernel
theorem dX5_hasFault_1 : decode cX5_hasFault 1 = .ok (.iload_n 1, 1) := by decide +kernel
theorem dX5_hasFault_2 : decode cX5_hasFault 2 = .ok (.invokevirtual 81, 3) := by decide +kernel
theorem dX5_hasFault_5 : decode cX5_hasFault 5 = .ok (.astore_n 3, 1) := by decide +kernel
theorem dX5_hasFault_6 : decode cX5_hasFault 6 = .ok (.aload_n 0, 1) := by decide +kernel
theorem dX5_hasFault_7 : decode cX5_hasFault 7 = .ok (.iload_n 2, 1) := by decide +kernel
theorem dX5_hasFault_8 : decode cX5_hasFault 8 = .ok (.invokevirtual 107, 3) := by decide +kernel
theorem dX5_hasFault_11 : decode cX5_hasFault 11 = .ok (.pop, 1) := by decide +kernel
theorem dX5_hasFault_12 : decode cX5_hasFault 12 = .ok (.aload_n 3, 1) := by decide +kernel
theorem dX5_hasFault_13 : decode cX5_hasFault 13 = .ok (.iload_n 2, 1) := by decide +kernel
theorem dX5_hasFault_14 : decode cX5_hasFault 14 = .ok (.invokevirtual 120, 3) := by decide +kernel
theorem dX5_hasFault_17 : decode cX5_hasFault 17 = .ok (.ireturn, 1) := by decide +kernel
theorem dX5_lacks_0 : decode cX5_lacks 0 = .ok (.aload_n 0, 1) := by decide +kernel
theorem dX5_lacks_1 : decode cX5_lacks 1 = .ok (.iload_n 1, 1) := by decide +kernel
theorem dX5_lacks_2 : decode cX5_lacks 2 = .ok (.invokevirtual 107, 3) := by decide +kernel
theorem dX5_lacks_5 : decode cX5_lacks 5 = .ok (.getfield 177, 3) := by decide +kernel
theorem dX5_lacks_8 : decode cX5_lacks 8 = .ok (.ireturn, 1) := by decide +kernel
theorem dX5_lacksOf_0 : decode cX5_lacksOf 0 = .ok (.iload_n 1, 1) := by decide +kernel
theorem dX5_lacksOf_1 : decode cX5_lacksOf 1 = .ok (.invokestatic 50, 3) := by decide +kernel
theorem dX5_lacksOf_4 : decode cX5_lacksOf 4 = .ok (.iconst 0, 1) := by decide +kernel
theorem dX5_lacksOf_5 : decode cX5_lacksOf 5 = .ok (.istore_n 2, 1) := by decide +kernel
theorem dX5_lacksOf_6 : decode cX5_lacksOf 6 = .ok (.iconst 0, 1) := by decide +kernel
theorem dX5_lacksOf_7 : decode cX5_lacksOf 7 = .ok (.istore_n 3, 1) := by decide +kernel
theorem dX5_lacksOf_8 : decode cX5_lacksOf 8 = .ok (.iload_n 3, 1) := by decide +kernel
theorem dX5_lacksOf_9 : decode cX5_lacksOf 9 = .ok (.bipush 8, 2) := by decide +kernel
theorem dX5_lacksOf_11 : decode cX5_lacksOf 11 = .ok (.if_icmp .ge 41, 3) := by decide +kernel
theorem dX5_lacksOf_14 : decode cX5_lacksOf 14 = .ok (.aload_n 0, 1) := by decide +kernel
theorem dX5_lacksOf_15 : decode cX5_lacksOf 15 = .ok (.getfield 12, 3) := by decide +kernel
theorem dX5_lacksOf_18 : decode cX5_lacksOf 18 = .ok (.iload_n 3, 1) := by decide +kernel
theorem dX5_lacksOf_19 : decode cX5_lacksOf 19 = .ok (.invokevirtual 180, 3) := by decide +kernel
theorem dX5_lacksOf_22 : decode cX5_lacksOf 22 = .ok (.astore 4, 2) := by decide +kernel
theorem dX5_lacksOf_24 : decode cX5_lacksOf 24 = .ok (.aload 4, 2) := by decide +kernel
theorem dX5_lacksOf_26 : decode cX5_lacksOf 26 = .ok (.ifnull 20, 3) := by decide +kernel
theorem dX5_lacksOf_29 : decode cX5_lacksOf 29 = .ok (.aload 4, 2) := by decide +kernel
theorem dX5_lacksOf_31 : decode cX5_lacksOf 31 = .ok (.getfield 183, 3) := by decide +kernel
theorem dX5_lacksOf_34 : decode cX5_lacksOf 34 = .ok (.iload_n 1, 1) := by decide +kernel
theorem dX5_lacksOf_35 : decode cX5_lacksOf 35 = .ok (.if_icmp .ne 11, 3) := by decide +kernel
theorem dX5_lacksOf_38 : decode cX5_lacksOf 38 = .ok (.iload_n 2, 1) := by decide +kernel
theorem dX5_lacksOf_39 : decode cX5_lacksOf 39 = .ok (.aload 4, 2) := by decide +kernel
theorem dX5_lacksOf_41 : decode cX5_lacksOf 41 = .ok (.getfield 177, 3) := by decide +kernel
theorem dX5_lacksOf_44 : decode cX5_lacksOf 44 = .ok (.iadd, 1) := by decide +kernel
theorem dX5_lacksOf_45 : decode cX5_lacksOf 45 = .ok (.istore_n 2, 1) := by decide +kernel
theorem dX5_lacksOf_46 : decode cX5_lacksOf 46 = .ok (.iinc 3 1, 3) := by decide +kernel
theorem dX5_lacksOf_49 : decode cX5_lacksOf 49 = .ok (.goto (-41), 3) := by decide +kernel
theorem dX5_lacksOf_52 : decode cX5_lacksOf 52 = .ok (.iload_n 2, 1) := by decide +kernel
theorem dX5_lacksOf_53 : decode cX5_lacksOf 53 = .ok (.ireturn, 1) := by decide +kernel
theorem dX5_onShelf_0 : decode cX5_onShelf 0 = .ok (.aload_n 0, 1) := by decide +kernel
theorem dX5_onShelf_1 : decode cX5_onShelf 1 = .ok (.iload_n 1, 1) := by decide +kernel
theorem dX5_onShelf_2 : decode cX5_onShelf 2 = .ok (.invokevirtual 107, 3) := by decide +kernel
theorem dX5_onShelf_5 : decode cX5_onShelf 5 = .ok (.getfield 186, 3) := by decide +kernel
theorem dX5_onShelf_8 : decode cX5_onShelf 8 = .ok (.ireturn, 1) := by decide +kernel
theorem dX5_inStore_0 : decode cX5_inStore 0 = .ok (.iload_n 1, 1) := by decide +kernel
theorem dX5_inStore_1 : decode cX5_inStore 1 = .ok (.invokestatic 50, 3) := by decide +kernel
theorem dX5_inStore_4 : decode cX5_inStore 4 = .ok (.aload_n 0, 1) := by decide +kernel
theorem dX5_inStore_5 : decode cX5_inStore 5 = .ok (.getfield 12, 3) := by decide +kernel
theorem dX5_inStore_8 : decode cX5_inStore 8 = .ok (.iload_n 1, 1) := by decide +kernel
theorem dX5_inStore_9 : decode cX5_inStore 9 = .ok (.invokevirtual 56, 3) := by decide +kernel
theorem dX5_inStore_12 : decode cX5_inStore 12 = .ok (.ireturn, 1) := by decide +kernel
theorem dX5_nextRound_0 : decode cX5_nextRound 0 = .ok (.aload_n 0, 1) := by decide +kernel
theorem dX5_nextRound_1 : decode cX5_nextRound 1 = .ok (.getfield 12, 3) := by decide +kernel
theorem dX5_nextRound_4 : decode cX5_nextRound 4 = .ok (.invokevirtual 189, 3) := by decide +kernel
theorem dX5_nextRound_7 : decode cX5_nextRound 7 = .ok (.ireturn, 1) := by decide +kernel
theorem dX5_leavesIn_0 : decode cX5_leavesIn 0 = .ok (.aload_n 0, 1) := by decide +kernel
theorem dX5_leavesIn_1 : decode cX5_leavesIn 1 = .ok (.iload_n 1, 1) := by decide +kernel
theorem dX5_leavesIn_2 : decode cX5_leavesIn 2 = .ok (.invokevirtual 192, 3) := by decide +kernel
theorem dX5_leavesIn_5 : decode cX5_leavesIn 5 = .ok (.aload_n 0, 1) := by decide +kernel
theorem dX5_leavesIn_6 : decode cX5_leavesIn 6 = .ok (.getfield 18, 3) := by decide +kernel
theorem dX5_leavesIn_9 : decode cX5_leavesIn 9 = .ok (.aload_n 0, 1) := by decide +kernel
theorem dX5_leavesIn_10 : decode cX5_leavesIn 10 = .ok (.getfield 12, 3) := by decide +kernel
theorem dX5_leavesIn_13 : decode cX5_leavesIn 13 = .ok (.invokevirtual 195, 3) := by decide +kernel
theorem dX5_leavesIn_16 : decode cX5_leavesIn 16 = .ok (.iconst 0, 1) := by decide +kernel
theorem dX5_leavesIn_17 : decode cX5_leavesIn 17 = .ok (.istore_n 2, 1) := by decide +kernel
theorem dX5_leavesIn_18 : decode cX5_leavesIn 18 = .ok (.iconst 0, 1) := by decide +kernel
theorem dX5_leavesIn_19 : decode cX5_leavesIn 19 = .ok (.istore_n 3, 1) := by decide +kernel
theorem dX5_leavesIn_20 : decode cX5_leavesIn 20 = .ok (.iload_n 3, 1) := by decide +kernel
theorem dX5_leavesIn_21 : decode cX5_leavesIn 21 = .ok (.sipush 300, 3) := by decide +kernel
theorem dX5_leavesIn_24 : decode cX5_leavesIn 24 = .ok (.if_icmp .ge 67, 3) := by decide +kernel
theorem dX5_leavesIn_27 : decode cX5_leavesIn 27 = .ok (.aload_n 0, 1) := by decide +kernel
theorem dX5_leavesIn_28 : decode cX5_leavesIn 28 = .ok (.getfield 18, 3) := by decide +kernel
theorem dX5_leavesIn_31 : decode cX5_leavesIn 31 = .ok (.invokevirtual 199, 3) := by decide +kernel
theorem dX5_leavesIn_34 : decode cX5_leavesIn 34 = .ok (.istore 4, 2) := by decide +kernel
theorem dX5_leavesIn_36 : decode cX5_leavesIn 36 = .ok (.iload_n 2, 1) := by decide +kernel
theorem dX5_leavesIn_37 : decode cX5_leavesIn 37 = .ok (.iload 4, 2) := by decide +kernel
theorem dX5_leavesIn_39 : decode cX5_leavesIn 39 = .ok (.iadd, 1) := by decide +kernel
theorem dX5_leavesIn_40 : decode cX5_leavesIn 40 = .ok (.sipush 300, 3) := by decide +kernel
theorem dX5_leavesIn_43 : decode cX5_leavesIn 43 = .ok (.if_icmp .lt 6, 3) := by decide +kernel
theorem dX5_leavesIn_46 : decode cX5_leavesIn 46 = .ok (.goto 45, 3) := by decide +kernel
theorem dX5_leavesIn_49 : decode cX5_leavesIn 49 = .ok (.aload_n 0, 1) := by decide +kernel
theorem dX5_leavesIn_50 : decode cX5_leavesIn 50 = .ok (.getfield 18, 3) := by decide +kernel
theorem dX5_leavesIn_53 : decode cX5_leavesIn 53 = .ok (.iload 4, 2) := by decide +kernel
theorem dX5_leavesIn_55 : decode cX5_leavesIn 55 = .ok (.invokevirtual 202, 3) := by decide +kernel
theorem dX5_leavesIn_58 : decode cX5_leavesIn 58 = .ok (.aload_n 0, 1) := by decide +kernel
theorem dX5_leavesIn_59 : decode cX5_leavesIn 59 = .ok (.getfield 18, 3) := by decide +kernel
theorem dX5_leavesIn_62 : decode cX5_leavesIn 62 = .ok (.invokevirtual 145, 3) := by decide +kernel
theorem dX5_leavesIn_65 : decode cX5_leavesIn 65 = .ok (.iload_n 2, 1) := by decide +kernel
theorem dX5_leavesIn_66 : decode cX5_leavesIn 66 = .ok (.iload 4, 2) := by decide +kernel
theorem dX5_leavesIn_68 : decode cX5_leavesIn 68 = .ok (.iconst 1, 1) := by decide +kernel
theorem dX5_leavesIn_69 : decode cX5_leavesIn 69 = .ok (.iadd, 1) := by decide +kernel
theorem dX5_leavesIn_70 : decode cX5_leavesIn 70 = .ok (.iadd, 1) := by decide +kernel
theorem dX5_leavesIn_71 : decode cX5_leavesIn 71 = .ok (.istore_n 2, 1) := by decide +kernel
theorem dX5_leavesIn_72 : decode cX5_leavesIn 72 = .ok (.aload_n 0, 1) := by decide +kernel
theorem dX5_leavesIn_73 : decode cX5_leavesIn 73 = .ok (.getfield 18, 3) := by decide +kernel
theorem dX5_leavesIn_76 : decode cX5_leavesIn 76 = .ok (.iload_n 1, 1) := by decide +kernel
theorem dX5_leavesIn_77 : decode cX5_leavesIn 77 = .ok (.invokevirtual 205, 3) := by decide +kernel
theorem dX5_leavesIn_80 : decode cX5_leavesIn 80 = .ok (.ifCond .eq 5, 3) := by decide +kernel
theorem dX5_leavesIn_83 : decode cX5_leavesIn 83 = .ok (.iload_n 2, 1) := by decide +kernel
theorem dX5_leavesIn_84 : decode cX5_leavesIn 84 = .ok (.ireturn, 1) := by decide +kernel
theorem dX5_leavesIn_85 : decode cX5_leavesIn 85 = .ok (.iinc 3 1, 3) := by decide +kernel
theorem dX5_leavesIn_88 : decode cX5_leavesIn 88 = .ok (.goto (-68), 3) := by decide +kernel
theorem dX5_leavesIn_91 : decode cX5_leavesIn 91 = .ok (.new 123, 3) := by decide +kernel
theorem dX5_leavesIn_94 : decode cX5_leavesIn 94 = .ok (.dup, 1) := by decide +kernel
theorem dX5_leavesIn_95 : decode cX5_leavesIn 95 = .ok (.ldc 208, 2) := by decide +kernel
theorem dX5_leavesIn_97 : decode cX5_leavesIn 97 = .ok (.invokespecial 127, 3) := by decide +kernel
theorem dX5_leavesIn_100 : decode cX5_leavesIn 100 = .ok (.athrow, 1) := by decide +kernel
theorem dX5_leavesByTicks_0 : decode cX5_leavesByTicks 0 = .ok (.aload_n 0, 1) := by decide +kernel
theorem dX5_leavesByTicks_1 : decode cX5_leavesByTicks 1 = .ok (.iload_n 1, 1) := by decide +kernel
theorem dX5_leavesByTicks_2 : decode cX5_leavesByTicks 2 = .ok (.invokevirtual 192, 3) := by decide +kernel
theorem dX5_leavesByTicks_5 : decode cX5_leavesByTicks 5 = .ok (.aload_n 0, 1) := by decide +kernel
theorem dX5_leavesByTicks_6 : decode cX5_leavesByTicks 6 = .ok (.getfield 18, 3) := by decide +kernel
theorem dX5_leavesByTicks_9 : decode cX5_leavesByTicks 9 = .ok (.aload_n 0, 1) := by decide +kernel
theorem dX5_leavesByTicks_10 : decode cX5_leavesByTicks 10 = .ok (.getfield 12, 3) := by decide +kernel
theorem dX5_leavesByTicks_13 : decode cX5_leavesByTicks 13 = .ok (.invokevirtual 195, 3) := by decide +kernel
theorem dX5_leavesByTicks_16 : decode cX5_leavesByTicks 16 = .ok (.iconst 1, 1) := by decide +kernel
theorem dX5_leavesByTicks_17 : decode cX5_leavesByTicks 17 = .ok (.istore_n 2, 1) := by decide +kernel
theorem dX5_leavesByTicks_18 : decode cX5_leavesByTicks 18 = .ok (.iload_n 2, 1) := by decide +kernel
theorem dX5_leavesByTicks_19 : decode cX5_leavesByTicks 19 = .ok (.sipush 300, 3) := by decide +kernel
theorem dX5_leavesByTicks_22 : decode cX5_leavesByTicks 22 = .ok (.if_icmp .gt 29, 3) := by decide +kernel
theorem dX5_leavesByTicks_25 : decode cX5_leavesByTicks 25 = .ok (.aload_n 0, 1) := by decide +kernel
theorem dX5_leavesByTicks_26 : decode cX5_leavesByTicks 26 = .ok (.getfield 18, 3) := by decide +kernel
theorem dX5_leavesByTicks_29 : decode cX5_leavesByTicks 29 = .ok (.invokevirtual 145, 3) := by decide +kernel
theorem dX5_leavesByTicks_32 : decode cX5_leavesByTicks 32 = .ok (.aload_n 0, 1) := by decide +kernel
theorem dX5_leavesByTicks_33 : decode cX5_leavesByTicks 33 = .ok (.getfield 18, 3) := by decide +kernel
theorem dX5_leavesByTicks_36 : decode cX5_leavesByTicks 36 = .ok (.iload_n 1, 1) := by decide +kernel
theorem dX5_leavesByTicks_37 : decode cX5_leavesByTicks 37 = .ok (.invokevirtual 205, 3) := by decide +kernel
theorem dX5_leavesByTicks_40 : decode cX5_leavesByTicks 40 = .ok (.ifCond .eq 5, 3) := by decide +kernel
theorem dX5_leavesByTicks_43 : decode cX5_leavesByTicks 43 = .ok (.iload_n 2, 1) := by decide +kernel
theorem dX5_leavesByTicks_44 : decode cX5_leavesByTicks 44 = .ok (.ireturn, 1) := by decide +kernel
theorem dX5_leavesByTicks_45 : decode cX5_leavesByTicks 45 = .ok (.iinc 2 1, 3) := by decide +kernel
theorem dX5_leavesByTicks_48 : decode cX5_leavesByTicks 48 = .ok (.goto (-30), 3) := by decide +kernel
theorem dX5_leavesByTicks_51 : decode cX5_leavesByTicks 51 = .ok (.new 123, 3) := by decide +kernel
theorem dX5_leavesByTicks_54 : decode cX5_leavesByTicks 54 = .ok (.dup, 1) := by decide +kernel
theorem dX5_leavesByTicks_55 : decode cX5_leavesByTicks 55 = .ok (.ldc 208, 2) := by decide +kernel
theorem dX5_leavesByTicks_57 : decode cX5_leavesByTicks 57 = .ok (.invokespecial 127, 3) := by decide +kernel
theorem dX5_leavesByTicks_60 : decode cX5_leavesByTicks 60 = .ok (.athrow, 1) := by decide +kernel
theorem dX5_nextToLeave_0 : decode cX5_nextToLeave 0 = .ok (.aload_n 0, 1) := by decide +kernel
theorem dX5_nextToLeave_1 : decode cX5_nextToLeave 1 = .ok (.getfield 18, 3) := by decide +kernel
theorem dX5_nextToLeave_4 : decode cX5_nextToLeave 4 = .ok (.aload_n 0, 1) := by decide +kernel
theorem dX5_nextToLeave_5 : decode cX5_nextToLeave 5 = .ok (.getfield 12, 3) := by decide +kernel
theorem dX5_nextToLeave_8 : decode cX5_nextToLeave 8 = .ok (.invokevirtual 195, 3) := by decide +kernel
theorem dX5_nextToLeave_11 : decode cX5_nextToLeave 11 = .ok (.aload_n 0, 1) := by decide +kernel
theorem dX5_nextToLeave_12 : decode cX5_nextToLeave 12 = .ok (.getfield 12, 3) := by decide +kernel
theorem dX5_nextToLeave_15 : decode cX5_nextToLeave 15 = .ok (.getfield 139, 3) := by decide +kernel
theorem dX5_nextToLeave_18 : decode cX5_nextToLeave 18 = .ok (.getfield 142, 3) := by decide +kernel
theorem dX5_nextToLeave_21 : decode cX5_nextToLeave 21 = .ok (.istore_n 1, 1) := by decide +kernel
theorem dX5_nextToLeave_22 : decode cX5_nextToLeave 22 = .ok (.iconst 1, 1) := by decide +kernel
theorem dX5_nextToLeave_23 : decode cX5_nextToLeave 23 = .ok (.istore_n 2, 1) := by decide +kernel
theorem dX5_nextToLeave_24 : decode cX5_nextToLeave 24 = .ok (.iload_n 2, 1) := by decide +kernel
theorem dX5_nextToLeave_25 : decode cX5_nextToLeave 25 = .ok (.sipush 300, 3) := by decide +kernel
theorem dX5_nextToLeave_28 : decode cX5_nextToLeave 28 = .ok (.if_icmp .gt 42, 3) := by decide +kernel
theorem dX5_nextToLeave_31 : decode cX5_nextToLeave 31 = .ok (.aload_n 0, 1) := by decide +kernel
theorem dX5_nextToLeave_32 : decode cX5_nextToLeave 32 = .ok (.getfield 18, 3) := by decide +kernel
theorem dX5_nextToLeave_35 : decode cX5_nextToLeave 35 = .ok (.invokevirtual 145, 3) := by decide +kernel
theorem dX5_nextToLeave_38 : decode cX5_nextToLeave 38 = .ok (.aload_n 0, 1) := by decide +kernel
theorem dX5_nextToLeave_39 : decode cX5_nextToLeave 39 = .ok (.getfield 18, 3) := by decide +kernel
theorem dX5_nextToLeave_42 : decode cX5_nextToLeave 42 = .ok (.getfield 139, 3) := by decide +kernel
theorem dX5_nextToLeave_45 : decode cX5_nextToLeave 45 = .ok (.getfield 142, 3) := by decide +kernel
theorem dX5_nextToLeave_48 : decode cX5_nextToLeave 48 = .ok (.iload_n 1, 1) := by decide +kernel
theorem dX5_nextToLeave_49 : decode cX5_nextToLeave 49 = .ok (.if_icmp .le 15, 3) := by decide +kernel
theorem dX5_nextToLeave_52 : decode cX5_nextToLeave 52 = .ok (.aload_n 0, 1) := by decide +kernel
theorem dX5_nextToLeave_53 : decode cX5_nextToLeave 53 = .ok (.getfield 18, 3) := by decide +kernel
theorem dX5_nextToLeave_56 : decode cX5_nextToLeave 56 = .ok (.getfield 139, 3) := by decide +kernel
theorem dX5_nextToLeave_59 : decode cX5_nextToLeave 59 = .ok (.iload_n 1, 1) := by decide +kernel
theorem dX5_nextToLeave_60 : decode cX5_nextToLeave 60 = .ok (.invokevirtual 210, 3) := by decide +kernel
theorem dX5_nextToLeave_63 : decode cX5_nextToLeave 63 = .ok (.ireturn, 1) := by decide +kernel
theorem dX5_nextToLeave_64 : decode cX5_nextToLeave 64 = .ok (.iinc 2 1, 3) := by decide +kernel
theorem dX5_nextToLeave_67 : decode cX5_nextToLeave 67 = .ok (.goto (-43), 3) := by decide +kernel
theorem dX5_nextToLeave_70 : decode cX5_nextToLeave 70 = .ok (.new 213, 3) := by decide +kernel
theorem dX5_nextToLeave_73 : decode cX5_nextToLeave 73 = .ok (.dup, 1) := by decide +kernel
theorem dX5_nextToLeave_74 : decode cX5_nextToLeave 74 = .ok (.ldc 215, 2) := by decide +kernel
theorem dX5_nextToLeave_76 : decode cX5_nextToLeave 76 = .ok (.invokespecial 217, 3) := by decide +kernel
theorem dX5_nextToLeave_79 : decode cX5_nextToLeave 79 = .ok (.athrow, 1) := by decide +kernel
theorem dX5_traceLength_0 : decode cX5_traceLength 0 = .ok (.aload_n 0, 1) := by decide +kernel
theorem dX5_traceLength_1 : decode cX5_traceLength 1 = .ok (.iload_n 1, 1) := by decide +kernel
theorem dX5_traceLength_2 : decode cX5_traceLength 2 = .ok (.invokevirtual 218, 3) := by decide +kernel
theorem dX5_traceLength_5 : decode cX5_traceLength 5 = .ok (.getfield 222, 3) := by decide +kernel
theorem dX5_traceLength_8 : decode cX5_traceLength 8 = .ok (.ireturn, 1) := by decide +kernel
theorem dX5_traceAt_0 : decode cX5_traceAt 0 = .ok (.aload_n 0, 1) := by decide +kernel
theorem dX5_traceAt_1 : decode cX5_traceAt 1 = .ok (.iload_n 1, 1) := by decide +kernel
theorem dX5_traceAt_2 : decode cX5_traceAt 2 = .ok (.invokevirtual 218, 3) := by decide +kernel
theorem dX5_traceAt_5 : decode cX5_traceAt 5 = .ok (.astore_n 3, 1) := by decide +kernel
theorem dX5_traceAt_6 : decode cX5_traceAt 6 = .ok (.aload_n 3, 1) := by decide +kernel
theorem dX5_traceAt_7 : decode cX5_traceAt 7 = .ok (.iload_n 2, 1) := by decide +kernel
theorem dX5_traceAt_8 : decode cX5_traceAt 8 = .ok (.invokevirtual 227, 3) := by decide +kernel
theorem dX5_traceAt_11 : decode cX5_traceAt 11 = .ok (.ifCond .ne 13, 3) := by decide +kernel
theorem dX5_traceAt_14 : decode cX5_traceAt 14 = .ok (.new 230, 3) := by decide +kernel
theorem dX5_traceAt_17 : decode cX5_traceAt 17 = .ok (.dup, 1) := by decide +kernel
theorem dX5_traceAt_18 : decode cX5_traceAt 18 = .ok (.ldc 232, 2) := by decide +kernel
theorem dX5_traceAt_20 : decode cX5_traceAt 20 = .ok (.invokespecial 234, 3) := by decide +kernel
theorem dX5_traceAt_23 : decode cX5_traceAt 23 = .ok (.athrow, 1) := by decide +kernel
theorem dX5_traceAt_24 : decode cX5_traceAt 24 = .ok (.aload_n 3, 1) := by decide +kernel
theorem dX5_traceAt_25 : decode cX5_traceAt 25 = .ok (.iload_n 2, 1) := by decide +kernel
theorem dX5_traceAt_26 : decode cX5_traceAt 26 = .ok (.invokevirtual 235, 3) := by decide +kernel
theorem dX5_traceAt_29 : decode cX5_traceAt 29 = .ok (.ireturn, 1) := by decide +kernel
theorem dX5_countOf_0 : decode cX5_countOf 0 = .ok (.ldc 239, 2) := by decide +kernel
theorem dX5_countOf_2 : decode cX5_countOf 2 = .ok (.iload_n 1, 1) := by decide +kernel
theorem dX5_countOf_3 : decode cX5_countOf 3 = .ok (.invokevirtual 241, 3) := by decide +kernel
theorem dX5_countOf_6 : decode cX5_countOf 6 = .ok (.ifCond .ge 13, 3) := by decide +kernel
theorem dX5_countOf_9 : decode cX5_countOf 9 = .ok (.new 25, 3) := by decide +kernel
theorem dX5_countOf_12 : decode cX5_countOf 12 = .ok (.dup, 1) := by decide +kernel
theorem dX5_countOf_13 : decode cX5_countOf 13 = .ok (.ldc 246, 2) := by decide +kernel
theorem dX5_countOf_15 : decode cX5_countOf 15 = .ok (.invokespecial 29, 3) := by decide +kernel
theorem dX5_countOf_18 : decode cX5_countOf 18 = .ok (.athrow, 1) := by decide +kernel
theorem dX5_countOf_19 : decode cX5_countOf 19 = .ok (.aload_n 0, 1) := by decide +kernel
theorem dX5_countOf_20 : decode cX5_countOf 20 = .ok (.getfield 12, 3) := by decide +kernel
theorem dX5_countOf_23 : decode cX5_countOf 23 = .ok (.iload_n 1, 1) := by decide +kernel
theorem dX5_countOf_24 : decode cX5_countOf 24 = .ok (.invokevirtual 248, 3) := by decide +kernel
theorem dX5_countOf_27 : decode cX5_countOf 27 = .ok (.ireturn, 1) := by decide +kernel
theorem dX5_fitted_0 : decode cX5_fitted 0 = .ok (.lconst 0, 1) := by decide +kernel
theorem dX5_fitted_1 : decode cX5_fitted 1 = .ok (.lstore_n 1, 1) := by decide +kernel
theorem dX5_fitted_2 : decode cX5_fitted 2 = .ok (.iconst 0, 1) := by decide +kernel
theorem dX5_fitted_3 : decode cX5_fitted 3 = .ok (.istore_n 3, 1) := by decide +kernel
theorem dX5_fitted_4 : decode cX5_fitted 4 = .ok (.iload_n 3, 1) := by decide +kernel
theorem dX5_fitted_5 : decode cX5_fitted 5 = .ok (.bipush 8, 2) := by decide +kernel
theorem dX5_fitted_7 : decode cX5_fitted 7 = .ok (.if_icmp .ge 32, 3) := by decide +kernel
theorem dX5_fitted_10 : decode cX5_fitted 10 = .ok (.aload_n 0, 1) := by decide +kernel
theorem dX5_fitted_11 : decode cX5_fitted 11 = .ok (.getfield 12, 3) := by decide +kernel
theorem dX5_fitted_14 : decode cX5_fitted 14 = .ok (.iload_n 3, 1) := by decide +kernel
theorem dX5_fitted_15 : decode cX5_fitted 15 = .ok (.invokevirtual 180, 3) := by decide +kernel
theorem dX5_fitted_18 : decode cX5_fitted 18 = .ok (.astore 4, 2) := by decide +kernel
theorem dX5_fitted_20 : decode cX5_fitted 20 = .ok (.aload 4, 2) := by decide +kernel
theorem dX5_fitted_22 : decode cX5_fitted 22 = .ok (.ifnull 11, 3) := by decide +kernel
theorem dX5_fitted_25 : decode cX5_fitted 25 = .ok (.lload_n 1, 1) := by decide +kernel
theorem dX5_fitted_26 : decode cX5_fitted 26 = .ok (.aload 4, 2) := by decide +kernel
theorem dX5_fitted_28 : decode cX5_fitted 28 = .ok (.getfield 252, 3) := by decide +kernel
theorem dX5_fitted_31 : decode cX5_fitted 31 = .ok (.ladd, 1) := by decide +kernel
theorem dX5_fitted_32 : decode cX5_fitted 32 = .ok (.lstore_n 1, 1) := by decide +kernel
theorem dX5_fitted_33 : decode cX5_fitted 33 = .ok (.iinc 3 1, 3) := by decide +kernel
theorem dX5_fitted_36 : decode cX5_fitted 36 = .ok (.goto (-32), 3) := by decide +kernel
theorem dX5_fitted_39 : decode cX5_fitted 39 = .ok (.lload_n 1, 1) := by decide +kernel
theorem dX5_fitted_40 : decode cX5_fitted 40 = .ok (.lreturn, 1) := by decide +kernel
theorem dX5_lackShare_0 : decode cX5_lackShare 0 = .ok (.aload_n 0, 1) := by decide +kernel
theorem dX5_lackShare_1 : decode cX5_lackShare 1 = .ok (.getfield 12, 3) := by decide +kernel
theorem dX5_lackShare_4 : decode cX5_lackShare 4 = .ok (.bipush 45, 2) := by decide +kernel
theorem dX5_lackShare_6 : decode cX5_lackShare 6 = .ok (.invokevirtual 248, 3) := by decide +kernel
theorem dX5_lackShare_9 : decode cX5_lackShare 9 = .ok (.istore_n 1, 1) := by decide +kernel
theorem dX5_lackShare_10 : decode cX5_lackShare 10 = .ok (.aload_n 0, 1) := by decide +kernel
theorem dX5_lackShare_11 : decode cX5_lackShare 11 = .ok (.getfield 12, 3) := by decide +kernel
theorem dX5_lackShare_14 : decode cX5_lackShare 14 = .ok (.bipush 43, 2) := by decide +kernel
theorem dX5_lackShare_16 : decode cX5_lackShare 16 = .ok (.invokevirtual 248, 3) := by decide +kernel
theorem dX5_lackShare_19 : decode cX5_lackShare 19 = .ok (.iload_n 1, 1) := by decide +kernel
theorem dX5_lackShare_20 : decode cX5_lackShare 20 = .ok (.iadd, 1) := by decide +kernel
theorem dX5_lackShare_21 : decode cX5_lackShare 21 = .ok (.aload_n 0, 1) := by decide +kernel
theorem dX5_lackShare_22 : decode cX5_lackShare 22 = .ok (.getfield 12, 3) := by decide +kernel
theorem dX5_lackShare_25 : decode cX5_lackShare 25 = .ok (.bipush 46, 2) := by decide +kernel
theorem dX5_lackShare_27 : decode cX5_lackShare 27 = .ok (.invokevirtual 248, 3) := by decide +kernel
theorem dX5_lackShare_30 : decode cX5_lackShare 30 = .ok (.iadd, 1) := by decide +kernel
theorem dX5_lackShare_31 : decode cX5_lackShare 31 = .ok (.istore_n 2, 1) := by decide +kernel
theorem dX5_lackShare_32 : decode cX5_lackShare 32 = .ok (.iload_n 2, 1) := by decide +kernel
theorem dX5_lackShare_33 : decode cX5_lackShare 33 = .ok (.ifCond .ne 14, 3) := by decide +kernel
theorem dX5_lackShare_36 : decode cX5_lackShare 36 = .ok (.new 256, 3) := by decide +kernel
theorem dX5_lackShare_39 : decode cX5_lackShare 39 = .ok (.dup, 1) := by decide +kernel
theorem dX5_lackShare_40 : decode cX5_lackShare 40 = .ok (.ldc_w 258, 3) := by decide +kernel
theorem dX5_lackShare_43 : decode cX5_lackShare 43 = .ok (.invokespecial 260, 3) := by decide +kernel
theorem dX5_lackShare_46 : decode cX5_lackShare 46 = .ok (.athrow, 1) := by decide +kernel
theorem dX5_lackShare_47 : decode cX5_lackShare 47 = .ok (.iload_n 1, 1) := by decide +kernel
theorem dX5_lackShare_48 : decode cX5_lackShare 48 = .ok (.i2f, 1) := by decide +kernel
theorem dX5_lackShare_49 : decode cX5_lackShare 49 = .ok (.iload_n 2, 1) := by decide +kernel
theorem dX5_lackShare_50 : decode cX5_lackShare 50 = .ok (.i2f, 1) := by decide +kernel
theorem dX5_lackShare_51 : decode cX5_lackShare 51 = .ok (.fdiv, 1) := by decide +kernel
theorem dX5_lackShare_52 : decode cX5_lackShare 52 = .ok (.freturn, 1) := by decide +kernel
theorem dX5_meanTime_0 : decode cX5_meanTime 0 = .ok (.aload_n 0, 1) := by decide +kernel
theorem dX5_meanTime_1 : decode cX5_meanTime 1 = .ok (.getfield 12, 3) := by decide +kernel
theorem dX5_meanTime_4 : decode cX5_meanTime 4 = .ok (.getfield 139, 3) := by decide +kernel
theorem dX5_meanTime_7 : decode cX5_meanTime 7 = .ok (.getfield 142, 3) := by decide +kernel
theorem dX5_meanTime_10 : decode cX5_meanTime 10 = .ok (.istore_n 1, 1) := by decide +kernel
theorem dX5_meanTime_11 : decode cX5_meanTime 11 = .ok (.iload_n 1, 1) := by decide +kernel
theorem dX5_meanTime_12 : decode cX5_meanTime 12 = .ok (.ifCond .ne 14, 3) := by decide +kernel
theorem dX5_meanTime_15 : decode cX5_meanTime 15 = .ok (.new 256, 3) := by decide +kernel
theorem dX5_meanTime_18 : decode cX5_meanTime 18 = .ok (.dup, 1) := by decide +kernel
theorem dX5_meanTime_19 : decode cX5_meanTime 19 = .ok (.ldc_w 261, 3) := by decide +kernel
theorem dX5_meanTime_22 : decode cX5_meanTime 22 = .ok (.invokespecial 260, 3) := by decide +kernel
theorem dX5_meanTime_25 : decode cX5_meanTime 25 = .ok (.athrow, 1) := by decide +kernel
theorem dX5_meanTime_26 : decode cX5_meanTime 26 = .ok (.aload_n 0, 1) := by decide +kernel
theorem dX5_meanTime_27 : decode cX5_meanTime 27 = .ok (.getfield 12, 3) := by decide +kernel
theorem dX5_meanTime_30 : decode cX5_meanTime 30 = .ok (.invokevirtual 263, 3) := by decide +kernel
theorem dX5_meanTime_33 : decode cX5_meanTime 33 = .ok (.l2d, 1) := by decide +kernel
theorem dX5_meanTime_34 : decode cX5_meanTime 34 = .ok (.iload_n 1, 1) := by decide +kernel
theorem dX5_meanTime_35 : decode cX5_meanTime 35 = .ok (.i2d, 1) := by decide +kernel
theorem dX5_meanTime_36 : decode cX5_meanTime 36 = .ok (.ddiv, 1) := by decide +kernel
theorem dX5_meanTime_37 : decode cX5_meanTime 37 = .ok (.dreturn, 1) := by decide +kernel
theorem dX5_isWithin_0 : decode cX5_isWithin 0 = .ok (.iload_n 0, 1) := by decide +kernel
theorem dX5_isWithin_1 : decode cX5_isWithin 1 = .ok (.iload_n 1, 1) := by decide +kernel
theorem dX5_isWithin_2 : decode cX5_isWithin 2 = .ok (.if_icmp .lt 12, 3) := by decide +kernel
theorem dX5_isWithin_5 : decode cX5_isWithin 5 = .ok (.iload_n 0, 1) := by decide +kernel
theorem dX5_isWithin_6 : decode cX5_isWithin 6 = .ok (.iload_n 2, 1) := by decide +kernel
theorem dX5_isWithin_7 : decode cX5_isWithin 7 = .ok (.if_icmp .gt 7, 3) := by decide +kernel
theorem dX5_isWithin_10 : decode cX5_isWithin 10 = .ok (.iconst 1, 1) := by decide +kernel
theorem dX5_isWithin_11 : decode cX5_isWithin 11 = .ok (.goto 4, 3) := by decide +kernel
theorem dX5_isWithin_14 : decode cX5_isWithin 14 = .ok (.iconst 0, 1) := by decide +kernel
theorem dX5_isWithin_15 : decode cX5_isWithin 15 = .ok (.ireturn, 1) := by decide +kernel
theorem dX5_requirePart_0 : decode cX5_requirePart 0 = .ok (.iload_n 0, 1) := by decide +kernel
theorem dX5_requirePart_1 : decode cX5_requirePart 1 = .ok (.iconst 0, 1) := by decide +kernel
theorem dX5_requirePart_2 : decode cX5_requirePart 2 = .ok (.iconst 5, 1) := by decide +kernel
theorem dX5_requirePart_3 : decode cX5_requirePart 3 = .ok (.invokestatic 21, 3) := by decide +kernel
theorem dX5_requirePart_6 : decode cX5_requirePart 6 = .ok (.ifCond .ne 14, 3) := by decide +kernel
theorem dX5_requirePart_9 : decode cX5_requirePart 9 = .ok (.new 213, 3) := by decide +kernel
theorem dX5_requirePart_12 : decode cX5_requirePart 12 = .ok (.dup, 1) := by decide +kernel
theorem dX5_requirePart_13 : decode cX5_requirePart 13 = .ok (.ldc_w 267, 3) := by decide +kernel
theorem dX5_requirePart_16 : decode cX5_requirePart 16 = .ok (.invokespecial 217, 3) := by decide +kernel
theorem dX5_requirePart_19 : decode cX5_requirePart 19 = .ok (.athrow, 1) := by decide +kernel
theorem dX5_requirePart_20 : decode cX5_requirePart 20 = .ok (.return_, 1) := by decide +kernel
theorem dX5_requireStation_0 : decode cX5_requireStation 0 = .ok (.aload_n 0, 1) := by decide +kernel
theorem dX5_requireStation_1 : decode cX5_requireStation 1 = .ok (.getfield 12, 3) := by decide +kernel
theorem dX5_requireStation_4 : decode cX5_requireStation 4 = .ok (.iload_n 1, 1) := by decide +kernel
theorem dX5_requireStation_5 : decode cX5_requireStation 5 = .ok (.invokevirtual 180, 3) := by decide +kernel
theorem dX5_requireStation_8 : decode cX5_requireStation 8 = .ok (.astore_n 2, 1) := by decide +kernel
theorem dX5_requireStation_9 : decode cX5_requireStation 9 = .ok (.aload_n 2, 1) := by decide +kernel
theorem dX5_requireStation_10 : decode cX5_requireStation 10 = .ok (.ifnonnull 14, 3) := by decide +kernel
theorem dX5_requireStation_13 : decode cX5_requireStation 13 = .ok (.new 213, 3) := by decide +kernel
theorem dX5_requireStation_16 : decode cX5_requireStation 16 = .ok (.dup, 1) := by decide +kernel
theorem dX5_requireStation_17 : decode cX5_requireStation 17 = .ok (.ldc_w 269, 3) := by decide +kernel
theorem dX5_requireStation_20 : decode cX5_requireStation 20 = .ok (.invokespecial 217, 3) := by decide +kernel
theorem dX5_requireStation_23 : decode cX5_requireStation 23 = .ok (.athrow, 1) := by decide +kernel
theorem dX5_requireStation_24 : decode cX5_requireStation 24 = .ok (.aload_n 2, 1) := by decide +kernel
theorem dX5_requireStation_25 : decode cX5_requireStation 25 = .ok (.areturn, 1) := by decide +kernel
theorem dX5_requireCar_0 : decode cX5_requireCar 0 = .ok (.aload_n 0, 1) := by decide +kernel
