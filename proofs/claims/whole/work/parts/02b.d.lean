theorem dX5_requireCar_1 : decode cX5_requireCar 1 = .ok (.getfield 12, 3) := by decide +kernel
theorem dX5_requireCar_4 : decode cX5_requireCar 4 = .ok (.iload_n 1, 1) := by decide +kernel
theorem dX5_requireCar_5 : decode cX5_requireCar 5 = .ok (.invokevirtual 271, 3) := by decide +kernel
theorem dX5_requireCar_8 : decode cX5_requireCar 8 = .ok (.astore_n 2, 1) := by decide +kernel
theorem dX5_requireCar_9 : decode cX5_requireCar 9 = .ok (.aload_n 2, 1) := by decide +kernel
theorem dX5_requireCar_10 : decode cX5_requireCar 10 = .ok (.ifnonnull 14, 3) := by decide +kernel
theorem dX5_requireCar_13 : decode cX5_requireCar 13 = .ok (.new 213, 3) := by decide +kernel
theorem dX5_requireCar_16 : decode cX5_requireCar 16 = .ok (.dup, 1) := by decide +kernel
theorem dX5_requireCar_17 : decode cX5_requireCar 17 = .ok (.ldc_w 274, 3) := by decide +kernel
theorem dX5_requireCar_20 : decode cX5_requireCar 20 = .ok (.invokespecial 217, 3) := by decide +kernel
theorem dX5_requireCar_23 : decode cX5_requireCar 23 = .ok (.athrow, 1) := by decide +kernel
theorem dX5_requireCar_24 : decode cX5_requireCar 24 = .ok (.aload_n 2, 1) := by decide +kernel
theorem dX5_requireCar_25 : decode cX5_requireCar 25 = .ok (.areturn, 1) := by decide +kernel
theorem dX5_requireStanding_0 : decode cX5_requireStanding 0 = .ok (.aload_n 0, 1) := by decide +kernel
theorem dX5_requireStanding_1 : decode cX5_requireStanding 1 = .ok (.iload_n 1, 1) := by decide +kernel
theorem dX5_requireStanding_2 : decode cX5_requireStanding 2 = .ok (.invokevirtual 81, 3) := by decide +kernel
theorem dX5_requireStanding_5 : decode cX5_requireStanding 5 = .ok (.astore_n 2, 1) := by decide +kernel
theorem dX5_requireStanding_6 : decode cX5_requireStanding 6 = .ok (.aload_n 2, 1) := by decide +kernel
theorem dX5_requireStanding_7 : decode cX5_requireStanding 7 = .ok (.getfield 87, 3) := by decide +kernel
theorem dX5_requireStanding_10 : decode cX5_requireStanding 10 = .ok (.bipush 115, 2) := by decide +kernel
theorem dX5_requireStanding_12 : decode cX5_requireStanding 12 = .ok (.if_icmp .eq 14, 3) := by decide +kernel
theorem dX5_requireStanding_15 : decode cX5_requireStanding 15 = .ok (.new 41, 3) := by decide +kernel
theorem dX5_requireStanding_18 : decode cX5_requireStanding 18 = .ok (.dup, 1) := by decide +kernel
theorem dX5_requireStanding_19 : decode cX5_requireStanding 19 = .ok (.ldc_w 276, 3) := by decide +kernel
theorem dX5_requireStanding_22 : decode cX5_requireStanding 22 = .ok (.invokespecial 45, 3) := by decide +kernel
theorem dX5_requireStanding_25 : decode cX5_requireStanding 25 = .ok (.athrow, 1) := by decide +kernel
theorem dX5_requireStanding_26 : decode cX5_requireStanding 26 = .ok (.aload_n 2, 1) := by decide +kernel
theorem dX5_requireStanding_27 : decode cX5_requireStanding 27 = .ok (.areturn, 1) := by decide +kernel
theorem dX5_requireNotGone_0 : decode cX5_requireNotGone 0 = .ok (.aload_n 0, 1) := by decide +kernel
theorem dX5_requireNotGone_1 : decode cX5_requireNotGone 1 = .ok (.iload_n 1, 1) := by decide +kernel
theorem dX5_requireNotGone_2 : decode cX5_requireNotGone 2 = .ok (.invokevirtual 81, 3) := by decide +kernel
theorem dX5_requireNotGone_5 : decode cX5_requireNotGone 5 = .ok (.getfield 87, 3) := by decide +kernel
theorem dX5_requireNotGone_8 : decode cX5_requireNotGone 8 = .ok (.bipush 100, 2) := by decide +kernel
theorem dX5_requireNotGone_10 : decode cX5_requireNotGone 10 = .ok (.if_icmp .ne 14, 3) := by decide +kernel
theorem dX5_requireNotGone_13 : decode cX5_requireNotGone 13 = .ok (.new 41, 3) := by decide +kernel
theorem dX5_requireNotGone_16 : decode cX5_requireNotGone 16 = .ok (.dup, 1) := by decide +kernel
theorem dX5_requireNotGone_17 : decode cX5_requireNotGone 17 = .ok (.ldc_w 278, 3) := by decide +kernel
theorem dX5_requireNotGone_20 : decode cX5_requireNotGone 20 = .ok (.invokespecial 45, 3) := by decide +kernel
theorem dX5_requireNotGone_23 : decode cX5_requireNotGone 23 = .ok (.athrow, 1) := by decide +kernel
theorem dX5_requireNotGone_24 : decode cX5_requireNotGone 24 = .ok (.return_, 1) := by decide +kernel
theorem dX5_requireTrace_0 : decode cX5_requireTrace 0 = .ok (.aload_n 0, 1) := by decide +kernel
theorem dX5_requireTrace_1 : decode cX5_requireTrace 1 = .ok (.iload_n 1, 1) := by decide +kernel
theorem dX5_requireTrace_2 : decode cX5_requireTrace 2 = .ok (.invokevirtual 81, 3) := by decide +kernel
theorem dX5_requireTrace_5 : decode cX5_requireTrace 5 = .ok (.getfield 280, 3) := by decide +kernel
theorem dX5_requireTrace_8 : decode cX5_requireTrace 8 = .ok (.astore_n 2, 1) := by decide +kernel
theorem dX5_requireTrace_9 : decode cX5_requireTrace 9 = .ok (.aload_n 2, 1) := by decide +kernel
theorem dX5_requireTrace_10 : decode cX5_requireTrace 10 = .ok (.ifnonnull 14, 3) := by decide +kernel
theorem dX5_requireTrace_13 : decode cX5_requireTrace 13 = .ok (.new 213, 3) := by decide +kernel
theorem dX5_requireTrace_16 : decode cX5_requireTrace 16 = .ok (.dup, 1) := by decide +kernel
theorem dX5_requireTrace_17 : decode cX5_requireTrace 17 = .ok (.ldc_w 274, 3) := by decide +kernel
theorem dX5_requireTrace_20 : decode cX5_requireTrace 20 = .ok (.invokespecial 217, 3) := by decide +kernel
theorem dX5_requireTrace_23 : decode cX5_requireTrace 23 = .ok (.athrow, 1) := by decide +kernel
theorem dX5_requireTrace_24 : decode cX5_requireTrace 24 = .ok (.aload_n 2, 1) := by decide +kernel
theorem dX5_requireTrace_25 : decode cX5_requireTrace 25 = .ok (.areturn, 1) := by decide +kernel
theorem dX5_requirePlace_0 : decode cX5_requirePlace 0 = .ok (.aload_n 0, 1) := by decide +kernel
theorem dX5_requirePlace_1 : decode cX5_requirePlace 1 = .ok (.iload_n 1, 1) := by decide +kernel
theorem dX5_requirePlace_2 : decode cX5_requirePlace 2 = .ok (.invokevirtual 284, 3) := by decide +kernel
theorem dX5_requirePlace_5 : decode cX5_requirePlace 5 = .ok (.ifCond .ne 14, 3) := by decide +kernel
theorem dX5_requirePlace_8 : decode cX5_requirePlace 8 = .ok (.new 230, 3) := by decide +kernel
theorem dX5_requirePlace_11 : decode cX5_requirePlace 11 = .ok (.dup, 1) := by decide +kernel
theorem dX5_requirePlace_12 : decode cX5_requirePlace 12 = .ok (.ldc_w 285, 3) := by decide +kernel
theorem dX5_requirePlace_15 : decode cX5_requirePlace 15 = .ok (.invokespecial 234, 3) := by decide +kernel
theorem dX5_requirePlace_18 : decode cX5_requirePlace 18 = .ok (.athrow, 1) := by decide +kernel
theorem dX5_requirePlace_19 : decode cX5_requirePlace 19 = .ok (.aload_n 0, 1) := by decide +kernel
theorem dX5_requirePlace_20 : decode cX5_requirePlace 20 = .ok (.iload_n 1, 1) := by decide +kernel
theorem dX5_requirePlace_21 : decode cX5_requirePlace 21 = .ok (.invokevirtual 210, 3) := by decide +kernel
theorem dX5_requirePlace_24 : decode cX5_requirePlace 24 = .ok (.ireturn, 1) := by decide +kernel
theorem dX6_init_0 : decode cX6_init 0 = .ok (.aload_n 0, 1) := by decide +kernel
theorem dX6_init_1 : decode cX6_init 1 = .ok (.invokespecial 1, 3) := by decide +kernel
theorem dX6_init_4 : decode cX6_init 4 = .ok (.aload_n 0, 1) := by decide +kernel
theorem dX6_init_5 : decode cX6_init 5 = .ok (.bipush 8, 2) := by decide +kernel
theorem dX6_init_7 : decode cX6_init 7 = .ok (.newarray .int, 2) := by decide +kernel
theorem dX6_init_9 : decode cX6_init 9 = .ok (.putfield 7, 3) := by decide +kernel
theorem dX6_init_12 : decode cX6_init 12 = .ok (.aload_n 0, 1) := by decide +kernel
theorem dX6_init_13 : decode cX6_init 13 = .ok (.bipush 8, 2) := by decide +kernel
theorem dX6_init_15 : decode cX6_init 15 = .ok (.newarray .int, 2) := by decide +kernel
theorem dX6_init_17 : decode cX6_init 17 = .ok (.putfield 13, 3) := by decide +kernel
theorem dX6_init_20 : decode cX6_init 20 = .ok (.aload_n 0, 1) := by decide +kernel
theorem dX6_init_21 : decode cX6_init 21 = .ok (.bipush 8, 2) := by decide +kernel
theorem dX6_init_23 : decode cX6_init 23 = .ok (.newarray .int, 2) := by decide +kernel
theorem dX6_init_25 : decode cX6_init 25 = .ok (.putfield 16, 3) := by decide +kernel
theorem dX6_init_28 : decode cX6_init 28 = .ok (.aload_n 0, 1) := by decide +kernel
theorem dX6_init_29 : decode cX6_init 29 = .ok (.bipush 8, 2) := by decide +kernel
theorem dX6_init_31 : decode cX6_init 31 = .ok (.newarray .int, 2) := by decide +kernel
theorem dX6_init_33 : decode cX6_init 33 = .ok (.putfield 19, 3) := by decide +kernel
theorem dX6_init_36 : decode cX6_init 36 = .ok (.aload_n 0, 1) := by decide +kernel
theorem dX6_init_37 : decode cX6_init 37 = .ok (.bipush 8, 2) := by decide +kernel
theorem dX6_init_39 : decode cX6_init 39 = .ok (.newarray .int, 2) := by decide +kernel
theorem dX6_init_41 : decode cX6_init 41 = .ok (.putfield 22, 3) := by decide +kernel
theorem dX6_init_44 : decode cX6_init 44 = .ok (.aload_n 0, 1) := by decide +kernel
theorem dX6_init_45 : decode cX6_init 45 = .ok (.bipush 10, 2) := by decide +kernel
theorem dX6_init_47 : decode cX6_init 47 = .ok (.putfield 25, 3) := by decide +kernel
theorem dX6_init_50 : decode cX6_init 50 = .ok (.aload_n 0, 1) := by decide +kernel
theorem dX6_init_51 : decode cX6_init 51 = .ok (.bipush 30, 2) := by decide +kernel
theorem dX6_init_53 : decode cX6_init 53 = .ok (.newarray .int, 2) := by decide +kernel
theorem dX6_init_55 : decode cX6_init 55 = .ok (.putfield 29, 3) := by decide +kernel
theorem dX6_init_58 : decode cX6_init 58 = .ok (.aload_n 0, 1) := by decide +kernel
theorem dX6_init_59 : decode cX6_init 59 = .ok (.bipush 30, 2) := by decide +kernel
theorem dX6_init_61 : decode cX6_init 61 = .ok (.newarray .int, 2) := by decide +kernel
theorem dX6_init_63 : decode cX6_init 63 = .ok (.putfield 32, 3) := by decide +kernel
theorem dX6_init_66 : decode cX6_init 66 = .ok (.aload_n 0, 1) := by decide +kernel
theorem dX6_init_67 : decode cX6_init 67 = .ok (.bipush 30, 2) := by decide +kernel
theorem dX6_init_69 : decode cX6_init 69 = .ok (.newarray .int, 2) := by decide +kernel
theorem dX6_init_71 : decode cX6_init 71 = .ok (.putfield 35, 3) := by decide +kernel
theorem dX6_init_74 : decode cX6_init 74 = .ok (.aload_n 0, 1) := by decide +kernel
theorem dX6_init_75 : decode cX6_init 75 = .ok (.bipush 30, 2) := by decide +kernel
theorem dX6_init_77 : decode cX6_init 77 = .ok (.newarray .int, 2) := by decide +kernel
theorem dX6_init_79 : decode cX6_init 79 = .ok (.putfield 38, 3) := by decide +kernel
theorem dX6_init_82 : decode cX6_init 82 = .ok (.aload_n 0, 1) := by decide +kernel
theorem dX6_init_83 : decode cX6_init 83 = .ok (.sipush 237, 3) := by decide +kernel
theorem dX6_init_86 : decode cX6_init 86 = .ok (.newarray .int, 2) := by decide +kernel
theorem dX6_init_88 : decode cX6_init 88 = .ok (.putfield 41, 3) := by decide +kernel
theorem dX6_init_91 : decode cX6_init 91 = .ok (.aload_n 0, 1) := by decide +kernel
theorem dX6_init_92 : decode cX6_init 92 = .ok (.sipush 237, 3) := by decide +kernel
theorem dX6_init_95 : decode cX6_init 95 = .ok (.newarray .int, 2) := by decide +kernel
theorem dX6_init_97 : decode cX6_init 97 = .ok (.putfield 44, 3) := by decide +kernel
theorem dX6_init_100 : decode cX6_init 100 = .ok (.aload_n 0, 1) := by decide +kernel
theorem dX6_init_101 : decode cX6_init 101 = .ok (.bipush 64, 2) := by decide +kernel
theorem dX6_init_103 : decode cX6_init 103 = .ok (.newarray .char, 2) := by decide +kernel
theorem dX6_init_105 : decode cX6_init 105 = .ok (.putfield 47, 3) := by decide +kernel
theorem dX6_init_108 : decode cX6_init 108 = .ok (.aload_n 0, 1) := by decide +kernel
theorem dX6_init_109 : decode cX6_init 109 = .ok (.bipush 64, 2) := by decide +kernel
theorem dX6_init_111 : decode cX6_init 111 = .ok (.newarray .int, 2) := by decide +kernel
theorem dX6_init_113 : decode cX6_init 113 = .ok (.putfield 51, 3) := by decide +kernel
theorem dX6_init_116 : decode cX6_init 116 = .ok (.return_, 1) := by decide +kernel
theorem dX6_thrown_0 : decode cX6_thrown 0 = .ok (.aload_n 0, 1) := by decide +kernel
theorem dX6_thrown_1 : decode cX6_thrown 1 = .ok (.getfield 54, 3) := by decide +kernel
theorem dX6_thrown_4 : decode cX6_thrown 4 = .ok (.ireturn, 1) := by decide +kernel
theorem dX6_in_0 : decode cX6_in 0 = .ok (.lload_n 0, 1) := by decide +kernel
theorem dX6_in_1 : decode cX6_in 1 = .ok (.lload_n 2, 1) := by decide +kernel
theorem dX6_in_2 : decode cX6_in 2 = .ok (.lcmp, 1) := by decide +kernel
theorem dX6_in_3 : decode cX6_in 3 = .ok (.ifCond .lt 14, 3) := by decide +kernel
theorem dX6_in_6 : decode cX6_in 6 = .ok (.lload_n 0, 1) := by decide +kernel
theorem dX6_in_7 : decode cX6_in 7 = .ok (.lload 4, 2) := by decide +kernel
theorem dX6_in_9 : decode cX6_in 9 = .ok (.lcmp, 1) := by decide +kernel
theorem dX6_in_10 : decode cX6_in 10 = .ok (.ifCond .gt 7, 3) := by decide +kernel
theorem dX6_in_13 : decode cX6_in 13 = .ok (.iconst 1, 1) := by decide +kernel
theorem dX6_in_14 : decode cX6_in 14 = .ok (.goto 4, 3) := by decide +kernel
theorem dX6_in_17 : decode cX6_in 17 = .ok (.iconst 0, 1) := by decide +kernel
theorem dX6_in_18 : decode cX6_in 18 = .ok (.ireturn, 1) := by decide +kernel
theorem dX6_addStation_0 : decode cX6_addStation 0 = .ok (.iload_n 1, 1) := by decide +kernel
theorem dX6_addStation_1 : decode cX6_addStation 1 = .ok (.i2l, 1) := by decide +kernel
theorem dX6_addStation_2 : decode cX6_addStation 2 = .ok (.lconst 1, 1) := by decide +kernel
theorem dX6_addStation_3 : decode cX6_addStation 3 = .ok (.ldc2_w 57, 3) := by decide +kernel
theorem dX6_addStation_6 : decode cX6_addStation 6 = .ok (.invokestatic 59, 3) := by decide +kernel
theorem dX6_addStation_9 : decode cX6_addStation 9 = .ok (.ifCond .eq 53, 3) := by decide +kernel
theorem dX6_addStation_12 : decode cX6_addStation 12 = .ok (.iload_n 2, 1) := by decide +kernel
theorem dX6_addStation_13 : decode cX6_addStation 13 = .ok (.i2l, 1) := by decide +kernel
theorem dX6_addStation_14 : decode cX6_addStation 14 = .ok (.ldc2_w 63, 3) := by decide +kernel
theorem dX6_addStation_17 : decode cX6_addStation 17 = .ok (.ldc2_w 65, 3) := by decide +kernel
theorem dX6_addStation_20 : decode cX6_addStation 20 = .ok (.invokestatic 59, 3) := by decide +kernel
theorem dX6_addStation_23 : decode cX6_addStation 23 = .ok (.ifCond .eq 39, 3) := by decide +kernel
theorem dX6_addStation_26 : decode cX6_addStation 26 = .ok (.iload_n 2, 1) := by decide +kernel
theorem dX6_addStation_27 : decode cX6_addStation 27 = .ok (.iconst (-1), 1) := by decide +kernel
theorem dX6_addStation_28 : decode cX6_addStation 28 = .ok (.if_icmp .eq 30, 3) := by decide +kernel
theorem dX6_addStation_31 : decode cX6_addStation 31 = .ok (.iload_n 3, 1) := by decide +kernel
theorem dX6_addStation_32 : decode cX6_addStation 32 = .ok (.i2l, 1) := by decide +kernel
theorem dX6_addStation_33 : decode cX6_addStation 33 = .ok (.lconst 1, 1) := by decide +kernel
theorem dX6_addStation_34 : decode cX6_addStation 34 = .ok (.ldc2_w 67, 3) := by decide +kernel
theorem dX6_addStation_37 : decode cX6_addStation 37 = .ok (.invokestatic 59, 3) := by decide +kernel
theorem dX6_addStation_40 : decode cX6_addStation 40 = .ok (.ifCond .eq 22, 3) := by decide +kernel
theorem dX6_addStation_43 : decode cX6_addStation 43 = .ok (.iload 4, 2) := by decide +kernel
theorem dX6_addStation_45 : decode cX6_addStation 45 = .ok (.i2l, 1) := by decide +kernel
theorem dX6_addStation_46 : decode cX6_addStation 46 = .ok (.ldc2_w 67, 3) := by decide +kernel
theorem dX6_addStation_49 : decode cX6_addStation 49 = .ok (.ldc2_w 69, 3) := by decide +kernel
theorem dX6_addStation_52 : decode cX6_addStation 52 = .ok (.invokestatic 59, 3) := by decide +kernel
theorem dX6_addStation_55 : decode cX6_addStation 55 = .ok (.ifCond .eq 7, 3) := by decide +kernel
theorem dX6_addStation_58 : decode cX6_addStation 58 = .ok (.iconst 1, 1) := by decide +kernel
theorem dX6_addStation_59 : decode cX6_addStation 59 = .ok (.goto 4, 3) := by decide +kernel
theorem dX6_addStation_62 : decode cX6_addStation 62 = .ok (.iconst 0, 1) := by decide +kernel
theorem dX6_addStation_63 : decode cX6_addStation 63 = .ok (.istore 5, 2) := by decide +kernel
theorem dX6_addStation_65 : decode cX6_addStation 65 = .ok (.aload_n 0, 1) := by decide +kernel
theorem dX6_addStation_66 : decode cX6_addStation 66 = .ok (.iload 5, 2) := by decide +kernel
theorem dX6_addStation_68 : decode cX6_addStation 68 = .ok (.ifCond .ne 7, 3) := by decide +kernel
theorem dX6_addStation_71 : decode cX6_addStation 71 = .ok (.iconst 1, 1) := by decide +kernel
theorem dX6_addStation_72 : decode cX6_addStation 72 = .ok (.goto 28, 3) := by decide +kernel
theorem dX6_addStation_75 : decode cX6_addStation 75 = .ok (.aload_n 0, 1) := by decide +kernel
theorem dX6_addStation_76 : decode cX6_addStation 76 = .ok (.getfield 71, 3) := by decide +kernel
theorem dX6_addStation_79 : decode cX6_addStation 79 = .ok (.bipush 8, 2) := by decide +kernel
theorem dX6_addStation_81 : decode cX6_addStation 81 = .ok (.if_icmp .eq 14, 3) := by decide +kernel
theorem dX6_addStation_84 : decode cX6_addStation 84 = .ok (.aload_n 0, 1) := by decide +kernel
theorem dX6_addStation_85 : decode cX6_addStation 85 = .ok (.getfield 41, 3) := by decide +kernel
theorem dX6_addStation_88 : decode cX6_addStation 88 = .ok (.sipush 232, 3) := by decide +kernel
theorem dX6_addStation_91 : decode cX6_addStation 91 = .ok (.iaload, 1) := by decide +kernel
theorem dX6_addStation_92 : decode cX6_addStation 92 = .ok (.ifCond .le 7, 3) := by decide +kernel
theorem dX6_addStation_95 : decode cX6_addStation 95 = .ok (.iconst 2, 1) := by decide +kernel
theorem dX6_addStation_96 : decode cX6_addStation 96 = .ok (.goto 4, 3) := by decide +kernel
theorem dX6_addStation_99 : decode cX6_addStation 99 = .ok (.iconst 0, 1) := by decide +kernel
theorem dX6_addStation_100 : decode cX6_addStation 100 = .ok (.putfield 54, 3) := by decide +kernel
theorem dX6_addStation_103 : decode cX6_addStation 103 = .ok (.aload_n 0, 1) := by decide +kernel
theorem dX6_addStation_104 : decode cX6_addStation 104 = .ok (.getfield 54, 3) := by decide +kernel
theorem dX6_addStation_107 : decode cX6_addStation 107 = .ok (.ifCond .le 5, 3) := by decide +kernel
theorem dX6_addStation_110 : decode cX6_addStation 110 = .ok (.iconst (-1), 1) := by decide +kernel
theorem dX6_addStation_111 : decode cX6_addStation 111 = .ok (.ireturn, 1) := by decide +kernel
theorem dX6_addStation_112 : decode cX6_addStation 112 = .ok (.aload_n 0, 1) := by decide +kernel
theorem dX6_addStation_113 : decode cX6_addStation 113 = .ok (.getfield 7, 3) := by decide +kernel
theorem dX6_addStation_116 : decode cX6_addStation 116 = .ok (.aload_n 0, 1) := by decide +kernel
theorem dX6_addStation_117 : decode cX6_addStation 117 = .ok (.getfield 71, 3) := by decide +kernel
theorem dX6_addStation_120 : decode cX6_addStation 120 = .ok (.iload_n 1, 1) := by decide +kernel
theorem dX6_addStation_121 : decode cX6_addStation 121 = .ok (.iastore, 1) := by decide +kernel
theorem dX6_addStation_122 : decode cX6_addStation 122 = .ok (.aload_n 0, 1) := by decide +kernel
theorem dX6_addStation_123 : decode cX6_addStation 123 = .ok (.getfield 13, 3) := by decide +kernel
theorem dX6_addStation_126 : decode cX6_addStation 126 = .ok (.aload_n 0, 1) := by decide +kernel
theorem dX6_addStation_127 : decode cX6_addStation 127 = .ok (.getfield 71, 3) := by decide +kernel
theorem dX6_addStation_130 : decode cX6_addStation 130 = .ok (.iload_n 2, 1) := by decide +kernel
theorem dX6_addStation_131 : decode cX6_addStation 131 = .ok (.iastore, 1) := by decide +kernel
theorem dX6_addStation_132 : decode cX6_addStation 132 = .ok (.aload_n 0, 1) := by decide +kernel
theorem dX6_addStation_133 : decode cX6_addStation 133 = .ok (.getfield 16, 3) := by decide +kernel
theorem dX6_addStation_136 : decode cX6_addStation 136 = .ok (.aload_n 0, 1) := by decide +kernel
theorem dX6_addStation_137 : decode cX6_addStation 137 = .ok (.getfield 71, 3) := by decide +kernel
theorem dX6_addStation_140 : decode cX6_addStation 140 = .ok (.iload_n 3, 1) := by decide +kernel
theorem dX6_addStation_141 : decode cX6_addStation 141 = .ok (.iastore, 1) := by decide +kernel
theorem dX6_addStation_142 : decode cX6_addStation 142 = .ok (.aload_n 0, 1) := by decide +kernel
theorem dX6_addStation_143 : decode cX6_addStation 143 = .ok (.getfield 19, 3) := by decide +kernel
theorem dX6_addStation_146 : decode cX6_addStation 146 = .ok (.aload_n 0, 1) := by decide +kernel
theorem dX6_addStation_147 : decode cX6_addStation 147 = .ok (.getfield 71, 3) := by decide +kernel
theorem dX6_addStation_150 : decode cX6_addStation 150 = .ok (.iload 4, 2) := by decide +kernel
theorem dX6_addStation_152 : decode cX6_addStation 152 = .ok (.iastore, 1) := by decide +kernel
theorem dX6_addStation_153 : decode cX6_addStation 153 = .ok (.aload_n 0, 1) := by decide +kernel
theorem dX6_addStation_154 : decode cX6_addStation 154 = .ok (.getfield 41, 3) := by decide +kernel
theorem dX6_addStation_157 : decode cX6_addStation 157 = .ok (.bipush 14, 2) := by decide +kernel
theorem dX6_addStation_159 : decode cX6_addStation 159 = .ok (.aload_n 0, 1) := by decide +kernel
theorem dX6_addStation_160 : decode cX6_addStation 160 = .ok (.getfield 71, 3) := by decide +kernel
theorem dX6_addStation_163 : decode cX6_addStation 163 = .ok (.iadd, 1) := by decide +kernel
theorem dX6_addStation_164 : decode cX6_addStation 164 = .ok (.iconst (-1), 1) := by decide +kernel
theorem dX6_addStation_165 : decode cX6_addStation 165 = .ok (.iastore, 1) := by decide +kernel
theorem dX6_addStation_166 : decode cX6_addStation 166 = .ok (.aload_n 0, 1) := by decide +kernel
theorem dX6_addStation_167 : decode cX6_addStation 167 = .ok (.dup, 1) := by decide +kernel
theorem dX6_addStation_168 : decode cX6_addStation 168 = .ok (.getfield 71, 3) := by decide +kernel
theorem dX6_addStation_171 : decode cX6_addStation 171 = .ok (.iconst 1, 1) := by decide +kernel
theorem dX6_addStation_172 : decode cX6_addStation 172 = .ok (.iadd, 1) := by decide +kernel
theorem dX6_addStation_173 : decode cX6_addStation 173 = .ok (.putfield 71, 3) := by decide +kernel
theorem dX6_addStation_176 : decode cX6_addStation 176 = .ok (.aload_n 0, 1) := by decide +kernel
theorem dX6_addStation_177 : decode cX6_addStation 177 = .ok (.getfield 71, 3) := by decide +kernel
theorem dX6_addStation_180 : decode cX6_addStation 180 = .ok (.iconst 1, 1) := by decide +kernel
theorem dX6_addStation_181 : decode cX6_addStation 181 = .ok (.isub, 1) := by decide +kernel
theorem dX6_addStation_182 : decode cX6_addStation 182 = .ok (.ireturn, 1) := by decide +kernel
theorem dX6_isPart_0 : decode cX6_isPart 0 = .ok (.iload_n 0, 1) := by decide +kernel
theorem dX6_isPart_1 : decode cX6_isPart 1 = .ok (.i2l, 1) := by decide +kernel
theorem dX6_isPart_2 : decode cX6_isPart 2 = .ok (.lconst 0, 1) := by decide +kernel
theorem dX6_isPart_3 : decode cX6_isPart 3 = .ok (.ldc2_w 65, 3) := by decide +kernel
theorem dX6_isPart_6 : decode cX6_isPart 6 = .ok (.invokestatic 59, 3) := by decide +kernel
theorem dX6_isPart_9 : decode cX6_isPart 9 = .ok (.ireturn, 1) := by decide +kernel
theorem dX6_supply_0 : decode cX6_supply 0 = .ok (.aload_n 0, 1) := by decide +kernel
theorem dX6_supply_1 : decode cX6_supply 1 = .ok (.iload_n 1, 1) := by decide +kernel
theorem dX6_supply_2 : decode cX6_supply 2 = .ok (.invokestatic 74, 3) := by decide +kernel
theorem dX6_supply_5 : decode cX6_supply 5 = .ok (.ifCond .ne 7, 3) := by decide +kernel
theorem dX6_supply_8 : decode cX6_supply 8 = .ok (.iconst 1, 1) := by decide +kernel
theorem dX6_supply_9 : decode cX6_supply 9 = .ok (.goto 38, 3) := by decide +kernel
theorem dX6_supply_12 : decode cX6_supply 12 = .ok (.iload_n 2, 1) := by decide +kernel
theorem dX6_supply_13 : decode cX6_supply 13 = .ok (.i2l, 1) := by decide +kernel
theorem dX6_supply_14 : decode cX6_supply 14 = .ok (.lconst 1, 1) := by decide +kernel
theorem dX6_supply_15 : decode cX6_supply 15 = .ok (.ldc2_w 78, 3) := by decide +kernel
theorem dX6_supply_18 : decode cX6_supply 18 = .ok (.invokestatic 59, 3) := by decide +kernel
theorem dX6_supply_21 : decode cX6_supply 21 = .ok (.ifCond .ne 7, 3) := by decide +kernel
theorem dX6_supply_24 : decode cX6_supply 24 = .ok (.iconst 2, 1) := by decide +kernel
theorem dX6_supply_25 : decode cX6_supply 25 = .ok (.goto 22, 3) := by decide +kernel
theorem dX6_supply_28 : decode cX6_supply 28 = .ok (.aload_n 0, 1) := by decide +kernel
theorem dX6_supply_29 : decode cX6_supply 29 = .ok (.getfield 41, 3) := by decide +kernel
theorem dX6_supply_32 : decode cX6_supply 32 = .ok (.iload_n 1, 1) := by decide +kernel
theorem dX6_supply_33 : decode cX6_supply 33 = .ok (.iaload, 1) := by decide +kernel
theorem dX6_supply_34 : decode cX6_supply 34 = .ok (.iload_n 2, 1) := by decide +kernel
theorem dX6_supply_35 : decode cX6_supply 35 = .ok (.iadd, 1) := by decide +kernel
theorem dX6_supply_36 : decode cX6_supply 36 = .ok (.sipush 999, 3) := by decide +kernel
theorem dX6_supply_39 : decode cX6_supply 39 = .ok (.if_icmp .le 7, 3) := by decide +kernel
theorem dX6_supply_42 : decode cX6_supply 42 = .ok (.iconst 3, 1) := by decide +kernel
theorem dX6_supply_43 : decode cX6_supply 43 = .ok (.goto 4, 3) := by decide +kernel
theorem dX6_supply_46 : decode cX6_supply 46 = .ok (.iconst 0, 1) := by decide +kernel
theorem dX6_supply_47 : decode cX6_supply 47 = .ok (.putfield 54, 3) := by decide +kernel
theorem dX6_supply_50 : decode cX6_supply 50 = .ok (.aload_n 0, 1) := by decide +kernel
theorem dX6_supply_51 : decode cX6_supply 51 = .ok (.getfield 54, 3) := by decide +kernel
theorem dX6_supply_54 : decode cX6_supply 54 = .ok (.ifCond .le 5, 3) := by decide +kernel
theorem dX6_supply_57 : decode cX6_supply 57 = .ok (.iconst (-1), 1) := by decide +kernel
theorem dX6_supply_58 : decode cX6_supply 58 = .ok (.ireturn, 1) := by decide +kernel
theorem dX6_supply_59 : decode cX6_supply 59 = .ok (.aload_n 0, 1) := by decide +kernel
theorem dX6_supply_60 : decode cX6_supply 60 = .ok (.getfield 41, 3) := by decide +kernel
theorem dX6_supply_63 : decode cX6_supply 63 = .ok (.iload_n 1, 1) := by decide +kernel
theorem dX6_supply_64 : decode cX6_supply 64 = .ok (.dup2, 1) := by decide +kernel
theorem dX6_supply_65 : decode cX6_supply 65 = .ok (.iaload, 1) := by decide +kernel
theorem dX6_supply_66 : decode cX6_supply 66 = .ok (.iload_n 2, 1) := by decide +kernel
theorem dX6_supply_67 : decode cX6_supply 67 = .ok (.iadd, 1) := by decide +kernel
theorem dX6_supply_68 : decode cX6_supply 68 = .ok (.iastore, 1) := by decide +kernel
theorem dX6_supply_69 : decode cX6_supply 69 = .ok (.aload_n 0, 1) := by decide +kernel
theorem dX6_supply_70 : decode cX6_supply 70 = .ok (.getfield 41, 3) := by decide +kernel
theorem dX6_supply_73 : decode cX6_supply 73 = .ok (.iload_n 1, 1) := by decide +kernel
theorem dX6_supply_74 : decode cX6_supply 74 = .ok (.iaload, 1) := by decide +kernel
theorem dX6_supply_75 : decode cX6_supply 75 = .ok (.ireturn, 1) := by decide +kernel
theorem dX6_setPeriod_0 : decode cX6_setPeriod 0 = .ok (.aload_n 0, 1) := by decide +kernel
theorem dX6_setPeriod_1 : decode cX6_setPeriod 1 = .ok (.iload_n 1, 1) := by decide +kernel
theorem dX6_setPeriod_2 : decode cX6_setPeriod 2 = .ok (.i2l, 1) := by decide +kernel
theorem dX6_setPeriod_3 : decode cX6_setPeriod 3 = .ok (.lconst 1, 1) := by decide +kernel
theorem dX6_setPeriod_4 : decode cX6_setPeriod 4 = .ok (.ldc2_w 80, 3) := by decide +kernel
theorem dX6_setPeriod_7 : decode cX6_setPeriod 7 = .ok (.invokestatic 59, 3) := by decide +kernel
theorem dX6_setPeriod_10 : decode cX6_setPeriod 10 = .ok (.ifCond .eq 7, 3) := by decide +kernel
theorem dX6_setPeriod_13 : decode cX6_setPeriod 13 = .ok (.iconst 0, 1) := by decide +kernel
theorem dX6_setPeriod_14 : decode cX6_setPeriod 14 = .ok (.goto 4, 3) := by decide +kernel
theorem dX6_setPeriod_17 : decode cX6_setPeriod 17 = .ok (.iconst 1, 1) := by decide +kernel
theorem dX6_setPeriod_18 : decode cX6_setPeriod 18 = .ok (.putfield 54, 3) := by decide +kernel
theorem dX6_setPeriod_21 : decode cX6_setPeriod 21 = .ok (.aload_n 0, 1) := by decide +kernel
theorem dX6_setPeriod_22 : decode cX6_setPeriod 22 = .ok (.getfield 25, 3) := by decide +kernel
theorem dX6_setPeriod_25 : decode cX6_setPeriod 25 = .ok (.istore_n 2, 1) := by decide +kernel
theorem dX6_setPeriod_26 : decode cX6_setPeriod 26 = .ok (.aload_n 0, 1) := by decide +kernel
theorem dX6_setPeriod_27 : decode cX6_setPeriod 27 = .ok (.aload_n 0, 1) := by decide +kernel
theorem dX6_setPeriod_28 : decode cX6_setPeriod 28 = .ok (.getfield 54, 3) := by decide +kernel
theorem dX6_setPeriod_31 : decode cX6_setPeriod 31 = .ok (.ifCond .ne 7, 3) := by decide +kernel
theorem dX6_setPeriod_34 : decode cX6_setPeriod 34 = .ok (.iload_n 1, 1) := by decide +kernel
theorem dX6_setPeriod_35 : decode cX6_setPeriod 35 = .ok (.goto 7, 3) := by decide +kernel
theorem dX6_setPeriod_38 : decode cX6_setPeriod 38 = .ok (.aload_n 0, 1) := by decide +kernel
theorem dX6_setPeriod_39 : decode cX6_setPeriod 39 = .ok (.getfield 25, 3) := by decide +kernel
theorem dX6_setPeriod_42 : decode cX6_setPeriod 42 = .ok (.putfield 25, 3) := by decide +kernel
theorem dX6_setPeriod_45 : decode cX6_setPeriod 45 = .ok (.aload_n 0, 1) := by decide +kernel
theorem dX6_setPeriod_46 : decode cX6_setPeriod 46 = .ok (.getfield 54, 3) := by decide +kernel
theorem dX6_setPeriod_49 : decode cX6_setPeriod 49 = .ok (.ifCond .ne 7, 3) := by decide +kernel
theorem dX6_setPeriod_52 : decode cX6_setPeriod 52 = .ok (.iload_n 2, 1) := by decide +kernel
theorem dX6_setPeriod_53 : decode cX6_setPeriod 53 = .ok (.goto 4, 3) := by decide +kernel
theorem dX6_setPeriod_56 : decode cX6_setPeriod 56 = .ok (.iconst (-1), 1) := by decide +kernel
theorem dX6_setPeriod_57 : decode cX6_setPeriod 57 = .ok (.ireturn, 1) := by decide +kernel
theorem dX6_addCar_0 : decode cX6_addCar 0 = .ok (.aload_n 0, 1) := by decide +kernel
theorem dX6_addCar_1 : decode cX6_addCar 1 = .ok (.iload_n 1, 1) := by decide +kernel
theorem dX6_addCar_2 : decode cX6_addCar 2 = .ok (.i2l, 1) := by decide +kernel
theorem dX6_addCar_3 : decode cX6_addCar 3 = .ok (.lconst 0, 1) := by decide +kernel
theorem dX6_addCar_4 : decode cX6_addCar 4 = .ok (.ldc2_w 82, 3) := by decide +kernel
theorem dX6_addCar_7 : decode cX6_addCar 7 = .ok (.invokestatic 59, 3) := by decide +kernel
theorem dX6_addCar_10 : decode cX6_addCar 10 = .ok (.ifCond .ne 7, 3) := by decide +kernel
theorem dX6_addCar_13 : decode cX6_addCar 13 = .ok (.iconst 1, 1) := by decide +kernel
theorem dX6_addCar_14 : decode cX6_addCar 14 = .ok (.goto 24, 3) := by decide +kernel
theorem dX6_addCar_17 : decode cX6_addCar 17 = .ok (.aload_n 0, 1) := by decide +kernel
theorem dX6_addCar_18 : decode cX6_addCar 18 = .ok (.getfield 84, 3) := by decide +kernel
theorem dX6_addCar_21 : decode cX6_addCar 21 = .ok (.bipush 30, 2) := by decide +kernel
theorem dX6_addCar_23 : decode cX6_addCar 23 = .ok (.if_icmp .eq 10, 3) := by decide +kernel
theorem dX6_addCar_26 : decode cX6_addCar 26 = .ok (.aload_n 0, 1) := by decide +kernel
theorem dX6_addCar_27 : decode cX6_addCar 27 = .ok (.getfield 71, 3) := by decide +kernel
theorem dX6_addCar_30 : decode cX6_addCar 30 = .ok (.ifCond .ne 7, 3) := by decide +kernel
theorem dX6_addCar_33 : decode cX6_addCar 33 = .ok (.iconst 2, 1) := by decide +kernel
theorem dX6_addCar_34 : decode cX6_addCar 34 = .ok (.goto 4, 3) := by decide +kernel
theorem dX6_addCar_37 : decode cX6_addCar 37 = .ok (.iconst 0, 1) := by decide +kernel
theorem dX6_addCar_38 : decode cX6_addCar 38 = .ok (.putfield 54, 3) := by decide +kernel
theorem dX6_addCar_41 : decode cX6_addCar 41 = .ok (.aload_n 0, 1) := by decide +kernel
theorem dX6_addCar_42 : decode cX6_addCar 42 = .ok (.getfield 54, 3) := by decide +kernel
theorem dX6_addCar_45 : decode cX6_addCar 45 = .ok (.ifCond .le 5, 3) := by decide +kernel
theorem dX6_addCar_48 : decode cX6_addCar 48 = .ok (.iconst (-1), 1) := by decide +kernel
theorem dX6_addCar_49 : decode cX6_addCar 49 = .ok (.ireturn, 1) := by decide +kernel
theorem dX6_addCar_50 : decode cX6_addCar 50 = .ok (.aload_n 0, 1) := by decide +kernel
theorem dX6_addCar_51 : decode cX6_addCar 51 = .ok (.getfield 29, 3) := by decide +kernel
theorem dX6_addCar_54 : decode cX6_addCar 54 = .ok (.aload_n 0, 1) := by decide +kernel
theorem dX6_addCar_55 : decode cX6_addCar 55 = .ok (.getfield 84, 3) := by decide +kernel
theorem dX6_addCar_58 : decode cX6_addCar 58 = .ok (.iload_n 1, 1) := by decide +kernel
theorem dX6_addCar_59 : decode cX6_addCar 59 = .ok (.iastore, 1) := by decide +kernel
theorem dX6_addCar_60 : decode cX6_addCar 60 = .ok (.aload_n 0, 1) := by decide +kernel
theorem dX6_addCar_61 : decode cX6_addCar 61 = .ok (.getfield 41, 3) := by decide +kernel
theorem dX6_addCar_64 : decode cX6_addCar 64 = .ok (.bipush 82, 2) := by decide +kernel
theorem dX6_addCar_66 : decode cX6_addCar 66 = .ok (.aload_n 0, 1) := by decide +kernel
theorem dX6_addCar_67 : decode cX6_addCar 67 = .ok (.getfield 84, 3) := by decide +kernel
theorem dX6_addCar_70 : decode cX6_addCar 70 = .ok (.iadd, 1) := by decide +kernel
theorem dX6_addCar_71 : decode cX6_addCar 71 = .ok (.bipush 119, 2) := by decide +kernel
theorem dX6_addCar_73 : decode cX6_addCar 73 = .ok (.iastore, 1) := by decide +kernel
theorem dX6_addCar_74 : decode cX6_addCar 74 = .ok (.aload_n 0, 1) := by decide +kernel
theorem dX6_addCar_75 : decode cX6_addCar 75 = .ok (.getfield 41, 3) := by decide +kernel
theorem dX6_addCar_78 : decode cX6_addCar 78 = .ok (.sipush 142, 3) := by decide +kernel
theorem dX6_addCar_81 : decode cX6_addCar 81 = .ok (.aload_n 0, 1) := by decide +kernel
theorem dX6_addCar_82 : decode cX6_addCar 82 = .ok (.getfield 41, 3) := by decide +kernel
theorem dX6_addCar_85 : decode cX6_addCar 85 = .ok (.sipush 233, 3) := by decide +kernel
theorem dX6_addCar_88 : decode cX6_addCar 88 = .ok (.iaload, 1) := by decide +kernel
theorem dX6_addCar_89 : decode cX6_addCar 89 = .ok (.iadd, 1) := by decide +kernel
theorem dX6_addCar_90 : decode cX6_addCar 90 = .ok (.aload_n 0, 1) := by decide +kernel
theorem dX6_addCar_91 : decode cX6_addCar 91 = .ok (.getfield 84, 3) := by decide +kernel
theorem dX6_addCar_94 : decode cX6_addCar 94 = .ok (.iastore, 1) := by decide +kernel
theorem dX6_addCar_95 : decode cX6_addCar 95 = .ok (.aload_n 0, 1) := by decide +kernel
theorem dX6_addCar_96 : decode cX6_addCar 96 = .ok (.getfield 41, 3) := by decide +kernel
theorem dX6_addCar_99 : decode cX6_addCar 99 = .ok (.sipush 233, 3) := by decide +kernel
theorem dX6_addCar_102 : decode cX6_addCar 102 = .ok (.dup2, 1) := by decide +kernel
theorem dX6_addCar_103 : decode cX6_addCar 103 = .ok (.iaload, 1) := by decide +kernel
theorem dX6_addCar_104 : decode cX6_addCar 104 = .ok (.iconst 1, 1) := by decide +kernel
theorem dX6_addCar_105 : decode cX6_addCar 105 = .ok (.iadd, 1) := by decide +kernel
theorem dX6_addCar_106 : decode cX6_addCar 106 = .ok (.iastore, 1) := by decide +kernel
theorem dX6_addCar_107 : decode cX6_addCar 107 = .ok (.aload_n 0, 1) := by decide +kernel
theorem dX6_addCar_108 : decode cX6_addCar 108 = .ok (.dup, 1) := by decide +kernel
theorem dX6_addCar_109 : decode cX6_addCar 109 = .ok (.getfield 84, 3) := by decide +kernel
theorem dX6_addCar_112 : decode cX6_addCar 112 = .ok (.iconst 1, 1) := by decide +kernel
theorem dX6_addCar_113 : decode cX6_addCar 113 = .ok (.iadd, 1) := by decide +kernel
theorem dX6_addCar_114 : decode cX6_addCar 114 = .ok (.putfield 84, 3) := by decide +kernel
theorem dX6_addCar_117 : decode cX6_addCar 117 = .ok (.aload_n 0, 1) := by decide +kernel
theorem dX6_addCar_118 : decode cX6_addCar 118 = .ok (.getfield 84, 3) := by decide +kernel
theorem dX6_addCar_121 : decode cX6_addCar 121 = .ok (.iconst 1, 1) := by decide +kernel
theorem dX6_addCar_122 : decode cX6_addCar 122 = .ok (.isub, 1) := by decide +kernel
theorem dX6_addCar_123 : decode cX6_addCar 123 = .ok (.ireturn, 1) := by decide +kernel
theorem dX6_isCar_0 : decode cX6_isCar 0 = .ok (.iload_n 1, 1) := by decide +kernel
theorem dX6_isCar_1 : decode cX6_isCar 1 = .ok (.i2l, 1) := by decide +kernel
theorem dX6_isCar_2 : decode cX6_isCar 2 = .ok (.lconst 0, 1) := by decide +kernel
theorem dX6_isCar_3 : decode cX6_isCar 3 = .ok (.aload_n 0, 1) := by decide +kernel
theorem dX6_isCar_4 : decode cX6_isCar 4 = .ok (.getfield 84, 3) := by decide +kernel
theorem dX6_isCar_7 : decode cX6_isCar 7 = .ok (.iconst 1, 1) := by decide +kernel
theorem dX6_isCar_8 : decode cX6_isCar 8 = .ok (.isub, 1) := by decide +kernel
theorem dX6_isCar_9 : decode cX6_isCar 9 = .ok (.i2l, 1) := by decide +kernel
theorem dX6_isCar_10 : decode cX6_isCar 10 = .ok (.invokestatic 59, 3) := by decide +kernel
theorem dX6_isCar_13 : decode cX6_isCar 13 = .ok (.ireturn, 1) := by decide +kernel
theorem dX6_waitsAt_0 : decode cX6_waitsAt 0 = .ok (.iconst 0, 1) := by decide +kernel
theorem dX6_waitsAt_1 : decode cX6_waitsAt 1 = .ok (.istore_n 2, 1) := by decide +kernel
theorem dX6_waitsAt_2 : decode cX6_waitsAt 2 = .ok (.aload_n 0, 1) := by decide +kernel
theorem dX6_waitsAt_3 : decode cX6_waitsAt 3 = .ok (.getfield 41, 3) := by decide +kernel
theorem dX6_waitsAt_6 : decode cX6_waitsAt 6 = .ok (.sipush 142, 3) := by decide +kernel
theorem dX6_waitsAt_9 : decode cX6_waitsAt 9 = .ok (.iload_n 2, 1) := by decide +kernel
theorem dX6_waitsAt_10 : decode cX6_waitsAt 10 = .ok (.iadd, 1) := by decide +kernel
theorem dX6_waitsAt_11 : decode cX6_waitsAt 11 = .ok (.iaload, 1) := by decide +kernel
theorem dX6_waitsAt_12 : decode cX6_waitsAt 12 = .ok (.iload_n 1, 1) := by decide +kernel
theorem dX6_waitsAt_13 : decode cX6_waitsAt 13 = .ok (.if_icmp .eq 9, 3) := by decide +kernel
theorem dX6_waitsAt_16 : decode cX6_waitsAt 16 = .ok (.iinc 2 1, 3) := by decide +kernel
theorem dX6_waitsAt_19 : decode cX6_waitsAt 19 = .ok (.goto (-17), 3) := by decide +kernel
theorem dX6_waitsAt_22 : decode cX6_waitsAt 22 = .ok (.iload_n 2, 1) := by decide +kernel
theorem dX6_waitsAt_23 : decode cX6_waitsAt 23 = .ok (.ireturn, 1) := by decide +kernel
theorem dX6_swap_0 : decode cX6_swap 0 = .ok (.aload_n 0, 1) := by decide +kernel
theorem dX6_swap_1 : decode cX6_swap 1 = .ok (.iload_n 1, 1) := by decide +kernel
theorem dX6_swap_2 : decode cX6_swap 2 = .ok (.invokevirtual 87, 3) := by decide +kernel
theorem dX6_swap_5 : decode cX6_swap 5 = .ok (.ifCond .eq 16, 3) := by decide +kernel
theorem dX6_swap_8 : decode cX6_swap 8 = .ok (.aload_n 0, 1) := by decide +kernel
theorem dX6_swap_9 : decode cX6_swap 9 = .ok (.iload_n 2, 1) := by decide +kernel
theorem dX6_swap_10 : decode cX6_swap 10 = .ok (.invokevirtual 87, 3) := by decide +kernel
theorem dX6_swap_13 : decode cX6_swap 13 = .ok (.ifCond .eq 8, 3) := by decide +kernel
theorem dX6_swap_16 : decode cX6_swap 16 = .ok (.iload_n 1, 1) := by decide +kernel
theorem dX6_swap_17 : decode cX6_swap 17 = .ok (.iload_n 2, 1) := by decide +kernel
theorem dX6_swap_18 : decode cX6_swap 18 = .ok (.if_icmp .ne 30, 3) := by decide +kernel
theorem dX6_swap_21 : decode cX6_swap 21 = .ok (.aload_n 0, 1) := by decide +kernel
theorem dX6_swap_22 : decode cX6_swap 22 = .ok (.aload_n 0, 1) := by decide +kernel
theorem dX6_swap_23 : decode cX6_swap 23 = .ok (.iload_n 1, 1) := by decide +kernel
theorem dX6_swap_24 : decode cX6_swap 24 = .ok (.invokevirtual 87, 3) := by decide +kernel
theorem dX6_swap_27 : decode cX6_swap 27 = .ok (.ifCond .eq 11, 3) := by decide +kernel
theorem dX6_swap_30 : decode cX6_swap 30 = .ok (.aload_n 0, 1) := by decide +kernel
theorem dX6_swap_31 : decode cX6_swap 31 = .ok (.iload_n 2, 1) := by decide +kernel
theorem dX6_swap_32 : decode cX6_swap 32 = .ok (.invokevirtual 87, 3) := by decide +kernel
theorem dX6_swap_35 : decode cX6_swap 35 = .ok (.ifCond .ne 7, 3) := by decide +kernel
theorem dX6_swap_38 : decode cX6_swap 38 = .ok (.iconst 1, 1) := by decide +kernel
theorem dX6_swap_39 : decode cX6_swap 39 = .ok (.goto 4, 3) := by decide +kernel
theorem dX6_swap_42 : decode cX6_swap 42 = .ok (.iconst 2, 1) := by decide +kernel
theorem dX6_swap_43 : decode cX6_swap 43 = .ok (.putfield 54, 3) := by decide +kernel
theorem dX6_swap_46 : decode cX6_swap 46 = .ok (.iconst (-1), 1) := by decide +kernel
theorem dX6_swap_47 : decode cX6_swap 47 = .ok (.ireturn, 1) := by decide +kernel
theorem dX6_swap_48 : decode cX6_swap 48 = .ok (.aload_n 0, 1) := by decide +kernel
theorem dX6_swap_49 : decode cX6_swap 49 = .ok (.aload_n 0, 1) := by decide +kernel
theorem dX6_swap_50 : decode cX6_swap 50 = .ok (.getfield 41, 3) := by decide +kernel
theorem dX6_swap_53 : decode cX6_swap 53 = .ok (.bipush 82, 2) := by decide +kernel
theorem dX6_swap_55 : decode cX6_swap 55 = .ok (.iload_n 1, 1) := by decide +kernel
theorem dX6_swap_56 : decode cX6_swap 56 = .ok (.iadd, 1) := by decide +kernel
theorem dX6_swap_57 : decode cX6_swap 57 = .ok (.iaload, 1) := by decide +kernel
theorem dX6_swap_58 : decode cX6_swap 58 = .ok (.bipush 119, 2) := by decide +kernel
theorem dX6_swap_60 : decode cX6_swap 60 = .ok (.if_icmp .ne 21, 3) := by decide +kernel
theorem dX6_swap_63 : decode cX6_swap 63 = .ok (.aload_n 0, 1) := by decide +kernel
theorem dX6_swap_64 : decode cX6_swap 64 = .ok (.getfield 41, 3) := by decide +kernel
theorem dX6_swap_67 : decode cX6_swap 67 = .ok (.bipush 82, 2) := by decide +kernel
theorem dX6_swap_69 : decode cX6_swap 69 = .ok (.iload_n 2, 1) := by decide +kernel
theorem dX6_swap_70 : decode cX6_swap 70 = .ok (.iadd, 1) := by decide +kernel
theorem dX6_swap_71 : decode cX6_swap 71 = .ok (.iaload, 1) := by decide +kernel
theorem dX6_swap_72 : decode cX6_swap 72 = .ok (.bipush 119, 2) := by decide +kernel
theorem dX6_swap_74 : decode cX6_swap 74 = .ok (.if_icmp .ne 7, 3) := by decide +kernel
theorem dX6_swap_77 : decode cX6_swap 77 = .ok (.iconst 0, 1) := by decide +kernel
theorem dX6_swap_78 : decode cX6_swap 78 = .ok (.goto 4, 3) := by decide +kernel
theorem dX6_swap_81 : decode cX6_swap 81 = .ok (.iconst 3, 1) := by decide +kernel
theorem dX6_swap_82 : decode cX6_swap 82 = .ok (.putfield 54, 3) := by decide +kernel
theorem dX6_swap_85 : decode cX6_swap 85 = .ok (.aload_n 0, 1) := by decide +kernel
theorem dX6_swap_86 : decode cX6_swap 86 = .ok (.getfield 54, 3) := by decide +kernel
theorem dX6_swap_89 : decode cX6_swap 89 = .ok (.ifCond .le 5, 3) := by decide +kernel
theorem dX6_swap_92 : decode cX6_swap 92 = .ok (.iconst (-1), 1) := by decide +kernel
theorem dX6_swap_93 : decode cX6_swap 93 = .ok (.ireturn, 1) := by decide +kernel
theorem dX6_swap_94 : decode cX6_swap 94 = .ok (.aload_n 0, 1) := by decide +kernel
theorem dX6_swap_95 : decode cX6_swap 95 = .ok (.iload_n 1, 1) := by decide +kernel
theorem dX6_swap_96 : decode cX6_swap 96 = .ok (.invokevirtual 90, 3) := by decide +kernel
theorem dX6_swap_99 : decode cX6_swap 99 = .ok (.istore_n 3, 1) := by decide +kernel
theorem dX6_swap_100 : decode cX6_swap 100 = .ok (.aload_n 0, 1) := by decide +kernel
theorem dX6_swap_101 : decode cX6_swap 101 = .ok (.iload_n 2, 1) := by decide +kernel
theorem dX6_swap_102 : decode cX6_swap 102 = .ok (.invokevirtual 90, 3) := by decide +kernel
theorem dX6_swap_105 : decode cX6_swap 105 = .ok (.istore 4, 2) := by decide +kernel
theorem dX6_swap_107 : decode cX6_swap 107 = .ok (.aload_n 0, 1) := by decide +kernel
theorem dX6_swap_108 : decode cX6_swap 108 = .ok (.getfield 41, 3) := by decide +kernel
theorem dX6_swap_111 : decode cX6_swap 111 = .ok (.sipush 142, 3) := by decide +kernel
theorem dX6_swap_114 : decode cX6_swap 114 = .ok (.iload_n 3, 1) := by decide +kernel
theorem dX6_swap_115 : decode cX6_swap 115 = .ok (.iadd, 1) := by decide +kernel
theorem dX6_swap_116 : decode cX6_swap 116 = .ok (.iload_n 2, 1) := by decide +kernel
theorem dX6_swap_117 : decode cX6_swap 117 = .ok (.iastore, 1) := by decide +kernel
theorem dX6_swap_118 : decode cX6_swap 118 = .ok (.aload_n 0, 1) := by decide +kernel
theorem dX6_swap_119 : decode cX6_swap 119 = .ok (.getfield 41, 3) := by decide +kernel
theorem dX6_swap_122 : decode cX6_swap 122 = .ok (.sipush 142, 3) := by decide +kernel
theorem dX6_swap_125 : decode cX6_swap 125 = .ok (.iload 4, 2) := by decide +kernel
theorem dX6_swap_127 : decode cX6_swap 127 = .ok (.iadd, 1) := by decide +kernel
theorem dX6_swap_128 : decode cX6_swap 128 = .ok (.iload_n 1, 1) := by decide +kernel
theorem dX6_swap_129 : decode cX6_swap 129 = .ok (.iastore, 1) := by decide +kernel
theorem dX6_swap_130 : decode cX6_swap 130 = .ok (.iload 4, 2) := by decide +kernel
theorem dX6_swap_132 : decode cX6_swap 132 = .ok (.ireturn, 1) := by decide +kernel
theorem dX6_isStation_0 : decode cX6_isStation 0 = .ok (.iload_n 1, 1) := by decide +kernel
theorem dX6_isStation_1 : decode cX6_isStation 1 = .ok (.i2l, 1) := by decide +kernel
theorem dX6_isStation_2 : decode cX6_isStation 2 = .ok (.lconst 0, 1) := by decide +kernel
theorem dX6_isStation_3 : decode cX6_isStation 3 = .ok (.aload_n 0, 1) := by decide +kernel
theorem dX6_isStation_4 : decode cX6_isStation 4 = .ok (.getfield 71, 3) := by decide +kernel
theorem dX6_isStation_7 : decode cX6_isStation 7 = .ok (.iconst 1, 1) := by decide +kernel
theorem dX6_isStation_8 : decode cX6_isStation 8 = .ok (.isub, 1) := by decide +kernel
theorem dX6_isStation_9 : decode cX6_isStation 9 = .ok (.i2l, 1) := by decide +kernel
theorem dX6_isStation_10 : decode cX6_isStation 10 = .ok (.invokestatic 59, 3) := by decide +kernel
theorem dX6_isStation_13 : decode cX6_isStation 13 = .ok (.ireturn, 1) := by decide +kernel
theorem dX6_many_0 : decode cX6_many 0 = .ok (.iconst 0, 1) := by decide +kernel
theorem dX6_many_1 : decode cX6_many 1 = .ok (.istore_n 1, 1) := by decide +kernel
theorem dX6_many_2 : decode cX6_many 2 = .ok (.iconst 0, 1) := by decide +kernel
theorem dX6_many_3 : decode cX6_many 3 = .ok (.istore_n 2, 1) := by decide +kernel
theorem dX6_many_4 : decode cX6_many 4 = .ok (.iload_n 2, 1) := by decide +kernel
theorem dX6_many_5 : decode cX6_many 5 = .ok (.bipush 8, 2) := by decide +kernel
theorem dX6_many_7 : decode cX6_many 7 = .ok (.if_icmp .ge 17, 3) := by decide +kernel
theorem dX6_many_10 : decode cX6_many 10 = .ok (.iload_n 1, 1) := by decide +kernel
theorem dX6_many_11 : decode cX6_many 11 = .ok (.iload_n 0, 1) := by decide +kernel
theorem dX6_many_12 : decode cX6_many 12 = .ok (.iload_n 2, 1) := by decide +kernel
theorem dX6_many_13 : decode cX6_many 13 = .ok (.ishr, 1) := by decide +kernel
theorem dX6_many_14 : decode cX6_many 14 = .ok (.iconst 1, 1) := by decide +kernel
theorem dX6_many_15 : decode cX6_many 15 = .ok (.iand, 1) := by decide +kernel
theorem dX6_many_16 : decode cX6_many 16 = .ok (.iadd, 1) := by decide +kernel
theorem dX6_many_17 : decode cX6_many 17 = .ok (.istore_n 1, 1) := by decide +kernel
theorem dX6_many_18 : decode cX6_many 18 = .ok (.iinc 2 1, 3) := by decide +kernel
theorem dX6_many_21 : decode cX6_many 21 = .ok (.goto (-17), 3) := by decide +kernel
theorem dX6_many_24 : decode cX6_many 24 = .ok (.iload_n 1, 1) := by decide +kernel
theorem dX6_many_25 : decode cX6_many 25 = .ok (.ireturn, 1) := by decide +kernel
theorem dX6_fault_0 : decode cX6_fault 0 = .ok (.aload_n 0, 1) := by decide +kernel
theorem dX6_fault_1 : decode cX6_fault 1 = .ok (.iload_n 1, 1) := by decide +kernel
theorem dX6_fault_2 : decode cX6_fault 2 = .ok (.invokevirtual 87, 3) := by decide +kernel
theorem dX6_fault_5 : decode cX6_fault 5 = .ok (.ifCond .eq 11, 3) := by decide +kernel
theorem dX6_fault_8 : decode cX6_fault 8 = .ok (.aload_n 0, 1) := by decide +kernel
theorem dX6_fault_9 : decode cX6_fault 9 = .ok (.iload_n 2, 1) := by decide +kernel
theorem dX6_fault_10 : decode cX6_fault 10 = .ok (.invokevirtual 94, 3) := by decide +kernel
theorem dX6_fault_13 : decode cX6_fault 13 = .ok (.ifCond .ne 10, 3) := by decide +kernel
theorem dX6_fault_16 : decode cX6_fault 16 = .ok (.aload_n 0, 1) := by decide +kernel
theorem dX6_fault_17 : decode cX6_fault 17 = .ok (.iconst 1, 1) := by decide +kernel
theorem dX6_fault_18 : decode cX6_fault 18 = .ok (.putfield 54, 3) := by decide +kernel
theorem dX6_fault_21 : decode cX6_fault 21 = .ok (.iconst (-1), 1) := by decide +kernel
theorem dX6_fault_22 : decode cX6_fault 22 = .ok (.ireturn, 1) := by decide +kernel
theorem dX6_fault_23 : decode cX6_fault 23 = .ok (.aload_n 0, 1) := by decide +kernel
theorem dX6_fault_24 : decode cX6_fault 24 = .ok (.getfield 38, 3) := by decide +kernel
theorem dX6_fault_27 : decode cX6_fault 27 = .ok (.iload_n 1, 1) := by decide +kernel
theorem dX6_fault_28 : decode cX6_fault 28 = .ok (.iaload, 1) := by decide +kernel
theorem dX6_fault_29 : decode cX6_fault 29 = .ok (.iload_n 2, 1) := by decide +kernel
theorem dX6_fault_30 : decode cX6_fault 30 = .ok (.ishr, 1) := by decide +kernel
theorem dX6_fault_31 : decode cX6_fault 31 = .ok (.iconst 1, 1) := by decide +kernel
theorem dX6_fault_32 : decode cX6_fault 32 = .ok (.iand, 1) := by decide +kernel
theorem dX6_fault_33 : decode cX6_fault 33 = .ok (.iconst 1, 1) := by decide +kernel
theorem dX6_fault_34 : decode cX6_fault 34 = .ok (.if_icmp .ne 34, 3) := by decide +kernel
theorem dX6_fault_37 : decode cX6_fault 37 = .ok (.aload_n 0, 1) := by decide +kernel
theorem dX6_fault_38 : decode cX6_fault 38 = .ok (.getfield 41, 3) := by decide +kernel
theorem dX6_fault_41 : decode cX6_fault 41 = .ok (.bipush 14, 2) := by decide +kernel
theorem dX6_fault_43 : decode cX6_fault 43 = .ok (.iload_n 2, 1) := by decide +kernel
theorem dX6_fault_44 : decode cX6_fault 44 = .ok (.iadd, 1) := by decide +kernel
theorem dX6_fault_45 : decode cX6_fault 45 = .ok (.iaload, 1) := by decide +kernel
theorem dX6_fault_46 : decode cX6_fault 46 = .ok (.iload_n 1, 1) := by decide +kernel
theorem dX6_fault_47 : decode cX6_fault 47 = .ok (.if_icmp .eq 21, 3) := by decide +kernel
theorem dX6_fault_50 : decode cX6_fault 50 = .ok (.aload_n 0, 1) := by decide +kernel
theorem dX6_fault_51 : decode cX6_fault 51 = .ok (.getfield 41, 3) := by decide +kernel
theorem dX6_fault_54 : decode cX6_fault 54 = .ok (.bipush 82, 2) := by decide +kernel
theorem dX6_fault_56 : decode cX6_fault 56 = .ok (.iload_n 1, 1) := by decide +kernel
theorem dX6_fault_57 : decode cX6_fault 57 = .ok (.iadd, 1) := by decide +kernel
theorem dX6_fault_58 : decode cX6_fault 58 = .ok (.iaload, 1) := by decide +kernel
theorem dX6_fault_59 : decode cX6_fault 59 = .ok (.bipush 100, 2) := by decide +kernel
theorem dX6_fault_61 : decode cX6_fault 61 = .ok (.if_icmp .eq 7, 3) := by decide +kernel
theorem dX6_fault_64 : decode cX6_fault 64 = .ok (.iconst 1, 1) := by decide +kernel
theorem dX6_fault_65 : decode cX6_fault 65 = .ok (.goto 4, 3) := by decide +kernel
theorem dX6_fault_68 : decode cX6_fault 68 = .ok (.iconst 0, 1) := by decide +kernel
theorem dX6_fault_69 : decode cX6_fault 69 = .ok (.istore_n 3, 1) := by decide +kernel
theorem dX6_fault_70 : decode cX6_fault 70 = .ok (.aload_n 0, 1) := by decide +kernel
theorem dX6_fault_71 : decode cX6_fault 71 = .ok (.iload_n 3, 1) := by decide +kernel
theorem dX6_fault_72 : decode cX6_fault 72 = .ok (.ifCond .ne 7, 3) := by decide +kernel
theorem dX6_fault_75 : decode cX6_fault 75 = .ok (.iconst 2, 1) := by decide +kernel
theorem dX6_fault_76 : decode cX6_fault 76 = .ok (.goto 25, 3) := by decide +kernel
theorem dX6_fault_79 : decode cX6_fault 79 = .ok (.aload_n 0, 1) := by decide +kernel
theorem dX6_fault_80 : decode cX6_fault 80 = .ok (.getfield 41, 3) := by decide +kernel
theorem dX6_fault_83 : decode cX6_fault 83 = .ok (.bipush 112, 2) := by decide +kernel
theorem dX6_fault_85 : decode cX6_fault 85 = .ok (.iload_n 1, 1) := by decide +kernel
theorem dX6_fault_86 : decode cX6_fault 86 = .ok (.iadd, 1) := by decide +kernel
theorem dX6_fault_87 : decode cX6_fault 87 = .ok (.iaload, 1) := by decide +kernel
theorem dX6_fault_88 : decode cX6_fault 88 = .ok (.iload_n 2, 1) := by decide +kernel
theorem dX6_fault_89 : decode cX6_fault 89 = .ok (.ishr, 1) := by decide +kernel
theorem dX6_fault_90 : decode cX6_fault 90 = .ok (.iconst 1, 1) := by decide +kernel
theorem dX6_fault_91 : decode cX6_fault 91 = .ok (.iand, 1) := by decide +kernel
theorem dX6_fault_92 : decode cX6_fault 92 = .ok (.iconst 1, 1) := by decide +kernel
theorem dX6_fault_93 : decode cX6_fault 93 = .ok (.if_icmp .ne 7, 3) := by decide +kernel
theorem dX6_fault_96 : decode cX6_fault 96 = .ok (.iconst 3, 1) := by decide +kernel
theorem dX6_fault_97 : decode cX6_fault 97 = .ok (.goto 4, 3) := by decide +kernel
theorem dX6_fault_100 : decode cX6_fault 100 = .ok (.iconst 0, 1) := by decide +kernel
theorem dX6_fault_101 : decode cX6_fault 101 = .ok (.putfield 54, 3) := by decide +kernel
theorem dX6_fault_104 : decode cX6_fault 104 = .ok (.aload_n 0, 1) := by decide +kernel
theorem dX6_fault_105 : decode cX6_fault 105 = .ok (.getfield 54, 3) := by decide +kernel
theorem dX6_fault_108 : decode cX6_fault 108 = .ok (.ifCond .le 5, 3) := by decide +kernel
theorem dX6_fault_111 : decode cX6_fault 111 = .ok (.iconst (-1), 1) := by decide +kernel
theorem dX6_fault_112 : decode cX6_fault 112 = .ok (.ireturn, 1) := by decide +kernel
theorem dX6_fault_113 : decode cX6_fault 113 = .ok (.aload_n 0, 1) := by decide +kernel
theorem dX6_fault_114 : decode cX6_fault 114 = .ok (.getfield 41, 3) := by decide +kernel
theorem dX6_fault_117 : decode cX6_fault 117 = .ok (.bipush 112, 2) := by decide +kernel
theorem dX6_fault_119 : decode cX6_fault 119 = .ok (.iload_n 1, 1) := by decide +kernel
theorem dX6_fault_120 : decode cX6_fault 120 = .ok (.iadd, 1) := by decide +kernel
theorem dX6_fault_121 : decode cX6_fault 121 = .ok (.dup2, 1) := by decide +kernel
theorem dX6_fault_122 : decode cX6_fault 122 = .ok (.iaload, 1) := by decide +kernel
theorem dX6_fault_123 : decode cX6_fault 123 = .ok (.iconst 1, 1) := by decide +kernel
theorem dX6_fault_124 : decode cX6_fault 124 = .ok (.iload_n 2, 1) := by decide +kernel
theorem dX6_fault_125 : decode cX6_fault 125 = .ok (.ishl, 1) := by decide +kernel
theorem dX6_fault_126 : decode cX6_fault 126 = .ok (.ior, 1) := by decide +kernel
theorem dX6_fault_127 : decode cX6_fault 127 = .ok (.iastore, 1) := by decide +kernel
theorem dX6_fault_128 : decode cX6_fault 128 = .ok (.aload_n 0, 1) := by decide +kernel
theorem dX6_fault_129 : decode cX6_fault 129 = .ok (.getfield 41, 3) := by decide +kernel
theorem dX6_fault_132 : decode cX6_fault 132 = .ok (.bipush 112, 2) := by decide +kernel
theorem dX6_fault_134 : decode cX6_fault 134 = .ok (.iload_n 1, 1) := by decide +kernel
theorem dX6_fault_135 : decode cX6_fault 135 = .ok (.iadd, 1) := by decide +kernel
theorem dX6_fault_136 : decode cX6_fault 136 = .ok (.iaload, 1) := by decide +kernel
theorem dX6_fault_137 : decode cX6_fault 137 = .ok (.invokestatic 97, 3) := by decide +kernel
theorem dX6_fault_140 : decode cX6_fault 140 = .ok (.ireturn, 1) := by decide +kernel
theorem dX6_writes_0 : decode cX6_writes 0 = .ok (.aload_n 0, 1) := by decide +kernel
theorem dX6_writes_1 : decode cX6_writes 1 = .ok (.getfield 100, 3) := by decide +kernel
theorem dX6_writes_4 : decode cX6_writes 4 = .ok (.ifCond .eq 4, 3) := by decide +kernel
theorem dX6_writes_7 : decode cX6_writes 7 = .ok (.return_, 1) := by decide +kernel
theorem dX6_writes_8 : decode cX6_writes 8 = .ok (.aload_n 0, 1) := by decide +kernel
theorem dX6_writes_9 : decode cX6_writes 9 = .ok (.getfield 104, 3) := by decide +kernel
theorem dX6_writes_12 : decode cX6_writes 12 = .ok (.aload_n 0, 1) := by decide +kernel
theorem dX6_writes_13 : decode cX6_writes 13 = .ok (.getfield 47, 3) := by decide +kernel
theorem dX6_writes_16 : decode cX6_writes 16 = .ok (.arraylength, 1) := by decide +kernel
theorem dX6_writes_17 : decode cX6_writes 17 = .ok (.if_icmp .ne 74, 3) := by decide +kernel
theorem dX6_writes_20 : decode cX6_writes 20 = .ok (.iconst 2, 1) := by decide +kernel
theorem dX6_writes_21 : decode cX6_writes 21 = .ok (.aload_n 0, 1) := by decide +kernel
theorem dX6_writes_22 : decode cX6_writes 22 = .ok (.getfield 104, 3) := by decide +kernel
theorem dX6_writes_25 : decode cX6_writes 25 = .ok (.imul, 1) := by decide +kernel
theorem dX6_writes_26 : decode cX6_writes 26 = .ok (.newarray .char, 2) := by decide +kernel
theorem dX6_writes_28 : decode cX6_writes 28 = .ok (.astore_n 3, 1) := by decide +kernel
theorem dX6_writes_29 : decode cX6_writes 29 = .ok (.iconst 2, 1) := by decide +kernel
theorem dX6_writes_30 : decode cX6_writes 30 = .ok (.aload_n 0, 1) := by decide +kernel
theorem dX6_writes_31 : decode cX6_writes 31 = .ok (.getfield 104, 3) := by decide +kernel
theorem dX6_writes_34 : decode cX6_writes 34 = .ok (.imul, 1) := by decide +kernel
theorem dX6_writes_35 : decode cX6_writes 35 = .ok (.newarray .int, 2) := by decide +kernel
theorem dX6_writes_37 : decode cX6_writes 37 = .ok (.astore 4, 2) := by decide +kernel
theorem dX6_writes_39 : decode cX6_writes 39 = .ok (.iconst 0, 1) := by decide +kernel
theorem dX6_writes_40 : decode cX6_writes 40 = .ok (.istore 5, 2) := by decide +kernel
theorem dX6_writes_42 : decode cX6_writes 42 = .ok (.iload 5, 2) := by decide +kernel
theorem dX6_writes_44 : decode cX6_writes 44 = .ok (.aload_n 0, 1) := by decide +kernel
theorem dX6_writes_45 : decode cX6_writes 45 = .ok (.getfield 104, 3) := by decide +kernel
theorem dX6_writes_48 : decode cX6_writes 48 = .ok (.if_icmp .ge 32, 3) := by decide +kernel
theorem dX6_writes_51 : decode cX6_writes 51 = .ok (.aload_n 3, 1) := by decide +kernel
theorem dX6_writes_52 : decode cX6_writes 52 = .ok (.iload 5, 2) := by decide +kernel
theorem dX6_writes_54 : decode cX6_writes 54 = .ok (.aload_n 0, 1) := by decide +kernel
theorem dX6_writes_55 : decode cX6_writes 55 = .ok (.getfield 47, 3) := by decide +kernel
theorem dX6_writes_58 : decode cX6_writes 58 = .ok (.iload 5, 2) := by decide +kernel
theorem dX6_writes_60 : decode cX6_writes 60 = .ok (.caload, 1) := by decide +kernel
theorem dX6_writes_61 : decode cX6_writes 61 = .ok (.castore, 1) := by decide +kernel
theorem dX6_writes_62 : decode cX6_writes 62 = .ok (.aload 4, 2) := by decide +kernel
theorem dX6_writes_64 : decode cX6_writes 64 = .ok (.iload 5, 2) := by decide +kernel
theorem dX6_writes_66 : decode cX6_writes 66 = .ok (.aload_n 0, 1) := by decide +kernel
theorem dX6_writes_67 : decode cX6_writes 67 = .ok (.getfield 51, 3) := by decide +kernel
theorem dX6_writes_70 : decode cX6_writes 70 = .ok (.iload 5, 2) := by decide +kernel
theorem dX6_writes_72 : decode cX6_writes 72 = .ok (.iaload, 1) := by decide +kernel
theorem dX6_writes_73 : decode cX6_writes 73 = .ok (.iastore, 1) := by decide +kernel
theorem dX6_writes_74 : decode cX6_writes 74 = .ok (.iinc 5 1, 3) := by decide +kernel
theorem dX6_writes_77 : decode cX6_writes 77 = .ok (.goto (-35), 3) := by decide +kernel
theorem dX6_writes_80 : decode cX6_writes 80 = .ok (.aload_n 0, 1) := by decide +kernel
theorem dX6_writes_81 : decode cX6_writes 81 = .ok (.aload_n 3, 1) := by decide +kernel
theorem dX6_writes_82 : decode cX6_writes 82 = .ok (.putfield 47, 3) := by decide +kernel
theorem dX6_writes_85 : decode cX6_writes 85 = .ok (.aload_n 0, 1) := by decide +kernel
theorem dX6_writes_86 : decode cX6_writes 86 = .ok (.aload 4, 2) := by decide +kernel
theorem dX6_writes_88 : decode cX6_writes 88 = .ok (.putfield 51, 3) := by decide +kernel
theorem dX6_writes_91 : decode cX6_writes 91 = .ok (.aload_n 0, 1) := by decide +kernel
theorem dX6_writes_92 : decode cX6_writes 92 = .ok (.getfield 47, 3) := by decide +kernel
theorem dX6_writes_95 : decode cX6_writes 95 = .ok (.aload_n 0, 1) := by decide +kernel
theorem dX6_writes_96 : decode cX6_writes 96 = .ok (.getfield 104, 3) := by decide +kernel
theorem dX6_writes_99 : decode cX6_writes 99 = .ok (.iload_n 2, 1) := by decide +kernel
theorem dX6_writes_100 : decode cX6_writes 100 = .ok (.castore, 1) := by decide +kernel
theorem dX6_writes_101 : decode cX6_writes 101 = .ok (.aload_n 0, 1) := by decide +kernel
theorem dX6_writes_102 : decode cX6_writes 102 = .ok (.getfield 51, 3) := by decide +kernel
theorem dX6_writes_105 : decode cX6_writes 105 = .ok (.aload_n 0, 1) := by decide +kernel
theorem dX6_writes_106 : decode cX6_writes 106 = .ok (.getfield 104, 3) := by decide +kernel
theorem dX6_writes_109 : decode cX6_writes 109 = .ok (.iload_n 1, 1) := by decide +kernel
theorem dX6_writes_110 : decode cX6_writes 110 = .ok (.iastore, 1) := by decide +kernel
theorem dX6_writes_111 : decode cX6_writes 111 = .ok (.aload_n 0, 1) := by decide +kernel
theorem dX6_writes_112 : decode cX6_writes 112 = .ok (.dup, 1) := by decide +kernel
theorem dX6_writes_113 : decode cX6_writes 113 = .ok (.getfield 104, 3) := by decide +kernel
theorem dX6_writes_116 : decode cX6_writes 116 = .ok (.iconst 1, 1) := by decide +kernel
theorem dX6_writes_117 : decode cX6_writes 117 = .ok (.iadd, 1) := by decide +kernel
theorem dX6_writes_118 : decode cX6_writes 118 = .ok (.putfield 104, 3) := by decide +kernel
theorem dX6_writes_121 : decode cX6_writes 121 = .ok (.return_, 1) := by decide +kernel
theorem dX6_enters_0 : decode cX6_enters 0 = .ok (.aload_n 0, 1) := by decide +kernel
theorem dX6_enters_1 : decode cX6_enters 1 = .ok (.getfield 13, 3) := by decide +kernel
theorem dX6_enters_4 : decode cX6_enters 4 = .ok (.iload_n 2, 1) := by decide +kernel
theorem dX6_enters_5 : decode cX6_enters 5 = .ok (.iaload, 1) := by decide +kernel
theorem dX6_enters_6 : decode cX6_enters 6 = .ok (.iconst (-1), 1) := by decide +kernel
theorem dX6_enters_7 : decode cX6_enters 7 = .ok (.if_icmp .eq 26, 3) := by decide +kernel
theorem dX6_enters_10 : decode cX6_enters 10 = .ok (.aload_n 0, 1) := by decide +kernel
theorem dX6_enters_11 : decode cX6_enters 11 = .ok (.getfield 29, 3) := by decide +kernel
theorem dX6_enters_14 : decode cX6_enters 14 = .ok (.iload_n 1, 1) := by decide +kernel
theorem dX6_enters_15 : decode cX6_enters 15 = .ok (.iaload, 1) := by decide +kernel
theorem dX6_enters_16 : decode cX6_enters 16 = .ok (.aload_n 0, 1) := by decide +kernel
theorem dX6_enters_17 : decode cX6_enters 17 = .ok (.getfield 13, 3) := by decide +kernel
theorem dX6_enters_20 : decode cX6_enters 20 = .ok (.iload_n 2, 1) := by decide +kernel
theorem dX6_enters_21 : decode cX6_enters 21 = .ok (.iaload, 1) := by decide +kernel
theorem dX6_enters_22 : decode cX6_enters 22 = .ok (.ishr, 1) := by decide +kernel
theorem dX6_enters_23 : decode cX6_enters 23 = .ok (.iconst 1, 1) := by decide +kernel
theorem dX6_enters_24 : decode cX6_enters 24 = .ok (.iand, 1) := by decide +kernel
theorem dX6_enters_25 : decode cX6_enters 25 = .ok (.iconst 1, 1) := by decide +kernel
theorem dX6_enters_26 : decode cX6_enters 26 = .ok (.if_icmp .ne 7, 3) := by decide +kernel
theorem dX6_enters_29 : decode cX6_enters 29 = .ok (.iconst 1, 1) := by decide +kernel
theorem dX6_enters_30 : decode cX6_enters 30 = .ok (.goto 4, 3) := by decide +kernel
theorem dX6_enters_33 : decode cX6_enters 33 = .ok (.iconst 0, 1) := by decide +kernel
theorem dX6_enters_34 : decode cX6_enters 34 = .ok (.istore 4, 2) := by decide +kernel
theorem dX6_enters_36 : decode cX6_enters 36 = .ok (.aload_n 0, 1) := by decide +kernel
theorem dX6_enters_37 : decode cX6_enters 37 = .ok (.getfield 13, 3) := by decide +kernel
theorem dX6_enters_40 : decode cX6_enters 40 = .ok (.iload_n 2, 1) := by decide +kernel
theorem dX6_enters_41 : decode cX6_enters 41 = .ok (.iaload, 1) := by decide +kernel
theorem dX6_enters_42 : decode cX6_enters 42 = .ok (.iconst (-1), 1) := by decide +kernel
theorem dX6_enters_43 : decode cX6_enters 43 = .ok (.if_icmp .eq 16, 3) := by decide +kernel
theorem dX6_enters_46 : decode cX6_enters 46 = .ok (.iload 4, 2) := by decide +kernel
theorem dX6_enters_48 : decode cX6_enters 48 = .ok (.ifCond .ne 11, 3) := by decide +kernel
theorem dX6_enters_51 : decode cX6_enters 51 = .ok (.iload_n 3, 1) := by decide +kernel
theorem dX6_enters_52 : decode cX6_enters 52 = .ok (.ifCond .ne 7, 3) := by decide +kernel
theorem dX6_enters_55 : decode cX6_enters 55 = .ok (.iconst 1, 1) := by decide +kernel
theorem dX6_enters_56 : decode cX6_enters 56 = .ok (.goto 4, 3) := by decide +kernel
theorem dX6_enters_59 : decode cX6_enters 59 = .ok (.iconst 0, 1) := by decide +kernel
theorem dX6_enters_60 : decode cX6_enters 60 = .ok (.istore 5, 2) := by decide +kernel
theorem dX6_enters_62 : decode cX6_enters 62 = .ok (.iload 4, 2) := by decide +kernel
theorem dX6_enters_64 : decode cX6_enters 64 = .ok (.ifCond .eq 25, 3) := by decide +kernel
theorem dX6_enters_67 : decode cX6_enters 67 = .ok (.aload_n 0, 1) := by decide +kernel
theorem dX6_enters_68 : decode cX6_enters 68 = .ok (.getfield 41, 3) := by decide +kernel
theorem dX6_enters_71 : decode cX6_enters 71 = .ok (.bipush 6, 2) := by decide +kernel
theorem dX6_enters_73 : decode cX6_enters 73 = .ok (.iload_n 2, 1) := by decide +kernel
theorem dX6_enters_74 : decode cX6_enters 74 = .ok (.iadd, 1) := by decide +kernel
theorem dX6_enters_75 : decode cX6_enters 75 = .ok (.iaload, 1) := by decide +kernel
theorem dX6_enters_76 : decode cX6_enters 76 = .ok (.aload_n 0, 1) := by decide +kernel
theorem dX6_enters_77 : decode cX6_enters 77 = .ok (.getfield 16, 3) := by decide +kernel
theorem dX6_enters_80 : decode cX6_enters 80 = .ok (.iload_n 2, 1) := by decide +kernel
theorem dX6_enters_81 : decode cX6_enters 81 = .ok (.iaload, 1) := by decide +kernel
theorem dX6_enters_82 : decode cX6_enters 82 = .ok (.if_icmp .ge 7, 3) := by decide +kernel
theorem dX6_enters_85 : decode cX6_enters 85 = .ok (.iconst 1, 1) := by decide +kernel
theorem dX6_enters_86 : decode cX6_enters 86 = .ok (.goto 4, 3) := by decide +kernel
theorem dX6_enters_89 : decode cX6_enters 89 = .ok (.iconst 0, 1) := by decide +kernel
theorem dX6_enters_90 : decode cX6_enters 90 = .ok (.istore 6, 2) := by decide +kernel
theorem dX6_enters_92 : decode cX6_enters 92 = .ok (.aload_n 0, 1) := by decide +kernel
theorem dX6_enters_93 : decode cX6_enters 93 = .ok (.getfield 41, 3) := by decide +kernel
theorem dX6_enters_96 : decode cX6_enters 96 = .ok (.bipush 14, 2) := by decide +kernel
theorem dX6_enters_98 : decode cX6_enters 98 = .ok (.iload_n 2, 1) := by decide +kernel
theorem dX6_enters_99 : decode cX6_enters 99 = .ok (.iadd, 1) := by decide +kernel
theorem dX6_enters_100 : decode cX6_enters 100 = .ok (.iload_n 1, 1) := by decide +kernel
theorem dX6_enters_101 : decode cX6_enters 101 = .ok (.iastore, 1) := by decide +kernel
theorem dX6_enters_102 : decode cX6_enters 102 = .ok (.aload_n 0, 1) := by decide +kernel
theorem dX6_enters_103 : decode cX6_enters 103 = .ok (.getfield 41, 3) := by decide +kernel
theorem dX6_enters_106 : decode cX6_enters 106 = .ok (.bipush 82, 2) := by decide +kernel
theorem dX6_enters_108 : decode cX6_enters 108 = .ok (.iload_n 1, 1) := by decide +kernel
theorem dX6_enters_109 : decode cX6_enters 109 = .ok (.iadd, 1) := by decide +kernel
theorem dX6_enters_110 : decode cX6_enters 110 = .ok (.bipush 115, 2) := by decide +kernel
theorem dX6_enters_112 : decode cX6_enters 112 = .ok (.iastore, 1) := by decide +kernel
theorem dX6_enters_113 : decode cX6_enters 113 = .ok (.aload_n 0, 1) := by decide +kernel
theorem dX6_enters_114 : decode cX6_enters 114 = .ok (.getfield 41, 3) := by decide +kernel
theorem dX6_enters_117 : decode cX6_enters 117 = .ok (.bipush 52, 2) := by decide +kernel
theorem dX6_enters_119 : decode cX6_enters 119 = .ok (.iload_n 1, 1) := by decide +kernel
theorem dX6_enters_120 : decode cX6_enters 120 = .ok (.iadd, 1) := by decide +kernel
theorem dX6_enters_121 : decode cX6_enters 121 = .ok (.iload_n 3, 1) := by decide +kernel
theorem dX6_enters_122 : decode cX6_enters 122 = .ok (.ifCond .eq 7, 3) := by decide +kernel
theorem dX6_enters_125 : decode cX6_enters 125 = .ok (.iconst 1, 1) := by decide +kernel
theorem dX6_enters_126 : decode cX6_enters 126 = .ok (.goto 4, 3) := by decide +kernel
theorem dX6_enters_129 : decode cX6_enters 129 = .ok (.iconst 0, 1) := by decide +kernel
theorem dX6_enters_130 : decode cX6_enters 130 = .ok (.iastore, 1) := by decide +kernel
theorem dX6_enters_131 : decode cX6_enters 131 = .ok (.aload_n 0, 1) := by decide +kernel
theorem dX6_enters_132 : decode cX6_enters 132 = .ok (.getfield 41, 3) := by decide +kernel
theorem dX6_enters_135 : decode cX6_enters 135 = .ok (.bipush 22, 2) := by decide +kernel
theorem dX6_enters_137 : decode cX6_enters 137 = .ok (.iload_n 1, 1) := by decide +kernel
theorem dX6_enters_138 : decode cX6_enters 138 = .ok (.iadd, 1) := by decide +kernel
theorem dX6_enters_139 : decode cX6_enters 139 = .ok (.iload 5, 2) := by decide +kernel
theorem dX6_enters_141 : decode cX6_enters 141 = .ok (.ifCond .eq 7, 3) := by decide +kernel
theorem dX6_enters_144 : decode cX6_enters 144 = .ok (.iconst 1, 1) := by decide +kernel
theorem dX6_enters_145 : decode cX6_enters 145 = .ok (.goto 9, 3) := by decide +kernel
theorem dX6_enters_148 : decode cX6_enters 148 = .ok (.aload_n 0, 1) := by decide +kernel
theorem dX6_enters_149 : decode cX6_enters 149 = .ok (.getfield 7, 3) := by decide +kernel
theorem dX6_enters_152 : decode cX6_enters 152 = .ok (.iload_n 2, 1) := by decide +kernel
theorem dX6_enters_153 : decode cX6_enters 153 = .ok (.iaload, 1) := by decide +kernel
theorem dX6_enters_154 : decode cX6_enters 154 = .ok (.iastore, 1) := by decide +kernel
theorem dX6_enters_155 : decode cX6_enters 155 = .ok (.iload 6, 2) := by decide +kernel
theorem dX6_enters_157 : decode cX6_enters 157 = .ok (.ifCond .eq 21, 3) := by decide +kernel
theorem dX6_enters_160 : decode cX6_enters 160 = .ok (.aload_n 0, 1) := by decide +kernel
theorem dX6_enters_161 : decode cX6_enters 161 = .ok (.getfield 41, 3) := by decide +kernel
theorem dX6_enters_164 : decode cX6_enters 164 = .ok (.bipush 112, 2) := by decide +kernel
theorem dX6_enters_166 : decode cX6_enters 166 = .ok (.iload_n 1, 1) := by decide +kernel
theorem dX6_enters_167 : decode cX6_enters 167 = .ok (.iadd, 1) := by decide +kernel
theorem dX6_enters_168 : decode cX6_enters 168 = .ok (.dup2, 1) := by decide +kernel
theorem dX6_enters_169 : decode cX6_enters 169 = .ok (.iaload, 1) := by decide +kernel
theorem dX6_enters_170 : decode cX6_enters 170 = .ok (.iconst 1, 1) := by decide +kernel
theorem dX6_enters_171 : decode cX6_enters 171 = .ok (.iload_n 2, 1) := by decide +kernel
theorem dX6_enters_172 : decode cX6_enters 172 = .ok (.ishl, 1) := by decide +kernel
theorem dX6_enters_173 : decode cX6_enters 173 = .ok (.ior, 1) := by decide +kernel
theorem dX6_enters_174 : decode cX6_enters 174 = .ok (.iastore, 1) := by decide +kernel
theorem dX6_enters_175 : decode cX6_enters 175 = .ok (.goto 25, 3) := by decide +kernel
theorem dX6_enters_178 : decode cX6_enters 178 = .ok (.iload 5, 2) := by decide +kernel
theorem dX6_enters_180 : decode cX6_enters 180 = .ok (.ifCond .ne 20, 3) := by decide +kernel
theorem dX6_enters_183 : decode cX6_enters 183 = .ok (.aload_n 0, 1) := by decide +kernel
theorem dX6_enters_184 : decode cX6_enters 184 = .ok (.getfield 41, 3) := by decide +kernel
theorem dX6_enters_187 : decode cX6_enters 187 = .ok (.bipush 112, 2) := by decide +kernel
theorem dX6_enters_189 : decode cX6_enters 189 = .ok (.iload_n 1, 1) := by decide +kernel
theorem dX6_enters_190 : decode cX6_enters 190 = .ok (.iadd, 1) := by decide +kernel
theorem dX6_enters_191 : decode cX6_enters 191 = .ok (.dup2, 1) := by decide +kernel
theorem dX6_enters_192 : decode cX6_enters 192 = .ok (.iaload, 1) := by decide +kernel
theorem dX6_enters_193 : decode cX6_enters 193 = .ok (.iconst 1, 1) := by decide +kernel
theorem dX6_enters_194 : decode cX6_enters 194 = .ok (.iload_n 2, 1) := by decide +kernel
theorem dX6_enters_195 : decode cX6_enters 195 = .ok (.ishl, 1) := by decide +kernel
theorem dX6_enters_196 : decode cX6_enters 196 = .ok (.iconst (-1), 1) := by decide +kernel
theorem dX6_enters_197 : decode cX6_enters 197 = .ok (.ixor, 1) := by decide +kernel
theorem dX6_enters_198 : decode cX6_enters 198 = .ok (.iand, 1) := by decide +kernel
theorem dX6_enters_199 : decode cX6_enters 199 = .ok (.iastore, 1) := by decide +kernel
theorem dX6_enters_200 : decode cX6_enters 200 = .ok (.iload 4, 2) := by decide +kernel
theorem dX6_enters_202 : decode cX6_enters 202 = .ok (.ifCond .eq 26, 3) := by decide +kernel
theorem dX6_enters_205 : decode cX6_enters 205 = .ok (.iload 6, 2) := by decide +kernel
theorem dX6_enters_207 : decode cX6_enters 207 = .ok (.ifCond .ne 21, 3) := by decide +kernel
theorem dX6_enters_210 : decode cX6_enters 210 = .ok (.aload_n 0, 1) := by decide +kernel
theorem dX6_enters_211 : decode cX6_enters 211 = .ok (.getfield 41, 3) := by decide +kernel
theorem dX6_enters_214 : decode cX6_enters 214 = .ok (.bipush 6, 2) := by decide +kernel
theorem dX6_enters_216 : decode cX6_enters 216 = .ok (.iload_n 2, 1) := by decide +kernel
theorem dX6_enters_217 : decode cX6_enters 217 = .ok (.iadd, 1) := by decide +kernel
theorem dX6_enters_218 : decode cX6_enters 218 = .ok (.dup2, 1) := by decide +kernel
theorem dX6_enters_219 : decode cX6_enters 219 = .ok (.iaload, 1) := by decide +kernel
theorem dX6_enters_220 : decode cX6_enters 220 = .ok (.aload_n 0, 1) := by decide +kernel
theorem dX6_enters_221 : decode cX6_enters 221 = .ok (.getfield 16, 3) := by decide +kernel
theorem dX6_enters_224 : decode cX6_enters 224 = .ok (.iload_n 2, 1) := by decide +kernel
theorem dX6_enters_225 : decode cX6_enters 225 = .ok (.iaload, 1) := by decide +kernel
theorem dX6_enters_226 : decode cX6_enters 226 = .ok (.isub, 1) := by decide +kernel
theorem dX6_enters_227 : decode cX6_enters 227 = .ok (.iastore, 1) := by decide +kernel
theorem dX6_enters_228 : decode cX6_enters 228 = .ok (.aload_n 0, 1) := by decide +kernel
theorem dX6_enters_229 : decode cX6_enters 229 = .ok (.iload_n 1, 1) := by decide +kernel
theorem dX6_enters_230 : decode cX6_enters 230 = .ok (.bipush 48, 2) := by decide +kernel
theorem dX6_enters_232 : decode cX6_enters 232 = .ok (.iload_n 2, 1) := by decide +kernel
theorem dX6_enters_233 : decode cX6_enters 233 = .ok (.iadd, 1) := by decide +kernel
theorem dX6_enters_234 : decode cX6_enters 234 = .ok (.i2c, 1) := by decide +kernel
theorem dX6_enters_235 : decode cX6_enters 235 = .ok (.invokevirtual 107, 3) := by decide +kernel
theorem dX6_enters_238 : decode cX6_enters 238 = .ok (.aload_n 0, 1) := by decide +kernel
theorem dX6_enters_239 : decode cX6_enters 239 = .ok (.iload_n 1, 1) := by decide +kernel
theorem dX6_enters_240 : decode cX6_enters 240 = .ok (.iload 6, 2) := by decide +kernel
theorem dX6_enters_242 : decode cX6_enters 242 = .ok (.ifCond .eq 8, 3) := by decide +kernel
theorem dX6_enters_245 : decode cX6_enters 245 = .ok (.bipush 45, 2) := by decide +kernel
theorem dX6_enters_247 : decode cX6_enters 247 = .ok (.goto 15, 3) := by decide +kernel
theorem dX6_enters_250 : decode cX6_enters 250 = .ok (.iload 5, 2) := by decide +kernel
theorem dX6_enters_252 : decode cX6_enters 252 = .ok (.ifCond .eq 8, 3) := by decide +kernel
theorem dX6_enters_255 : decode cX6_enters 255 = .ok (.bipush 46, 2) := by decide +kernel
theorem dX6_enters_257 : decode cX6_enters 257 = .ok (.goto 5, 3) := by decide +kernel
theorem dX6_enters_260 : decode cX6_enters 260 = .ok (.bipush 43, 2) := by decide +kernel
theorem dX6_enters_262 : decode cX6_enters 262 = .ok (.invokevirtual 107, 3) := by decide +kernel
theorem dX6_enters_265 : decode cX6_enters 265 = .ok (.aload_n 0, 1) := by decide +kernel
theorem dX6_enters_266 : decode cX6_enters 266 = .ok (.getfield 100, 3) := by decide +kernel
theorem dX6_enters_269 : decode cX6_enters 269 = .ok (.ifCond .ne 112, 3) := by decide +kernel
theorem dX6_enters_272 : decode cX6_enters 272 = .ok (.aload_n 0, 1) := by decide +kernel
theorem dX6_enters_273 : decode cX6_enters 273 = .ok (.getfield 38, 3) := by decide +kernel
theorem dX6_enters_276 : decode cX6_enters 276 = .ok (.iload_n 1, 1) := by decide +kernel
theorem dX6_enters_277 : decode cX6_enters 277 = .ok (.dup2, 1) := by decide +kernel
theorem dX6_enters_278 : decode cX6_enters 278 = .ok (.iaload, 1) := by decide +kernel
theorem dX6_enters_279 : decode cX6_enters 279 = .ok (.iconst 1, 1) := by decide +kernel
theorem dX6_enters_280 : decode cX6_enters 280 = .ok (.iload_n 2, 1) := by decide +kernel
theorem dX6_enters_281 : decode cX6_enters 281 = .ok (.ishl, 1) := by decide +kernel
theorem dX6_enters_282 : decode cX6_enters 282 = .ok (.ior, 1) := by decide +kernel
theorem dX6_enters_283 : decode cX6_enters 283 = .ok (.iastore, 1) := by decide +kernel
theorem dX6_enters_284 : decode cX6_enters 284 = .ok (.aload_n 0, 1) := by decide +kernel
theorem dX6_enters_285 : decode cX6_enters 285 = .ok (.getfield 22, 3) := by decide +kernel
theorem dX6_enters_288 : decode cX6_enters 288 = .ok (.iload_n 2, 1) := by decide +kernel
theorem dX6_enters_289 : decode cX6_enters 289 = .ok (.dup2, 1) := by decide +kernel
theorem dX6_enters_290 : decode cX6_enters 290 = .ok (.iaload, 1) := by decide +kernel
theorem dX6_enters_291 : decode cX6_enters 291 = .ok (.iload 6, 2) := by decide +kernel
theorem dX6_enters_293 : decode cX6_enters 293 = .ok (.ifCond .eq 7, 3) := by decide +kernel
theorem dX6_enters_296 : decode cX6_enters 296 = .ok (.iconst 1, 1) := by decide +kernel
theorem dX6_enters_297 : decode cX6_enters 297 = .ok (.goto 4, 3) := by decide +kernel
theorem dX6_enters_300 : decode cX6_enters 300 = .ok (.iconst 0, 1) := by decide +kernel
theorem dX6_enters_301 : decode cX6_enters 301 = .ok (.iadd, 1) := by decide +kernel
theorem dX6_enters_302 : decode cX6_enters 302 = .ok (.iastore, 1) := by decide +kernel
theorem dX6_enters_303 : decode cX6_enters 303 = .ok (.aload_n 0, 1) := by decide +kernel
theorem dX6_enters_304 : decode cX6_enters 304 = .ok (.dup, 1) := by decide +kernel
theorem dX6_enters_305 : decode cX6_enters 305 = .ok (.getfield 111, 3) := by decide +kernel
theorem dX6_enters_308 : decode cX6_enters 308 = .ok (.iload 4, 2) := by decide +kernel
theorem dX6_enters_310 : decode cX6_enters 310 = .ok (.ifCond .eq 18, 3) := by decide +kernel
theorem dX6_enters_313 : decode cX6_enters 313 = .ok (.iload 6, 2) := by decide +kernel
theorem dX6_enters_315 : decode cX6_enters 315 = .ok (.ifCond .ne 13, 3) := by decide +kernel
theorem dX6_enters_318 : decode cX6_enters 318 = .ok (.aload_n 0, 1) := by decide +kernel
theorem dX6_enters_319 : decode cX6_enters 319 = .ok (.getfield 16, 3) := by decide +kernel
theorem dX6_enters_322 : decode cX6_enters 322 = .ok (.iload_n 2, 1) := by decide +kernel
theorem dX6_enters_323 : decode cX6_enters 323 = .ok (.iaload, 1) := by decide +kernel
theorem dX6_enters_324 : decode cX6_enters 324 = .ok (.i2l, 1) := by decide +kernel
theorem dX6_enters_325 : decode cX6_enters 325 = .ok (.goto 4, 3) := by decide +kernel
theorem dX6_enters_328 : decode cX6_enters 328 = .ok (.lconst 0, 1) := by decide +kernel
theorem dX6_enters_329 : decode cX6_enters 329 = .ok (.ladd, 1) := by decide +kernel
theorem dX6_enters_330 : decode cX6_enters 330 = .ok (.putfield 111, 3) := by decide +kernel
theorem dX6_enters_333 : decode cX6_enters 333 = .ok (.iload_n 2, 1) := by decide +kernel
theorem dX6_enters_334 : decode cX6_enters 334 = .ok (.ifCond .ne 16, 3) := by decide +kernel
theorem dX6_enters_337 : decode cX6_enters 337 = .ok (.aload_n 0, 1) := by decide +kernel
theorem dX6_enters_338 : decode cX6_enters 338 = .ok (.getfield 32, 3) := by decide +kernel
theorem dX6_enters_341 : decode cX6_enters 341 = .ok (.iload_n 1, 1) := by decide +kernel
theorem dX6_enters_342 : decode cX6_enters 342 = .ok (.iaload, 1) := by decide +kernel
theorem dX6_enters_343 : decode cX6_enters 343 = .ok (.ifCond .ne 7, 3) := by decide +kernel
theorem dX6_enters_346 : decode cX6_enters 346 = .ok (.iconst 1, 1) := by decide +kernel
theorem dX6_enters_347 : decode cX6_enters 347 = .ok (.goto 4, 3) := by decide +kernel
theorem dX6_enters_350 : decode cX6_enters 350 = .ok (.iconst 0, 1) := by decide +kernel
theorem dX6_enters_351 : decode cX6_enters 351 = .ok (.istore 7, 2) := by decide +kernel
theorem dX6_enters_353 : decode cX6_enters 353 = .ok (.aload_n 0, 1) := by decide +kernel
theorem dX6_enters_354 : decode cX6_enters 354 = .ok (.getfield 32, 3) := by decide +kernel
theorem dX6_enters_357 : decode cX6_enters 357 = .ok (.iload_n 1, 1) := by decide +kernel
theorem dX6_enters_358 : decode cX6_enters 358 = .ok (.iload 7, 2) := by decide +kernel
theorem dX6_enters_360 : decode cX6_enters 360 = .ok (.ifCond .eq 14, 3) := by decide +kernel
theorem dX6_enters_363 : decode cX6_enters 363 = .ok (.aload_n 0, 1) := by decide +kernel
theorem dX6_enters_364 : decode cX6_enters 364 = .ok (.getfield 41, 3) := by decide +kernel
theorem dX6_enters_367 : decode cX6_enters 367 = .ok (.sipush 232, 3) := by decide +kernel
theorem dX6_enters_370 : decode cX6_enters 370 = .ok (.iaload, 1) := by decide +kernel
theorem dX6_enters_371 : decode cX6_enters 371 = .ok (.goto 9, 3) := by decide +kernel
theorem dX6_enters_374 : decode cX6_enters 374 = .ok (.aload_n 0, 1) := by decide +kernel
theorem dX6_enters_375 : decode cX6_enters 375 = .ok (.getfield 32, 3) := by decide +kernel
theorem dX6_enters_378 : decode cX6_enters 378 = .ok (.iload_n 1, 1) := by decide +kernel
theorem dX6_enters_379 : decode cX6_enters 379 = .ok (.iaload, 1) := by decide +kernel
theorem dX6_enters_380 : decode cX6_enters 380 = .ok (.iastore, 1) := by decide +kernel
theorem dX6_enters_381 : decode cX6_enters 381 = .ok (.return_, 1) := by decide +kernel
theorem dX6_fillsUp_0 : decode cX6_fillsUp 0 = .ok (.iconst 0, 1) := by decide +kernel
theorem dX6_fillsUp_1 : decode cX6_fillsUp 1 = .ok (.istore_n 1, 1) := by decide +kernel
theorem dX6_fillsUp_2 : decode cX6_fillsUp 2 = .ok (.iload_n 1, 1) := by decide +kernel
theorem dX6_fillsUp_3 : decode cX6_fillsUp 3 = .ok (.aload_n 0, 1) := by decide +kernel
theorem dX6_fillsUp_4 : decode cX6_fillsUp 4 = .ok (.getfield 71, 3) := by decide +kernel
theorem dX6_fillsUp_7 : decode cX6_fillsUp 7 = .ok (.if_icmp .ge 85, 3) := by decide +kernel
theorem dX6_fillsUp_10 : decode cX6_fillsUp 10 = .ok (.aload_n 0, 1) := by decide +kernel
theorem dX6_fillsUp_11 : decode cX6_fillsUp 11 = .ok (.getfield 13, 3) := by decide +kernel
theorem dX6_fillsUp_14 : decode cX6_fillsUp 14 = .ok (.iload_n 1, 1) := by decide +kernel
theorem dX6_fillsUp_15 : decode cX6_fillsUp 15 = .ok (.iaload, 1) := by decide +kernel
theorem dX6_fillsUp_16 : decode cX6_fillsUp 16 = .ok (.istore_n 2, 1) := by decide +kernel
theorem dX6_fillsUp_17 : decode cX6_fillsUp 17 = .ok (.iload_n 2, 1) := by decide +kernel
theorem dX6_fillsUp_18 : decode cX6_fillsUp 18 = .ok (.iconst (-1), 1) := by decide +kernel
theorem dX6_fillsUp_19 : decode cX6_fillsUp 19 = .ok (.if_icmp .eq 67, 3) := by decide +kernel
theorem dX6_fillsUp_22 : decode cX6_fillsUp 22 = .ok (.aload_n 0, 1) := by decide +kernel
theorem dX6_fillsUp_23 : decode cX6_fillsUp 23 = .ok (.getfield 19, 3) := by decide +kernel
theorem dX6_fillsUp_26 : decode cX6_fillsUp 26 = .ok (.iload_n 1, 1) := by decide +kernel
theorem dX6_fillsUp_27 : decode cX6_fillsUp 27 = .ok (.iaload, 1) := by decide +kernel
theorem dX6_fillsUp_28 : decode cX6_fillsUp 28 = .ok (.aload_n 0, 1) := by decide +kernel
theorem dX6_fillsUp_29 : decode cX6_fillsUp 29 = .ok (.getfield 41, 3) := by decide +kernel
theorem dX6_fillsUp_32 : decode cX6_fillsUp 32 = .ok (.bipush 6, 2) := by decide +kernel
theorem dX6_fillsUp_34 : decode cX6_fillsUp 34 = .ok (.iload_n 1, 1) := by decide +kernel
theorem dX6_fillsUp_35 : decode cX6_fillsUp 35 = .ok (.iadd, 1) := by decide +kernel
theorem dX6_fillsUp_36 : decode cX6_fillsUp 36 = .ok (.iaload, 1) := by decide +kernel
theorem dX6_fillsUp_37 : decode cX6_fillsUp 37 = .ok (.isub, 1) := by decide +kernel
theorem dX6_fillsUp_38 : decode cX6_fillsUp 38 = .ok (.istore_n 3, 1) := by decide +kernel
theorem dX6_fillsUp_39 : decode cX6_fillsUp 39 = .ok (.iload_n 3, 1) := by decide +kernel
theorem dX6_fillsUp_40 : decode cX6_fillsUp 40 = .ok (.aload_n 0, 1) := by decide +kernel
theorem dX6_fillsUp_41 : decode cX6_fillsUp 41 = .ok (.getfield 41, 3) := by decide +kernel
theorem dX6_fillsUp_44 : decode cX6_fillsUp 44 = .ok (.iload_n 2, 1) := by decide +kernel
theorem dX6_fillsUp_45 : decode cX6_fillsUp 45 = .ok (.iaload, 1) := by decide +kernel
theorem dX6_fillsUp_46 : decode cX6_fillsUp 46 = .ok (.if_icmp .ge 7, 3) := by decide +kernel
theorem dX6_fillsUp_49 : decode cX6_fillsUp 49 = .ok (.iload_n 3, 1) := by decide +kernel
theorem dX6_fillsUp_50 : decode cX6_fillsUp 50 = .ok (.goto 9, 3) := by decide +kernel
theorem dX6_fillsUp_53 : decode cX6_fillsUp 53 = .ok (.aload_n 0, 1) := by decide +kernel
theorem dX6_fillsUp_54 : decode cX6_fillsUp 54 = .ok (.getfield 41, 3) := by decide +kernel
theorem dX6_fillsUp_57 : decode cX6_fillsUp 57 = .ok (.iload_n 2, 1) := by decide +kernel
theorem dX6_fillsUp_58 : decode cX6_fillsUp 58 = .ok (.iaload, 1) := by decide +kernel
theorem dX6_fillsUp_59 : decode cX6_fillsUp 59 = .ok (.istore 4, 2) := by decide +kernel
theorem dX6_fillsUp_61 : decode cX6_fillsUp 61 = .ok (.aload_n 0, 1) := by decide +kernel
theorem dX6_fillsUp_62 : decode cX6_fillsUp 62 = .ok (.getfield 41, 3) := by decide +kernel
theorem dX6_fillsUp_65 : decode cX6_fillsUp 65 = .ok (.bipush 6, 2) := by decide +kernel
theorem dX6_fillsUp_67 : decode cX6_fillsUp 67 = .ok (.iload_n 1, 1) := by decide +kernel
theorem dX6_fillsUp_68 : decode cX6_fillsUp 68 = .ok (.iadd, 1) := by decide +kernel
theorem dX6_fillsUp_69 : decode cX6_fillsUp 69 = .ok (.dup2, 1) := by decide +kernel
theorem dX6_fillsUp_70 : decode cX6_fillsUp 70 = .ok (.iaload, 1) := by decide +kernel
theorem dX6_fillsUp_71 : decode cX6_fillsUp 71 = .ok (.iload 4, 2) := by decide +kernel
theorem dX6_fillsUp_73 : decode cX6_fillsUp 73 = .ok (.iadd, 1) := by decide +kernel
theorem dX6_fillsUp_74 : decode cX6_fillsUp 74 = .ok (.iastore, 1) := by decide +kernel
theorem dX6_fillsUp_75 : decode cX6_fillsUp 75 = .ok (.aload_n 0, 1) := by decide +kernel
theorem dX6_fillsUp_76 : decode cX6_fillsUp 76 = .ok (.getfield 41, 3) := by decide +kernel
theorem dX6_fillsUp_79 : decode cX6_fillsUp 79 = .ok (.iload_n 2, 1) := by decide +kernel
theorem dX6_fillsUp_80 : decode cX6_fillsUp 80 = .ok (.dup2, 1) := by decide +kernel
theorem dX6_fillsUp_81 : decode cX6_fillsUp 81 = .ok (.iaload, 1) := by decide +kernel
theorem dX6_fillsUp_82 : decode cX6_fillsUp 82 = .ok (.iload 4, 2) := by decide +kernel
theorem dX6_fillsUp_84 : decode cX6_fillsUp 84 = .ok (.isub, 1) := by decide +kernel
theorem dX6_fillsUp_85 : decode cX6_fillsUp 85 = .ok (.iastore, 1) := by decide +kernel
theorem dX6_fillsUp_86 : decode cX6_fillsUp 86 = .ok (.iinc 1 1, 3) := by decide +kernel
theorem dX6_fillsUp_89 : decode cX6_fillsUp 89 = .ok (.goto (-87), 3) := by decide +kernel
theorem dX6_fillsUp_92 : decode cX6_fillsUp 92 = .ok (.return_, 1) := by decide +kernel
theorem dX6_leavesLine_0 : decode cX6_leavesLine 0 = .ok (.aload_n 0, 1) := by decide +kernel
theorem dX6_leavesLine_1 : decode cX6_leavesLine 1 = .ok (.getfield 41, 3) := by decide +kernel
theorem dX6_leavesLine_4 : decode cX6_leavesLine 4 = .ok (.bipush 112, 2) := by decide +kernel
theorem dX6_leavesLine_6 : decode cX6_leavesLine 6 = .ok (.iload_n 1, 1) := by decide +kernel
theorem dX6_leavesLine_7 : decode cX6_leavesLine 7 = .ok (.iadd, 1) := by decide +kernel
theorem dX6_leavesLine_8 : decode cX6_leavesLine 8 = .ok (.iaload, 1) := by decide +kernel
theorem dX6_leavesLine_9 : decode cX6_leavesLine 9 = .ok (.ifCond .eq 52, 3) := by decide +kernel
theorem dX6_leavesLine_12 : decode cX6_leavesLine 12 = .ok (.aload_n 0, 1) := by decide +kernel
theorem dX6_leavesLine_13 : decode cX6_leavesLine 13 = .ok (.getfield 41, 3) := by decide +kernel
theorem dX6_leavesLine_16 : decode cX6_leavesLine 16 = .ok (.bipush 82, 2) := by decide +kernel
theorem dX6_leavesLine_18 : decode cX6_leavesLine 18 = .ok (.iload_n 1, 1) := by decide +kernel
theorem dX6_leavesLine_19 : decode cX6_leavesLine 19 = .ok (.iadd, 1) := by decide +kernel
theorem dX6_leavesLine_20 : decode cX6_leavesLine 20 = .ok (.bipush 108, 2) := by decide +kernel
theorem dX6_leavesLine_22 : decode cX6_leavesLine 22 = .ok (.iastore, 1) := by decide +kernel
theorem dX6_leavesLine_23 : decode cX6_leavesLine 23 = .ok (.aload_n 0, 1) := by decide +kernel
theorem dX6_leavesLine_24 : decode cX6_leavesLine 24 = .ok (.getfield 41, 3) := by decide +kernel
theorem dX6_leavesLine_27 : decode cX6_leavesLine 27 = .ok (.sipush 172, 3) := by decide +kernel
theorem dX6_leavesLine_30 : decode cX6_leavesLine 30 = .ok (.aload_n 0, 1) := by decide +kernel
theorem dX6_leavesLine_31 : decode cX6_leavesLine 31 = .ok (.getfield 41, 3) := by decide +kernel
theorem dX6_leavesLine_34 : decode cX6_leavesLine 34 = .ok (.sipush 234, 3) := by decide +kernel
theorem dX6_leavesLine_37 : decode cX6_leavesLine 37 = .ok (.iaload, 1) := by decide +kernel
theorem dX6_leavesLine_38 : decode cX6_leavesLine 38 = .ok (.iadd, 1) := by decide +kernel
theorem dX6_leavesLine_39 : decode cX6_leavesLine 39 = .ok (.iload_n 1, 1) := by decide +kernel
theorem dX6_leavesLine_40 : decode cX6_leavesLine 40 = .ok (.iastore, 1) := by decide +kernel
theorem dX6_leavesLine_41 : decode cX6_leavesLine 41 = .ok (.aload_n 0, 1) := by decide +kernel
theorem dX6_leavesLine_42 : decode cX6_leavesLine 42 = .ok (.getfield 41, 3) := by decide +kernel
theorem dX6_leavesLine_45 : decode cX6_leavesLine 45 = .ok (.sipush 234, 3) := by decide +kernel
theorem dX6_leavesLine_48 : decode cX6_leavesLine 48 = .ok (.dup2, 1) := by decide +kernel
theorem dX6_leavesLine_49 : decode cX6_leavesLine 49 = .ok (.iaload, 1) := by decide +kernel
theorem dX6_leavesLine_50 : decode cX6_leavesLine 50 = .ok (.iconst 1, 1) := by decide +kernel
theorem dX6_leavesLine_51 : decode cX6_leavesLine 51 = .ok (.iadd, 1) := by decide +kernel
theorem dX6_leavesLine_52 : decode cX6_leavesLine 52 = .ok (.iastore, 1) := by decide +kernel
theorem dX6_leavesLine_53 : decode cX6_leavesLine 53 = .ok (.aload_n 0, 1) := by decide +kernel
theorem dX6_leavesLine_54 : decode cX6_leavesLine 54 = .ok (.iload_n 1, 1) := by decide +kernel
theorem dX6_leavesLine_55 : decode cX6_leavesLine 55 = .ok (.bipush 76, 2) := by decide +kernel
theorem dX6_leavesLine_57 : decode cX6_leavesLine 57 = .ok (.invokevirtual 107, 3) := by decide +kernel
theorem dX6_leavesLine_60 : decode cX6_leavesLine 60 = .ok (.return_, 1) := by decide +kernel
theorem dX6_leavesLine_61 : decode cX6_leavesLine 61 = .ok (.aload_n 0, 1) := by decide +kernel
theorem dX6_leavesLine_62 : decode cX6_leavesLine 62 = .ok (.getfield 41, 3) := by decide +kernel
theorem dX6_leavesLine_65 : decode cX6_leavesLine 65 = .ok (.bipush 82, 2) := by decide +kernel
theorem dX6_leavesLine_67 : decode cX6_leavesLine 67 = .ok (.iload_n 1, 1) := by decide +kernel
theorem dX6_leavesLine_68 : decode cX6_leavesLine 68 = .ok (.iadd, 1) := by decide +kernel
theorem dX6_leavesLine_69 : decode cX6_leavesLine 69 = .ok (.bipush 100, 2) := by decide +kernel
theorem dX6_leavesLine_71 : decode cX6_leavesLine 71 = .ok (.iastore, 1) := by decide +kernel
theorem dX6_leavesLine_72 : decode cX6_leavesLine 72 = .ok (.aload_n 0, 1) := by decide +kernel
theorem dX6_leavesLine_73 : decode cX6_leavesLine 73 = .ok (.getfield 41, 3) := by decide +kernel
theorem dX6_leavesLine_76 : decode cX6_leavesLine 76 = .ok (.sipush 202, 3) := by decide +kernel
theorem dX6_leavesLine_79 : decode cX6_leavesLine 79 = .ok (.aload_n 0, 1) := by decide +kernel
theorem dX6_leavesLine_80 : decode cX6_leavesLine 80 = .ok (.getfield 41, 3) := by decide +kernel
theorem dX6_leavesLine_83 : decode cX6_leavesLine 83 = .ok (.sipush 235, 3) := by decide +kernel
theorem dX6_leavesLine_86 : decode cX6_leavesLine 86 = .ok (.iaload, 1) := by decide +kernel
theorem dX6_leavesLine_87 : decode cX6_leavesLine 87 = .ok (.iadd, 1) := by decide +kernel
theorem dX6_leavesLine_88 : decode cX6_leavesLine 88 = .ok (.iload_n 1, 1) := by decide +kernel
theorem dX6_leavesLine_89 : decode cX6_leavesLine 89 = .ok (.iastore, 1) := by decide +kernel
theorem dX6_leavesLine_90 : decode cX6_leavesLine 90 = .ok (.aload_n 0, 1) := by decide +kernel
theorem dX6_leavesLine_91 : decode cX6_leavesLine 91 = .ok (.getfield 41, 3) := by decide +kernel
theorem dX6_leavesLine_94 : decode cX6_leavesLine 94 = .ok (.sipush 235, 3) := by decide +kernel
theorem dX6_leavesLine_97 : decode cX6_leavesLine 97 = .ok (.dup2, 1) := by decide +kernel
theorem dX6_leavesLine_98 : decode cX6_leavesLine 98 = .ok (.iaload, 1) := by decide +kernel
theorem dX6_leavesLine_99 : decode cX6_leavesLine 99 = .ok (.iconst 1, 1) := by decide +kernel
theorem dX6_leavesLine_100 : decode cX6_leavesLine 100 = .ok (.iadd, 1) := by decide +kernel
theorem dX6_leavesLine_101 : decode cX6_leavesLine 101 = .ok (.iastore, 1) := by decide +kernel
theorem dX6_leavesLine_102 : decode cX6_leavesLine 102 = .ok (.aload_n 0, 1) := by decide +kernel
theorem dX6_leavesLine_103 : decode cX6_leavesLine 103 = .ok (.iload_n 1, 1) := by decide +kernel
theorem dX6_leavesLine_104 : decode cX6_leavesLine 104 = .ok (.bipush 120, 2) := by decide +kernel
theorem dX6_leavesLine_106 : decode cX6_leavesLine 106 = .ok (.invokevirtual 107, 3) := by decide +kernel
theorem dX6_leavesLine_109 : decode cX6_leavesLine 109 = .ok (.aload_n 0, 1) := by decide +kernel
theorem dX6_leavesLine_110 : decode cX6_leavesLine 110 = .ok (.getfield 100, 3) := by decide +kernel
theorem dX6_leavesLine_113 : decode cX6_leavesLine 113 = .ok (.ifCond .ne 17, 3) := by decide +kernel
theorem dX6_leavesLine_116 : decode cX6_leavesLine 116 = .ok (.aload_n 0, 1) := by decide +kernel
theorem dX6_leavesLine_117 : decode cX6_leavesLine 117 = .ok (.getfield 35, 3) := by decide +kernel
theorem dX6_leavesLine_120 : decode cX6_leavesLine 120 = .ok (.iload_n 1, 1) := by decide +kernel
theorem dX6_leavesLine_121 : decode cX6_leavesLine 121 = .ok (.aload_n 0, 1) := by decide +kernel
theorem dX6_leavesLine_122 : decode cX6_leavesLine 122 = .ok (.getfield 41, 3) := by decide +kernel
theorem dX6_leavesLine_125 : decode cX6_leavesLine 125 = .ok (.sipush 232, 3) := by decide +kernel
theorem dX6_leavesLine_128 : decode cX6_leavesLine 128 = .ok (.iaload, 1) := by decide +kernel
theorem dX6_leavesLine_129 : decode cX6_leavesLine 129 = .ok (.iastore, 1) := by decide +kernel
theorem dX6_leavesLine_130 : decode cX6_leavesLine 130 = .ok (.return_, 1) := by decide +kernel
theorem dX6_goesOn_0 : decode cX6_goesOn 0 = .ok (.aload_n 0, 1) := by decide +kernel
theorem dX6_goesOn_1 : decode cX6_goesOn 1 = .ok (.getfield 41, 3) := by decide +kernel
theorem dX6_goesOn_4 : decode cX6_goesOn 4 = .ok (.bipush 14, 2) := by decide +kernel
theorem dX6_goesOn_6 : decode cX6_goesOn 6 = .ok (.iload_n 1, 1) := by decide +kernel
theorem dX6_goesOn_7 : decode cX6_goesOn 7 = .ok (.iadd, 1) := by decide +kernel
theorem dX6_goesOn_8 : decode cX6_goesOn 8 = .ok (.iaload, 1) := by decide +kernel
theorem dX6_goesOn_9 : decode cX6_goesOn 9 = .ok (.istore_n 2, 1) := by decide +kernel
theorem dX6_goesOn_10 : decode cX6_goesOn 10 = .ok (.iload_n 2, 1) := by decide +kernel
theorem dX6_goesOn_11 : decode cX6_goesOn 11 = .ok (.iconst (-1), 1) := by decide +kernel
theorem dX6_goesOn_12 : decode cX6_goesOn 12 = .ok (.if_icmp .eq 15, 3) := by decide +kernel
theorem dX6_goesOn_15 : decode cX6_goesOn 15 = .ok (.aload_n 0, 1) := by decide +kernel
theorem dX6_goesOn_16 : decode cX6_goesOn 16 = .ok (.getfield 41, 3) := by decide +kernel
theorem dX6_goesOn_19 : decode cX6_goesOn 19 = .ok (.bipush 22, 2) := by decide +kernel
theorem dX6_goesOn_21 : decode cX6_goesOn 21 = .ok (.iload_n 2, 1) := by decide +kernel
theorem dX6_goesOn_22 : decode cX6_goesOn 22 = .ok (.iadd, 1) := by decide +kernel
theorem dX6_goesOn_23 : decode cX6_goesOn 23 = .ok (.iaload, 1) := by decide +kernel
theorem dX6_goesOn_24 : decode cX6_goesOn 24 = .ok (.ifCond .le 4, 3) := by decide +kernel
theorem dX6_goesOn_27 : decode cX6_goesOn 27 = .ok (.return_, 1) := by decide +kernel
theorem dX6_goesOn_28 : decode cX6_goesOn 28 = .ok (.aload_n 0, 1) := by decide +kernel
theorem dX6_goesOn_29 : decode cX6_goesOn 29 = .ok (.getfield 41, 3) := by decide +kernel
theorem dX6_goesOn_32 : decode cX6_goesOn 32 = .ok (.bipush 52, 2) := by decide +kernel
theorem dX6_goesOn_34 : decode cX6_goesOn 34 = .ok (.iload_n 2, 1) := by decide +kernel
theorem dX6_goesOn_35 : decode cX6_goesOn 35 = .ok (.iadd, 1) := by decide +kernel
theorem dX6_goesOn_36 : decode cX6_goesOn 36 = .ok (.iaload, 1) := by decide +kernel
theorem dX6_goesOn_37 : decode cX6_goesOn 37 = .ok (.iconst 1, 1) := by decide +kernel
theorem dX6_goesOn_38 : decode cX6_goesOn 38 = .ok (.if_icmp .eq 13, 3) := by decide +kernel
theorem dX6_goesOn_41 : decode cX6_goesOn 41 = .ok (.iload_n 1, 1) := by decide +kernel
theorem dX6_goesOn_42 : decode cX6_goesOn 42 = .ok (.aload_n 0, 1) := by decide +kernel
theorem dX6_goesOn_43 : decode cX6_goesOn 43 = .ok (.getfield 71, 3) := by decide +kernel
theorem dX6_goesOn_46 : decode cX6_goesOn 46 = .ok (.iconst 1, 1) := by decide +kernel
theorem dX6_goesOn_47 : decode cX6_goesOn 47 = .ok (.isub, 1) := by decide +kernel
theorem dX6_goesOn_48 : decode cX6_goesOn 48 = .ok (.if_icmp .ne 21, 3) := by decide +kernel
theorem dX6_goesOn_51 : decode cX6_goesOn 51 = .ok (.aload_n 0, 1) := by decide +kernel
theorem dX6_goesOn_52 : decode cX6_goesOn 52 = .ok (.getfield 41, 3) := by decide +kernel
theorem dX6_goesOn_55 : decode cX6_goesOn 55 = .ok (.bipush 14, 2) := by decide +kernel
theorem dX6_goesOn_57 : decode cX6_goesOn 57 = .ok (.iload_n 1, 1) := by decide +kernel
theorem dX6_goesOn_58 : decode cX6_goesOn 58 = .ok (.iadd, 1) := by decide +kernel
theorem dX6_goesOn_59 : decode cX6_goesOn 59 = .ok (.iconst (-1), 1) := by decide +kernel
theorem dX6_goesOn_60 : decode cX6_goesOn 60 = .ok (.iastore, 1) := by decide +kernel
theorem dX6_goesOn_61 : decode cX6_goesOn 61 = .ok (.aload_n 0, 1) := by decide +kernel
theorem dX6_goesOn_62 : decode cX6_goesOn 62 = .ok (.iload_n 2, 1) := by decide +kernel
theorem dX6_goesOn_63 : decode cX6_goesOn 63 = .ok (.invokevirtual 115, 3) := by decide +kernel
theorem dX6_goesOn_66 : decode cX6_goesOn 66 = .ok (.goto 37, 3) := by decide +kernel
theorem dX6_goesOn_69 : decode cX6_goesOn 69 = .ok (.aload_n 0, 1) := by decide +kernel
theorem dX6_goesOn_70 : decode cX6_goesOn 70 = .ok (.getfield 41, 3) := by decide +kernel
theorem dX6_goesOn_73 : decode cX6_goesOn 73 = .ok (.bipush 14, 2) := by decide +kernel
theorem dX6_goesOn_75 : decode cX6_goesOn 75 = .ok (.iload_n 1, 1) := by decide +kernel
theorem dX6_goesOn_76 : decode cX6_goesOn 76 = .ok (.iadd, 1) := by decide +kernel
theorem dX6_goesOn_77 : decode cX6_goesOn 77 = .ok (.iconst 1, 1) := by decide +kernel
theorem dX6_goesOn_78 : decode cX6_goesOn 78 = .ok (.iadd, 1) := by decide +kernel
theorem dX6_goesOn_79 : decode cX6_goesOn 79 = .ok (.iaload, 1) := by decide +kernel
theorem dX6_goesOn_80 : decode cX6_goesOn 80 = .ok (.iconst (-1), 1) := by decide +kernel
theorem dX6_goesOn_81 : decode cX6_goesOn 81 = .ok (.if_icmp .ne 22, 3) := by decide +kernel
theorem dX6_goesOn_84 : decode cX6_goesOn 84 = .ok (.aload_n 0, 1) := by decide +kernel
theorem dX6_goesOn_85 : decode cX6_goesOn 85 = .ok (.getfield 41, 3) := by decide +kernel
theorem dX6_goesOn_88 : decode cX6_goesOn 88 = .ok (.bipush 14, 2) := by decide +kernel
theorem dX6_goesOn_90 : decode cX6_goesOn 90 = .ok (.iload_n 1, 1) := by decide +kernel
theorem dX6_goesOn_91 : decode cX6_goesOn 91 = .ok (.iadd, 1) := by decide +kernel
theorem dX6_goesOn_92 : decode cX6_goesOn 92 = .ok (.iconst (-1), 1) := by decide +kernel
theorem dX6_goesOn_93 : decode cX6_goesOn 93 = .ok (.iastore, 1) := by decide +kernel
theorem dX6_goesOn_94 : decode cX6_goesOn 94 = .ok (.aload_n 0, 1) := by decide +kernel
theorem dX6_goesOn_95 : decode cX6_goesOn 95 = .ok (.iload_n 2, 1) := by decide +kernel
theorem dX6_goesOn_96 : decode cX6_goesOn 96 = .ok (.iload_n 1, 1) := by decide +kernel
theorem dX6_goesOn_97 : decode cX6_goesOn 97 = .ok (.iconst 1, 1) := by decide +kernel
theorem dX6_goesOn_98 : decode cX6_goesOn 98 = .ok (.iadd, 1) := by decide +kernel
theorem dX6_goesOn_99 : decode cX6_goesOn 99 = .ok (.iconst 0, 1) := by decide +kernel
theorem dX6_goesOn_100 : decode cX6_goesOn 100 = .ok (.invokevirtual 119, 3) := by decide +kernel
theorem dX6_goesOn_103 : decode cX6_goesOn 103 = .ok (.return_, 1) := by decide +kernel
theorem dX6_lowest_0 : decode cX6_lowest 0 = .ok (.iconst 0, 1) := by decide +kernel
theorem dX6_lowest_1 : decode cX6_lowest 1 = .ok (.istore_n 1, 1) := by decide +kernel
theorem dX6_lowest_2 : decode cX6_lowest 2 = .ok (.iload_n 0, 1) := by decide +kernel
theorem dX6_lowest_3 : decode cX6_lowest 3 = .ok (.iload_n 1, 1) := by decide +kernel
theorem dX6_lowest_4 : decode cX6_lowest 4 = .ok (.ishr, 1) := by decide +kernel
theorem dX6_lowest_5 : decode cX6_lowest 5 = .ok (.iconst 1, 1) := by decide +kernel
theorem dX6_lowest_6 : decode cX6_lowest 6 = .ok (.iand, 1) := by decide +kernel
theorem dX6_lowest_7 : decode cX6_lowest 7 = .ok (.ifCond .ne 9, 3) := by decide +kernel
theorem dX6_lowest_10 : decode cX6_lowest 10 = .ok (.iinc 1 1, 3) := by decide +kernel
theorem dX6_lowest_13 : decode cX6_lowest 13 = .ok (.goto (-11), 3) := by decide +kernel
theorem dX6_lowest_16 : decode cX6_lowest 16 = .ok (.iload_n 1, 1) := by decide +kernel
theorem dX6_lowest_17 : decode cX6_lowest 17 = .ok (.ireturn, 1) := by decide +kernel
theorem dX6_comesBack_0 : decode cX6_comesBack 0 = .ok (.iconst 0, 1) := by decide +kernel
theorem dX6_comesBack_1 : decode cX6_comesBack 1 = .ok (.istore_n 1, 1) := by decide +kernel
theorem dX6_comesBack_2 : decode cX6_comesBack 2 = .ok (.aload_n 0, 1) := by decide +kernel
theorem dX6_comesBack_3 : decode cX6_comesBack 3 = .ok (.getfield 41, 3) := by decide +kernel
theorem dX6_comesBack_6 : decode cX6_comesBack 6 = .ok (.sipush 234, 3) := by decide +kernel
theorem dX6_comesBack_9 : decode cX6_comesBack 9 = .ok (.iaload, 1) := by decide +kernel
theorem dX6_comesBack_10 : decode cX6_comesBack 10 = .ok (.istore_n 2, 1) := by decide +kernel
theorem dX6_comesBack_11 : decode cX6_comesBack 11 = .ok (.iconst 0, 1) := by decide +kernel
theorem dX6_comesBack_12 : decode cX6_comesBack 12 = .ok (.istore_n 3, 1) := by decide +kernel
theorem dX6_comesBack_13 : decode cX6_comesBack 13 = .ok (.iload_n 3, 1) := by decide +kernel
theorem dX6_comesBack_14 : decode cX6_comesBack 14 = .ok (.iload_n 2, 1) := by decide +kernel
theorem dX6_comesBack_15 : decode cX6_comesBack 15 = .ok (.if_icmp .ge 77, 3) := by decide +kernel
theorem dX6_comesBack_18 : decode cX6_comesBack 18 = .ok (.aload_n 0, 1) := by decide +kernel
theorem dX6_comesBack_19 : decode cX6_comesBack 19 = .ok (.getfield 41, 3) := by decide +kernel
theorem dX6_comesBack_22 : decode cX6_comesBack 22 = .ok (.sipush 172, 3) := by decide +kernel
theorem dX6_comesBack_25 : decode cX6_comesBack 25 = .ok (.iload_n 3, 1) := by decide +kernel
theorem dX6_comesBack_26 : decode cX6_comesBack 26 = .ok (.iadd, 1) := by decide +kernel
theorem dX6_comesBack_27 : decode cX6_comesBack 27 = .ok (.iaload, 1) := by decide +kernel
theorem dX6_comesBack_28 : decode cX6_comesBack 28 = .ok (.istore 4, 2) := by decide +kernel
theorem dX6_comesBack_30 : decode cX6_comesBack 30 = .ok (.aload_n 0, 1) := by decide +kernel
theorem dX6_comesBack_31 : decode cX6_comesBack 31 = .ok (.getfield 41, 3) := by decide +kernel
theorem dX6_comesBack_34 : decode cX6_comesBack 34 = .ok (.bipush 112, 2) := by decide +kernel
theorem dX6_comesBack_36 : decode cX6_comesBack 36 = .ok (.iload 4, 2) := by decide +kernel
theorem dX6_comesBack_38 : decode cX6_comesBack 38 = .ok (.iadd, 1) := by decide +kernel
theorem dX6_comesBack_39 : decode cX6_comesBack 39 = .ok (.iaload, 1) := by decide +kernel
theorem dX6_comesBack_40 : decode cX6_comesBack 40 = .ok (.invokestatic 123, 3) := by decide +kernel
theorem dX6_comesBack_43 : decode cX6_comesBack 43 = .ok (.istore 5, 2) := by decide +kernel
theorem dX6_comesBack_45 : decode cX6_comesBack 45 = .ok (.aload_n 0, 1) := by decide +kernel
theorem dX6_comesBack_46 : decode cX6_comesBack 46 = .ok (.getfield 41, 3) := by decide +kernel
theorem dX6_comesBack_49 : decode cX6_comesBack 49 = .ok (.bipush 14, 2) := by decide +kernel
theorem dX6_comesBack_51 : decode cX6_comesBack 51 = .ok (.iload 5, 2) := by decide +kernel
theorem dX6_comesBack_53 : decode cX6_comesBack 53 = .ok (.iadd, 1) := by decide +kernel
theorem dX6_comesBack_54 : decode cX6_comesBack 54 = .ok (.iaload, 1) := by decide +kernel
theorem dX6_comesBack_55 : decode cX6_comesBack 55 = .ok (.iconst (-1), 1) := by decide +kernel
theorem dX6_comesBack_56 : decode cX6_comesBack 56 = .ok (.if_icmp .ne 15, 3) := by decide +kernel
theorem dX6_comesBack_59 : decode cX6_comesBack 59 = .ok (.aload_n 0, 1) := by decide +kernel
theorem dX6_comesBack_60 : decode cX6_comesBack 60 = .ok (.iload 4, 2) := by decide +kernel
theorem dX6_comesBack_62 : decode cX6_comesBack 62 = .ok (.iload 5, 2) := by decide +kernel
theorem dX6_comesBack_64 : decode cX6_comesBack 64 = .ok (.iconst 1, 1) := by decide +kernel
theorem dX6_comesBack_65 : decode cX6_comesBack 65 = .ok (.invokevirtual 119, 3) := by decide +kernel
theorem dX6_comesBack_68 : decode cX6_comesBack 68 = .ok (.goto 18, 3) := by decide +kernel
theorem dX6_comesBack_71 : decode cX6_comesBack 71 = .ok (.aload_n 0, 1) := by decide +kernel
theorem dX6_comesBack_72 : decode cX6_comesBack 72 = .ok (.getfield 41, 3) := by decide +kernel
theorem dX6_comesBack_75 : decode cX6_comesBack 75 = .ok (.sipush 172, 3) := by decide +kernel
theorem dX6_comesBack_78 : decode cX6_comesBack 78 = .ok (.iload_n 1, 1) := by decide +kernel
theorem dX6_comesBack_79 : decode cX6_comesBack 79 = .ok (.iadd, 1) := by decide +kernel
theorem dX6_comesBack_80 : decode cX6_comesBack 80 = .ok (.iload 4, 2) := by decide +kernel
theorem dX6_comesBack_82 : decode cX6_comesBack 82 = .ok (.iastore, 1) := by decide +kernel
theorem dX6_comesBack_83 : decode cX6_comesBack 83 = .ok (.iinc 1 1, 3) := by decide +kernel
theorem dX6_comesBack_86 : decode cX6_comesBack 86 = .ok (.iinc 3 1, 3) := by decide +kernel
theorem dX6_comesBack_89 : decode cX6_comesBack 89 = .ok (.goto (-76), 3) := by decide +kernel
theorem dX6_comesBack_92 : decode cX6_comesBack 92 = .ok (.aload_n 0, 1) := by decide +kernel
theorem dX6_comesBack_93 : decode cX6_comesBack 93 = .ok (.getfield 41, 3) := by decide +kernel
theorem dX6_comesBack_96 : decode cX6_comesBack 96 = .ok (.sipush 234, 3) := by decide +kernel
theorem dX6_comesBack_99 : decode cX6_comesBack 99 = .ok (.iload_n 1, 1) := by decide +kernel
theorem dX6_comesBack_100 : decode cX6_comesBack 100 = .ok (.iastore, 1) := by decide +kernel
theorem dX6_comesBack_101 : decode cX6_comesBack 101 = .ok (.return_, 1) := by decide +kernel
theorem dX6_ticks_0 : decode cX6_ticks 0 = .ok (.aload_n 0, 1) := by decide +kernel
theorem dX6_ticks_1 : decode cX6_ticks 1 = .ok (.getfield 41, 3) := by decide +kernel
theorem dX6_ticks_4 : decode cX6_ticks 4 = .ok (.sipush 232, 3) := by decide +kernel
theorem dX6_ticks_7 : decode cX6_ticks 7 = .ok (.dup2, 1) := by decide +kernel
theorem dX6_ticks_8 : decode cX6_ticks 8 = .ok (.iaload, 1) := by decide +kernel
theorem dX6_ticks_9 : decode cX6_ticks 9 = .ok (.iconst 1, 1) := by decide +kernel
theorem dX6_ticks_10 : decode cX6_ticks 10 = .ok (.iadd, 1) := by decide +kernel
theorem dX6_ticks_11 : decode cX6_ticks 11 = .ok (.iastore, 1) := by decide +kernel
theorem dX6_ticks_12 : decode cX6_ticks 12 = .ok (.aload_n 0, 1) := by decide +kernel
theorem dX6_ticks_13 : decode cX6_ticks 13 = .ok (.getfield 41, 3) := by decide +kernel
theorem dX6_ticks_16 : decode cX6_ticks 16 = .ok (.sipush 232, 3) := by decide +kernel
theorem dX6_ticks_19 : decode cX6_ticks 19 = .ok (.iaload, 1) := by decide +kernel
theorem dX6_ticks_20 : decode cX6_ticks 20 = .ok (.aload_n 0, 1) := by decide +kernel
theorem dX6_ticks_21 : decode cX6_ticks 21 = .ok (.getfield 25, 3) := by decide +kernel
theorem dX6_ticks_24 : decode cX6_ticks 24 = .ok (.irem, 1) := by decide +kernel
theorem dX6_ticks_25 : decode cX6_ticks 25 = .ok (.ifCond .ne 7, 3) := by decide +kernel
theorem dX6_ticks_28 : decode cX6_ticks 28 = .ok (.aload_n 0, 1) := by decide +kernel
theorem dX6_ticks_29 : decode cX6_ticks 29 = .ok (.invokevirtual 126, 3) := by decide +kernel
theorem dX6_ticks_32 : decode cX6_ticks 32 = .ok (.iconst 0, 1) := by decide +kernel
theorem dX6_ticks_33 : decode cX6_ticks 33 = .ok (.istore_n 1, 1) := by decide +kernel
theorem dX6_ticks_34 : decode cX6_ticks 34 = .ok (.iload_n 1, 1) := by decide +kernel
theorem dX6_ticks_35 : decode cX6_ticks 35 = .ok (.aload_n 0, 1) := by decide +kernel
theorem dX6_ticks_36 : decode cX6_ticks 36 = .ok (.getfield 71, 3) := by decide +kernel
theorem dX6_ticks_39 : decode cX6_ticks 39 = .ok (.if_icmp .ge 49, 3) := by decide +kernel
theorem dX6_ticks_42 : decode cX6_ticks 42 = .ok (.aload_n 0, 1) := by decide +kernel
theorem dX6_ticks_43 : decode cX6_ticks 43 = .ok (.getfield 41, 3) := by decide +kernel
theorem dX6_ticks_46 : decode cX6_ticks 46 = .ok (.bipush 14, 2) := by decide +kernel
theorem dX6_ticks_48 : decode cX6_ticks 48 = .ok (.iload_n 1, 1) := by decide +kernel
theorem dX6_ticks_49 : decode cX6_ticks 49 = .ok (.iadd, 1) := by decide +kernel
theorem dX6_ticks_50 : decode cX6_ticks 50 = .ok (.iaload, 1) := by decide +kernel
theorem dX6_ticks_51 : decode cX6_ticks 51 = .ok (.istore_n 2, 1) := by decide +kernel
theorem dX6_ticks_52 : decode cX6_ticks 52 = .ok (.iload_n 2, 1) := by decide +kernel
theorem dX6_ticks_53 : decode cX6_ticks 53 = .ok (.iconst (-1), 1) := by decide +kernel
theorem dX6_ticks_54 : decode cX6_ticks 54 = .ok (.if_icmp .eq 28, 3) := by decide +kernel
theorem dX6_ticks_57 : decode cX6_ticks 57 = .ok (.aload_n 0, 1) := by decide +kernel
theorem dX6_ticks_58 : decode cX6_ticks 58 = .ok (.getfield 41, 3) := by decide +kernel
theorem dX6_ticks_61 : decode cX6_ticks 61 = .ok (.bipush 22, 2) := by decide +kernel
theorem dX6_ticks_63 : decode cX6_ticks 63 = .ok (.iload_n 2, 1) := by decide +kernel
theorem dX6_ticks_64 : decode cX6_ticks 64 = .ok (.iadd, 1) := by decide +kernel
theorem dX6_ticks_65 : decode cX6_ticks 65 = .ok (.iaload, 1) := by decide +kernel
theorem dX6_ticks_66 : decode cX6_ticks 66 = .ok (.ifCond .le 16, 3) := by decide +kernel
theorem dX6_ticks_69 : decode cX6_ticks 69 = .ok (.aload_n 0, 1) := by decide +kernel
theorem dX6_ticks_70 : decode cX6_ticks 70 = .ok (.getfield 41, 3) := by decide +kernel
theorem dX6_ticks_73 : decode cX6_ticks 73 = .ok (.bipush 22, 2) := by decide +kernel
theorem dX6_ticks_75 : decode cX6_ticks 75 = .ok (.iload_n 2, 1) := by decide +kernel
theorem dX6_ticks_76 : decode cX6_ticks 76 = .ok (.iadd, 1) := by decide +kernel
theorem dX6_ticks_77 : decode cX6_ticks 77 = .ok (.dup2, 1) := by decide +kernel
theorem dX6_ticks_78 : decode cX6_ticks 78 = .ok (.iaload, 1) := by decide +kernel
theorem dX6_ticks_79 : decode cX6_ticks 79 = .ok (.iconst 1, 1) := by decide +kernel
theorem dX6_ticks_80 : decode cX6_ticks 80 = .ok (.isub, 1) := by decide +kernel
theorem dX6_ticks_81 : decode cX6_ticks 81 = .ok (.iastore, 1) := by decide +kernel
theorem dX6_ticks_82 : decode cX6_ticks 82 = .ok (.iinc 1 1, 3) := by decide +kernel
theorem dX6_ticks_85 : decode cX6_ticks 85 = .ok (.goto (-51), 3) := by decide +kernel
theorem dX6_ticks_88 : decode cX6_ticks 88 = .ok (.aload_n 0, 1) := by decide +kernel
theorem dX6_ticks_89 : decode cX6_ticks 89 = .ok (.getfield 71, 3) := by decide +kernel
theorem dX6_ticks_92 : decode cX6_ticks 92 = .ok (.iconst 1, 1) := by decide +kernel
theorem dX6_ticks_93 : decode cX6_ticks 93 = .ok (.isub, 1) := by decide +kernel
theorem dX6_ticks_94 : decode cX6_ticks 94 = .ok (.istore_n 1, 1) := by decide +kernel
theorem dX6_ticks_95 : decode cX6_ticks 95 = .ok (.iload_n 1, 1) := by decide +kernel
theorem dX6_ticks_96 : decode cX6_ticks 96 = .ok (.ifCond .lt 14, 3) := by decide +kernel
theorem dX6_ticks_99 : decode cX6_ticks 99 = .ok (.aload_n 0, 1) := by decide +kernel
theorem dX6_ticks_100 : decode cX6_ticks 100 = .ok (.iload_n 1, 1) := by decide +kernel
theorem dX6_ticks_101 : decode cX6_ticks 101 = .ok (.invokevirtual 129, 3) := by decide +kernel
theorem dX6_ticks_104 : decode cX6_ticks 104 = .ok (.iinc 1 (-1), 3) := by decide +kernel
theorem dX6_ticks_107 : decode cX6_ticks 107 = .ok (.goto (-12), 3) := by decide +kernel
theorem dX6_ticks_110 : decode cX6_ticks 110 = .ok (.aload_n 0, 1) := by decide +kernel
theorem dX6_ticks_111 : decode cX6_ticks 111 = .ok (.invokevirtual 132, 3) := by decide +kernel
theorem dX6_ticks_114 : decode cX6_ticks 114 = .ok (.aload_n 0, 1) := by decide +kernel
theorem dX6_ticks_115 : decode cX6_ticks 115 = .ok (.getfield 41, 3) := by decide +kernel
theorem dX6_ticks_118 : decode cX6_ticks 118 = .ok (.sipush 233, 3) := by decide +kernel
theorem dX6_ticks_121 : decode cX6_ticks 121 = .ok (.iaload, 1) := by decide +kernel
theorem dX6_ticks_122 : decode cX6_ticks 122 = .ok (.ifCond .le 84, 3) := by decide +kernel
theorem dX6_ticks_125 : decode cX6_ticks 125 = .ok (.aload_n 0, 1) := by decide +kernel
theorem dX6_ticks_126 : decode cX6_ticks 126 = .ok (.getfield 41, 3) := by decide +kernel
theorem dX6_ticks_129 : decode cX6_ticks 129 = .ok (.bipush 14, 2) := by decide +kernel
theorem dX6_ticks_131 : decode cX6_ticks 131 = .ok (.iaload, 1) := by decide +kernel
theorem dX6_ticks_132 : decode cX6_ticks 132 = .ok (.iconst (-1), 1) := by decide +kernel
theorem dX6_ticks_133 : decode cX6_ticks 133 = .ok (.if_icmp .ne 73, 3) := by decide +kernel
theorem dX6_ticks_136 : decode cX6_ticks 136 = .ok (.aload_n 0, 1) := by decide +kernel
theorem dX6_ticks_137 : decode cX6_ticks 137 = .ok (.getfield 41, 3) := by decide +kernel
theorem dX6_ticks_140 : decode cX6_ticks 140 = .ok (.sipush 142, 3) := by decide +kernel
theorem dX6_ticks_143 : decode cX6_ticks 143 = .ok (.iaload, 1) := by decide +kernel
theorem dX6_ticks_144 : decode cX6_ticks 144 = .ok (.istore_n 1, 1) := by decide +kernel
theorem dX6_ticks_145 : decode cX6_ticks 145 = .ok (.aload_n 0, 1) := by decide +kernel
theorem dX6_ticks_146 : decode cX6_ticks 146 = .ok (.getfield 41, 3) := by decide +kernel
theorem dX6_ticks_149 : decode cX6_ticks 149 = .ok (.sipush 233, 3) := by decide +kernel
theorem dX6_ticks_152 : decode cX6_ticks 152 = .ok (.dup2, 1) := by decide +kernel
theorem dX6_ticks_153 : decode cX6_ticks 153 = .ok (.iaload, 1) := by decide +kernel
theorem dX6_ticks_154 : decode cX6_ticks 154 = .ok (.iconst 1, 1) := by decide +kernel
theorem dX6_ticks_155 : decode cX6_ticks 155 = .ok (.isub, 1) := by decide +kernel
theorem dX6_ticks_156 : decode cX6_ticks 156 = .ok (.iastore, 1) := by decide +kernel
theorem dX6_ticks_157 : decode cX6_ticks 157 = .ok (.iconst 0, 1) := by decide +kernel
theorem dX6_ticks_158 : decode cX6_ticks 158 = .ok (.istore_n 2, 1) := by decide +kernel
theorem dX6_ticks_159 : decode cX6_ticks 159 = .ok (.iload_n 2, 1) := by decide +kernel
theorem dX6_ticks_160 : decode cX6_ticks 160 = .ok (.aload_n 0, 1) := by decide +kernel
theorem dX6_ticks_161 : decode cX6_ticks 161 = .ok (.getfield 41, 3) := by decide +kernel
theorem dX6_ticks_164 : decode cX6_ticks 164 = .ok (.sipush 233, 3) := by decide +kernel
theorem dX6_ticks_167 : decode cX6_ticks 167 = .ok (.iaload, 1) := by decide +kernel
theorem dX6_ticks_168 : decode cX6_ticks 168 = .ok (.if_icmp .ge 31, 3) := by decide +kernel
theorem dX6_ticks_171 : decode cX6_ticks 171 = .ok (.aload_n 0, 1) := by decide +kernel
theorem dX6_ticks_172 : decode cX6_ticks 172 = .ok (.getfield 41, 3) := by decide +kernel
theorem dX6_ticks_175 : decode cX6_ticks 175 = .ok (.sipush 142, 3) := by decide +kernel
theorem dX6_ticks_178 : decode cX6_ticks 178 = .ok (.iload_n 2, 1) := by decide +kernel
theorem dX6_ticks_179 : decode cX6_ticks 179 = .ok (.iadd, 1) := by decide +kernel
theorem dX6_ticks_180 : decode cX6_ticks 180 = .ok (.aload_n 0, 1) := by decide +kernel
theorem dX6_ticks_181 : decode cX6_ticks 181 = .ok (.getfield 41, 3) := by decide +kernel
theorem dX6_ticks_184 : decode cX6_ticks 184 = .ok (.sipush 142, 3) := by decide +kernel
theorem dX6_ticks_187 : decode cX6_ticks 187 = .ok (.iload_n 2, 1) := by decide +kernel
theorem dX6_ticks_188 : decode cX6_ticks 188 = .ok (.iadd, 1) := by decide +kernel
theorem dX6_ticks_189 : decode cX6_ticks 189 = .ok (.iconst 1, 1) := by decide +kernel
theorem dX6_ticks_190 : decode cX6_ticks 190 = .ok (.iadd, 1) := by decide +kernel
theorem dX6_ticks_191 : decode cX6_ticks 191 = .ok (.iaload, 1) := by decide +kernel
theorem dX6_ticks_192 : decode cX6_ticks 192 = .ok (.iastore, 1) := by decide +kernel
theorem dX6_ticks_193 : decode cX6_ticks 193 = .ok (.iinc 2 1, 3) := by decide +kernel
theorem dX6_ticks_196 : decode cX6_ticks 196 = .ok (.goto (-37), 3) := by decide +kernel
theorem dX6_ticks_199 : decode cX6_ticks 199 = .ok (.aload_n 0, 1) := by decide +kernel
theorem dX6_ticks_200 : decode cX6_ticks 200 = .ok (.iload_n 1, 1) := by decide +kernel
theorem dX6_ticks_201 : decode cX6_ticks 201 = .ok (.iconst 0, 1) := by decide +kernel
theorem dX6_ticks_202 : decode cX6_ticks 202 = .ok (.iconst 0, 1) := by decide +kernel
theorem dX6_ticks_203 : decode cX6_ticks 203 = .ok (.invokevirtual 119, 3) := by decide +kernel
theorem dX6_ticks_206 : decode cX6_ticks 206 = .ok (.return_, 1) := by decide +kernel
theorem dX6_tick_0 : decode cX6_tick 0 = .ok (.aload_n 0, 1) := by decide +kernel
theorem dX6_tick_1 : decode cX6_tick 1 = .ok (.iload_n 1, 1) := by decide +kernel
theorem dX6_tick_2 : decode cX6_tick 2 = .ok (.i2l, 1) := by decide +kernel
theorem dX6_tick_3 : decode cX6_tick 3 = .ok (.lconst 1, 1) := by decide +kernel
theorem dX6_tick_4 : decode cX6_tick 4 = .ok (.ldc2_w 80, 3) := by decide +kernel
theorem dX6_tick_7 : decode cX6_tick 7 = .ok (.invokestatic 59, 3) := by decide +kernel
theorem dX6_tick_10 : decode cX6_tick 10 = .ok (.ifCond .ne 7, 3) := by decide +kernel
theorem dX6_tick_13 : decode cX6_tick 13 = .ok (.iconst 1, 1) := by decide +kernel
theorem dX6_tick_14 : decode cX6_tick 14 = .ok (.goto 31, 3) := by decide +kernel
theorem dX6_tick_17 : decode cX6_tick 17 = .ok (.aload_n 0, 1) := by decide +kernel
theorem dX6_tick_18 : decode cX6_tick 18 = .ok (.getfield 71, 3) := by decide +kernel
theorem dX6_tick_21 : decode cX6_tick 21 = .ok (.ifCond .eq 19, 3) := by decide +kernel
theorem dX6_tick_24 : decode cX6_tick 24 = .ok (.aload_n 0, 1) := by decide +kernel
theorem dX6_tick_25 : decode cX6_tick 25 = .ok (.getfield 41, 3) := by decide +kernel
theorem dX6_tick_28 : decode cX6_tick 28 = .ok (.sipush 232, 3) := by decide +kernel
theorem dX6_tick_31 : decode cX6_tick 31 = .ok (.iaload, 1) := by decide +kernel
theorem dX6_tick_32 : decode cX6_tick 32 = .ok (.iload_n 1, 1) := by decide +kernel
theorem dX6_tick_33 : decode cX6_tick 33 = .ok (.iadd, 1) := by decide +kernel
theorem dX6_tick_34 : decode cX6_tick 34 = .ok (.sipush 9999, 3) := by decide +kernel
theorem dX6_tick_37 : decode cX6_tick 37 = .ok (.if_icmp .le 7, 3) := by decide +kernel
theorem dX6_tick_40 : decode cX6_tick 40 = .ok (.iconst 2, 1) := by decide +kernel
theorem dX6_tick_41 : decode cX6_tick 41 = .ok (.goto 4, 3) := by decide +kernel
theorem dX6_tick_44 : decode cX6_tick 44 = .ok (.iconst 0, 1) := by decide +kernel
theorem dX6_tick_45 : decode cX6_tick 45 = .ok (.putfield 54, 3) := by decide +kernel
theorem dX6_tick_48 : decode cX6_tick 48 = .ok (.aload_n 0, 1) := by decide +kernel
theorem dX6_tick_49 : decode cX6_tick 49 = .ok (.getfield 54, 3) := by decide +kernel
theorem dX6_tick_52 : decode cX6_tick 52 = .ok (.ifCond .le 5, 3) := by decide +kernel
theorem dX6_tick_55 : decode cX6_tick 55 = .ok (.iconst (-1), 1) := by decide +kernel
theorem dX6_tick_56 : decode cX6_tick 56 = .ok (.ireturn, 1) := by decide +kernel
theorem dX6_tick_57 : decode cX6_tick 57 = .ok (.aload_n 0, 1) := by decide +kernel
theorem dX6_tick_58 : decode cX6_tick 58 = .ok (.getfield 41, 3) := by decide +kernel
theorem dX6_tick_61 : decode cX6_tick 61 = .ok (.sipush 235, 3) := by decide +kernel
theorem dX6_tick_64 : decode cX6_tick 64 = .ok (.iaload, 1) := by decide +kernel
theorem dX6_tick_65 : decode cX6_tick 65 = .ok (.istore_n 2, 1) := by decide +kernel
theorem dX6_tick_66 : decode cX6_tick 66 = .ok (.iconst 0, 1) := by decide +kernel
theorem dX6_tick_67 : decode cX6_tick 67 = .ok (.istore_n 3, 1) := by decide +kernel
theorem dX6_tick_68 : decode cX6_tick 68 = .ok (.iload_n 3, 1) := by decide +kernel
theorem dX6_tick_69 : decode cX6_tick 69 = .ok (.iload_n 1, 1) := by decide +kernel
theorem dX6_tick_70 : decode cX6_tick 70 = .ok (.if_icmp .ge 13, 3) := by decide +kernel
theorem dX6_tick_73 : decode cX6_tick 73 = .ok (.aload_n 0, 1) := by decide +kernel
theorem dX6_tick_74 : decode cX6_tick 74 = .ok (.invokevirtual 135, 3) := by decide +kernel
theorem dX6_tick_77 : decode cX6_tick 77 = .ok (.iinc 3 1, 3) := by decide +kernel
theorem dX6_tick_80 : decode cX6_tick 80 = .ok (.goto (-12), 3) := by decide +kernel
theorem dX6_tick_83 : decode cX6_tick 83 = .ok (.aload_n 0, 1) := by decide +kernel
theorem dX6_tick_84 : decode cX6_tick 84 = .ok (.getfield 41, 3) := by decide +kernel
theorem dX6_tick_87 : decode cX6_tick 87 = .ok (.sipush 235, 3) := by decide +kernel
theorem dX6_tick_90 : decode cX6_tick 90 = .ok (.iaload, 1) := by decide +kernel
theorem dX6_tick_91 : decode cX6_tick 91 = .ok (.iload_n 2, 1) := by decide +kernel
theorem dX6_tick_92 : decode cX6_tick 92 = .ok (.isub, 1) := by decide +kernel
theorem dX6_tick_93 : decode cX6_tick 93 = .ok (.ireturn, 1) := by decide +kernel
theorem dX6_now_0 : decode cX6_now 0 = .ok (.aload_n 0, 1) := by decide +kernel
theorem dX6_now_1 : decode cX6_now 1 = .ok (.iconst 0, 1) := by decide +kernel
theorem dX6_now_2 : decode cX6_now 2 = .ok (.putfield 54, 3) := by decide +kernel
theorem dX6_now_5 : decode cX6_now 5 = .ok (.aload_n 0, 1) := by decide +kernel
theorem dX6_now_6 : decode cX6_now 6 = .ok (.getfield 41, 3) := by decide +kernel
theorem dX6_now_9 : decode cX6_now 9 = .ok (.sipush 232, 3) := by decide +kernel
theorem dX6_now_12 : decode cX6_now 12 = .ok (.iaload, 1) := by decide +kernel
theorem dX6_now_13 : decode cX6_now 13 = .ok (.ireturn, 1) := by decide +kernel
theorem dX6_stations_0 : decode cX6_stations 0 = .ok (.aload_n 0, 1) := by decide +kernel
theorem dX6_stations_1 : decode cX6_stations 1 = .ok (.iconst 0, 1) := by decide +kernel
theorem dX6_stations_2 : decode cX6_stations 2 = .ok (.putfield 54, 3) := by decide +kernel
theorem dX6_stations_5 : decode cX6_stations 5 = .ok (.aload_n 0, 1) := by decide +kernel
theorem dX6_stations_6 : decode cX6_stations 6 = .ok (.getfield 71, 3) := by decide +kernel
theorem dX6_stations_9 : decode cX6_stations 9 = .ok (.ireturn, 1) := by decide +kernel
theorem dX6_cars_0 : decode cX6_cars 0 = .ok (.aload_n 0, 1) := by decide +kernel
theorem dX6_cars_1 : decode cX6_cars 1 = .ok (.iconst 0, 1) := by decide +kernel
theorem dX6_cars_2 : decode cX6_cars 2 = .ok (.putfield 54, 3) := by decide +kernel
theorem dX6_cars_5 : decode cX6_cars 5 = .ok (.aload_n 0, 1) := by decide +kernel
theorem dX6_cars_6 : decode cX6_cars 6 = .ok (.getfield 84, 3) := by decide +kernel
theorem dX6_cars_9 : decode cX6_cars 9 = .ok (.ireturn, 1) := by decide +kernel
theorem dX6_isAsked_0 : decode cX6_isAsked 0 = .ok (.aload_n 0, 1) := by decide +kernel
theorem dX6_isAsked_1 : decode cX6_isAsked 1 = .ok (.aload_n 0, 1) := by decide +kernel
theorem dX6_isAsked_2 : decode cX6_isAsked 2 = .ok (.iload_n 1, 1) := by decide +kernel
theorem dX6_isAsked_3 : decode cX6_isAsked 3 = .ok (.invokevirtual 87, 3) := by decide +kernel
theorem dX6_isAsked_6 : decode cX6_isAsked 6 = .ok (.ifCond .eq 7, 3) := by decide +kernel
theorem dX6_isAsked_9 : decode cX6_isAsked 9 = .ok (.iconst 0, 1) := by decide +kernel
theorem dX6_isAsked_10 : decode cX6_isAsked 10 = .ok (.goto 4, 3) := by decide +kernel
theorem dX6_isAsked_13 : decode cX6_isAsked 13 = .ok (.iconst 1, 1) := by decide +kernel
theorem dX6_isAsked_14 : decode cX6_isAsked 14 = .ok (.putfield 54, 3) := by decide +kernel
theorem dX6_isAsked_17 : decode cX6_isAsked 17 = .ok (.aload_n 0, 1) := by decide +kernel
theorem dX6_isAsked_18 : decode cX6_isAsked 18 = .ok (.getfield 54, 3) := by decide +kernel
theorem dX6_isAsked_21 : decode cX6_isAsked 21 = .ok (.ifCond .ne 7, 3) := by decide +kernel
theorem dX6_isAsked_24 : decode cX6_isAsked 24 = .ok (.iconst 1, 1) := by decide +kernel
theorem dX6_isAsked_25 : decode cX6_isAsked 25 = .ok (.goto 4, 3) := by decide +kernel
theorem dX6_isAsked_28 : decode cX6_isAsked 28 = .ok (.iconst 0, 1) := by decide +kernel
theorem dX6_isAsked_29 : decode cX6_isAsked 29 = .ok (.ireturn, 1) := by decide +kernel
theorem dX6_stateOf_0 : decode cX6_stateOf 0 = .ok (.aload_n 0, 1) := by decide +kernel
theorem dX6_stateOf_1 : decode cX6_stateOf 1 = .ok (.iload_n 1, 1) := by decide +kernel
theorem dX6_stateOf_2 : decode cX6_stateOf 2 = .ok (.invokevirtual 138, 3) := by decide +kernel
theorem dX6_stateOf_5 : decode cX6_stateOf 5 = .ok (.ifCond .eq 16, 3) := by decide +kernel
theorem dX6_stateOf_8 : decode cX6_stateOf 8 = .ok (.aload_n 0, 1) := by decide +kernel
theorem dX6_stateOf_9 : decode cX6_stateOf 9 = .ok (.getfield 41, 3) := by decide +kernel
theorem dX6_stateOf_12 : decode cX6_stateOf 12 = .ok (.bipush 82, 2) := by decide +kernel
theorem dX6_stateOf_14 : decode cX6_stateOf 14 = .ok (.iload_n 1, 1) := by decide +kernel
theorem dX6_stateOf_15 : decode cX6_stateOf 15 = .ok (.iadd, 1) := by decide +kernel
theorem dX6_stateOf_16 : decode cX6_stateOf 16 = .ok (.iaload, 1) := by decide +kernel
theorem dX6_stateOf_17 : decode cX6_stateOf 17 = .ok (.i2c, 1) := by decide +kernel
theorem dX6_stateOf_18 : decode cX6_stateOf 18 = .ok (.goto 5, 3) := by decide +kernel
theorem dX6_stateOf_21 : decode cX6_stateOf 21 = .ok (.bipush 32, 2) := by decide +kernel
theorem dX6_stateOf_23 : decode cX6_stateOf 23 = .ok (.ireturn, 1) := by decide +kernel
theorem dX6_standsAt_0 : decode cX6_standsAt 0 = .ok (.iconst (-1), 1) := by decide +kernel
theorem dX6_standsAt_1 : decode cX6_standsAt 1 = .ok (.istore_n 2, 1) := by decide +kernel
theorem dX6_standsAt_2 : decode cX6_standsAt 2 = .ok (.iconst 0, 1) := by decide +kernel
theorem dX6_standsAt_3 : decode cX6_standsAt 3 = .ok (.istore_n 3, 1) := by decide +kernel
theorem dX6_standsAt_4 : decode cX6_standsAt 4 = .ok (.iload_n 3, 1) := by decide +kernel
theorem dX6_standsAt_5 : decode cX6_standsAt 5 = .ok (.aload_n 0, 1) := by decide +kernel
theorem dX6_standsAt_6 : decode cX6_standsAt 6 = .ok (.getfield 71, 3) := by decide +kernel
theorem dX6_standsAt_9 : decode cX6_standsAt 9 = .ok (.if_icmp .ge 28, 3) := by decide +kernel
theorem dX6_standsAt_12 : decode cX6_standsAt 12 = .ok (.aload_n 0, 1) := by decide +kernel
theorem dX6_standsAt_13 : decode cX6_standsAt 13 = .ok (.getfield 41, 3) := by decide +kernel
theorem dX6_standsAt_16 : decode cX6_standsAt 16 = .ok (.bipush 14, 2) := by decide +kernel
theorem dX6_standsAt_18 : decode cX6_standsAt 18 = .ok (.iload_n 3, 1) := by decide +kernel
theorem dX6_standsAt_19 : decode cX6_standsAt 19 = .ok (.iadd, 1) := by decide +kernel
theorem dX6_standsAt_20 : decode cX6_standsAt 20 = .ok (.iaload, 1) := by decide +kernel
theorem dX6_standsAt_21 : decode cX6_standsAt 21 = .ok (.iload_n 1, 1) := by decide +kernel
theorem dX6_standsAt_22 : decode cX6_standsAt 22 = .ok (.if_icmp .ne 7, 3) := by decide +kernel
theorem dX6_standsAt_25 : decode cX6_standsAt 25 = .ok (.iload_n 3, 1) := by decide +kernel
theorem dX6_standsAt_26 : decode cX6_standsAt 26 = .ok (.goto 4, 3) := by decide +kernel
theorem dX6_standsAt_29 : decode cX6_standsAt 29 = .ok (.iload_n 2, 1) := by decide +kernel
theorem dX6_standsAt_30 : decode cX6_standsAt 30 = .ok (.istore_n 2, 1) := by decide +kernel
theorem dX6_standsAt_31 : decode cX6_standsAt 31 = .ok (.iinc 3 1, 3) := by decide +kernel
theorem dX6_standsAt_34 : decode cX6_standsAt 34 = .ok (.goto (-30), 3) := by decide +kernel
theorem dX6_standsAt_37 : decode cX6_standsAt 37 = .ok (.iload_n 2, 1) := by decide +kernel
theorem dX6_standsAt_38 : decode cX6_standsAt 38 = .ok (.ireturn, 1) := by decide +kernel
theorem dX6_stationOf_0 : decode cX6_stationOf 0 = .ok (.aload_n 0, 1) := by decide +kernel
theorem dX6_stationOf_1 : decode cX6_stationOf 1 = .ok (.aload_n 0, 1) := by decide +kernel
theorem dX6_stationOf_2 : decode cX6_stationOf 2 = .ok (.iload_n 1, 1) := by decide +kernel
theorem dX6_stationOf_3 : decode cX6_stationOf 3 = .ok (.invokevirtual 87, 3) := by decide +kernel
theorem dX6_stationOf_6 : decode cX6_stationOf 6 = .ok (.ifCond .ne 7, 3) := by decide +kernel
theorem dX6_stationOf_9 : decode cX6_stationOf 9 = .ok (.iconst 1, 1) := by decide +kernel
theorem dX6_stationOf_10 : decode cX6_stationOf 10 = .ok (.goto 17, 3) := by decide +kernel
theorem dX6_stationOf_13 : decode cX6_stationOf 13 = .ok (.aload_n 0, 1) := by decide +kernel
theorem dX6_stationOf_14 : decode cX6_stationOf 14 = .ok (.iload_n 1, 1) := by decide +kernel
theorem dX6_stationOf_15 : decode cX6_stationOf 15 = .ok (.invokevirtual 141, 3) := by decide +kernel
theorem dX6_stationOf_18 : decode cX6_stationOf 18 = .ok (.iconst (-1), 1) := by decide +kernel
theorem dX6_stationOf_19 : decode cX6_stationOf 19 = .ok (.if_icmp .ne 7, 3) := by decide +kernel
theorem dX6_stationOf_22 : decode cX6_stationOf 22 = .ok (.iconst 2, 1) := by decide +kernel
theorem dX6_stationOf_23 : decode cX6_stationOf 23 = .ok (.goto 4, 3) := by decide +kernel
theorem dX6_stationOf_26 : decode cX6_stationOf 26 = .ok (.iconst 0, 1) := by decide +kernel
theorem dX6_stationOf_27 : decode cX6_stationOf 27 = .ok (.putfield 54, 3) := by decide +kernel
theorem dX6_stationOf_30 : decode cX6_stationOf 30 = .ok (.aload_n 0, 1) := by decide +kernel
theorem dX6_stationOf_31 : decode cX6_stationOf 31 = .ok (.getfield 54, 3) := by decide +kernel
theorem dX6_stationOf_34 : decode cX6_stationOf 34 = .ok (.ifCond .ne 11, 3) := by decide +kernel
theorem dX6_stationOf_37 : decode cX6_stationOf 37 = .ok (.aload_n 0, 1) := by decide +kernel
theorem dX6_stationOf_38 : decode cX6_stationOf 38 = .ok (.iload_n 1, 1) := by decide +kernel
theorem dX6_stationOf_39 : decode cX6_stationOf 39 = .ok (.invokevirtual 141, 3) := by decide +kernel
theorem dX6_stationOf_42 : decode cX6_stationOf 42 = .ok (.goto 4, 3) := by decide +kernel
theorem dX6_stationOf_45 : decode cX6_stationOf 45 = .ok (.iconst (-1), 1) := by decide +kernel
theorem dX6_stationOf_46 : decode cX6_stationOf 46 = .ok (.ireturn, 1) := by decide +kernel
theorem dX6_toGo_0 : decode cX6_toGo 0 = .ok (.aload_n 0, 1) := by decide +kernel
theorem dX6_toGo_1 : decode cX6_toGo 1 = .ok (.aload_n 0, 1) := by decide +kernel
theorem dX6_toGo_2 : decode cX6_toGo 2 = .ok (.iload_n 1, 1) := by decide +kernel
theorem dX6_toGo_3 : decode cX6_toGo 3 = .ok (.invokevirtual 87, 3) := by decide +kernel
theorem dX6_toGo_6 : decode cX6_toGo 6 = .ok (.ifCond .ne 7, 3) := by decide +kernel
theorem dX6_toGo_9 : decode cX6_toGo 9 = .ok (.iconst 1, 1) := by decide +kernel
theorem dX6_toGo_10 : decode cX6_toGo 10 = .ok (.goto 17, 3) := by decide +kernel
theorem dX6_toGo_13 : decode cX6_toGo 13 = .ok (.aload_n 0, 1) := by decide +kernel
theorem dX6_toGo_14 : decode cX6_toGo 14 = .ok (.iload_n 1, 1) := by decide +kernel
theorem dX6_toGo_15 : decode cX6_toGo 15 = .ok (.invokevirtual 141, 3) := by decide +kernel
theorem dX6_toGo_18 : decode cX6_toGo 18 = .ok (.iconst (-1), 1) := by decide +kernel
theorem dX6_toGo_19 : decode cX6_toGo 19 = .ok (.if_icmp .ne 7, 3) := by decide +kernel
theorem dX6_toGo_22 : decode cX6_toGo 22 = .ok (.iconst 2, 1) := by decide +kernel
theorem dX6_toGo_23 : decode cX6_toGo 23 = .ok (.goto 4, 3) := by decide +kernel
theorem dX6_toGo_26 : decode cX6_toGo 26 = .ok (.iconst 0, 1) := by decide +kernel
theorem dX6_toGo_27 : decode cX6_toGo 27 = .ok (.putfield 54, 3) := by decide +kernel
theorem dX6_toGo_30 : decode cX6_toGo 30 = .ok (.aload_n 0, 1) := by decide +kernel
theorem dX6_toGo_31 : decode cX6_toGo 31 = .ok (.getfield 54, 3) := by decide +kernel
theorem dX6_toGo_34 : decode cX6_toGo 34 = .ok (.ifCond .ne 15, 3) := by decide +kernel
theorem dX6_toGo_37 : decode cX6_toGo 37 = .ok (.aload_n 0, 1) := by decide +kernel
theorem dX6_toGo_38 : decode cX6_toGo 38 = .ok (.getfield 41, 3) := by decide +kernel
theorem dX6_toGo_41 : decode cX6_toGo 41 = .ok (.bipush 22, 2) := by decide +kernel
theorem dX6_toGo_43 : decode cX6_toGo 43 = .ok (.iload_n 1, 1) := by decide +kernel
theorem dX6_toGo_44 : decode cX6_toGo 44 = .ok (.iadd, 1) := by decide +kernel
theorem dX6_toGo_45 : decode cX6_toGo 45 = .ok (.iaload, 1) := by decide +kernel
theorem dX6_toGo_46 : decode cX6_toGo 46 = .ok (.goto 4, 3) := by decide +kernel
theorem dX6_toGo_49 : decode cX6_toGo 49 = .ok (.iconst (-1), 1) := by decide +kernel
theorem dX6_toGo_50 : decode cX6_toGo 50 = .ok (.ireturn, 1) := by decide +kernel
theorem dX6_carAt_0 : decode cX6_carAt 0 = .ok (.aload_n 0, 1) := by decide +kernel
theorem dX6_carAt_1 : decode cX6_carAt 1 = .ok (.aload_n 0, 1) := by decide +kernel
theorem dX6_carAt_2 : decode cX6_carAt 2 = .ok (.iload_n 1, 1) := by decide +kernel
theorem dX6_carAt_3 : decode cX6_carAt 3 = .ok (.invokevirtual 94, 3) := by decide +kernel
theorem dX6_carAt_6 : decode cX6_carAt 6 = .ok (.ifCond .ne 7, 3) := by decide +kernel
theorem dX6_carAt_9 : decode cX6_carAt 9 = .ok (.iconst 1, 1) := by decide +kernel
theorem dX6_carAt_10 : decode cX6_carAt 10 = .ok (.goto 21, 3) := by decide +kernel
theorem dX6_carAt_13 : decode cX6_carAt 13 = .ok (.aload_n 0, 1) := by decide +kernel
theorem dX6_carAt_14 : decode cX6_carAt 14 = .ok (.getfield 41, 3) := by decide +kernel
theorem dX6_carAt_17 : decode cX6_carAt 17 = .ok (.bipush 14, 2) := by decide +kernel
theorem dX6_carAt_19 : decode cX6_carAt 19 = .ok (.iload_n 1, 1) := by decide +kernel
theorem dX6_carAt_20 : decode cX6_carAt 20 = .ok (.iadd, 1) := by decide +kernel
theorem dX6_carAt_21 : decode cX6_carAt 21 = .ok (.iaload, 1) := by decide +kernel
theorem dX6_carAt_22 : decode cX6_carAt 22 = .ok (.iconst (-1), 1) := by decide +kernel
theorem dX6_carAt_23 : decode cX6_carAt 23 = .ok (.if_icmp .ne 7, 3) := by decide +kernel
theorem dX6_carAt_26 : decode cX6_carAt 26 = .ok (.iconst 2, 1) := by decide +kernel
theorem dX6_carAt_27 : decode cX6_carAt 27 = .ok (.goto 4, 3) := by decide +kernel
theorem dX6_carAt_30 : decode cX6_carAt 30 = .ok (.iconst 0, 1) := by decide +kernel
theorem dX6_carAt_31 : decode cX6_carAt 31 = .ok (.putfield 54, 3) := by decide +kernel
theorem dX6_carAt_34 : decode cX6_carAt 34 = .ok (.aload_n 0, 1) := by decide +kernel
theorem dX6_carAt_35 : decode cX6_carAt 35 = .ok (.getfield 54, 3) := by decide +kernel
theorem dX6_carAt_38 : decode cX6_carAt 38 = .ok (.ifCond .ne 15, 3) := by decide +kernel
theorem dX6_carAt_41 : decode cX6_carAt 41 = .ok (.aload_n 0, 1) := by decide +kernel
theorem dX6_carAt_42 : decode cX6_carAt 42 = .ok (.getfield 41, 3) := by decide +kernel
theorem dX6_carAt_45 : decode cX6_carAt 45 = .ok (.bipush 14, 2) := by decide +kernel
theorem dX6_carAt_47 : decode cX6_carAt 47 = .ok (.iload_n 1, 1) := by decide +kernel
theorem dX6_carAt_48 : decode cX6_carAt 48 = .ok (.iadd, 1) := by decide +kernel
theorem dX6_carAt_49 : decode cX6_carAt 49 = .ok (.iaload, 1) := by decide +kernel
theorem dX6_carAt_50 : decode cX6_carAt 50 = .ok (.goto 4, 3) := by decide +kernel
theorem dX6_carAt_53 : decode cX6_carAt 53 = .ok (.iconst (-1), 1) := by decide +kernel
theorem dX6_carAt_54 : decode cX6_carAt 54 = .ok (.ireturn, 1) := by decide +kernel
theorem dX6_isBack_0 : decode cX6_isBack 0 = .ok (.aload_n 0, 1) := by decide +kernel
theorem dX6_isBack_1 : decode cX6_isBack 1 = .ok (.iload_n 1, 1) := by decide +kernel
theorem dX6_isBack_2 : decode cX6_isBack 2 = .ok (.invokevirtual 138, 3) := by decide +kernel
theorem dX6_isBack_5 : decode cX6_isBack 5 = .ok (.ifCond .eq 29, 3) := by decide +kernel
theorem dX6_isBack_8 : decode cX6_isBack 8 = .ok (.aload_n 0, 1) := by decide +kernel
theorem dX6_isBack_9 : decode cX6_isBack 9 = .ok (.iload_n 1, 1) := by decide +kernel
theorem dX6_isBack_10 : decode cX6_isBack 10 = .ok (.invokevirtual 141, 3) := by decide +kernel
theorem dX6_isBack_13 : decode cX6_isBack 13 = .ok (.iconst (-1), 1) := by decide +kernel
theorem dX6_isBack_14 : decode cX6_isBack 14 = .ok (.if_icmp .eq 20, 3) := by decide +kernel
theorem dX6_isBack_17 : decode cX6_isBack 17 = .ok (.aload_n 0, 1) := by decide +kernel
theorem dX6_isBack_18 : decode cX6_isBack 18 = .ok (.getfield 41, 3) := by decide +kernel
theorem dX6_isBack_21 : decode cX6_isBack 21 = .ok (.bipush 52, 2) := by decide +kernel
theorem dX6_isBack_23 : decode cX6_isBack 23 = .ok (.iload_n 1, 1) := by decide +kernel
theorem dX6_isBack_24 : decode cX6_isBack 24 = .ok (.iadd, 1) := by decide +kernel
theorem dX6_isBack_25 : decode cX6_isBack 25 = .ok (.iaload, 1) := by decide +kernel
theorem dX6_isBack_26 : decode cX6_isBack 26 = .ok (.iconst 1, 1) := by decide +kernel
theorem dX6_isBack_27 : decode cX6_isBack 27 = .ok (.if_icmp .ne 7, 3) := by decide +kernel
theorem dX6_isBack_30 : decode cX6_isBack 30 = .ok (.iconst 1, 1) := by decide +kernel
theorem dX6_isBack_31 : decode cX6_isBack 31 = .ok (.goto 4, 3) := by decide +kernel
theorem dX6_isBack_34 : decode cX6_isBack 34 = .ok (.iconst 0, 1) := by decide +kernel
theorem dX6_isBack_35 : decode cX6_isBack 35 = .ok (.ireturn, 1) := by decide +kernel
theorem dX6_listed_0 : decode cX6_listed 0 = .ok (.aload_n 0, 1) := by decide +kernel
theorem dX6_listed_1 : decode cX6_listed 1 = .ok (.iload_n 3, 1) := by decide +kernel
theorem dX6_listed_2 : decode cX6_listed 2 = .ok (.i2l, 1) := by decide +kernel
theorem dX6_listed_3 : decode cX6_listed 3 = .ok (.lconst 0, 1) := by decide +kernel
theorem dX6_listed_4 : decode cX6_listed 4 = .ok (.iload_n 2, 1) := by decide +kernel
theorem dX6_listed_5 : decode cX6_listed 5 = .ok (.iconst 1, 1) := by decide +kernel
theorem dX6_listed_6 : decode cX6_listed 6 = .ok (.isub, 1) := by decide +kernel
theorem dX6_listed_7 : decode cX6_listed 7 = .ok (.i2l, 1) := by decide +kernel
theorem dX6_listed_8 : decode cX6_listed 8 = .ok (.invokestatic 59, 3) := by decide +kernel
theorem dX6_listed_11 : decode cX6_listed 11 = .ok (.ifCond .eq 7, 3) := by decide +kernel
theorem dX6_listed_14 : decode cX6_listed 14 = .ok (.iconst 0, 1) := by decide +kernel
theorem dX6_listed_15 : decode cX6_listed 15 = .ok (.goto 4, 3) := by decide +kernel
theorem dX6_listed_18 : decode cX6_listed 18 = .ok (.iconst 1, 1) := by decide +kernel
theorem dX6_listed_19 : decode cX6_listed 19 = .ok (.putfield 54, 3) := by decide +kernel
theorem dX6_listed_22 : decode cX6_listed 22 = .ok (.aload_n 0, 1) := by decide +kernel
theorem dX6_listed_23 : decode cX6_listed 23 = .ok (.getfield 54, 3) := by decide +kernel
theorem dX6_listed_26 : decode cX6_listed 26 = .ok (.ifCond .ne 14, 3) := by decide +kernel
theorem dX6_listed_29 : decode cX6_listed 29 = .ok (.aload_n 0, 1) := by decide +kernel
theorem dX6_listed_30 : decode cX6_listed 30 = .ok (.getfield 41, 3) := by decide +kernel
theorem dX6_listed_33 : decode cX6_listed 33 = .ok (.iload_n 1, 1) := by decide +kernel
theorem dX6_listed_34 : decode cX6_listed 34 = .ok (.iload_n 3, 1) := by decide +kernel
theorem dX6_listed_35 : decode cX6_listed 35 = .ok (.iadd, 1) := by decide +kernel
theorem dX6_listed_36 : decode cX6_listed 36 = .ok (.iaload, 1) := by decide +kernel
theorem dX6_listed_37 : decode cX6_listed 37 = .ok (.goto 4, 3) := by decide +kernel
theorem dX6_listed_40 : decode cX6_listed 40 = .ok (.iconst (-1), 1) := by decide +kernel
theorem dX6_listed_41 : decode cX6_listed 41 = .ok (.ireturn, 1) := by decide +kernel
theorem dX6_waiting_0 : decode cX6_waiting 0 = .ok (.aload_n 0, 1) := by decide +kernel
theorem dX6_waiting_1 : decode cX6_waiting 1 = .ok (.iconst 0, 1) := by decide +kernel
theorem dX6_waiting_2 : decode cX6_waiting 2 = .ok (.putfield 54, 3) := by decide +kernel
theorem dX6_waiting_5 : decode cX6_waiting 5 = .ok (.aload_n 0, 1) := by decide +kernel
theorem dX6_waiting_6 : decode cX6_waiting 6 = .ok (.getfield 41, 3) := by decide +kernel
theorem dX6_waiting_9 : decode cX6_waiting 9 = .ok (.sipush 233, 3) := by decide +kernel
theorem dX6_waiting_12 : decode cX6_waiting 12 = .ok (.iaload, 1) := by decide +kernel
theorem dX6_waiting_13 : decode cX6_waiting 13 = .ok (.ireturn, 1) := by decide +kernel
theorem dX6_waitingAt_0 : decode cX6_waitingAt 0 = .ok (.aload_n 0, 1) := by decide +kernel
theorem dX6_waitingAt_1 : decode cX6_waitingAt 1 = .ok (.sipush 142, 3) := by decide +kernel
theorem dX6_waitingAt_4 : decode cX6_waitingAt 4 = .ok (.aload_n 0, 1) := by decide +kernel
theorem dX6_waitingAt_5 : decode cX6_waitingAt 5 = .ok (.getfield 41, 3) := by decide +kernel
theorem dX6_waitingAt_8 : decode cX6_waitingAt 8 = .ok (.sipush 233, 3) := by decide +kernel
theorem dX6_waitingAt_11 : decode cX6_waitingAt 11 = .ok (.iaload, 1) := by decide +kernel
theorem dX6_waitingAt_12 : decode cX6_waitingAt 12 = .ok (.iload_n 1, 1) := by decide +kernel
theorem dX6_waitingAt_13 : decode cX6_waitingAt 13 = .ok (.invokevirtual 144, 3) := by decide +kernel
theorem dX6_waitingAt_16 : decode cX6_waitingAt 16 = .ok (.ireturn, 1) := by decide +kernel
theorem dX6_looped_0 : decode cX6_looped 0 = .ok (.aload_n 0, 1) := by decide +kernel
theorem dX6_looped_1 : decode cX6_looped 1 = .ok (.iconst 0, 1) := by decide +kernel
theorem dX6_looped_2 : decode cX6_looped 2 = .ok (.putfield 54, 3) := by decide +kernel
theorem dX6_looped_5 : decode cX6_looped 5 = .ok (.aload_n 0, 1) := by decide +kernel
theorem dX6_looped_6 : decode cX6_looped 6 = .ok (.getfield 41, 3) := by decide +kernel
theorem dX6_looped_9 : decode cX6_looped 9 = .ok (.sipush 234, 3) := by decide +kernel
theorem dX6_looped_12 : decode cX6_looped 12 = .ok (.iaload, 1) := by decide +kernel
theorem dX6_looped_13 : decode cX6_looped 13 = .ok (.ireturn, 1) := by decide +kernel
theorem dX6_loopedAt_0 : decode cX6_loopedAt 0 = .ok (.aload_n 0, 1) := by decide +kernel
theorem dX6_loopedAt_1 : decode cX6_loopedAt 1 = .ok (.sipush 172, 3) := by decide +kernel
theorem dX6_loopedAt_4 : decode cX6_loopedAt 4 = .ok (.aload_n 0, 1) := by decide +kernel
theorem dX6_loopedAt_5 : decode cX6_loopedAt 5 = .ok (.getfield 41, 3) := by decide +kernel
theorem dX6_loopedAt_8 : decode cX6_loopedAt 8 = .ok (.sipush 234, 3) := by decide +kernel
theorem dX6_loopedAt_11 : decode cX6_loopedAt 11 = .ok (.iaload, 1) := by decide +kernel
theorem dX6_loopedAt_12 : decode cX6_loopedAt 12 = .ok (.iload_n 1, 1) := by decide +kernel
theorem dX6_loopedAt_13 : decode cX6_loopedAt 13 = .ok (.invokevirtual 144, 3) := by decide +kernel
theorem dX6_loopedAt_16 : decode cX6_loopedAt 16 = .ok (.ireturn, 1) := by decide +kernel
theorem dX6_left_0 : decode cX6_left 0 = .ok (.aload_n 0, 1) := by decide +kernel
theorem dX6_left_1 : decode cX6_left 1 = .ok (.iconst 0, 1) := by decide +kernel
theorem dX6_left_2 : decode cX6_left 2 = .ok (.putfield 54, 3) := by decide +kernel
theorem dX6_left_5 : decode cX6_left 5 = .ok (.aload_n 0, 1) := by decide +kernel
theorem dX6_left_6 : decode cX6_left 6 = .ok (.getfield 41, 3) := by decide +kernel
theorem dX6_left_9 : decode cX6_left 9 = .ok (.sipush 235, 3) := by decide +kernel
theorem dX6_left_12 : decode cX6_left 12 = .ok (.iaload, 1) := by decide +kernel
theorem dX6_left_13 : decode cX6_left 13 = .ok (.ireturn, 1) := by decide +kernel
theorem dX6_leftAt_0 : decode cX6_leftAt 0 = .ok (.aload_n 0, 1) := by decide +kernel
theorem dX6_leftAt_1 : decode cX6_leftAt 1 = .ok (.sipush 202, 3) := by decide +kernel
theorem dX6_leftAt_4 : decode cX6_leftAt 4 = .ok (.aload_n 0, 1) := by decide +kernel
theorem dX6_leftAt_5 : decode cX6_leftAt 5 = .ok (.getfield 41, 3) := by decide +kernel
theorem dX6_leftAt_8 : decode cX6_leftAt 8 = .ok (.sipush 235, 3) := by decide +kernel
theorem dX6_leftAt_11 : decode cX6_leftAt 11 = .ok (.iaload, 1) := by decide +kernel
theorem dX6_leftAt_12 : decode cX6_leftAt 12 = .ok (.iload_n 1, 1) := by decide +kernel
theorem dX6_leftAt_13 : decode cX6_leftAt 13 = .ok (.invokevirtual 144, 3) := by decide +kernel
theorem dX6_leftAt_16 : decode cX6_leftAt 16 = .ok (.ireturn, 1) := by decide +kernel
theorem dX6_leftIn_0 : decode cX6_leftIn 0 = .ok (.aload_n 0, 1) := by decide +kernel
theorem dX6_leftIn_1 : decode cX6_leftIn 1 = .ok (.aload_n 0, 1) := by decide +kernel
theorem dX6_leftIn_2 : decode cX6_leftIn 2 = .ok (.iload_n 1, 1) := by decide +kernel
theorem dX6_leftIn_3 : decode cX6_leftIn 3 = .ok (.invokevirtual 87, 3) := by decide +kernel
theorem dX6_leftIn_6 : decode cX6_leftIn 6 = .ok (.ifCond .ne 7, 3) := by decide +kernel
theorem dX6_leftIn_9 : decode cX6_leftIn 9 = .ok (.iconst 1, 1) := by decide +kernel
theorem dX6_leftIn_10 : decode cX6_leftIn 10 = .ok (.goto 22, 3) := by decide +kernel
theorem dX6_leftIn_13 : decode cX6_leftIn 13 = .ok (.aload_n 0, 1) := by decide +kernel
theorem dX6_leftIn_14 : decode cX6_leftIn 14 = .ok (.getfield 41, 3) := by decide +kernel
theorem dX6_leftIn_17 : decode cX6_leftIn 17 = .ok (.bipush 82, 2) := by decide +kernel
theorem dX6_leftIn_19 : decode cX6_leftIn 19 = .ok (.iload_n 1, 1) := by decide +kernel
theorem dX6_leftIn_20 : decode cX6_leftIn 20 = .ok (.iadd, 1) := by decide +kernel
theorem dX6_leftIn_21 : decode cX6_leftIn 21 = .ok (.iaload, 1) := by decide +kernel
theorem dX6_leftIn_22 : decode cX6_leftIn 22 = .ok (.bipush 100, 2) := by decide +kernel
theorem dX6_leftIn_24 : decode cX6_leftIn 24 = .ok (.if_icmp .eq 7, 3) := by decide +kernel
theorem dX6_leftIn_27 : decode cX6_leftIn 27 = .ok (.iconst 2, 1) := by decide +kernel
theorem dX6_leftIn_28 : decode cX6_leftIn 28 = .ok (.goto 4, 3) := by decide +kernel
theorem dX6_leftIn_31 : decode cX6_leftIn 31 = .ok (.iconst 0, 1) := by decide +kernel
theorem dX6_leftIn_32 : decode cX6_leftIn 32 = .ok (.putfield 54, 3) := by decide +kernel
theorem dX6_leftIn_35 : decode cX6_leftIn 35 = .ok (.aload_n 0, 1) := by decide +kernel
theorem dX6_leftIn_36 : decode cX6_leftIn 36 = .ok (.getfield 54, 3) := by decide +kernel
theorem dX6_leftIn_39 : decode cX6_leftIn 39 = .ok (.ifCond .ne 12, 3) := by decide +kernel
theorem dX6_leftIn_42 : decode cX6_leftIn 42 = .ok (.aload_n 0, 1) := by decide +kernel
theorem dX6_leftIn_43 : decode cX6_leftIn 43 = .ok (.getfield 35, 3) := by decide +kernel
theorem dX6_leftIn_46 : decode cX6_leftIn 46 = .ok (.iload_n 1, 1) := by decide +kernel
theorem dX6_leftIn_47 : decode cX6_leftIn 47 = .ok (.iaload, 1) := by decide +kernel
theorem dX6_leftIn_48 : decode cX6_leftIn 48 = .ok (.goto 4, 3) := by decide +kernel
theorem dX6_leftIn_51 : decode cX6_leftIn 51 = .ok (.iconst (-1), 1) := by decide +kernel
theorem dX6_leftIn_52 : decode cX6_leftIn 52 = .ok (.ireturn, 1) := by decide +kernel
theorem dX6_faults_0 : decode cX6_faults 0 = .ok (.aload_n 0, 1) := by decide +kernel
theorem dX6_faults_1 : decode cX6_faults 1 = .ok (.iload_n 1, 1) := by decide +kernel
theorem dX6_faults_2 : decode cX6_faults 2 = .ok (.invokevirtual 138, 3) := by decide +kernel
theorem dX6_faults_5 : decode cX6_faults 5 = .ok (.ifCond .eq 18, 3) := by decide +kernel
theorem dX6_faults_8 : decode cX6_faults 8 = .ok (.aload_n 0, 1) := by decide +kernel
theorem dX6_faults_9 : decode cX6_faults 9 = .ok (.getfield 41, 3) := by decide +kernel
theorem dX6_faults_12 : decode cX6_faults 12 = .ok (.bipush 112, 2) := by decide +kernel
theorem dX6_faults_14 : decode cX6_faults 14 = .ok (.iload_n 1, 1) := by decide +kernel
theorem dX6_faults_15 : decode cX6_faults 15 = .ok (.iadd, 1) := by decide +kernel
theorem dX6_faults_16 : decode cX6_faults 16 = .ok (.iaload, 1) := by decide +kernel
theorem dX6_faults_17 : decode cX6_faults 17 = .ok (.invokestatic 97, 3) := by decide +kernel
theorem dX6_faults_20 : decode cX6_faults 20 = .ok (.goto 4, 3) := by decide +kernel
theorem dX6_faults_23 : decode cX6_faults 23 = .ok (.iconst (-1), 1) := by decide +kernel
theorem dX6_faults_24 : decode cX6_faults 24 = .ok (.ireturn, 1) := by decide +kernel
theorem dX6_hasFault_0 : decode cX6_hasFault 0 = .ok (.aload_n 0, 1) := by decide +kernel
theorem dX6_hasFault_1 : decode cX6_hasFault 1 = .ok (.aload_n 0, 1) := by decide +kernel
theorem dX6_hasFault_2 : decode cX6_hasFault 2 = .ok (.iload_n 1, 1) := by decide +kernel
theorem dX6_hasFault_3 : decode cX6_hasFault 3 = .ok (.invokevirtual 87, 3) := by decide +kernel
theorem dX6_hasFault_6 : decode cX6_hasFault 6 = .ok (.ifCond .eq 15, 3) := by decide +kernel
theorem dX6_hasFault_9 : decode cX6_hasFault 9 = .ok (.aload_n 0, 1) := by decide +kernel
theorem dX6_hasFault_10 : decode cX6_hasFault 10 = .ok (.iload_n 2, 1) := by decide +kernel
theorem dX6_hasFault_11 : decode cX6_hasFault 11 = .ok (.invokevirtual 94, 3) := by decide +kernel
theorem dX6_hasFault_14 : decode cX6_hasFault 14 = .ok (.ifCond .eq 7, 3) := by decide +kernel
theorem dX6_hasFault_17 : decode cX6_hasFault 17 = .ok (.iconst 0, 1) := by decide +kernel
theorem dX6_hasFault_18 : decode cX6_hasFault 18 = .ok (.goto 4, 3) := by decide +kernel
theorem dX6_hasFault_21 : decode cX6_hasFault 21 = .ok (.iconst 1, 1) := by decide +kernel
theorem dX6_hasFault_22 : decode cX6_hasFault 22 = .ok (.putfield 54, 3) := by decide +kernel
theorem dX6_hasFault_25 : decode cX6_hasFault 25 = .ok (.aload_n 0, 1) := by decide +kernel
theorem dX6_hasFault_26 : decode cX6_hasFault 26 = .ok (.getfield 54, 3) := by decide +kernel
theorem dX6_hasFault_29 : decode cX6_hasFault 29 = .ok (.ifCond .ne 24, 3) := by decide +kernel
theorem dX6_hasFault_32 : decode cX6_hasFault 32 = .ok (.aload_n 0, 1) := by decide +kernel
theorem dX6_hasFault_33 : decode cX6_hasFault 33 = .ok (.getfield 41, 3) := by decide +kernel
theorem dX6_hasFault_36 : decode cX6_hasFault 36 = .ok (.bipush 112, 2) := by decide +kernel
theorem dX6_hasFault_38 : decode cX6_hasFault 38 = .ok (.iload_n 1, 1) := by decide +kernel
theorem dX6_hasFault_39 : decode cX6_hasFault 39 = .ok (.iadd, 1) := by decide +kernel
theorem dX6_hasFault_40 : decode cX6_hasFault 40 = .ok (.iaload, 1) := by decide +kernel
theorem dX6_hasFault_41 : decode cX6_hasFault 41 = .ok (.iload_n 2, 1) := by decide +kernel
theorem dX6_hasFault_42 : decode cX6_hasFault 42 = .ok (.ishr, 1) := by decide +kernel
theorem dX6_hasFault_43 : decode cX6_hasFault 43 = .ok (.iconst 1, 1) := by decide +kernel
theorem dX6_hasFault_44 : decode cX6_hasFault 44 = .ok (.iand, 1) := by decide +kernel
theorem dX6_hasFault_45 : decode cX6_hasFault 45 = .ok (.iconst 1, 1) := by decide +kernel
theorem dX6_hasFault_46 : decode cX6_hasFault 46 = .ok (.if_icmp .ne 7, 3) := by decide +kernel
theorem dX6_hasFault_49 : decode cX6_hasFault 49 = .ok (.iconst 1, 1) := by decide +kernel
theorem dX6_hasFault_50 : decode cX6_hasFault 50 = .ok (.goto 4, 3) := by decide +kernel
theorem dX6_hasFault_53 : decode cX6_hasFault 53 = .ok (.iconst 0, 1) := by decide +kernel
theorem dX6_hasFault_54 : decode cX6_hasFault 54 = .ok (.ireturn, 1) := by decide +kernel
theorem dX6_lacks_0 : decode cX6_lacks 0 = .ok (.aload_n 0, 1) := by decide +kernel
theorem dX6_lacks_1 : decode cX6_lacks 1 = .ok (.aload_n 0, 1) := by decide +kernel
theorem dX6_lacks_2 : decode cX6_lacks 2 = .ok (.iload_n 1, 1) := by decide +kernel
theorem dX6_lacks_3 : decode cX6_lacks 3 = .ok (.invokevirtual 94, 3) := by decide +kernel
theorem dX6_lacks_6 : decode cX6_lacks 6 = .ok (.ifCond .eq 7, 3) := by decide +kernel
theorem dX6_lacks_9 : decode cX6_lacks 9 = .ok (.iconst 0, 1) := by decide +kernel
theorem dX6_lacks_10 : decode cX6_lacks 10 = .ok (.goto 4, 3) := by decide +kernel
theorem dX6_lacks_13 : decode cX6_lacks 13 = .ok (.iconst 1, 1) := by decide +kernel
theorem dX6_lacks_14 : decode cX6_lacks 14 = .ok (.putfield 54, 3) := by decide +kernel
theorem dX6_lacks_17 : decode cX6_lacks 17 = .ok (.aload_n 0, 1) := by decide +kernel
theorem dX6_lacks_18 : decode cX6_lacks 18 = .ok (.getfield 54, 3) := by decide +kernel
theorem dX6_lacks_21 : decode cX6_lacks 21 = .ok (.ifCond .ne 12, 3) := by decide +kernel
theorem dX6_lacks_24 : decode cX6_lacks 24 = .ok (.aload_n 0, 1) := by decide +kernel
theorem dX6_lacks_25 : decode cX6_lacks 25 = .ok (.getfield 22, 3) := by decide +kernel
theorem dX6_lacks_28 : decode cX6_lacks 28 = .ok (.iload_n 1, 1) := by decide +kernel
theorem dX6_lacks_29 : decode cX6_lacks 29 = .ok (.iaload, 1) := by decide +kernel
theorem dX6_lacks_30 : decode cX6_lacks 30 = .ok (.goto 4, 3) := by decide +kernel
theorem dX6_lacks_33 : decode cX6_lacks 33 = .ok (.iconst (-1), 1) := by decide +kernel
theorem dX6_lacks_34 : decode cX6_lacks 34 = .ok (.ireturn, 1) := by decide +kernel
theorem dX6_lacksOf_0 : decode cX6_lacksOf 0 = .ok (.aload_n 0, 1) := by decide +kernel
theorem dX6_lacksOf_1 : decode cX6_lacksOf 1 = .ok (.iload_n 1, 1) := by decide +kernel
theorem dX6_lacksOf_2 : decode cX6_lacksOf 2 = .ok (.invokestatic 74, 3) := by decide +kernel
theorem dX6_lacksOf_5 : decode cX6_lacksOf 5 = .ok (.ifCond .eq 7, 3) := by decide +kernel
theorem dX6_lacksOf_8 : decode cX6_lacksOf 8 = .ok (.iconst 0, 1) := by decide +kernel
theorem dX6_lacksOf_9 : decode cX6_lacksOf 9 = .ok (.goto 4, 3) := by decide +kernel
theorem dX6_lacksOf_12 : decode cX6_lacksOf 12 = .ok (.iconst 1, 1) := by decide +kernel
theorem dX6_lacksOf_13 : decode cX6_lacksOf 13 = .ok (.putfield 54, 3) := by decide +kernel
theorem dX6_lacksOf_16 : decode cX6_lacksOf 16 = .ok (.aload_n 0, 1) := by decide +kernel
theorem dX6_lacksOf_17 : decode cX6_lacksOf 17 = .ok (.getfield 54, 3) := by decide +kernel
theorem dX6_lacksOf_20 : decode cX6_lacksOf 20 = .ok (.ifCond .ne 7, 3) := by decide +kernel
theorem dX6_lacksOf_23 : decode cX6_lacksOf 23 = .ok (.iconst 0, 1) := by decide +kernel
theorem dX6_lacksOf_24 : decode cX6_lacksOf 24 = .ok (.goto 4, 3) := by decide +kernel
theorem dX6_lacksOf_27 : decode cX6_lacksOf 27 = .ok (.iconst (-1), 1) := by decide +kernel
theorem dX6_lacksOf_28 : decode cX6_lacksOf 28 = .ok (.istore_n 2, 1) := by decide +kernel
theorem dX6_lacksOf_29 : decode cX6_lacksOf 29 = .ok (.iconst 0, 1) := by decide +kernel
theorem dX6_lacksOf_30 : decode cX6_lacksOf 30 = .ok (.istore_n 3, 1) := by decide +kernel
theorem dX6_lacksOf_31 : decode cX6_lacksOf 31 = .ok (.iload_n 3, 1) := by decide +kernel
theorem dX6_lacksOf_32 : decode cX6_lacksOf 32 = .ok (.aload_n 0, 1) := by decide +kernel
theorem dX6_lacksOf_33 : decode cX6_lacksOf 33 = .ok (.getfield 71, 3) := by decide +kernel
theorem dX6_lacksOf_36 : decode cX6_lacksOf 36 = .ok (.if_icmp .ge 39, 3) := by decide +kernel
theorem dX6_lacksOf_39 : decode cX6_lacksOf 39 = .ok (.aload_n 0, 1) := by decide +kernel
theorem dX6_lacksOf_40 : decode cX6_lacksOf 40 = .ok (.getfield 54, 3) := by decide +kernel
theorem dX6_lacksOf_43 : decode cX6_lacksOf 43 = .ok (.ifCond .ne 32, 3) := by decide +kernel
theorem dX6_lacksOf_46 : decode cX6_lacksOf 46 = .ok (.iload_n 2, 1) := by decide +kernel
theorem dX6_lacksOf_47 : decode cX6_lacksOf 47 = .ok (.aload_n 0, 1) := by decide +kernel
theorem dX6_lacksOf_48 : decode cX6_lacksOf 48 = .ok (.getfield 13, 3) := by decide +kernel
theorem dX6_lacksOf_51 : decode cX6_lacksOf 51 = .ok (.iload_n 3, 1) := by decide +kernel
theorem dX6_lacksOf_52 : decode cX6_lacksOf 52 = .ok (.iaload, 1) := by decide +kernel
theorem dX6_lacksOf_53 : decode cX6_lacksOf 53 = .ok (.iload_n 1, 1) := by decide +kernel
theorem dX6_lacksOf_54 : decode cX6_lacksOf 54 = .ok (.if_icmp .ne 12, 3) := by decide +kernel
theorem dX6_lacksOf_57 : decode cX6_lacksOf 57 = .ok (.aload_n 0, 1) := by decide +kernel
theorem dX6_lacksOf_58 : decode cX6_lacksOf 58 = .ok (.getfield 22, 3) := by decide +kernel
theorem dX6_lacksOf_61 : decode cX6_lacksOf 61 = .ok (.iload_n 3, 1) := by decide +kernel
theorem dX6_lacksOf_62 : decode cX6_lacksOf 62 = .ok (.iaload, 1) := by decide +kernel
theorem dX6_lacksOf_63 : decode cX6_lacksOf 63 = .ok (.goto 4, 3) := by decide +kernel
theorem dX6_lacksOf_66 : decode cX6_lacksOf 66 = .ok (.iconst 0, 1) := by decide +kernel
theorem dX6_lacksOf_67 : decode cX6_lacksOf 67 = .ok (.iadd, 1) := by decide +kernel
theorem dX6_lacksOf_68 : decode cX6_lacksOf 68 = .ok (.istore_n 2, 1) := by decide +kernel
theorem dX6_lacksOf_69 : decode cX6_lacksOf 69 = .ok (.iinc 3 1, 3) := by decide +kernel
theorem dX6_lacksOf_72 : decode cX6_lacksOf 72 = .ok (.goto (-41), 3) := by decide +kernel
theorem dX6_lacksOf_75 : decode cX6_lacksOf 75 = .ok (.iload_n 2, 1) := by decide +kernel
theorem dX6_lacksOf_76 : decode cX6_lacksOf 76 = .ok (.ireturn, 1) := by decide +kernel
theorem dX6_onShelf_0 : decode cX6_onShelf 0 = .ok (.aload_n 0, 1) := by decide +kernel
theorem dX6_onShelf_1 : decode cX6_onShelf 1 = .ok (.aload_n 0, 1) := by decide +kernel
theorem dX6_onShelf_2 : decode cX6_onShelf 2 = .ok (.iload_n 1, 1) := by decide +kernel
theorem dX6_onShelf_3 : decode cX6_onShelf 3 = .ok (.invokevirtual 94, 3) := by decide +kernel
theorem dX6_onShelf_6 : decode cX6_onShelf 6 = .ok (.ifCond .eq 7, 3) := by decide +kernel
theorem dX6_onShelf_9 : decode cX6_onShelf 9 = .ok (.iconst 0, 1) := by decide +kernel
theorem dX6_onShelf_10 : decode cX6_onShelf 10 = .ok (.goto 4, 3) := by decide +kernel
theorem dX6_onShelf_13 : decode cX6_onShelf 13 = .ok (.iconst 1, 1) := by decide +kernel
theorem dX6_onShelf_14 : decode cX6_onShelf 14 = .ok (.putfield 54, 3) := by decide +kernel
theorem dX6_onShelf_17 : decode cX6_onShelf 17 = .ok (.aload_n 0, 1) := by decide +kernel
theorem dX6_onShelf_18 : decode cX6_onShelf 18 = .ok (.getfield 54, 3) := by decide +kernel
theorem dX6_onShelf_21 : decode cX6_onShelf 21 = .ok (.ifCond .ne 15, 3) := by decide +kernel
theorem dX6_onShelf_24 : decode cX6_onShelf 24 = .ok (.aload_n 0, 1) := by decide +kernel
theorem dX6_onShelf_25 : decode cX6_onShelf 25 = .ok (.getfield 41, 3) := by decide +kernel
theorem dX6_onShelf_28 : decode cX6_onShelf 28 = .ok (.bipush 6, 2) := by decide +kernel
theorem dX6_onShelf_30 : decode cX6_onShelf 30 = .ok (.iload_n 1, 1) := by decide +kernel
theorem dX6_onShelf_31 : decode cX6_onShelf 31 = .ok (.iadd, 1) := by decide +kernel
theorem dX6_onShelf_32 : decode cX6_onShelf 32 = .ok (.iaload, 1) := by decide +kernel
theorem dX6_onShelf_33 : decode cX6_onShelf 33 = .ok (.goto 4, 3) := by decide +kernel
theorem dX6_onShelf_36 : decode cX6_onShelf 36 = .ok (.iconst (-1), 1) := by decide +kernel
theorem dX6_onShelf_37 : decode cX6_onShelf 37 = .ok (.ireturn, 1) := by decide +kernel
theorem dX6_inStore_0 : decode cX6_inStore 0 = .ok (.aload_n 0, 1) := by decide +kernel
theorem dX6_inStore_1 : decode cX6_inStore 1 = .ok (.iload_n 1, 1) := by decide +kernel
theorem dX6_inStore_2 : decode cX6_inStore 2 = .ok (.invokestatic 74, 3) := by decide +kernel
theorem dX6_inStore_5 : decode cX6_inStore 5 = .ok (.ifCond .eq 7, 3) := by decide +kernel
theorem dX6_inStore_8 : decode cX6_inStore 8 = .ok (.iconst 0, 1) := by decide +kernel
theorem dX6_inStore_9 : decode cX6_inStore 9 = .ok (.goto 4, 3) := by decide +kernel
theorem dX6_inStore_12 : decode cX6_inStore 12 = .ok (.iconst 1, 1) := by decide +kernel
theorem dX6_inStore_13 : decode cX6_inStore 13 = .ok (.putfield 54, 3) := by decide +kernel
theorem dX6_inStore_16 : decode cX6_inStore 16 = .ok (.aload_n 0, 1) := by decide +kernel
theorem dX6_inStore_17 : decode cX6_inStore 17 = .ok (.getfield 54, 3) := by decide +kernel
theorem dX6_inStore_20 : decode cX6_inStore 20 = .ok (.ifCond .ne 12, 3) := by decide +kernel
theorem dX6_inStore_23 : decode cX6_inStore 23 = .ok (.aload_n 0, 1) := by decide +kernel
theorem dX6_inStore_24 : decode cX6_inStore 24 = .ok (.getfield 41, 3) := by decide +kernel
theorem dX6_inStore_27 : decode cX6_inStore 27 = .ok (.iload_n 1, 1) := by decide +kernel
theorem dX6_inStore_28 : decode cX6_inStore 28 = .ok (.iaload, 1) := by decide +kernel
theorem dX6_inStore_29 : decode cX6_inStore 29 = .ok (.goto 4, 3) := by decide +kernel
theorem dX6_inStore_32 : decode cX6_inStore 32 = .ok (.iconst (-1), 1) := by decide +kernel
theorem dX6_inStore_33 : decode cX6_inStore 33 = .ok (.ireturn, 1) := by decide +kernel
theorem dX6_nextRound_0 : decode cX6_nextRound 0 = .ok (.aload_n 0, 1) := by decide +kernel
theorem dX6_nextRound_1 : decode cX6_nextRound 1 = .ok (.iconst 0, 1) := by decide +kernel
theorem dX6_nextRound_2 : decode cX6_nextRound 2 = .ok (.putfield 54, 3) := by decide +kernel
theorem dX6_nextRound_5 : decode cX6_nextRound 5 = .ok (.aload_n 0, 1) := by decide +kernel
theorem dX6_nextRound_6 : decode cX6_nextRound 6 = .ok (.getfield 25, 3) := by decide +kernel
theorem dX6_nextRound_9 : decode cX6_nextRound 9 = .ok (.aload_n 0, 1) := by decide +kernel
theorem dX6_nextRound_10 : decode cX6_nextRound 10 = .ok (.getfield 41, 3) := by decide +kernel
theorem dX6_nextRound_13 : decode cX6_nextRound 13 = .ok (.sipush 232, 3) := by decide +kernel
theorem dX6_nextRound_16 : decode cX6_nextRound 16 = .ok (.iaload, 1) := by decide +kernel
theorem dX6_nextRound_17 : decode cX6_nextRound 17 = .ok (.aload_n 0, 1) := by decide +kernel
theorem dX6_nextRound_18 : decode cX6_nextRound 18 = .ok (.getfield 25, 3) := by decide +kernel
theorem dX6_nextRound_21 : decode cX6_nextRound 21 = .ok (.irem, 1) := by decide +kernel
theorem dX6_nextRound_22 : decode cX6_nextRound 22 = .ok (.isub, 1) := by decide +kernel
theorem dX6_nextRound_23 : decode cX6_nextRound 23 = .ok (.ireturn, 1) := by decide +kernel
theorem dX6_keeps_0 : decode cX6_keeps 0 = .ok (.iconst 0, 1) := by decide +kernel
theorem dX6_keeps_1 : decode cX6_keeps 1 = .ok (.istore_n 1, 1) := by decide +kernel
theorem dX6_keeps_2 : decode cX6_keeps 2 = .ok (.iload_n 1, 1) := by decide +kernel
theorem dX6_keeps_3 : decode cX6_keeps 3 = .ok (.aload_n 0, 1) := by decide +kernel
theorem dX6_keeps_4 : decode cX6_keeps 4 = .ok (.getfield 44, 3) := by decide +kernel
theorem dX6_keeps_7 : decode cX6_keeps 7 = .ok (.arraylength, 1) := by decide +kernel
theorem dX6_keeps_8 : decode cX6_keeps 8 = .ok (.if_icmp .ge 21, 3) := by decide +kernel
theorem dX6_keeps_11 : decode cX6_keeps 11 = .ok (.aload_n 0, 1) := by decide +kernel
theorem dX6_keeps_12 : decode cX6_keeps 12 = .ok (.getfield 44, 3) := by decide +kernel
theorem dX6_keeps_15 : decode cX6_keeps 15 = .ok (.iload_n 1, 1) := by decide +kernel
theorem dX6_keeps_16 : decode cX6_keeps 16 = .ok (.aload_n 0, 1) := by decide +kernel
theorem dX6_keeps_17 : decode cX6_keeps 17 = .ok (.getfield 41, 3) := by decide +kernel
theorem dX6_keeps_20 : decode cX6_keeps 20 = .ok (.iload_n 1, 1) := by decide +kernel
theorem dX6_keeps_21 : decode cX6_keeps 21 = .ok (.iaload, 1) := by decide +kernel
theorem dX6_keeps_22 : decode cX6_keeps 22 = .ok (.iastore, 1) := by decide +kernel
theorem dX6_keeps_23 : decode cX6_keeps 23 = .ok (.iinc 1 1, 3) := by decide +kernel
theorem dX6_keeps_26 : decode cX6_keeps 26 = .ok (.goto (-24), 3) := by decide +kernel
theorem dX6_keeps_29 : decode cX6_keeps 29 = .ok (.aload_n 0, 1) := by decide +kernel
theorem dX6_keeps_30 : decode cX6_keeps 30 = .ok (.iconst 1, 1) := by decide +kernel
theorem dX6_keeps_31 : decode cX6_keeps 31 = .ok (.putfield 100, 3) := by decide +kernel
theorem dX6_keeps_34 : decode cX6_keeps 34 = .ok (.return_, 1) := by decide +kernel
theorem dX6_putsBack_0 : decode cX6_putsBack 0 = .ok (.iconst 0, 1) := by decide +kernel
theorem dX6_putsBack_1 : decode cX6_putsBack 1 = .ok (.istore_n 1, 1) := by decide +kernel
theorem dX6_putsBack_2 : decode cX6_putsBack 2 = .ok (.iload_n 1, 1) := by decide +kernel
theorem dX6_putsBack_3 : decode cX6_putsBack 3 = .ok (.aload_n 0, 1) := by decide +kernel
theorem dX6_putsBack_4 : decode cX6_putsBack 4 = .ok (.getfield 44, 3) := by decide +kernel
theorem dX6_putsBack_7 : decode cX6_putsBack 7 = .ok (.arraylength, 1) := by decide +kernel
theorem dX6_putsBack_8 : decode cX6_putsBack 8 = .ok (.if_icmp .ge 21, 3) := by decide +kernel
theorem dX6_putsBack_11 : decode cX6_putsBack 11 = .ok (.aload_n 0, 1) := by decide +kernel
theorem dX6_putsBack_12 : decode cX6_putsBack 12 = .ok (.getfield 41, 3) := by decide +kernel
theorem dX6_putsBack_15 : decode cX6_putsBack 15 = .ok (.iload_n 1, 1) := by decide +kernel
theorem dX6_putsBack_16 : decode cX6_putsBack 16 = .ok (.aload_n 0, 1) := by decide +kernel
theorem dX6_putsBack_17 : decode cX6_putsBack 17 = .ok (.getfield 44, 3) := by decide +kernel
theorem dX6_putsBack_20 : decode cX6_putsBack 20 = .ok (.iload_n 1, 1) := by decide +kernel
theorem dX6_putsBack_21 : decode cX6_putsBack 21 = .ok (.iaload, 1) := by decide +kernel
theorem dX6_putsBack_22 : decode cX6_putsBack 22 = .ok (.iastore, 1) := by decide +kernel
theorem dX6_putsBack_23 : decode cX6_putsBack 23 = .ok (.iinc 1 1, 3) := by decide +kernel
theorem dX6_putsBack_26 : decode cX6_putsBack 26 = .ok (.goto (-24), 3) := by decide +kernel
theorem dX6_putsBack_29 : decode cX6_putsBack 29 = .ok (.aload_n 0, 1) := by decide +kernel
theorem dX6_putsBack_30 : decode cX6_putsBack 30 = .ok (.iconst 0, 1) := by decide +kernel
theorem dX6_putsBack_31 : decode cX6_putsBack 31 = .ok (.putfield 100, 3) := by decide +kernel
theorem dX6_putsBack_34 : decode cX6_putsBack 34 = .ok (.return_, 1) := by decide +kernel
theorem dX6_leavesIn_0 : decode cX6_leavesIn 0 = .ok (.aload_n 0, 1) := by decide +kernel
theorem dX6_leavesIn_1 : decode cX6_leavesIn 1 = .ok (.aload_n 0, 1) := by decide +kernel
theorem dX6_leavesIn_2 : decode cX6_leavesIn 2 = .ok (.iload_n 1, 1) := by decide +kernel
theorem dX6_leavesIn_3 : decode cX6_leavesIn 3 = .ok (.invokevirtual 87, 3) := by decide +kernel
theorem dX6_leavesIn_6 : decode cX6_leavesIn 6 = .ok (.ifCond .ne 7, 3) := by decide +kernel
theorem dX6_leavesIn_9 : decode cX6_leavesIn 9 = .ok (.iconst 1, 1) := by decide +kernel
theorem dX6_leavesIn_10 : decode cX6_leavesIn 10 = .ok (.goto 22, 3) := by decide +kernel
theorem dX6_leavesIn_13 : decode cX6_leavesIn 13 = .ok (.aload_n 0, 1) := by decide +kernel
theorem dX6_leavesIn_14 : decode cX6_leavesIn 14 = .ok (.getfield 41, 3) := by decide +kernel
theorem dX6_leavesIn_17 : decode cX6_leavesIn 17 = .ok (.bipush 82, 2) := by decide +kernel
theorem dX6_leavesIn_19 : decode cX6_leavesIn 19 = .ok (.iload_n 1, 1) := by decide +kernel
theorem dX6_leavesIn_20 : decode cX6_leavesIn 20 = .ok (.iadd, 1) := by decide +kernel
theorem dX6_leavesIn_21 : decode cX6_leavesIn 21 = .ok (.iaload, 1) := by decide +kernel
theorem dX6_leavesIn_22 : decode cX6_leavesIn 22 = .ok (.bipush 100, 2) := by decide +kernel
theorem dX6_leavesIn_24 : decode cX6_leavesIn 24 = .ok (.if_icmp .ne 7, 3) := by decide +kernel
theorem dX6_leavesIn_27 : decode cX6_leavesIn 27 = .ok (.iconst 2, 1) := by decide +kernel
theorem dX6_leavesIn_28 : decode cX6_leavesIn 28 = .ok (.goto 4, 3) := by decide +kernel
theorem dX6_leavesIn_31 : decode cX6_leavesIn 31 = .ok (.iconst 0, 1) := by decide +kernel
theorem dX6_leavesIn_32 : decode cX6_leavesIn 32 = .ok (.putfield 54, 3) := by decide +kernel
theorem dX6_leavesIn_35 : decode cX6_leavesIn 35 = .ok (.aload_n 0, 1) := by decide +kernel
theorem dX6_leavesIn_36 : decode cX6_leavesIn 36 = .ok (.getfield 54, 3) := by decide +kernel
theorem dX6_leavesIn_39 : decode cX6_leavesIn 39 = .ok (.ifCond .le 5, 3) := by decide +kernel
theorem dX6_leavesIn_42 : decode cX6_leavesIn 42 = .ok (.iconst (-1), 1) := by decide +kernel
theorem dX6_leavesIn_43 : decode cX6_leavesIn 43 = .ok (.ireturn, 1) := by decide +kernel
theorem dX6_leavesIn_44 : decode cX6_leavesIn 44 = .ok (.aload_n 0, 1) := by decide +kernel
theorem dX6_leavesIn_45 : decode cX6_leavesIn 45 = .ok (.invokevirtual 148, 3) := by decide +kernel
theorem dX6_leavesIn_48 : decode cX6_leavesIn 48 = .ok (.iconst 0, 1) := by decide +kernel
theorem dX6_leavesIn_49 : decode cX6_leavesIn 49 = .ok (.istore_n 2, 1) := by decide +kernel
theorem dX6_leavesIn_50 : decode cX6_leavesIn 50 = .ok (.iload_n 2, 1) := by decide +kernel
theorem dX6_leavesIn_51 : decode cX6_leavesIn 51 = .ok (.sipush 300, 3) := by decide +kernel
theorem dX6_leavesIn_54 : decode cX6_leavesIn 54 = .ok (.if_icmp .ge 27, 3) := by decide +kernel
theorem dX6_leavesIn_57 : decode cX6_leavesIn 57 = .ok (.aload_n 0, 1) := by decide +kernel
theorem dX6_leavesIn_58 : decode cX6_leavesIn 58 = .ok (.getfield 41, 3) := by decide +kernel
theorem dX6_leavesIn_61 : decode cX6_leavesIn 61 = .ok (.bipush 82, 2) := by decide +kernel
theorem dX6_leavesIn_63 : decode cX6_leavesIn 63 = .ok (.iload_n 1, 1) := by decide +kernel
theorem dX6_leavesIn_64 : decode cX6_leavesIn 64 = .ok (.iadd, 1) := by decide +kernel
theorem dX6_leavesIn_65 : decode cX6_leavesIn 65 = .ok (.iaload, 1) := by decide +kernel
theorem dX6_leavesIn_66 : decode cX6_leavesIn 66 = .ok (.bipush 100, 2) := by decide +kernel
theorem dX6_leavesIn_68 : decode cX6_leavesIn 68 = .ok (.if_icmp .eq 13, 3) := by decide +kernel
theorem dX6_leavesIn_71 : decode cX6_leavesIn 71 = .ok (.aload_n 0, 1) := by decide +kernel
theorem dX6_leavesIn_72 : decode cX6_leavesIn 72 = .ok (.invokevirtual 135, 3) := by decide +kernel
theorem dX6_leavesIn_75 : decode cX6_leavesIn 75 = .ok (.iinc 2 1, 3) := by decide +kernel
theorem dX6_leavesIn_78 : decode cX6_leavesIn 78 = .ok (.goto (-28), 3) := by decide +kernel
theorem dX6_leavesIn_81 : decode cX6_leavesIn 81 = .ok (.aload_n 0, 1) := by decide +kernel
theorem dX6_leavesIn_82 : decode cX6_leavesIn 82 = .ok (.getfield 41, 3) := by decide +kernel
theorem dX6_leavesIn_85 : decode cX6_leavesIn 85 = .ok (.bipush 82, 2) := by decide +kernel
theorem dX6_leavesIn_87 : decode cX6_leavesIn 87 = .ok (.iload_n 1, 1) := by decide +kernel
theorem dX6_leavesIn_88 : decode cX6_leavesIn 88 = .ok (.iadd, 1) := by decide +kernel
theorem dX6_leavesIn_89 : decode cX6_leavesIn 89 = .ok (.iaload, 1) := by decide +kernel
theorem dX6_leavesIn_90 : decode cX6_leavesIn 90 = .ok (.bipush 100, 2) := by decide +kernel
theorem dX6_leavesIn_92 : decode cX6_leavesIn 92 = .ok (.if_icmp .ne 7, 3) := by decide +kernel
theorem dX6_leavesIn_95 : decode cX6_leavesIn 95 = .ok (.iconst 1, 1) := by decide +kernel
theorem dX6_leavesIn_96 : decode cX6_leavesIn 96 = .ok (.goto 4, 3) := by decide +kernel
theorem dX6_leavesIn_99 : decode cX6_leavesIn 99 = .ok (.iconst 0, 1) := by decide +kernel
theorem dX6_leavesIn_100 : decode cX6_leavesIn 100 = .ok (.istore_n 3, 1) := by decide +kernel
theorem dX6_leavesIn_101 : decode cX6_leavesIn 101 = .ok (.aload_n 0, 1) := by decide +kernel
theorem dX6_leavesIn_102 : decode cX6_leavesIn 102 = .ok (.invokevirtual 151, 3) := by decide +kernel
theorem dX6_leavesIn_105 : decode cX6_leavesIn 105 = .ok (.aload_n 0, 1) := by decide +kernel
theorem dX6_leavesIn_106 : decode cX6_leavesIn 106 = .ok (.iload_n 3, 1) := by decide +kernel
theorem dX6_leavesIn_107 : decode cX6_leavesIn 107 = .ok (.ifCond .eq 7, 3) := by decide +kernel
theorem dX6_leavesIn_110 : decode cX6_leavesIn 110 = .ok (.iconst 0, 1) := by decide +kernel
theorem dX6_leavesIn_111 : decode cX6_leavesIn 111 = .ok (.goto 4, 3) := by decide +kernel
theorem dX6_leavesIn_114 : decode cX6_leavesIn 114 = .ok (.iconst 3, 1) := by decide +kernel
theorem dX6_leavesIn_115 : decode cX6_leavesIn 115 = .ok (.putfield 54, 3) := by decide +kernel
theorem dX6_leavesIn_118 : decode cX6_leavesIn 118 = .ok (.iload_n 3, 1) := by decide +kernel
theorem dX6_leavesIn_119 : decode cX6_leavesIn 119 = .ok (.ifCond .eq 7, 3) := by decide +kernel
theorem dX6_leavesIn_122 : decode cX6_leavesIn 122 = .ok (.iload_n 2, 1) := by decide +kernel
theorem dX6_leavesIn_123 : decode cX6_leavesIn 123 = .ok (.goto 4, 3) := by decide +kernel
theorem dX6_leavesIn_126 : decode cX6_leavesIn 126 = .ok (.iconst (-1), 1) := by decide +kernel
theorem dX6_leavesIn_127 : decode cX6_leavesIn 127 = .ok (.ireturn, 1) := by decide +kernel
theorem dX6_leavesByTicks_0 : decode cX6_leavesByTicks 0 = .ok (.aload_n 0, 1) := by decide +kernel
theorem dX6_leavesByTicks_1 : decode cX6_leavesByTicks 1 = .ok (.iload_n 1, 1) := by decide +kernel
theorem dX6_leavesByTicks_2 : decode cX6_leavesByTicks 2 = .ok (.invokevirtual 154, 3) := by decide +kernel
theorem dX6_leavesByTicks_5 : decode cX6_leavesByTicks 5 = .ok (.ireturn, 1) := by decide +kernel
theorem dX6_nextToLeave_0 : decode cX6_nextToLeave 0 = .ok (.aload_n 0, 1) := by decide +kernel
theorem dX6_nextToLeave_1 : decode cX6_nextToLeave 1 = .ok (.invokevirtual 148, 3) := by decide +kernel
theorem dX6_nextToLeave_4 : decode cX6_nextToLeave 4 = .ok (.aload_n 0, 1) := by decide +kernel
theorem dX6_nextToLeave_5 : decode cX6_nextToLeave 5 = .ok (.getfield 41, 3) := by decide +kernel
theorem dX6_nextToLeave_8 : decode cX6_nextToLeave 8 = .ok (.sipush 235, 3) := by decide +kernel
theorem dX6_nextToLeave_11 : decode cX6_nextToLeave 11 = .ok (.iaload, 1) := by decide +kernel
theorem dX6_nextToLeave_12 : decode cX6_nextToLeave 12 = .ok (.istore_n 1, 1) := by decide +kernel
theorem dX6_nextToLeave_13 : decode cX6_nextToLeave 13 = .ok (.iconst 0, 1) := by decide +kernel
theorem dX6_nextToLeave_14 : decode cX6_nextToLeave 14 = .ok (.istore_n 2, 1) := by decide +kernel
theorem dX6_nextToLeave_15 : decode cX6_nextToLeave 15 = .ok (.iload_n 2, 1) := by decide +kernel
theorem dX6_nextToLeave_16 : decode cX6_nextToLeave 16 = .ok (.sipush 300, 3) := by decide +kernel
theorem dX6_nextToLeave_19 : decode cX6_nextToLeave 19 = .ok (.if_icmp .ge 32, 3) := by decide +kernel
theorem dX6_nextToLeave_22 : decode cX6_nextToLeave 22 = .ok (.aload_n 0, 1) := by decide +kernel
theorem dX6_nextToLeave_23 : decode cX6_nextToLeave 23 = .ok (.getfield 41, 3) := by decide +kernel
theorem dX6_nextToLeave_26 : decode cX6_nextToLeave 26 = .ok (.sipush 235, 3) := by decide +kernel
theorem dX6_nextToLeave_29 : decode cX6_nextToLeave 29 = .ok (.iaload, 1) := by decide +kernel
theorem dX6_nextToLeave_30 : decode cX6_nextToLeave 30 = .ok (.iload_n 1, 1) := by decide +kernel
theorem dX6_nextToLeave_31 : decode cX6_nextToLeave 31 = .ok (.if_icmp .ne 20, 3) := by decide +kernel
theorem dX6_nextToLeave_34 : decode cX6_nextToLeave 34 = .ok (.aload_n 0, 1) := by decide +kernel
theorem dX6_nextToLeave_35 : decode cX6_nextToLeave 35 = .ok (.getfield 71, 3) := by decide +kernel
theorem dX6_nextToLeave_38 : decode cX6_nextToLeave 38 = .ok (.ifCond .le 13, 3) := by decide +kernel
theorem dX6_nextToLeave_41 : decode cX6_nextToLeave 41 = .ok (.aload_n 0, 1) := by decide +kernel
theorem dX6_nextToLeave_42 : decode cX6_nextToLeave 42 = .ok (.invokevirtual 135, 3) := by decide +kernel
theorem dX6_nextToLeave_45 : decode cX6_nextToLeave 45 = .ok (.iinc 2 1, 3) := by decide +kernel
theorem dX6_nextToLeave_48 : decode cX6_nextToLeave 48 = .ok (.goto (-33), 3) := by decide +kernel
theorem dX6_nextToLeave_51 : decode cX6_nextToLeave 51 = .ok (.aload_n 0, 1) := by decide +kernel
theorem dX6_nextToLeave_52 : decode cX6_nextToLeave 52 = .ok (.getfield 41, 3) := by decide +kernel
theorem dX6_nextToLeave_55 : decode cX6_nextToLeave 55 = .ok (.sipush 235, 3) := by decide +kernel
theorem dX6_nextToLeave_58 : decode cX6_nextToLeave 58 = .ok (.iaload, 1) := by decide +kernel
theorem dX6_nextToLeave_59 : decode cX6_nextToLeave 59 = .ok (.iload_n 1, 1) := by decide +kernel
theorem dX6_nextToLeave_60 : decode cX6_nextToLeave 60 = .ok (.if_icmp .le 16, 3) := by decide +kernel
theorem dX6_nextToLeave_63 : decode cX6_nextToLeave 63 = .ok (.aload_n 0, 1) := by decide +kernel
theorem dX6_nextToLeave_64 : decode cX6_nextToLeave 64 = .ok (.getfield 41, 3) := by decide +kernel
theorem dX6_nextToLeave_67 : decode cX6_nextToLeave 67 = .ok (.sipush 202, 3) := by decide +kernel
theorem dX6_nextToLeave_70 : decode cX6_nextToLeave 70 = .ok (.iload_n 1, 1) := by decide +kernel
theorem dX6_nextToLeave_71 : decode cX6_nextToLeave 71 = .ok (.iadd, 1) := by decide +kernel
theorem dX6_nextToLeave_72 : decode cX6_nextToLeave 72 = .ok (.iaload, 1) := by decide +kernel
theorem dX6_nextToLeave_73 : decode cX6_nextToLeave 73 = .ok (.goto 4, 3) := by decide +kernel
theorem dX6_nextToLeave_76 : decode cX6_nextToLeave 76 = .ok (.iconst (-1), 1) := by decide +kernel
theorem dX6_nextToLeave_77 : decode cX6_nextToLeave 77 = .ok (.istore_n 2, 1) := by decide +kernel
theorem dX6_nextToLeave_78 : decode cX6_nextToLeave 78 = .ok (.aload_n 0, 1) := by decide +kernel
theorem dX6_nextToLeave_79 : decode cX6_nextToLeave 79 = .ok (.invokevirtual 151, 3) := by decide +kernel
theorem dX6_nextToLeave_82 : decode cX6_nextToLeave 82 = .ok (.aload_n 0, 1) := by decide +kernel
theorem dX6_nextToLeave_83 : decode cX6_nextToLeave 83 = .ok (.iload_n 2, 1) := by decide +kernel
theorem dX6_nextToLeave_84 : decode cX6_nextToLeave 84 = .ok (.iconst (-1), 1) := by decide +kernel
theorem dX6_nextToLeave_85 : decode cX6_nextToLeave 85 = .ok (.if_icmp .ne 7, 3) := by decide +kernel
theorem dX6_nextToLeave_88 : decode cX6_nextToLeave 88 = .ok (.iconst 1, 1) := by decide +kernel
theorem dX6_nextToLeave_89 : decode cX6_nextToLeave 89 = .ok (.goto 4, 3) := by decide +kernel
theorem dX6_nextToLeave_92 : decode cX6_nextToLeave 92 = .ok (.iconst 0, 1) := by decide +kernel
theorem dX6_nextToLeave_93 : decode cX6_nextToLeave 93 = .ok (.putfield 54, 3) := by decide +kernel
theorem dX6_nextToLeave_96 : decode cX6_nextToLeave 96 = .ok (.iload_n 2, 1) := by decide +kernel
theorem dX6_nextToLeave_97 : decode cX6_nextToLeave 97 = .ok (.ireturn, 1) := by decide +kernel
theorem dX6_traceLength_0 : decode cX6_traceLength 0 = .ok (.aload_n 0, 1) := by decide +kernel
theorem dX6_traceLength_1 : decode cX6_traceLength 1 = .ok (.iload_n 1, 1) := by decide +kernel
theorem dX6_traceLength_2 : decode cX6_traceLength 2 = .ok (.invokevirtual 138, 3) := by decide +kernel
theorem dX6_traceLength_5 : decode cX6_traceLength 5 = .ok (.ifCond .eq 7, 3) := by decide +kernel
theorem dX6_traceLength_8 : decode cX6_traceLength 8 = .ok (.iconst 0, 1) := by decide +kernel
theorem dX6_traceLength_9 : decode cX6_traceLength 9 = .ok (.goto 4, 3) := by decide +kernel
theorem dX6_traceLength_12 : decode cX6_traceLength 12 = .ok (.iconst (-1), 1) := by decide +kernel
theorem dX6_traceLength_13 : decode cX6_traceLength 13 = .ok (.istore_n 2, 1) := by decide +kernel
theorem dX6_traceLength_14 : decode cX6_traceLength 14 = .ok (.iconst 0, 1) := by decide +kernel
theorem dX6_traceLength_15 : decode cX6_traceLength 15 = .ok (.istore_n 3, 1) := by decide +kernel
theorem dX6_traceLength_16 : decode cX6_traceLength 16 = .ok (.iload_n 3, 1) := by decide +kernel
theorem dX6_traceLength_17 : decode cX6_traceLength 17 = .ok (.aload_n 0, 1) := by decide +kernel
theorem dX6_traceLength_18 : decode cX6_traceLength 18 = .ok (.getfield 104, 3) := by decide +kernel
theorem dX6_traceLength_21 : decode cX6_traceLength 21 = .ok (.if_icmp .ge 34, 3) := by decide +kernel
theorem dX6_traceLength_24 : decode cX6_traceLength 24 = .ok (.aload_n 0, 1) := by decide +kernel
theorem dX6_traceLength_25 : decode cX6_traceLength 25 = .ok (.getfield 54, 3) := by decide +kernel
theorem dX6_traceLength_28 : decode cX6_traceLength 28 = .ok (.ifCond .ne 27, 3) := by decide +kernel
theorem dX6_traceLength_31 : decode cX6_traceLength 31 = .ok (.iload_n 2, 1) := by decide +kernel
theorem dX6_traceLength_32 : decode cX6_traceLength 32 = .ok (.aload_n 0, 1) := by decide +kernel
theorem dX6_traceLength_33 : decode cX6_traceLength 33 = .ok (.getfield 51, 3) := by decide +kernel
theorem dX6_traceLength_36 : decode cX6_traceLength 36 = .ok (.iload_n 3, 1) := by decide +kernel
theorem dX6_traceLength_37 : decode cX6_traceLength 37 = .ok (.iaload, 1) := by decide +kernel
theorem dX6_traceLength_38 : decode cX6_traceLength 38 = .ok (.iload_n 1, 1) := by decide +kernel
theorem dX6_traceLength_39 : decode cX6_traceLength 39 = .ok (.if_icmp .ne 7, 3) := by decide +kernel
theorem dX6_traceLength_42 : decode cX6_traceLength 42 = .ok (.iconst 1, 1) := by decide +kernel
theorem dX6_traceLength_43 : decode cX6_traceLength 43 = .ok (.goto 4, 3) := by decide +kernel
theorem dX6_traceLength_46 : decode cX6_traceLength 46 = .ok (.iconst 0, 1) := by decide +kernel
theorem dX6_traceLength_47 : decode cX6_traceLength 47 = .ok (.iadd, 1) := by decide +kernel
theorem dX6_traceLength_48 : decode cX6_traceLength 48 = .ok (.istore_n 2, 1) := by decide +kernel
theorem dX6_traceLength_49 : decode cX6_traceLength 49 = .ok (.iinc 3 1, 3) := by decide +kernel
theorem dX6_traceLength_52 : decode cX6_traceLength 52 = .ok (.goto (-36), 3) := by decide +kernel
theorem dX6_traceLength_55 : decode cX6_traceLength 55 = .ok (.iload_n 2, 1) := by decide +kernel
theorem dX6_traceLength_56 : decode cX6_traceLength 56 = .ok (.ireturn, 1) := by decide +kernel
theorem dX6_traceAt_0 : decode cX6_traceAt 0 = .ok (.aload_n 0, 1) := by decide +kernel
theorem dX6_traceAt_1 : decode cX6_traceAt 1 = .ok (.iload_n 1, 1) := by decide +kernel
theorem dX6_traceAt_2 : decode cX6_traceAt 2 = .ok (.invokevirtual 138, 3) := by decide +kernel
theorem dX6_traceAt_5 : decode cX6_traceAt 5 = .ok (.ifCond .ne 6, 3) := by decide +kernel
theorem dX6_traceAt_8 : decode cX6_traceAt 8 = .ok (.bipush 32, 2) := by decide +kernel
theorem dX6_traceAt_10 : decode cX6_traceAt 10 = .ok (.ireturn, 1) := by decide +kernel
theorem dX6_traceAt_11 : decode cX6_traceAt 11 = .ok (.iconst 0, 1) := by decide +kernel
theorem dX6_traceAt_12 : decode cX6_traceAt 12 = .ok (.istore_n 3, 1) := by decide +kernel
theorem dX6_traceAt_13 : decode cX6_traceAt 13 = .ok (.iconst 0, 1) := by decide +kernel
theorem dX6_traceAt_14 : decode cX6_traceAt 14 = .ok (.istore 4, 2) := by decide +kernel
theorem dX6_traceAt_16 : decode cX6_traceAt 16 = .ok (.iload 4, 2) := by decide +kernel
theorem dX6_traceAt_18 : decode cX6_traceAt 18 = .ok (.aload_n 0, 1) := by decide +kernel
theorem dX6_traceAt_19 : decode cX6_traceAt 19 = .ok (.getfield 104, 3) := by decide +kernel
theorem dX6_traceAt_22 : decode cX6_traceAt 22 = .ok (.if_icmp .ge 52, 3) := by decide +kernel
theorem dX6_traceAt_25 : decode cX6_traceAt 25 = .ok (.aload_n 0, 1) := by decide +kernel
theorem dX6_traceAt_26 : decode cX6_traceAt 26 = .ok (.getfield 51, 3) := by decide +kernel
theorem dX6_traceAt_29 : decode cX6_traceAt 29 = .ok (.iload 4, 2) := by decide +kernel
theorem dX6_traceAt_31 : decode cX6_traceAt 31 = .ok (.iaload, 1) := by decide +kernel
theorem dX6_traceAt_32 : decode cX6_traceAt 32 = .ok (.iload_n 1, 1) := by decide +kernel
theorem dX6_traceAt_33 : decode cX6_traceAt 33 = .ok (.if_icmp .ne 16, 3) := by decide +kernel
theorem dX6_traceAt_36 : decode cX6_traceAt 36 = .ok (.iload_n 3, 1) := by decide +kernel
theorem dX6_traceAt_37 : decode cX6_traceAt 37 = .ok (.iload_n 2, 1) := by decide +kernel
theorem dX6_traceAt_38 : decode cX6_traceAt 38 = .ok (.if_icmp .ne 11, 3) := by decide +kernel
theorem dX6_traceAt_41 : decode cX6_traceAt 41 = .ok (.aload_n 0, 1) := by decide +kernel
theorem dX6_traceAt_42 : decode cX6_traceAt 42 = .ok (.getfield 47, 3) := by decide +kernel
theorem dX6_traceAt_45 : decode cX6_traceAt 45 = .ok (.iload 4, 2) := by decide +kernel
theorem dX6_traceAt_47 : decode cX6_traceAt 47 = .ok (.caload, 1) := by decide +kernel
theorem dX6_traceAt_48 : decode cX6_traceAt 48 = .ok (.ireturn, 1) := by decide +kernel
theorem dX6_traceAt_49 : decode cX6_traceAt 49 = .ok (.iload_n 3, 1) := by decide +kernel
theorem dX6_traceAt_50 : decode cX6_traceAt 50 = .ok (.aload_n 0, 1) := by decide +kernel
theorem dX6_traceAt_51 : decode cX6_traceAt 51 = .ok (.getfield 51, 3) := by decide +kernel
theorem dX6_traceAt_54 : decode cX6_traceAt 54 = .ok (.iload 4, 2) := by decide +kernel
theorem dX6_traceAt_56 : decode cX6_traceAt 56 = .ok (.iaload, 1) := by decide +kernel
theorem dX6_traceAt_57 : decode cX6_traceAt 57 = .ok (.iload_n 1, 1) := by decide +kernel
theorem dX6_traceAt_58 : decode cX6_traceAt 58 = .ok (.if_icmp .ne 7, 3) := by decide +kernel
theorem dX6_traceAt_61 : decode cX6_traceAt 61 = .ok (.iconst 1, 1) := by decide +kernel
theorem dX6_traceAt_62 : decode cX6_traceAt 62 = .ok (.goto 4, 3) := by decide +kernel
theorem dX6_traceAt_65 : decode cX6_traceAt 65 = .ok (.iconst 0, 1) := by decide +kernel
theorem dX6_traceAt_66 : decode cX6_traceAt 66 = .ok (.iadd, 1) := by decide +kernel
theorem dX6_traceAt_67 : decode cX6_traceAt 67 = .ok (.istore_n 3, 1) := by decide +kernel
theorem dX6_traceAt_68 : decode cX6_traceAt 68 = .ok (.iinc 4 1, 3) := by decide +kernel
theorem dX6_traceAt_71 : decode cX6_traceAt 71 = .ok (.goto (-55), 3) := by decide +kernel
theorem dX6_traceAt_74 : decode cX6_traceAt 74 = .ok (.aload_n 0, 1) := by decide +kernel
theorem dX6_traceAt_75 : decode cX6_traceAt 75 = .ok (.iconst 2, 1) := by decide +kernel
theorem dX6_traceAt_76 : decode cX6_traceAt 76 = .ok (.putfield 54, 3) := by decide +kernel
theorem dX6_traceAt_79 : decode cX6_traceAt 79 = .ok (.bipush 32, 2) := by decide +kernel
theorem dX6_traceAt_81 : decode cX6_traceAt 81 = .ok (.ireturn, 1) := by decide +kernel
theorem dX6_count_0 : decode cX6_count 0 = .ok (.iconst 0, 1) := by decide +kernel
theorem dX6_count_1 : decode cX6_count 1 = .ok (.istore_n 2, 1) := by decide +kernel
theorem dX6_count_2 : decode cX6_count 2 = .ok (.iconst 0, 1) := by decide +kernel
theorem dX6_count_3 : decode cX6_count 3 = .ok (.istore_n 3, 1) := by decide +kernel
theorem dX6_count_4 : decode cX6_count 4 = .ok (.iload_n 3, 1) := by decide +kernel
theorem dX6_count_5 : decode cX6_count 5 = .ok (.aload_n 0, 1) := by decide +kernel
theorem dX6_count_6 : decode cX6_count 6 = .ok (.getfield 104, 3) := by decide +kernel
theorem dX6_count_9 : decode cX6_count 9 = .ok (.if_icmp .ge 27, 3) := by decide +kernel
theorem dX6_count_12 : decode cX6_count 12 = .ok (.iload_n 2, 1) := by decide +kernel
theorem dX6_count_13 : decode cX6_count 13 = .ok (.aload_n 0, 1) := by decide +kernel
theorem dX6_count_14 : decode cX6_count 14 = .ok (.getfield 47, 3) := by decide +kernel
theorem dX6_count_17 : decode cX6_count 17 = .ok (.iload_n 3, 1) := by decide +kernel
theorem dX6_count_18 : decode cX6_count 18 = .ok (.caload, 1) := by decide +kernel
theorem dX6_count_19 : decode cX6_count 19 = .ok (.iload_n 1, 1) := by decide +kernel
theorem dX6_count_20 : decode cX6_count 20 = .ok (.if_icmp .ne 7, 3) := by decide +kernel
theorem dX6_count_23 : decode cX6_count 23 = .ok (.iconst 1, 1) := by decide +kernel
theorem dX6_count_24 : decode cX6_count 24 = .ok (.goto 4, 3) := by decide +kernel
theorem dX6_count_27 : decode cX6_count 27 = .ok (.iconst 0, 1) := by decide +kernel
theorem dX6_count_28 : decode cX6_count 28 = .ok (.iadd, 1) := by decide +kernel
theorem dX6_count_29 : decode cX6_count 29 = .ok (.istore_n 2, 1) := by decide +kernel
theorem dX6_count_30 : decode cX6_count 30 = .ok (.iinc 3 1, 3) := by decide +kernel
theorem dX6_count_33 : decode cX6_count 33 = .ok (.goto (-29), 3) := by decide +kernel
theorem dX6_count_36 : decode cX6_count 36 = .ok (.iload_n 2, 1) := by decide +kernel
theorem dX6_count_37 : decode cX6_count 37 = .ok (.ireturn, 1) := by decide +kernel
theorem dX6_countOf_0 : decode cX6_countOf 0 = .ok (.iload_n 1, 1) := by decide +kernel
theorem dX6_countOf_1 : decode cX6_countOf 1 = .ok (.bipush 43, 2) := by decide +kernel
theorem dX6_countOf_3 : decode cX6_countOf 3 = .ok (.if_icmp .eq 27, 3) := by decide +kernel
theorem dX6_countOf_6 : decode cX6_countOf 6 = .ok (.iload_n 1, 1) := by decide +kernel
theorem dX6_countOf_7 : decode cX6_countOf 7 = .ok (.bipush 45, 2) := by decide +kernel
theorem dX6_countOf_9 : decode cX6_countOf 9 = .ok (.if_icmp .eq 21, 3) := by decide +kernel
theorem dX6_countOf_12 : decode cX6_countOf 12 = .ok (.iload_n 1, 1) := by decide +kernel
theorem dX6_countOf_13 : decode cX6_countOf 13 = .ok (.bipush 46, 2) := by decide +kernel
theorem dX6_countOf_15 : decode cX6_countOf 15 = .ok (.if_icmp .eq 15, 3) := by decide +kernel
theorem dX6_countOf_18 : decode cX6_countOf 18 = .ok (.iload_n 1, 1) := by decide +kernel
theorem dX6_countOf_19 : decode cX6_countOf 19 = .ok (.bipush 76, 2) := by decide +kernel
theorem dX6_countOf_21 : decode cX6_countOf 21 = .ok (.if_icmp .eq 9, 3) := by decide +kernel
theorem dX6_countOf_24 : decode cX6_countOf 24 = .ok (.iload_n 1, 1) := by decide +kernel
theorem dX6_countOf_25 : decode cX6_countOf 25 = .ok (.bipush 120, 2) := by decide +kernel
theorem dX6_countOf_27 : decode cX6_countOf 27 = .ok (.if_icmp .ne 7, 3) := by decide +kernel
theorem dX6_countOf_30 : decode cX6_countOf 30 = .ok (.iconst 1, 1) := by decide +kernel
theorem dX6_countOf_31 : decode cX6_countOf 31 = .ok (.goto 4, 3) := by decide +kernel
theorem dX6_countOf_34 : decode cX6_countOf 34 = .ok (.iconst 0, 1) := by decide +kernel
theorem dX6_countOf_35 : decode cX6_countOf 35 = .ok (.istore_n 2, 1) := by decide +kernel
theorem dX6_countOf_36 : decode cX6_countOf 36 = .ok (.aload_n 0, 1) := by decide +kernel
theorem dX6_countOf_37 : decode cX6_countOf 37 = .ok (.iload_n 2, 1) := by decide +kernel
theorem dX6_countOf_38 : decode cX6_countOf 38 = .ok (.ifCond .eq 7, 3) := by decide +kernel
theorem dX6_countOf_41 : decode cX6_countOf 41 = .ok (.iconst 0, 1) := by decide +kernel
theorem dX6_countOf_42 : decode cX6_countOf 42 = .ok (.goto 4, 3) := by decide +kernel
theorem dX6_countOf_45 : decode cX6_countOf 45 = .ok (.iconst 1, 1) := by decide +kernel
theorem dX6_countOf_46 : decode cX6_countOf 46 = .ok (.putfield 54, 3) := by decide +kernel
theorem dX6_countOf_49 : decode cX6_countOf 49 = .ok (.iload_n 2, 1) := by decide +kernel
theorem dX6_countOf_50 : decode cX6_countOf 50 = .ok (.ifCond .eq 11, 3) := by decide +kernel
theorem dX6_countOf_53 : decode cX6_countOf 53 = .ok (.aload_n 0, 1) := by decide +kernel
theorem dX6_countOf_54 : decode cX6_countOf 54 = .ok (.iload_n 1, 1) := by decide +kernel
theorem dX6_countOf_55 : decode cX6_countOf 55 = .ok (.invokevirtual 157, 3) := by decide +kernel
theorem dX6_countOf_58 : decode cX6_countOf 58 = .ok (.goto 4, 3) := by decide +kernel
theorem dX6_countOf_61 : decode cX6_countOf 61 = .ok (.iconst (-1), 1) := by decide +kernel
theorem dX6_countOf_62 : decode cX6_countOf 62 = .ok (.ireturn, 1) := by decide +kernel
theorem dX6_fitted_0 : decode cX6_fitted 0 = .ok (.aload_n 0, 1) := by decide +kernel
theorem dX6_fitted_1 : decode cX6_fitted 1 = .ok (.iconst 0, 1) := by decide +kernel
theorem dX6_fitted_2 : decode cX6_fitted 2 = .ok (.putfield 54, 3) := by decide +kernel
theorem dX6_fitted_5 : decode cX6_fitted 5 = .ok (.aload_n 0, 1) := by decide +kernel
theorem dX6_fitted_6 : decode cX6_fitted 6 = .ok (.getfield 111, 3) := by decide +kernel
theorem dX6_fitted_9 : decode cX6_fitted 9 = .ok (.lreturn, 1) := by decide +kernel
theorem dX6_lackShare_0 : decode cX6_lackShare 0 = .ok (.aload_n 0, 1) := by decide +kernel
theorem dX6_lackShare_1 : decode cX6_lackShare 1 = .ok (.bipush 45, 2) := by decide +kernel
