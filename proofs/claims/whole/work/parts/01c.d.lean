theorem inJx3cf43 : ∀ w ∈ wsJx3cf430, w ∈ lw_tbl := by decide +kernel
theorem inJ3 : ∀ w ∈ wsJ30, w ∈ lw_tbl := by decide +kernel
theorem dX0_init_0 : decode cX0_init 0 = .ok (.aload_n 0, 1) := by decide +kernel
theorem dX0_init_1 : decode cX0_init 1 = .ok (.invokespecial 3, 3) := by decide +kernel
theorem dX0_init_4 : decode cX0_init 4 = .ok (.aload_n 0, 1) := by decide +kernel
theorem dX0_init_5 : decode cX0_init 5 = .ok (.bipush 119, 2) := by decide +kernel
theorem dX0_init_7 : decode cX0_init 7 = .ok (.putfield 9, 3) := by decide +kernel
theorem dX0_init_10 : decode cX0_init 10 = .ok (.aload_n 0, 1) := by decide +kernel
theorem dX0_init_11 : decode cX0_init 11 = .ok (.iconst (-1), 1) := by decide +kernel
theorem dX0_init_12 : decode cX0_init 12 = .ok (.putfield 15, 3) := by decide +kernel
theorem dX0_init_15 : decode cX0_init 15 = .ok (.aload_n 0, 1) := by decide +kernel
theorem dX0_init_16 : decode cX0_init 16 = .ok (.iload_n 1, 1) := by decide +kernel
theorem dX0_init_17 : decode cX0_init 17 = .ok (.putfield 19, 3) := by decide +kernel
theorem dX0_init_20 : decode cX0_init 20 = .ok (.aload_n 0, 1) := by decide +kernel
theorem dX0_init_21 : decode cX0_init 21 = .ok (.aload_n 2, 1) := by decide +kernel
theorem dX0_init_22 : decode cX0_init 22 = .ok (.putfield 22, 3) := by decide +kernel
theorem dX0_init_25 : decode cX0_init 25 = .ok (.return_, 1) := by decide +kernel
theorem dX0_copyFrom_0 : decode cX0_copyFrom 0 = .ok (.aload_n 0, 1) := by decide +kernel
theorem dX0_copyFrom_1 : decode cX0_copyFrom 1 = .ok (.aload_n 1, 1) := by decide +kernel
theorem dX0_copyFrom_2 : decode cX0_copyFrom 2 = .ok (.getfield 26, 3) := by decide +kernel
theorem dX0_copyFrom_5 : decode cX0_copyFrom 5 = .ok (.putfield 26, 3) := by decide +kernel
theorem dX0_copyFrom_8 : decode cX0_copyFrom 8 = .ok (.aload_n 0, 1) := by decide +kernel
theorem dX0_copyFrom_9 : decode cX0_copyFrom 9 = .ok (.aload_n 1, 1) := by decide +kernel
theorem dX0_copyFrom_10 : decode cX0_copyFrom 10 = .ok (.getfield 9, 3) := by decide +kernel
theorem dX0_copyFrom_13 : decode cX0_copyFrom 13 = .ok (.putfield 9, 3) := by decide +kernel
theorem dX0_copyFrom_16 : decode cX0_copyFrom 16 = .ok (.aload_n 0, 1) := by decide +kernel
theorem dX0_copyFrom_17 : decode cX0_copyFrom 17 = .ok (.aload_n 1, 1) := by decide +kernel
theorem dX0_copyFrom_18 : decode cX0_copyFrom 18 = .ok (.getfield 15, 3) := by decide +kernel
theorem dX0_copyFrom_21 : decode cX0_copyFrom 21 = .ok (.putfield 15, 3) := by decide +kernel
theorem dX0_copyFrom_24 : decode cX0_copyFrom 24 = .ok (.aload_n 0, 1) := by decide +kernel
theorem dX0_copyFrom_25 : decode cX0_copyFrom 25 = .ok (.aload_n 1, 1) := by decide +kernel
theorem dX0_copyFrom_26 : decode cX0_copyFrom 26 = .ok (.getfield 29, 3) := by decide +kernel
theorem dX0_copyFrom_29 : decode cX0_copyFrom 29 = .ok (.putfield 29, 3) := by decide +kernel
theorem dX0_copyFrom_32 : decode cX0_copyFrom 32 = .ok (.aload_n 0, 1) := by decide +kernel
theorem dX0_copyFrom_33 : decode cX0_copyFrom 33 = .ok (.aload_n 1, 1) := by decide +kernel
theorem dX0_copyFrom_34 : decode cX0_copyFrom 34 = .ok (.getfield 32, 3) := by decide +kernel
theorem dX0_copyFrom_37 : decode cX0_copyFrom 37 = .ok (.putfield 32, 3) := by decide +kernel
theorem dX0_copyFrom_40 : decode cX0_copyFrom 40 = .ok (.aload_n 0, 1) := by decide +kernel
theorem dX0_copyFrom_41 : decode cX0_copyFrom 41 = .ok (.aload_n 1, 1) := by decide +kernel
theorem dX0_copyFrom_42 : decode cX0_copyFrom 42 = .ok (.getfield 36, 3) := by decide +kernel
theorem dX0_copyFrom_45 : decode cX0_copyFrom 45 = .ok (.putfield 36, 3) := by decide +kernel
theorem dX0_copyFrom_48 : decode cX0_copyFrom 48 = .ok (.aload_n 0, 1) := by decide +kernel
theorem dX0_copyFrom_49 : decode cX0_copyFrom 49 = .ok (.aload_n 1, 1) := by decide +kernel
theorem dX0_copyFrom_50 : decode cX0_copyFrom 50 = .ok (.getfield 39, 3) := by decide +kernel
theorem dX0_copyFrom_53 : decode cX0_copyFrom 53 = .ok (.putfield 39, 3) := by decide +kernel
theorem dX0_copyFrom_56 : decode cX0_copyFrom 56 = .ok (.aload_n 0, 1) := by decide +kernel
theorem dX0_copyFrom_57 : decode cX0_copyFrom 57 = .ok (.aload_n 1, 1) := by decide +kernel
theorem dX0_copyFrom_58 : decode cX0_copyFrom 58 = .ok (.getfield 42, 3) := by decide +kernel
theorem dX0_copyFrom_61 : decode cX0_copyFrom 61 = .ok (.putfield 42, 3) := by decide +kernel
theorem dX0_copyFrom_64 : decode cX0_copyFrom 64 = .ok (.aload_n 0, 1) := by decide +kernel
theorem dX0_copyFrom_65 : decode cX0_copyFrom 65 = .ok (.aload_n 1, 1) := by decide +kernel
theorem dX0_copyFrom_66 : decode cX0_copyFrom 66 = .ok (.getfield 45, 3) := by decide +kernel
theorem dX0_copyFrom_69 : decode cX0_copyFrom 69 = .ok (.putfield 45, 3) := by decide +kernel
theorem dX0_copyFrom_72 : decode cX0_copyFrom 72 = .ok (.return_, 1) := by decide +kernel
theorem dX0_isWanting_0 : decode cX0_isWanting 0 = .ok (.aload_n 0, 1) := by decide +kernel
theorem dX0_isWanting_1 : decode cX0_isWanting 1 = .ok (.getfield 26, 3) := by decide +kernel
theorem dX0_isWanting_4 : decode cX0_isWanting 4 = .ok (.iload_n 1, 1) := by decide +kernel
theorem dX0_isWanting_5 : decode cX0_isWanting 5 = .ok (.ishr, 1) := by decide +kernel
theorem dX0_isWanting_6 : decode cX0_isWanting 6 = .ok (.iconst 1, 1) := by decide +kernel
theorem dX0_isWanting_7 : decode cX0_isWanting 7 = .ok (.iand, 1) := by decide +kernel
theorem dX0_isWanting_8 : decode cX0_isWanting 8 = .ok (.ifCond .eq 7, 3) := by decide +kernel
theorem dX0_isWanting_11 : decode cX0_isWanting 11 = .ok (.iconst 1, 1) := by decide +kernel
theorem dX0_isWanting_12 : decode cX0_isWanting 12 = .ok (.goto 4, 3) := by decide +kernel
theorem dX0_isWanting_15 : decode cX0_isWanting 15 = .ok (.iconst 0, 1) := by decide +kernel
theorem dX0_isWanting_16 : decode cX0_isWanting 16 = .ok (.ireturn, 1) := by decide +kernel
theorem dX0_hasEntered_0 : decode cX0_hasEntered 0 = .ok (.aload_n 0, 1) := by decide +kernel
theorem dX0_hasEntered_1 : decode cX0_hasEntered 1 = .ok (.getfield 39, 3) := by decide +kernel
theorem dX0_hasEntered_4 : decode cX0_hasEntered 4 = .ok (.iload_n 1, 1) := by decide +kernel
theorem dX0_hasEntered_5 : decode cX0_hasEntered 5 = .ok (.ishr, 1) := by decide +kernel
theorem dX0_hasEntered_6 : decode cX0_hasEntered 6 = .ok (.iconst 1, 1) := by decide +kernel
theorem dX0_hasEntered_7 : decode cX0_hasEntered 7 = .ok (.iand, 1) := by decide +kernel
theorem dX0_hasEntered_8 : decode cX0_hasEntered 8 = .ok (.ifCond .eq 7, 3) := by decide +kernel
theorem dX0_hasEntered_11 : decode cX0_hasEntered 11 = .ok (.iconst 1, 1) := by decide +kernel
theorem dX0_hasEntered_12 : decode cX0_hasEntered 12 = .ok (.goto 4, 3) := by decide +kernel
theorem dX0_hasEntered_15 : decode cX0_hasEntered 15 = .ok (.iconst 0, 1) := by decide +kernel
theorem dX0_hasEntered_16 : decode cX0_hasEntered 16 = .ok (.ireturn, 1) := by decide +kernel
theorem dX0_isFaulty_0 : decode cX0_isFaulty 0 = .ok (.aload_n 0, 1) := by decide +kernel
theorem dX0_isFaulty_1 : decode cX0_isFaulty 1 = .ok (.getfield 36, 3) := by decide +kernel
theorem dX0_isFaulty_4 : decode cX0_isFaulty 4 = .ok (.iload_n 1, 1) := by decide +kernel
theorem dX0_isFaulty_5 : decode cX0_isFaulty 5 = .ok (.ishr, 1) := by decide +kernel
theorem dX0_isFaulty_6 : decode cX0_isFaulty 6 = .ok (.iconst 1, 1) := by decide +kernel
theorem dX0_isFaulty_7 : decode cX0_isFaulty 7 = .ok (.iand, 1) := by decide +kernel
theorem dX0_isFaulty_8 : decode cX0_isFaulty 8 = .ok (.ifCond .eq 7, 3) := by decide +kernel
theorem dX0_isFaulty_11 : decode cX0_isFaulty 11 = .ok (.iconst 1, 1) := by decide +kernel
theorem dX0_isFaulty_12 : decode cX0_isFaulty 12 = .ok (.goto 4, 3) := by decide +kernel
theorem dX0_isFaulty_15 : decode cX0_isFaulty 15 = .ok (.iconst 0, 1) := by decide +kernel
theorem dX0_isFaulty_16 : decode cX0_isFaulty 16 = .ok (.ireturn, 1) := by decide +kernel
theorem dX0_openFault_0 : decode cX0_openFault 0 = .ok (.aload_n 0, 1) := by decide +kernel
theorem dX0_openFault_1 : decode cX0_openFault 1 = .ok (.dup, 1) := by decide +kernel
theorem dX0_openFault_2 : decode cX0_openFault 2 = .ok (.getfield 36, 3) := by decide +kernel
theorem dX0_openFault_5 : decode cX0_openFault 5 = .ok (.iconst 1, 1) := by decide +kernel
theorem dX0_openFault_6 : decode cX0_openFault 6 = .ok (.iload_n 1, 1) := by decide +kernel
theorem dX0_openFault_7 : decode cX0_openFault 7 = .ok (.ishl, 1) := by decide +kernel
theorem dX0_openFault_8 : decode cX0_openFault 8 = .ok (.ior, 1) := by decide +kernel
theorem dX0_openFault_9 : decode cX0_openFault 9 = .ok (.putfield 36, 3) := by decide +kernel
theorem dX0_openFault_12 : decode cX0_openFault 12 = .ok (.return_, 1) := by decide +kernel
theorem dX0_closeFault_0 : decode cX0_closeFault 0 = .ok (.aload_n 0, 1) := by decide +kernel
theorem dX0_closeFault_1 : decode cX0_closeFault 1 = .ok (.dup, 1) := by decide +kernel
theorem dX0_closeFault_2 : decode cX0_closeFault 2 = .ok (.getfield 36, 3) := by decide +kernel
theorem dX0_closeFault_5 : decode cX0_closeFault 5 = .ok (.iconst 1, 1) := by decide +kernel
theorem dX0_closeFault_6 : decode cX0_closeFault 6 = .ok (.iload_n 1, 1) := by decide +kernel
theorem dX0_closeFault_7 : decode cX0_closeFault 7 = .ok (.ishl, 1) := by decide +kernel
theorem dX0_closeFault_8 : decode cX0_closeFault 8 = .ok (.iconst (-1), 1) := by decide +kernel
theorem dX0_closeFault_9 : decode cX0_closeFault 9 = .ok (.ixor, 1) := by decide +kernel
theorem dX0_closeFault_10 : decode cX0_closeFault 10 = .ok (.iand, 1) := by decide +kernel
theorem dX0_closeFault_11 : decode cX0_closeFault 11 = .ok (.putfield 36, 3) := by decide +kernel
theorem dX0_closeFault_14 : decode cX0_closeFault 14 = .ok (.return_, 1) := by decide +kernel
set_option maxRecDepth 20000 in
theorem ggX0_faultCount_J6_bitCount_0f7a4 : GoodIn wsX0_faultCount wsJ6_bitCount_0f7a4 := goodIn_r _ [5, 6, 7, 8] (by decide +kernel) (by decide +kernel)
set_option maxRecDepth 20000 in
theorem gX0_faultCount_J6_bitCount_0f7a4 : GoodIn wsX0_faultCount (va_wsS RX0 48 yJ6_bitCount_0f7a4 wsJ6_bitCount_0f7a4) := goodIn_app (goodIn_of _ (by decide +kernel)) ggX0_faultCount_J6_bitCount_0f7a4
theorem dX0_faultCount_0 : decode cX0_faultCount 0 = .ok (.aload_n 0, 1) := by decide +kernel
theorem dX0_faultCount_1 : decode cX0_faultCount 1 = .ok (.getfield 36, 3) := by decide +kernel
theorem dX0_faultCount_4 : decode cX0_faultCount 4 = .ok (.invokestatic 48, 3) := by decide +kernel
theorem dX0_faultCount_7 : decode cX0_faultCount 7 = .ok (.ireturn, 1) := by decide +kernel
set_option maxRecDepth 20000 in
theorem ggX0_lowestFault_X0_isFaulty : GoodIn wsX0_lowestFault wsX0_isFaulty := goodIn_r _ [5, 6, 7, 8, 9, 10, 11, 12, 13, 14, 15, 16, 17] (by decide +kernel) (by decide +kernel)
set_option maxRecDepth 20000 in
theorem gX0_lowestFault_X0_isFaulty : GoodIn wsX0_lowestFault (wsV RX0 54 RX0 yX0_isFaulty wsX0_isFaulty) := goodIn_app (goodIn_of _ (by decide +kernel)) ggX0_lowestFault_X0_isFaulty
theorem dX0_lowestFault_0 : decode cX0_lowestFault 0 = .ok (.iconst 0, 1) := by decide +kernel
theorem dX0_lowestFault_1 : decode cX0_lowestFault 1 = .ok (.istore_n 1, 1) := by decide +kernel
theorem dX0_lowestFault_2 : decode cX0_lowestFault 2 = .ok (.iload_n 1, 1) := by decide +kernel
theorem dX0_lowestFault_3 : decode cX0_lowestFault 3 = .ok (.bipush 8, 2) := by decide +kernel
theorem dX0_lowestFault_5 : decode cX0_lowestFault 5 = .ok (.if_icmp .ge 19, 3) := by decide +kernel
theorem dX0_lowestFault_8 : decode cX0_lowestFault 8 = .ok (.aload_n 0, 1) := by decide +kernel
theorem dX0_lowestFault_9 : decode cX0_lowestFault 9 = .ok (.iload_n 1, 1) := by decide +kernel
theorem dX0_lowestFault_10 : decode cX0_lowestFault 10 = .ok (.invokevirtual 54, 3) := by decide +kernel
theorem dX0_lowestFault_13 : decode cX0_lowestFault 13 = .ok (.ifCond .eq 5, 3) := by decide +kernel
theorem dX0_lowestFault_16 : decode cX0_lowestFault 16 = .ok (.iload_n 1, 1) := by decide +kernel
theorem dX0_lowestFault_17 : decode cX0_lowestFault 17 = .ok (.ireturn, 1) := by decide +kernel
theorem dX0_lowestFault_18 : decode cX0_lowestFault 18 = .ok (.iinc 1 1, 3) := by decide +kernel
theorem dX0_lowestFault_21 : decode cX0_lowestFault 21 = .ok (.goto (-19), 3) := by decide +kernel
theorem dX0_lowestFault_24 : decode cX0_lowestFault 24 = .ok (.iconst (-1), 1) := by decide +kernel
theorem dX0_lowestFault_25 : decode cX0_lowestFault 25 = .ok (.ireturn, 1) := by decide +kernel
theorem dX0_stand_0 : decode cX0_stand 0 = .ok (.aload_n 0, 1) := by decide +kernel
theorem dX0_stand_1 : decode cX0_stand 1 = .ok (.bipush 115, 2) := by decide +kernel
theorem dX0_stand_3 : decode cX0_stand 3 = .ok (.putfield 9, 3) := by decide +kernel
theorem dX0_stand_6 : decode cX0_stand 6 = .ok (.aload_n 0, 1) := by decide +kernel
theorem dX0_stand_7 : decode cX0_stand 7 = .ok (.iload_n 1, 1) := by decide +kernel
theorem dX0_stand_8 : decode cX0_stand 8 = .ok (.putfield 15, 3) := by decide +kernel
theorem dX0_stand_11 : decode cX0_stand 11 = .ok (.aload_n 0, 1) := by decide +kernel
theorem dX0_stand_12 : decode cX0_stand 12 = .ok (.iload_n 2, 1) := by decide +kernel
theorem dX0_stand_13 : decode cX0_stand 13 = .ok (.putfield 29, 3) := by decide +kernel
theorem dX0_stand_16 : decode cX0_stand 16 = .ok (.aload_n 0, 1) := by decide +kernel
theorem dX0_stand_17 : decode cX0_stand 17 = .ok (.iload_n 3, 1) := by decide +kernel
theorem dX0_stand_18 : decode cX0_stand 18 = .ok (.putfield 32, 3) := by decide +kernel
theorem dX0_stand_21 : decode cX0_stand 21 = .ok (.aload_n 0, 1) := by decide +kernel
theorem dX0_stand_22 : decode cX0_stand 22 = .ok (.dup, 1) := by decide +kernel
theorem dX0_stand_23 : decode cX0_stand 23 = .ok (.getfield 39, 3) := by decide +kernel
theorem dX0_stand_26 : decode cX0_stand 26 = .ok (.iconst 1, 1) := by decide +kernel
theorem dX0_stand_27 : decode cX0_stand 27 = .ok (.iload_n 1, 1) := by decide +kernel
theorem dX0_stand_28 : decode cX0_stand 28 = .ok (.ishl, 1) := by decide +kernel
theorem dX0_stand_29 : decode cX0_stand 29 = .ok (.ior, 1) := by decide +kernel
theorem dX0_stand_30 : decode cX0_stand 30 = .ok (.putfield 39, 3) := by decide +kernel
theorem dX0_stand_33 : decode cX0_stand 33 = .ok (.return_, 1) := by decide +kernel
theorem dX0_goAway_0 : decode cX0_goAway 0 = .ok (.aload_n 0, 1) := by decide +kernel
theorem dX0_goAway_1 : decode cX0_goAway 1 = .ok (.iload_n 1, 1) := by decide +kernel
theorem dX0_goAway_2 : decode cX0_goAway 2 = .ok (.putfield 9, 3) := by decide +kernel
theorem dX0_goAway_5 : decode cX0_goAway 5 = .ok (.aload_n 0, 1) := by decide +kernel
theorem dX0_goAway_6 : decode cX0_goAway 6 = .ok (.iconst (-1), 1) := by decide +kernel
theorem dX0_goAway_7 : decode cX0_goAway 7 = .ok (.putfield 15, 3) := by decide +kernel
theorem dX0_goAway_10 : decode cX0_goAway 10 = .ok (.aload_n 0, 1) := by decide +kernel
theorem dX0_goAway_11 : decode cX0_goAway 11 = .ok (.iconst 0, 1) := by decide +kernel
theorem dX0_goAway_12 : decode cX0_goAway 12 = .ok (.putfield 29, 3) := by decide +kernel
theorem dX0_goAway_15 : decode cX0_goAway 15 = .ok (.aload_n 0, 1) := by decide +kernel
theorem dX0_goAway_16 : decode cX0_goAway 16 = .ok (.iconst 0, 1) := by decide +kernel
theorem dX0_goAway_17 : decode cX0_goAway 17 = .ok (.putfield 32, 3) := by decide +kernel
theorem dX0_goAway_20 : decode cX0_goAway 20 = .ok (.return_, 1) := by decide +kernel
set_option maxRecDepth 20000 in
theorem ggX1_init_X2_init : GoodIn wsX1_init wsX2_init := goodIn_r _ [25, 26, 2, 3, 8, 27, 57, 58] (by decide +kernel) (by decide +kernel)
set_option maxRecDepth 20000 in
theorem gX1_init_X2_init_n29 : GoodIn wsX1_init (wsX2_init) := ggX1_init_X2_init
set_option maxRecDepth 20000 in
theorem ggX1_init_X3_init : GoodIn wsX1_init wsX3_init := goodIn_r _ [29, 30, 2, 3, 31, 32, 59, 60, 61, 62, 63, 64, 65, 66] (by decide +kernel) (by decide +kernel)
set_option maxRecDepth 20000 in
theorem gX1_init_X3_init_n44 : GoodIn wsX1_init (wsX3_init) := ggX1_init_X3_init
set_option maxRecDepth 20000 in
theorem ggX1_init_X4_init : GoodIn wsX1_init wsX4_init := goodIn_r _ [34, 35, 2, 3, 36, 37, 8, 38, 78, 79, 80] (by decide +kernel) (by decide +kernel)
set_option maxRecDepth 20000 in
theorem gX1_init_X4_init_n47 : GoodIn wsX1_init (wsX4_init) := ggX1_init_X4_init
set_option maxRecDepth 20000 in
theorem ggX1_init_X0_init : GoodIn wsX1_init wsX0_init := goodIn_r _ [41, 42, 2, 3, 43, 44, 45, 46, 67, 68, 69, 70, 71, 72, 73, 74, 75, 76, 77] (by decide +kernel) (by decide +kernel)
set_option maxRecDepth 20000 in
theorem gX1_init_X0_init : GoodIn wsX1_init (wsX0_init) := ggX1_init_X0_init
theorem dX1_init_0 : decode cX1_init 0 = .ok (.aload_n 0, 1) := by decide +kernel
theorem dX1_init_1 : decode cX1_init 1 = .ok (.invokespecial 3, 3) := by decide +kernel
theorem dX1_init_4 : decode cX1_init 4 = .ok (.aload_n 0, 1) := by decide +kernel
theorem dX1_init_5 : decode cX1_init 5 = .ok (.bipush 8, 2) := by decide +kernel
theorem dX1_init_7 : decode cX1_init 7 = .ok (.anewarray 9, 3) := by decide +kernel
theorem dX1_init_10 : decode cX1_init 10 = .ok (.putfield 11, 3) := by decide +kernel
theorem dX1_init_13 : decode cX1_init 13 = .ok (.aload_n 0, 1) := by decide +kernel
theorem dX1_init_14 : decode cX1_init 14 = .ok (.bipush 30, 2) := by decide +kernel
theorem dX1_init_16 : decode cX1_init 16 = .ok (.anewarray 17, 3) := by decide +kernel
theorem dX1_init_19 : decode cX1_init 19 = .ok (.putfield 19, 3) := by decide +kernel
theorem dX1_init_22 : decode cX1_init 22 = .ok (.aload_n 0, 1) := by decide +kernel
theorem dX1_init_23 : decode cX1_init 23 = .ok (.bipush 6, 2) := by decide +kernel
theorem dX1_init_25 : decode cX1_init 25 = .ok (.newarray .int, 2) := by decide +kernel
theorem dX1_init_27 : decode cX1_init 27 = .ok (.putfield 23, 3) := by decide +kernel
theorem dX1_init_30 : decode cX1_init 30 = .ok (.aload_n 0, 1) := by decide +kernel
theorem dX1_init_31 : decode cX1_init 31 = .ok (.new 27, 3) := by decide +kernel
theorem dX1_init_34 : decode cX1_init 34 = .ok (.dup, 1) := by decide +kernel
theorem dX1_init_35 : decode cX1_init 35 = .ok (.invokespecial 29, 3) := by decide +kernel
theorem dX1_init_38 : decode cX1_init 38 = .ok (.putfield 30, 3) := by decide +kernel
theorem dX1_init_41 : decode cX1_init 41 = .ok (.aload_n 0, 1) := by decide +kernel
theorem dX1_init_42 : decode cX1_init 42 = .ok (.new 27, 3) := by decide +kernel
theorem dX1_init_45 : decode cX1_init 45 = .ok (.dup, 1) := by decide +kernel
theorem dX1_init_46 : decode cX1_init 46 = .ok (.invokespecial 29, 3) := by decide +kernel
theorem dX1_init_49 : decode cX1_init 49 = .ok (.putfield 34, 3) := by decide +kernel
theorem dX1_init_52 : decode cX1_init 52 = .ok (.aload_n 0, 1) := by decide +kernel
theorem dX1_init_53 : decode cX1_init 53 = .ok (.new 27, 3) := by decide +kernel
theorem dX1_init_56 : decode cX1_init 56 = .ok (.dup, 1) := by decide +kernel
theorem dX1_init_57 : decode cX1_init 57 = .ok (.invokespecial 29, 3) := by decide +kernel
theorem dX1_init_60 : decode cX1_init 60 = .ok (.putfield 37, 3) := by decide +kernel
theorem dX1_init_63 : decode cX1_init 63 = .ok (.aload_n 0, 1) := by decide +kernel
theorem dX1_init_64 : decode cX1_init 64 = .ok (.bipush 10, 2) := by decide +kernel
theorem dX1_init_66 : decode cX1_init 66 = .ok (.putfield 40, 3) := by decide +kernel
theorem dX1_init_69 : decode cX1_init 69 = .ok (.iconst 0, 1) := by decide +kernel
theorem dX1_init_70 : decode cX1_init 70 = .ok (.istore_n 2, 1) := by decide +kernel
theorem dX1_init_71 : decode cX1_init 71 = .ok (.iload_n 2, 1) := by decide +kernel
theorem dX1_init_72 : decode cX1_init 72 = .ok (.aload_n 0, 1) := by decide +kernel
theorem dX1_init_73 : decode cX1_init 73 = .ok (.getfield 11, 3) := by decide +kernel
theorem dX1_init_76 : decode cX1_init 76 = .ok (.arraylength, 1) := by decide +kernel
theorem dX1_init_77 : decode cX1_init 77 = .ok (.if_icmp .ge 22, 3) := by decide +kernel
theorem dX1_init_80 : decode cX1_init 80 = .ok (.aload_n 0, 1) := by decide +kernel
theorem dX1_init_81 : decode cX1_init 81 = .ok (.getfield 11, 3) := by decide +kernel
theorem dX1_init_84 : decode cX1_init 84 = .ok (.iload_n 2, 1) := by decide +kernel
theorem dX1_init_85 : decode cX1_init 85 = .ok (.new 9, 3) := by decide +kernel
theorem dX1_init_88 : decode cX1_init 88 = .ok (.dup, 1) := by decide +kernel
theorem dX1_init_89 : decode cX1_init 89 = .ok (.invokespecial 44, 3) := by decide +kernel
theorem dX1_init_92 : decode cX1_init 92 = .ok (.aastore, 1) := by decide +kernel
theorem dX1_init_93 : decode cX1_init 93 = .ok (.iinc 2 1, 3) := by decide +kernel
theorem dX1_init_96 : decode cX1_init 96 = .ok (.goto (-25), 3) := by decide +kernel
theorem dX1_init_99 : decode cX1_init 99 = .ok (.iconst 0, 1) := by decide +kernel
theorem dX1_init_100 : decode cX1_init 100 = .ok (.istore_n 2, 1) := by decide +kernel
theorem dX1_init_101 : decode cX1_init 101 = .ok (.iload_n 2, 1) := by decide +kernel
theorem dX1_init_102 : decode cX1_init 102 = .ok (.aload_n 0, 1) := by decide +kernel
theorem dX1_init_103 : decode cX1_init 103 = .ok (.getfield 19, 3) := by decide +kernel
theorem dX1_init_106 : decode cX1_init 106 = .ok (.arraylength, 1) := by decide +kernel
theorem dX1_init_107 : decode cX1_init 107 = .ok (.if_icmp .ge 38, 3) := by decide +kernel
theorem dX1_init_110 : decode cX1_init 110 = .ok (.aload_n 0, 1) := by decide +kernel
theorem dX1_init_111 : decode cX1_init 111 = .ok (.getfield 19, 3) := by decide +kernel
theorem dX1_init_114 : decode cX1_init 114 = .ok (.iload_n 2, 1) := by decide +kernel
theorem dX1_init_115 : decode cX1_init 115 = .ok (.new 17, 3) := by decide +kernel
theorem dX1_init_118 : decode cX1_init 118 = .ok (.dup, 1) := by decide +kernel
theorem dX1_init_119 : decode cX1_init 119 = .ok (.iload_n 2, 1) := by decide +kernel
theorem dX1_init_120 : decode cX1_init 120 = .ok (.iload_n 1, 1) := by decide +kernel
theorem dX1_init_121 : decode cX1_init 121 = .ok (.ifCond .eq 13, 3) := by decide +kernel
theorem dX1_init_124 : decode cX1_init 124 = .ok (.new 45, 3) := by decide +kernel
theorem dX1_init_127 : decode cX1_init 127 = .ok (.dup, 1) := by decide +kernel
theorem dX1_init_128 : decode cX1_init 128 = .ok (.invokespecial 47, 3) := by decide +kernel
theorem dX1_init_131 : decode cX1_init 131 = .ok (.goto 4, 3) := by decide +kernel
theorem dX1_init_134 : decode cX1_init 134 = .ok (.aconst_null, 1) := by decide +kernel
theorem dX1_init_135 : decode cX1_init 135 = .ok (.invokespecial 48, 3) := by decide +kernel
theorem dX1_init_138 : decode cX1_init 138 = .ok (.aastore, 1) := by decide +kernel
theorem dX1_init_139 : decode cX1_init 139 = .ok (.iinc 2 1, 3) := by decide +kernel
theorem dX1_init_142 : decode cX1_init 142 = .ok (.goto (-41), 3) := by decide +kernel
theorem dX1_init_145 : decode cX1_init 145 = .ok (.return_, 1) := by decide +kernel
set_option maxRecDepth 20000 in
theorem ggX1_copyFrom_X1_unitsOf : GoodIn wsX1_copyFrom wsX1_unitsOf := goodIn_ca (goodIn_r _ [13, 5, 76, 77, 78, 79, 80, 81, 82, 83, 84, 85] (by decide +kernel) (by decide +kernel)) (goodIn_sub (fun _ h => List.mem_cons_of_mem _ (List.mem_append_right _ h)) (by decide +kernel))
set_option maxRecDepth 20000 in
theorem gX1_copyFrom_X1_unitsOf : GoodIn wsX1_copyFrom (wsV RX1 60 RX1 yX1_unitsOf wsX1_unitsOf) := goodIn_app (goodIn_of _ (by decide +kernel)) ggX1_copyFrom_X1_unitsOf
set_option maxRecDepth 20000 in
theorem ggX1_copyFrom_X1_findStation : GoodIn wsX1_copyFrom wsX1_findStation := goodIn_r _ [17, 1, 18, 76, 77, 78, 79, 80, 81, 82, 83, 84, 85] (by decide +kernel) (by decide +kernel)
set_option maxRecDepth 20000 in
theorem gX1_copyFrom_X1_findStation : GoodIn wsX1_copyFrom (wsV RX1 64 RX1 yX1_findStation wsX1_findStation) := goodIn_app (goodIn_of _ (by decide +kernel)) ggX1_copyFrom_X1_findStation
set_option maxRecDepth 20000 in
theorem ggX1_copyFrom_X1_copyStation : GoodIn wsX1_copyFrom wsX1_copyStation := goodIn_r _ [21, 22, 23, 24, 25, 26, 27, 28, 29, 30, 31, 32, 33, 34, 35, 36, 37, 38, 86, 87, 88, 89, 90, 91, 92, 93] (by decide +kernel) (by decide +kernel)
set_option maxRecDepth 20000 in
theorem gX1_copyFrom_X1_copyStation : GoodIn wsX1_copyFrom (va_wsS RX1 68 yX1_copyStation wsX1_copyStation) := goodIn_app (goodIn_of _ (by decide +kernel)) ggX1_copyFrom_X1_copyStation
set_option maxRecDepth 20000 in
theorem ggX1_copyFrom_X1_findCar : GoodIn wsX1_copyFrom wsX1_findCar := goodIn_r _ [42, 2, 43, 76, 77, 78, 79, 80, 81, 82, 83, 84, 85] (by decide +kernel) (by decide +kernel)
set_option maxRecDepth 20000 in
theorem gX1_copyFrom_X1_findCar : GoodIn wsX1_copyFrom (wsV RX1 72 RX1 yX1_findCar wsX1_findCar) := goodIn_app (goodIn_of _ (by decide +kernel)) ggX1_copyFrom_X1_findCar
set_option maxRecDepth 20000 in
theorem ggX1_copyFrom_X1_copyCar : GoodIn wsX1_copyFrom wsX1_copyCar := goodIn_r _ [46, 47, 48, 49, 50, 51, 52, 53, 54, 55, 56, 57, 58, 59, 60, 94, 95, 96, 97, 98, 99, 100, 101, 102, 103, 104] (by decide +kernel) (by decide +kernel)
set_option maxRecDepth 20000 in
theorem gX1_copyFrom_X1_copyCar : GoodIn wsX1_copyFrom (va_wsS RX1 76 yX1_copyCar wsX1_copyCar) := goodIn_app (goodIn_of _ (by decide +kernel)) ggX1_copyFrom_X1_copyCar
set_option maxRecDepth 20000 in
theorem ggX1_copyFrom_X2_copyFrom : GoodIn wsX1_copyFrom wsX2_copyFrom := goodIn_ca (goodIn_r _ [65, 66, 67, 68, 69, 70, 64, 71, 72, 73, 74, 75, 105, 106] (by decide +kernel) (by decide +kernel)) (goodIn_sub (fun _ h => List.mem_cons_of_mem _ (List.mem_append_right _ h)) (by decide +kernel))
set_option maxRecDepth 20000 in
theorem gX1_copyFrom_X2_copyFrom : GoodIn wsX1_copyFrom (wsV RX1 80 RX2 yX2_copyFrom wsX2_copyFrom) := goodIn_app (goodIn_of _ (by decide +kernel)) ggX1_copyFrom_X2_copyFrom
theorem dX1_copyFrom_0 : decode cX1_copyFrom 0 = .ok (.aload_n 0, 1) := by decide +kernel
theorem dX1_copyFrom_1 : decode cX1_copyFrom 1 = .ok (.aload_n 1, 1) := by decide +kernel
theorem dX1_copyFrom_2 : decode cX1_copyFrom 2 = .ok (.getfield 51, 3) := by decide +kernel
theorem dX1_copyFrom_5 : decode cX1_copyFrom 5 = .ok (.putfield 51, 3) := by decide +kernel
theorem dX1_copyFrom_8 : decode cX1_copyFrom 8 = .ok (.aload_n 0, 1) := by decide +kernel
theorem dX1_copyFrom_9 : decode cX1_copyFrom 9 = .ok (.aload_n 1, 1) := by decide +kernel
theorem dX1_copyFrom_10 : decode cX1_copyFrom 10 = .ok (.getfield 54, 3) := by decide +kernel
theorem dX1_copyFrom_13 : decode cX1_copyFrom 13 = .ok (.putfield 54, 3) := by decide +kernel
theorem dX1_copyFrom_16 : decode cX1_copyFrom 16 = .ok (.aload_n 0, 1) := by decide +kernel
theorem dX1_copyFrom_17 : decode cX1_copyFrom 17 = .ok (.aload_n 1, 1) := by decide +kernel
theorem dX1_copyFrom_18 : decode cX1_copyFrom 18 = .ok (.getfield 57, 3) := by decide +kernel
theorem dX1_copyFrom_21 : decode cX1_copyFrom 21 = .ok (.putfield 57, 3) := by decide +kernel
theorem dX1_copyFrom_24 : decode cX1_copyFrom 24 = .ok (.aload_n 0, 1) := by decide +kernel
theorem dX1_copyFrom_25 : decode cX1_copyFrom 25 = .ok (.aload_n 1, 1) := by decide +kernel
theorem dX1_copyFrom_26 : decode cX1_copyFrom 26 = .ok (.getfield 40, 3) := by decide +kernel
theorem dX1_copyFrom_29 : decode cX1_copyFrom 29 = .ok (.putfield 40, 3) := by decide +kernel
theorem dX1_copyFrom_32 : decode cX1_copyFrom 32 = .ok (.iconst 0, 1) := by decide +kernel
theorem dX1_copyFrom_33 : decode cX1_copyFrom 33 = .ok (.istore_n 2, 1) := by decide +kernel
theorem dX1_copyFrom_34 : decode cX1_copyFrom 34 = .ok (.iload_n 2, 1) := by decide +kernel
theorem dX1_copyFrom_35 : decode cX1_copyFrom 35 = .ok (.aload_n 0, 1) := by decide +kernel
theorem dX1_copyFrom_36 : decode cX1_copyFrom 36 = .ok (.getfield 23, 3) := by decide +kernel
theorem dX1_copyFrom_39 : decode cX1_copyFrom 39 = .ok (.arraylength, 1) := by decide +kernel
theorem dX1_copyFrom_40 : decode cX1_copyFrom 40 = .ok (.if_icmp .ge 20, 3) := by decide +kernel
theorem dX1_copyFrom_43 : decode cX1_copyFrom 43 = .ok (.aload_n 0, 1) := by decide +kernel
theorem dX1_copyFrom_44 : decode cX1_copyFrom 44 = .ok (.getfield 23, 3) := by decide +kernel
theorem dX1_copyFrom_47 : decode cX1_copyFrom 47 = .ok (.iload_n 2, 1) := by decide +kernel
theorem dX1_copyFrom_48 : decode cX1_copyFrom 48 = .ok (.aload_n 1, 1) := by decide +kernel
theorem dX1_copyFrom_49 : decode cX1_copyFrom 49 = .ok (.iload_n 2, 1) := by decide +kernel
theorem dX1_copyFrom_50 : decode cX1_copyFrom 50 = .ok (.invokevirtual 60, 3) := by decide +kernel
theorem dX1_copyFrom_53 : decode cX1_copyFrom 53 = .ok (.iastore, 1) := by decide +kernel
theorem dX1_copyFrom_54 : decode cX1_copyFrom 54 = .ok (.iinc 2 1, 3) := by decide +kernel
theorem dX1_copyFrom_57 : decode cX1_copyFrom 57 = .ok (.goto (-23), 3) := by decide +kernel
theorem dX1_copyFrom_60 : decode cX1_copyFrom 60 = .ok (.iconst 0, 1) := by decide +kernel
theorem dX1_copyFrom_61 : decode cX1_copyFrom 61 = .ok (.istore_n 2, 1) := by decide +kernel
theorem dX1_copyFrom_62 : decode cX1_copyFrom 62 = .ok (.iload_n 2, 1) := by decide +kernel
theorem dX1_copyFrom_63 : decode cX1_copyFrom 63 = .ok (.aload_n 0, 1) := by decide +kernel
theorem dX1_copyFrom_64 : decode cX1_copyFrom 64 = .ok (.getfield 51, 3) := by decide +kernel
theorem dX1_copyFrom_67 : decode cX1_copyFrom 67 = .ok (.if_icmp .ge 22, 3) := by decide +kernel
theorem dX1_copyFrom_70 : decode cX1_copyFrom 70 = .ok (.aload_n 0, 1) := by decide +kernel
theorem dX1_copyFrom_71 : decode cX1_copyFrom 71 = .ok (.iload_n 2, 1) := by decide +kernel
theorem dX1_copyFrom_72 : decode cX1_copyFrom 72 = .ok (.invokevirtual 64, 3) := by decide +kernel
theorem dX1_copyFrom_75 : decode cX1_copyFrom 75 = .ok (.aload_n 1, 1) := by decide +kernel
theorem dX1_copyFrom_76 : decode cX1_copyFrom 76 = .ok (.iload_n 2, 1) := by decide +kernel
theorem dX1_copyFrom_77 : decode cX1_copyFrom 77 = .ok (.invokevirtual 64, 3) := by decide +kernel
theorem dX1_copyFrom_80 : decode cX1_copyFrom 80 = .ok (.invokestatic 68, 3) := by decide +kernel
theorem dX1_copyFrom_83 : decode cX1_copyFrom 83 = .ok (.iinc 2 1, 3) := by decide +kernel
theorem dX1_copyFrom_86 : decode cX1_copyFrom 86 = .ok (.goto (-24), 3) := by decide +kernel
theorem dX1_copyFrom_89 : decode cX1_copyFrom 89 = .ok (.iconst 0, 1) := by decide +kernel
theorem dX1_copyFrom_90 : decode cX1_copyFrom 90 = .ok (.istore_n 2, 1) := by decide +kernel
theorem dX1_copyFrom_91 : decode cX1_copyFrom 91 = .ok (.iload_n 2, 1) := by decide +kernel
theorem dX1_copyFrom_92 : decode cX1_copyFrom 92 = .ok (.aload_n 0, 1) := by decide +kernel
theorem dX1_copyFrom_93 : decode cX1_copyFrom 93 = .ok (.getfield 54, 3) := by decide +kernel
theorem dX1_copyFrom_96 : decode cX1_copyFrom 96 = .ok (.if_icmp .ge 22, 3) := by decide +kernel
theorem dX1_copyFrom_99 : decode cX1_copyFrom 99 = .ok (.aload_n 0, 1) := by decide +kernel
theorem dX1_copyFrom_100 : decode cX1_copyFrom 100 = .ok (.iload_n 2, 1) := by decide +kernel
theorem dX1_copyFrom_101 : decode cX1_copyFrom 101 = .ok (.invokevirtual 72, 3) := by decide +kernel
theorem dX1_copyFrom_104 : decode cX1_copyFrom 104 = .ok (.aload_n 1, 1) := by decide +kernel
theorem dX1_copyFrom_105 : decode cX1_copyFrom 105 = .ok (.iload_n 2, 1) := by decide +kernel
theorem dX1_copyFrom_106 : decode cX1_copyFrom 106 = .ok (.invokevirtual 72, 3) := by decide +kernel
theorem dX1_copyFrom_109 : decode cX1_copyFrom 109 = .ok (.invokestatic 76, 3) := by decide +kernel
theorem dX1_copyFrom_112 : decode cX1_copyFrom 112 = .ok (.iinc 2 1, 3) := by decide +kernel
theorem dX1_copyFrom_115 : decode cX1_copyFrom 115 = .ok (.goto (-24), 3) := by decide +kernel
theorem dX1_copyFrom_118 : decode cX1_copyFrom 118 = .ok (.aload_n 0, 1) := by decide +kernel
theorem dX1_copyFrom_119 : decode cX1_copyFrom 119 = .ok (.getfield 30, 3) := by decide +kernel
theorem dX1_copyFrom_122 : decode cX1_copyFrom 122 = .ok (.aload_n 1, 1) := by decide +kernel
theorem dX1_copyFrom_123 : decode cX1_copyFrom 123 = .ok (.getfield 30, 3) := by decide +kernel
theorem dX1_copyFrom_126 : decode cX1_copyFrom 126 = .ok (.invokevirtual 80, 3) := by decide +kernel
theorem dX1_copyFrom_129 : decode cX1_copyFrom 129 = .ok (.aload_n 0, 1) := by decide +kernel
theorem dX1_copyFrom_130 : decode cX1_copyFrom 130 = .ok (.getfield 34, 3) := by decide +kernel
theorem dX1_copyFrom_133 : decode cX1_copyFrom 133 = .ok (.aload_n 1, 1) := by decide +kernel
theorem dX1_copyFrom_134 : decode cX1_copyFrom 134 = .ok (.getfield 34, 3) := by decide +kernel
theorem dX1_copyFrom_137 : decode cX1_copyFrom 137 = .ok (.invokevirtual 80, 3) := by decide +kernel
theorem dX1_copyFrom_140 : decode cX1_copyFrom 140 = .ok (.aload_n 0, 1) := by decide +kernel
theorem dX1_copyFrom_141 : decode cX1_copyFrom 141 = .ok (.getfield 37, 3) := by decide +kernel
theorem dX1_copyFrom_144 : decode cX1_copyFrom 144 = .ok (.aload_n 1, 1) := by decide +kernel
theorem dX1_copyFrom_145 : decode cX1_copyFrom 145 = .ok (.getfield 37, 3) := by decide +kernel
theorem dX1_copyFrom_148 : decode cX1_copyFrom 148 = .ok (.invokevirtual 80, 3) := by decide +kernel
theorem dX1_copyFrom_151 : decode cX1_copyFrom 151 = .ok (.return_, 1) := by decide +kernel
set_option maxRecDepth 20000 in
theorem ggX1_copyStation_X3_copyFrom : GoodIn wsX1_copyStation wsX3_copyFrom := goodIn_r _ [5, 6, 7, 8, 9, 10, 11, 12, 13, 14, 15, 16, 4, 17, 18, 19, 20, 21, 22, 23, 24, 25] (by decide +kernel) (by decide +kernel)
set_option maxRecDepth 20000 in
theorem gX1_copyStation_X3_copyFrom : GoodIn wsX1_copyStation (wsV RX1 84 RX3 yX3_copyFrom wsX3_copyFrom) := goodIn_app (goodIn_of _ (by decide +kernel)) ggX1_copyStation_X3_copyFrom
theorem dX1_copyStation_0 : decode cX1_copyStation 0 = .ok (.aload_n 0, 1) := by decide +kernel
theorem dX1_copyStation_1 : decode cX1_copyStation 1 = .ok (.ifnull 12, 3) := by decide +kernel
theorem dX1_copyStation_4 : decode cX1_copyStation 4 = .ok (.aload_n 1, 1) := by decide +kernel
theorem dX1_copyStation_5 : decode cX1_copyStation 5 = .ok (.ifnull 8, 3) := by decide +kernel
theorem dX1_copyStation_8 : decode cX1_copyStation 8 = .ok (.aload_n 0, 1) := by decide +kernel
theorem dX1_copyStation_9 : decode cX1_copyStation 9 = .ok (.aload_n 1, 1) := by decide +kernel
theorem dX1_copyStation_10 : decode cX1_copyStation 10 = .ok (.invokevirtual 84, 3) := by decide +kernel
theorem dX1_copyStation_13 : decode cX1_copyStation 13 = .ok (.return_, 1) := by decide +kernel
set_option maxRecDepth 20000 in
theorem ggX1_copyCar_X0_copyFrom : GoodIn wsX1_copyCar wsX0_copyFrom := goodIn_r _ [5, 6, 7, 8, 9, 10, 11, 12, 13, 14, 15, 16, 17, 18, 19, 20, 21, 22, 23, 24, 25] (by decide +kernel) (by decide +kernel)
set_option maxRecDepth 20000 in
theorem gX1_copyCar_X0_copyFrom : GoodIn wsX1_copyCar (wsV RX1 87 RX0 yX0_copyFrom wsX0_copyFrom) := goodIn_app (goodIn_of _ (by decide +kernel)) ggX1_copyCar_X0_copyFrom
theorem dX1_copyCar_0 : decode cX1_copyCar 0 = .ok (.aload_n 0, 1) := by decide +kernel
theorem dX1_copyCar_1 : decode cX1_copyCar 1 = .ok (.ifnull 12, 3) := by decide +kernel
theorem dX1_copyCar_4 : decode cX1_copyCar 4 = .ok (.aload_n 1, 1) := by decide +kernel
theorem dX1_copyCar_5 : decode cX1_copyCar 5 = .ok (.ifnull 8, 3) := by decide +kernel
theorem dX1_copyCar_8 : decode cX1_copyCar 8 = .ok (.aload_n 0, 1) := by decide +kernel
theorem dX1_copyCar_9 : decode cX1_copyCar 9 = .ok (.aload_n 1, 1) := by decide +kernel
theorem dX1_copyCar_10 : decode cX1_copyCar 10 = .ok (.invokevirtual 87, 3) := by decide +kernel
theorem dX1_copyCar_13 : decode cX1_copyCar 13 = .ok (.return_, 1) := by decide +kernel
theorem dX1_findStation_0 : decode cX1_findStation 0 = .ok (.iload_n 1, 1) := by decide +kernel
theorem dX1_findStation_1 : decode cX1_findStation 1 = .ok (.ifCond .lt 29, 3) := by decide +kernel
theorem dX1_findStation_4 : decode cX1_findStation 4 = .ok (.iload_n 1, 1) := by decide +kernel
theorem dX1_findStation_5 : decode cX1_findStation 5 = .ok (.aload_n 0, 1) := by decide +kernel
theorem dX1_findStation_6 : decode cX1_findStation 6 = .ok (.getfield 51, 3) := by decide +kernel
theorem dX1_findStation_9 : decode cX1_findStation 9 = .ok (.if_icmp .ge 21, 3) := by decide +kernel
theorem dX1_findStation_12 : decode cX1_findStation 12 = .ok (.iload_n 1, 1) := by decide +kernel
theorem dX1_findStation_13 : decode cX1_findStation 13 = .ok (.aload_n 0, 1) := by decide +kernel
theorem dX1_findStation_14 : decode cX1_findStation 14 = .ok (.getfield 11, 3) := by decide +kernel
theorem dX1_findStation_17 : decode cX1_findStation 17 = .ok (.arraylength, 1) := by decide +kernel
theorem dX1_findStation_18 : decode cX1_findStation 18 = .ok (.if_icmp .ge 12, 3) := by decide +kernel
theorem dX1_findStation_21 : decode cX1_findStation 21 = .ok (.aload_n 0, 1) := by decide +kernel
theorem dX1_findStation_22 : decode cX1_findStation 22 = .ok (.getfield 11, 3) := by decide +kernel
theorem dX1_findStation_25 : decode cX1_findStation 25 = .ok (.iload_n 1, 1) := by decide +kernel
theorem dX1_findStation_26 : decode cX1_findStation 26 = .ok (.aaload, 1) := by decide +kernel
theorem dX1_findStation_27 : decode cX1_findStation 27 = .ok (.goto 4, 3) := by decide +kernel
theorem dX1_findStation_30 : decode cX1_findStation 30 = .ok (.aconst_null, 1) := by decide +kernel
theorem dX1_findStation_31 : decode cX1_findStation 31 = .ok (.areturn, 1) := by decide +kernel
theorem dX1_findCar_0 : decode cX1_findCar 0 = .ok (.iload_n 1, 1) := by decide +kernel
theorem dX1_findCar_1 : decode cX1_findCar 1 = .ok (.ifCond .lt 29, 3) := by decide +kernel
theorem dX1_findCar_4 : decode cX1_findCar 4 = .ok (.iload_n 1, 1) := by decide +kernel
theorem dX1_findCar_5 : decode cX1_findCar 5 = .ok (.aload_n 0, 1) := by decide +kernel
theorem dX1_findCar_6 : decode cX1_findCar 6 = .ok (.getfield 54, 3) := by decide +kernel
theorem dX1_findCar_9 : decode cX1_findCar 9 = .ok (.if_icmp .ge 21, 3) := by decide +kernel
theorem dX1_findCar_12 : decode cX1_findCar 12 = .ok (.iload_n 1, 1) := by decide +kernel
theorem dX1_findCar_13 : decode cX1_findCar 13 = .ok (.aload_n 0, 1) := by decide +kernel
theorem dX1_findCar_14 : decode cX1_findCar 14 = .ok (.getfield 19, 3) := by decide +kernel
theorem dX1_findCar_17 : decode cX1_findCar 17 = .ok (.arraylength, 1) := by decide +kernel
theorem dX1_findCar_18 : decode cX1_findCar 18 = .ok (.if_icmp .ge 12, 3) := by decide +kernel
theorem dX1_findCar_21 : decode cX1_findCar 21 = .ok (.aload_n 0, 1) := by decide +kernel
theorem dX1_findCar_22 : decode cX1_findCar 22 = .ok (.getfield 19, 3) := by decide +kernel
theorem dX1_findCar_25 : decode cX1_findCar 25 = .ok (.iload_n 1, 1) := by decide +kernel
theorem dX1_findCar_26 : decode cX1_findCar 26 = .ok (.aaload, 1) := by decide +kernel
theorem dX1_findCar_27 : decode cX1_findCar 27 = .ok (.goto 4, 3) := by decide +kernel
theorem dX1_findCar_30 : decode cX1_findCar 30 = .ok (.aconst_null, 1) := by decide +kernel
theorem dX1_findCar_31 : decode cX1_findCar 31 = .ok (.areturn, 1) := by decide +kernel
theorem dX1_unitsOf_0 : decode cX1_unitsOf 0 = .ok (.iload_n 1, 1) := by decide +kernel
theorem dX1_unitsOf_1 : decode cX1_unitsOf 1 = .ok (.ifCond .lt 21, 3) := by decide +kernel
theorem dX1_unitsOf_4 : decode cX1_unitsOf 4 = .ok (.iload_n 1, 1) := by decide +kernel
theorem dX1_unitsOf_5 : decode cX1_unitsOf 5 = .ok (.aload_n 0, 1) := by decide +kernel
theorem dX1_unitsOf_6 : decode cX1_unitsOf 6 = .ok (.getfield 23, 3) := by decide +kernel
theorem dX1_unitsOf_9 : decode cX1_unitsOf 9 = .ok (.arraylength, 1) := by decide +kernel
theorem dX1_unitsOf_10 : decode cX1_unitsOf 10 = .ok (.if_icmp .ge 12, 3) := by decide +kernel
theorem dX1_unitsOf_13 : decode cX1_unitsOf 13 = .ok (.aload_n 0, 1) := by decide +kernel
theorem dX1_unitsOf_14 : decode cX1_unitsOf 14 = .ok (.getfield 23, 3) := by decide +kernel
theorem dX1_unitsOf_17 : decode cX1_unitsOf 17 = .ok (.iload_n 1, 1) := by decide +kernel
theorem dX1_unitsOf_18 : decode cX1_unitsOf 18 = .ok (.iaload, 1) := by decide +kernel
theorem dX1_unitsOf_19 : decode cX1_unitsOf 19 = .ok (.goto 4, 3) := by decide +kernel
theorem dX1_unitsOf_22 : decode cX1_unitsOf 22 = .ok (.iconst 0, 1) := by decide +kernel
theorem dX1_unitsOf_23 : decode cX1_unitsOf 23 = .ok (.ireturn, 1) := by decide +kernel
theorem dX1_changeUnits_0 : decode cX1_changeUnits 0 = .ok (.iload_n 1, 1) := by decide +kernel
theorem dX1_changeUnits_1 : decode cX1_changeUnits 1 = .ok (.ifCond .lt 22, 3) := by decide +kernel
theorem dX1_changeUnits_4 : decode cX1_changeUnits 4 = .ok (.iload_n 1, 1) := by decide +kernel
theorem dX1_changeUnits_5 : decode cX1_changeUnits 5 = .ok (.aload_n 0, 1) := by decide +kernel
theorem dX1_changeUnits_6 : decode cX1_changeUnits 6 = .ok (.getfield 23, 3) := by decide +kernel
theorem dX1_changeUnits_9 : decode cX1_changeUnits 9 = .ok (.arraylength, 1) := by decide +kernel
theorem dX1_changeUnits_10 : decode cX1_changeUnits 10 = .ok (.if_icmp .ge 13, 3) := by decide +kernel
theorem dX1_changeUnits_13 : decode cX1_changeUnits 13 = .ok (.aload_n 0, 1) := by decide +kernel
theorem dX1_changeUnits_14 : decode cX1_changeUnits 14 = .ok (.getfield 23, 3) := by decide +kernel
theorem dX1_changeUnits_17 : decode cX1_changeUnits 17 = .ok (.iload_n 1, 1) := by decide +kernel
theorem dX1_changeUnits_18 : decode cX1_changeUnits 18 = .ok (.dup2, 1) := by decide +kernel
theorem dX1_changeUnits_19 : decode cX1_changeUnits 19 = .ok (.iaload, 1) := by decide +kernel
theorem dX1_changeUnits_20 : decode cX1_changeUnits 20 = .ok (.iload_n 2, 1) := by decide +kernel
theorem dX1_changeUnits_21 : decode cX1_changeUnits 21 = .ok (.iadd, 1) := by decide +kernel
theorem dX1_changeUnits_22 : decode cX1_changeUnits 22 = .ok (.iastore, 1) := by decide +kernel
theorem dX1_changeUnits_23 : decode cX1_changeUnits 23 = .ok (.return_, 1) := by decide +kernel
set_option maxRecDepth 20000 in
theorem ggX1_appendStation_X1_findStation : GoodIn wsX1_appendStation wsX1_findStation := goodIn_r _ [6, 1, 7, 17, 18, 19, 20, 21, 22, 23, 24, 25, 26] (by decide +kernel) (by decide +kernel)
set_option maxRecDepth 20000 in
theorem gX1_appendStation_X1_findStation : GoodIn wsX1_appendStation (wsV RX1 64 RX1 yX1_findStation wsX1_findStation) := goodIn_app (goodIn_of _ (by decide +kernel)) ggX1_appendStation_X1_findStation
set_option maxRecDepth 20000 in
theorem ggX1_appendStation_X3_setUp : GoodIn wsX1_appendStation wsX3_setUp := goodIn_r _ [12, 13, 14, 15, 16, 27, 28, 29, 30, 31, 32, 33, 34] (by decide +kernel) (by decide +kernel)
set_option maxRecDepth 20000 in
theorem gX1_appendStation_X3_setUp : GoodIn wsX1_appendStation (wsV RX1 90 RX3 yX3_setUp wsX3_setUp) := goodIn_app (goodIn_of _ (by decide +kernel)) ggX1_appendStation_X3_setUp
theorem dX1_appendStation_0 : decode cX1_appendStation 0 = .ok (.aload_n 0, 1) := by decide +kernel
theorem dX1_appendStation_1 : decode cX1_appendStation 1 = .ok (.getfield 51, 3) := by decide +kernel
theorem dX1_appendStation_4 : decode cX1_appendStation 4 = .ok (.istore 5, 2) := by decide +kernel
theorem dX1_appendStation_6 : decode cX1_appendStation 6 = .ok (.aload_n 0, 1) := by decide +kernel
theorem dX1_appendStation_7 : decode cX1_appendStation 7 = .ok (.dup, 1) := by decide +kernel
theorem dX1_appendStation_8 : decode cX1_appendStation 8 = .ok (.getfield 51, 3) := by decide +kernel
theorem dX1_appendStation_11 : decode cX1_appendStation 11 = .ok (.iconst 1, 1) := by decide +kernel
theorem dX1_appendStation_12 : decode cX1_appendStation 12 = .ok (.iadd, 1) := by decide +kernel
theorem dX1_appendStation_13 : decode cX1_appendStation 13 = .ok (.putfield 51, 3) := by decide +kernel
theorem dX1_appendStation_16 : decode cX1_appendStation 16 = .ok (.aload_n 0, 1) := by decide +kernel
theorem dX1_appendStation_17 : decode cX1_appendStation 17 = .ok (.iload 5, 2) := by decide +kernel
theorem dX1_appendStation_19 : decode cX1_appendStation 19 = .ok (.invokevirtual 64, 3) := by decide +kernel
theorem dX1_appendStation_22 : decode cX1_appendStation 22 = .ok (.astore 6, 2) := by decide +kernel
theorem dX1_appendStation_24 : decode cX1_appendStation 24 = .ok (.aload 6, 2) := by decide +kernel
theorem dX1_appendStation_26 : decode cX1_appendStation 26 = .ok (.ifnull 13, 3) := by decide +kernel
theorem dX1_appendStation_29 : decode cX1_appendStation 29 = .ok (.aload 6, 2) := by decide +kernel
theorem dX1_appendStation_31 : decode cX1_appendStation 31 = .ok (.iload_n 1, 1) := by decide +kernel
theorem dX1_appendStation_32 : decode cX1_appendStation 32 = .ok (.iload_n 2, 1) := by decide +kernel
theorem dX1_appendStation_33 : decode cX1_appendStation 33 = .ok (.iload_n 3, 1) := by decide +kernel
theorem dX1_appendStation_34 : decode cX1_appendStation 34 = .ok (.iload 4, 2) := by decide +kernel
theorem dX1_appendStation_36 : decode cX1_appendStation 36 = .ok (.invokevirtual 90, 3) := by decide +kernel
theorem dX1_appendStation_39 : decode cX1_appendStation 39 = .ok (.iload 5, 2) := by decide +kernel
theorem dX1_appendStation_41 : decode cX1_appendStation 41 = .ok (.ireturn, 1) := by decide +kernel
set_option maxRecDepth 20000 in
theorem ggX1_appendCar_X1_findCar : GoodIn wsX1_appendCar wsX1_findCar := goodIn_r _ [7, 1, 8, 16, 17, 18, 19, 20, 21, 22, 23, 24, 25] (by decide +kernel) (by decide +kernel)
set_option maxRecDepth 20000 in
theorem gX1_appendCar_X1_findCar : GoodIn wsX1_appendCar (wsV RX1 72 RX1 yX1_findCar wsX1_findCar) := goodIn_app (goodIn_of _ (by decide +kernel)) ggX1_appendCar_X1_findCar
set_option maxRecDepth 20000 in
theorem ggX1_appendCar_X2_append : GoodIn wsX1_appendCar wsX2_append := goodIn_ca (goodIn_r _ [13, 14, 15, 37, 38] (by decide +kernel) (by decide +kernel)) (goodIn_sub (fun _ h => List.mem_cons_of_mem _ (List.mem_append_right _ h)) (by decide +kernel))
set_option maxRecDepth 20000 in
theorem gX1_appendCar_X2_append : GoodIn wsX1_appendCar (wsV RX1 97 RX2 yX2_append wsX2_append) := goodIn_app (goodIn_of _ (by decide +kernel)) ggX1_appendCar_X2_append
theorem dX1_appendCar_0 : decode cX1_appendCar 0 = .ok (.aload_n 0, 1) := by decide +kernel
theorem dX1_appendCar_1 : decode cX1_appendCar 1 = .ok (.getfield 54, 3) := by decide +kernel
theorem dX1_appendCar_4 : decode cX1_appendCar 4 = .ok (.istore_n 2, 1) := by decide +kernel
theorem dX1_appendCar_5 : decode cX1_appendCar 5 = .ok (.aload_n 0, 1) := by decide +kernel
theorem dX1_appendCar_6 : decode cX1_appendCar 6 = .ok (.dup, 1) := by decide +kernel
theorem dX1_appendCar_7 : decode cX1_appendCar 7 = .ok (.getfield 54, 3) := by decide +kernel
theorem dX1_appendCar_10 : decode cX1_appendCar 10 = .ok (.iconst 1, 1) := by decide +kernel
theorem dX1_appendCar_11 : decode cX1_appendCar 11 = .ok (.iadd, 1) := by decide +kernel
theorem dX1_appendCar_12 : decode cX1_appendCar 12 = .ok (.putfield 54, 3) := by decide +kernel
theorem dX1_appendCar_15 : decode cX1_appendCar 15 = .ok (.aload_n 0, 1) := by decide +kernel
theorem dX1_appendCar_16 : decode cX1_appendCar 16 = .ok (.iload_n 2, 1) := by decide +kernel
theorem dX1_appendCar_17 : decode cX1_appendCar 17 = .ok (.invokevirtual 72, 3) := by decide +kernel
theorem dX1_appendCar_20 : decode cX1_appendCar 20 = .ok (.astore_n 3, 1) := by decide +kernel
theorem dX1_appendCar_21 : decode cX1_appendCar 21 = .ok (.aload_n 3, 1) := by decide +kernel
theorem dX1_appendCar_22 : decode cX1_appendCar 22 = .ok (.ifnull 8, 3) := by decide +kernel
theorem dX1_appendCar_25 : decode cX1_appendCar 25 = .ok (.aload_n 3, 1) := by decide +kernel
theorem dX1_appendCar_26 : decode cX1_appendCar 26 = .ok (.iload_n 1, 1) := by decide +kernel
theorem dX1_appendCar_27 : decode cX1_appendCar 27 = .ok (.putfield 94, 3) := by decide +kernel
theorem dX1_appendCar_30 : decode cX1_appendCar 30 = .ok (.aload_n 0, 1) := by decide +kernel
theorem dX1_appendCar_31 : decode cX1_appendCar 31 = .ok (.getfield 30, 3) := by decide +kernel
theorem dX1_appendCar_34 : decode cX1_appendCar 34 = .ok (.iload_n 2, 1) := by decide +kernel
theorem dX1_appendCar_35 : decode cX1_appendCar 35 = .ok (.invokevirtual 97, 3) := by decide +kernel
theorem dX1_appendCar_38 : decode cX1_appendCar 38 = .ok (.iload_n 2, 1) := by decide +kernel
theorem dX1_appendCar_39 : decode cX1_appendCar 39 = .ok (.ireturn, 1) := by decide +kernel
set_option maxRecDepth 20000 in
theorem ggX1_hasGone_X1_findCar : GoodIn wsX1_hasGone wsX1_findCar := goodIn_r _ [5, 6, 7, 19, 20, 21, 22, 23, 24, 25, 26, 27, 28] (by decide +kernel) (by decide +kernel)
set_option maxRecDepth 20000 in
theorem gX1_hasGone_X1_findCar : GoodIn wsX1_hasGone (wsV RX1 72 RX1 yX1_findCar wsX1_findCar) := goodIn_app (goodIn_of _ (by decide +kernel)) ggX1_hasGone_X1_findCar
theorem dX1_hasGone_0 : decode cX1_hasGone 0 = .ok (.aload_n 0, 1) := by decide +kernel
theorem dX1_hasGone_1 : decode cX1_hasGone 1 = .ok (.iload_n 1, 1) := by decide +kernel
theorem dX1_hasGone_2 : decode cX1_hasGone 2 = .ok (.invokevirtual 72, 3) := by decide +kernel
theorem dX1_hasGone_5 : decode cX1_hasGone 5 = .ok (.astore_n 2, 1) := by decide +kernel
theorem dX1_hasGone_6 : decode cX1_hasGone 6 = .ok (.aload_n 2, 1) := by decide +kernel
theorem dX1_hasGone_7 : decode cX1_hasGone 7 = .ok (.ifnull 16, 3) := by decide +kernel
theorem dX1_hasGone_10 : decode cX1_hasGone 10 = .ok (.aload_n 2, 1) := by decide +kernel
theorem dX1_hasGone_11 : decode cX1_hasGone 11 = .ok (.getfield 101, 3) := by decide +kernel
theorem dX1_hasGone_14 : decode cX1_hasGone 14 = .ok (.bipush 100, 2) := by decide +kernel
theorem dX1_hasGone_16 : decode cX1_hasGone 16 = .ok (.if_icmp .ne 7, 3) := by decide +kernel
theorem dX1_hasGone_19 : decode cX1_hasGone 19 = .ok (.iconst 1, 1) := by decide +kernel
theorem dX1_hasGone_20 : decode cX1_hasGone 20 = .ok (.goto 4, 3) := by decide +kernel
theorem dX1_hasGone_23 : decode cX1_hasGone 23 = .ok (.iconst 0, 1) := by decide +kernel
theorem dX1_hasGone_24 : decode cX1_hasGone 24 = .ok (.ireturn, 1) := by decide +kernel
theorem dX1_ticksToRound_0 : decode cX1_ticksToRound 0 = .ok (.aload_n 0, 1) := by decide +kernel
theorem dX1_ticksToRound_1 : decode cX1_ticksToRound 1 = .ok (.getfield 40, 3) := by decide +kernel
theorem dX1_ticksToRound_4 : decode cX1_ticksToRound 4 = .ok (.ifCond .le 20, 3) := by decide +kernel
theorem dX1_ticksToRound_7 : decode cX1_ticksToRound 7 = .ok (.aload_n 0, 1) := by decide +kernel
theorem dX1_ticksToRound_8 : decode cX1_ticksToRound 8 = .ok (.getfield 40, 3) := by decide +kernel
theorem dX1_ticksToRound_11 : decode cX1_ticksToRound 11 = .ok (.aload_n 0, 1) := by decide +kernel
theorem dX1_ticksToRound_12 : decode cX1_ticksToRound 12 = .ok (.getfield 57, 3) := by decide +kernel
theorem dX1_ticksToRound_15 : decode cX1_ticksToRound 15 = .ok (.aload_n 0, 1) := by decide +kernel
theorem dX1_ticksToRound_16 : decode cX1_ticksToRound 16 = .ok (.getfield 40, 3) := by decide +kernel
theorem dX1_ticksToRound_19 : decode cX1_ticksToRound 19 = .ok (.irem, 1) := by decide +kernel
theorem dX1_ticksToRound_20 : decode cX1_ticksToRound 20 = .ok (.isub, 1) := by decide +kernel
theorem dX1_ticksToRound_21 : decode cX1_ticksToRound 21 = .ok (.goto 4, 3) := by decide +kernel
theorem dX1_ticksToRound_24 : decode cX1_ticksToRound 24 = .ok (.iconst 1, 1) := by decide +kernel
theorem dX1_ticksToRound_25 : decode cX1_ticksToRound 25 = .ok (.ireturn, 1) := by decide +kernel
set_option maxRecDepth 20000 in
theorem ggX1_ticksOfGone_X2_at : GoodIn wsX1_ticksOfGone wsX2_at := goodIn_ca (goodIn_r _ [6, 7, 8, 9, 10, 5, 11, 12, 30, 31] (by decide +kernel) (by decide +kernel)) (goodIn_sub (fun _ h => List.mem_cons_of_mem _ (List.mem_append_right _ h)) (by decide +kernel))
set_option maxRecDepth 20000 in
theorem gX1_ticksOfGone_X2_at : GoodIn wsX1_ticksOfGone (wsV RX1 108 RX2 yX2_at wsX2_at) := goodIn_app (goodIn_of _ (by decide +kernel)) ggX1_ticksOfGone_X2_at
set_option maxRecDepth 20000 in
theorem ggX1_ticksOfGone_X1_findCar : GoodIn wsX1_ticksOfGone wsX1_findCar := goodIn_r _ [17, 18, 19, 20, 21, 22, 23, 24, 25, 26, 27, 28, 29] (by decide +kernel) (by decide +kernel)
set_option maxRecDepth 20000 in
theorem gX1_ticksOfGone_X1_findCar : GoodIn wsX1_ticksOfGone (wsV RX1 72 RX1 yX1_findCar wsX1_findCar) := goodIn_app (goodIn_of _ (by decide +kernel)) ggX1_ticksOfGone_X1_findCar
theorem dX1_ticksOfGone_0 : decode cX1_ticksOfGone 0 = .ok (.lconst 0, 1) := by decide +kernel
theorem dX1_ticksOfGone_1 : decode cX1_ticksOfGone 1 = .ok (.lstore_n 1, 1) := by decide +kernel
theorem dX1_ticksOfGone_2 : decode cX1_ticksOfGone 2 = .ok (.iconst 0, 1) := by decide +kernel
theorem dX1_ticksOfGone_3 : decode cX1_ticksOfGone 3 = .ok (.istore_n 3, 1) := by decide +kernel
theorem dX1_ticksOfGone_4 : decode cX1_ticksOfGone 4 = .ok (.iload_n 3, 1) := by decide +kernel
theorem dX1_ticksOfGone_5 : decode cX1_ticksOfGone 5 = .ok (.aload_n 0, 1) := by decide +kernel
theorem dX1_ticksOfGone_6 : decode cX1_ticksOfGone 6 = .ok (.getfield 37, 3) := by decide +kernel
theorem dX1_ticksOfGone_9 : decode cX1_ticksOfGone 9 = .ok (.getfield 105, 3) := by decide +kernel
theorem dX1_ticksOfGone_12 : decode cX1_ticksOfGone 12 = .ok (.if_icmp .ge 43, 3) := by decide +kernel
theorem dX1_ticksOfGone_15 : decode cX1_ticksOfGone 15 = .ok (.aload_n 0, 1) := by decide +kernel
theorem dX1_ticksOfGone_16 : decode cX1_ticksOfGone 16 = .ok (.aload_n 0, 1) := by decide +kernel
theorem dX1_ticksOfGone_17 : decode cX1_ticksOfGone 17 = .ok (.getfield 37, 3) := by decide +kernel
theorem dX1_ticksOfGone_20 : decode cX1_ticksOfGone 20 = .ok (.iload_n 3, 1) := by decide +kernel
theorem dX1_ticksOfGone_21 : decode cX1_ticksOfGone 21 = .ok (.invokevirtual 108, 3) := by decide +kernel
theorem dX1_ticksOfGone_24 : decode cX1_ticksOfGone 24 = .ok (.invokevirtual 72, 3) := by decide +kernel
theorem dX1_ticksOfGone_27 : decode cX1_ticksOfGone 27 = .ok (.astore 4, 2) := by decide +kernel
theorem dX1_ticksOfGone_29 : decode cX1_ticksOfGone 29 = .ok (.aload 4, 2) := by decide +kernel
theorem dX1_ticksOfGone_31 : decode cX1_ticksOfGone 31 = .ok (.ifnull 18, 3) := by decide +kernel
theorem dX1_ticksOfGone_34 : decode cX1_ticksOfGone 34 = .ok (.lload_n 1, 1) := by decide +kernel
theorem dX1_ticksOfGone_35 : decode cX1_ticksOfGone 35 = .ok (.aload 4, 2) := by decide +kernel
theorem dX1_ticksOfGone_37 : decode cX1_ticksOfGone 37 = .ok (.getfield 111, 3) := by decide +kernel
theorem dX1_ticksOfGone_40 : decode cX1_ticksOfGone 40 = .ok (.aload 4, 2) := by decide +kernel
theorem dX1_ticksOfGone_42 : decode cX1_ticksOfGone 42 = .ok (.getfield 114, 3) := by decide +kernel
theorem dX1_ticksOfGone_45 : decode cX1_ticksOfGone 45 = .ok (.isub, 1) := by decide +kernel
theorem dX1_ticksOfGone_46 : decode cX1_ticksOfGone 46 = .ok (.i2l, 1) := by decide +kernel
theorem dX1_ticksOfGone_47 : decode cX1_ticksOfGone 47 = .ok (.ladd, 1) := by decide +kernel
theorem dX1_ticksOfGone_48 : decode cX1_ticksOfGone 48 = .ok (.lstore_n 1, 1) := by decide +kernel
theorem dX1_ticksOfGone_49 : decode cX1_ticksOfGone 49 = .ok (.iinc 3 1, 3) := by decide +kernel
theorem dX1_ticksOfGone_52 : decode cX1_ticksOfGone 52 = .ok (.goto (-48), 3) := by decide +kernel
theorem dX1_ticksOfGone_55 : decode cX1_ticksOfGone 55 = .ok (.lload_n 1, 1) := by decide +kernel
theorem dX1_ticksOfGone_56 : decode cX1_ticksOfGone 56 = .ok (.lreturn, 1) := by decide +kernel
set_option maxRecDepth 20000 in
theorem ggX1_totalOf_X1_findCar : GoodIn wsX1_totalOf wsX1_findCar := goodIn_r _ [6, 1, 7, 103, 104, 105, 106, 107, 108, 109, 110, 111, 112] (by decide +kernel) (by decide +kernel)
set_option maxRecDepth 20000 in
theorem gX1_totalOf_X1_findCar : GoodIn wsX1_totalOf (wsV RX1 72 RX1 yX1_findCar wsX1_findCar) := goodIn_app (goodIn_of _ (by decide +kernel)) ggX1_totalOf_X1_findCar
set_option maxRecDepth 20000 in
theorem ggX1_totalOf_X4_totalOf : GoodIn wsX1_totalOf wsX4_totalOf := goodIn_ca (goodIn_r _ [12, 13, 14, 15, 16, 17, 18, 19, 20, 21, 22, 23, 24, 25, 26, 27, 28, 29, 30, 31, 32, 33, 34, 35, 36, 37, 38, 39, 40, 41, 42, 43, 44, 45, 46, 47, 48, 49, 50, 51, 52, 53, 54, 55, 56, 57, 58, 59, 60, 61, 62, 63, 64, 65, 66, 67, 68, 69, 70, 71, 72, 73, 74, 75, 76, 77, 78, 79, 80, 81, 82, 83, 84, 85, 86, 87, 88, 89, 90, 91, 92, 93, 94, 95, 96, 97, 98, 99, 100, 101, 102, 124, 125, 126, 127, 128] (by decide +kernel) (by decide +kernel)) (goodIn_sub (fun _ h => List.mem_cons_of_mem _ (List.mem_append_right _ h)) (by decide +kernel))
set_option maxRecDepth 20000 in
theorem gX1_totalOf_X4_totalOf : GoodIn wsX1_totalOf (wsV RX1 121 RX4 yX4_totalOf wsX4_totalOf) := goodIn_app (goodIn_of _ (by decide +kernel)) ggX1_totalOf_X4_totalOf
theorem dX1_totalOf_0 : decode cX1_totalOf 0 = .ok (.iconst 0, 1) := by decide +kernel
theorem dX1_totalOf_1 : decode cX1_totalOf 1 = .ok (.istore_n 2, 1) := by decide +kernel
theorem dX1_totalOf_2 : decode cX1_totalOf 2 = .ok (.iconst 0, 1) := by decide +kernel
theorem dX1_totalOf_3 : decode cX1_totalOf 3 = .ok (.istore_n 3, 1) := by decide +kernel
theorem dX1_totalOf_4 : decode cX1_totalOf 4 = .ok (.iload_n 3, 1) := by decide +kernel
theorem dX1_totalOf_5 : decode cX1_totalOf 5 = .ok (.aload_n 0, 1) := by decide +kernel
theorem dX1_totalOf_6 : decode cX1_totalOf 6 = .ok (.getfield 54, 3) := by decide +kernel
theorem dX1_totalOf_9 : decode cX1_totalOf 9 = .ok (.if_icmp .ge 41, 3) := by decide +kernel
theorem dX1_totalOf_12 : decode cX1_totalOf 12 = .ok (.aload_n 0, 1) := by decide +kernel
theorem dX1_totalOf_13 : decode cX1_totalOf 13 = .ok (.iload_n 3, 1) := by decide +kernel
theorem dX1_totalOf_14 : decode cX1_totalOf 14 = .ok (.invokevirtual 72, 3) := by decide +kernel
theorem dX1_totalOf_17 : decode cX1_totalOf 17 = .ok (.astore 4, 2) := by decide +kernel
theorem dX1_totalOf_19 : decode cX1_totalOf 19 = .ok (.aload 4, 2) := by decide +kernel
theorem dX1_totalOf_21 : decode cX1_totalOf 21 = .ok (.ifnull 23, 3) := by decide +kernel
theorem dX1_totalOf_24 : decode cX1_totalOf 24 = .ok (.aload 4, 2) := by decide +kernel
theorem dX1_totalOf_26 : decode cX1_totalOf 26 = .ok (.getfield 117, 3) := by decide +kernel
theorem dX1_totalOf_29 : decode cX1_totalOf 29 = .ok (.ifnull 15, 3) := by decide +kernel
theorem dX1_totalOf_32 : decode cX1_totalOf 32 = .ok (.iload_n 2, 1) := by decide +kernel
theorem dX1_totalOf_33 : decode cX1_totalOf 33 = .ok (.aload 4, 2) := by decide +kernel
theorem dX1_totalOf_35 : decode cX1_totalOf 35 = .ok (.getfield 117, 3) := by decide +kernel
theorem dX1_totalOf_38 : decode cX1_totalOf 38 = .ok (.iload_n 1, 1) := by decide +kernel
theorem dX1_totalOf_39 : decode cX1_totalOf 39 = .ok (.invokevirtual 121, 3) := by decide +kernel
theorem dX1_totalOf_42 : decode cX1_totalOf 42 = .ok (.iadd, 1) := by decide +kernel
theorem dX1_totalOf_43 : decode cX1_totalOf 43 = .ok (.istore_n 2, 1) := by decide +kernel
theorem dX1_totalOf_44 : decode cX1_totalOf 44 = .ok (.iinc 3 1, 3) := by decide +kernel
theorem dX1_totalOf_47 : decode cX1_totalOf 47 = .ok (.goto (-43), 3) := by decide +kernel
theorem dX1_totalOf_50 : decode cX1_totalOf 50 = .ok (.iload_n 2, 1) := by decide +kernel
theorem dX1_totalOf_51 : decode cX1_totalOf 51 = .ok (.ireturn, 1) := by decide +kernel
set_option maxRecDepth 20000 in
theorem ggX1_passTick_X1_ticksToRound : GoodIn wsX1_passTick wsX1_ticksToRound := goodIn_ca (goodIn_r _ [7, 8, 1, 254, 255, 256, 257, 258, 259, 260, 261, 262, 263] (by decide +kernel) (by decide +kernel)) (goodIn_sub (fun _ h => List.mem_cons_of_mem _ (List.mem_append_left _ (List.mem_append_right _ h))) (by decide +kernel))
set_option maxRecDepth 20000 in
theorem gX1_passTick_X1_ticksToRound : GoodIn wsX1_passTick (wsV RX1 125 RX1 yX1_ticksToRound wsX1_ticksToRound) := goodIn_app (goodIn_of _ (by decide +kernel)) ggX1_passTick_X1_ticksToRound
set_option maxRecDepth 20000 in
theorem ggX1_passTick_X1_fillShelves : GoodIn wsX1_passTick wsX1_fillShelves := goodIn_ca (goodIn_r _ [12, 2, 13, 14, 15, 16, 17, 18, 19, 6, 20, 21, 22, 23, 24, 25, 26, 27, 28, 29, 30, 254, 255, 256, 257, 258, 259, 260, 261, 262, 263, 264, 265, 266, 267, 268, 269, 270, 271] (by decide +kernel) (by decide +kernel)) (goodIn_sub (fun _ h => List.mem_cons_of_mem _ (List.mem_append_right _ h)) (by decide +kernel))
set_option maxRecDepth 20000 in
theorem gX1_passTick_X1_fillShelves : GoodIn wsX1_passTick (wsV RX1 129 RX1 yX1_fillShelves wsX1_fillShelves) := goodIn_app (goodIn_of _ (by decide +kernel)) ggX1_passTick_X1_fillShelves
set_option maxRecDepth 20000 in
theorem ggX1_passTick_X1_countDown : GoodIn wsX1_passTick wsX1_countDown := goodIn_r _ [34, 2, 35, 36, 15, 37, 38, 39, 40, 6, 41, 17, 18, 19, 20, 21, 42, 43, 44, 45, 46, 47, 254, 255, 256, 257, 258, 259, 260, 261, 262, 263, 272, 273, 274, 275, 276, 277, 278, 279, 280, 281, 282, 264, 265, 266, 267, 268, 269, 270, 271] (by decide +kernel) (by decide +kernel)
set_option maxRecDepth 20000 in
theorem gX1_passTick_X1_countDown : GoodIn wsX1_passTick (wsV RX1 132 RX1 yX1_countDown wsX1_countDown) := goodIn_app (goodIn_of _ (by decide +kernel)) ggX1_passTick_X1_countDown
set_option maxRecDepth 20000 in
theorem ggX1_passTick_X1_moveOn : GoodIn wsX1_passTick wsX1_moveOn := goodIn_ca (goodIn_r _ [51, 17, 18, 19, 6, 20, 2, 21, 38, 39, 40, 41, 42, 43, 44, 45, 46, 47, 52, 53, 54, 55, 56, 57, 58, 59, 60, 61, 62, 63, 64, 65, 66, 67, 1, 68, 69, 70, 71, 72, 73, 74, 75, 76, 77, 78, 79, 80, 81, 82, 83, 84, 85, 86, 87, 88, 89, 90, 91, 92, 93, 94, 95, 96, 97, 98, 99, 100, 101, 102, 103, 104, 105, 106, 107, 108, 109, 110, 111, 112, 113, 114, 115, 116, 117, 118, 119, 120, 121, 122, 123, 124, 125, 126, 127, 128, 129, 130, 131, 132, 133, 134, 135, 136, 137, 138, 139, 140, 141, 142, 143, 144, 145, 146, 147, 148, 36, 15, 37, 149, 14, 16, 150, 151, 152, 153, 154, 155, 156, 157, 158, 159, 160, 161, 162, 163, 164, 165, 166, 167, 168, 169, 170, 171, 172, 173, 174, 175, 176, 177, 178, 179, 180, 181, 182, 183, 184, 185, 186, 187, 188, 189, 190, 191, 192, 193, 194, 195, 196, 197, 198, 199, 200, 201, 202, 203, 204, 205, 206, 207, 208, 209, 210, 211, 212, 213, 214, 215, 216, 217, 218, 219, 220, 221, 222, 223, 224, 272, 273, 274, 275, 276, 277, 278, 279, 280, 281, 282, 264, 265, 266, 267, 268, 269, 270, 271, 254, 255, 256, 257, 258, 259, 260, 261, 262, 263, 283, 284, 285, 286, 287, 288, 289] (by decide +kernel) (by decide +kernel)) (goodIn_sub (fun _ h => List.mem_cons_of_mem _ (List.mem_append_right _ h)) (by decide +kernel))
set_option maxRecDepth 20000 in
theorem gX1_passTick_X1_moveOn : GoodIn wsX1_passTick (wsV RX1 135 RX1 yX1_moveOn wsX1_moveOn) := goodIn_app (goodIn_of _ (by decide +kernel)) ggX1_passTick_X1_moveOn
set_option maxRecDepth 20000 in
theorem ggX1_passTick_X1_enterFromLoop : GoodIn wsX1_passTick wsX1_enterFromLoop := goodIn_ca (goodIn_r _ [228, 224, 229, 230, 231, 216, 232, 219, 233, 234, 235, 236, 218, 42, 43, 44, 6, 45, 46, 47, 237, 238, 239, 81, 240, 241, 242, 243, 244, 97, 60, 61, 62, 63, 17, 18, 19, 20, 2, 21, 245, 246, 247, 248, 64, 65, 66, 67, 1, 68, 69, 70, 71, 72, 73, 74, 75, 76, 77, 78, 79, 80, 82, 83, 84, 85, 86, 87, 88, 89, 90, 91, 92, 93, 94, 95, 96, 98, 99, 100, 101, 102, 103, 104, 105, 106, 107, 108, 109, 110, 111, 112, 113, 114, 115, 116, 117, 118, 119, 120, 121, 122, 123, 124, 125, 126, 127, 128, 129, 130, 131, 132, 133, 134, 135, 136, 137, 138, 139, 140, 141, 142, 143, 144, 145, 146, 147, 148, 36, 15, 37, 149, 14, 16, 150, 151, 152, 153, 154, 155, 156, 157, 158, 159, 160, 161, 162, 163, 164, 165, 166, 167, 168, 169, 170, 171, 172, 173, 174, 175, 176, 177, 178, 179, 180, 181, 182, 183, 184, 185, 186, 187, 188, 189, 190, 191, 192, 193, 194, 195, 196, 197, 198, 199, 200, 201, 202, 203, 254, 255, 256, 257, 258, 259, 260, 261, 262, 263, 288, 289, 272, 273, 274, 275, 276, 277, 278, 279, 280, 281, 282, 264, 265, 266, 267, 268, 269, 270, 271, 283, 284, 285, 286, 287] (by decide +kernel) (by decide +kernel)) (goodIn_sub (fun _ h => List.mem_cons_of_mem _ (List.mem_append_right _ h)) (by decide +kernel))
set_option maxRecDepth 20000 in
theorem gX1_passTick_X1_enterFromLoop : GoodIn wsX1_passTick (wsV RX1 138 RX1 yX1_enterFromLoop wsX1_enterFromLoop) := goodIn_app (goodIn_of _ (by decide +kernel)) ggX1_passTick_X1_enterFromLoop
set_option maxRecDepth 20000 in
theorem ggX1_passTick_X1_enterFromWaiting : GoodIn wsX1_passTick wsX1_enterFromWaiting := goodIn_ca (goodIn_r _ [252, 253, 229, 230, 231, 216, 232, 219, 233, 234, 235, 236, 218, 42, 43, 44, 6, 45, 46, 47, 60, 61, 62, 63, 17, 18, 19, 20, 2, 21, 245, 246, 247, 248, 64, 65, 66, 67, 1, 68, 69, 70, 71, 72, 73, 74, 75, 76, 77, 78, 79, 80, 81, 82, 83, 84, 85, 86, 87, 88, 89, 90, 91, 92, 93, 94, 95, 96, 97, 98, 99, 100, 101, 102, 103, 104, 105, 106, 107, 108, 109, 110, 111, 112, 113, 114, 115, 116, 117, 118, 119, 120, 121, 122, 123, 124, 125, 126, 127, 128, 129, 130, 131, 132, 133, 134, 135, 136, 137, 138, 139, 140, 141, 142, 143, 144, 145, 146, 147, 148, 36, 15, 37, 149, 14, 16, 150, 151, 152, 153, 154, 155, 156, 157, 158, 159, 160, 161, 162, 163, 164, 165, 166, 167, 168, 169, 170, 171, 172, 173, 174, 175, 176, 177, 178, 179, 180, 181, 182, 183, 184, 185, 186, 187, 188, 189, 190, 191, 192, 193, 194, 195, 196, 197, 198, 199, 200, 201, 202, 203, 254, 255, 256, 257, 258, 259, 260, 261, 262, 263, 288, 289, 264, 265, 266, 267, 268, 269, 270, 271, 272, 273, 274, 275, 276, 277, 278, 279, 280, 281, 282, 283, 284, 285, 286, 287] (by decide +kernel) (by decide +kernel)) (goodIn_sub (fun _ h => List.mem_cons_of_mem _ (List.mem_append_right _ h)) (by decide +kernel))
set_option maxRecDepth 20000 in
theorem gX1_passTick_X1_enterFromWaiting : GoodIn wsX1_passTick (wsV RX1 141 RX1 yX1_enterFromWaiting wsX1_enterFromWaiting) := goodIn_app (goodIn_of _ (by decide +kernel)) ggX1_passTick_X1_enterFromWaiting
theorem dX1_passTick_0 : decode cX1_passTick 0 = .ok (.aload_n 0, 1) := by decide +kernel
theorem dX1_passTick_1 : decode cX1_passTick 1 = .ok (.invokevirtual 125, 3) := by decide +kernel
theorem dX1_passTick_4 : decode cX1_passTick 4 = .ok (.iconst 1, 1) := by decide +kernel
theorem dX1_passTick_5 : decode cX1_passTick 5 = .ok (.if_icmp .ne 7, 3) := by decide +kernel
theorem dX1_passTick_8 : decode cX1_passTick 8 = .ok (.iconst 1, 1) := by decide +kernel
theorem dX1_passTick_9 : decode cX1_passTick 9 = .ok (.goto 4, 3) := by decide +kernel
theorem dX1_passTick_12 : decode cX1_passTick 12 = .ok (.iconst 0, 1) := by decide +kernel
theorem dX1_passTick_13 : decode cX1_passTick 13 = .ok (.istore_n 1, 1) := by decide +kernel
theorem dX1_passTick_14 : decode cX1_passTick 14 = .ok (.aload_n 0, 1) := by decide +kernel
theorem dX1_passTick_15 : decode cX1_passTick 15 = .ok (.dup, 1) := by decide +kernel
theorem dX1_passTick_16 : decode cX1_passTick 16 = .ok (.getfield 57, 3) := by decide +kernel
theorem dX1_passTick_19 : decode cX1_passTick 19 = .ok (.iconst 1, 1) := by decide +kernel
theorem dX1_passTick_20 : decode cX1_passTick 20 = .ok (.iadd, 1) := by decide +kernel
theorem dX1_passTick_21 : decode cX1_passTick 21 = .ok (.putfield 57, 3) := by decide +kernel
theorem dX1_passTick_24 : decode cX1_passTick 24 = .ok (.iload_n 1, 1) := by decide +kernel
theorem dX1_passTick_25 : decode cX1_passTick 25 = .ok (.ifCond .eq 7, 3) := by decide +kernel
theorem dX1_passTick_28 : decode cX1_passTick 28 = .ok (.aload_n 0, 1) := by decide +kernel
theorem dX1_passTick_29 : decode cX1_passTick 29 = .ok (.invokevirtual 129, 3) := by decide +kernel
theorem dX1_passTick_32 : decode cX1_passTick 32 = .ok (.aload_n 0, 1) := by decide +kernel
theorem dX1_passTick_33 : decode cX1_passTick 33 = .ok (.iconst 1, 1) := by decide +kernel
theorem dX1_passTick_34 : decode cX1_passTick 34 = .ok (.invokevirtual 132, 3) := by decide +kernel
theorem dX1_passTick_37 : decode cX1_passTick 37 = .ok (.aload_n 0, 1) := by decide +kernel
theorem dX1_passTick_38 : decode cX1_passTick 38 = .ok (.getfield 51, 3) := by decide +kernel
theorem dX1_passTick_41 : decode cX1_passTick 41 = .ok (.iconst 1, 1) := by decide +kernel
theorem dX1_passTick_42 : decode cX1_passTick 42 = .ok (.isub, 1) := by decide +kernel
theorem dX1_passTick_43 : decode cX1_passTick 43 = .ok (.istore_n 2, 1) := by decide +kernel
theorem dX1_passTick_44 : decode cX1_passTick 44 = .ok (.iload_n 2, 1) := by decide +kernel
theorem dX1_passTick_45 : decode cX1_passTick 45 = .ok (.ifCond .lt 14, 3) := by decide +kernel
theorem dX1_passTick_48 : decode cX1_passTick 48 = .ok (.aload_n 0, 1) := by decide +kernel
theorem dX1_passTick_49 : decode cX1_passTick 49 = .ok (.iload_n 2, 1) := by decide +kernel
theorem dX1_passTick_50 : decode cX1_passTick 50 = .ok (.invokevirtual 135, 3) := by decide +kernel
theorem dX1_passTick_53 : decode cX1_passTick 53 = .ok (.iinc 2 (-1), 3) := by decide +kernel
theorem dX1_passTick_56 : decode cX1_passTick 56 = .ok (.goto (-12), 3) := by decide +kernel
theorem dX1_passTick_59 : decode cX1_passTick 59 = .ok (.aload_n 0, 1) := by decide +kernel
theorem dX1_passTick_60 : decode cX1_passTick 60 = .ok (.invokevirtual 138, 3) := by decide +kernel
theorem dX1_passTick_63 : decode cX1_passTick 63 = .ok (.aload_n 0, 1) := by decide +kernel
theorem dX1_passTick_64 : decode cX1_passTick 64 = .ok (.invokevirtual 141, 3) := by decide +kernel
theorem dX1_passTick_67 : decode cX1_passTick 67 = .ok (.return_, 1) := by decide +kernel
set_option maxRecDepth 20000 in
theorem ggX1_passQuietTicks_X1_countDown : GoodIn wsX1_passQuietTicks wsX1_countDown := goodIn_r _ [6, 7, 8, 9, 10, 11, 12, 13, 14, 5, 15, 16, 17, 18, 19, 20, 21, 22, 23, 24, 25, 26, 27, 28, 29, 30, 31, 32, 33, 34, 35, 36, 37, 38, 39, 40, 41, 42, 43, 44, 45, 46, 47, 48, 49, 50, 51, 52, 53, 54, 55] (by decide +kernel) (by decide +kernel)
set_option maxRecDepth 20000 in
theorem gX1_passQuietTicks_X1_countDown : GoodIn wsX1_passQuietTicks (wsV RX1 132 RX1 yX1_countDown wsX1_countDown) := goodIn_app (goodIn_of _ (by decide +kernel)) ggX1_passQuietTicks_X1_countDown
theorem dX1_passQuietTicks_0 : decode cX1_passQuietTicks 0 = .ok (.aload_n 0, 1) := by decide +kernel
theorem dX1_passQuietTicks_1 : decode cX1_passQuietTicks 1 = .ok (.dup, 1) := by decide +kernel
theorem dX1_passQuietTicks_2 : decode cX1_passQuietTicks 2 = .ok (.getfield 57, 3) := by decide +kernel
theorem dX1_passQuietTicks_5 : decode cX1_passQuietTicks 5 = .ok (.iload_n 1, 1) := by decide +kernel
theorem dX1_passQuietTicks_6 : decode cX1_passQuietTicks 6 = .ok (.iadd, 1) := by decide +kernel
theorem dX1_passQuietTicks_7 : decode cX1_passQuietTicks 7 = .ok (.putfield 57, 3) := by decide +kernel
theorem dX1_passQuietTicks_10 : decode cX1_passQuietTicks 10 = .ok (.aload_n 0, 1) := by decide +kernel
theorem dX1_passQuietTicks_11 : decode cX1_passQuietTicks 11 = .ok (.iload_n 1, 1) := by decide +kernel
theorem dX1_passQuietTicks_12 : decode cX1_passQuietTicks 12 = .ok (.invokevirtual 132, 3) := by decide +kernel
theorem dX1_passQuietTicks_15 : decode cX1_passQuietTicks 15 = .ok (.return_, 1) := by decide +kernel
set_option maxRecDepth 20000 in
theorem ggX1_quietTicks_X1_canEnterFromWaiting : GoodIn wsX1_quietTicks wsX1_canEnterFromWaiting := goodIn_r _ [13, 14, 15, 16, 17, 12, 18, 19, 20, 21, 22, 1, 23, 78, 79, 80, 81, 82, 83, 84, 85, 86, 87, 88, 89, 90, 91, 92, 93, 94, 95, 96, 97] (by decide +kernel) (by decide +kernel)
set_option maxRecDepth 20000 in
theorem gX1_quietTicks_X1_canEnterFromWaiting : GoodIn wsX1_quietTicks (wsV RX1 144 RX1 yX1_canEnterFromWaiting wsX1_canEnterFromWaiting) := goodIn_app (goodIn_of _ (by decide +kernel)) ggX1_quietTicks_X1_canEnterFromWaiting
set_option maxRecDepth 20000 in
theorem ggX1_quietTicks_X1_canEnterFromLoop : GoodIn wsX1_quietTicks wsX1_canEnterFromLoop := goodIn_ca (goodIn_r _ [27, 28, 29, 30, 31, 32, 33, 34, 35, 36, 37, 38, 39, 40, 41, 42, 12, 43, 44, 45, 46, 47, 48, 49, 50, 51, 52, 53, 54, 55, 15, 16, 17, 18, 19, 20, 21, 22, 1, 23, 78, 79, 80, 81, 82, 83, 84, 85, 86, 87, 88, 89, 98, 99, 100, 101, 102, 103, 104, 105, 106, 107, 108, 90, 91, 92, 93, 94, 95, 96, 97] (by decide +kernel) (by decide +kernel)) (goodIn_sub (fun _ h => List.mem_cons_of_mem _ (List.mem_append_left _ (List.mem_append_right _ h))) (by decide +kernel))
set_option maxRecDepth 20000 in
theorem gX1_quietTicks_X1_canEnterFromLoop : GoodIn wsX1_quietTicks (wsV RX1 148 RX1 yX1_canEnterFromLoop wsX1_canEnterFromLoop) := goodIn_app (goodIn_of _ (by decide +kernel)) ggX1_quietTicks_X1_canEnterFromLoop
set_option maxRecDepth 20000 in
theorem ggX1_quietTicks_X1_ticksToRound : GoodIn wsX1_quietTicks wsX1_ticksToRound := goodIn_ca (goodIn_r _ [59, 60, 61, 78, 79, 80, 81, 82, 83, 84, 85, 86, 87] (by decide +kernel) (by decide +kernel)) (goodIn_sub (fun _ h => List.mem_cons_of_mem _ (List.mem_append_right _ h)) (by decide +kernel))
set_option maxRecDepth 20000 in
theorem gX1_quietTicks_X1_ticksToRound : GoodIn wsX1_quietTicks (wsV RX1 125 RX1 yX1_ticksToRound wsX1_ticksToRound) := goodIn_app (goodIn_of _ (by decide +kernel)) ggX1_quietTicks_X1_ticksToRound
set_option maxRecDepth 20000 in
theorem ggX1_quietTicks_X1_quietTicksAt : GoodIn wsX1_quietTicks wsX1_quietTicksAt := goodIn_r _ [65, 66, 67, 68, 12, 69, 19, 20, 21, 22, 1, 23, 40, 41, 42, 43, 44, 45, 70, 71, 72, 73, 74, 75, 76, 77, 15, 16, 17, 18, 98, 99, 100, 101, 102, 103, 104, 105, 106, 107, 108, 90, 91, 92, 93, 94, 95, 96, 97, 78, 79, 80, 81, 82, 83, 84, 85, 86, 87] (by decide +kernel) (by decide +kernel)
set_option maxRecDepth 20000 in
theorem gX1_quietTicks_X1_quietTicksAt : GoodIn wsX1_quietTicks (wsV RX1 151 RX1 yX1_quietTicksAt wsX1_quietTicksAt) := goodIn_app (goodIn_of _ (by decide +kernel)) ggX1_quietTicks_X1_quietTicksAt
theorem dX1_quietTicks_0 : decode cX1_quietTicks 0 = .ok (.aload_n 0, 1) := by decide +kernel
theorem dX1_quietTicks_1 : decode cX1_quietTicks 1 = .ok (.invokevirtual 144, 3) := by decide +kernel
theorem dX1_quietTicks_4 : decode cX1_quietTicks 4 = .ok (.ifCond .ne 10, 3) := by decide +kernel
theorem dX1_quietTicks_7 : decode cX1_quietTicks 7 = .ok (.aload_n 0, 1) := by decide +kernel
theorem dX1_quietTicks_8 : decode cX1_quietTicks 8 = .ok (.invokevirtual 148, 3) := by decide +kernel
theorem dX1_quietTicks_11 : decode cX1_quietTicks 11 = .ok (.ifCond .eq 5, 3) := by decide +kernel
theorem dX1_quietTicks_14 : decode cX1_quietTicks 14 = .ok (.iconst 0, 1) := by decide +kernel
theorem dX1_quietTicks_15 : decode cX1_quietTicks 15 = .ok (.ireturn, 1) := by decide +kernel
theorem dX1_quietTicks_16 : decode cX1_quietTicks 16 = .ok (.aload_n 0, 1) := by decide +kernel
theorem dX1_quietTicks_17 : decode cX1_quietTicks 17 = .ok (.invokevirtual 125, 3) := by decide +kernel
theorem dX1_quietTicks_20 : decode cX1_quietTicks 20 = .ok (.iconst 1, 1) := by decide +kernel
theorem dX1_quietTicks_21 : decode cX1_quietTicks 21 = .ok (.isub, 1) := by decide +kernel
theorem dX1_quietTicks_22 : decode cX1_quietTicks 22 = .ok (.istore_n 1, 1) := by decide +kernel
theorem dX1_quietTicks_23 : decode cX1_quietTicks 23 = .ok (.iconst 0, 1) := by decide +kernel
theorem dX1_quietTicks_24 : decode cX1_quietTicks 24 = .ok (.istore_n 2, 1) := by decide +kernel
theorem dX1_quietTicks_25 : decode cX1_quietTicks 25 = .ok (.iload_n 2, 1) := by decide +kernel
theorem dX1_quietTicks_26 : decode cX1_quietTicks 26 = .ok (.aload_n 0, 1) := by decide +kernel
theorem dX1_quietTicks_27 : decode cX1_quietTicks 27 = .ok (.getfield 51, 3) := by decide +kernel
theorem dX1_quietTicks_30 : decode cX1_quietTicks 30 = .ok (.if_icmp .ge 19, 3) := by decide +kernel
theorem dX1_quietTicks_33 : decode cX1_quietTicks 33 = .ok (.iload_n 1, 1) := by decide +kernel
theorem dX1_quietTicks_34 : decode cX1_quietTicks 34 = .ok (.aload_n 0, 1) := by decide +kernel
theorem dX1_quietTicks_35 : decode cX1_quietTicks 35 = .ok (.iload_n 2, 1) := by decide +kernel
theorem dX1_quietTicks_36 : decode cX1_quietTicks 36 = .ok (.invokevirtual 151, 3) := by decide +kernel
theorem dX1_quietTicks_39 : decode cX1_quietTicks 39 = .ok (.invokestatic 154, 3) := by decide +kernel
theorem dX1_quietTicks_42 : decode cX1_quietTicks 42 = .ok (.istore_n 1, 1) := by decide +kernel
theorem dX1_quietTicks_43 : decode cX1_quietTicks 43 = .ok (.iinc 2 1, 3) := by decide +kernel
theorem dX1_quietTicks_46 : decode cX1_quietTicks 46 = .ok (.goto (-21), 3) := by decide +kernel
theorem dX1_quietTicks_49 : decode cX1_quietTicks 49 = .ok (.iload_n 1, 1) := by decide +kernel
theorem dX1_quietTicks_50 : decode cX1_quietTicks 50 = .ok (.iconst 0, 1) := by decide +kernel
theorem dX1_quietTicks_51 : decode cX1_quietTicks 51 = .ok (.invokestatic 160, 3) := by decide +kernel
theorem dX1_quietTicks_54 : decode cX1_quietTicks 54 = .ok (.ireturn, 1) := by decide +kernel
set_option maxRecDepth 20000 in
theorem ggX1_quietTicksAt_X1_standingAt : GoodIn wsX1_quietTicksAt wsX1_standingAt := goodIn_r _ [5, 6, 7, 8, 4, 9, 10, 11, 12, 13, 14, 15, 16, 17, 41, 42, 43, 44, 45, 46, 47, 48, 49, 50, 51, 52, 53, 54, 55, 56, 57, 58] (by decide +kernel) (by decide +kernel)
set_option maxRecDepth 20000 in
theorem gX1_quietTicksAt_X1_standingAt : GoodIn wsX1_quietTicksAt (wsV RX1 163 RX1 yX1_standingAt wsX1_standingAt) := goodIn_app (goodIn_of _ (by decide +kernel)) ggX1_quietTicksAt_X1_standingAt
set_option maxRecDepth 20000 in
theorem ggX1_quietTicksAt_X1_isHeldUp : GoodIn wsX1_quietTicksAt wsX1_isHeldUp := goodIn_r _ [21, 22, 23, 24, 4, 25, 10, 26, 27, 28, 29, 6, 7, 8, 9, 11, 30, 31, 32, 33, 34, 35, 36, 37, 38, 39, 40, 49, 50, 51, 52, 53, 54, 55, 56, 57, 58, 41, 42, 43, 44, 45, 46, 47, 48] (by decide +kernel) (by decide +kernel)
set_option maxRecDepth 20000 in
theorem gX1_quietTicksAt_X1_isHeldUp : GoodIn wsX1_quietTicksAt (wsV RX1 169 RX1 yX1_isHeldUp wsX1_isHeldUp) := goodIn_app (goodIn_of _ (by decide +kernel)) ggX1_quietTicksAt_X1_isHeldUp
theorem dX1_quietTicksAt_0 : decode cX1_quietTicksAt 0 = .ok (.aload_n 0, 1) := by decide +kernel
theorem dX1_quietTicksAt_1 : decode cX1_quietTicksAt 1 = .ok (.iload_n 1, 1) := by decide +kernel
theorem dX1_quietTicksAt_2 : decode cX1_quietTicksAt 2 = .ok (.invokevirtual 163, 3) := by decide +kernel
theorem dX1_quietTicksAt_5 : decode cX1_quietTicksAt 5 = .ok (.astore_n 2, 1) := by decide +kernel
theorem dX1_quietTicksAt_6 : decode cX1_quietTicksAt 6 = .ok (.aload_n 2, 1) := by decide +kernel
theorem dX1_quietTicksAt_7 : decode cX1_quietTicksAt 7 = .ok (.ifnonnull 7, 3) := by decide +kernel
theorem dX1_quietTicksAt_10 : decode cX1_quietTicksAt 10 = .ok (.sipush 300, 3) := by decide +kernel
theorem dX1_quietTicksAt_13 : decode cX1_quietTicksAt 13 = .ok (.ireturn, 1) := by decide +kernel
theorem dX1_quietTicksAt_14 : decode cX1_quietTicksAt 14 = .ok (.aload_n 2, 1) := by decide +kernel
theorem dX1_quietTicksAt_15 : decode cX1_quietTicksAt 15 = .ok (.getfield 166, 3) := by decide +kernel
theorem dX1_quietTicksAt_18 : decode cX1_quietTicksAt 18 = .ok (.ifCond .le 10, 3) := by decide +kernel
theorem dX1_quietTicksAt_21 : decode cX1_quietTicksAt 21 = .ok (.aload_n 2, 1) := by decide +kernel
theorem dX1_quietTicksAt_22 : decode cX1_quietTicksAt 22 = .ok (.getfield 166, 3) := by decide +kernel
theorem dX1_quietTicksAt_25 : decode cX1_quietTicksAt 25 = .ok (.iconst 1, 1) := by decide +kernel
theorem dX1_quietTicksAt_26 : decode cX1_quietTicksAt 26 = .ok (.isub, 1) := by decide +kernel
theorem dX1_quietTicksAt_27 : decode cX1_quietTicksAt 27 = .ok (.ireturn, 1) := by decide +kernel
theorem dX1_quietTicksAt_28 : decode cX1_quietTicksAt 28 = .ok (.aload_n 0, 1) := by decide +kernel
theorem dX1_quietTicksAt_29 : decode cX1_quietTicksAt 29 = .ok (.aload_n 2, 1) := by decide +kernel
theorem dX1_quietTicksAt_30 : decode cX1_quietTicksAt 30 = .ok (.invokevirtual 169, 3) := by decide +kernel
theorem dX1_quietTicksAt_33 : decode cX1_quietTicksAt 33 = .ok (.ifCond .eq 9, 3) := by decide +kernel
theorem dX1_quietTicksAt_36 : decode cX1_quietTicksAt 36 = .ok (.sipush 300, 3) := by decide +kernel
theorem dX1_quietTicksAt_39 : decode cX1_quietTicksAt 39 = .ok (.goto 4, 3) := by decide +kernel
theorem dX1_quietTicksAt_42 : decode cX1_quietTicksAt 42 = .ok (.iconst 0, 1) := by decide +kernel
theorem dX1_quietTicksAt_43 : decode cX1_quietTicksAt 43 = .ok (.ireturn, 1) := by decide +kernel
set_option maxRecDepth 20000 in
theorem ggX1_fillShelves_X1_findStation : GoodIn wsX1_fillShelves wsX1_findStation := goodIn_r _ [10, 1, 11, 21, 22, 23, 24, 25, 26, 27, 28, 29, 30] (by decide +kernel) (by decide +kernel)
set_option maxRecDepth 20000 in
theorem gX1_fillShelves_X1_findStation : GoodIn wsX1_fillShelves (wsV RX1 64 RX1 yX1_findStation wsX1_findStation) := goodIn_app (goodIn_of _ (by decide +kernel)) ggX1_fillShelves_X1_findStation
set_option maxRecDepth 20000 in
theorem ggX1_fillShelves_X1_unitsOf : GoodIn wsX1_fillShelves wsX1_unitsOf := goodIn_ca (goodIn_r _ [15, 16, 21, 22, 23, 24, 25, 26, 27, 28, 29, 30] (by decide +kernel) (by decide +kernel)) (goodIn_sub (fun _ h => List.mem_cons_of_mem _ (List.mem_append_right _ h)) (by decide +kernel))
set_option maxRecDepth 20000 in
theorem gX1_fillShelves_X1_unitsOf : GoodIn wsX1_fillShelves (wsV RX1 60 RX1 yX1_unitsOf wsX1_unitsOf) := goodIn_app (goodIn_of _ (by decide +kernel)) ggX1_fillShelves_X1_unitsOf
set_option maxRecDepth 20000 in
theorem ggX1_fillShelves_X1_changeUnits : GoodIn wsX1_fillShelves wsX1_changeUnits := goodIn_ca (goodIn_r _ [20, 16, 21, 22, 23, 24, 25, 26, 27, 28, 29, 30] (by decide +kernel) (by decide +kernel)) (goodIn_sub (fun _ h => List.mem_cons_of_mem _ (List.mem_append_right _ h)) (by decide +kernel))
set_option maxRecDepth 20000 in
theorem gX1_fillShelves_X1_changeUnits : GoodIn wsX1_fillShelves (wsV RX1 182 RX1 yX1_changeUnits wsX1_changeUnits) := goodIn_app (goodIn_of _ (by decide +kernel)) ggX1_fillShelves_X1_changeUnits
theorem dX1_fillShelves_0 : decode cX1_fillShelves 0 = .ok (.iconst 0, 1) := by decide +kernel
theorem dX1_fillShelves_1 : decode cX1_fillShelves 1 = .ok (.istore_n 1, 1) := by decide +kernel
theorem dX1_fillShelves_2 : decode cX1_fillShelves 2 = .ok (.iload_n 1, 1) := by decide +kernel
theorem dX1_fillShelves_3 : decode cX1_fillShelves 3 = .ok (.aload_n 0, 1) := by decide +kernel
theorem dX1_fillShelves_4 : decode cX1_fillShelves 4 = .ok (.getfield 51, 3) := by decide +kernel
theorem dX1_fillShelves_7 : decode cX1_fillShelves 7 = .ok (.if_icmp .ge 68, 3) := by decide +kernel
theorem dX1_fillShelves_10 : decode cX1_fillShelves 10 = .ok (.aload_n 0, 1) := by decide +kernel
theorem dX1_fillShelves_11 : decode cX1_fillShelves 11 = .ok (.iload_n 1, 1) := by decide +kernel
theorem dX1_fillShelves_12 : decode cX1_fillShelves 12 = .ok (.invokevirtual 64, 3) := by decide +kernel
theorem dX1_fillShelves_15 : decode cX1_fillShelves 15 = .ok (.astore_n 2, 1) := by decide +kernel
theorem dX1_fillShelves_16 : decode cX1_fillShelves 16 = .ok (.aload_n 2, 1) := by decide +kernel
theorem dX1_fillShelves_17 : decode cX1_fillShelves 17 = .ok (.ifnull 52, 3) := by decide +kernel
theorem dX1_fillShelves_20 : decode cX1_fillShelves 20 = .ok (.aload_n 2, 1) := by decide +kernel
theorem dX1_fillShelves_21 : decode cX1_fillShelves 21 = .ok (.getfield 173, 3) := by decide +kernel
theorem dX1_fillShelves_24 : decode cX1_fillShelves 24 = .ok (.iconst (-1), 1) := by decide +kernel
theorem dX1_fillShelves_25 : decode cX1_fillShelves 25 = .ok (.if_icmp .eq 44, 3) := by decide +kernel
theorem dX1_fillShelves_28 : decode cX1_fillShelves 28 = .ok (.aload_n 2, 1) := by decide +kernel
theorem dX1_fillShelves_29 : decode cX1_fillShelves 29 = .ok (.getfield 176, 3) := by decide +kernel
theorem dX1_fillShelves_32 : decode cX1_fillShelves 32 = .ok (.aload_n 2, 1) := by decide +kernel
theorem dX1_fillShelves_33 : decode cX1_fillShelves 33 = .ok (.getfield 179, 3) := by decide +kernel
theorem dX1_fillShelves_36 : decode cX1_fillShelves 36 = .ok (.isub, 1) := by decide +kernel
theorem dX1_fillShelves_37 : decode cX1_fillShelves 37 = .ok (.aload_n 0, 1) := by decide +kernel
theorem dX1_fillShelves_38 : decode cX1_fillShelves 38 = .ok (.aload_n 2, 1) := by decide +kernel
theorem dX1_fillShelves_39 : decode cX1_fillShelves 39 = .ok (.getfield 173, 3) := by decide +kernel
theorem dX1_fillShelves_42 : decode cX1_fillShelves 42 = .ok (.invokevirtual 60, 3) := by decide +kernel
theorem dX1_fillShelves_45 : decode cX1_fillShelves 45 = .ok (.invokestatic 154, 3) := by decide +kernel
theorem dX1_fillShelves_48 : decode cX1_fillShelves 48 = .ok (.istore_n 3, 1) := by decide +kernel
theorem dX1_fillShelves_49 : decode cX1_fillShelves 49 = .ok (.aload_n 2, 1) := by decide +kernel
theorem dX1_fillShelves_50 : decode cX1_fillShelves 50 = .ok (.dup, 1) := by decide +kernel
theorem dX1_fillShelves_51 : decode cX1_fillShelves 51 = .ok (.getfield 179, 3) := by decide +kernel
theorem dX1_fillShelves_54 : decode cX1_fillShelves 54 = .ok (.iload_n 3, 1) := by decide +kernel
theorem dX1_fillShelves_55 : decode cX1_fillShelves 55 = .ok (.iadd, 1) := by decide +kernel
theorem dX1_fillShelves_56 : decode cX1_fillShelves 56 = .ok (.putfield 179, 3) := by decide +kernel
theorem dX1_fillShelves_59 : decode cX1_fillShelves 59 = .ok (.aload_n 0, 1) := by decide +kernel
theorem dX1_fillShelves_60 : decode cX1_fillShelves 60 = .ok (.aload_n 2, 1) := by decide +kernel
theorem dX1_fillShelves_61 : decode cX1_fillShelves 61 = .ok (.getfield 173, 3) := by decide +kernel
theorem dX1_fillShelves_64 : decode cX1_fillShelves 64 = .ok (.iload_n 3, 1) := by decide +kernel
theorem dX1_fillShelves_65 : decode cX1_fillShelves 65 = .ok (.ineg, 1) := by decide +kernel
theorem dX1_fillShelves_66 : decode cX1_fillShelves 66 = .ok (.invokevirtual 182, 3) := by decide +kernel
theorem dX1_fillShelves_69 : decode cX1_fillShelves 69 = .ok (.iinc 1 1, 3) := by decide +kernel
theorem dX1_fillShelves_72 : decode cX1_fillShelves 72 = .ok (.goto (-70), 3) := by decide +kernel
theorem dX1_fillShelves_75 : decode cX1_fillShelves 75 = .ok (.return_, 1) := by decide +kernel
set_option maxRecDepth 20000 in
theorem ggX1_countDown_X1_standingAt : GoodIn wsX1_countDown wsX1_standingAt := goodIn_r _ [10, 11, 12, 13, 9, 14, 1, 15, 16, 17, 18, 19, 20, 21, 43, 44, 45, 46, 47, 48, 49, 50, 22, 23, 24, 25, 26, 27, 28, 29, 30, 31] (by decide +kernel) (by decide +kernel)
set_option maxRecDepth 20000 in
theorem gX1_countDown_X1_standingAt : GoodIn wsX1_countDown (wsV RX1 163 RX1 yX1_standingAt wsX1_standingAt) := goodIn_app (goodIn_of _ (by decide +kernel)) ggX1_countDown_X1_standingAt
theorem dX1_countDown_0 : decode cX1_countDown 0 = .ok (.iconst 0, 1) := by decide +kernel
theorem dX1_countDown_1 : decode cX1_countDown 1 = .ok (.istore_n 2, 1) := by decide +kernel
theorem dX1_countDown_2 : decode cX1_countDown 2 = .ok (.iload_n 2, 1) := by decide +kernel
theorem dX1_countDown_3 : decode cX1_countDown 3 = .ok (.aload_n 0, 1) := by decide +kernel
theorem dX1_countDown_4 : decode cX1_countDown 4 = .ok (.getfield 51, 3) := by decide +kernel
theorem dX1_countDown_7 : decode cX1_countDown 7 = .ok (.if_icmp .ge 33, 3) := by decide +kernel
theorem dX1_countDown_10 : decode cX1_countDown 10 = .ok (.aload_n 0, 1) := by decide +kernel
theorem dX1_countDown_11 : decode cX1_countDown 11 = .ok (.iload_n 2, 1) := by decide +kernel
theorem dX1_countDown_12 : decode cX1_countDown 12 = .ok (.invokevirtual 163, 3) := by decide +kernel
theorem dX1_countDown_15 : decode cX1_countDown 15 = .ok (.astore_n 3, 1) := by decide +kernel
theorem dX1_countDown_16 : decode cX1_countDown 16 = .ok (.aload_n 3, 1) := by decide +kernel
theorem dX1_countDown_17 : decode cX1_countDown 17 = .ok (.ifnull 17, 3) := by decide +kernel
theorem dX1_countDown_20 : decode cX1_countDown 20 = .ok (.aload_n 3, 1) := by decide +kernel
theorem dX1_countDown_21 : decode cX1_countDown 21 = .ok (.aload_n 3, 1) := by decide +kernel
theorem dX1_countDown_22 : decode cX1_countDown 22 = .ok (.getfield 166, 3) := by decide +kernel
theorem dX1_countDown_25 : decode cX1_countDown 25 = .ok (.iload_n 1, 1) := by decide +kernel
theorem dX1_countDown_26 : decode cX1_countDown 26 = .ok (.isub, 1) := by decide +kernel
theorem dX1_countDown_27 : decode cX1_countDown 27 = .ok (.iconst 0, 1) := by decide +kernel
theorem dX1_countDown_28 : decode cX1_countDown 28 = .ok (.invokestatic 160, 3) := by decide +kernel
theorem dX1_countDown_31 : decode cX1_countDown 31 = .ok (.putfield 166, 3) := by decide +kernel
theorem dX1_countDown_34 : decode cX1_countDown 34 = .ok (.iinc 2 1, 3) := by decide +kernel
theorem dX1_countDown_37 : decode cX1_countDown 37 = .ok (.goto (-35), 3) := by decide +kernel
theorem dX1_countDown_40 : decode cX1_countDown 40 = .ok (.return_, 1) := by decide +kernel
set_option maxRecDepth 20000 in
theorem ggX1_standingAt_X1_findStation : GoodIn wsX1_standingAt wsX1_findStation := goodIn_r _ [5, 6, 7, 22, 23, 24, 25, 26, 27, 28, 29, 30, 31] (by decide +kernel) (by decide +kernel)
set_option maxRecDepth 20000 in
theorem gX1_standingAt_X1_findStation : GoodIn wsX1_standingAt (wsV RX1 64 RX1 yX1_findStation wsX1_findStation) := goodIn_app (goodIn_of _ (by decide +kernel)) ggX1_standingAt_X1_findStation
set_option maxRecDepth 20000 in
theorem ggX1_standingAt_X1_findCar : GoodIn wsX1_standingAt wsX1_findCar := goodIn_r _ [11, 12, 13, 22, 23, 24, 25, 26, 27, 28, 29, 30, 31] (by decide +kernel) (by decide +kernel)
set_option maxRecDepth 20000 in
theorem gX1_standingAt_X1_findCar : GoodIn wsX1_standingAt (wsV RX1 72 RX1 yX1_findCar wsX1_findCar) := goodIn_app (goodIn_of _ (by decide +kernel)) ggX1_standingAt_X1_findCar
theorem dX1_standingAt_0 : decode cX1_standingAt 0 = .ok (.aload_n 0, 1) := by decide +kernel
theorem dX1_standingAt_1 : decode cX1_standingAt 1 = .ok (.iload_n 1, 1) := by decide +kernel
theorem dX1_standingAt_2 : decode cX1_standingAt 2 = .ok (.invokevirtual 64, 3) := by decide +kernel
theorem dX1_standingAt_5 : decode cX1_standingAt 5 = .ok (.astore_n 2, 1) := by decide +kernel
theorem dX1_standingAt_6 : decode cX1_standingAt 6 = .ok (.aload_n 2, 1) := by decide +kernel
theorem dX1_standingAt_7 : decode cX1_standingAt 7 = .ok (.ifnonnull 7, 3) := by decide +kernel
theorem dX1_standingAt_10 : decode cX1_standingAt 10 = .ok (.aconst_null, 1) := by decide +kernel
theorem dX1_standingAt_11 : decode cX1_standingAt 11 = .ok (.goto 11, 3) := by decide +kernel
theorem dX1_standingAt_14 : decode cX1_standingAt 14 = .ok (.aload_n 0, 1) := by decide +kernel
theorem dX1_standingAt_15 : decode cX1_standingAt 15 = .ok (.aload_n 2, 1) := by decide +kernel
theorem dX1_standingAt_16 : decode cX1_standingAt 16 = .ok (.getfield 186, 3) := by decide +kernel
theorem dX1_standingAt_19 : decode cX1_standingAt 19 = .ok (.invokevirtual 72, 3) := by decide +kernel
theorem dX1_standingAt_22 : decode cX1_standingAt 22 = .ok (.areturn, 1) := by decide +kernel
set_option maxRecDepth 20000 in
theorem ggX1_isFree_X1_findStation : GoodIn wsX1_isFree wsX1_findStation := goodIn_r _ [5, 6, 7, 16, 17, 18, 19, 20, 21, 22, 23, 24, 25] (by decide +kernel) (by decide +kernel)
set_option maxRecDepth 20000 in
theorem gX1_isFree_X1_findStation : GoodIn wsX1_isFree (wsV RX1 64 RX1 yX1_findStation wsX1_findStation) := goodIn_app (goodIn_of _ (by decide +kernel)) ggX1_isFree_X1_findStation
theorem dX1_isFree_0 : decode cX1_isFree 0 = .ok (.aload_n 0, 1) := by decide +kernel
theorem dX1_isFree_1 : decode cX1_isFree 1 = .ok (.iload_n 1, 1) := by decide +kernel
theorem dX1_isFree_2 : decode cX1_isFree 2 = .ok (.invokevirtual 64, 3) := by decide +kernel
theorem dX1_isFree_5 : decode cX1_isFree 5 = .ok (.astore_n 2, 1) := by decide +kernel
theorem dX1_isFree_6 : decode cX1_isFree 6 = .ok (.aload_n 2, 1) := by decide +kernel
theorem dX1_isFree_7 : decode cX1_isFree 7 = .ok (.ifnull 15, 3) := by decide +kernel
theorem dX1_isFree_10 : decode cX1_isFree 10 = .ok (.aload_n 2, 1) := by decide +kernel
theorem dX1_isFree_11 : decode cX1_isFree 11 = .ok (.getfield 186, 3) := by decide +kernel
theorem dX1_isFree_14 : decode cX1_isFree 14 = .ok (.iconst (-1), 1) := by decide +kernel
theorem dX1_isFree_15 : decode cX1_isFree 15 = .ok (.if_icmp .ne 7, 3) := by decide +kernel
theorem dX1_isFree_18 : decode cX1_isFree 18 = .ok (.iconst 1, 1) := by decide +kernel
theorem dX1_isFree_19 : decode cX1_isFree 19 = .ok (.goto 4, 3) := by decide +kernel
theorem dX1_isFree_22 : decode cX1_isFree 22 = .ok (.iconst 0, 1) := by decide +kernel
theorem dX1_isFree_23 : decode cX1_isFree 23 = .ok (.ireturn, 1) := by decide +kernel
theorem dX1_goesAlong_0 : decode cX1_goesAlong 0 = .ok (.aload_n 1, 1) := by decide +kernel
theorem dX1_goesAlong_1 : decode cX1_goesAlong 1 = .ok (.getfield 189, 3) := by decide +kernel
theorem dX1_goesAlong_4 : decode cX1_goesAlong 4 = .ok (.ifCond .ne 20, 3) := by decide +kernel
theorem dX1_goesAlong_7 : decode cX1_goesAlong 7 = .ok (.aload_n 1, 1) := by decide +kernel
theorem dX1_goesAlong_8 : decode cX1_goesAlong 8 = .ok (.getfield 193, 3) := by decide +kernel
theorem dX1_goesAlong_11 : decode cX1_goesAlong 11 = .ok (.iconst 1, 1) := by decide +kernel
theorem dX1_goesAlong_12 : decode cX1_goesAlong 12 = .ok (.iadd, 1) := by decide +kernel
theorem dX1_goesAlong_13 : decode cX1_goesAlong 13 = .ok (.aload_n 0, 1) := by decide +kernel
theorem dX1_goesAlong_14 : decode cX1_goesAlong 14 = .ok (.getfield 51, 3) := by decide +kernel
theorem dX1_goesAlong_17 : decode cX1_goesAlong 17 = .ok (.if_icmp .ge 7, 3) := by decide +kernel
theorem dX1_goesAlong_20 : decode cX1_goesAlong 20 = .ok (.iconst 1, 1) := by decide +kernel
theorem dX1_goesAlong_21 : decode cX1_goesAlong 21 = .ok (.goto 4, 3) := by decide +kernel
theorem dX1_goesAlong_24 : decode cX1_goesAlong 24 = .ok (.iconst 0, 1) := by decide +kernel
theorem dX1_goesAlong_25 : decode cX1_goesAlong 25 = .ok (.ireturn, 1) := by decide +kernel
set_option maxRecDepth 20000 in
theorem ggX1_isHeldUp_X1_goesAlong : GoodIn wsX1_isHeldUp wsX1_goesAlong := goodIn_r _ [5, 6, 16, 17, 18, 19, 20, 21, 22, 23, 24, 25, 26, 27, 28, 29, 30, 31, 32, 33, 34, 35, 36] (by decide +kernel) (by decide +kernel)
set_option maxRecDepth 20000 in
theorem gX1_isHeldUp_X1_goesAlong : GoodIn wsX1_isHeldUp (wsV RX1 196 RX1 yX1_goesAlong wsX1_goesAlong) := goodIn_app (goodIn_of _ (by decide +kernel)) ggX1_isHeldUp_X1_goesAlong
set_option maxRecDepth 20000 in
theorem ggX1_isHeldUp_X1_isFree : GoodIn wsX1_isHeldUp wsX1_isFree := goodIn_r _ [10, 11, 12, 13, 4, 14, 6, 15, 37, 38, 39, 40, 41, 42, 43, 44, 27, 28, 29, 30, 31, 32, 33, 34, 35, 36] (by decide +kernel) (by decide +kernel)
set_option maxRecDepth 20000 in
theorem gX1_isHeldUp_X1_isFree : GoodIn wsX1_isHeldUp (wsV RX1 199 RX1 yX1_isFree wsX1_isFree) := goodIn_app (goodIn_of _ (by decide +kernel)) ggX1_isHeldUp_X1_isFree
theorem dX1_isHeldUp_0 : decode cX1_isHeldUp 0 = .ok (.aload_n 0, 1) := by decide +kernel
theorem dX1_isHeldUp_1 : decode cX1_isHeldUp 1 = .ok (.aload_n 1, 1) := by decide +kernel
theorem dX1_isHeldUp_2 : decode cX1_isHeldUp 2 = .ok (.invokevirtual 196, 3) := by decide +kernel
theorem dX1_isHeldUp_5 : decode cX1_isHeldUp 5 = .ok (.ifCond .eq 20, 3) := by decide +kernel
theorem dX1_isHeldUp_8 : decode cX1_isHeldUp 8 = .ok (.aload_n 0, 1) := by decide +kernel
theorem dX1_isHeldUp_9 : decode cX1_isHeldUp 9 = .ok (.aload_n 1, 1) := by decide +kernel
theorem dX1_isHeldUp_10 : decode cX1_isHeldUp 10 = .ok (.getfield 193, 3) := by decide +kernel
theorem dX1_isHeldUp_13 : decode cX1_isHeldUp 13 = .ok (.iconst 1, 1) := by decide +kernel
theorem dX1_isHeldUp_14 : decode cX1_isHeldUp 14 = .ok (.iadd, 1) := by decide +kernel
theorem dX1_isHeldUp_15 : decode cX1_isHeldUp 15 = .ok (.invokevirtual 199, 3) := by decide +kernel
theorem dX1_isHeldUp_18 : decode cX1_isHeldUp 18 = .ok (.ifCond .ne 7, 3) := by decide +kernel
theorem dX1_isHeldUp_21 : decode cX1_isHeldUp 21 = .ok (.iconst 1, 1) := by decide +kernel
theorem dX1_isHeldUp_22 : decode cX1_isHeldUp 22 = .ok (.goto 4, 3) := by decide +kernel
theorem dX1_isHeldUp_25 : decode cX1_isHeldUp 25 = .ok (.iconst 0, 1) := by decide +kernel
theorem dX1_isHeldUp_26 : decode cX1_isHeldUp 26 = .ok (.ireturn, 1) := by decide +kernel
set_option maxRecDepth 20000 in
theorem ggX1_moveOn_X1_findStation : GoodIn wsX1_moveOn wsX1_findStation := goodIn_r _ [5, 6, 7, 216, 217, 218, 219, 220, 221, 222, 223, 224, 225] (by decide +kernel) (by decide +kernel)
set_option maxRecDepth 20000 in
theorem gX1_moveOn_X1_findStation : GoodIn wsX1_moveOn (wsV RX1 64 RX1 yX1_findStation wsX1_findStation) := goodIn_app (goodIn_of _ (by decide +kernel)) ggX1_moveOn_X1_findStation
set_option maxRecDepth 20000 in
theorem ggX1_moveOn_X1_standingAt : GoodIn wsX1_moveOn wsX1_standingAt := goodIn_r _ [11, 1, 2, 3, 4, 5, 6, 7, 12, 13, 14, 15, 16, 17, 208, 209, 210, 211, 212, 213, 214, 215, 216, 217, 218, 219, 220, 221, 222, 223, 224, 225] (by decide +kernel) (by decide +kernel)
set_option maxRecDepth 20000 in
theorem gX1_moveOn_X1_standingAt : GoodIn wsX1_moveOn (wsV RX1 163 RX1 yX1_standingAt wsX1_standingAt) := goodIn_app (goodIn_of _ (by decide +kernel)) ggX1_moveOn_X1_standingAt
set_option maxRecDepth 20000 in
theorem ggX1_moveOn_X1_isHeldUp : GoodIn wsX1_moveOn wsX1_isHeldUp := goodIn_r _ [21, 22, 23, 24, 4, 25, 6, 26, 27, 28, 29, 1, 2, 3, 5, 7, 197, 198, 199, 200, 201, 202, 203, 204, 205, 206, 207, 216, 217, 218, 219, 220, 221, 222, 223, 224, 225, 208, 209, 210, 211, 212, 213, 214, 215] (by decide +kernel) (by decide +kernel)
set_option maxRecDepth 20000 in
theorem gX1_moveOn_X1_isHeldUp : GoodIn wsX1_moveOn (wsV RX1 169 RX1 yX1_isHeldUp wsX1_isHeldUp) := goodIn_app (goodIn_of _ (by decide +kernel)) ggX1_moveOn_X1_isHeldUp
set_option maxRecDepth 20000 in
theorem ggX1_moveOn_X1_goesAlong : GoodIn wsX1_moveOn wsX1_goesAlong := goodIn_r _ [25, 6, 197, 198, 199, 200, 201, 202, 203, 204, 205, 206, 207, 216, 217, 218, 219, 220, 221, 222, 223, 224, 225] (by decide +kernel) (by decide +kernel)
set_option maxRecDepth 20000 in
theorem gX1_moveOn_X1_goesAlong : GoodIn wsX1_moveOn (wsV RX1 196 RX1 yX1_goesAlong wsX1_goesAlong) := goodIn_app (goodIn_of _ (by decide +kernel)) ggX1_moveOn_X1_goesAlong
set_option maxRecDepth 20000 in
theorem ggX1_moveOn_X1_enter : GoodIn wsX1_moveOn wsX1_enter := goodIn_ca (goodIn_r _ [33, 34, 1, 2, 3, 4, 5, 6, 7, 35, 36, 37, 38, 39, 40, 41, 42, 43, 44, 45, 46, 47, 48, 49, 50, 51, 52, 53, 54, 55, 56, 57, 58, 59, 60, 61, 62, 63, 64, 65, 66, 67, 68, 69, 70, 71, 72, 73, 74, 75, 76, 77, 78, 79, 80, 81, 82, 83, 84, 85, 86, 87, 88, 89, 90, 91, 92, 93, 94, 95, 96, 97, 98, 99, 100, 101, 102, 103, 104, 105, 106, 107, 108, 109, 110, 111, 112, 113, 114, 115, 116, 117, 118, 119, 120, 121, 122, 123, 124, 125, 126, 127, 128, 129, 130, 131, 132, 133, 134, 135, 136, 137, 138, 139, 140, 141, 142, 143, 144, 145, 146, 147, 148, 149, 150, 151, 152, 153, 154, 155, 156, 157, 158, 159, 160, 161, 162, 163, 164, 165, 166, 167, 168, 169, 170, 171, 172, 173, 174, 175, 197, 198, 199, 200, 201, 202, 203, 204, 205, 206, 207, 216, 217, 218, 219, 220, 221, 222, 223, 224, 225, 208, 209, 210, 211, 212, 213, 214, 215, 226, 227, 228, 229, 230] (by decide +kernel) (by decide +kernel)) (goodIn_sub (fun _ h => List.mem_cons_of_mem _ (List.mem_append_right _ h)) (by decide +kernel))
set_option maxRecDepth 20000 in
theorem gX1_moveOn_X1_enter : GoodIn wsX1_moveOn (wsV RX1 203 RX1 yX1_enter wsX1_enter) := goodIn_app (goodIn_of _ (by decide +kernel)) ggX1_moveOn_X1_enter
set_option maxRecDepth 20000 in
theorem ggX1_moveOn_X1_leave : GoodIn wsX1_moveOn wsX1_leave := goodIn_ca (goodIn_r _ [179, 34, 180, 181, 182, 183, 48, 184, 55, 56, 57, 58, 185, 186, 187, 188, 189, 190, 191, 69, 70, 71, 4, 72, 73, 74, 75, 76, 77, 78, 79, 80, 81, 82, 83, 84, 85, 86, 87, 88, 89, 90, 91, 92, 93, 94, 95, 96, 97, 98, 99, 100, 101, 102, 103, 104, 105, 106, 107, 108, 109, 110, 111, 112, 113, 114, 115, 116, 117, 118, 119, 120, 121, 122, 123, 124, 125, 126, 127, 128, 129, 130, 131, 132, 133, 134, 135, 136, 137, 138, 139, 140, 141, 142, 143, 144, 145, 146, 147, 148, 149, 150, 151, 152, 153, 154, 155, 156, 157, 158, 159, 160, 161, 162, 163, 164, 165, 166, 167, 168, 169, 170, 171, 172, 173, 174, 175, 216, 217, 218, 219, 220, 221, 222, 223, 224, 225, 197, 198, 199, 200, 201, 202, 203, 204, 205, 206, 207, 231, 232, 226, 227, 228, 229, 230] (by decide +kernel) (by decide +kernel)) (goodIn_sub (fun _ h => List.mem_cons_of_mem _ (List.mem_append_right _ h)) (by decide +kernel))
set_option maxRecDepth 20000 in
theorem gX1_moveOn_X1_leave : GoodIn wsX1_moveOn (wsV RX1 210 RX1 yX1_leave wsX1_leave) := goodIn_app (goodIn_of _ (by decide +kernel)) ggX1_moveOn_X1_leave
set_option maxRecDepth 20000 in
theorem ggX1_moveOn_X1_comeToLoop : GoodIn wsX1_moveOn wsX1_comeToLoop := goodIn_ca (goodIn_r _ [195, 196, 181, 182, 183, 48, 184, 55, 56, 57, 58, 185, 186, 187, 188, 189, 190, 191, 69, 70, 71, 4, 72, 73, 74, 75, 76, 77, 78, 79, 80, 81, 82, 83, 84, 85, 86, 87, 88, 89, 90, 91, 92, 93, 94, 95, 96, 97, 98, 99, 100, 101, 102, 103, 104, 105, 106, 107, 108, 109, 110, 111, 112, 113, 114, 115, 116, 117, 118, 119, 120, 121, 122, 123, 124, 125, 126, 127, 128, 129, 130, 131, 132, 133, 134, 135, 136, 137, 138, 139, 140, 141, 142, 143, 144, 145, 146, 147, 148, 149, 150, 151, 152, 153, 154, 155, 156, 157, 158, 159, 160, 161, 162, 163, 164, 165, 166, 167, 168, 169, 170, 171, 172, 173, 174, 175, 216, 217, 218, 219, 220, 221, 222, 223, 224, 225, 197, 198, 199, 200, 201, 202, 203, 204, 205, 206, 207, 231, 232, 226, 227, 228, 229, 230] (by decide +kernel) (by decide +kernel)) (goodIn_sub (fun _ h => List.mem_cons_of_mem _ (List.mem_append_right _ h)) (by decide +kernel))
set_option maxRecDepth 20000 in
theorem gX1_moveOn_X1_comeToLoop : GoodIn wsX1_moveOn (wsV RX1 213 RX1 yX1_comeToLoop wsX1_comeToLoop) := goodIn_app (goodIn_of _ (by decide +kernel)) ggX1_moveOn_X1_comeToLoop
theorem dX1_moveOn_0 : decode cX1_moveOn 0 = .ok (.aload_n 0, 1) := by decide +kernel
theorem dX1_moveOn_1 : decode cX1_moveOn 1 = .ok (.iload_n 1, 1) := by decide +kernel
theorem dX1_moveOn_2 : decode cX1_moveOn 2 = .ok (.invokevirtual 64, 3) := by decide +kernel
theorem dX1_moveOn_5 : decode cX1_moveOn 5 = .ok (.astore_n 2, 1) := by decide +kernel
theorem dX1_moveOn_6 : decode cX1_moveOn 6 = .ok (.aload_n 0, 1) := by decide +kernel
theorem dX1_moveOn_7 : decode cX1_moveOn 7 = .ok (.iload_n 1, 1) := by decide +kernel
theorem dX1_moveOn_8 : decode cX1_moveOn 8 = .ok (.invokevirtual 163, 3) := by decide +kernel
theorem dX1_moveOn_11 : decode cX1_moveOn 11 = .ok (.astore_n 3, 1) := by decide +kernel
theorem dX1_moveOn_12 : decode cX1_moveOn 12 = .ok (.aload_n 2, 1) := by decide +kernel
theorem dX1_moveOn_13 : decode cX1_moveOn 13 = .ok (.ifnull 22, 3) := by decide +kernel
theorem dX1_moveOn_16 : decode cX1_moveOn 16 = .ok (.aload_n 3, 1) := by decide +kernel
theorem dX1_moveOn_17 : decode cX1_moveOn 17 = .ok (.ifnull 18, 3) := by decide +kernel
theorem dX1_moveOn_20 : decode cX1_moveOn 20 = .ok (.aload_n 3, 1) := by decide +kernel
theorem dX1_moveOn_21 : decode cX1_moveOn 21 = .ok (.getfield 166, 3) := by decide +kernel
theorem dX1_moveOn_24 : decode cX1_moveOn 24 = .ok (.ifCond .gt 11, 3) := by decide +kernel
theorem dX1_moveOn_27 : decode cX1_moveOn 27 = .ok (.aload_n 0, 1) := by decide +kernel
theorem dX1_moveOn_28 : decode cX1_moveOn 28 = .ok (.aload_n 3, 1) := by decide +kernel
theorem dX1_moveOn_29 : decode cX1_moveOn 29 = .ok (.invokevirtual 169, 3) := by decide +kernel
theorem dX1_moveOn_32 : decode cX1_moveOn 32 = .ok (.ifCond .eq 4, 3) := by decide +kernel
theorem dX1_moveOn_35 : decode cX1_moveOn 35 = .ok (.return_, 1) := by decide +kernel
theorem dX1_moveOn_36 : decode cX1_moveOn 36 = .ok (.aload_n 2, 1) := by decide +kernel
theorem dX1_moveOn_37 : decode cX1_moveOn 37 = .ok (.iconst (-1), 1) := by decide +kernel
theorem dX1_moveOn_38 : decode cX1_moveOn 38 = .ok (.putfield 186, 3) := by decide +kernel
theorem dX1_moveOn_41 : decode cX1_moveOn 41 = .ok (.aload_n 0, 1) := by decide +kernel
theorem dX1_moveOn_42 : decode cX1_moveOn 42 = .ok (.aload_n 3, 1) := by decide +kernel
theorem dX1_moveOn_43 : decode cX1_moveOn 43 = .ok (.invokevirtual 196, 3) := by decide +kernel
theorem dX1_moveOn_46 : decode cX1_moveOn 46 = .ok (.ifCond .eq 15, 3) := by decide +kernel
theorem dX1_moveOn_49 : decode cX1_moveOn 49 = .ok (.aload_n 0, 1) := by decide +kernel
theorem dX1_moveOn_50 : decode cX1_moveOn 50 = .ok (.aload_n 3, 1) := by decide +kernel
theorem dX1_moveOn_51 : decode cX1_moveOn 51 = .ok (.iload_n 1, 1) := by decide +kernel
theorem dX1_moveOn_52 : decode cX1_moveOn 52 = .ok (.iconst 1, 1) := by decide +kernel
theorem dX1_moveOn_53 : decode cX1_moveOn 53 = .ok (.iadd, 1) := by decide +kernel
theorem dX1_moveOn_54 : decode cX1_moveOn 54 = .ok (.iconst 0, 1) := by decide +kernel
theorem dX1_moveOn_55 : decode cX1_moveOn 55 = .ok (.invokevirtual 203, 3) := by decide +kernel
theorem dX1_moveOn_58 : decode cX1_moveOn 58 = .ok (.goto 23, 3) := by decide +kernel
theorem dX1_moveOn_61 : decode cX1_moveOn 61 = .ok (.aload_n 3, 1) := by decide +kernel
theorem dX1_moveOn_62 : decode cX1_moveOn 62 = .ok (.getfield 207, 3) := by decide +kernel
theorem dX1_moveOn_65 : decode cX1_moveOn 65 = .ok (.ifCond .ne 11, 3) := by decide +kernel
theorem dX1_moveOn_68 : decode cX1_moveOn 68 = .ok (.aload_n 0, 1) := by decide +kernel
theorem dX1_moveOn_69 : decode cX1_moveOn 69 = .ok (.aload_n 3, 1) := by decide +kernel
theorem dX1_moveOn_70 : decode cX1_moveOn 70 = .ok (.invokevirtual 210, 3) := by decide +kernel
theorem dX1_moveOn_73 : decode cX1_moveOn 73 = .ok (.goto 8, 3) := by decide +kernel
theorem dX1_moveOn_76 : decode cX1_moveOn 76 = .ok (.aload_n 0, 1) := by decide +kernel
theorem dX1_moveOn_77 : decode cX1_moveOn 77 = .ok (.aload_n 3, 1) := by decide +kernel
theorem dX1_moveOn_78 : decode cX1_moveOn 78 = .ok (.invokevirtual 213, 3) := by decide +kernel
theorem dX1_moveOn_81 : decode cX1_moveOn 81 = .ok (.return_, 1) := by decide +kernel
set_option maxRecDepth 20000 in
theorem ggX1_enter_X1_findStation : GoodIn wsX1_enter wsX1_findStation := goodIn_r _ [6, 7, 8, 161, 162, 163, 164, 165, 166, 167, 168, 169, 170] (by decide +kernel) (by decide +kernel)
set_option maxRecDepth 20000 in
theorem gX1_enter_X1_findStation : GoodIn wsX1_enter (wsV RX1 64 RX1 yX1_findStation wsX1_findStation) := goodIn_app (goodIn_of _ (by decide +kernel)) ggX1_enter_X1_findStation
set_option maxRecDepth 20000 in
theorem ggX1_enter_X3_serve : GoodIn wsX1_enter wsX3_serve := goodIn_r _ [13, 14, 15, 16, 17, 18, 19, 20, 21, 22, 23, 24, 171, 172, 173, 174, 175, 176, 177, 178, 150, 151, 152, 153, 154, 155, 156, 157, 158, 159, 160] (by decide +kernel) (by decide +kernel)
set_option maxRecDepth 20000 in
theorem gX1_enter_X3_serve : GoodIn wsX1_enter (wsV RX1 219 RX3 yX3_serve wsX3_serve) := goodIn_app (goodIn_of _ (by decide +kernel)) ggX1_enter_X3_serve
set_option maxRecDepth 20000 in
theorem ggX1_enter_X0_stand : GoodIn wsX1_enter wsX0_stand := goodIn_r _ [28, 29, 30, 31, 32, 33, 150, 151, 152, 153, 154, 155, 156, 157, 158, 159, 160] (by decide +kernel) (by decide +kernel)
set_option maxRecDepth 20000 in
theorem gX1_enter_X0_stand : GoodIn wsX1_enter (wsV RX1 229 RX0 yX0_stand wsX0_stand) := goodIn_app (goodIn_of _ (by decide +kernel)) ggX1_enter_X0_stand
set_option maxRecDepth 20000 in
theorem ggX1_enter_X0_closeFault : GoodIn wsX1_enter wsX0_closeFault := goodIn_r _ [37, 38, 150, 151, 152, 153, 154, 155, 156, 157, 158, 159, 160] (by decide +kernel) (by decide +kernel)
set_option maxRecDepth 20000 in
theorem gX1_enter_X0_closeFault : GoodIn wsX1_enter (wsV RX1 233 RX0 yX0_closeFault wsX0_closeFault) := goodIn_app (goodIn_of _ (by decide +kernel)) ggX1_enter_X0_closeFault
set_option maxRecDepth 20000 in
theorem ggX1_enter_X0_openFault : GoodIn wsX1_enter wsX0_openFault := goodIn_r _ [42, 38, 150, 151, 152, 153, 154, 155, 156, 157, 158, 159, 160] (by decide +kernel) (by decide +kernel)
set_option maxRecDepth 20000 in
theorem gX1_enter_X0_openFault : GoodIn wsX1_enter (wsV RX1 236 RX0 yX0_openFault wsX0_openFault) := goodIn_app (goodIn_of _ (by decide +kernel)) ggX1_enter_X0_openFault
set_option maxRecDepth 20000 in
theorem ggX1_enter_X1_note : GoodIn wsX1_enter wsX1_note := goodIn_ca (goodIn_r _ [46, 47, 48, 49, 50, 51, 52, 53, 54, 55, 56, 57, 58, 59, 60, 61, 62, 63, 64, 65, 66, 67, 68, 69, 70, 71, 72, 73, 74, 75, 76, 77, 78, 79, 80, 81, 82, 83, 84, 85, 86, 87, 88, 89, 90, 91, 92, 93, 94, 95, 96, 97, 98, 99, 100, 101, 102, 103, 104, 105, 106, 107, 108, 109, 110, 111, 112, 113, 114, 115, 116, 117, 118, 119, 120, 121, 122, 123, 124, 125, 126, 127, 128, 129, 130, 131, 132, 133, 134, 135, 136, 137, 138, 139, 140, 141, 142, 143, 144, 145, 146, 147, 148, 149, 150, 151, 152, 153, 154, 155, 156, 157, 158, 159, 160, 179, 180, 181, 182, 183] (by decide +kernel) (by decide +kernel)) (goodIn_sub (fun _ h => List.mem_cons_of_mem _ (List.mem_append_right _ h)) (by decide +kernel))
set_option maxRecDepth 20000 in
theorem gX1_enter_X1_note : GoodIn wsX1_enter (wsV RX1 239 RX1 yX1_note wsX1_note) := goodIn_app (goodIn_of _ (by decide +kernel)) ggX1_enter_X1_note
theorem dX1_enter_0 : decode cX1_enter 0 = .ok (.aload_n 0, 1) := by decide +kernel
theorem dX1_enter_1 : decode cX1_enter 1 = .ok (.iload_n 2, 1) := by decide +kernel
theorem dX1_enter_2 : decode cX1_enter 2 = .ok (.invokevirtual 64, 3) := by decide +kernel
theorem dX1_enter_5 : decode cX1_enter 5 = .ok (.astore 4, 2) := by decide +kernel
theorem dX1_enter_7 : decode cX1_enter 7 = .ok (.aload 4, 2) := by decide +kernel
theorem dX1_enter_9 : decode cX1_enter 9 = .ok (.ifnonnull 4, 3) := by decide +kernel
theorem dX1_enter_12 : decode cX1_enter 12 = .ok (.return_, 1) := by decide +kernel
theorem dX1_enter_13 : decode cX1_enter 13 = .ok (.aload_n 1, 1) := by decide +kernel
theorem dX1_enter_14 : decode cX1_enter 14 = .ok (.getfield 216, 3) := by decide +kernel
theorem dX1_enter_17 : decode cX1_enter 17 = .ok (.ifCond .ne 11, 3) := by decide +kernel
theorem dX1_enter_20 : decode cX1_enter 20 = .ok (.aload_n 1, 1) := by decide +kernel
theorem dX1_enter_21 : decode cX1_enter 21 = .ok (.aload_n 0, 1) := by decide +kernel
theorem dX1_enter_22 : decode cX1_enter 22 = .ok (.getfield 57, 3) := by decide +kernel
theorem dX1_enter_25 : decode cX1_enter 25 = .ok (.putfield 114, 3) := by decide +kernel
theorem dX1_enter_28 : decode cX1_enter 28 = .ok (.aload 4, 2) := by decide +kernel
theorem dX1_enter_30 : decode cX1_enter 30 = .ok (.aload_n 1, 1) := by decide +kernel
theorem dX1_enter_31 : decode cX1_enter 31 = .ok (.iload_n 3, 1) := by decide +kernel
theorem dX1_enter_32 : decode cX1_enter 32 = .ok (.invokevirtual 219, 3) := by decide +kernel
theorem dX1_enter_35 : decode cX1_enter 35 = .ok (.istore 5, 2) := by decide +kernel
theorem dX1_enter_37 : decode cX1_enter 37 = .ok (.aload 4, 2) := by decide +kernel
theorem dX1_enter_39 : decode cX1_enter 39 = .ok (.aload_n 1, 1) := by decide +kernel
theorem dX1_enter_40 : decode cX1_enter 40 = .ok (.getfield 223, 3) := by decide +kernel
theorem dX1_enter_43 : decode cX1_enter 43 = .ok (.putfield 186, 3) := by decide +kernel
theorem dX1_enter_46 : decode cX1_enter 46 = .ok (.aload_n 1, 1) := by decide +kernel
theorem dX1_enter_47 : decode cX1_enter 47 = .ok (.iload_n 2, 1) := by decide +kernel
theorem dX1_enter_48 : decode cX1_enter 48 = .ok (.iload 5, 2) := by decide +kernel
theorem dX1_enter_50 : decode cX1_enter 50 = .ok (.bipush 46, 2) := by decide +kernel
theorem dX1_enter_52 : decode cX1_enter 52 = .ok (.if_icmp .ne 7, 3) := by decide +kernel
theorem dX1_enter_55 : decode cX1_enter 55 = .ok (.iconst 1, 1) := by decide +kernel
theorem dX1_enter_56 : decode cX1_enter 56 = .ok (.goto 8, 3) := by decide +kernel
theorem dX1_enter_59 : decode cX1_enter 59 = .ok (.aload 4, 2) := by decide +kernel
theorem dX1_enter_61 : decode cX1_enter 61 = .ok (.getfield 226, 3) := by decide +kernel
theorem dX1_enter_64 : decode cX1_enter 64 = .ok (.iload_n 3, 1) := by decide +kernel
theorem dX1_enter_65 : decode cX1_enter 65 = .ok (.invokevirtual 229, 3) := by decide +kernel
theorem dX1_enter_68 : decode cX1_enter 68 = .ok (.iload 5, 2) := by decide +kernel
theorem dX1_enter_70 : decode cX1_enter 70 = .ok (.bipush 43, 2) := by decide +kernel
theorem dX1_enter_72 : decode cX1_enter 72 = .ok (.if_icmp .ne 11, 3) := by decide +kernel
theorem dX1_enter_75 : decode cX1_enter 75 = .ok (.aload_n 1, 1) := by decide +kernel
theorem dX1_enter_76 : decode cX1_enter 76 = .ok (.iload_n 2, 1) := by decide +kernel
theorem dX1_enter_77 : decode cX1_enter 77 = .ok (.invokevirtual 233, 3) := by decide +kernel
theorem dX1_enter_80 : decode cX1_enter 80 = .ok (.goto 15, 3) := by decide +kernel
theorem dX1_enter_83 : decode cX1_enter 83 = .ok (.iload 5, 2) := by decide +kernel
theorem dX1_enter_85 : decode cX1_enter 85 = .ok (.bipush 45, 2) := by decide +kernel
theorem dX1_enter_87 : decode cX1_enter 87 = .ok (.if_icmp .ne 8, 3) := by decide +kernel
theorem dX1_enter_90 : decode cX1_enter 90 = .ok (.aload_n 1, 1) := by decide +kernel
theorem dX1_enter_91 : decode cX1_enter 91 = .ok (.iload_n 2, 1) := by decide +kernel
theorem dX1_enter_92 : decode cX1_enter 92 = .ok (.invokevirtual 236, 3) := by decide +kernel
theorem dX1_enter_95 : decode cX1_enter 95 = .ok (.aload_n 0, 1) := by decide +kernel
theorem dX1_enter_96 : decode cX1_enter 96 = .ok (.aload_n 1, 1) := by decide +kernel
theorem dX1_enter_97 : decode cX1_enter 97 = .ok (.bipush 48, 2) := by decide +kernel
theorem dX1_enter_99 : decode cX1_enter 99 = .ok (.iload_n 2, 1) := by decide +kernel
theorem dX1_enter_100 : decode cX1_enter 100 = .ok (.iadd, 1) := by decide +kernel
theorem dX1_enter_101 : decode cX1_enter 101 = .ok (.i2c, 1) := by decide +kernel
theorem dX1_enter_102 : decode cX1_enter 102 = .ok (.invokevirtual 239, 3) := by decide +kernel
theorem dX1_enter_105 : decode cX1_enter 105 = .ok (.aload_n 0, 1) := by decide +kernel
theorem dX1_enter_106 : decode cX1_enter 106 = .ok (.aload_n 1, 1) := by decide +kernel
theorem dX1_enter_107 : decode cX1_enter 107 = .ok (.iload 5, 2) := by decide +kernel
theorem dX1_enter_109 : decode cX1_enter 109 = .ok (.invokevirtual 239, 3) := by decide +kernel
theorem dX1_enter_112 : decode cX1_enter 112 = .ok (.return_, 1) := by decide +kernel
set_option maxRecDepth 20000 in
theorem ggX1_leave_X0_goAway : GoodIn wsX1_leave wsX0_goAway := goodIn_r _ [7, 8, 9, 10, 11, 137, 138, 139, 140, 141, 142, 143, 144, 145, 146, 147] (by decide +kernel) (by decide +kernel)
set_option maxRecDepth 20000 in
theorem gX1_leave_X0_goAway : GoodIn wsX1_leave (wsV RX1 243 RX0 yX0_goAway wsX0_goAway) := goodIn_app (goodIn_of _ (by decide +kernel)) ggX1_leave_X0_goAway
set_option maxRecDepth 20000 in
theorem ggX1_leave_X2_append : GoodIn wsX1_leave wsX2_append := goodIn_ca (goodIn_r _ [16, 17, 18, 148, 149] (by decide +kernel) (by decide +kernel)) (goodIn_sub (fun _ h => List.mem_cons_of_mem _ (List.mem_append_right _ h)) (by decide +kernel))
set_option maxRecDepth 20000 in
theorem gX1_leave_X2_append : GoodIn wsX1_leave (wsV RX1 97 RX2 yX2_append wsX2_append) := goodIn_app (goodIn_of _ (by decide +kernel)) ggX1_leave_X2_append
set_option maxRecDepth 20000 in
theorem ggX1_leave_X1_note : GoodIn wsX1_leave wsX1_note := goodIn_ca (goodIn_r _ [23, 24, 25, 26, 27, 28, 29, 30, 31, 32, 33, 34, 35, 36, 37, 38, 39, 40, 41, 42, 43, 44, 45, 46, 47, 48, 49, 50, 51, 52, 53, 54, 55, 56, 57, 58, 59, 60, 61, 62, 63, 64, 65, 66, 67, 68, 69, 70, 71, 72, 73, 74, 75, 76, 77, 78, 79, 80, 81, 82, 83, 84, 85, 86, 87, 88, 89, 90, 91, 92, 93, 94, 95, 96, 97, 98, 99, 100, 101, 102, 103, 104, 105, 106, 107, 108, 109, 110, 111, 112, 113, 114, 115, 116, 117, 118, 119, 120, 121, 122, 123, 124, 125, 126, 137, 138, 139, 140, 141, 142, 143, 144, 145, 146, 147, 150, 151, 152, 153, 154] (by decide +kernel) (by decide +kernel)) (goodIn_sub (fun _ h => List.mem_cons_of_mem _ (List.mem_append_right _ h)) (by decide +kernel))
set_option maxRecDepth 20000 in
theorem gX1_leave_X1_note : GoodIn wsX1_leave (wsV RX1 239 RX1 yX1_note wsX1_note) := goodIn_app (goodIn_of _ (by decide +kernel)) ggX1_leave_X1_note
theorem dX1_leave_0 : decode cX1_leave 0 = .ok (.aload_n 1, 1) := by decide +kernel
theorem dX1_leave_1 : decode cX1_leave 1 = .ok (.bipush 100, 2) := by decide +kernel
theorem dX1_leave_3 : decode cX1_leave 3 = .ok (.invokevirtual 243, 3) := by decide +kernel
theorem dX1_leave_6 : decode cX1_leave 6 = .ok (.aload_n 1, 1) := by decide +kernel
theorem dX1_leave_7 : decode cX1_leave 7 = .ok (.aload_n 0, 1) := by decide +kernel
theorem dX1_leave_8 : decode cX1_leave 8 = .ok (.getfield 57, 3) := by decide +kernel
theorem dX1_leave_11 : decode cX1_leave 11 = .ok (.putfield 111, 3) := by decide +kernel
theorem dX1_leave_14 : decode cX1_leave 14 = .ok (.aload_n 0, 1) := by decide +kernel
theorem dX1_leave_15 : decode cX1_leave 15 = .ok (.getfield 37, 3) := by decide +kernel
theorem dX1_leave_18 : decode cX1_leave 18 = .ok (.aload_n 1, 1) := by decide +kernel
theorem dX1_leave_19 : decode cX1_leave 19 = .ok (.getfield 223, 3) := by decide +kernel
theorem dX1_leave_22 : decode cX1_leave 22 = .ok (.invokevirtual 97, 3) := by decide +kernel
theorem dX1_leave_25 : decode cX1_leave 25 = .ok (.aload_n 0, 1) := by decide +kernel
theorem dX1_leave_26 : decode cX1_leave 26 = .ok (.aload_n 1, 1) := by decide +kernel
theorem dX1_leave_27 : decode cX1_leave 27 = .ok (.bipush 120, 2) := by decide +kernel
theorem dX1_leave_29 : decode cX1_leave 29 = .ok (.invokevirtual 239, 3) := by decide +kernel
theorem dX1_leave_32 : decode cX1_leave 32 = .ok (.return_, 1) := by decide +kernel
set_option maxRecDepth 20000 in
theorem ggX1_comeToLoop_X0_goAway : GoodIn wsX1_comeToLoop wsX0_goAway := goodIn_r _ [6, 7, 8, 9, 10, 136, 137, 138, 139, 140, 141, 142, 143, 144, 145, 146] (by decide +kernel) (by decide +kernel)
set_option maxRecDepth 20000 in
theorem gX1_comeToLoop_X0_goAway : GoodIn wsX1_comeToLoop (wsV RX1 243 RX0 yX0_goAway wsX0_goAway) := goodIn_app (goodIn_of _ (by decide +kernel)) ggX1_comeToLoop_X0_goAway
set_option maxRecDepth 20000 in
theorem ggX1_comeToLoop_X2_append : GoodIn wsX1_comeToLoop wsX2_append := goodIn_ca (goodIn_r _ [15, 16, 17, 147, 148] (by decide +kernel) (by decide +kernel)) (goodIn_sub (fun _ h => List.mem_cons_of_mem _ (List.mem_append_right _ h)) (by decide +kernel))
set_option maxRecDepth 20000 in
theorem gX1_comeToLoop_X2_append : GoodIn wsX1_comeToLoop (wsV RX1 97 RX2 yX2_append wsX2_append) := goodIn_app (goodIn_of _ (by decide +kernel)) ggX1_comeToLoop_X2_append
set_option maxRecDepth 20000 in
theorem ggX1_comeToLoop_X1_note : GoodIn wsX1_comeToLoop wsX1_note := goodIn_ca (goodIn_r _ [22, 23, 24, 25, 26, 27, 28, 29, 30, 31, 32, 33, 34, 35, 36, 37, 38, 39, 40, 41, 42, 43, 44, 45, 46, 47, 48, 49, 50, 51, 52, 53, 54, 55, 56, 57, 58, 59, 60, 61, 62, 63, 64, 65, 66, 67, 68, 69, 70, 71, 72, 73, 74, 75, 76, 77, 78, 79, 80, 81, 82, 83, 84, 85, 86, 87, 88, 89, 90, 91, 92, 93, 94, 95, 96, 97, 98, 99, 100, 101, 102, 103, 104, 105, 106, 107, 108, 109, 110, 111, 112, 113, 114, 115, 116, 117, 118, 119, 120, 121, 122, 123, 124, 125, 136, 137, 138, 139, 140, 141, 142, 143, 144, 145, 146, 149, 150, 151, 152, 153] (by decide +kernel) (by decide +kernel)) (goodIn_sub (fun _ h => List.mem_cons_of_mem _ (List.mem_append_right _ h)) (by decide +kernel))
set_option maxRecDepth 20000 in
theorem gX1_comeToLoop_X1_note : GoodIn wsX1_comeToLoop (wsV RX1 239 RX1 yX1_note wsX1_note) := goodIn_app (goodIn_of _ (by decide +kernel)) ggX1_comeToLoop_X1_note
theorem dX1_comeToLoop_0 : decode cX1_comeToLoop 0 = .ok (.aload_n 1, 1) := by decide +kernel
theorem dX1_comeToLoop_1 : decode cX1_comeToLoop 1 = .ok (.bipush 108, 2) := by decide +kernel
theorem dX1_comeToLoop_3 : decode cX1_comeToLoop 3 = .ok (.invokevirtual 243, 3) := by decide +kernel
theorem dX1_comeToLoop_6 : decode cX1_comeToLoop 6 = .ok (.aload_n 0, 1) := by decide +kernel
theorem dX1_comeToLoop_7 : decode cX1_comeToLoop 7 = .ok (.getfield 34, 3) := by decide +kernel
theorem dX1_comeToLoop_10 : decode cX1_comeToLoop 10 = .ok (.aload_n 1, 1) := by decide +kernel
theorem dX1_comeToLoop_11 : decode cX1_comeToLoop 11 = .ok (.getfield 223, 3) := by decide +kernel
theorem dX1_comeToLoop_14 : decode cX1_comeToLoop 14 = .ok (.invokevirtual 97, 3) := by decide +kernel
theorem dX1_comeToLoop_17 : decode cX1_comeToLoop 17 = .ok (.aload_n 0, 1) := by decide +kernel
theorem dX1_comeToLoop_18 : decode cX1_comeToLoop 18 = .ok (.aload_n 1, 1) := by decide +kernel
theorem dX1_comeToLoop_19 : decode cX1_comeToLoop 19 = .ok (.bipush 76, 2) := by decide +kernel
theorem dX1_comeToLoop_21 : decode cX1_comeToLoop 21 = .ok (.invokevirtual 239, 3) := by decide +kernel
theorem dX1_comeToLoop_24 : decode cX1_comeToLoop 24 = .ok (.return_, 1) := by decide +kernel
set_option maxRecDepth 20000 in
theorem ggX1_note_X4_append : GoodIn wsX1_note wsX4_append := goodIn_ca (goodIn_r _ [5, 6, 7, 8, 9, 10, 11, 4, 12, 13, 14, 15, 16, 17, 18, 19, 20, 21, 22, 23, 24, 25, 26, 27, 28, 29, 30, 31, 32, 33, 34, 35, 36, 37, 38, 39, 40, 41, 42, 43, 44, 45, 46, 47, 48, 49, 50, 51, 52, 53, 54, 55, 56, 57, 58, 59, 60, 61, 62, 63, 64, 65, 66, 67, 68, 69, 70, 71, 72, 73, 74, 75, 76, 77, 78, 79, 80, 81, 82, 83, 84, 85, 86, 87, 88, 89, 90, 91, 92, 93, 94, 95, 96, 97, 98, 99, 100, 101, 102, 103, 115, 116, 117, 118, 119] (by decide +kernel) (by decide +kernel)) (goodIn_sub (fun _ h => List.mem_cons_of_mem _ (List.mem_append_right _ h)) (by decide +kernel))
set_option maxRecDepth 20000 in
theorem gX1_note_X4_append : GoodIn wsX1_note (wsV RX1 247 RX4 yX4_append wsX4_append) := goodIn_app (goodIn_of _ (by decide +kernel)) ggX1_note_X4_append
theorem dX1_note_0 : decode cX1_note 0 = .ok (.aload_n 1, 1) := by decide +kernel
theorem dX1_note_1 : decode cX1_note 1 = .ok (.getfield 117, 3) := by decide +kernel
theorem dX1_note_4 : decode cX1_note 4 = .ok (.ifnull 11, 3) := by decide +kernel
theorem dX1_note_7 : decode cX1_note 7 = .ok (.aload_n 1, 1) := by decide +kernel
theorem dX1_note_8 : decode cX1_note 8 = .ok (.getfield 117, 3) := by decide +kernel
theorem dX1_note_11 : decode cX1_note 11 = .ok (.iload_n 2, 1) := by decide +kernel
theorem dX1_note_12 : decode cX1_note 12 = .ok (.invokevirtual 247, 3) := by decide +kernel
theorem dX1_note_15 : decode cX1_note 15 = .ok (.return_, 1) := by decide +kernel
set_option maxRecDepth 20000 in
theorem ggX1_canEnterFromLoop_X2_at : GoodIn wsX1_canEnterFromLoop wsX2_at := goodIn_ca (goodIn_r _ [6, 7, 8, 9, 10, 5, 11, 12, 50, 51] (by decide +kernel) (by decide +kernel)) (goodIn_sub (fun _ h => List.mem_cons_of_mem _ (List.mem_append_right _ h)) (by decide +kernel))
set_option maxRecDepth 20000 in
theorem gX1_canEnterFromLoop_X2_at : GoodIn wsX1_canEnterFromLoop (wsV RX1 108 RX2 yX2_at wsX2_at) := goodIn_app (goodIn_of _ (by decide +kernel)) ggX1_canEnterFromLoop_X2_at
set_option maxRecDepth 20000 in
theorem ggX1_canEnterFromLoop_X1_findCar : GoodIn wsX1_canEnterFromLoop wsX1_findCar := goodIn_r _ [17, 18, 19, 40, 41, 42, 43, 44, 45, 46, 47, 48, 49] (by decide +kernel) (by decide +kernel)
set_option maxRecDepth 20000 in
theorem gX1_canEnterFromLoop_X1_findCar : GoodIn wsX1_canEnterFromLoop (wsV RX1 72 RX1 yX1_findCar wsX1_findCar) := goodIn_app (goodIn_of _ (by decide +kernel)) ggX1_canEnterFromLoop_X1_findCar
set_option maxRecDepth 20000 in
theorem ggX1_canEnterFromLoop_X0_lowestFault : GoodIn wsX1_canEnterFromLoop wsX0_lowestFault := goodIn_r _ [24, 25, 26, 27, 23, 28, 29, 52, 53, 54, 55, 56, 57, 58, 59, 60, 61, 62] (by decide +kernel) (by decide +kernel)
set_option maxRecDepth 20000 in
theorem gX1_canEnterFromLoop_X0_lowestFault : GoodIn wsX1_canEnterFromLoop (wsV RX1 249 RX0 yX0_lowestFault wsX0_lowestFault) := goodIn_app (goodIn_of _ (by decide +kernel)) ggX1_canEnterFromLoop_X0_lowestFault
set_option maxRecDepth 20000 in
theorem ggX1_canEnterFromLoop_X1_isFree : GoodIn wsX1_canEnterFromLoop wsX1_isFree := goodIn_r _ [33, 34, 35, 36, 16, 37, 38, 39, 63, 64, 65, 66, 67, 68, 69, 70, 40, 41, 42, 43, 44, 45, 46, 47, 48, 49] (by decide +kernel) (by decide +kernel)
set_option maxRecDepth 20000 in
theorem gX1_canEnterFromLoop_X1_isFree : GoodIn wsX1_canEnterFromLoop (wsV RX1 199 RX1 yX1_isFree wsX1_isFree) := goodIn_app (goodIn_of _ (by decide +kernel)) ggX1_canEnterFromLoop_X1_isFree
theorem dX1_canEnterFromLoop_0 : decode cX1_canEnterFromLoop 0 = .ok (.iconst 0, 1) := by decide +kernel
theorem dX1_canEnterFromLoop_1 : decode cX1_canEnterFromLoop 1 = .ok (.istore_n 1, 1) := by decide +kernel
theorem dX1_canEnterFromLoop_2 : decode cX1_canEnterFromLoop 2 = .ok (.iload_n 1, 1) := by decide +kernel
theorem dX1_canEnterFromLoop_3 : decode cX1_canEnterFromLoop 3 = .ok (.aload_n 0, 1) := by decide +kernel
theorem dX1_canEnterFromLoop_4 : decode cX1_canEnterFromLoop 4 = .ok (.getfield 34, 3) := by decide +kernel
theorem dX1_canEnterFromLoop_7 : decode cX1_canEnterFromLoop 7 = .ok (.getfield 105, 3) := by decide +kernel
theorem dX1_canEnterFromLoop_10 : decode cX1_canEnterFromLoop 10 = .ok (.if_icmp .ge 39, 3) := by decide +kernel
theorem dX1_canEnterFromLoop_13 : decode cX1_canEnterFromLoop 13 = .ok (.aload_n 0, 1) := by decide +kernel
theorem dX1_canEnterFromLoop_14 : decode cX1_canEnterFromLoop 14 = .ok (.aload_n 0, 1) := by decide +kernel
theorem dX1_canEnterFromLoop_15 : decode cX1_canEnterFromLoop 15 = .ok (.getfield 34, 3) := by decide +kernel
theorem dX1_canEnterFromLoop_18 : decode cX1_canEnterFromLoop 18 = .ok (.iload_n 1, 1) := by decide +kernel
theorem dX1_canEnterFromLoop_19 : decode cX1_canEnterFromLoop 19 = .ok (.invokevirtual 108, 3) := by decide +kernel
theorem dX1_canEnterFromLoop_22 : decode cX1_canEnterFromLoop 22 = .ok (.invokevirtual 72, 3) := by decide +kernel
theorem dX1_canEnterFromLoop_25 : decode cX1_canEnterFromLoop 25 = .ok (.astore_n 2, 1) := by decide +kernel
theorem dX1_canEnterFromLoop_26 : decode cX1_canEnterFromLoop 26 = .ok (.aload_n 2, 1) := by decide +kernel
theorem dX1_canEnterFromLoop_27 : decode cX1_canEnterFromLoop 27 = .ok (.ifnull 16, 3) := by decide +kernel
theorem dX1_canEnterFromLoop_30 : decode cX1_canEnterFromLoop 30 = .ok (.aload_n 0, 1) := by decide +kernel
theorem dX1_canEnterFromLoop_31 : decode cX1_canEnterFromLoop 31 = .ok (.aload_n 2, 1) := by decide +kernel
theorem dX1_canEnterFromLoop_32 : decode cX1_canEnterFromLoop 32 = .ok (.invokevirtual 249, 3) := by decide +kernel
theorem dX1_canEnterFromLoop_35 : decode cX1_canEnterFromLoop 35 = .ok (.invokevirtual 199, 3) := by decide +kernel
theorem dX1_canEnterFromLoop_38 : decode cX1_canEnterFromLoop 38 = .ok (.ifCond .eq 5, 3) := by decide +kernel
theorem dX1_canEnterFromLoop_41 : decode cX1_canEnterFromLoop 41 = .ok (.iconst 1, 1) := by decide +kernel
theorem dX1_canEnterFromLoop_42 : decode cX1_canEnterFromLoop 42 = .ok (.ireturn, 1) := by decide +kernel
theorem dX1_canEnterFromLoop_43 : decode cX1_canEnterFromLoop 43 = .ok (.iinc 1 1, 3) := by decide +kernel
theorem dX1_canEnterFromLoop_46 : decode cX1_canEnterFromLoop 46 = .ok (.goto (-44), 3) := by decide +kernel
theorem dX1_canEnterFromLoop_49 : decode cX1_canEnterFromLoop 49 = .ok (.iconst 0, 1) := by decide +kernel
theorem dX1_canEnterFromLoop_50 : decode cX1_canEnterFromLoop 50 = .ok (.ireturn, 1) := by decide +kernel
set_option maxRecDepth 20000 in
theorem ggX1_enterFromLoop_X2_at : GoodIn wsX1_enterFromLoop wsX2_at := goodIn_ca (goodIn_r _ [6, 7, 8, 9, 10, 5, 11, 12, 198, 199] (by decide +kernel) (by decide +kernel)) (goodIn_sub (fun _ h => List.mem_cons_of_mem _ (List.mem_append_right _ h)) (by decide +kernel))
set_option maxRecDepth 20000 in
theorem gX1_enterFromLoop_X2_at : GoodIn wsX1_enterFromLoop (wsV RX1 108 RX2 yX2_at wsX2_at) := goodIn_app (goodIn_of _ (by decide +kernel)) ggX1_enterFromLoop_X2_at
set_option maxRecDepth 20000 in
theorem ggX1_enterFromLoop_X1_findCar : GoodIn wsX1_enterFromLoop wsX1_findCar := goodIn_r _ [17, 18, 19, 188, 189, 190, 191, 192, 193, 194, 195, 196, 197] (by decide +kernel) (by decide +kernel)
set_option maxRecDepth 20000 in
theorem gX1_enterFromLoop_X1_findCar : GoodIn wsX1_enterFromLoop (wsV RX1 72 RX1 yX1_findCar wsX1_findCar) := goodIn_app (goodIn_of _ (by decide +kernel)) ggX1_enterFromLoop_X1_findCar
set_option maxRecDepth 20000 in
theorem ggX1_enterFromLoop_X0_lowestFault : GoodIn wsX1_enterFromLoop wsX0_lowestFault := goodIn_r _ [24, 25, 26, 27, 23, 28, 29, 200, 201, 202, 203, 204, 205, 206, 207, 208, 209, 210] (by decide +kernel) (by decide +kernel)
set_option maxRecDepth 20000 in
theorem gX1_enterFromLoop_X0_lowestFault : GoodIn wsX1_enterFromLoop (wsV RX1 249 RX0 yX0_lowestFault wsX0_lowestFault) := goodIn_app (goodIn_of _ (by decide +kernel)) ggX1_enterFromLoop_X0_lowestFault
set_option maxRecDepth 20000 in
theorem ggX1_enterFromLoop_X1_isFree : GoodIn wsX1_enterFromLoop wsX1_isFree := goodIn_r _ [33, 34, 35, 36, 16, 37, 38, 39, 211, 212, 213, 214, 215, 216, 217, 218, 188, 189, 190, 191, 192, 193, 194, 195, 196, 197] (by decide +kernel) (by decide +kernel)
set_option maxRecDepth 20000 in
theorem gX1_enterFromLoop_X1_isFree : GoodIn wsX1_enterFromLoop (wsV RX1 199 RX1 yX1_isFree wsX1_isFree) := goodIn_app (goodIn_of _ (by decide +kernel)) ggX1_enterFromLoop_X1_isFree
set_option maxRecDepth 20000 in
theorem ggX1_enterFromLoop_X2_removeAt : GoodIn wsX1_enterFromLoop wsX2_removeAt := goodIn_ca (goodIn_r _ [43, 7, 12, 8, 9, 10, 5, 11, 198, 199] (by decide +kernel) (by decide +kernel)) (goodIn_sub (fun _ h => List.mem_cons_of_mem _ (List.mem_append_right _ h)) (by decide +kernel))
set_option maxRecDepth 20000 in
theorem gX1_enterFromLoop_X2_removeAt : GoodIn wsX1_enterFromLoop (wsV RX1 252 RX2 yX2_removeAt wsX2_removeAt) := goodIn_app (goodIn_of _ (by decide +kernel)) ggX1_enterFromLoop_X2_removeAt
set_option maxRecDepth 20000 in
theorem ggX1_enterFromLoop_X1_enter : GoodIn wsX1_enterFromLoop wsX1_enter := goodIn_ca (goodIn_r _ [47, 48, 34, 35, 36, 16, 37, 38, 39, 49, 50, 51, 52, 53, 54, 55, 56, 57, 58, 59, 60, 61, 23, 62, 63, 64, 65, 66, 67, 68, 69, 70, 71, 72, 73, 74, 75, 76, 29, 77, 78, 79, 80, 81, 82, 83, 84, 85, 86, 87, 88, 89, 90, 91, 92, 93, 94, 95, 96, 97, 98, 99, 100, 101, 102, 103, 104, 105, 106, 107, 108, 109, 110, 111, 112, 113, 114, 115, 116, 117, 118, 119, 120, 121, 122, 123, 124, 125, 126, 127, 128, 129, 130, 131, 132, 133, 134, 135, 136, 137, 138, 139, 140, 141, 142, 143, 144, 145, 146, 147, 148, 149, 150, 151, 152, 153, 154, 155, 156, 157, 158, 159, 160, 161, 162, 163, 164, 165, 166, 167, 168, 169, 170, 171, 172, 173, 174, 175, 176, 177, 178, 179, 180, 181, 182, 183, 184, 185, 186, 187, 200, 201, 202, 203, 204, 205, 206, 207, 208, 209, 210, 188, 189, 190, 191, 192, 193, 194, 195, 196, 197, 211, 212, 213, 214, 215, 216, 217, 218, 219, 220, 221, 222, 223] (by decide +kernel) (by decide +kernel)) (goodIn_sub (fun _ h => List.mem_cons_of_mem _ (List.mem_append_right _ h)) (by decide +kernel))
set_option maxRecDepth 20000 in
theorem gX1_enterFromLoop_X1_enter : GoodIn wsX1_enterFromLoop (wsV RX1 203 RX1 yX1_enter wsX1_enter) := goodIn_app (goodIn_of _ (by decide +kernel)) ggX1_enterFromLoop_X1_enter
theorem dX1_enterFromLoop_0 : decode cX1_enterFromLoop 0 = .ok (.aload_n 0, 1) := by decide +kernel
theorem dX1_enterFromLoop_1 : decode cX1_enterFromLoop 1 = .ok (.getfield 34, 3) := by decide +kernel
theorem dX1_enterFromLoop_4 : decode cX1_enterFromLoop 4 = .ok (.getfield 105, 3) := by decide +kernel
theorem dX1_enterFromLoop_7 : decode cX1_enterFromLoop 7 = .ok (.istore_n 1, 1) := by decide +kernel
theorem dX1_enterFromLoop_8 : decode cX1_enterFromLoop 8 = .ok (.iconst 0, 1) := by decide +kernel
theorem dX1_enterFromLoop_9 : decode cX1_enterFromLoop 9 = .ok (.istore_n 2, 1) := by decide +kernel
theorem dX1_enterFromLoop_10 : decode cX1_enterFromLoop 10 = .ok (.iconst 0, 1) := by decide +kernel
theorem dX1_enterFromLoop_11 : decode cX1_enterFromLoop 11 = .ok (.istore_n 3, 1) := by decide +kernel
theorem dX1_enterFromLoop_12 : decode cX1_enterFromLoop 12 = .ok (.iload_n 3, 1) := by decide +kernel
theorem dX1_enterFromLoop_13 : decode cX1_enterFromLoop 13 = .ok (.iload_n 1, 1) := by decide +kernel
theorem dX1_enterFromLoop_14 : decode cX1_enterFromLoop 14 = .ok (.if_icmp .ge 66, 3) := by decide +kernel
theorem dX1_enterFromLoop_17 : decode cX1_enterFromLoop 17 = .ok (.aload_n 0, 1) := by decide +kernel
theorem dX1_enterFromLoop_18 : decode cX1_enterFromLoop 18 = .ok (.aload_n 0, 1) := by decide +kernel
theorem dX1_enterFromLoop_19 : decode cX1_enterFromLoop 19 = .ok (.getfield 34, 3) := by decide +kernel
theorem dX1_enterFromLoop_22 : decode cX1_enterFromLoop 22 = .ok (.iload_n 2, 1) := by decide +kernel
theorem dX1_enterFromLoop_23 : decode cX1_enterFromLoop 23 = .ok (.invokevirtual 108, 3) := by decide +kernel
theorem dX1_enterFromLoop_26 : decode cX1_enterFromLoop 26 = .ok (.invokevirtual 72, 3) := by decide +kernel
theorem dX1_enterFromLoop_29 : decode cX1_enterFromLoop 29 = .ok (.astore 4, 2) := by decide +kernel
theorem dX1_enterFromLoop_31 : decode cX1_enterFromLoop 31 = .ok (.aload 4, 2) := by decide +kernel
theorem dX1_enterFromLoop_33 : decode cX1_enterFromLoop 33 = .ok (.ifnull 38, 3) := by decide +kernel
theorem dX1_enterFromLoop_36 : decode cX1_enterFromLoop 36 = .ok (.aload_n 0, 1) := by decide +kernel
theorem dX1_enterFromLoop_37 : decode cX1_enterFromLoop 37 = .ok (.aload 4, 2) := by decide +kernel
theorem dX1_enterFromLoop_39 : decode cX1_enterFromLoop 39 = .ok (.invokevirtual 249, 3) := by decide +kernel
theorem dX1_enterFromLoop_42 : decode cX1_enterFromLoop 42 = .ok (.invokevirtual 199, 3) := by decide +kernel
theorem dX1_enterFromLoop_45 : decode cX1_enterFromLoop 45 = .ok (.ifCond .eq 26, 3) := by decide +kernel
theorem dX1_enterFromLoop_48 : decode cX1_enterFromLoop 48 = .ok (.aload_n 0, 1) := by decide +kernel
theorem dX1_enterFromLoop_49 : decode cX1_enterFromLoop 49 = .ok (.getfield 34, 3) := by decide +kernel
theorem dX1_enterFromLoop_52 : decode cX1_enterFromLoop 52 = .ok (.iload_n 2, 1) := by decide +kernel
theorem dX1_enterFromLoop_53 : decode cX1_enterFromLoop 53 = .ok (.invokevirtual 252, 3) := by decide +kernel
theorem dX1_enterFromLoop_56 : decode cX1_enterFromLoop 56 = .ok (.aload_n 0, 1) := by decide +kernel
theorem dX1_enterFromLoop_57 : decode cX1_enterFromLoop 57 = .ok (.aload 4, 2) := by decide +kernel
theorem dX1_enterFromLoop_59 : decode cX1_enterFromLoop 59 = .ok (.aload 4, 2) := by decide +kernel
theorem dX1_enterFromLoop_61 : decode cX1_enterFromLoop 61 = .ok (.invokevirtual 249, 3) := by decide +kernel
theorem dX1_enterFromLoop_64 : decode cX1_enterFromLoop 64 = .ok (.iconst 1, 1) := by decide +kernel
theorem dX1_enterFromLoop_65 : decode cX1_enterFromLoop 65 = .ok (.invokevirtual 203, 3) := by decide +kernel
theorem dX1_enterFromLoop_68 : decode cX1_enterFromLoop 68 = .ok (.goto 6, 3) := by decide +kernel
theorem dX1_enterFromLoop_71 : decode cX1_enterFromLoop 71 = .ok (.iinc 2 1, 3) := by decide +kernel
theorem dX1_enterFromLoop_74 : decode cX1_enterFromLoop 74 = .ok (.iinc 3 1, 3) := by decide +kernel
theorem dX1_enterFromLoop_77 : decode cX1_enterFromLoop 77 = .ok (.goto (-65), 3) := by decide +kernel
theorem dX1_enterFromLoop_80 : decode cX1_enterFromLoop 80 = .ok (.return_, 1) := by decide +kernel
set_option maxRecDepth 20000 in
theorem ggX1_canEnterFromWaiting_X1_isFree : GoodIn wsX1_canEnterFromWaiting wsX1_isFree := goodIn_r _ [6, 7, 8, 9, 5, 10, 11, 12, 25, 26, 27, 28, 29, 30, 31, 32, 13, 14, 15, 16, 17, 18, 19, 20, 21, 22] (by decide +kernel) (by decide +kernel)
set_option maxRecDepth 20000 in
theorem gX1_canEnterFromWaiting_X1_isFree : GoodIn wsX1_canEnterFromWaiting (wsV RX1 199 RX1 yX1_isFree wsX1_isFree) := goodIn_app (goodIn_of _ (by decide +kernel)) ggX1_canEnterFromWaiting_X1_isFree
theorem dX1_canEnterFromWaiting_0 : decode cX1_canEnterFromWaiting 0 = .ok (.aload_n 0, 1) := by decide +kernel
theorem dX1_canEnterFromWaiting_1 : decode cX1_canEnterFromWaiting 1 = .ok (.getfield 30, 3) := by decide +kernel
theorem dX1_canEnterFromWaiting_4 : decode cX1_canEnterFromWaiting 4 = .ok (.getfield 105, 3) := by decide +kernel
theorem dX1_canEnterFromWaiting_7 : decode cX1_canEnterFromWaiting 7 = .ok (.ifCond .le 15, 3) := by decide +kernel
theorem dX1_canEnterFromWaiting_10 : decode cX1_canEnterFromWaiting 10 = .ok (.aload_n 0, 1) := by decide +kernel
theorem dX1_canEnterFromWaiting_11 : decode cX1_canEnterFromWaiting 11 = .ok (.iconst 0, 1) := by decide +kernel
theorem dX1_canEnterFromWaiting_12 : decode cX1_canEnterFromWaiting 12 = .ok (.invokevirtual 199, 3) := by decide +kernel
theorem dX1_canEnterFromWaiting_15 : decode cX1_canEnterFromWaiting 15 = .ok (.ifCond .eq 7, 3) := by decide +kernel
theorem dX1_canEnterFromWaiting_18 : decode cX1_canEnterFromWaiting 18 = .ok (.iconst 1, 1) := by decide +kernel
theorem dX1_canEnterFromWaiting_19 : decode cX1_canEnterFromWaiting 19 = .ok (.goto 4, 3) := by decide +kernel
theorem dX1_canEnterFromWaiting_22 : decode cX1_canEnterFromWaiting 22 = .ok (.iconst 0, 1) := by decide +kernel
theorem dX1_canEnterFromWaiting_23 : decode cX1_canEnterFromWaiting 23 = .ok (.ireturn, 1) := by decide +kernel
set_option maxRecDepth 20000 in
theorem ggX1_enterFromWaiting_X2_at : GoodIn wsX1_enterFromWaiting wsX2_at := goodIn_ca (goodIn_r _ [6, 7, 8, 9, 10, 5, 11, 12, 190, 191] (by decide +kernel) (by decide +kernel)) (goodIn_sub (fun _ h => List.mem_cons_of_mem _ (List.mem_append_right _ h)) (by decide +kernel))
set_option maxRecDepth 20000 in
theorem gX1_enterFromWaiting_X2_at : GoodIn wsX1_enterFromWaiting (wsV RX1 108 RX2 yX2_at wsX2_at) := goodIn_app (goodIn_of _ (by decide +kernel)) ggX1_enterFromWaiting_X2_at
set_option maxRecDepth 20000 in
theorem ggX1_enterFromWaiting_X1_findCar : GoodIn wsX1_enterFromWaiting wsX1_findCar := goodIn_r _ [17, 18, 19, 180, 181, 182, 183, 184, 185, 186, 187, 188, 189] (by decide +kernel) (by decide +kernel)
set_option maxRecDepth 20000 in
theorem gX1_enterFromWaiting_X1_findCar : GoodIn wsX1_enterFromWaiting (wsV RX1 72 RX1 yX1_findCar wsX1_findCar) := goodIn_app (goodIn_of _ (by decide +kernel)) ggX1_enterFromWaiting_X1_findCar
set_option maxRecDepth 20000 in
theorem ggX1_enterFromWaiting_X1_isFree : GoodIn wsX1_enterFromWaiting wsX1_isFree := goodIn_r _ [23, 24, 25, 26, 16, 27, 28, 29, 192, 193, 194, 195, 196, 197, 198, 199, 180, 181, 182, 183, 184, 185, 186, 187, 188, 189] (by decide +kernel) (by decide +kernel)
set_option maxRecDepth 20000 in
theorem gX1_enterFromWaiting_X1_isFree : GoodIn wsX1_enterFromWaiting (wsV RX1 199 RX1 yX1_isFree wsX1_isFree) := goodIn_app (goodIn_of _ (by decide +kernel)) ggX1_enterFromWaiting_X1_isFree
set_option maxRecDepth 20000 in
theorem ggX1_enterFromWaiting_X2_removeAt : GoodIn wsX1_enterFromWaiting wsX2_removeAt := goodIn_ca (goodIn_r _ [33, 7, 12, 8, 9, 10, 5, 11, 190, 191] (by decide +kernel) (by decide +kernel)) (goodIn_sub (fun _ h => List.mem_cons_of_mem _ (List.mem_append_right _ h)) (by decide +kernel))
set_option maxRecDepth 20000 in
theorem gX1_enterFromWaiting_X2_removeAt : GoodIn wsX1_enterFromWaiting (wsV RX1 252 RX2 yX2_removeAt wsX2_removeAt) := goodIn_app (goodIn_of _ (by decide +kernel)) ggX1_enterFromWaiting_X2_removeAt
set_option maxRecDepth 20000 in
theorem ggX1_enterFromWaiting_X1_enter : GoodIn wsX1_enterFromWaiting wsX1_enter := goodIn_ca (goodIn_r _ [37, 38, 24, 25, 26, 16, 27, 28, 29, 39, 40, 41, 42, 43, 44, 45, 46, 47, 48, 49, 50, 51, 52, 53, 54, 55, 56, 57, 58, 59, 60, 61, 62, 63, 64, 65, 66, 67, 68, 69, 70, 71, 72, 73, 74, 75, 76, 77, 78, 79, 80, 81, 82, 83, 84, 85, 86, 87, 88, 89, 90, 91, 92, 93, 94, 95, 96, 97, 98, 99, 100, 101, 102, 103, 104, 105, 106, 107, 108, 109, 110, 111, 112, 113, 114, 115, 116, 117, 118, 119, 120, 121, 122, 123, 124, 125, 126, 127, 128, 129, 130, 131, 132, 133, 134, 135, 136, 137, 138, 139, 140, 141, 142, 143, 144, 145, 146, 147, 148, 149, 150, 151, 152, 153, 154, 155, 156, 157, 158, 159, 160, 161, 162, 163, 164, 165, 166, 167, 168, 169, 170, 171, 172, 173, 174, 175, 176, 177, 178, 179, 200, 201, 202, 203, 204, 205, 206, 207, 208, 209, 210, 180, 181, 182, 183, 184, 185, 186, 187, 188, 189, 192, 193, 194, 195, 196, 197, 198, 199, 211, 212, 213, 214, 215] (by decide +kernel) (by decide +kernel)) (goodIn_sub (fun _ h => List.mem_cons_of_mem _ (List.mem_append_right _ h)) (by decide +kernel))
set_option maxRecDepth 20000 in
theorem gX1_enterFromWaiting_X1_enter : GoodIn wsX1_enterFromWaiting (wsV RX1 203 RX1 yX1_enter wsX1_enter) := goodIn_app (goodIn_of _ (by decide +kernel)) ggX1_enterFromWaiting_X1_enter
theorem dX1_enterFromWaiting_0 : decode cX1_enterFromWaiting 0 = .ok (.aload_n 0, 1) := by decide +kernel
theorem dX1_enterFromWaiting_1 : decode cX1_enterFromWaiting 1 = .ok (.aload_n 0, 1) := by decide +kernel
theorem dX1_enterFromWaiting_2 : decode cX1_enterFromWaiting 2 = .ok (.getfield 30, 3) := by decide +kernel
theorem dX1_enterFromWaiting_5 : decode cX1_enterFromWaiting 5 = .ok (.iconst 0, 1) := by decide +kernel
theorem dX1_enterFromWaiting_6 : decode cX1_enterFromWaiting 6 = .ok (.invokevirtual 108, 3) := by decide +kernel
theorem dX1_enterFromWaiting_9 : decode cX1_enterFromWaiting 9 = .ok (.invokevirtual 72, 3) := by decide +kernel
theorem dX1_enterFromWaiting_12 : decode cX1_enterFromWaiting 12 = .ok (.astore_n 1, 1) := by decide +kernel
theorem dX1_enterFromWaiting_13 : decode cX1_enterFromWaiting 13 = .ok (.aload_n 1, 1) := by decide +kernel
theorem dX1_enterFromWaiting_14 : decode cX1_enterFromWaiting 14 = .ok (.ifnull 26, 3) := by decide +kernel
theorem dX1_enterFromWaiting_17 : decode cX1_enterFromWaiting 17 = .ok (.aload_n 0, 1) := by decide +kernel
theorem dX1_enterFromWaiting_18 : decode cX1_enterFromWaiting 18 = .ok (.iconst 0, 1) := by decide +kernel
theorem dX1_enterFromWaiting_19 : decode cX1_enterFromWaiting 19 = .ok (.invokevirtual 199, 3) := by decide +kernel
theorem dX1_enterFromWaiting_22 : decode cX1_enterFromWaiting 22 = .ok (.ifCond .eq 18, 3) := by decide +kernel
theorem dX1_enterFromWaiting_25 : decode cX1_enterFromWaiting 25 = .ok (.aload_n 0, 1) := by decide +kernel
theorem dX1_enterFromWaiting_26 : decode cX1_enterFromWaiting 26 = .ok (.getfield 30, 3) := by decide +kernel
theorem dX1_enterFromWaiting_29 : decode cX1_enterFromWaiting 29 = .ok (.iconst 0, 1) := by decide +kernel
theorem dX1_enterFromWaiting_30 : decode cX1_enterFromWaiting 30 = .ok (.invokevirtual 252, 3) := by decide +kernel
theorem dX1_enterFromWaiting_33 : decode cX1_enterFromWaiting 33 = .ok (.aload_n 0, 1) := by decide +kernel
theorem dX1_enterFromWaiting_34 : decode cX1_enterFromWaiting 34 = .ok (.aload_n 1, 1) := by decide +kernel
theorem dX1_enterFromWaiting_35 : decode cX1_enterFromWaiting 35 = .ok (.iconst 0, 1) := by decide +kernel
theorem dX1_enterFromWaiting_36 : decode cX1_enterFromWaiting 36 = .ok (.iconst 0, 1) := by decide +kernel
theorem dX1_enterFromWaiting_37 : decode cX1_enterFromWaiting 37 = .ok (.invokevirtual 203, 3) := by decide +kernel
theorem dX1_enterFromWaiting_40 : decode cX1_enterFromWaiting 40 = .ok (.return_, 1) := by decide +kernel
theorem dX2_init_0 : decode cX2_init 0 = .ok (.aload_n 0, 1) := by decide +kernel
theorem dX2_init_1 : decode cX2_init 1 = .ok (.invokespecial 3, 3) := by decide +kernel
theorem dX2_init_4 : decode cX2_init 4 = .ok (.aload_n 0, 1) := by decide +kernel
theorem dX2_init_5 : decode cX2_init 5 = .ok (.bipush 30, 2) := by decide +kernel
theorem dX2_init_7 : decode cX2_init 7 = .ok (.newarray .int, 2) := by decide +kernel
theorem dX2_init_9 : decode cX2_init 9 = .ok (.putfield 9, 3) := by decide +kernel
theorem dX2_init_12 : decode cX2_init 12 = .ok (.return_, 1) := by decide +kernel
theorem dX2_has_0 : decode cX2_has 0 = .ok (.iload_n 1, 1) := by decide +kernel
theorem dX2_has_1 : decode cX2_has 1 = .ok (.ifCond .lt 24, 3) := by decide +kernel
theorem dX2_has_4 : decode cX2_has 4 = .ok (.iload_n 1, 1) := by decide +kernel
theorem dX2_has_5 : decode cX2_has 5 = .ok (.aload_n 0, 1) := by decide +kernel
theorem dX2_has_6 : decode cX2_has 6 = .ok (.getfield 15, 3) := by decide +kernel
theorem dX2_has_9 : decode cX2_has 9 = .ok (.if_icmp .ge 16, 3) := by decide +kernel
theorem dX2_has_12 : decode cX2_has 12 = .ok (.iload_n 1, 1) := by decide +kernel
theorem dX2_has_13 : decode cX2_has 13 = .ok (.aload_n 0, 1) := by decide +kernel
theorem dX2_has_14 : decode cX2_has 14 = .ok (.getfield 9, 3) := by decide +kernel
theorem dX2_has_17 : decode cX2_has 17 = .ok (.arraylength, 1) := by decide +kernel
theorem dX2_has_18 : decode cX2_has 18 = .ok (.if_icmp .ge 7, 3) := by decide +kernel
theorem dX2_has_21 : decode cX2_has 21 = .ok (.iconst 1, 1) := by decide +kernel
theorem dX2_has_22 : decode cX2_has 22 = .ok (.goto 4, 3) := by decide +kernel
theorem dX2_has_25 : decode cX2_has 25 = .ok (.iconst 0, 1) := by decide +kernel
theorem dX2_has_26 : decode cX2_has 26 = .ok (.ireturn, 1) := by decide +kernel
set_option maxRecDepth 20000 in
theorem ggX2_at_X2_has : GoodIn wsX2_at wsX2_has := goodIn_r _ [6, 7, 1, 8, 9] (by decide +kernel) (by decide +kernel)
set_option maxRecDepth 20000 in
theorem gX2_at_X2_has : GoodIn wsX2_at (wsV RX2 19 RX2 yX2_has wsX2_has) := goodIn_app (goodIn_of _ (by decide +kernel)) ggX2_at_X2_has
theorem dX2_at_0 : decode cX2_at 0 = .ok (.aload_n 0, 1) := by decide +kernel
theorem dX2_at_1 : decode cX2_at 1 = .ok (.iload_n 1, 1) := by decide +kernel
theorem dX2_at_2 : decode cX2_at 2 = .ok (.invokevirtual 19, 3) := by decide +kernel
theorem dX2_at_5 : decode cX2_at 5 = .ok (.ifCond .eq 12, 3) := by decide +kernel
theorem dX2_at_8 : decode cX2_at 8 = .ok (.aload_n 0, 1) := by decide +kernel
theorem dX2_at_9 : decode cX2_at 9 = .ok (.getfield 9, 3) := by decide +kernel
theorem dX2_at_12 : decode cX2_at 12 = .ok (.iload_n 1, 1) := by decide +kernel
theorem dX2_at_13 : decode cX2_at 13 = .ok (.iaload, 1) := by decide +kernel
theorem dX2_at_14 : decode cX2_at 14 = .ok (.goto 4, 3) := by decide +kernel
theorem dX2_at_17 : decode cX2_at 17 = .ok (.iconst (-1), 1) := by decide +kernel
theorem dX2_at_18 : decode cX2_at 18 = .ok (.ireturn, 1) := by decide +kernel
set_option maxRecDepth 20000 in
theorem ggX2_placeOf_X2_at : GoodIn wsX2_placeOf wsX2_at := goodIn_ca (goodIn_r _ [6, 1, 7, 8, 9, 5, 10, 11, 12, 13] (by decide +kernel) (by decide +kernel)) (goodIn_sub (fun _ h => List.mem_cons_of_mem _ (List.mem_append_right _ h)) (by decide +kernel))
set_option maxRecDepth 20000 in
theorem gX2_placeOf_X2_at : GoodIn wsX2_placeOf (wsV RX2 23 RX2 yX2_at wsX2_at) := goodIn_app (goodIn_of _ (by decide +kernel)) ggX2_placeOf_X2_at
theorem dX2_placeOf_0 : decode cX2_placeOf 0 = .ok (.iconst 0, 1) := by decide +kernel
theorem dX2_placeOf_1 : decode cX2_placeOf 1 = .ok (.istore_n 2, 1) := by decide +kernel
theorem dX2_placeOf_2 : decode cX2_placeOf 2 = .ok (.iload_n 2, 1) := by decide +kernel
theorem dX2_placeOf_3 : decode cX2_placeOf 3 = .ok (.aload_n 0, 1) := by decide +kernel
theorem dX2_placeOf_4 : decode cX2_placeOf 4 = .ok (.getfield 9, 3) := by decide +kernel
theorem dX2_placeOf_7 : decode cX2_placeOf 7 = .ok (.arraylength, 1) := by decide +kernel
theorem dX2_placeOf_8 : decode cX2_placeOf 8 = .ok (.if_icmp .ge 20, 3) := by decide +kernel
theorem dX2_placeOf_11 : decode cX2_placeOf 11 = .ok (.aload_n 0, 1) := by decide +kernel
theorem dX2_placeOf_12 : decode cX2_placeOf 12 = .ok (.iload_n 2, 1) := by decide +kernel
theorem dX2_placeOf_13 : decode cX2_placeOf 13 = .ok (.invokevirtual 23, 3) := by decide +kernel
theorem dX2_placeOf_16 : decode cX2_placeOf 16 = .ok (.iload_n 1, 1) := by decide +kernel
theorem dX2_placeOf_17 : decode cX2_placeOf 17 = .ok (.if_icmp .ne 5, 3) := by decide +kernel
theorem dX2_placeOf_20 : decode cX2_placeOf 20 = .ok (.iload_n 2, 1) := by decide +kernel
theorem dX2_placeOf_21 : decode cX2_placeOf 21 = .ok (.ireturn, 1) := by decide +kernel
theorem dX2_placeOf_22 : decode cX2_placeOf 22 = .ok (.iinc 2 1, 3) := by decide +kernel
theorem dX2_placeOf_25 : decode cX2_placeOf 25 = .ok (.goto (-23), 3) := by decide +kernel
theorem dX2_placeOf_28 : decode cX2_placeOf 28 = .ok (.iconst (-1), 1) := by decide +kernel
theorem dX2_placeOf_29 : decode cX2_placeOf 29 = .ok (.ireturn, 1) := by decide +kernel
theorem dX2_append_0 : decode cX2_append 0 = .ok (.aload_n 0, 1) := by decide +kernel
theorem dX2_append_1 : decode cX2_append 1 = .ok (.getfield 15, 3) := by decide +kernel
theorem dX2_append_4 : decode cX2_append 4 = .ok (.ifCond .lt 35, 3) := by decide +kernel
theorem dX2_append_7 : decode cX2_append 7 = .ok (.aload_n 0, 1) := by decide +kernel
theorem dX2_append_8 : decode cX2_append 8 = .ok (.getfield 15, 3) := by decide +kernel
theorem dX2_append_11 : decode cX2_append 11 = .ok (.aload_n 0, 1) := by decide +kernel
theorem dX2_append_12 : decode cX2_append 12 = .ok (.getfield 9, 3) := by decide +kernel
theorem dX2_append_15 : decode cX2_append 15 = .ok (.arraylength, 1) := by decide +kernel
theorem dX2_append_16 : decode cX2_append 16 = .ok (.if_icmp .ge 23, 3) := by decide +kernel
theorem dX2_append_19 : decode cX2_append 19 = .ok (.aload_n 0, 1) := by decide +kernel
theorem dX2_append_20 : decode cX2_append 20 = .ok (.getfield 9, 3) := by decide +kernel
theorem dX2_append_23 : decode cX2_append 23 = .ok (.aload_n 0, 1) := by decide +kernel
theorem dX2_append_24 : decode cX2_append 24 = .ok (.getfield 15, 3) := by decide +kernel
theorem dX2_append_27 : decode cX2_append 27 = .ok (.iload_n 1, 1) := by decide +kernel
theorem dX2_append_28 : decode cX2_append 28 = .ok (.iastore, 1) := by decide +kernel
theorem dX2_append_29 : decode cX2_append 29 = .ok (.aload_n 0, 1) := by decide +kernel
theorem dX2_append_30 : decode cX2_append 30 = .ok (.dup, 1) := by decide +kernel
theorem dX2_append_31 : decode cX2_append 31 = .ok (.getfield 15, 3) := by decide +kernel
theorem dX2_append_34 : decode cX2_append 34 = .ok (.iconst 1, 1) := by decide +kernel
theorem dX2_append_35 : decode cX2_append 35 = .ok (.iadd, 1) := by decide +kernel
theorem dX2_append_36 : decode cX2_append 36 = .ok (.putfield 15, 3) := by decide +kernel
theorem dX2_append_39 : decode cX2_append 39 = .ok (.return_, 1) := by decide +kernel
set_option maxRecDepth 20000 in
theorem ggX2_removeAt_X2_has : GoodIn wsX2_removeAt wsX2_has := goodIn_r _ [7, 2, 1, 8, 9] (by decide +kernel) (by decide +kernel)
set_option maxRecDepth 20000 in
theorem gX2_removeAt_X2_has : GoodIn wsX2_removeAt (wsV RX2 19 RX2 yX2_has wsX2_has) := goodIn_app (goodIn_of _ (by decide +kernel)) ggX2_removeAt_X2_has
theorem dX2_removeAt_0 : decode cX2_removeAt 0 = .ok (.aload_n 0, 1) := by decide +kernel
theorem dX2_removeAt_1 : decode cX2_removeAt 1 = .ok (.iload_n 1, 1) := by decide +kernel
theorem dX2_removeAt_2 : decode cX2_removeAt 2 = .ok (.invokevirtual 19, 3) := by decide +kernel
theorem dX2_removeAt_5 : decode cX2_removeAt 5 = .ok (.ifCond .ne 4, 3) := by decide +kernel
theorem dX2_removeAt_8 : decode cX2_removeAt 8 = .ok (.return_, 1) := by decide +kernel
theorem dX2_removeAt_9 : decode cX2_removeAt 9 = .ok (.iload_n 1, 1) := by decide +kernel
theorem dX2_removeAt_10 : decode cX2_removeAt 10 = .ok (.istore_n 2, 1) := by decide +kernel
theorem dX2_removeAt_11 : decode cX2_removeAt 11 = .ok (.iload_n 2, 1) := by decide +kernel
theorem dX2_removeAt_12 : decode cX2_removeAt 12 = .ok (.aload_n 0, 1) := by decide +kernel
theorem dX2_removeAt_13 : decode cX2_removeAt 13 = .ok (.getfield 9, 3) := by decide +kernel
theorem dX2_removeAt_16 : decode cX2_removeAt 16 = .ok (.arraylength, 1) := by decide +kernel
theorem dX2_removeAt_17 : decode cX2_removeAt 17 = .ok (.iconst 1, 1) := by decide +kernel
theorem dX2_removeAt_18 : decode cX2_removeAt 18 = .ok (.isub, 1) := by decide +kernel
theorem dX2_removeAt_19 : decode cX2_removeAt 19 = .ok (.if_icmp .ge 23, 3) := by decide +kernel
theorem dX2_removeAt_22 : decode cX2_removeAt 22 = .ok (.aload_n 0, 1) := by decide +kernel
theorem dX2_removeAt_23 : decode cX2_removeAt 23 = .ok (.getfield 9, 3) := by decide +kernel
theorem dX2_removeAt_26 : decode cX2_removeAt 26 = .ok (.iload_n 2, 1) := by decide +kernel
theorem dX2_removeAt_27 : decode cX2_removeAt 27 = .ok (.aload_n 0, 1) := by decide +kernel
theorem dX2_removeAt_28 : decode cX2_removeAt 28 = .ok (.getfield 9, 3) := by decide +kernel
theorem dX2_removeAt_31 : decode cX2_removeAt 31 = .ok (.iload_n 2, 1) := by decide +kernel
theorem dX2_removeAt_32 : decode cX2_removeAt 32 = .ok (.iconst 1, 1) := by decide +kernel
theorem dX2_removeAt_33 : decode cX2_removeAt 33 = .ok (.iadd, 1) := by decide +kernel
theorem dX2_removeAt_34 : decode cX2_removeAt 34 = .ok (.iaload, 1) := by decide +kernel
theorem dX2_removeAt_35 : decode cX2_removeAt 35 = .ok (.iastore, 1) := by decide +kernel
theorem dX2_removeAt_36 : decode cX2_removeAt 36 = .ok (.iinc 2 1, 3) := by decide +kernel
theorem dX2_removeAt_39 : decode cX2_removeAt 39 = .ok (.goto (-28), 3) := by decide +kernel
theorem dX2_removeAt_42 : decode cX2_removeAt 42 = .ok (.aload_n 0, 1) := by decide +kernel
theorem dX2_removeAt_43 : decode cX2_removeAt 43 = .ok (.dup, 1) := by decide +kernel
theorem dX2_removeAt_44 : decode cX2_removeAt 44 = .ok (.getfield 15, 3) := by decide +kernel
theorem dX2_removeAt_47 : decode cX2_removeAt 47 = .ok (.iconst 1, 1) := by decide +kernel
theorem dX2_removeAt_48 : decode cX2_removeAt 48 = .ok (.isub, 1) := by decide +kernel
theorem dX2_removeAt_49 : decode cX2_removeAt 49 = .ok (.putfield 15, 3) := by decide +kernel
theorem dX2_removeAt_52 : decode cX2_removeAt 52 = .ok (.return_, 1) := by decide +kernel
set_option maxRecDepth 20000 in
theorem ggX2_exchange_X2_has : GoodIn wsX2_exchange wsX2_has := goodIn_r _ [6, 7, 1, 8, 9] (by decide +kernel) (by decide +kernel)
set_option maxRecDepth 20000 in
theorem gX2_exchange_X2_has : GoodIn wsX2_exchange (wsV RX2 19 RX2 yX2_has wsX2_has) := goodIn_app (goodIn_of _ (by decide +kernel)) ggX2_exchange_X2_has
theorem dX2_exchange_0 : decode cX2_exchange 0 = .ok (.aload_n 0, 1) := by decide +kernel
theorem dX2_exchange_1 : decode cX2_exchange 1 = .ok (.iload_n 1, 1) := by decide +kernel
theorem dX2_exchange_2 : decode cX2_exchange 2 = .ok (.invokevirtual 19, 3) := by decide +kernel
theorem dX2_exchange_5 : decode cX2_exchange 5 = .ok (.ifCond .eq 37, 3) := by decide +kernel
theorem dX2_exchange_8 : decode cX2_exchange 8 = .ok (.aload_n 0, 1) := by decide +kernel
theorem dX2_exchange_9 : decode cX2_exchange 9 = .ok (.iload_n 2, 1) := by decide +kernel
theorem dX2_exchange_10 : decode cX2_exchange 10 = .ok (.invokevirtual 19, 3) := by decide +kernel
theorem dX2_exchange_13 : decode cX2_exchange 13 = .ok (.ifCond .eq 29, 3) := by decide +kernel
theorem dX2_exchange_16 : decode cX2_exchange 16 = .ok (.aload_n 0, 1) := by decide +kernel
theorem dX2_exchange_17 : decode cX2_exchange 17 = .ok (.getfield 9, 3) := by decide +kernel
theorem dX2_exchange_20 : decode cX2_exchange 20 = .ok (.iload_n 1, 1) := by decide +kernel
theorem dX2_exchange_21 : decode cX2_exchange 21 = .ok (.iaload, 1) := by decide +kernel
theorem dX2_exchange_22 : decode cX2_exchange 22 = .ok (.istore_n 3, 1) := by decide +kernel
theorem dX2_exchange_23 : decode cX2_exchange 23 = .ok (.aload_n 0, 1) := by decide +kernel
theorem dX2_exchange_24 : decode cX2_exchange 24 = .ok (.getfield 9, 3) := by decide +kernel
theorem dX2_exchange_27 : decode cX2_exchange 27 = .ok (.iload_n 1, 1) := by decide +kernel
theorem dX2_exchange_28 : decode cX2_exchange 28 = .ok (.aload_n 0, 1) := by decide +kernel
theorem dX2_exchange_29 : decode cX2_exchange 29 = .ok (.getfield 9, 3) := by decide +kernel
theorem dX2_exchange_32 : decode cX2_exchange 32 = .ok (.iload_n 2, 1) := by decide +kernel
theorem dX2_exchange_33 : decode cX2_exchange 33 = .ok (.iaload, 1) := by decide +kernel
theorem dX2_exchange_34 : decode cX2_exchange 34 = .ok (.iastore, 1) := by decide +kernel
theorem dX2_exchange_35 : decode cX2_exchange 35 = .ok (.aload_n 0, 1) := by decide +kernel
theorem dX2_exchange_36 : decode cX2_exchange 36 = .ok (.getfield 9, 3) := by decide +kernel
theorem dX2_exchange_39 : decode cX2_exchange 39 = .ok (.iload_n 2, 1) := by decide +kernel
theorem dX2_exchange_40 : decode cX2_exchange 40 = .ok (.iload_n 3, 1) := by decide +kernel
theorem dX2_exchange_41 : decode cX2_exchange 41 = .ok (.iastore, 1) := by decide +kernel
theorem dX2_exchange_42 : decode cX2_exchange 42 = .ok (.return_, 1) := by decide +kernel
set_option maxRecDepth 20000 in
theorem ggX2_copyFrom_X2_at : GoodIn wsX2_copyFrom wsX2_at := goodIn_ca (goodIn_r _ [7, 2, 8, 9, 10, 6, 11, 1, 12, 13] (by decide +kernel) (by decide +kernel)) (goodIn_sub (fun _ h => List.mem_cons_of_mem _ (List.mem_append_right _ h)) (by decide +kernel))
set_option maxRecDepth 20000 in
theorem gX2_copyFrom_X2_at : GoodIn wsX2_copyFrom (wsV RX2 23 RX2 yX2_at wsX2_at) := goodIn_app (goodIn_of _ (by decide +kernel)) ggX2_copyFrom_X2_at
theorem dX2_copyFrom_0 : decode cX2_copyFrom 0 = .ok (.aload_n 0, 1) := by decide +kernel
theorem dX2_copyFrom_1 : decode cX2_copyFrom 1 = .ok (.aload_n 1, 1) := by decide +kernel
theorem dX2_copyFrom_2 : decode cX2_copyFrom 2 = .ok (.getfield 15, 3) := by decide +kernel
theorem dX2_copyFrom_5 : decode cX2_copyFrom 5 = .ok (.putfield 15, 3) := by decide +kernel
theorem dX2_copyFrom_8 : decode cX2_copyFrom 8 = .ok (.iconst 0, 1) := by decide +kernel
theorem dX2_copyFrom_9 : decode cX2_copyFrom 9 = .ok (.istore_n 2, 1) := by decide +kernel
theorem dX2_copyFrom_10 : decode cX2_copyFrom 10 = .ok (.iload_n 2, 1) := by decide +kernel
theorem dX2_copyFrom_11 : decode cX2_copyFrom 11 = .ok (.aload_n 0, 1) := by decide +kernel
theorem dX2_copyFrom_12 : decode cX2_copyFrom 12 = .ok (.getfield 9, 3) := by decide +kernel
theorem dX2_copyFrom_15 : decode cX2_copyFrom 15 = .ok (.arraylength, 1) := by decide +kernel
theorem dX2_copyFrom_16 : decode cX2_copyFrom 16 = .ok (.if_icmp .ge 20, 3) := by decide +kernel
theorem dX2_copyFrom_19 : decode cX2_copyFrom 19 = .ok (.aload_n 0, 1) := by decide +kernel
theorem dX2_copyFrom_20 : decode cX2_copyFrom 20 = .ok (.getfield 9, 3) := by decide +kernel
theorem dX2_copyFrom_23 : decode cX2_copyFrom 23 = .ok (.iload_n 2, 1) := by decide +kernel
theorem dX2_copyFrom_24 : decode cX2_copyFrom 24 = .ok (.aload_n 1, 1) := by decide +kernel
theorem dX2_copyFrom_25 : decode cX2_copyFrom 25 = .ok (.iload_n 2, 1) := by decide +kernel
theorem dX2_copyFrom_26 : decode cX2_copyFrom 26 = .ok (.invokevirtual 23, 3) := by decide +kernel
theorem dX2_copyFrom_29 : decode cX2_copyFrom 29 = .ok (.iastore, 1) := by decide +kernel
theorem dX2_copyFrom_30 : decode cX2_copyFrom 30 = .ok (.iinc 2 1, 3) := by decide +kernel
theorem dX2_copyFrom_33 : decode cX2_copyFrom 33 = .ok (.goto (-23), 3) := by decide +kernel
theorem dX2_copyFrom_36 : decode cX2_copyFrom 36 = .ok (.return_, 1) := by decide +kernel
theorem dX3_init_0 : decode cX3_init 0 = .ok (.aload_n 0, 1) := by decide +kernel
theorem dX3_init_1 : decode cX3_init 1 = .ok (.invokespecial 3, 3) := by decide +kernel
theorem dX3_init_4 : decode cX3_init 4 = .ok (.aload_n 0, 1) := by decide +kernel
theorem dX3_init_5 : decode cX3_init 5 = .ok (.iconst (-1), 1) := by decide +kernel
theorem dX3_init_6 : decode cX3_init 6 = .ok (.putfield 9, 3) := by decide +kernel
theorem dX3_init_9 : decode cX3_init 9 = .ok (.aload_n 0, 1) := by decide +kernel
theorem dX3_init_10 : decode cX3_init 10 = .ok (.iconst (-1), 1) := by decide +kernel
theorem dX3_init_11 : decode cX3_init 11 = .ok (.putfield 15, 3) := by decide +kernel
theorem dX3_init_14 : decode cX3_init 14 = .ok (.return_, 1) := by decide +kernel
theorem dX3_setUp_0 : decode cX3_setUp 0 = .ok (.aload_n 0, 1) := by decide +kernel
theorem dX3_setUp_1 : decode cX3_setUp 1 = .ok (.iload_n 1, 1) := by decide +kernel
theorem dX3_setUp_2 : decode cX3_setUp 2 = .ok (.putfield 18, 3) := by decide +kernel
theorem dX3_setUp_5 : decode cX3_setUp 5 = .ok (.aload_n 0, 1) := by decide +kernel
theorem dX3_setUp_6 : decode cX3_setUp 6 = .ok (.iload_n 2, 1) := by decide +kernel
theorem dX3_setUp_7 : decode cX3_setUp 7 = .ok (.putfield 9, 3) := by decide +kernel
theorem dX3_setUp_10 : decode cX3_setUp 10 = .ok (.aload_n 0, 1) := by decide +kernel
theorem dX3_setUp_11 : decode cX3_setUp 11 = .ok (.iload_n 3, 1) := by decide +kernel
theorem dX3_setUp_12 : decode cX3_setUp 12 = .ok (.putfield 21, 3) := by decide +kernel
theorem dX3_setUp_15 : decode cX3_setUp 15 = .ok (.aload_n 0, 1) := by decide +kernel
theorem dX3_setUp_16 : decode cX3_setUp 16 = .ok (.iload 4, 2) := by decide +kernel
theorem dX3_setUp_18 : decode cX3_setUp 18 = .ok (.putfield 24, 3) := by decide +kernel
theorem dX3_setUp_21 : decode cX3_setUp 21 = .ok (.return_, 1) := by decide +kernel
set_option maxRecDepth 20000 in
theorem ggX3_copyFrom_X3_setUp : GoodIn wsX3_copyFrom wsX3_setUp := goodIn_r _ [13, 1, 2, 3, 4, 14, 15, 16, 17, 18, 19, 20, 21] (by decide +kernel) (by decide +kernel)
set_option maxRecDepth 20000 in
theorem gX3_copyFrom_X3_setUp : GoodIn wsX3_copyFrom (wsV RX3 27 RX3 yX3_setUp wsX3_setUp) := goodIn_app (goodIn_of _ (by decide +kernel)) ggX3_copyFrom_X3_setUp
theorem dX3_copyFrom_0 : decode cX3_copyFrom 0 = .ok (.aload_n 0, 1) := by decide +kernel
theorem dX3_copyFrom_1 : decode cX3_copyFrom 1 = .ok (.aload_n 1, 1) := by decide +kernel
theorem dX3_copyFrom_2 : decode cX3_copyFrom 2 = .ok (.getfield 18, 3) := by decide +kernel
theorem dX3_copyFrom_5 : decode cX3_copyFrom 5 = .ok (.aload_n 1, 1) := by decide +kernel
theorem dX3_copyFrom_6 : decode cX3_copyFrom 6 = .ok (.getfield 9, 3) := by decide +kernel
theorem dX3_copyFrom_9 : decode cX3_copyFrom 9 = .ok (.aload_n 1, 1) := by decide +kernel
theorem dX3_copyFrom_10 : decode cX3_copyFrom 10 = .ok (.getfield 21, 3) := by decide +kernel
theorem dX3_copyFrom_13 : decode cX3_copyFrom 13 = .ok (.aload_n 1, 1) := by decide +kernel
theorem dX3_copyFrom_14 : decode cX3_copyFrom 14 = .ok (.getfield 24, 3) := by decide +kernel
theorem dX3_copyFrom_17 : decode cX3_copyFrom 17 = .ok (.invokevirtual 27, 3) := by decide +kernel
theorem dX3_copyFrom_20 : decode cX3_copyFrom 20 = .ok (.aload_n 0, 1) := by decide +kernel
theorem dX3_copyFrom_21 : decode cX3_copyFrom 21 = .ok (.aload_n 1, 1) := by decide +kernel
theorem dX3_copyFrom_22 : decode cX3_copyFrom 22 = .ok (.getfield 31, 3) := by decide +kernel
theorem dX3_copyFrom_25 : decode cX3_copyFrom 25 = .ok (.putfield 31, 3) := by decide +kernel
theorem dX3_copyFrom_28 : decode cX3_copyFrom 28 = .ok (.aload_n 0, 1) := by decide +kernel
theorem dX3_copyFrom_29 : decode cX3_copyFrom 29 = .ok (.aload_n 1, 1) := by decide +kernel
theorem dX3_copyFrom_30 : decode cX3_copyFrom 30 = .ok (.getfield 15, 3) := by decide +kernel
theorem dX3_copyFrom_33 : decode cX3_copyFrom 33 = .ok (.putfield 15, 3) := by decide +kernel
theorem dX3_copyFrom_36 : decode cX3_copyFrom 36 = .ok (.aload_n 0, 1) := by decide +kernel
theorem dX3_copyFrom_37 : decode cX3_copyFrom 37 = .ok (.aload_n 1, 1) := by decide +kernel
theorem dX3_copyFrom_38 : decode cX3_copyFrom 38 = .ok (.getfield 34, 3) := by decide +kernel
theorem dX3_copyFrom_41 : decode cX3_copyFrom 41 = .ok (.putfield 34, 3) := by decide +kernel
theorem dX3_copyFrom_44 : decode cX3_copyFrom 44 = .ok (.aload_n 0, 1) := by decide +kernel
theorem dX3_copyFrom_45 : decode cX3_copyFrom 45 = .ok (.aload_n 1, 1) := by decide +kernel
theorem dX3_copyFrom_46 : decode cX3_copyFrom 46 = .ok (.getfield 37, 3) := by decide +kernel
theorem dX3_copyFrom_49 : decode cX3_copyFrom 49 = .ok (.putfield 37, 3) := by decide +kernel
theorem dX3_copyFrom_52 : decode cX3_copyFrom 52 = .ok (.return_, 1) := by decide +kernel
set_option maxRecDepth 20000 in
theorem ggX3_serve_X0_isWanting : GoodIn wsX3_serve wsX0_isWanting := goodIn_r _ [10, 11, 20, 21, 22, 23, 24, 25, 26, 27, 28, 29, 30] (by decide +kernel) (by decide +kernel)
set_option maxRecDepth 20000 in
theorem gX3_serve_X0_isWanting : GoodIn wsX3_serve (wsV RX3 41 RX0 yX0_isWanting wsX0_isWanting) := goodIn_app (goodIn_of _ (by decide +kernel)) ggX3_serve_X0_isWanting
theorem dX3_serve_0 : decode cX3_serve 0 = .ok (.aload_n 0, 1) := by decide +kernel
theorem dX3_serve_1 : decode cX3_serve 1 = .ok (.getfield 9, 3) := by decide +kernel
theorem dX3_serve_4 : decode cX3_serve 4 = .ok (.iconst (-1), 1) := by decide +kernel
theorem dX3_serve_5 : decode cX3_serve 5 = .ok (.if_icmp .ne 6, 3) := by decide +kernel
theorem dX3_serve_8 : decode cX3_serve 8 = .ok (.bipush 43, 2) := by decide +kernel
theorem dX3_serve_10 : decode cX3_serve 10 = .ok (.ireturn, 1) := by decide +kernel
theorem dX3_serve_11 : decode cX3_serve 11 = .ok (.aload_n 1, 1) := by decide +kernel
theorem dX3_serve_12 : decode cX3_serve 12 = .ok (.aload_n 0, 1) := by decide +kernel
theorem dX3_serve_13 : decode cX3_serve 13 = .ok (.getfield 9, 3) := by decide +kernel
theorem dX3_serve_16 : decode cX3_serve 16 = .ok (.invokevirtual 41, 3) := by decide +kernel
theorem dX3_serve_19 : decode cX3_serve 19 = .ok (.ifCond .ne 15, 3) := by decide +kernel
theorem dX3_serve_22 : decode cX3_serve 22 = .ok (.iload_n 2, 1) := by decide +kernel
theorem dX3_serve_23 : decode cX3_serve 23 = .ok (.ifCond .eq 8, 3) := by decide +kernel
theorem dX3_serve_26 : decode cX3_serve 26 = .ok (.bipush 43, 2) := by decide +kernel
theorem dX3_serve_28 : decode cX3_serve 28 = .ok (.goto 5, 3) := by decide +kernel
theorem dX3_serve_31 : decode cX3_serve 31 = .ok (.bipush 46, 2) := by decide +kernel
theorem dX3_serve_33 : decode cX3_serve 33 = .ok (.ireturn, 1) := by decide +kernel
theorem dX3_serve_34 : decode cX3_serve 34 = .ok (.aload_n 0, 1) := by decide +kernel
theorem dX3_serve_35 : decode cX3_serve 35 = .ok (.getfield 31, 3) := by decide +kernel
theorem dX3_serve_38 : decode cX3_serve 38 = .ok (.aload_n 0, 1) := by decide +kernel
theorem dX3_serve_39 : decode cX3_serve 39 = .ok (.getfield 21, 3) := by decide +kernel
theorem dX3_serve_42 : decode cX3_serve 42 = .ok (.if_icmp .ge 16, 3) := by decide +kernel
theorem dX3_serve_45 : decode cX3_serve 45 = .ok (.aload_n 0, 1) := by decide +kernel
theorem dX3_serve_46 : decode cX3_serve 46 = .ok (.dup, 1) := by decide +kernel
theorem dX3_serve_47 : decode cX3_serve 47 = .ok (.getfield 34, 3) := by decide +kernel
theorem dX3_serve_50 : decode cX3_serve 50 = .ok (.iconst 1, 1) := by decide +kernel
theorem dX3_serve_51 : decode cX3_serve 51 = .ok (.iadd, 1) := by decide +kernel
theorem dX3_serve_52 : decode cX3_serve 52 = .ok (.putfield 34, 3) := by decide +kernel
theorem dX3_serve_55 : decode cX3_serve 55 = .ok (.bipush 45, 2) := by decide +kernel
theorem dX3_serve_57 : decode cX3_serve 57 = .ok (.ireturn, 1) := by decide +kernel
theorem dX3_serve_58 : decode cX3_serve 58 = .ok (.aload_n 0, 1) := by decide +kernel
theorem dX3_serve_59 : decode cX3_serve 59 = .ok (.dup, 1) := by decide +kernel
theorem dX3_serve_60 : decode cX3_serve 60 = .ok (.getfield 31, 3) := by decide +kernel
theorem dX3_serve_63 : decode cX3_serve 63 = .ok (.aload_n 0, 1) := by decide +kernel
theorem dX3_serve_64 : decode cX3_serve 64 = .ok (.getfield 21, 3) := by decide +kernel
theorem dX3_serve_67 : decode cX3_serve 67 = .ok (.isub, 1) := by decide +kernel
theorem dX3_serve_68 : decode cX3_serve 68 = .ok (.putfield 31, 3) := by decide +kernel
theorem dX3_serve_71 : decode cX3_serve 71 = .ok (.aload_n 0, 1) := by decide +kernel
theorem dX3_serve_72 : decode cX3_serve 72 = .ok (.dup, 1) := by decide +kernel
theorem dX3_serve_73 : decode cX3_serve 73 = .ok (.getfield 37, 3) := by decide +kernel
theorem dX3_serve_76 : decode cX3_serve 76 = .ok (.aload_n 0, 1) := by decide +kernel
theorem dX3_serve_77 : decode cX3_serve 77 = .ok (.getfield 21, 3) := by decide +kernel
theorem dX3_serve_80 : decode cX3_serve 80 = .ok (.i2l, 1) := by decide +kernel
theorem dX3_serve_81 : decode cX3_serve 81 = .ok (.ladd, 1) := by decide +kernel
theorem dX3_serve_82 : decode cX3_serve 82 = .ok (.putfield 37, 3) := by decide +kernel
theorem dX3_serve_85 : decode cX3_serve 85 = .ok (.bipush 43, 2) := by decide +kernel
theorem dX3_serve_87 : decode cX3_serve 87 = .ok (.ireturn, 1) := by decide +kernel
theorem dX4_init_0 : decode cX4_init 0 = .ok (.aload_n 0, 1) := by decide +kernel
theorem dX4_init_1 : decode cX4_init 1 = .ok (.invokespecial 3, 3) := by decide +kernel
theorem dX4_init_4 : decode cX4_init 4 = .ok (.aload_n 0, 1) := by decide +kernel
theorem dX4_init_5 : decode cX4_init 5 = .ok (.bipush 32, 2) := by decide +kernel
theorem dX4_init_7 : decode cX4_init 7 = .ok (.newarray .char, 2) := by decide +kernel
theorem dX4_init_9 : decode cX4_init 9 = .ok (.putfield 9, 3) := by decide +kernel
theorem dX4_init_12 : decode cX4_init 12 = .ok (.aload_n 0, 1) := by decide +kernel
theorem dX4_init_13 : decode cX4_init 13 = .ok (.iconst 5, 1) := by decide +kernel
theorem dX4_init_14 : decode cX4_init 14 = .ok (.newarray .int, 2) := by decide +kernel
theorem dX4_init_16 : decode cX4_init 16 = .ok (.putfield 15, 3) := by decide +kernel
theorem dX4_init_19 : decode cX4_init 19 = .ok (.return_, 1) := by decide +kernel
theorem dX4_has_0 : decode cX4_has 0 = .ok (.iload_n 1, 1) := by decide +kernel
theorem dX4_has_1 : decode cX4_has 1 = .ok (.ifCond .lt 24, 3) := by decide +kernel
theorem dX4_has_4 : decode cX4_has 4 = .ok (.iload_n 1, 1) := by decide +kernel
theorem dX4_has_5 : decode cX4_has 5 = .ok (.aload_n 0, 1) := by decide +kernel
theorem dX4_has_6 : decode cX4_has 6 = .ok (.getfield 19, 3) := by decide +kernel
theorem dX4_has_9 : decode cX4_has 9 = .ok (.if_icmp .ge 16, 3) := by decide +kernel
theorem dX4_has_12 : decode cX4_has 12 = .ok (.iload_n 1, 1) := by decide +kernel
theorem dX4_has_13 : decode cX4_has 13 = .ok (.aload_n 0, 1) := by decide +kernel
theorem dX4_has_14 : decode cX4_has 14 = .ok (.getfield 9, 3) := by decide +kernel
theorem dX4_has_17 : decode cX4_has 17 = .ok (.arraylength, 1) := by decide +kernel
theorem dX4_has_18 : decode cX4_has 18 = .ok (.if_icmp .ge 7, 3) := by decide +kernel
theorem dX4_has_21 : decode cX4_has 21 = .ok (.iconst 1, 1) := by decide +kernel
theorem dX4_has_22 : decode cX4_has 22 = .ok (.goto 4, 3) := by decide +kernel
theorem dX4_has_25 : decode cX4_has 25 = .ok (.iconst 0, 1) := by decide +kernel
theorem dX4_has_26 : decode cX4_has 26 = .ok (.ireturn, 1) := by decide +kernel
set_option maxRecDepth 20000 in
theorem ggX4_signAt_X4_has : GoodIn wsX4_signAt wsX4_has := goodIn_r _ [6, 7, 1, 8, 9, 10] (by decide +kernel) (by decide +kernel)
set_option maxRecDepth 20000 in
theorem gX4_signAt_X4_has : GoodIn wsX4_signAt (wsV RX4 23 RX4 yX4_has wsX4_has) := goodIn_app (goodIn_of _ (by decide +kernel)) ggX4_signAt_X4_has
theorem dX4_signAt_0 : decode cX4_signAt 0 = .ok (.aload_n 0, 1) := by decide +kernel
theorem dX4_signAt_1 : decode cX4_signAt 1 = .ok (.iload_n 1, 1) := by decide +kernel
theorem dX4_signAt_2 : decode cX4_signAt 2 = .ok (.invokevirtual 23, 3) := by decide +kernel
theorem dX4_signAt_5 : decode cX4_signAt 5 = .ok (.ifCond .eq 12, 3) := by decide +kernel
theorem dX4_signAt_8 : decode cX4_signAt 8 = .ok (.aload_n 0, 1) := by decide +kernel
theorem dX4_signAt_9 : decode cX4_signAt 9 = .ok (.getfield 9, 3) := by decide +kernel
theorem dX4_signAt_12 : decode cX4_signAt 12 = .ok (.iload_n 1, 1) := by decide +kernel
theorem dX4_signAt_13 : decode cX4_signAt 13 = .ok (.caload, 1) := by decide +kernel
theorem dX4_signAt_14 : decode cX4_signAt 14 = .ok (.goto 5, 3) := by decide +kernel
theorem dX4_signAt_17 : decode cX4_signAt 17 = .ok (.bipush 120, 2) := by decide +kernel
theorem dX4_signAt_19 : decode cX4_signAt 19 = .ok (.ireturn, 1) := by decide +kernel
set_option maxRecDepth 20000 in
theorem ggX4_append_X4_grow : GoodIn wsX4_append wsX4_grow := goodIn_ca (goodIn_r _ [8, 2, 9, 10, 100, 101, 102] (by decide +kernel) (by decide +kernel)) (goodIn_sub (fun _ h => List.mem_cons_of_mem _ (List.mem_append_right _ h)) (by decide +kernel))
set_option maxRecDepth 20000 in
theorem gX4_append_X4_grow : GoodIn wsX4_append (wsV RX4 27 RX4 yX4_grow wsX4_grow) := goodIn_app (goodIn_of _ (by decide +kernel)) ggX4_append_X4_grow
set_option maxRecDepth 20000 in
theorem ggX4_append_J0_indexOf_0f7a4 : GoodIn wsX4_append wsJ0_indexOf_0f7a4 := goodIn_r _ [15, 16, 17, 18, 14, 19, 20, 21, 22, 23, 24, 25, 26, 27, 28, 29, 30, 31, 32, 33, 34, 35, 36, 37, 38, 39, 40, 41, 42, 43, 44, 45, 46, 47, 48, 49, 50, 51, 52, 53, 54, 55, 56, 57, 58, 59, 60, 61, 62, 63, 64, 65, 66, 67, 68, 69, 70, 71, 72, 73, 74, 75, 76, 77, 78, 79, 80, 81, 82, 83, 84, 85, 86, 87, 88, 89, 90, 91, 92, 93, 94, 95, 96, 97, 98, 99, 103, 104] (by decide +kernel) (by decide +kernel)
set_option maxRecDepth 20000 in
theorem gX4_append_J0_indexOf_0f7a4 : GoodIn wsX4_append (wsV RX4 32 RJ0 yJ0_indexOf_0f7a4 wsJ0_indexOf_0f7a4) := goodIn_app (goodIn_of _ (by decide +kernel)) ggX4_append_J0_indexOf_0f7a4
theorem dX4_append_0 : decode cX4_append 0 = .ok (.aload_n 0, 1) := by decide +kernel
theorem dX4_append_1 : decode cX4_append 1 = .ok (.getfield 19, 3) := by decide +kernel
theorem dX4_append_4 : decode cX4_append 4 = .ok (.aload_n 0, 1) := by decide +kernel
theorem dX4_append_5 : decode cX4_append 5 = .ok (.getfield 9, 3) := by decide +kernel
theorem dX4_append_8 : decode cX4_append 8 = .ok (.arraylength, 1) := by decide +kernel
theorem dX4_append_9 : decode cX4_append 9 = .ok (.if_icmp .lt 7, 3) := by decide +kernel
theorem dX4_append_12 : decode cX4_append 12 = .ok (.aload_n 0, 1) := by decide +kernel
theorem dX4_append_13 : decode cX4_append 13 = .ok (.invokevirtual 27, 3) := by decide +kernel
theorem dX4_append_16 : decode cX4_append 16 = .ok (.aload_n 0, 1) := by decide +kernel
theorem dX4_append_17 : decode cX4_append 17 = .ok (.getfield 19, 3) := by decide +kernel
theorem dX4_append_20 : decode cX4_append 20 = .ok (.ifCond .lt 35, 3) := by decide +kernel
theorem dX4_append_23 : decode cX4_append 23 = .ok (.aload_n 0, 1) := by decide +kernel
theorem dX4_append_24 : decode cX4_append 24 = .ok (.getfield 19, 3) := by decide +kernel
theorem dX4_append_27 : decode cX4_append 27 = .ok (.aload_n 0, 1) := by decide +kernel
theorem dX4_append_28 : decode cX4_append 28 = .ok (.getfield 9, 3) := by decide +kernel
theorem dX4_append_31 : decode cX4_append 31 = .ok (.arraylength, 1) := by decide +kernel
theorem dX4_append_32 : decode cX4_append 32 = .ok (.if_icmp .ge 23, 3) := by decide +kernel
theorem dX4_append_35 : decode cX4_append 35 = .ok (.aload_n 0, 1) := by decide +kernel
theorem dX4_append_36 : decode cX4_append 36 = .ok (.getfield 9, 3) := by decide +kernel
theorem dX4_append_39 : decode cX4_append 39 = .ok (.aload_n 0, 1) := by decide +kernel
theorem dX4_append_40 : decode cX4_append 40 = .ok (.getfield 19, 3) := by decide +kernel
theorem dX4_append_43 : decode cX4_append 43 = .ok (.iload_n 1, 1) := by decide +kernel
theorem dX4_append_44 : decode cX4_append 44 = .ok (.castore, 1) := by decide +kernel
theorem dX4_append_45 : decode cX4_append 45 = .ok (.aload_n 0, 1) := by decide +kernel
theorem dX4_append_46 : decode cX4_append 46 = .ok (.dup, 1) := by decide +kernel
theorem dX4_append_47 : decode cX4_append 47 = .ok (.getfield 19, 3) := by decide +kernel
theorem dX4_append_50 : decode cX4_append 50 = .ok (.iconst 1, 1) := by decide +kernel
theorem dX4_append_51 : decode cX4_append 51 = .ok (.iadd, 1) := by decide +kernel
theorem dX4_append_52 : decode cX4_append 52 = .ok (.putfield 19, 3) := by decide +kernel
theorem dX4_append_55 : decode cX4_append 55 = .ok (.ldc 30, 2) := by decide +kernel
theorem dX4_append_57 : decode cX4_append 57 = .ok (.iload_n 1, 1) := by decide +kernel
theorem dX4_append_58 : decode cX4_append 58 = .ok (.invokevirtual 32, 3) := by decide +kernel
theorem dX4_append_61 : decode cX4_append 61 = .ok (.istore_n 2, 1) := by decide +kernel
theorem dX4_append_62 : decode cX4_append 62 = .ok (.iload_n 2, 1) := by decide +kernel
theorem dX4_append_63 : decode cX4_append 63 = .ok (.ifCond .lt 22, 3) := by decide +kernel
theorem dX4_append_66 : decode cX4_append 66 = .ok (.iload_n 2, 1) := by decide +kernel
theorem dX4_append_67 : decode cX4_append 67 = .ok (.aload_n 0, 1) := by decide +kernel
theorem dX4_append_68 : decode cX4_append 68 = .ok (.getfield 15, 3) := by decide +kernel
theorem dX4_append_71 : decode cX4_append 71 = .ok (.arraylength, 1) := by decide +kernel
theorem dX4_append_72 : decode cX4_append 72 = .ok (.if_icmp .ge 13, 3) := by decide +kernel
theorem dX4_append_75 : decode cX4_append 75 = .ok (.aload_n 0, 1) := by decide +kernel
theorem dX4_append_76 : decode cX4_append 76 = .ok (.getfield 15, 3) := by decide +kernel
theorem dX4_append_79 : decode cX4_append 79 = .ok (.iload_n 2, 1) := by decide +kernel
theorem dX4_append_80 : decode cX4_append 80 = .ok (.dup2, 1) := by decide +kernel
theorem dX4_append_81 : decode cX4_append 81 = .ok (.iaload, 1) := by decide +kernel
theorem dX4_append_82 : decode cX4_append 82 = .ok (.iconst 1, 1) := by decide +kernel
theorem dX4_append_83 : decode cX4_append 83 = .ok (.iadd, 1) := by decide +kernel
theorem dX4_append_84 : decode cX4_append 84 = .ok (.iastore, 1) := by decide +kernel
theorem dX4_append_85 : decode cX4_append 85 = .ok (.return_, 1) := by decide +kernel
set_option maxRecDepth 20000 in
theorem ggX4_totalOf_J0_indexOf_0f7a4 : GoodIn wsX4_totalOf wsJ0_indexOf_0f7a4 := goodIn_r _ [6, 7, 8, 9, 5, 10, 11, 12, 13, 14, 15, 16, 17, 18, 19, 20, 21, 22, 23, 24, 25, 26, 27, 28, 29, 30, 31, 32, 33, 34, 35, 36, 37, 38, 39, 40, 41, 42, 43, 44, 45, 46, 47, 48, 49, 50, 51, 52, 53, 54, 55, 56, 57, 58, 59, 60, 61, 62, 63, 64, 65, 66, 67, 68, 69, 70, 71, 72, 73, 74, 75, 76, 77, 78, 79, 80, 81, 82, 83, 84, 85, 86, 87, 88, 89, 90, 94, 95] (by decide +kernel) (by decide +kernel)
set_option maxRecDepth 20000 in
theorem gX4_totalOf_J0_indexOf_0f7a4 : GoodIn wsX4_totalOf (wsV RX4 32 RJ0 yJ0_indexOf_0f7a4 wsJ0_indexOf_0f7a4) := goodIn_app (goodIn_of _ (by decide +kernel)) ggX4_totalOf_J0_indexOf_0f7a4
theorem dX4_totalOf_0 : decode cX4_totalOf 0 = .ok (.ldc 30, 2) := by decide +kernel
theorem dX4_totalOf_2 : decode cX4_totalOf 2 = .ok (.iload_n 1, 1) := by decide +kernel
theorem dX4_totalOf_3 : decode cX4_totalOf 3 = .ok (.invokevirtual 32, 3) := by decide +kernel
theorem dX4_totalOf_6 : decode cX4_totalOf 6 = .ok (.istore_n 2, 1) := by decide +kernel
theorem dX4_totalOf_7 : decode cX4_totalOf 7 = .ok (.iload_n 2, 1) := by decide +kernel
theorem dX4_totalOf_8 : decode cX4_totalOf 8 = .ok (.ifCond .lt 21, 3) := by decide +kernel
theorem dX4_totalOf_11 : decode cX4_totalOf 11 = .ok (.iload_n 2, 1) := by decide +kernel
theorem dX4_totalOf_12 : decode cX4_totalOf 12 = .ok (.aload_n 0, 1) := by decide +kernel
theorem dX4_totalOf_13 : decode cX4_totalOf 13 = .ok (.getfield 15, 3) := by decide +kernel
theorem dX4_totalOf_16 : decode cX4_totalOf 16 = .ok (.arraylength, 1) := by decide +kernel
theorem dX4_totalOf_17 : decode cX4_totalOf 17 = .ok (.if_icmp .ge 12, 3) := by decide +kernel
theorem dX4_totalOf_20 : decode cX4_totalOf 20 = .ok (.aload_n 0, 1) := by decide +kernel
theorem dX4_totalOf_21 : decode cX4_totalOf 21 = .ok (.getfield 15, 3) := by decide +kernel
theorem dX4_totalOf_24 : decode cX4_totalOf 24 = .ok (.iload_n 2, 1) := by decide +kernel
theorem dX4_totalOf_25 : decode cX4_totalOf 25 = .ok (.iaload, 1) := by decide +kernel
theorem dX4_totalOf_26 : decode cX4_totalOf 26 = .ok (.goto 4, 3) := by decide +kernel
theorem dX4_totalOf_29 : decode cX4_totalOf 29 = .ok (.iconst 0, 1) := by decide +kernel
theorem dX4_totalOf_30 : decode cX4_totalOf 30 = .ok (.ireturn, 1) := by decide +kernel
theorem dX4_grow_0 : decode cX4_grow 0 = .ok (.aload_n 0, 1) := by decide +kernel
theorem dX4_grow_1 : decode cX4_grow 1 = .ok (.getfield 9, 3) := by decide +kernel
theorem dX4_grow_4 : decode cX4_grow 4 = .ok (.arraylength, 1) := by decide +kernel
theorem dX4_grow_5 : decode cX4_grow 5 = .ok (.iconst 2, 1) := by decide +kernel
theorem dX4_grow_6 : decode cX4_grow 6 = .ok (.imul, 1) := by decide +kernel
theorem dX4_grow_7 : decode cX4_grow 7 = .ok (.istore_n 1, 1) := by decide +kernel
theorem dX4_grow_8 : decode cX4_grow 8 = .ok (.iload_n 1, 1) := by decide +kernel
theorem dX4_grow_9 : decode cX4_grow 9 = .ok (.aload_n 0, 1) := by decide +kernel
theorem dX4_grow_10 : decode cX4_grow 10 = .ok (.getfield 9, 3) := by decide +kernel
theorem dX4_grow_13 : decode cX4_grow 13 = .ok (.arraylength, 1) := by decide +kernel
theorem dX4_grow_14 : decode cX4_grow 14 = .ok (.if_icmp .le 9, 3) := by decide +kernel
theorem dX4_grow_17 : decode cX4_grow 17 = .ok (.iload_n 1, 1) := by decide +kernel
theorem dX4_grow_18 : decode cX4_grow 18 = .ok (.ldc 38, 2) := by decide +kernel
theorem dX4_grow_20 : decode cX4_grow 20 = .ok (.if_icmp .le 4, 3) := by decide +kernel
theorem dX4_grow_23 : decode cX4_grow 23 = .ok (.return_, 1) := by decide +kernel
theorem dX4_grow_24 : decode cX4_grow 24 = .ok (.iload_n 1, 1) := by decide +kernel
theorem dX4_grow_25 : decode cX4_grow 25 = .ok (.newarray .char, 2) := by decide +kernel
theorem dX4_grow_27 : decode cX4_grow 27 = .ok (.astore_n 2, 1) := by decide +kernel
theorem dX4_grow_28 : decode cX4_grow 28 = .ok (.iconst 0, 1) := by decide +kernel
theorem dX4_grow_29 : decode cX4_grow 29 = .ok (.istore_n 3, 1) := by decide +kernel
theorem dX4_grow_30 : decode cX4_grow 30 = .ok (.iload_n 3, 1) := by decide +kernel
theorem dX4_grow_31 : decode cX4_grow 31 = .ok (.aload_n 0, 1) := by decide +kernel
theorem dX4_grow_32 : decode cX4_grow 32 = .ok (.getfield 9, 3) := by decide +kernel
theorem dX4_grow_35 : decode cX4_grow 35 = .ok (.arraylength, 1) := by decide +kernel
theorem dX4_grow_36 : decode cX4_grow 36 = .ok (.if_icmp .ge 24, 3) := by decide +kernel
theorem dX4_grow_39 : decode cX4_grow 39 = .ok (.iload_n 3, 1) := by decide +kernel
theorem dX4_grow_40 : decode cX4_grow 40 = .ok (.aload_n 2, 1) := by decide +kernel
theorem dX4_grow_41 : decode cX4_grow 41 = .ok (.arraylength, 1) := by decide +kernel
theorem dX4_grow_42 : decode cX4_grow 42 = .ok (.if_icmp .ge 18, 3) := by decide +kernel
theorem dX4_grow_45 : decode cX4_grow 45 = .ok (.aload_n 2, 1) := by decide +kernel
theorem dX4_grow_46 : decode cX4_grow 46 = .ok (.iload_n 3, 1) := by decide +kernel
theorem dX4_grow_47 : decode cX4_grow 47 = .ok (.aload_n 0, 1) := by decide +kernel
theorem dX4_grow_48 : decode cX4_grow 48 = .ok (.getfield 9, 3) := by decide +kernel
theorem dX4_grow_51 : decode cX4_grow 51 = .ok (.iload_n 3, 1) := by decide +kernel
theorem dX4_grow_52 : decode cX4_grow 52 = .ok (.caload, 1) := by decide +kernel
theorem dX4_grow_53 : decode cX4_grow 53 = .ok (.castore, 1) := by decide +kernel
theorem dX4_grow_54 : decode cX4_grow 54 = .ok (.iinc 3 1, 3) := by decide +kernel
theorem dX4_grow_57 : decode cX4_grow 57 = .ok (.goto (-27), 3) := by decide +kernel
theorem dX4_grow_60 : decode cX4_grow 60 = .ok (.aload_n 0, 1) := by decide +kernel
theorem dX4_grow_61 : decode cX4_grow 61 = .ok (.aload_n 2, 1) := by decide +kernel
theorem dX4_grow_62 : decode cX4_grow 62 = .ok (.putfield 9, 3) := by decide +kernel
theorem dX4_grow_65 : decode cX4_grow 65 = .ok (.return_, 1) := by decide +kernel
set_option maxRecDepth 20000 in
theorem ggX5_init_X1_init : GoodIn wsX5_init wsX1_init := goodIn_r _ [11, 12, 2, 3, 13, 14, 15, 16, 17, 18, 19, 20, 21, 22, 23, 24, 25, 26, 27, 28, 29, 30, 31, 32, 33, 34, 35, 36, 37, 38, 39, 40, 41, 42, 43, 44, 45, 46, 47, 48, 49, 50, 51, 52, 53, 54, 55, 56, 57, 58, 59, 60, 61, 62, 63, 64, 65, 68, 69, 70, 71, 72, 73, 74, 75, 76, 77, 78, 79, 80, 81, 82, 83, 84, 85, 86, 87, 88, 89, 90, 91] (by decide +kernel) (by decide +kernel)
set_option maxRecDepth 20000 in
theorem gX5_init_X1_init : GoodIn wsX5_init (wsX1_init) := ggX5_init_X1_init
theorem dX5_init_0 : decode cX5_init 0 = .ok (.aload_n 0, 1) := by decide +kernel
theorem dX5_init_1 : decode cX5_init 1 = .ok (.invokespecial 1, 3) := by decide +kernel
theorem dX5_init_4 : decode cX5_init 4 = .ok (.aload_n 0, 1) := by decide +kernel
theorem dX5_init_5 : decode cX5_init 5 = .ok (.new 7, 3) := by decide +kernel
theorem dX5_init_8 : decode cX5_init 8 = .ok (.dup, 1) := by decide +kernel
theorem dX5_init_9 : decode cX5_init 9 = .ok (.iconst 1, 1) := by decide +kernel
theorem dX5_init_10 : decode cX5_init 10 = .ok (.invokespecial 9, 3) := by decide +kernel
theorem dX5_init_13 : decode cX5_init 13 = .ok (.putfield 12, 3) := by decide +kernel
theorem dX5_init_16 : decode cX5_init 16 = .ok (.aload_n 0, 1) := by decide +kernel
theorem dX5_init_17 : decode cX5_init 17 = .ok (.new 7, 3) := by decide +kernel
theorem dX5_init_20 : decode cX5_init 20 = .ok (.dup, 1) := by decide +kernel
theorem dX5_init_21 : decode cX5_init 21 = .ok (.iconst 0, 1) := by decide +kernel
theorem dX5_init_22 : decode cX5_init 22 = .ok (.invokespecial 9, 3) := by decide +kernel
theorem dX5_init_25 : decode cX5_init 25 = .ok (.putfield 18, 3) := by decide +kernel
theorem dX5_init_28 : decode cX5_init 28 = .ok (.return_, 1) := by decide +kernel
set_option maxRecDepth 20000 in
theorem ggX5_addStation_X5_isWithin : GoodIn wsX5_addStation wsX5_isWithin := goodIn_r _ [9] (by decide +kernel) (by decide +kernel)
set_option maxRecDepth 20000 in
theorem gX5_addStation_X5_isWithin : GoodIn wsX5_addStation (va_wsS RX5 21 yX5_isWithin wsX5_isWithin) := goodIn_app (goodIn_of _ (by decide +kernel)) ggX5_addStation_X5_isWithin
set_option maxRecDepth 20000 in
theorem ggX5_addStation_X1_appendStation : GoodIn wsX5_addStation wsX1_appendStation := goodIn_r _ [14, 15, 16, 17, 18, 13, 19, 20, 21, 22, 23, 24, 25, 26, 27, 28, 29, 32, 33, 34, 35, 36, 37, 38, 39, 40, 41, 42, 43, 44, 45, 46, 47, 48, 49] (by decide +kernel) (by decide +kernel)
set_option maxRecDepth 20000 in
theorem gX5_addStation_X1_appendStation : GoodIn wsX5_addStation (wsV RX5 46 RX1 yX1_appendStation wsX1_appendStation) := goodIn_app (goodIn_of _ (by decide +kernel)) ggX5_addStation_X1_appendStation
theorem dX5_addStation_0 : decode cX5_addStation 0 = .ok (.iload_n 1, 1) := by decide +kernel
theorem dX5_addStation_1 : decode cX5_addStation 1 = .ok (.iconst 1, 1) := by decide +kernel
theorem dX5_addStation_2 : decode cX5_addStation 2 = .ok (.bipush 9, 2) := by decide +kernel
theorem dX5_addStation_4 : decode cX5_addStation 4 = .ok (.invokestatic 21, 3) := by decide +kernel
theorem dX5_addStation_7 : decode cX5_addStation 7 = .ok (.ifCond .eq 12, 3) := by decide +kernel
theorem dX5_addStation_10 : decode cX5_addStation 10 = .ok (.iload_n 2, 1) := by decide +kernel
theorem dX5_addStation_11 : decode cX5_addStation 11 = .ok (.iconst (-1), 1) := by decide +kernel
theorem dX5_addStation_12 : decode cX5_addStation 12 = .ok (.iconst 5, 1) := by decide +kernel
theorem dX5_addStation_13 : decode cX5_addStation 13 = .ok (.invokestatic 21, 3) := by decide +kernel
theorem dX5_addStation_16 : decode cX5_addStation 16 = .ok (.ifCond .ne 13, 3) := by decide +kernel
theorem dX5_addStation_19 : decode cX5_addStation 19 = .ok (.new 25, 3) := by decide +kernel
theorem dX5_addStation_22 : decode cX5_addStation 22 = .ok (.dup, 1) := by decide +kernel
theorem dX5_addStation_23 : decode cX5_addStation 23 = .ok (.ldc 27, 2) := by decide +kernel
theorem dX5_addStation_25 : decode cX5_addStation 25 = .ok (.invokespecial 29, 3) := by decide +kernel
theorem dX5_addStation_28 : decode cX5_addStation 28 = .ok (.athrow, 1) := by decide +kernel
theorem dX5_addStation_29 : decode cX5_addStation 29 = .ok (.iload_n 2, 1) := by decide +kernel
theorem dX5_addStation_30 : decode cX5_addStation 30 = .ok (.iconst (-1), 1) := by decide +kernel
theorem dX5_addStation_31 : decode cX5_addStation 31 = .ok (.if_icmp .eq 33, 3) := by decide +kernel
theorem dX5_addStation_34 : decode cX5_addStation 34 = .ok (.iload_n 3, 1) := by decide +kernel
theorem dX5_addStation_35 : decode cX5_addStation 35 = .ok (.iconst 1, 1) := by decide +kernel
theorem dX5_addStation_36 : decode cX5_addStation 36 = .ok (.iconst 4, 1) := by decide +kernel
theorem dX5_addStation_37 : decode cX5_addStation 37 = .ok (.invokestatic 21, 3) := by decide +kernel
theorem dX5_addStation_40 : decode cX5_addStation 40 = .ok (.ifCond .eq 14, 3) := by decide +kernel
theorem dX5_addStation_43 : decode cX5_addStation 43 = .ok (.iload 4, 2) := by decide +kernel
theorem dX5_addStation_45 : decode cX5_addStation 45 = .ok (.iconst 4, 1) := by decide +kernel
theorem dX5_addStation_46 : decode cX5_addStation 46 = .ok (.bipush 30, 2) := by decide +kernel
theorem dX5_addStation_48 : decode cX5_addStation 48 = .ok (.invokestatic 21, 3) := by decide +kernel
theorem dX5_addStation_51 : decode cX5_addStation 51 = .ok (.ifCond .ne 13, 3) := by decide +kernel
theorem dX5_addStation_54 : decode cX5_addStation 54 = .ok (.new 25, 3) := by decide +kernel
theorem dX5_addStation_57 : decode cX5_addStation 57 = .ok (.dup, 1) := by decide +kernel
theorem dX5_addStation_58 : decode cX5_addStation 58 = .ok (.ldc 32, 2) := by decide +kernel
theorem dX5_addStation_60 : decode cX5_addStation 60 = .ok (.invokespecial 29, 3) := by decide +kernel
theorem dX5_addStation_63 : decode cX5_addStation 63 = .ok (.athrow, 1) := by decide +kernel
theorem dX5_addStation_64 : decode cX5_addStation 64 = .ok (.aload_n 0, 1) := by decide +kernel
theorem dX5_addStation_65 : decode cX5_addStation 65 = .ok (.getfield 12, 3) := by decide +kernel
theorem dX5_addStation_68 : decode cX5_addStation 68 = .ok (.getfield 34, 3) := by decide +kernel
theorem dX5_addStation_71 : decode cX5_addStation 71 = .ok (.bipush 8, 2) := by decide +kernel
theorem dX5_addStation_73 : decode cX5_addStation 73 = .ok (.if_icmp .ge 13, 3) := by decide +kernel
theorem dX5_addStation_76 : decode cX5_addStation 76 = .ok (.aload_n 0, 1) := by decide +kernel
theorem dX5_addStation_77 : decode cX5_addStation 77 = .ok (.getfield 12, 3) := by decide +kernel
theorem dX5_addStation_80 : decode cX5_addStation 80 = .ok (.getfield 38, 3) := by decide +kernel
theorem dX5_addStation_83 : decode cX5_addStation 83 = .ok (.ifCond .le 13, 3) := by decide +kernel
theorem dX5_addStation_86 : decode cX5_addStation 86 = .ok (.new 41, 3) := by decide +kernel
theorem dX5_addStation_89 : decode cX5_addStation 89 = .ok (.dup, 1) := by decide +kernel
theorem dX5_addStation_90 : decode cX5_addStation 90 = .ok (.ldc 43, 2) := by decide +kernel
theorem dX5_addStation_92 : decode cX5_addStation 92 = .ok (.invokespecial 45, 3) := by decide +kernel
theorem dX5_addStation_95 : decode cX5_addStation 95 = .ok (.athrow, 1) := by decide +kernel
theorem dX5_addStation_96 : decode cX5_addStation 96 = .ok (.aload_n 0, 1) := by decide +kernel
theorem dX5_addStation_97 : decode cX5_addStation 97 = .ok (.getfield 12, 3) := by decide +kernel
theorem dX5_addStation_100 : decode cX5_addStation 100 = .ok (.iload_n 1, 1) := by decide +kernel
theorem dX5_addStation_101 : decode cX5_addStation 101 = .ok (.iload_n 2, 1) := by decide +kernel
theorem dX5_addStation_102 : decode cX5_addStation 102 = .ok (.iload_n 3, 1) := by decide +kernel
theorem dX5_addStation_103 : decode cX5_addStation 103 = .ok (.iload 4, 2) := by decide +kernel
theorem dX5_addStation_105 : decode cX5_addStation 105 = .ok (.invokevirtual 46, 3) := by decide +kernel
theorem dX5_addStation_108 : decode cX5_addStation 108 = .ok (.ireturn, 1) := by decide +kernel
set_option maxRecDepth 20000 in
theorem ggX5_supply_X5_requirePart : GoodIn wsX5_supply wsX5_requirePart := goodIn_ca (goodIn_r _ [9, 10, 11, 12, 13, 8, 14] (by decide +kernel) (by decide +kernel)) (goodIn_sub (fun _ h => List.mem_cons_of_mem _ (List.mem_append_left _ (List.mem_append_right _ h))) (by decide +kernel))
set_option maxRecDepth 20000 in
theorem gX5_supply_X5_requirePart : GoodIn wsX5_supply (va_wsS RX5 50 yX5_requirePart wsX5_requirePart) := goodIn_app (goodIn_of _ (by decide +kernel)) ggX5_supply_X5_requirePart
set_option maxRecDepth 20000 in
theorem ggX5_supply_X5_isWithin : GoodIn wsX5_supply wsX5_isWithin := goodIn_r _ [14] (by decide +kernel) (by decide +kernel)
set_option maxRecDepth 20000 in
theorem gX5_supply_X5_isWithin : GoodIn wsX5_supply (va_wsS RX5 21 yX5_isWithin wsX5_isWithin) := goodIn_app (goodIn_of _ (by decide +kernel)) ggX5_supply_X5_isWithin
set_option maxRecDepth 20000 in
theorem ggX5_supply_X1_unitsOf : GoodIn wsX5_supply wsX1_unitsOf := goodIn_ca (goodIn_r _ [19, 20, 27, 28, 29, 30, 31, 32, 33, 34, 35, 36] (by decide +kernel) (by decide +kernel)) (goodIn_sub (fun _ h => List.mem_cons_of_mem _ (List.mem_append_right _ h)) (by decide +kernel))
set_option maxRecDepth 20000 in
theorem gX5_supply_X1_unitsOf : GoodIn wsX5_supply (wsV RX5 56 RX1 yX1_unitsOf wsX1_unitsOf) := goodIn_app (goodIn_of _ (by decide +kernel)) ggX5_supply_X1_unitsOf
set_option maxRecDepth 20000 in
theorem ggX5_supply_X1_changeUnits : GoodIn wsX5_supply wsX1_changeUnits := goodIn_ca (goodIn_r _ [24, 20, 27, 28, 29, 30, 31, 32, 33, 34, 35, 36] (by decide +kernel) (by decide +kernel)) (goodIn_sub (fun _ h => List.mem_cons_of_mem _ (List.mem_append_right _ h)) (by decide +kernel))
set_option maxRecDepth 20000 in
theorem gX5_supply_X1_changeUnits : GoodIn wsX5_supply (wsV RX5 62 RX1 yX1_changeUnits wsX1_changeUnits) := goodIn_app (goodIn_of _ (by decide +kernel)) ggX5_supply_X1_changeUnits
theorem dX5_supply_0 : decode cX5_supply 0 = .ok (.iload_n 1, 1) := by decide +kernel
theorem dX5_supply_1 : decode cX5_supply 1 = .ok (.invokestatic 50, 3) := by decide +kernel
theorem dX5_supply_4 : decode cX5_supply 4 = .ok (.iload_n 2, 1) := by decide +kernel
theorem dX5_supply_5 : decode cX5_supply 5 = .ok (.iconst 1, 1) := by decide +kernel
theorem dX5_supply_6 : decode cX5_supply 6 = .ok (.bipush 99, 2) := by decide +kernel
theorem dX5_supply_8 : decode cX5_supply 8 = .ok (.invokestatic 21, 3) := by decide +kernel
theorem dX5_supply_11 : decode cX5_supply 11 = .ok (.ifCond .ne 13, 3) := by decide +kernel
theorem dX5_supply_14 : decode cX5_supply 14 = .ok (.new 25, 3) := by decide +kernel
theorem dX5_supply_17 : decode cX5_supply 17 = .ok (.dup, 1) := by decide +kernel
theorem dX5_supply_18 : decode cX5_supply 18 = .ok (.ldc 54, 2) := by decide +kernel
theorem dX5_supply_20 : decode cX5_supply 20 = .ok (.invokespecial 29, 3) := by decide +kernel
theorem dX5_supply_23 : decode cX5_supply 23 = .ok (.athrow, 1) := by decide +kernel
theorem dX5_supply_24 : decode cX5_supply 24 = .ok (.aload_n 0, 1) := by decide +kernel
theorem dX5_supply_25 : decode cX5_supply 25 = .ok (.getfield 12, 3) := by decide +kernel
theorem dX5_supply_28 : decode cX5_supply 28 = .ok (.iload_n 1, 1) := by decide +kernel
theorem dX5_supply_29 : decode cX5_supply 29 = .ok (.invokevirtual 56, 3) := by decide +kernel
theorem dX5_supply_32 : decode cX5_supply 32 = .ok (.iload_n 2, 1) := by decide +kernel
theorem dX5_supply_33 : decode cX5_supply 33 = .ok (.iadd, 1) := by decide +kernel
theorem dX5_supply_34 : decode cX5_supply 34 = .ok (.sipush 999, 3) := by decide +kernel
theorem dX5_supply_37 : decode cX5_supply 37 = .ok (.if_icmp .le 13, 3) := by decide +kernel
theorem dX5_supply_40 : decode cX5_supply 40 = .ok (.new 41, 3) := by decide +kernel
theorem dX5_supply_43 : decode cX5_supply 43 = .ok (.dup, 1) := by decide +kernel
theorem dX5_supply_44 : decode cX5_supply 44 = .ok (.ldc 60, 2) := by decide +kernel
theorem dX5_supply_46 : decode cX5_supply 46 = .ok (.invokespecial 45, 3) := by decide +kernel
theorem dX5_supply_49 : decode cX5_supply 49 = .ok (.athrow, 1) := by decide +kernel
theorem dX5_supply_50 : decode cX5_supply 50 = .ok (.aload_n 0, 1) := by decide +kernel
theorem dX5_supply_51 : decode cX5_supply 51 = .ok (.getfield 12, 3) := by decide +kernel
theorem dX5_supply_54 : decode cX5_supply 54 = .ok (.iload_n 1, 1) := by decide +kernel
theorem dX5_supply_55 : decode cX5_supply 55 = .ok (.iload_n 2, 1) := by decide +kernel
theorem dX5_supply_56 : decode cX5_supply 56 = .ok (.invokevirtual 62, 3) := by decide +kernel
theorem dX5_supply_59 : decode cX5_supply 59 = .ok (.aload_n 0, 1) := by decide +kernel
theorem dX5_supply_60 : decode cX5_supply 60 = .ok (.getfield 12, 3) := by decide +kernel
theorem dX5_supply_63 : decode cX5_supply 63 = .ok (.iload_n 1, 1) := by decide +kernel
theorem dX5_supply_64 : decode cX5_supply 64 = .ok (.invokevirtual 56, 3) := by decide +kernel
theorem dX5_supply_67 : decode cX5_supply 67 = .ok (.ireturn, 1) := by decide +kernel
set_option maxRecDepth 20000 in
theorem ggX5_setPeriod_X5_isWithin : GoodIn wsX5_setPeriod wsX5_isWithin := goodIn_r _ [7] (by decide +kernel) (by decide +kernel)
set_option maxRecDepth 20000 in
theorem gX5_setPeriod_X5_isWithin : GoodIn wsX5_setPeriod (va_wsS RX5 21 yX5_isWithin wsX5_isWithin) := goodIn_app (goodIn_of _ (by decide +kernel)) ggX5_setPeriod_X5_isWithin
theorem dX5_setPeriod_0 : decode cX5_setPeriod 0 = .ok (.iload_n 1, 1) := by decide +kernel
theorem dX5_setPeriod_1 : decode cX5_setPeriod 1 = .ok (.iconst 1, 1) := by decide +kernel
theorem dX5_setPeriod_2 : decode cX5_setPeriod 2 = .ok (.bipush 60, 2) := by decide +kernel
theorem dX5_setPeriod_4 : decode cX5_setPeriod 4 = .ok (.invokestatic 21, 3) := by decide +kernel
theorem dX5_setPeriod_7 : decode cX5_setPeriod 7 = .ok (.ifCond .ne 13, 3) := by decide +kernel
theorem dX5_setPeriod_10 : decode cX5_setPeriod 10 = .ok (.new 25, 3) := by decide +kernel
theorem dX5_setPeriod_13 : decode cX5_setPeriod 13 = .ok (.dup, 1) := by decide +kernel
theorem dX5_setPeriod_14 : decode cX5_setPeriod 14 = .ok (.ldc 66, 2) := by decide +kernel
theorem dX5_setPeriod_16 : decode cX5_setPeriod 16 = .ok (.invokespecial 29, 3) := by decide +kernel
theorem dX5_setPeriod_19 : decode cX5_setPeriod 19 = .ok (.athrow, 1) := by decide +kernel
theorem dX5_setPeriod_20 : decode cX5_setPeriod 20 = .ok (.aload_n 0, 1) := by decide +kernel
theorem dX5_setPeriod_21 : decode cX5_setPeriod 21 = .ok (.getfield 12, 3) := by decide +kernel
theorem dX5_setPeriod_24 : decode cX5_setPeriod 24 = .ok (.getfield 68, 3) := by decide +kernel
theorem dX5_setPeriod_27 : decode cX5_setPeriod 27 = .ok (.istore_n 2, 1) := by decide +kernel
theorem dX5_setPeriod_28 : decode cX5_setPeriod 28 = .ok (.aload_n 0, 1) := by decide +kernel
theorem dX5_setPeriod_29 : decode cX5_setPeriod 29 = .ok (.getfield 12, 3) := by decide +kernel
theorem dX5_setPeriod_32 : decode cX5_setPeriod 32 = .ok (.iload_n 1, 1) := by decide +kernel
theorem dX5_setPeriod_33 : decode cX5_setPeriod 33 = .ok (.putfield 68, 3) := by decide +kernel
theorem dX5_setPeriod_36 : decode cX5_setPeriod 36 = .ok (.iload_n 2, 1) := by decide +kernel
theorem dX5_setPeriod_37 : decode cX5_setPeriod 37 = .ok (.ireturn, 1) := by decide +kernel
set_option maxRecDepth 20000 in
theorem ggX5_addCar_X5_isWithin : GoodIn wsX5_addCar wsX5_isWithin := goodIn_r _ [9] (by decide +kernel) (by decide +kernel)
set_option maxRecDepth 20000 in
theorem gX5_addCar_X5_isWithin : GoodIn wsX5_addCar (va_wsS RX5 21 yX5_isWithin wsX5_isWithin) := goodIn_app (goodIn_of _ (by decide +kernel)) ggX5_addCar_X5_isWithin
set_option maxRecDepth 20000 in
theorem ggX5_addCar_X1_appendCar : GoodIn wsX5_addCar wsX1_appendCar := goodIn_ca (goodIn_r _ [14, 15, 16, 17, 18, 19, 13, 20, 21, 22, 23, 24, 25, 26, 27, 28, 31, 32, 33, 34, 35, 36, 37, 38, 39, 40, 41, 42, 43, 44, 45, 46, 47, 48, 49, 50, 51, 52, 53] (by decide +kernel) (by decide +kernel)) (goodIn_sub (fun _ h => List.mem_cons_of_mem _ (List.mem_append_right _ h)) (by decide +kernel))
set_option maxRecDepth 20000 in
theorem gX5_addCar_X1_appendCar : GoodIn wsX5_addCar (wsV RX5 78 RX1 yX1_appendCar wsX1_appendCar) := goodIn_app (goodIn_of _ (by decide +kernel)) ggX5_addCar_X1_appendCar
theorem dX5_addCar_0 : decode cX5_addCar 0 = .ok (.iload_n 1, 1) := by decide +kernel
theorem dX5_addCar_1 : decode cX5_addCar 1 = .ok (.iconst 0, 1) := by decide +kernel
theorem dX5_addCar_2 : decode cX5_addCar 2 = .ok (.bipush 63, 2) := by decide +kernel
theorem dX5_addCar_4 : decode cX5_addCar 4 = .ok (.invokestatic 21, 3) := by decide +kernel
theorem dX5_addCar_7 : decode cX5_addCar 7 = .ok (.ifCond .ne 13, 3) := by decide +kernel
theorem dX5_addCar_10 : decode cX5_addCar 10 = .ok (.new 25, 3) := by decide +kernel
theorem dX5_addCar_13 : decode cX5_addCar 13 = .ok (.dup, 1) := by decide +kernel
theorem dX5_addCar_14 : decode cX5_addCar 14 = .ok (.ldc 71, 2) := by decide +kernel
theorem dX5_addCar_16 : decode cX5_addCar 16 = .ok (.invokespecial 29, 3) := by decide +kernel
theorem dX5_addCar_19 : decode cX5_addCar 19 = .ok (.athrow, 1) := by decide +kernel
theorem dX5_addCar_20 : decode cX5_addCar 20 = .ok (.aload_n 0, 1) := by decide +kernel
theorem dX5_addCar_21 : decode cX5_addCar 21 = .ok (.getfield 12, 3) := by decide +kernel
theorem dX5_addCar_24 : decode cX5_addCar 24 = .ok (.getfield 73, 3) := by decide +kernel
theorem dX5_addCar_27 : decode cX5_addCar 27 = .ok (.bipush 30, 2) := by decide +kernel
theorem dX5_addCar_29 : decode cX5_addCar 29 = .ok (.if_icmp .ge 13, 3) := by decide +kernel
theorem dX5_addCar_32 : decode cX5_addCar 32 = .ok (.aload_n 0, 1) := by decide +kernel
theorem dX5_addCar_33 : decode cX5_addCar 33 = .ok (.getfield 12, 3) := by decide +kernel
theorem dX5_addCar_36 : decode cX5_addCar 36 = .ok (.getfield 34, 3) := by decide +kernel
theorem dX5_addCar_39 : decode cX5_addCar 39 = .ok (.ifCond .ne 13, 3) := by decide +kernel
theorem dX5_addCar_42 : decode cX5_addCar 42 = .ok (.new 41, 3) := by decide +kernel
theorem dX5_addCar_45 : decode cX5_addCar 45 = .ok (.dup, 1) := by decide +kernel
theorem dX5_addCar_46 : decode cX5_addCar 46 = .ok (.ldc 76, 2) := by decide +kernel
theorem dX5_addCar_48 : decode cX5_addCar 48 = .ok (.invokespecial 45, 3) := by decide +kernel
theorem dX5_addCar_51 : decode cX5_addCar 51 = .ok (.athrow, 1) := by decide +kernel
theorem dX5_addCar_52 : decode cX5_addCar 52 = .ok (.aload_n 0, 1) := by decide +kernel
theorem dX5_addCar_53 : decode cX5_addCar 53 = .ok (.getfield 12, 3) := by decide +kernel
theorem dX5_addCar_56 : decode cX5_addCar 56 = .ok (.iload_n 1, 1) := by decide +kernel
theorem dX5_addCar_57 : decode cX5_addCar 57 = .ok (.invokevirtual 78, 3) := by decide +kernel
theorem dX5_addCar_60 : decode cX5_addCar 60 = .ok (.ireturn, 1) := by decide +kernel
set_option maxRecDepth 20000 in
theorem ggX5_swap_X5_requireCar : GoodIn wsX5_swap wsX5_requireCar := goodIn_ca (goodIn_r _ [10, 11, 12, 5, 13, 14, 15, 16, 17, 18, 19, 50, 51, 52, 53, 54, 55, 56, 57, 58, 59, 60, 61] (by decide +kernel) (by decide +kernel)) (goodIn_sub (fun _ h => List.mem_cons_of_mem _ (List.mem_append_left _ (List.mem_append_right _ h))) (by decide +kernel))
set_option maxRecDepth 20000 in
theorem gX5_swap_X5_requireCar : GoodIn wsX5_swap (wsV RX5 81 RX5 yX5_requireCar wsX5_requireCar) := goodIn_app (goodIn_of _ (by decide +kernel)) ggX5_swap_X5_requireCar
set_option maxRecDepth 20000 in
theorem ggX5_swap_X2_placeOf : GoodIn wsX5_swap wsX2_placeOf := goodIn_ca (goodIn_r _ [24, 25, 26, 27, 28, 23, 29, 30, 31, 32, 33, 34, 62, 63] (by decide +kernel) (by decide +kernel)) (goodIn_sub (fun _ h => List.mem_cons_of_mem _ (List.mem_append_right _ h)) (by decide +kernel))
set_option maxRecDepth 20000 in
theorem gX5_swap_X2_placeOf : GoodIn wsX5_swap (wsV RX5 99 RX2 yX2_placeOf wsX2_placeOf) := goodIn_app (goodIn_of _ (by decide +kernel)) ggX5_swap_X2_placeOf
set_option maxRecDepth 20000 in
theorem ggX5_swap_X2_exchange : GoodIn wsX5_swap wsX2_exchange := goodIn_ca (goodIn_r _ [38, 25, 30, 31, 32, 23, 33, 34, 62, 63] (by decide +kernel) (by decide +kernel)) (goodIn_sub (fun _ h => List.mem_cons_of_mem _ (List.mem_append_right _ h)) (by decide +kernel))
set_option maxRecDepth 20000 in
theorem gX5_swap_X2_exchange : GoodIn wsX5_swap (wsV RX5 104 RX2 yX2_exchange wsX2_exchange) := goodIn_app (goodIn_of _ (by decide +kernel)) ggX5_swap_X2_exchange
theorem dX5_swap_0 : decode cX5_swap 0 = .ok (.aload_n 0, 1) := by decide +kernel
theorem dX5_swap_1 : decode cX5_swap 1 = .ok (.iload_n 1, 1) := by decide +kernel
theorem dX5_swap_2 : decode cX5_swap 2 = .ok (.invokevirtual 81, 3) := by decide +kernel
theorem dX5_swap_5 : decode cX5_swap 5 = .ok (.astore_n 3, 1) := by decide +kernel
theorem dX5_swap_6 : decode cX5_swap 6 = .ok (.aload_n 0, 1) := by decide +kernel
theorem dX5_swap_7 : decode cX5_swap 7 = .ok (.iload_n 2, 1) := by decide +kernel
theorem dX5_swap_8 : decode cX5_swap 8 = .ok (.invokevirtual 81, 3) := by decide +kernel
theorem dX5_swap_11 : decode cX5_swap 11 = .ok (.astore 4, 2) := by decide +kernel
theorem dX5_swap_13 : decode cX5_swap 13 = .ok (.iload_n 1, 1) := by decide +kernel
theorem dX5_swap_14 : decode cX5_swap 14 = .ok (.iload_n 2, 1) := by decide +kernel
theorem dX5_swap_15 : decode cX5_swap 15 = .ok (.if_icmp .ne 13, 3) := by decide +kernel
theorem dX5_swap_18 : decode cX5_swap 18 = .ok (.new 25, 3) := by decide +kernel
theorem dX5_swap_21 : decode cX5_swap 21 = .ok (.dup, 1) := by decide +kernel
theorem dX5_swap_22 : decode cX5_swap 22 = .ok (.ldc 85, 2) := by decide +kernel
