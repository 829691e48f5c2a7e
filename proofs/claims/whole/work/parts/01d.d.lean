theorem dX5_swap_24 : decode cX5_swap 24 = .ok (.invokespecial 29, 3) := by decide +kernel
theorem dX5_swap_27 : decode cX5_swap 27 = .ok (.athrow, 1) := by decide +kernel
theorem dX5_swap_28 : decode cX5_swap 28 = .ok (.aload_n 3, 1) := by decide +kernel
theorem dX5_swap_29 : decode cX5_swap 29 = .ok (.getfield 87, 3) := by decide +kernel
theorem dX5_swap_32 : decode cX5_swap 32 = .ok (.bipush 119, 2) := by decide +kernel
theorem dX5_swap_34 : decode cX5_swap 34 = .ok (.if_icmp .ne 13, 3) := by decide +kernel
theorem dX5_swap_37 : decode cX5_swap 37 = .ok (.aload 4, 2) := by decide +kernel
theorem dX5_swap_39 : decode cX5_swap 39 = .ok (.getfield 87, 3) := by decide +kernel
theorem dX5_swap_42 : decode cX5_swap 42 = .ok (.bipush 119, 2) := by decide +kernel
theorem dX5_swap_44 : decode cX5_swap 44 = .ok (.if_icmp .eq 13, 3) := by decide +kernel
theorem dX5_swap_47 : decode cX5_swap 47 = .ok (.new 41, 3) := by decide +kernel
theorem dX5_swap_50 : decode cX5_swap 50 = .ok (.dup, 1) := by decide +kernel
theorem dX5_swap_51 : decode cX5_swap 51 = .ok (.ldc 93, 2) := by decide +kernel
theorem dX5_swap_53 : decode cX5_swap 53 = .ok (.invokespecial 45, 3) := by decide +kernel
theorem dX5_swap_56 : decode cX5_swap 56 = .ok (.athrow, 1) := by decide +kernel
theorem dX5_swap_57 : decode cX5_swap 57 = .ok (.aload_n 0, 1) := by decide +kernel
theorem dX5_swap_58 : decode cX5_swap 58 = .ok (.getfield 12, 3) := by decide +kernel
theorem dX5_swap_61 : decode cX5_swap 61 = .ok (.getfield 95, 3) := by decide +kernel
theorem dX5_swap_64 : decode cX5_swap 64 = .ok (.iload_n 2, 1) := by decide +kernel
theorem dX5_swap_65 : decode cX5_swap 65 = .ok (.invokevirtual 99, 3) := by decide +kernel
theorem dX5_swap_68 : decode cX5_swap 68 = .ok (.istore 5, 2) := by decide +kernel
theorem dX5_swap_70 : decode cX5_swap 70 = .ok (.aload_n 0, 1) := by decide +kernel
theorem dX5_swap_71 : decode cX5_swap 71 = .ok (.getfield 12, 3) := by decide +kernel
theorem dX5_swap_74 : decode cX5_swap 74 = .ok (.getfield 95, 3) := by decide +kernel
theorem dX5_swap_77 : decode cX5_swap 77 = .ok (.aload_n 0, 1) := by decide +kernel
theorem dX5_swap_78 : decode cX5_swap 78 = .ok (.getfield 12, 3) := by decide +kernel
theorem dX5_swap_81 : decode cX5_swap 81 = .ok (.getfield 95, 3) := by decide +kernel
theorem dX5_swap_84 : decode cX5_swap 84 = .ok (.iload_n 1, 1) := by decide +kernel
theorem dX5_swap_85 : decode cX5_swap 85 = .ok (.invokevirtual 99, 3) := by decide +kernel
theorem dX5_swap_88 : decode cX5_swap 88 = .ok (.iload 5, 2) := by decide +kernel
theorem dX5_swap_90 : decode cX5_swap 90 = .ok (.invokevirtual 104, 3) := by decide +kernel
theorem dX5_swap_93 : decode cX5_swap 93 = .ok (.iload 5, 2) := by decide +kernel
theorem dX5_swap_95 : decode cX5_swap 95 = .ok (.ireturn, 1) := by decide +kernel
set_option maxRecDepth 20000 in
theorem ggX5_fault_X5_requireCar : GoodIn wsX5_fault wsX5_requireCar := goodIn_ca (goodIn_r _ [9, 10, 11, 12, 13, 14, 15, 16, 17, 18, 19, 67, 68, 69, 70, 71, 72, 73, 74, 75, 76, 77, 78] (by decide +kernel) (by decide +kernel)) (goodIn_sub (fun _ h => List.mem_cons_of_mem _ (List.mem_append_right _ h)) (by decide +kernel))
set_option maxRecDepth 20000 in
theorem gX5_fault_X5_requireCar : GoodIn wsX5_fault (wsV RX5 81 RX5 yX5_requireCar wsX5_requireCar) := goodIn_app (goodIn_of _ (by decide +kernel)) ggX5_fault_X5_requireCar
set_option maxRecDepth 20000 in
theorem ggX5_fault_X5_requireStation : GoodIn wsX5_fault wsX5_requireStation := goodIn_ca (goodIn_r _ [23, 10, 11, 12, 24, 25, 26, 16, 27, 28, 29, 67, 68, 69, 70, 71, 72, 73, 74, 75, 76, 77, 78] (by decide +kernel) (by decide +kernel)) (goodIn_sub (fun _ h => List.mem_cons_of_mem _ (List.mem_append_right _ h)) (by decide +kernel))
set_option maxRecDepth 20000 in
theorem gX5_fault_X5_requireStation : GoodIn wsX5_fault (wsV RX5 107 RX5 yX5_requireStation wsX5_requireStation) := goodIn_app (goodIn_of _ (by decide +kernel)) ggX5_fault_X5_requireStation
set_option maxRecDepth 20000 in
theorem ggX5_fault_X0_hasEntered : GoodIn wsX5_fault wsX0_hasEntered := goodIn_r _ [34, 35, 56, 57, 58, 59, 60, 61, 62, 63, 64, 65, 66] (by decide +kernel) (by decide +kernel)
set_option maxRecDepth 20000 in
theorem gX5_fault_X0_hasEntered : GoodIn wsX5_fault (wsV RX5 111 RX0 yX0_hasEntered wsX0_hasEntered) := goodIn_app (goodIn_of _ (by decide +kernel)) ggX5_fault_X0_hasEntered
set_option maxRecDepth 20000 in
theorem ggX5_fault_X0_isFaulty : GoodIn wsX5_fault wsX0_isFaulty := goodIn_r _ [39, 40, 56, 57, 58, 59, 60, 61, 62, 63, 64, 65, 66] (by decide +kernel) (by decide +kernel)
set_option maxRecDepth 20000 in
theorem gX5_fault_X0_isFaulty : GoodIn wsX5_fault (wsV RX5 120 RX0 yX0_isFaulty wsX0_isFaulty) := goodIn_app (goodIn_of _ (by decide +kernel)) ggX5_fault_X0_isFaulty
set_option maxRecDepth 20000 in
theorem ggX5_fault_X0_openFault : GoodIn wsX5_fault wsX0_openFault := goodIn_r _ [44, 40, 56, 57, 58, 59, 60, 61, 62, 63, 64, 65, 66] (by decide +kernel) (by decide +kernel)
set_option maxRecDepth 20000 in
theorem gX5_fault_X0_openFault : GoodIn wsX5_fault (wsV RX5 128 RX0 yX0_openFault wsX0_openFault) := goodIn_app (goodIn_of _ (by decide +kernel)) ggX5_fault_X0_openFault
set_option maxRecDepth 20000 in
theorem ggX5_fault_X0_faultCount : GoodIn wsX5_fault wsX0_faultCount := goodIn_r _ [48, 40, 49, 50, 51, 52, 53, 54, 55, 56, 57, 58, 59, 60, 61, 62, 63, 64, 65, 66] (by decide +kernel) (by decide +kernel)
set_option maxRecDepth 20000 in
theorem gX5_fault_X0_faultCount : GoodIn wsX5_fault (wsV RX5 131 RX0 yX0_faultCount wsX0_faultCount) := goodIn_app (goodIn_of _ (by decide +kernel)) ggX5_fault_X0_faultCount
theorem dX5_fault_0 : decode cX5_fault 0 = .ok (.aload_n 0, 1) := by decide +kernel
theorem dX5_fault_1 : decode cX5_fault 1 = .ok (.iload_n 1, 1) := by decide +kernel
theorem dX5_fault_2 : decode cX5_fault 2 = .ok (.invokevirtual 81, 3) := by decide +kernel
theorem dX5_fault_5 : decode cX5_fault 5 = .ok (.astore_n 3, 1) := by decide +kernel
theorem dX5_fault_6 : decode cX5_fault 6 = .ok (.aload_n 0, 1) := by decide +kernel
theorem dX5_fault_7 : decode cX5_fault 7 = .ok (.iload_n 2, 1) := by decide +kernel
theorem dX5_fault_8 : decode cX5_fault 8 = .ok (.invokevirtual 107, 3) := by decide +kernel
theorem dX5_fault_11 : decode cX5_fault 11 = .ok (.pop, 1) := by decide +kernel
theorem dX5_fault_12 : decode cX5_fault 12 = .ok (.aload_n 3, 1) := by decide +kernel
theorem dX5_fault_13 : decode cX5_fault 13 = .ok (.iload_n 2, 1) := by decide +kernel
theorem dX5_fault_14 : decode cX5_fault 14 = .ok (.invokevirtual 111, 3) := by decide +kernel
theorem dX5_fault_17 : decode cX5_fault 17 = .ok (.ifCond .eq 20, 3) := by decide +kernel
theorem dX5_fault_20 : decode cX5_fault 20 = .ok (.aload_n 3, 1) := by decide +kernel
theorem dX5_fault_21 : decode cX5_fault 21 = .ok (.getfield 115, 3) := by decide +kernel
theorem dX5_fault_24 : decode cX5_fault 24 = .ok (.iload_n 2, 1) := by decide +kernel
theorem dX5_fault_25 : decode cX5_fault 25 = .ok (.if_icmp .eq 12, 3) := by decide +kernel
theorem dX5_fault_28 : decode cX5_fault 28 = .ok (.aload_n 3, 1) := by decide +kernel
theorem dX5_fault_29 : decode cX5_fault 29 = .ok (.getfield 87, 3) := by decide +kernel
theorem dX5_fault_32 : decode cX5_fault 32 = .ok (.bipush 100, 2) := by decide +kernel
theorem dX5_fault_34 : decode cX5_fault 34 = .ok (.if_icmp .ne 13, 3) := by decide +kernel
theorem dX5_fault_37 : decode cX5_fault 37 = .ok (.new 41, 3) := by decide +kernel
theorem dX5_fault_40 : decode cX5_fault 40 = .ok (.dup, 1) := by decide +kernel
theorem dX5_fault_41 : decode cX5_fault 41 = .ok (.ldc 118, 2) := by decide +kernel
theorem dX5_fault_43 : decode cX5_fault 43 = .ok (.invokespecial 45, 3) := by decide +kernel
theorem dX5_fault_46 : decode cX5_fault 46 = .ok (.athrow, 1) := by decide +kernel
theorem dX5_fault_47 : decode cX5_fault 47 = .ok (.aload_n 3, 1) := by decide +kernel
theorem dX5_fault_48 : decode cX5_fault 48 = .ok (.iload_n 2, 1) := by decide +kernel
theorem dX5_fault_49 : decode cX5_fault 49 = .ok (.invokevirtual 120, 3) := by decide +kernel
theorem dX5_fault_52 : decode cX5_fault 52 = .ok (.ifCond .eq 13, 3) := by decide +kernel
theorem dX5_fault_55 : decode cX5_fault 55 = .ok (.new 123, 3) := by decide +kernel
theorem dX5_fault_58 : decode cX5_fault 58 = .ok (.dup, 1) := by decide +kernel
theorem dX5_fault_59 : decode cX5_fault 59 = .ok (.ldc 125, 2) := by decide +kernel
theorem dX5_fault_61 : decode cX5_fault 61 = .ok (.invokespecial 127, 3) := by decide +kernel
theorem dX5_fault_64 : decode cX5_fault 64 = .ok (.athrow, 1) := by decide +kernel
theorem dX5_fault_65 : decode cX5_fault 65 = .ok (.aload_n 3, 1) := by decide +kernel
theorem dX5_fault_66 : decode cX5_fault 66 = .ok (.iload_n 2, 1) := by decide +kernel
theorem dX5_fault_67 : decode cX5_fault 67 = .ok (.invokevirtual 128, 3) := by decide +kernel
theorem dX5_fault_70 : decode cX5_fault 70 = .ok (.aload_n 3, 1) := by decide +kernel
theorem dX5_fault_71 : decode cX5_fault 71 = .ok (.invokevirtual 131, 3) := by decide +kernel
theorem dX5_fault_74 : decode cX5_fault 74 = .ok (.ireturn, 1) := by decide +kernel
set_option maxRecDepth 20000 in
theorem ggX5_tick_X5_isWithin : GoodIn wsX5_tick wsX5_isWithin := goodIn_r _ [9] (by decide +kernel) (by decide +kernel)
set_option maxRecDepth 20000 in
theorem gX5_tick_X5_isWithin : GoodIn wsX5_tick (va_wsS RX5 21 yX5_isWithin wsX5_isWithin) := goodIn_app (goodIn_of _ (by decide +kernel)) ggX5_tick_X5_isWithin
set_option maxRecDepth 20000 in
theorem ggX5_tick_X1_passTick : GoodIn wsX5_tick wsX1_passTick := goodIn_ca (goodIn_ca (goodIn_r _ [14, 15, 16, 17, 18, 19, 13, 20, 21, 22, 23, 24, 25, 26, 27, 28, 29, 30, 31, 32, 33, 34, 35, 36, 37, 38, 39, 40, 41, 42, 43, 44, 45, 46, 47, 48, 49, 50, 51, 52, 53, 54, 55, 56, 57, 58, 59, 60, 61, 62, 63, 64, 65, 66, 67, 68, 69, 70, 71, 72, 73, 74, 75, 76, 77, 78, 79, 80, 81, 82, 83, 84, 85, 86, 87, 88, 89, 90, 91, 92, 93, 94, 95, 96, 97, 98, 99, 100, 101, 102, 103, 104, 105, 106, 107, 108, 109, 110, 111, 112, 113, 114, 115, 116, 117, 118, 119, 120, 121, 122, 123, 124, 125, 126, 127, 128, 129, 130, 131, 132, 133, 134, 135, 136, 137, 138, 139, 140, 141, 142, 143, 144, 145, 146, 147, 148, 149, 150, 151, 152, 153, 154, 155, 156, 157, 158, 159, 160, 161, 162, 163, 164, 165, 166, 167, 168, 169, 170, 171, 172, 173, 174, 175, 176, 177, 178, 179, 180, 181, 182, 183, 184, 185, 186, 187, 188, 189, 190, 191, 192, 193, 194, 195, 196, 197, 198, 199, 200, 201, 202, 203, 204, 205, 206, 207, 208, 209, 210, 211, 212, 213, 214, 215, 216, 217, 218, 219, 220, 221, 222, 223, 224, 225, 226, 227, 228, 229, 230, 231, 232, 233, 234, 235, 236, 237, 238, 239, 240, 241, 242, 243, 244, 245, 246, 247, 248, 249, 250, 251, 252, 253, 254, 255, 256, 257, 258, 259, 260, 261, 262, 263, 264, 265, 266, 269, 270, 271, 272, 273, 274, 275, 276, 277, 278, 281, 282, 283, 284, 285, 286, 287, 288, 289, 290, 291, 292, 293, 294, 295, 296, 297, 298, 299, 300, 301, 302, 303, 304, 279, 280] (by decide +kernel) (by decide +kernel)) (goodIn_sub (fun _ h => List.mem_cons_of_mem _ (List.mem_append_left _ (List.mem_append_right _ h))) (by decide +kernel))) (goodIn_sub (fun _ h => List.mem_cons_of_mem _ (List.mem_append_right _ h)) (by decide +kernel))
set_option maxRecDepth 20000 in
theorem gX5_tick_X1_passTick : GoodIn wsX5_tick (wsV RX5 145 RX1 yX1_passTick wsX1_passTick) := goodIn_app (goodIn_of _ (by decide +kernel)) ggX5_tick_X1_passTick
theorem dX5_tick_0 : decode cX5_tick 0 = .ok (.iload_n 1, 1) := by decide +kernel
theorem dX5_tick_1 : decode cX5_tick 1 = .ok (.iconst 1, 1) := by decide +kernel
theorem dX5_tick_2 : decode cX5_tick 2 = .ok (.bipush 60, 2) := by decide +kernel
theorem dX5_tick_4 : decode cX5_tick 4 = .ok (.invokestatic 21, 3) := by decide +kernel
theorem dX5_tick_7 : decode cX5_tick 7 = .ok (.ifCond .ne 13, 3) := by decide +kernel
theorem dX5_tick_10 : decode cX5_tick 10 = .ok (.new 25, 3) := by decide +kernel
theorem dX5_tick_13 : decode cX5_tick 13 = .ok (.dup, 1) := by decide +kernel
theorem dX5_tick_14 : decode cX5_tick 14 = .ok (.ldc 135, 2) := by decide +kernel
theorem dX5_tick_16 : decode cX5_tick 16 = .ok (.invokespecial 29, 3) := by decide +kernel
theorem dX5_tick_19 : decode cX5_tick 19 = .ok (.athrow, 1) := by decide +kernel
theorem dX5_tick_20 : decode cX5_tick 20 = .ok (.aload_n 0, 1) := by decide +kernel
theorem dX5_tick_21 : decode cX5_tick 21 = .ok (.getfield 12, 3) := by decide +kernel
theorem dX5_tick_24 : decode cX5_tick 24 = .ok (.getfield 34, 3) := by decide +kernel
theorem dX5_tick_27 : decode cX5_tick 27 = .ok (.ifCond .eq 18, 3) := by decide +kernel
theorem dX5_tick_30 : decode cX5_tick 30 = .ok (.aload_n 0, 1) := by decide +kernel
theorem dX5_tick_31 : decode cX5_tick 31 = .ok (.getfield 12, 3) := by decide +kernel
theorem dX5_tick_34 : decode cX5_tick 34 = .ok (.getfield 38, 3) := by decide +kernel
theorem dX5_tick_37 : decode cX5_tick 37 = .ok (.iload_n 1, 1) := by decide +kernel
theorem dX5_tick_38 : decode cX5_tick 38 = .ok (.iadd, 1) := by decide +kernel
theorem dX5_tick_39 : decode cX5_tick 39 = .ok (.sipush 9999, 3) := by decide +kernel
theorem dX5_tick_42 : decode cX5_tick 42 = .ok (.if_icmp .le 13, 3) := by decide +kernel
theorem dX5_tick_45 : decode cX5_tick 45 = .ok (.new 41, 3) := by decide +kernel
theorem dX5_tick_48 : decode cX5_tick 48 = .ok (.dup, 1) := by decide +kernel
theorem dX5_tick_49 : decode cX5_tick 49 = .ok (.ldc 137, 2) := by decide +kernel
theorem dX5_tick_51 : decode cX5_tick 51 = .ok (.invokespecial 45, 3) := by decide +kernel
theorem dX5_tick_54 : decode cX5_tick 54 = .ok (.athrow, 1) := by decide +kernel
theorem dX5_tick_55 : decode cX5_tick 55 = .ok (.aload_n 0, 1) := by decide +kernel
theorem dX5_tick_56 : decode cX5_tick 56 = .ok (.getfield 12, 3) := by decide +kernel
theorem dX5_tick_59 : decode cX5_tick 59 = .ok (.getfield 139, 3) := by decide +kernel
theorem dX5_tick_62 : decode cX5_tick 62 = .ok (.getfield 142, 3) := by decide +kernel
theorem dX5_tick_65 : decode cX5_tick 65 = .ok (.istore_n 2, 1) := by decide +kernel
theorem dX5_tick_66 : decode cX5_tick 66 = .ok (.iconst 0, 1) := by decide +kernel
theorem dX5_tick_67 : decode cX5_tick 67 = .ok (.istore_n 3, 1) := by decide +kernel
theorem dX5_tick_68 : decode cX5_tick 68 = .ok (.iload_n 3, 1) := by decide +kernel
theorem dX5_tick_69 : decode cX5_tick 69 = .ok (.iload_n 1, 1) := by decide +kernel
theorem dX5_tick_70 : decode cX5_tick 70 = .ok (.if_icmp .ge 16, 3) := by decide +kernel
theorem dX5_tick_73 : decode cX5_tick 73 = .ok (.aload_n 0, 1) := by decide +kernel
theorem dX5_tick_74 : decode cX5_tick 74 = .ok (.getfield 12, 3) := by decide +kernel
theorem dX5_tick_77 : decode cX5_tick 77 = .ok (.invokevirtual 145, 3) := by decide +kernel
theorem dX5_tick_80 : decode cX5_tick 80 = .ok (.iinc 3 1, 3) := by decide +kernel
theorem dX5_tick_83 : decode cX5_tick 83 = .ok (.goto (-15), 3) := by decide +kernel
theorem dX5_tick_86 : decode cX5_tick 86 = .ok (.aload_n 0, 1) := by decide +kernel
theorem dX5_tick_87 : decode cX5_tick 87 = .ok (.getfield 12, 3) := by decide +kernel
theorem dX5_tick_90 : decode cX5_tick 90 = .ok (.getfield 139, 3) := by decide +kernel
theorem dX5_tick_93 : decode cX5_tick 93 = .ok (.getfield 142, 3) := by decide +kernel
theorem dX5_tick_96 : decode cX5_tick 96 = .ok (.iload_n 2, 1) := by decide +kernel
theorem dX5_tick_97 : decode cX5_tick 97 = .ok (.isub, 1) := by decide +kernel
theorem dX5_tick_98 : decode cX5_tick 98 = .ok (.ireturn, 1) := by decide +kernel
theorem dX5_now_0 : decode cX5_now 0 = .ok (.aload_n 0, 1) := by decide +kernel
theorem dX5_now_1 : decode cX5_now 1 = .ok (.getfield 12, 3) := by decide +kernel
theorem dX5_now_4 : decode cX5_now 4 = .ok (.getfield 38, 3) := by decide +kernel
theorem dX5_now_7 : decode cX5_now 7 = .ok (.ireturn, 1) := by decide +kernel
theorem dX5_stations_0 : decode cX5_stations 0 = .ok (.aload_n 0, 1) := by decide +kernel
theorem dX5_stations_1 : decode cX5_stations 1 = .ok (.getfield 12, 3) := by decide +kernel
theorem dX5_stations_4 : decode cX5_stations 4 = .ok (.getfield 34, 3) := by decide +kernel
theorem dX5_stations_7 : decode cX5_stations 7 = .ok (.ireturn, 1) := by decide +kernel
theorem dX5_cars_0 : decode cX5_cars 0 = .ok (.aload_n 0, 1) := by decide +kernel
theorem dX5_cars_1 : decode cX5_cars 1 = .ok (.getfield 12, 3) := by decide +kernel
theorem dX5_cars_4 : decode cX5_cars 4 = .ok (.getfield 73, 3) := by decide +kernel
theorem dX5_cars_7 : decode cX5_cars 7 = .ok (.ireturn, 1) := by decide +kernel
set_option maxRecDepth 20000 in
theorem ggX5_stateOf_X5_requireCar : GoodIn wsX5_stateOf wsX5_requireCar := goodIn_ca (goodIn_r _ [5, 6, 7, 8, 9, 10, 11, 12, 13, 14, 15, 27, 28, 29, 30, 31, 32, 33, 34, 35, 36, 37, 38] (by decide +kernel) (by decide +kernel)) (goodIn_sub (fun _ h => List.mem_cons_of_mem _ (List.mem_append_right _ h)) (by decide +kernel))
set_option maxRecDepth 20000 in
theorem gX5_stateOf_X5_requireCar : GoodIn wsX5_stateOf (wsV RX5 81 RX5 yX5_requireCar wsX5_requireCar) := goodIn_app (goodIn_of _ (by decide +kernel)) ggX5_stateOf_X5_requireCar
theorem dX5_stateOf_0 : decode cX5_stateOf 0 = .ok (.aload_n 0, 1) := by decide +kernel
theorem dX5_stateOf_1 : decode cX5_stateOf 1 = .ok (.iload_n 1, 1) := by decide +kernel
theorem dX5_stateOf_2 : decode cX5_stateOf 2 = .ok (.invokevirtual 81, 3) := by decide +kernel
theorem dX5_stateOf_5 : decode cX5_stateOf 5 = .ok (.getfield 87, 3) := by decide +kernel
theorem dX5_stateOf_8 : decode cX5_stateOf 8 = .ok (.ireturn, 1) := by decide +kernel
set_option maxRecDepth 20000 in
theorem ggX5_stationOf_X5_requireStanding : GoodIn wsX5_stationOf wsX5_requireStanding := goodIn_ca (goodIn_ca (goodIn_r _ [5, 6, 7, 8, 9, 10, 4, 11, 12, 13, 14, 15, 16, 17, 18, 19, 20, 21, 22, 23, 24, 25, 26, 27, 28, 29, 30, 31, 32, 33, 34, 35, 36, 37, 38, 39, 40, 41, 42, 43, 44] (by decide +kernel) (by decide +kernel)) (goodIn_sub (fun _ h => List.mem_cons_of_mem _ (List.mem_append_left _ (List.mem_append_right _ h))) (by decide +kernel))) (goodIn_sub (fun _ h => List.mem_cons_of_mem _ (List.mem_append_right _ h)) (by decide +kernel))
set_option maxRecDepth 20000 in
theorem gX5_stationOf_X5_requireStanding : GoodIn wsX5_stationOf (wsV RX5 148 RX5 yX5_requireStanding wsX5_requireStanding) := goodIn_app (goodIn_of _ (by decide +kernel)) ggX5_stationOf_X5_requireStanding
theorem dX5_stationOf_0 : decode cX5_stationOf 0 = .ok (.aload_n 0, 1) := by decide +kernel
theorem dX5_stationOf_1 : decode cX5_stationOf 1 = .ok (.iload_n 1, 1) := by decide +kernel
theorem dX5_stationOf_2 : decode cX5_stationOf 2 = .ok (.invokevirtual 148, 3) := by decide +kernel
theorem dX5_stationOf_5 : decode cX5_stationOf 5 = .ok (.getfield 115, 3) := by decide +kernel
theorem dX5_stationOf_8 : decode cX5_stationOf 8 = .ok (.ireturn, 1) := by decide +kernel
set_option maxRecDepth 20000 in
theorem ggX5_toGo_X5_requireStanding : GoodIn wsX5_toGo wsX5_requireStanding := goodIn_ca (goodIn_ca (goodIn_r _ [5, 6, 7, 8, 9, 10, 4, 11, 12, 13, 14, 15, 16, 17, 18, 19, 20, 21, 22, 23, 24, 25, 26, 27, 28, 29, 30, 31, 32, 33, 34, 35, 36, 37, 38, 39, 40, 41, 42, 43, 44] (by decide +kernel) (by decide +kernel)) (goodIn_sub (fun _ h => List.mem_cons_of_mem _ (List.mem_append_left _ (List.mem_append_right _ h))) (by decide +kernel))) (goodIn_sub (fun _ h => List.mem_cons_of_mem _ (List.mem_append_right _ h)) (by decide +kernel))
set_option maxRecDepth 20000 in
theorem gX5_toGo_X5_requireStanding : GoodIn wsX5_toGo (wsV RX5 148 RX5 yX5_requireStanding wsX5_requireStanding) := goodIn_app (goodIn_of _ (by decide +kernel)) ggX5_toGo_X5_requireStanding
theorem dX5_toGo_0 : decode cX5_toGo 0 = .ok (.aload_n 0, 1) := by decide +kernel
theorem dX5_toGo_1 : decode cX5_toGo 1 = .ok (.iload_n 1, 1) := by decide +kernel
theorem dX5_toGo_2 : decode cX5_toGo 2 = .ok (.invokevirtual 148, 3) := by decide +kernel
theorem dX5_toGo_5 : decode cX5_toGo 5 = .ok (.getfield 151, 3) := by decide +kernel
theorem dX5_toGo_8 : decode cX5_toGo 8 = .ok (.ireturn, 1) := by decide +kernel
set_option maxRecDepth 20000 in
theorem ggX5_carAt_X5_requireStation : GoodIn wsX5_carAt wsX5_requireStation := goodIn_ca (goodIn_r _ [7, 8, 9, 10, 11, 12, 13, 14, 15, 16, 17, 26, 27, 28, 29, 30, 31, 32, 33, 34, 35, 36, 37] (by decide +kernel) (by decide +kernel)) (goodIn_sub (fun _ h => List.mem_cons_of_mem _ (List.mem_append_right _ h)) (by decide +kernel))
set_option maxRecDepth 20000 in
theorem gX5_carAt_X5_requireStation : GoodIn wsX5_carAt (wsV RX5 107 RX5 yX5_requireStation wsX5_requireStation) := goodIn_app (goodIn_of _ (by decide +kernel)) ggX5_carAt_X5_requireStation
theorem dX5_carAt_0 : decode cX5_carAt 0 = .ok (.aload_n 0, 1) := by decide +kernel
theorem dX5_carAt_1 : decode cX5_carAt 1 = .ok (.iload_n 1, 1) := by decide +kernel
theorem dX5_carAt_2 : decode cX5_carAt 2 = .ok (.invokevirtual 107, 3) := by decide +kernel
theorem dX5_carAt_5 : decode cX5_carAt 5 = .ok (.astore_n 2, 1) := by decide +kernel
theorem dX5_carAt_6 : decode cX5_carAt 6 = .ok (.aload_n 2, 1) := by decide +kernel
theorem dX5_carAt_7 : decode cX5_carAt 7 = .ok (.getfield 154, 3) := by decide +kernel
theorem dX5_carAt_10 : decode cX5_carAt 10 = .ok (.iconst (-1), 1) := by decide +kernel
theorem dX5_carAt_11 : decode cX5_carAt 11 = .ok (.if_icmp .ne 13, 3) := by decide +kernel
theorem dX5_carAt_14 : decode cX5_carAt 14 = .ok (.new 41, 3) := by decide +kernel
theorem dX5_carAt_17 : decode cX5_carAt 17 = .ok (.dup, 1) := by decide +kernel
theorem dX5_carAt_18 : decode cX5_carAt 18 = .ok (.ldc 159, 2) := by decide +kernel
theorem dX5_carAt_20 : decode cX5_carAt 20 = .ok (.invokespecial 45, 3) := by decide +kernel
theorem dX5_carAt_23 : decode cX5_carAt 23 = .ok (.athrow, 1) := by decide +kernel
theorem dX5_carAt_24 : decode cX5_carAt 24 = .ok (.aload_n 2, 1) := by decide +kernel
theorem dX5_carAt_25 : decode cX5_carAt 25 = .ok (.getfield 154, 3) := by decide +kernel
theorem dX5_carAt_28 : decode cX5_carAt 28 = .ok (.ireturn, 1) := by decide +kernel
set_option maxRecDepth 20000 in
theorem ggX5_isBack_X5_requireCar : GoodIn wsX5_isBack wsX5_requireCar := goodIn_ca (goodIn_r _ [5, 6, 7, 8, 9, 10, 11, 12, 13, 14, 15, 27, 28, 29, 30, 31, 32, 33, 34, 35, 36, 37, 38] (by decide +kernel) (by decide +kernel)) (goodIn_sub (fun _ h => List.mem_cons_of_mem _ (List.mem_append_right _ h)) (by decide +kernel))
set_option maxRecDepth 20000 in
theorem gX5_isBack_X5_requireCar : GoodIn wsX5_isBack (wsV RX5 81 RX5 yX5_requireCar wsX5_requireCar) := goodIn_app (goodIn_of _ (by decide +kernel)) ggX5_isBack_X5_requireCar
theorem dX5_isBack_0 : decode cX5_isBack 0 = .ok (.aload_n 0, 1) := by decide +kernel
theorem dX5_isBack_1 : decode cX5_isBack 1 = .ok (.iload_n 1, 1) := by decide +kernel
theorem dX5_isBack_2 : decode cX5_isBack 2 = .ok (.invokevirtual 81, 3) := by decide +kernel
theorem dX5_isBack_5 : decode cX5_isBack 5 = .ok (.getfield 161, 3) := by decide +kernel
theorem dX5_isBack_8 : decode cX5_isBack 8 = .ok (.ireturn, 1) := by decide +kernel
theorem dX5_waiting_0 : decode cX5_waiting 0 = .ok (.aload_n 0, 1) := by decide +kernel
theorem dX5_waiting_1 : decode cX5_waiting 1 = .ok (.getfield 12, 3) := by decide +kernel
theorem dX5_waiting_4 : decode cX5_waiting 4 = .ok (.getfield 95, 3) := by decide +kernel
theorem dX5_waiting_7 : decode cX5_waiting 7 = .ok (.getfield 142, 3) := by decide +kernel
theorem dX5_waiting_10 : decode cX5_waiting 10 = .ok (.ireturn, 1) := by decide +kernel
set_option maxRecDepth 20000 in
theorem ggX5_waitingAt_X5_requirePlace : GoodIn wsX5_waitingAt wsX5_requirePlace := goodIn_ca (goodIn_ca (goodIn_r _ [5, 6, 7, 8, 9, 10, 11, 12, 13, 14, 15, 16, 17, 18, 19, 32, 33] (by decide +kernel) (by decide +kernel)) (goodIn_sub (fun _ h => List.mem_cons_of_mem _ (List.mem_append_left _ (List.mem_append_right _ h))) (by decide +kernel))) (goodIn_sub (fun _ h => List.mem_cons_of_mem _ (List.mem_append_right _ h)) (by decide +kernel))
set_option maxRecDepth 20000 in
theorem gX5_waitingAt_X5_requirePlace : GoodIn wsX5_waitingAt (va_wsS RX5 165 yX5_requirePlace wsX5_requirePlace) := goodIn_app (goodIn_of _ (by decide +kernel)) ggX5_waitingAt_X5_requirePlace
theorem dX5_waitingAt_0 : decode cX5_waitingAt 0 = .ok (.aload_n 0, 1) := by decide +kernel
theorem dX5_waitingAt_1 : decode cX5_waitingAt 1 = .ok (.getfield 12, 3) := by decide +kernel
theorem dX5_waitingAt_4 : decode cX5_waitingAt 4 = .ok (.getfield 95, 3) := by decide +kernel
theorem dX5_waitingAt_7 : decode cX5_waitingAt 7 = .ok (.iload_n 1, 1) := by decide +kernel
theorem dX5_waitingAt_8 : decode cX5_waitingAt 8 = .ok (.invokestatic 165, 3) := by decide +kernel
theorem dX5_waitingAt_11 : decode cX5_waitingAt 11 = .ok (.ireturn, 1) := by decide +kernel
theorem dX5_looped_0 : decode cX5_looped 0 = .ok (.aload_n 0, 1) := by decide +kernel
theorem dX5_looped_1 : decode cX5_looped 1 = .ok (.getfield 12, 3) := by decide +kernel
theorem dX5_looped_4 : decode cX5_looped 4 = .ok (.getfield 169, 3) := by decide +kernel
theorem dX5_looped_7 : decode cX5_looped 7 = .ok (.getfield 142, 3) := by decide +kernel
theorem dX5_looped_10 : decode cX5_looped 10 = .ok (.ireturn, 1) := by decide +kernel
set_option maxRecDepth 20000 in
theorem ggX5_loopedAt_X5_requirePlace : GoodIn wsX5_loopedAt wsX5_requirePlace := goodIn_ca (goodIn_ca (goodIn_r _ [5, 6, 7, 8, 9, 10, 11, 12, 13, 14, 15, 16, 17, 18, 19, 32, 33] (by decide +kernel) (by decide +kernel)) (goodIn_sub (fun _ h => List.mem_cons_of_mem _ (List.mem_append_left _ (List.mem_append_right _ h))) (by decide +kernel))) (goodIn_sub (fun _ h => List.mem_cons_of_mem _ (List.mem_append_right _ h)) (by decide +kernel))
set_option maxRecDepth 20000 in
theorem gX5_loopedAt_X5_requirePlace : GoodIn wsX5_loopedAt (va_wsS RX5 165 yX5_requirePlace wsX5_requirePlace) := goodIn_app (goodIn_of _ (by decide +kernel)) ggX5_loopedAt_X5_requirePlace
theorem dX5_loopedAt_0 : decode cX5_loopedAt 0 = .ok (.aload_n 0, 1) := by decide +kernel
theorem dX5_loopedAt_1 : decode cX5_loopedAt 1 = .ok (.getfield 12, 3) := by decide +kernel
theorem dX5_loopedAt_4 : decode cX5_loopedAt 4 = .ok (.getfield 169, 3) := by decide +kernel
theorem dX5_loopedAt_7 : decode cX5_loopedAt 7 = .ok (.iload_n 1, 1) := by decide +kernel
theorem dX5_loopedAt_8 : decode cX5_loopedAt 8 = .ok (.invokestatic 165, 3) := by decide +kernel
theorem dX5_loopedAt_11 : decode cX5_loopedAt 11 = .ok (.ireturn, 1) := by decide +kernel
theorem dX5_left_0 : decode cX5_left 0 = .ok (.aload_n 0, 1) := by decide +kernel
theorem dX5_left_1 : decode cX5_left 1 = .ok (.getfield 12, 3) := by decide +kernel
theorem dX5_left_4 : decode cX5_left 4 = .ok (.getfield 139, 3) := by decide +kernel
theorem dX5_left_7 : decode cX5_left 7 = .ok (.getfield 142, 3) := by decide +kernel
theorem dX5_left_10 : decode cX5_left 10 = .ok (.ireturn, 1) := by decide +kernel
set_option maxRecDepth 20000 in
theorem ggX5_leftAt_X5_requirePlace : GoodIn wsX5_leftAt wsX5_requirePlace := goodIn_ca (goodIn_ca (goodIn_r _ [5, 6, 7, 8, 9, 10, 11, 12, 13, 14, 15, 16, 17, 18, 19, 32, 33] (by decide +kernel) (by decide +kernel)) (goodIn_sub (fun _ h => List.mem_cons_of_mem _ (List.mem_append_left _ (List.mem_append_right _ h))) (by decide +kernel))) (goodIn_sub (fun _ h => List.mem_cons_of_mem _ (List.mem_append_right _ h)) (by decide +kernel))
set_option maxRecDepth 20000 in
theorem gX5_leftAt_X5_requirePlace : GoodIn wsX5_leftAt (va_wsS RX5 165 yX5_requirePlace wsX5_requirePlace) := goodIn_app (goodIn_of _ (by decide +kernel)) ggX5_leftAt_X5_requirePlace
theorem dX5_leftAt_0 : decode cX5_leftAt 0 = .ok (.aload_n 0, 1) := by decide +kernel
theorem dX5_leftAt_1 : decode cX5_leftAt 1 = .ok (.getfield 12, 3) := by decide +kernel
theorem dX5_leftAt_4 : decode cX5_leftAt 4 = .ok (.getfield 139, 3) := by decide +kernel
theorem dX5_leftAt_7 : decode cX5_leftAt 7 = .ok (.iload_n 1, 1) := by decide +kernel
theorem dX5_leftAt_8 : decode cX5_leftAt 8 = .ok (.invokestatic 165, 3) := by decide +kernel
theorem dX5_leftAt_11 : decode cX5_leftAt 11 = .ok (.ireturn, 1) := by decide +kernel
set_option maxRecDepth 20000 in
theorem ggX5_leftIn_X5_requireCar : GoodIn wsX5_leftIn wsX5_requireCar := goodIn_ca (goodIn_r _ [7, 8, 9, 10, 11, 12, 13, 14, 15, 16, 17, 29, 30, 31, 32, 33, 34, 35, 36, 37, 38, 39, 40] (by decide +kernel) (by decide +kernel)) (goodIn_sub (fun _ h => List.mem_cons_of_mem _ (List.mem_append_right _ h)) (by decide +kernel))
set_option maxRecDepth 20000 in
theorem gX5_leftIn_X5_requireCar : GoodIn wsX5_leftIn (wsV RX5 81 RX5 yX5_requireCar wsX5_requireCar) := goodIn_app (goodIn_of _ (by decide +kernel)) ggX5_leftIn_X5_requireCar
theorem dX5_leftIn_0 : decode cX5_leftIn 0 = .ok (.aload_n 0, 1) := by decide +kernel
theorem dX5_leftIn_1 : decode cX5_leftIn 1 = .ok (.iload_n 1, 1) := by decide +kernel
theorem dX5_leftIn_2 : decode cX5_leftIn 2 = .ok (.invokevirtual 81, 3) := by decide +kernel
theorem dX5_leftIn_5 : decode cX5_leftIn 5 = .ok (.astore_n 2, 1) := by decide +kernel
theorem dX5_leftIn_6 : decode cX5_leftIn 6 = .ok (.aload_n 2, 1) := by decide +kernel
theorem dX5_leftIn_7 : decode cX5_leftIn 7 = .ok (.getfield 87, 3) := by decide +kernel
theorem dX5_leftIn_10 : decode cX5_leftIn 10 = .ok (.bipush 100, 2) := by decide +kernel
theorem dX5_leftIn_12 : decode cX5_leftIn 12 = .ok (.if_icmp .eq 13, 3) := by decide +kernel
theorem dX5_leftIn_15 : decode cX5_leftIn 15 = .ok (.new 41, 3) := by decide +kernel
theorem dX5_leftIn_18 : decode cX5_leftIn 18 = .ok (.dup, 1) := by decide +kernel
theorem dX5_leftIn_19 : decode cX5_leftIn 19 = .ok (.ldc 172, 2) := by decide +kernel
theorem dX5_leftIn_21 : decode cX5_leftIn 21 = .ok (.invokespecial 45, 3) := by decide +kernel
theorem dX5_leftIn_24 : decode cX5_leftIn 24 = .ok (.athrow, 1) := by decide +kernel
theorem dX5_leftIn_25 : decode cX5_leftIn 25 = .ok (.aload_n 2, 1) := by decide +kernel
theorem dX5_leftIn_26 : decode cX5_leftIn 26 = .ok (.getfield 174, 3) := by decide +kernel
theorem dX5_leftIn_29 : decode cX5_leftIn 29 = .ok (.ireturn, 1) := by decide +kernel
set_option maxRecDepth 20000 in
theorem ggX5_faults_X5_requireCar : GoodIn wsX5_faults wsX5_requireCar := goodIn_ca (goodIn_r _ [5, 6, 7, 8, 9, 10, 11, 12, 13, 14, 15, 29, 30, 31, 32, 33, 34, 35, 36, 37, 38, 39, 40] (by decide +kernel) (by decide +kernel)) (goodIn_sub (fun _ h => List.mem_cons_of_mem _ (List.mem_append_right _ h)) (by decide +kernel))
set_option maxRecDepth 20000 in
theorem gX5_faults_X5_requireCar : GoodIn wsX5_faults (wsV RX5 81 RX5 yX5_requireCar wsX5_requireCar) := goodIn_app (goodIn_of _ (by decide +kernel)) ggX5_faults_X5_requireCar
set_option maxRecDepth 20000 in
theorem ggX5_faults_X0_faultCount : GoodIn wsX5_faults wsX0_faultCount := goodIn_r _ [20, 21, 22, 23, 24, 25, 26, 27, 28, 41, 42, 43, 44, 45, 46, 47, 48, 49, 50, 51] (by decide +kernel) (by decide +kernel)
set_option maxRecDepth 20000 in
theorem gX5_faults_X0_faultCount : GoodIn wsX5_faults (wsV RX5 131 RX0 yX0_faultCount wsX0_faultCount) := goodIn_app (goodIn_of _ (by decide +kernel)) ggX5_faults_X0_faultCount
theorem dX5_faults_0 : decode cX5_faults 0 = .ok (.aload_n 0, 1) := by decide +kernel
theorem dX5_faults_1 : decode cX5_faults 1 = .ok (.iload_n 1, 1) := by decide +kernel
theorem dX5_faults_2 : decode cX5_faults 2 = .ok (.invokevirtual 81, 3) := by decide +kernel
theorem dX5_faults_5 : decode cX5_faults 5 = .ok (.invokevirtual 131, 3) := by decide +kernel
theorem dX5_faults_8 : decode cX5_faults 8 = .ok (.ireturn, 1) := by decide +kernel
set_option maxRecDepth 20000 in
theorem ggX5_hasFault_X5_requireCar : GoodIn wsX5_hasFault wsX5_requireCar := goodIn_ca (goodIn_r _ [5, 6, 7, 8, 9, 10, 11, 12, 13, 14, 15, 32, 33, 34, 35, 36, 37, 38, 39, 40, 41, 42, 43] (by decide +kernel) (by decide +kernel)) (goodIn_sub (fun _ h => List.mem_cons_of_mem _ (List.mem_append_right _ h)) (by decide +kernel))
set_option maxRecDepth 20000 in
theorem gX5_hasFault_X5_requireCar : GoodIn wsX5_hasFault (wsV RX5 81 RX5 yX5_requireCar wsX5_requireCar) := goodIn_app (goodIn_of _ (by decide +kernel)) ggX5_hasFault_X5_requireCar
set_option maxRecDepth 20000 in
theorem ggX5_hasFault_X5_requireStation : GoodIn wsX5_hasFault wsX5_requireStation := goodIn_ca (goodIn_r _ [19, 6, 7, 8, 20, 21, 22, 12, 23, 24, 25, 32, 33, 34, 35, 36, 37, 38, 39, 40, 41, 42, 43] (by decide +kernel) (by decide +kernel)) (goodIn_sub (fun _ h => List.mem_cons_of_mem _ (List.mem_append_right _ h)) (by decide +kernel))
set_option maxRecDepth 20000 in
theorem gX5_hasFault_X5_requireStation : GoodIn wsX5_hasFault (wsV RX5 107 RX5 yX5_requireStation wsX5_requireStation) := goodIn_app (goodIn_of _ (by decide +kernel)) ggX5_hasFault_X5_requireStation
set_option maxRecDepth 20000 in
theorem ggX5_hasFault_X0_isFaulty : GoodIn wsX5_hasFault wsX0_isFaulty := goodIn_r _ [30, 31, 44, 45, 46, 47, 48, 49, 50, 51, 52, 53, 54] (by decide +kernel) (by decide +kernel)
set_option maxRecDepth 20000 in
theorem gX5_hasFault_X0_isFaulty : GoodIn wsX5_hasFault (wsV RX5 120 RX0 yX0_isFaulty wsX0_isFaulty) := goodIn_app (goodIn_of _ (by decide +kernel)) ggX5_hasFault_X0_isFaulty
theorem dX5_hasFault_0 : decode cX5_hasFault 0 = .ok (.aload_n 0, 1) := by decide +kernel
theorem dX5_hasFault_1 : decode cX5_hasFault 1 = .ok (.iload_n 1, 1) := by decide +kernel
theorem dX5_hasFault_2 : decode cX5_hasFault 2 = .ok (.invokevirtual 81, 3) := by decide +kernel
theorem dX5_hasFault_5 : decode cX5_hasFault 5 = .ok (.astore_n 3, 1) := by decide +kernel
theorem dX5_hasFault_6 : decode cX5_hasFault 6 = .ok (.aload_n 0, 1) := by decide +kernel
theorem dX5_hasFault_7 : decode cX5_hasFault 7 = .ok (.iload_n 2, 1) := by decide +kernel
theorem dX5_hasFault_8 : decode cX5_hasFault 8 = .ok (.invokevirtual 107, 3) := by decide +kernel
theorem dX5_hasFault_11 : decode cX5_hasFault 11 = .ok (.pop, 1) := by decide +kernel
theorem dX5_hasFault_12 : decode cX5_hasFault 12 = .ok (.aload_n 3, 1) := by decide +kernel
theorem dX5_hasFault_13 : decode cX5_hasFault 13 = .ok (.iload_n 2, 1) := by decide +kernel
theorem dX5_hasFault_14 : decode cX5_hasFault 14 = .ok (.invokevirtual 120, 3) := by decide +kernel
theorem dX5_hasFault_17 : decode cX5_hasFault 17 = .ok (.ireturn, 1) := by decide +kernel
set_option maxRecDepth 20000 in
theorem ggX5_lacks_X5_requireStation : GoodIn wsX5_lacks wsX5_requireStation := goodIn_ca (goodIn_r _ [5, 6, 7, 8, 9, 10, 11, 12, 13, 14, 15, 24, 25, 26, 27, 28, 29, 30, 31, 32, 33, 34, 35] (by decide +kernel) (by decide +kernel)) (goodIn_sub (fun _ h => List.mem_cons_of_mem _ (List.mem_append_right _ h)) (by decide +kernel))
set_option maxRecDepth 20000 in
theorem gX5_lacks_X5_requireStation : GoodIn wsX5_lacks (wsV RX5 107 RX5 yX5_requireStation wsX5_requireStation) := goodIn_app (goodIn_of _ (by decide +kernel)) ggX5_lacks_X5_requireStation
theorem dX5_lacks_0 : decode cX5_lacks 0 = .ok (.aload_n 0, 1) := by decide +kernel
theorem dX5_lacks_1 : decode cX5_lacks 1 = .ok (.iload_n 1, 1) := by decide +kernel
theorem dX5_lacks_2 : decode cX5_lacks 2 = .ok (.invokevirtual 107, 3) := by decide +kernel
theorem dX5_lacks_5 : decode cX5_lacks 5 = .ok (.getfield 177, 3) := by decide +kernel
theorem dX5_lacks_8 : decode cX5_lacks 8 = .ok (.ireturn, 1) := by decide +kernel
set_option maxRecDepth 20000 in
theorem ggX5_lacksOf_X5_requirePart : GoodIn wsX5_lacksOf wsX5_requirePart := goodIn_ca (goodIn_r _ [5, 6, 7, 8, 9, 4, 10] (by decide +kernel) (by decide +kernel)) (goodIn_sub (fun _ h => List.mem_cons_of_mem _ (List.mem_append_right _ h)) (by decide +kernel))
set_option maxRecDepth 20000 in
theorem gX5_lacksOf_X5_requirePart : GoodIn wsX5_lacksOf (va_wsS RX5 50 yX5_requirePart wsX5_requirePart) := goodIn_app (goodIn_of _ (by decide +kernel)) ggX5_lacksOf_X5_requirePart
set_option maxRecDepth 20000 in
theorem ggX5_lacksOf_X1_findStation : GoodIn wsX5_lacksOf wsX1_findStation := goodIn_r _ [15, 16, 17, 28, 29, 30, 31, 32, 33, 34, 35, 36, 37] (by decide +kernel) (by decide +kernel)
set_option maxRecDepth 20000 in
theorem gX5_lacksOf_X1_findStation : GoodIn wsX5_lacksOf (wsV RX5 180 RX1 yX1_findStation wsX1_findStation) := goodIn_app (goodIn_of _ (by decide +kernel)) ggX5_lacksOf_X1_findStation
theorem dX5_lacksOf_0 : decode cX5_lacksOf 0 = .ok (.iload_n 1, 1) := by decide +kernel
theorem dX5_lacksOf_1 : decode cX5_lacksOf 1 = .ok (.invokestatic 50, 3) := by decide +kernel
theorem dX5_lacksOf_4 : decode cX5_lacksOf 4 = .ok (.iconst 0, 1) := by decide +kernel
theorem dX5_lacksOf_5 : decode cX5_lacksOf 5 = .ok (.istore_n 2, 1) := by decide +kernel
theorem dX5_lacksOf_6 : decode cX5_lacksOf 6 = .ok (.iconst 0, 1) := by decide +kernel
theorem dX5_lacksOf_7 : decode cX5_lacksOf 7 = .ok (.istore_n 3, 1) := by decide +kernel
theorem dX5_lacksOf_8 : decode cX5_lacksOf 8 = .ok (.iload_n 3, 1) := by decide +kernel
theorem dX5_lacksOf_9 : decode cX5_lacksOf 9 = .ok (.bipush 8, 2) := by decide +kernel
theorem dX5_lacksOf_11 : decode cX5_lacksOf 11 = .ok (.if_icmp .ge 41, 3) := by decide +kernel
theorem dX5_lacksOf_14 : decode cX5_lacksOf 14 = .ok (.aload_n 0, 1) := by decide +kernel
theorem dX5_lacksOf_15 : decode cX5_lacksOf 15 = .ok (.getfield 12, 3) := by decide +kernel
theorem dX5_lacksOf_18 : decode cX5_lacksOf 18 = .ok (.iload_n 3, 1) := by decide +kernel
theorem dX5_lacksOf_19 : decode cX5_lacksOf 19 = .ok (.invokevirtual 180, 3) := by decide +kernel
theorem dX5_lacksOf_22 : decode cX5_lacksOf 22 = .ok (.astore 4, 2) := by decide +kernel
theorem dX5_lacksOf_24 : decode cX5_lacksOf 24 = .ok (.aload 4, 2) := by decide +kernel
theorem dX5_lacksOf_26 : decode cX5_lacksOf 26 = .ok (.ifnull 20, 3) := by decide +kernel
theorem dX5_lacksOf_29 : decode cX5_lacksOf 29 = .ok (.aload 4, 2) := by decide +kernel
theorem dX5_lacksOf_31 : decode cX5_lacksOf 31 = .ok (.getfield 183, 3) := by decide +kernel
theorem dX5_lacksOf_34 : decode cX5_lacksOf 34 = .ok (.iload_n 1, 1) := by decide +kernel
theorem dX5_lacksOf_35 : decode cX5_lacksOf 35 = .ok (.if_icmp .ne 11, 3) := by decide +kernel
theorem dX5_lacksOf_38 : decode cX5_lacksOf 38 = .ok (.iload_n 2, 1) := by decide +kernel
theorem dX5_lacksOf_39 : decode cX5_lacksOf 39 = .ok (.aload 4, 2) := by decide +kernel
theorem dX5_lacksOf_41 : decode cX5_lacksOf 41 = .ok (.getfield 177, 3) := by decide +kernel
theorem dX5_lacksOf_44 : decode cX5_lacksOf 44 = .ok (.iadd, 1) := by decide +kernel
theorem dX5_lacksOf_45 : decode cX5_lacksOf 45 = .ok (.istore_n 2, 1) := by decide +kernel
theorem dX5_lacksOf_46 : decode cX5_lacksOf 46 = .ok (.iinc 3 1, 3) := by decide +kernel
theorem dX5_lacksOf_49 : decode cX5_lacksOf 49 = .ok (.goto (-41), 3) := by decide +kernel
theorem dX5_lacksOf_52 : decode cX5_lacksOf 52 = .ok (.iload_n 2, 1) := by decide +kernel
theorem dX5_lacksOf_53 : decode cX5_lacksOf 53 = .ok (.ireturn, 1) := by decide +kernel
set_option maxRecDepth 20000 in
theorem ggX5_onShelf_X5_requireStation : GoodIn wsX5_onShelf wsX5_requireStation := goodIn_ca (goodIn_r _ [5, 6, 7, 8, 9, 10, 11, 12, 13, 14, 15, 24, 25, 26, 27, 28, 29, 30, 31, 32, 33, 34, 35] (by decide +kernel) (by decide +kernel)) (goodIn_sub (fun _ h => List.mem_cons_of_mem _ (List.mem_append_right _ h)) (by decide +kernel))
set_option maxRecDepth 20000 in
theorem gX5_onShelf_X5_requireStation : GoodIn wsX5_onShelf (wsV RX5 107 RX5 yX5_requireStation wsX5_requireStation) := goodIn_app (goodIn_of _ (by decide +kernel)) ggX5_onShelf_X5_requireStation
theorem dX5_onShelf_0 : decode cX5_onShelf 0 = .ok (.aload_n 0, 1) := by decide +kernel
theorem dX5_onShelf_1 : decode cX5_onShelf 1 = .ok (.iload_n 1, 1) := by decide +kernel
theorem dX5_onShelf_2 : decode cX5_onShelf 2 = .ok (.invokevirtual 107, 3) := by decide +kernel
theorem dX5_onShelf_5 : decode cX5_onShelf 5 = .ok (.getfield 186, 3) := by decide +kernel
theorem dX5_onShelf_8 : decode cX5_onShelf 8 = .ok (.ireturn, 1) := by decide +kernel
set_option maxRecDepth 20000 in
theorem ggX5_inStore_X5_requirePart : GoodIn wsX5_inStore wsX5_requirePart := goodIn_ca (goodIn_r _ [5, 6, 7, 8, 9, 4, 10] (by decide +kernel) (by decide +kernel)) (goodIn_sub (fun _ h => List.mem_cons_of_mem _ (List.mem_append_left _ (List.mem_append_right _ h))) (by decide +kernel))
set_option maxRecDepth 20000 in
theorem gX5_inStore_X5_requirePart : GoodIn wsX5_inStore (va_wsS RX5 50 yX5_requirePart wsX5_requirePart) := goodIn_app (goodIn_of _ (by decide +kernel)) ggX5_inStore_X5_requirePart
set_option maxRecDepth 20000 in
theorem ggX5_inStore_X1_unitsOf : GoodIn wsX5_inStore wsX1_unitsOf := goodIn_ca (goodIn_r _ [15, 16, 19, 20, 21, 22, 23, 24, 25, 26, 27, 28] (by decide +kernel) (by decide +kernel)) (goodIn_sub (fun _ h => List.mem_cons_of_mem _ (List.mem_append_right _ h)) (by decide +kernel))
set_option maxRecDepth 20000 in
theorem gX5_inStore_X1_unitsOf : GoodIn wsX5_inStore (wsV RX5 56 RX1 yX1_unitsOf wsX1_unitsOf) := goodIn_app (goodIn_of _ (by decide +kernel)) ggX5_inStore_X1_unitsOf
theorem dX5_inStore_0 : decode cX5_inStore 0 = .ok (.iload_n 1, 1) := by decide +kernel
theorem dX5_inStore_1 : decode cX5_inStore 1 = .ok (.invokestatic 50, 3) := by decide +kernel
theorem dX5_inStore_4 : decode cX5_inStore 4 = .ok (.aload_n 0, 1) := by decide +kernel
theorem dX5_inStore_5 : decode cX5_inStore 5 = .ok (.getfield 12, 3) := by decide +kernel
theorem dX5_inStore_8 : decode cX5_inStore 8 = .ok (.iload_n 1, 1) := by decide +kernel
theorem dX5_inStore_9 : decode cX5_inStore 9 = .ok (.invokevirtual 56, 3) := by decide +kernel
theorem dX5_inStore_12 : decode cX5_inStore 12 = .ok (.ireturn, 1) := by decide +kernel
set_option maxRecDepth 20000 in
theorem ggX5_nextRound_X1_ticksToRound : GoodIn wsX5_nextRound wsX1_ticksToRound := goodIn_ca (goodIn_r _ [6, 7, 8, 11, 12, 13, 14, 15, 16, 17, 18, 19, 20] (by decide +kernel) (by decide +kernel)) (goodIn_sub (fun _ h => List.mem_cons_of_mem _ (List.mem_append_right _ h)) (by decide +kernel))
set_option maxRecDepth 20000 in
theorem gX5_nextRound_X1_ticksToRound : GoodIn wsX5_nextRound (wsV RX5 189 RX1 yX1_ticksToRound wsX1_ticksToRound) := goodIn_app (goodIn_of _ (by decide +kernel)) ggX5_nextRound_X1_ticksToRound
theorem dX5_nextRound_0 : decode cX5_nextRound 0 = .ok (.aload_n 0, 1) := by decide +kernel
theorem dX5_nextRound_1 : decode cX5_nextRound 1 = .ok (.getfield 12, 3) := by decide +kernel
theorem dX5_nextRound_4 : decode cX5_nextRound 4 = .ok (.invokevirtual 189, 3) := by decide +kernel
theorem dX5_nextRound_7 : decode cX5_nextRound 7 = .ok (.ireturn, 1) := by decide +kernel
set_option maxRecDepth 20000 in
theorem ggX5_leavesIn_X5_requireNotGone : GoodIn wsX5_leavesIn wsX5_requireNotGone := goodIn_ca (goodIn_ca (goodIn_r _ [9, 10, 11, 12, 13, 14, 8, 15, 16, 17, 4, 18, 19, 20, 21, 22, 23, 24, 334, 335, 336, 337, 338, 339, 340, 341, 342, 343, 344, 332, 333, 345, 346, 347, 348, 349, 350, 351, 352, 353, 354] (by decide +kernel) (by decide +kernel)) (goodIn_sub (fun _ h => List.mem_cons_of_mem _ (List.mem_append_left _ (List.mem_append_left _ (List.mem_append_left _ (List.mem_append_right _ h))))) (by decide +kernel))) (goodIn_sub (fun _ h => List.mem_cons_of_mem _ (List.mem_append_left _ (List.mem_append_left _ (List.mem_append_right _ h)))) (by decide +kernel))
set_option maxRecDepth 20000 in
theorem gX5_leavesIn_X5_requireNotGone : GoodIn wsX5_leavesIn (wsV RX5 192 RX5 yX5_requireNotGone wsX5_requireNotGone) := goodIn_app (goodIn_of _ (by decide +kernel)) ggX5_leavesIn_X5_requireNotGone
set_option maxRecDepth 20000 in
theorem ggX5_leavesIn_X1_copyFrom : GoodIn wsX5_leavesIn wsX1_copyFrom := goodIn_ca (goodIn_r _ [28, 29, 23, 30, 31, 32, 33, 34, 35, 36, 37, 38, 21, 39, 40, 41, 42, 43, 44, 45, 46, 47, 48, 49, 50, 51, 52, 53, 54, 55, 56, 57, 58, 59, 60, 61, 62, 63, 64, 65, 19, 20, 22, 24, 66, 67, 68, 69, 70, 71, 72, 73, 74, 75, 76, 77, 78, 79, 80, 81, 82, 83, 84, 85, 86, 87, 88, 89, 90, 91, 92, 93, 94, 95, 96, 97, 345, 346, 347, 348, 349, 350, 351, 352, 353, 354, 355, 356, 357, 358, 359, 360, 361, 362, 334, 335, 336, 337, 338, 339, 340, 341, 342, 343, 344, 363, 364] (by decide +kernel) (by decide +kernel)) (goodIn_sub (fun _ h => List.mem_cons_of_mem _ (List.mem_append_left _ (List.mem_append_right _ h))) (by decide +kernel))
set_option maxRecDepth 20000 in
theorem gX5_leavesIn_X1_copyFrom : GoodIn wsX5_leavesIn (wsV RX5 195 RX1 yX1_copyFrom wsX1_copyFrom) := goodIn_app (goodIn_of _ (by decide +kernel)) ggX5_leavesIn_X1_copyFrom
set_option maxRecDepth 20000 in
theorem ggX5_leavesIn_X1_quietTicks : GoodIn wsX5_leavesIn wsX1_quietTicks := goodIn_ca (goodIn_ca (goodIn_r _ [101, 29, 102, 103, 104, 105, 106, 107, 108, 109, 110, 111, 21, 112, 33, 113, 114, 115, 116, 40, 41, 42, 43, 44, 117, 118, 119, 120, 34, 121, 91, 92, 86, 93, 89, 94, 95, 96, 97, 88, 65, 19, 20, 22, 23, 24, 122, 123, 124, 72, 125, 126, 127, 128, 129, 79, 130, 131, 132, 133, 31, 30, 134, 135, 136, 137, 138, 139, 140, 141, 142, 143, 144, 145, 146, 147, 148, 149, 345, 346, 347, 348, 349, 350, 351, 352, 353, 354, 363, 364, 355, 356, 357, 358, 359, 360, 361, 362, 334, 335, 336, 337, 338, 339, 340, 341, 342, 343, 344] (by decide +kernel) (by decide +kernel)) (goodIn_sub (fun _ h => List.mem_cons_of_mem _ (List.mem_append_left _ (List.mem_append_right _ h))) (by decide +kernel))) (goodIn_sub (fun _ h => List.mem_cons_of_mem _ (List.mem_append_right _ h)) (by decide +kernel))
set_option maxRecDepth 20000 in
theorem gX5_leavesIn_X1_quietTicks : GoodIn wsX5_leavesIn (wsV RX5 199 RX1 yX1_quietTicks wsX1_quietTicks) := goodIn_app (goodIn_of _ (by decide +kernel)) ggX5_leavesIn_X1_quietTicks
set_option maxRecDepth 20000 in
theorem ggX5_leavesIn_X1_passQuietTicks : GoodIn wsX5_leavesIn wsX1_passQuietTicks := goodIn_r _ [153, 30, 154, 155, 156, 21, 157, 29, 106, 107, 104, 108, 138, 139, 140, 141, 40, 41, 42, 43, 44, 65, 19, 20, 22, 23, 24, 345, 346, 347, 348, 349, 350, 351, 352, 353, 354, 334, 335, 336, 337, 338, 339, 340, 341, 342, 343, 344, 355, 356, 357, 358, 359, 360, 361, 362] (by decide +kernel) (by decide +kernel)
set_option maxRecDepth 20000 in
theorem gX5_leavesIn_X1_passQuietTicks : GoodIn wsX5_leavesIn (wsV RX5 202 RX1 yX1_passQuietTicks wsX1_passQuietTicks) := goodIn_app (goodIn_of _ (by decide +kernel)) ggX5_leavesIn_X1_passQuietTicks
set_option maxRecDepth 20000 in
theorem ggX5_leavesIn_X1_passTick : GoodIn wsX5_leavesIn wsX1_passTick := goodIn_ca (goodIn_ca (goodIn_r _ [161, 30, 29, 130, 131, 132, 21, 133, 31, 162, 163, 164, 165, 102, 103, 104, 105, 40, 41, 42, 43, 44, 36, 37, 38, 39, 32, 166, 167, 168, 169, 154, 155, 156, 157, 106, 107, 108, 138, 139, 140, 141, 65, 19, 20, 22, 23, 24, 170, 171, 172, 173, 142, 143, 144, 145, 146, 147, 148, 149, 113, 114, 115, 116, 174, 175, 176, 177, 178, 179, 180, 51, 181, 54, 57, 55, 59, 60, 182, 183, 184, 72, 185, 74, 186, 187, 188, 189, 75, 76, 77, 78, 80, 190, 191, 192, 193, 79, 194, 195, 196, 197, 198, 199, 200, 201, 202, 203, 204, 205, 206, 207, 208, 209, 210, 211, 212, 213, 214, 215, 216, 217, 218, 219, 220, 221, 222, 223, 224, 225, 226, 227, 228, 229, 230, 231, 232, 233, 234, 235, 236, 237, 238, 239, 240, 241, 242, 243, 244, 245, 246, 247, 248, 249, 250, 251, 252, 253, 254, 255, 256, 257, 258, 259, 260, 261, 262, 263, 264, 265, 266, 267, 268, 269, 270, 271, 272, 273, 274, 275, 276, 277, 278, 279, 280, 281, 282, 283, 284, 285, 286, 287, 288, 289, 290, 291, 292, 293, 294, 295, 296, 297, 298, 299, 300, 301, 302, 303, 35, 304, 305, 306, 307, 308, 309, 310, 86, 311, 88, 89, 312, 313, 314, 315, 34, 316, 317, 318, 319, 121, 91, 92, 93, 94, 95, 96, 97, 122, 123, 124, 125, 126, 127, 128, 129, 320, 321, 322, 323, 324, 325, 326, 327, 33, 345, 346, 347, 348, 349, 350, 351, 352, 353, 354, 355, 356, 357, 358, 359, 360, 361, 362, 334, 335, 336, 337, 338, 339, 340, 341, 342, 343, 344, 365, 366, 367, 368, 369, 363, 364] (by decide +kernel) (by decide +kernel)) (goodIn_sub (fun _ h => List.mem_cons_of_mem _ (List.mem_append_right _ h)) (by decide +kernel))) (goodIn_sub (fun _ h => List.mem_cons_of_mem _ (List.mem_append_left _ (List.mem_append_right _ h))) (by decide +kernel))
set_option maxRecDepth 20000 in
theorem gX5_leavesIn_X1_passTick : GoodIn wsX5_leavesIn (wsV RX5 145 RX1 yX1_passTick wsX1_passTick) := goodIn_app (goodIn_of _ (by decide +kernel)) ggX5_leavesIn_X1_passTick
set_option maxRecDepth 20000 in
theorem ggX5_leavesIn_X1_hasGone : GoodIn wsX5_leavesIn wsX1_hasGone := goodIn_r _ [331, 65, 19, 20, 21, 22, 23, 24, 334, 335, 336, 337, 338, 339, 340, 341, 342, 343, 344, 345, 346, 347, 348, 349, 350, 351, 352, 353, 354] (by decide +kernel) (by decide +kernel)
set_option maxRecDepth 20000 in
theorem gX5_leavesIn_X1_hasGone : GoodIn wsX5_leavesIn (wsV RX5 205 RX1 yX1_hasGone wsX1_hasGone) := goodIn_app (goodIn_of _ (by decide +kernel)) ggX5_leavesIn_X1_hasGone
theorem dX5_leavesIn_0 : decode cX5_leavesIn 0 = .ok (.aload_n 0, 1) := by decide +kernel
theorem dX5_leavesIn_1 : decode cX5_leavesIn 1 = .ok (.iload_n 1, 1) := by decide +kernel
theorem dX5_leavesIn_2 : decode cX5_leavesIn 2 = .ok (.invokevirtual 192, 3) := by decide +kernel
theorem dX5_leavesIn_5 : decode cX5_leavesIn 5 = .ok (.aload_n 0, 1) := by decide +kernel
theorem dX5_leavesIn_6 : decode cX5_leavesIn 6 = .ok (.getfield 18, 3) := by decide +kernel
theorem dX5_leavesIn_9 : decode cX5_leavesIn 9 = .ok (.aload_n 0, 1) := by decide +kernel
theorem dX5_leavesIn_10 : decode cX5_leavesIn 10 = .ok (.getfield 12, 3) := by decide +kernel
theorem dX5_leavesIn_13 : decode cX5_leavesIn 13 = .ok (.invokevirtual 195, 3) := by decide +kernel
theorem dX5_leavesIn_16 : decode cX5_leavesIn 16 = .ok (.iconst 0, 1) := by decide +kernel
theorem dX5_leavesIn_17 : decode cX5_leavesIn 17 = .ok (.istore_n 2, 1) := by decide +kernel
theorem dX5_leavesIn_18 : decode cX5_leavesIn 18 = .ok (.iconst 0, 1) := by decide +kernel
theorem dX5_leavesIn_19 : decode cX5_leavesIn 19 = .ok (.istore_n 3, 1) := by decide +kernel
theorem dX5_leavesIn_20 : decode cX5_leavesIn 20 = .ok (.iload_n 3, 1) := by decide +kernel
theorem dX5_leavesIn_21 : decode cX5_leavesIn 21 = .ok (.sipush 300, 3) := by decide +kernel
theorem dX5_leavesIn_24 : decode cX5_leavesIn 24 = .ok (.if_icmp .ge 67, 3) := by decide +kernel
theorem dX5_leavesIn_27 : decode cX5_leavesIn 27 = .ok (.aload_n 0, 1) := by decide +kernel
theorem dX5_leavesIn_28 : decode cX5_leavesIn 28 = .ok (.getfield 18, 3) := by decide +kernel
theorem dX5_leavesIn_31 : decode cX5_leavesIn 31 = .ok (.invokevirtual 199, 3) := by decide +kernel
theorem dX5_leavesIn_34 : decode cX5_leavesIn 34 = .ok (.istore 4, 2) := by decide +kernel
theorem dX5_leavesIn_36 : decode cX5_leavesIn 36 = .ok (.iload_n 2, 1) := by decide +kernel
theorem dX5_leavesIn_37 : decode cX5_leavesIn 37 = .ok (.iload 4, 2) := by decide +kernel
theorem dX5_leavesIn_39 : decode cX5_leavesIn 39 = .ok (.iadd, 1) := by decide +kernel
theorem dX5_leavesIn_40 : decode cX5_leavesIn 40 = .ok (.sipush 300, 3) := by decide +kernel
theorem dX5_leavesIn_43 : decode cX5_leavesIn 43 = .ok (.if_icmp .lt 6, 3) := by decide +kernel
theorem dX5_leavesIn_46 : decode cX5_leavesIn 46 = .ok (.goto 45, 3) := by decide +kernel
theorem dX5_leavesIn_49 : decode cX5_leavesIn 49 = .ok (.aload_n 0, 1) := by decide +kernel
theorem dX5_leavesIn_50 : decode cX5_leavesIn 50 = .ok (.getfield 18, 3) := by decide +kernel
theorem dX5_leavesIn_53 : decode cX5_leavesIn 53 = .ok (.iload 4, 2) := by decide +kernel
theorem dX5_leavesIn_55 : decode cX5_leavesIn 55 = .ok (.invokevirtual 202, 3) := by decide +kernel
theorem dX5_leavesIn_58 : decode cX5_leavesIn 58 = .ok (.aload_n 0, 1) := by decide +kernel
theorem dX5_leavesIn_59 : decode cX5_leavesIn 59 = .ok (.getfield 18, 3) := by decide +kernel
theorem dX5_leavesIn_62 : decode cX5_leavesIn 62 = .ok (.invokevirtual 145, 3) := by decide +kernel
theorem dX5_leavesIn_65 : decode cX5_leavesIn 65 = .ok (.iload_n 2, 1) := by decide +kernel
theorem dX5_leavesIn_66 : decode cX5_leavesIn 66 = .ok (.iload 4, 2) := by decide +kernel
theorem dX5_leavesIn_68 : decode cX5_leavesIn 68 = .ok (.iconst 1, 1) := by decide +kernel
theorem dX5_leavesIn_69 : decode cX5_leavesIn 69 = .ok (.iadd, 1) := by decide +kernel
theorem dX5_leavesIn_70 : decode cX5_leavesIn 70 = .ok (.iadd, 1) := by decide +kernel
theorem dX5_leavesIn_71 : decode cX5_leavesIn 71 = .ok (.istore_n 2, 1) := by decide +kernel
theorem dX5_leavesIn_72 : decode cX5_leavesIn 72 = .ok (.aload_n 0, 1) := by decide +kernel
theorem dX5_leavesIn_73 : decode cX5_leavesIn 73 = .ok (.getfield 18, 3) := by decide +kernel
theorem dX5_leavesIn_76 : decode cX5_leavesIn 76 = .ok (.iload_n 1, 1) := by decide +kernel
theorem dX5_leavesIn_77 : decode cX5_leavesIn 77 = .ok (.invokevirtual 205, 3) := by decide +kernel
theorem dX5_leavesIn_80 : decode cX5_leavesIn 80 = .ok (.ifCond .eq 5, 3) := by decide +kernel
theorem dX5_leavesIn_83 : decode cX5_leavesIn 83 = .ok (.iload_n 2, 1) := by decide +kernel
theorem dX5_leavesIn_84 : decode cX5_leavesIn 84 = .ok (.ireturn, 1) := by decide +kernel
theorem dX5_leavesIn_85 : decode cX5_leavesIn 85 = .ok (.iinc 3 1, 3) := by decide +kernel
theorem dX5_leavesIn_88 : decode cX5_leavesIn 88 = .ok (.goto (-68), 3) := by decide +kernel
theorem dX5_leavesIn_91 : decode cX5_leavesIn 91 = .ok (.new 123, 3) := by decide +kernel
theorem dX5_leavesIn_94 : decode cX5_leavesIn 94 = .ok (.dup, 1) := by decide +kernel
theorem dX5_leavesIn_95 : decode cX5_leavesIn 95 = .ok (.ldc 208, 2) := by decide +kernel
theorem dX5_leavesIn_97 : decode cX5_leavesIn 97 = .ok (.invokespecial 127, 3) := by decide +kernel
theorem dX5_leavesIn_100 : decode cX5_leavesIn 100 = .ok (.athrow, 1) := by decide +kernel
set_option maxRecDepth 20000 in
theorem ggX5_leavesByTicks_X5_requireNotGone : GoodIn wsX5_leavesByTicks wsX5_requireNotGone := goodIn_ca (goodIn_ca (goodIn_r _ [9, 10, 11, 12, 13, 14, 8, 15, 16, 17, 4, 18, 19, 20, 21, 22, 23, 24, 314, 315, 316, 317, 318, 319, 320, 321, 322, 323, 324, 312, 313, 325, 326, 327, 328, 329, 330, 331, 332, 333, 334] (by decide +kernel) (by decide +kernel)) (goodIn_sub (fun _ h => List.mem_cons_of_mem _ (List.mem_append_left _ (List.mem_append_left _ (List.mem_append_left _ (List.mem_append_right _ h))))) (by decide +kernel))) (goodIn_sub (fun _ h => List.mem_cons_of_mem _ (List.mem_append_left _ (List.mem_append_left _ (List.mem_append_right _ h)))) (by decide +kernel))
set_option maxRecDepth 20000 in
theorem gX5_leavesByTicks_X5_requireNotGone : GoodIn wsX5_leavesByTicks (wsV RX5 192 RX5 yX5_requireNotGone wsX5_requireNotGone) := goodIn_app (goodIn_of _ (by decide +kernel)) ggX5_leavesByTicks_X5_requireNotGone
set_option maxRecDepth 20000 in
theorem ggX5_leavesByTicks_X1_copyFrom : GoodIn wsX5_leavesByTicks wsX1_copyFrom := goodIn_ca (goodIn_r _ [28, 29, 23, 30, 31, 32, 33, 34, 35, 36, 37, 38, 21, 39, 40, 41, 42, 43, 44, 45, 46, 47, 48, 49, 50, 51, 52, 53, 54, 55, 56, 57, 58, 59, 60, 61, 62, 63, 64, 65, 19, 20, 22, 24, 66, 67, 68, 69, 70, 71, 72, 73, 74, 75, 76, 77, 78, 79, 80, 81, 82, 83, 84, 85, 86, 87, 88, 89, 90, 91, 92, 93, 94, 95, 96, 97, 325, 326, 327, 328, 329, 330, 331, 332, 333, 334, 335, 336, 337, 338, 339, 340, 341, 342, 314, 315, 316, 317, 318, 319, 320, 321, 322, 323, 324, 343, 344] (by decide +kernel) (by decide +kernel)) (goodIn_sub (fun _ h => List.mem_cons_of_mem _ (List.mem_append_left _ (List.mem_append_right _ h))) (by decide +kernel))
set_option maxRecDepth 20000 in
theorem gX5_leavesByTicks_X1_copyFrom : GoodIn wsX5_leavesByTicks (wsV RX5 195 RX1 yX1_copyFrom wsX1_copyFrom) := goodIn_app (goodIn_of _ (by decide +kernel)) ggX5_leavesByTicks_X1_copyFrom
set_option maxRecDepth 20000 in
theorem ggX5_leavesByTicks_X1_passTick : GoodIn wsX5_leavesByTicks wsX1_passTick := goodIn_ca (goodIn_ca (goodIn_r _ [101, 30, 29, 102, 103, 104, 21, 105, 31, 106, 107, 108, 109, 110, 111, 112, 113, 40, 41, 42, 43, 44, 36, 37, 38, 39, 32, 114, 115, 116, 117, 118, 119, 120, 121, 122, 123, 124, 125, 126, 127, 128, 65, 19, 20, 22, 23, 24, 129, 130, 131, 132, 133, 134, 135, 136, 137, 138, 139, 140, 141, 142, 143, 144, 145, 146, 147, 148, 149, 150, 151, 51, 152, 54, 57, 55, 59, 60, 153, 154, 155, 72, 156, 74, 157, 158, 159, 160, 75, 76, 77, 78, 80, 161, 162, 163, 164, 79, 165, 166, 167, 168, 169, 170, 171, 172, 173, 174, 175, 176, 177, 178, 179, 180, 181, 182, 183, 184, 185, 186, 187, 188, 189, 190, 191, 192, 193, 194, 195, 196, 197, 198, 199, 200, 201, 202, 203, 204, 205, 206, 207, 208, 209, 210, 211, 212, 213, 214, 215, 216, 217, 218, 219, 220, 221, 222, 223, 224, 225, 226, 227, 228, 229, 230, 231, 232, 233, 234, 235, 236, 237, 238, 239, 240, 241, 242, 243, 244, 245, 246, 247, 248, 249, 250, 251, 252, 253, 254, 255, 256, 257, 258, 259, 260, 261, 262, 263, 264, 265, 266, 267, 268, 269, 270, 271, 272, 273, 274, 35, 275, 276, 277, 278, 279, 280, 281, 86, 282, 88, 89, 283, 284, 285, 286, 34, 287, 288, 289, 290, 291, 91, 92, 93, 94, 95, 96, 97, 292, 293, 294, 295, 296, 297, 298, 299, 300, 301, 302, 303, 304, 305, 306, 307, 33, 325, 326, 327, 328, 329, 330, 331, 332, 333, 334, 335, 336, 337, 338, 339, 340, 341, 342, 314, 315, 316, 317, 318, 319, 320, 321, 322, 323, 324, 345, 346, 347, 348, 349, 343, 344] (by decide +kernel) (by decide +kernel)) (goodIn_sub (fun _ h => List.mem_cons_of_mem _ (List.mem_append_right _ h)) (by decide +kernel))) (goodIn_sub (fun _ h => List.mem_cons_of_mem _ (List.mem_append_left _ (List.mem_append_right _ h))) (by decide +kernel))
set_option maxRecDepth 20000 in
theorem gX5_leavesByTicks_X1_passTick : GoodIn wsX5_leavesByTicks (wsV RX5 145 RX1 yX1_passTick wsX1_passTick) := goodIn_app (goodIn_of _ (by decide +kernel)) ggX5_leavesByTicks_X1_passTick
set_option maxRecDepth 20000 in
theorem ggX5_leavesByTicks_X1_hasGone : GoodIn wsX5_leavesByTicks wsX1_hasGone := goodIn_r _ [311, 65, 19, 20, 21, 22, 23, 24, 314, 315, 316, 317, 318, 319, 320, 321, 322, 323, 324, 325, 326, 327, 328, 329, 330, 331, 332, 333, 334] (by decide +kernel) (by decide +kernel)
set_option maxRecDepth 20000 in
theorem gX5_leavesByTicks_X1_hasGone : GoodIn wsX5_leavesByTicks (wsV RX5 205 RX1 yX1_hasGone wsX1_hasGone) := goodIn_app (goodIn_of _ (by decide +kernel)) ggX5_leavesByTicks_X1_hasGone
theorem dX5_leavesByTicks_0 : decode cX5_leavesByTicks 0 = .ok (.aload_n 0, 1) := by decide +kernel
theorem dX5_leavesByTicks_1 : decode cX5_leavesByTicks 1 = .ok (.iload_n 1, 1) := by decide +kernel
theorem dX5_leavesByTicks_2 : decode cX5_leavesByTicks 2 = .ok (.invokevirtual 192, 3) := by decide +kernel
theorem dX5_leavesByTicks_5 : decode cX5_leavesByTicks 5 = .ok (.aload_n 0, 1) := by decide +kernel
theorem dX5_leavesByTicks_6 : decode cX5_leavesByTicks 6 = .ok (.getfield 18, 3) := by decide +kernel
theorem dX5_leavesByTicks_9 : decode cX5_leavesByTicks 9 = .ok (.aload_n 0, 1) := by decide +kernel
theorem dX5_leavesByTicks_10 : decode cX5_leavesByTicks 10 = .ok (.getfield 12, 3) := by decide +kernel
theorem dX5_leavesByTicks_13 : decode cX5_leavesByTicks 13 = .ok (.invokevirtual 195, 3) := by decide +kernel
theorem dX5_leavesByTicks_16 : decode cX5_leavesByTicks 16 = .ok (.iconst 1, 1) := by decide +kernel
theorem dX5_leavesByTicks_17 : decode cX5_leavesByTicks 17 = .ok (.istore_n 2, 1) := by decide +kernel
theorem dX5_leavesByTicks_18 : decode cX5_leavesByTicks 18 = .ok (.iload_n 2, 1) := by decide +kernel
theorem dX5_leavesByTicks_19 : decode cX5_leavesByTicks 19 = .ok (.sipush 300, 3) := by decide +kernel
theorem dX5_leavesByTicks_22 : decode cX5_leavesByTicks 22 = .ok (.if_icmp .gt 29, 3) := by decide +kernel
theorem dX5_leavesByTicks_25 : decode cX5_leavesByTicks 25 = .ok (.aload_n 0, 1) := by decide +kernel
theorem dX5_leavesByTicks_26 : decode cX5_leavesByTicks 26 = .ok (.getfield 18, 3) := by decide +kernel
theorem dX5_leavesByTicks_29 : decode cX5_leavesByTicks 29 = .ok (.invokevirtual 145, 3) := by decide +kernel
theorem dX5_leavesByTicks_32 : decode cX5_leavesByTicks 32 = .ok (.aload_n 0, 1) := by decide +kernel
theorem dX5_leavesByTicks_33 : decode cX5_leavesByTicks 33 = .ok (.getfield 18, 3) := by decide +kernel
theorem dX5_leavesByTicks_36 : decode cX5_leavesByTicks 36 = .ok (.iload_n 1, 1) := by decide +kernel
theorem dX5_leavesByTicks_37 : decode cX5_leavesByTicks 37 = .ok (.invokevirtual 205, 3) := by decide +kernel
theorem dX5_leavesByTicks_40 : decode cX5_leavesByTicks 40 = .ok (.ifCond .eq 5, 3) := by decide +kernel
theorem dX5_leavesByTicks_43 : decode cX5_leavesByTicks 43 = .ok (.iload_n 2, 1) := by decide +kernel
theorem dX5_leavesByTicks_44 : decode cX5_leavesByTicks 44 = .ok (.ireturn, 1) := by decide +kernel
theorem dX5_leavesByTicks_45 : decode cX5_leavesByTicks 45 = .ok (.iinc 2 1, 3) := by decide +kernel
theorem dX5_leavesByTicks_48 : decode cX5_leavesByTicks 48 = .ok (.goto (-30), 3) := by decide +kernel
theorem dX5_leavesByTicks_51 : decode cX5_leavesByTicks 51 = .ok (.new 123, 3) := by decide +kernel
theorem dX5_leavesByTicks_54 : decode cX5_leavesByTicks 54 = .ok (.dup, 1) := by decide +kernel
theorem dX5_leavesByTicks_55 : decode cX5_leavesByTicks 55 = .ok (.ldc 208, 2) := by decide +kernel
theorem dX5_leavesByTicks_57 : decode cX5_leavesByTicks 57 = .ok (.invokespecial 127, 3) := by decide +kernel
theorem dX5_leavesByTicks_60 : decode cX5_leavesByTicks 60 = .ok (.athrow, 1) := by decide +kernel
set_option maxRecDepth 20000 in
theorem ggX5_nextToLeave_X1_copyFrom : GoodIn wsX5_nextToLeave wsX1_copyFrom := goodIn_ca (goodIn_r _ [9, 10, 11, 12, 13, 14, 15, 16, 17, 18, 19, 20, 8, 21, 22, 23, 24, 25, 26, 27, 28, 29, 30, 31, 32, 33, 34, 35, 36, 37, 38, 39, 40, 41, 42, 43, 44, 45, 46, 47, 48, 49, 50, 51, 52, 53, 54, 55, 56, 57, 58, 59, 60, 61, 62, 63, 64, 65, 66, 67, 68, 69, 70, 71, 72, 73, 74, 75, 76, 77, 78, 79, 80, 81, 82, 83, 297, 298, 299, 300, 301, 302, 303, 304, 305, 306, 309, 310, 311, 312, 313, 314, 315, 316, 317, 318, 319, 320, 321, 322, 323, 324, 325, 326, 327, 307, 308] (by decide +kernel) (by decide +kernel)) (goodIn_sub (fun _ h => List.mem_cons_of_mem _ (List.mem_append_left _ (List.mem_append_right _ h))) (by decide +kernel))
set_option maxRecDepth 20000 in
theorem gX5_nextToLeave_X1_copyFrom : GoodIn wsX5_nextToLeave (wsV RX5 195 RX1 yX1_copyFrom wsX1_copyFrom) := goodIn_app (goodIn_of _ (by decide +kernel)) ggX5_nextToLeave_X1_copyFrom
set_option maxRecDepth 20000 in
theorem ggX5_nextToLeave_X1_passTick : GoodIn wsX5_nextToLeave wsX1_passTick := goodIn_ca (goodIn_ca (goodIn_r _ [87, 12, 10, 88, 89, 90, 8, 91, 13, 92, 93, 94, 95, 96, 97, 98, 99, 22, 23, 24, 25, 26, 18, 19, 20, 21, 14, 100, 101, 102, 103, 104, 105, 106, 107, 108, 109, 110, 111, 112, 113, 114, 47, 48, 49, 50, 11, 51, 115, 116, 117, 118, 119, 120, 121, 122, 123, 124, 125, 126, 127, 128, 129, 130, 131, 132, 133, 134, 135, 136, 137, 33, 138, 36, 39, 37, 41, 42, 139, 140, 141, 58, 142, 60, 143, 144, 145, 146, 61, 62, 63, 64, 66, 147, 148, 149, 150, 65, 151, 152, 153, 154, 155, 156, 157, 158, 159, 160, 161, 162, 163, 164, 165, 166, 167, 168, 169, 170, 171, 172, 173, 174, 175, 176, 177, 178, 179, 180, 181, 182, 183, 184, 185, 186, 187, 188, 189, 190, 191, 192, 193, 194, 195, 196, 197, 198, 199, 200, 201, 202, 203, 204, 205, 206, 207, 208, 209, 210, 211, 212, 213, 214, 215, 216, 217, 218, 219, 220, 221, 222, 223, 224, 225, 226, 227, 228, 229, 230, 231, 232, 233, 234, 235, 236, 237, 238, 239, 240, 241, 242, 243, 244, 245, 246, 247, 248, 249, 250, 251, 252, 253, 254, 255, 256, 257, 258, 259, 260, 17, 261, 262, 263, 264, 265, 266, 267, 72, 268, 74, 75, 269, 270, 271, 272, 16, 273, 274, 275, 276, 277, 77, 78, 79, 80, 81, 82, 83, 278, 279, 280, 281, 282, 283, 284, 285, 286, 287, 288, 289, 290, 291, 292, 293, 15, 297, 298, 299, 300, 301, 302, 303, 304, 305, 306, 309, 310, 311, 312, 313, 314, 315, 316, 317, 318, 319, 320, 321, 322, 323, 324, 325, 326, 327, 328, 329, 330, 331, 332, 307, 308] (by decide +kernel) (by decide +kernel)) (goodIn_sub (fun _ h => List.mem_cons_of_mem _ (List.mem_append_right _ h)) (by decide +kernel))) (goodIn_sub (fun _ h => List.mem_cons_of_mem _ (List.mem_append_left _ (List.mem_append_right _ h))) (by decide +kernel))
set_option maxRecDepth 20000 in
theorem gX5_nextToLeave_X1_passTick : GoodIn wsX5_nextToLeave (wsV RX5 145 RX1 yX1_passTick wsX1_passTick) := goodIn_app (goodIn_of _ (by decide +kernel)) ggX5_nextToLeave_X1_passTick
set_option maxRecDepth 20000 in
theorem ggX5_nextToLeave_X2_at : GoodIn wsX5_nextToLeave wsX2_at := goodIn_ca (goodIn_r _ [79, 75, 80, 81, 82, 72, 83, 74, 307, 308] (by decide +kernel) (by decide +kernel)) (goodIn_sub (fun _ h => List.mem_cons_of_mem _ (List.mem_append_left _ (List.mem_append_right _ h))) (by decide +kernel))
set_option maxRecDepth 20000 in
theorem gX5_nextToLeave_X2_at : GoodIn wsX5_nextToLeave (wsV RX5 210 RX2 yX2_at wsX2_at) := goodIn_app (goodIn_of _ (by decide +kernel)) ggX5_nextToLeave_X2_at
theorem dX5_nextToLeave_0 : decode cX5_nextToLeave 0 = .ok (.aload_n 0, 1) := by decide +kernel
theorem dX5_nextToLeave_1 : decode cX5_nextToLeave 1 = .ok (.getfield 18, 3) := by decide +kernel
theorem dX5_nextToLeave_4 : decode cX5_nextToLeave 4 = .ok (.aload_n 0, 1) := by decide +kernel
theorem dX5_nextToLeave_5 : decode cX5_nextToLeave 5 = .ok (.getfield 12, 3) := by decide +kernel
theorem dX5_nextToLeave_8 : decode cX5_nextToLeave 8 = .ok (.invokevirtual 195, 3) := by decide +kernel
theorem dX5_nextToLeave_11 : decode cX5_nextToLeave 11 = .ok (.aload_n 0, 1) := by decide +kernel
theorem dX5_nextToLeave_12 : decode cX5_nextToLeave 12 = .ok (.getfield 12, 3) := by decide +kernel
theorem dX5_nextToLeave_15 : decode cX5_nextToLeave 15 = .ok (.getfield 139, 3) := by decide +kernel
theorem dX5_nextToLeave_18 : decode cX5_nextToLeave 18 = .ok (.getfield 142, 3) := by decide +kernel
theorem dX5_nextToLeave_21 : decode cX5_nextToLeave 21 = .ok (.istore_n 1, 1) := by decide +kernel
theorem dX5_nextToLeave_22 : decode cX5_nextToLeave 22 = .ok (.iconst 1, 1) := by decide +kernel
theorem dX5_nextToLeave_23 : decode cX5_nextToLeave 23 = .ok (.istore_n 2, 1) := by decide +kernel
theorem dX5_nextToLeave_24 : decode cX5_nextToLeave 24 = .ok (.iload_n 2, 1) := by decide +kernel
theorem dX5_nextToLeave_25 : decode cX5_nextToLeave 25 = .ok (.sipush 300, 3) := by decide +kernel
theorem dX5_nextToLeave_28 : decode cX5_nextToLeave 28 = .ok (.if_icmp .gt 42, 3) := by decide +kernel
theorem dX5_nextToLeave_31 : decode cX5_nextToLeave 31 = .ok (.aload_n 0, 1) := by decide +kernel
theorem dX5_nextToLeave_32 : decode cX5_nextToLeave 32 = .ok (.getfield 18, 3) := by decide +kernel
theorem dX5_nextToLeave_35 : decode cX5_nextToLeave 35 = .ok (.invokevirtual 145, 3) := by decide +kernel
theorem dX5_nextToLeave_38 : decode cX5_nextToLeave 38 = .ok (.aload_n 0, 1) := by decide +kernel
theorem dX5_nextToLeave_39 : decode cX5_nextToLeave 39 = .ok (.getfield 18, 3) := by decide +kernel
theorem dX5_nextToLeave_42 : decode cX5_nextToLeave 42 = .ok (.getfield 139, 3) := by decide +kernel
theorem dX5_nextToLeave_45 : decode cX5_nextToLeave 45 = .ok (.getfield 142, 3) := by decide +kernel
theorem dX5_nextToLeave_48 : decode cX5_nextToLeave 48 = .ok (.iload_n 1, 1) := by decide +kernel
theorem dX5_nextToLeave_49 : decode cX5_nextToLeave 49 = .ok (.if_icmp .le 15, 3) := by decide +kernel
theorem dX5_nextToLeave_52 : decode cX5_nextToLeave 52 = .ok (.aload_n 0, 1) := by decide +kernel
theorem dX5_nextToLeave_53 : decode cX5_nextToLeave 53 = .ok (.getfield 18, 3) := by decide +kernel
theorem dX5_nextToLeave_56 : decode cX5_nextToLeave 56 = .ok (.getfield 139, 3) := by decide +kernel
theorem dX5_nextToLeave_59 : decode cX5_nextToLeave 59 = .ok (.iload_n 1, 1) := by decide +kernel
theorem dX5_nextToLeave_60 : decode cX5_nextToLeave 60 = .ok (.invokevirtual 210, 3) := by decide +kernel
theorem dX5_nextToLeave_63 : decode cX5_nextToLeave 63 = .ok (.ireturn, 1) := by decide +kernel
theorem dX5_nextToLeave_64 : decode cX5_nextToLeave 64 = .ok (.iinc 2 1, 3) := by decide +kernel
theorem dX5_nextToLeave_67 : decode cX5_nextToLeave 67 = .ok (.goto (-43), 3) := by decide +kernel
theorem dX5_nextToLeave_70 : decode cX5_nextToLeave 70 = .ok (.new 213, 3) := by decide +kernel
theorem dX5_nextToLeave_73 : decode cX5_nextToLeave 73 = .ok (.dup, 1) := by decide +kernel
theorem dX5_nextToLeave_74 : decode cX5_nextToLeave 74 = .ok (.ldc 215, 2) := by decide +kernel
theorem dX5_nextToLeave_76 : decode cX5_nextToLeave 76 = .ok (.invokespecial 217, 3) := by decide +kernel
theorem dX5_nextToLeave_79 : decode cX5_nextToLeave 79 = .ok (.athrow, 1) := by decide +kernel
set_option maxRecDepth 20000 in
theorem ggX5_traceLength_X5_requireTrace : GoodIn wsX5_traceLength wsX5_requireTrace := goodIn_ca (goodIn_r _ [5, 6, 7, 8, 9, 10, 4, 11, 12, 13, 14, 15, 16, 17, 18, 19, 23, 24, 25, 26, 27, 28, 29, 30, 31, 32, 33, 34, 35, 36, 37, 38, 39, 40, 41, 42, 43, 44, 45] (by decide +kernel) (by decide +kernel)) (goodIn_sub (fun _ h => List.mem_cons_of_mem _ (List.mem_append_right _ h)) (by decide +kernel))
set_option maxRecDepth 20000 in
theorem gX5_traceLength_X5_requireTrace : GoodIn wsX5_traceLength (wsV RX5 218 RX5 yX5_requireTrace wsX5_requireTrace) := goodIn_app (goodIn_of _ (by decide +kernel)) ggX5_traceLength_X5_requireTrace
theorem dX5_traceLength_0 : decode cX5_traceLength 0 = .ok (.aload_n 0, 1) := by decide +kernel
theorem dX5_traceLength_1 : decode cX5_traceLength 1 = .ok (.iload_n 1, 1) := by decide +kernel
theorem dX5_traceLength_2 : decode cX5_traceLength 2 = .ok (.invokevirtual 218, 3) := by decide +kernel
theorem dX5_traceLength_5 : decode cX5_traceLength 5 = .ok (.getfield 222, 3) := by decide +kernel
theorem dX5_traceLength_8 : decode cX5_traceLength 8 = .ok (.ireturn, 1) := by decide +kernel
set_option maxRecDepth 20000 in
theorem ggX5_traceAt_X5_requireTrace : GoodIn wsX5_traceAt wsX5_requireTrace := goodIn_ca (goodIn_r _ [7, 8, 9, 10, 11, 12, 6, 13, 14, 15, 16, 17, 18, 19, 20, 21, 34, 35, 36, 37, 38, 39, 40, 41, 42, 43, 44, 45, 46, 47, 48, 49, 50, 51, 52, 53, 54, 55, 56] (by decide +kernel) (by decide +kernel)) (goodIn_sub (fun _ h => List.mem_cons_of_mem _ (List.mem_append_left _ (List.mem_append_right _ h))) (by decide +kernel))
set_option maxRecDepth 20000 in
theorem gX5_traceAt_X5_requireTrace : GoodIn wsX5_traceAt (wsV RX5 218 RX5 yX5_requireTrace wsX5_requireTrace) := goodIn_app (goodIn_of _ (by decide +kernel)) ggX5_traceAt_X5_requireTrace
set_option maxRecDepth 20000 in
theorem ggX5_traceAt_X4_has : GoodIn wsX5_traceAt wsX4_has := goodIn_r _ [26, 27, 28, 57, 58, 59] (by decide +kernel) (by decide +kernel)
set_option maxRecDepth 20000 in
theorem gX5_traceAt_X4_has : GoodIn wsX5_traceAt (wsV RX5 227 RX4 yX4_has wsX4_has) := goodIn_app (goodIn_of _ (by decide +kernel)) ggX5_traceAt_X4_has
set_option maxRecDepth 20000 in
theorem ggX5_traceAt_X4_signAt : GoodIn wsX5_traceAt wsX4_signAt := goodIn_ca (goodIn_r _ [32, 28, 33, 23, 24, 25, 26, 27, 57, 58, 59] (by decide +kernel) (by decide +kernel)) (goodIn_sub (fun _ h => List.mem_cons_of_mem _ (List.mem_append_right _ h)) (by decide +kernel))
set_option maxRecDepth 20000 in
theorem gX5_traceAt_X4_signAt : GoodIn wsX5_traceAt (wsV RX5 235 RX4 yX4_signAt wsX4_signAt) := goodIn_app (goodIn_of _ (by decide +kernel)) ggX5_traceAt_X4_signAt
theorem dX5_traceAt_0 : decode cX5_traceAt 0 = .ok (.aload_n 0, 1) := by decide +kernel
theorem dX5_traceAt_1 : decode cX5_traceAt 1 = .ok (.iload_n 1, 1) := by decide +kernel
theorem dX5_traceAt_2 : decode cX5_traceAt 2 = .ok (.invokevirtual 218, 3) := by decide +kernel
theorem dX5_traceAt_5 : decode cX5_traceAt 5 = .ok (.astore_n 3, 1) := by decide +kernel
theorem dX5_traceAt_6 : decode cX5_traceAt 6 = .ok (.aload_n 3, 1) := by decide +kernel
theorem dX5_traceAt_7 : decode cX5_traceAt 7 = .ok (.iload_n 2, 1) := by decide +kernel
theorem dX5_traceAt_8 : decode cX5_traceAt 8 = .ok (.invokevirtual 227, 3) := by decide +kernel
theorem dX5_traceAt_11 : decode cX5_traceAt 11 = .ok (.ifCond .ne 13, 3) := by decide +kernel
theorem dX5_traceAt_14 : decode cX5_traceAt 14 = .ok (.new 230, 3) := by decide +kernel
theorem dX5_traceAt_17 : decode cX5_traceAt 17 = .ok (.dup, 1) := by decide +kernel
theorem dX5_traceAt_18 : decode cX5_traceAt 18 = .ok (.ldc 232, 2) := by decide +kernel
theorem dX5_traceAt_20 : decode cX5_traceAt 20 = .ok (.invokespecial 234, 3) := by decide +kernel
theorem dX5_traceAt_23 : decode cX5_traceAt 23 = .ok (.athrow, 1) := by decide +kernel
theorem dX5_traceAt_24 : decode cX5_traceAt 24 = .ok (.aload_n 3, 1) := by decide +kernel
theorem dX5_traceAt_25 : decode cX5_traceAt 25 = .ok (.iload_n 2, 1) := by decide +kernel
theorem dX5_traceAt_26 : decode cX5_traceAt 26 = .ok (.invokevirtual 235, 3) := by decide +kernel
theorem dX5_traceAt_29 : decode cX5_traceAt 29 = .ok (.ireturn, 1) := by decide +kernel
set_option maxRecDepth 20000 in
theorem ggX5_countOf_J0_indexOf_0f7a4 : GoodIn wsX5_countOf wsJ0_indexOf_0f7a4 := goodIn_r _ [8, 9, 10, 11, 7, 12, 13, 14, 15, 16, 17, 18, 19, 20, 21, 22, 23, 24, 25, 26, 27, 28, 29, 30, 31, 32, 33, 34, 35, 36, 37, 38, 39, 40, 41, 42, 43, 44, 45, 46, 47, 48, 49, 50, 51, 52, 53, 54, 55, 56, 57, 58, 59, 60, 61, 62, 63, 64, 65, 66, 67, 68, 69, 70, 71, 72, 73, 74, 75, 76, 77, 78, 79, 80, 81, 82, 83, 84, 85, 86, 87, 88, 89, 90, 91, 92, 113, 114] (by decide +kernel) (by decide +kernel)
set_option maxRecDepth 20000 in
theorem gX5_countOf_J0_indexOf_0f7a4 : GoodIn wsX5_countOf (wsV RX5 241 RJ0 yJ0_indexOf_0f7a4 wsJ0_indexOf_0f7a4) := goodIn_app (goodIn_of _ (by decide +kernel)) ggX5_countOf_J0_indexOf_0f7a4
set_option maxRecDepth 20000 in
theorem ggX5_countOf_X1_totalOf : GoodIn wsX5_countOf wsX1_totalOf := goodIn_ca (goodIn_r _ [97, 98, 99, 100, 101, 96, 102, 103, 104, 105, 106, 107, 108, 109, 110, 5, 6, 7, 8, 9, 10, 11, 12, 13, 14, 15, 16, 17, 18, 19, 20, 21, 22, 23, 24, 25, 26, 27, 28, 29, 30, 31, 32, 33, 34, 35, 36, 37, 38, 39, 40, 41, 42, 43, 44, 45, 46, 47, 48, 49, 50, 51, 52, 53, 54, 55, 56, 57, 58, 59, 60, 61, 62, 63, 64, 65, 66, 67, 68, 69, 70, 71, 72, 73, 74, 75, 76, 77, 78, 79, 80, 81, 82, 83, 84, 85, 86, 87, 88, 89, 90, 91, 92, 115, 116, 117, 118, 119, 120, 121, 122, 123, 124, 125, 126, 127, 128, 129, 130, 131, 132, 133, 134, 135, 136, 137, 138, 113, 114] (by decide +kernel) (by decide +kernel)) (goodIn_sub (fun _ h => List.mem_cons_of_mem _ (List.mem_append_right _ h)) (by decide +kernel))
set_option maxRecDepth 20000 in
theorem gX5_countOf_X1_totalOf : GoodIn wsX5_countOf (wsV RX5 248 RX1 yX1_totalOf wsX1_totalOf) := goodIn_app (goodIn_of _ (by decide +kernel)) ggX5_countOf_X1_totalOf
theorem dX5_countOf_0 : decode cX5_countOf 0 = .ok (.ldc 239, 2) := by decide +kernel
theorem dX5_countOf_2 : decode cX5_countOf 2 = .ok (.iload_n 1, 1) := by decide +kernel
theorem dX5_countOf_3 : decode cX5_countOf 3 = .ok (.invokevirtual 241, 3) := by decide +kernel
theorem dX5_countOf_6 : decode cX5_countOf 6 = .ok (.ifCond .ge 13, 3) := by decide +kernel
theorem dX5_countOf_9 : decode cX5_countOf 9 = .ok (.new 25, 3) := by decide +kernel
theorem dX5_countOf_12 : decode cX5_countOf 12 = .ok (.dup, 1) := by decide +kernel
theorem dX5_countOf_13 : decode cX5_countOf 13 = .ok (.ldc 246, 2) := by decide +kernel
theorem dX5_countOf_15 : decode cX5_countOf 15 = .ok (.invokespecial 29, 3) := by decide +kernel
theorem dX5_countOf_18 : decode cX5_countOf 18 = .ok (.athrow, 1) := by decide +kernel
theorem dX5_countOf_19 : decode cX5_countOf 19 = .ok (.aload_n 0, 1) := by decide +kernel
theorem dX5_countOf_20 : decode cX5_countOf 20 = .ok (.getfield 12, 3) := by decide +kernel
theorem dX5_countOf_23 : decode cX5_countOf 23 = .ok (.iload_n 1, 1) := by decide +kernel
theorem dX5_countOf_24 : decode cX5_countOf 24 = .ok (.invokevirtual 248, 3) := by decide +kernel
theorem dX5_countOf_27 : decode cX5_countOf 27 = .ok (.ireturn, 1) := by decide +kernel
set_option maxRecDepth 20000 in
theorem ggX5_fitted_X1_findStation : GoodIn wsX5_fitted wsX1_findStation := goodIn_r _ [6, 7, 8, 19, 20, 21, 22, 23, 24, 25, 26, 27, 28] (by decide +kernel) (by decide +kernel)
set_option maxRecDepth 20000 in
theorem gX5_fitted_X1_findStation : GoodIn wsX5_fitted (wsV RX5 180 RX1 yX1_findStation wsX1_findStation) := goodIn_app (goodIn_of _ (by decide +kernel)) ggX5_fitted_X1_findStation
theorem dX5_fitted_0 : decode cX5_fitted 0 = .ok (.lconst 0, 1) := by decide +kernel
theorem dX5_fitted_1 : decode cX5_fitted 1 = .ok (.lstore_n 1, 1) := by decide +kernel
theorem dX5_fitted_2 : decode cX5_fitted 2 = .ok (.iconst 0, 1) := by decide +kernel
theorem dX5_fitted_3 : decode cX5_fitted 3 = .ok (.istore_n 3, 1) := by decide +kernel
theorem dX5_fitted_4 : decode cX5_fitted 4 = .ok (.iload_n 3, 1) := by decide +kernel
theorem dX5_fitted_5 : decode cX5_fitted 5 = .ok (.bipush 8, 2) := by decide +kernel
theorem dX5_fitted_7 : decode cX5_fitted 7 = .ok (.if_icmp .ge 32, 3) := by decide +kernel
theorem dX5_fitted_10 : decode cX5_fitted 10 = .ok (.aload_n 0, 1) := by decide +kernel
theorem dX5_fitted_11 : decode cX5_fitted 11 = .ok (.getfield 12, 3) := by decide +kernel
theorem dX5_fitted_14 : decode cX5_fitted 14 = .ok (.iload_n 3, 1) := by decide +kernel
theorem dX5_fitted_15 : decode cX5_fitted 15 = .ok (.invokevirtual 180, 3) := by decide +kernel
theorem dX5_fitted_18 : decode cX5_fitted 18 = .ok (.astore 4, 2) := by decide +kernel
theorem dX5_fitted_20 : decode cX5_fitted 20 = .ok (.aload 4, 2) := by decide +kernel
theorem dX5_fitted_22 : decode cX5_fitted 22 = .ok (.ifnull 11, 3) := by decide +kernel
theorem dX5_fitted_25 : decode cX5_fitted 25 = .ok (.lload_n 1, 1) := by decide +kernel
theorem dX5_fitted_26 : decode cX5_fitted 26 = .ok (.aload 4, 2) := by decide +kernel
theorem dX5_fitted_28 : decode cX5_fitted 28 = .ok (.getfield 252, 3) := by decide +kernel
theorem dX5_fitted_31 : decode cX5_fitted 31 = .ok (.ladd, 1) := by decide +kernel
theorem dX5_fitted_32 : decode cX5_fitted 32 = .ok (.lstore_n 1, 1) := by decide +kernel
theorem dX5_fitted_33 : decode cX5_fitted 33 = .ok (.iinc 3 1, 3) := by decide +kernel
theorem dX5_fitted_36 : decode cX5_fitted 36 = .ok (.goto (-32), 3) := by decide +kernel
theorem dX5_fitted_39 : decode cX5_fitted 39 = .ok (.lload_n 1, 1) := by decide +kernel
theorem dX5_fitted_40 : decode cX5_fitted 40 = .ok (.lreturn, 1) := by decide +kernel
set_option maxRecDepth 20000 in
theorem ggX5_lackShare_X1_totalOf : GoodIn wsX5_lackShare wsX1_totalOf := goodIn_ca (goodIn_r _ [8, 9, 10, 11, 12, 7, 13, 14, 15, 16, 17, 18, 19, 20, 21, 22, 23, 24, 25, 26, 27, 28, 29, 30, 31, 32, 33, 34, 35, 36, 37, 38, 39, 40, 41, 42, 43, 44, 45, 46, 47, 48, 49, 50, 51, 52, 53, 54, 55, 56, 57, 58, 59, 60, 61, 62, 63, 64, 65, 66, 67, 68, 69, 70, 71, 72, 73, 74, 75, 76, 77, 78, 79, 80, 81, 82, 83, 84, 85, 86, 87, 88, 89, 90, 91, 92, 93, 94, 95, 96, 97, 98, 99, 100, 101, 102, 103, 104, 105, 106, 107, 108, 109, 112, 113, 114, 115, 116, 117, 118, 119, 120, 121, 122, 123, 124, 125, 126, 127, 128, 129, 130, 131, 132, 133, 134, 135, 136, 137] (by decide +kernel) (by decide +kernel)) (goodIn_sub (fun _ h => List.mem_cons_of_mem _ (List.mem_append_right _ h)) (by decide +kernel))
set_option maxRecDepth 20000 in
theorem gX5_lackShare_X1_totalOf : GoodIn wsX5_lackShare (wsV RX5 248 RX1 yX1_totalOf wsX1_totalOf) := goodIn_app (goodIn_of _ (by decide +kernel)) ggX5_lackShare_X1_totalOf
theorem dX5_lackShare_0 : decode cX5_lackShare 0 = .ok (.aload_n 0, 1) := by decide +kernel
theorem dX5_lackShare_1 : decode cX5_lackShare 1 = .ok (.getfield 12, 3) := by decide +kernel
theorem dX5_lackShare_4 : decode cX5_lackShare 4 = .ok (.bipush 45, 2) := by decide +kernel
theorem dX5_lackShare_6 : decode cX5_lackShare 6 = .ok (.invokevirtual 248, 3) := by decide +kernel
theorem dX5_lackShare_9 : decode cX5_lackShare 9 = .ok (.istore_n 1, 1) := by decide +kernel
theorem dX5_lackShare_10 : decode cX5_lackShare 10 = .ok (.aload_n 0, 1) := by decide +kernel
theorem dX5_lackShare_11 : decode cX5_lackShare 11 = .ok (.getfield 12, 3) := by decide +kernel
theorem dX5_lackShare_14 : decode cX5_lackShare 14 = .ok (.bipush 43, 2) := by decide +kernel
theorem dX5_lackShare_16 : decode cX5_lackShare 16 = .ok (.invokevirtual 248, 3) := by decide +kernel
theorem dX5_lackShare_19 : decode cX5_lackShare 19 = .ok (.iload_n 1, 1) := by decide +kernel
theorem dX5_lackShare_20 : decode cX5_lackShare 20 = .ok (.iadd, 1) := by decide +kernel
theorem dX5_lackShare_21 : decode cX5_lackShare 21 = .ok (.aload_n 0, 1) := by decide +kernel
theorem dX5_lackShare_22 : decode cX5_lackShare 22 = .ok (.getfield 12, 3) := by decide +kernel
theorem dX5_lackShare_25 : decode cX5_lackShare 25 = .ok (.bipush 46, 2) := by decide +kernel
theorem dX5_lackShare_27 : decode cX5_lackShare 27 = .ok (.invokevirtual 248, 3) := by decide +kernel
theorem dX5_lackShare_30 : decode cX5_lackShare 30 = .ok (.iadd, 1) := by decide +kernel
theorem dX5_lackShare_31 : decode cX5_lackShare 31 = .ok (.istore_n 2, 1) := by decide +kernel
theorem dX5_lackShare_32 : decode cX5_lackShare 32 = .ok (.iload_n 2, 1) := by decide +kernel
theorem dX5_lackShare_33 : decode cX5_lackShare 33 = .ok (.ifCond .ne 14, 3) := by decide +kernel
theorem dX5_lackShare_36 : decode cX5_lackShare 36 = .ok (.new 256, 3) := by decide +kernel
theorem dX5_lackShare_39 : decode cX5_lackShare 39 = .ok (.dup, 1) := by decide +kernel
theorem dX5_lackShare_40 : decode cX5_lackShare 40 = .ok (.ldc_w 258, 3) := by decide +kernel
theorem dX5_lackShare_43 : decode cX5_lackShare 43 = .ok (.invokespecial 260, 3) := by decide +kernel
theorem dX5_lackShare_46 : decode cX5_lackShare 46 = .ok (.athrow, 1) := by decide +kernel
theorem dX5_lackShare_47 : decode cX5_lackShare 47 = .ok (.iload_n 1, 1) := by decide +kernel
theorem dX5_lackShare_48 : decode cX5_lackShare 48 = .ok (.i2f, 1) := by decide +kernel
theorem dX5_lackShare_49 : decode cX5_lackShare 49 = .ok (.iload_n 2, 1) := by decide +kernel
theorem dX5_lackShare_50 : decode cX5_lackShare 50 = .ok (.i2f, 1) := by decide +kernel
theorem dX5_lackShare_51 : decode cX5_lackShare 51 = .ok (.fdiv, 1) := by decide +kernel
theorem dX5_lackShare_52 : decode cX5_lackShare 52 = .ok (.freturn, 1) := by decide +kernel
set_option maxRecDepth 20000 in
theorem ggX5_meanTime_X1_ticksOfGone : GoodIn wsX5_meanTime wsX1_ticksOfGone := goodIn_ca (goodIn_r _ [8, 9, 10, 11, 12, 13, 14, 15, 16, 17, 18, 19, 20, 21, 22, 23, 7, 24, 25, 26, 29, 30, 31, 32, 33, 34, 35, 36, 37, 38, 39, 40, 41, 42, 43, 44, 45, 46, 47, 48, 49, 50, 51] (by decide +kernel) (by decide +kernel)) (goodIn_sub (fun _ h => List.mem_cons_of_mem _ (List.mem_append_right _ h)) (by decide +kernel))
set_option maxRecDepth 20000 in
theorem gX5_meanTime_X1_ticksOfGone : GoodIn wsX5_meanTime (wsV RX5 263 RX1 yX1_ticksOfGone wsX1_ticksOfGone) := goodIn_app (goodIn_of _ (by decide +kernel)) ggX5_meanTime_X1_ticksOfGone
theorem dX5_meanTime_0 : decode cX5_meanTime 0 = .ok (.aload_n 0, 1) := by decide +kernel
theorem dX5_meanTime_1 : decode cX5_meanTime 1 = .ok (.getfield 12, 3) := by decide +kernel
theorem dX5_meanTime_4 : decode cX5_meanTime 4 = .ok (.getfield 139, 3) := by decide +kernel
theorem dX5_meanTime_7 : decode cX5_meanTime 7 = .ok (.getfield 142, 3) := by decide +kernel
theorem dX5_meanTime_10 : decode cX5_meanTime 10 = .ok (.istore_n 1, 1) := by decide +kernel
theorem dX5_meanTime_11 : decode cX5_meanTime 11 = .ok (.iload_n 1, 1) := by decide +kernel
theorem dX5_meanTime_12 : decode cX5_meanTime 12 = .ok (.ifCond .ne 14, 3) := by decide +kernel
theorem dX5_meanTime_15 : decode cX5_meanTime 15 = .ok (.new 256, 3) := by decide +kernel
theorem dX5_meanTime_18 : decode cX5_meanTime 18 = .ok (.dup, 1) := by decide +kernel
theorem dX5_meanTime_19 : decode cX5_meanTime 19 = .ok (.ldc_w 261, 3) := by decide +kernel
theorem dX5_meanTime_22 : decode cX5_meanTime 22 = .ok (.invokespecial 260, 3) := by decide +kernel
theorem dX5_meanTime_25 : decode cX5_meanTime 25 = .ok (.athrow, 1) := by decide +kernel
theorem dX5_meanTime_26 : decode cX5_meanTime 26 = .ok (.aload_n 0, 1) := by decide +kernel
theorem dX5_meanTime_27 : decode cX5_meanTime 27 = .ok (.getfield 12, 3) := by decide +kernel
theorem dX5_meanTime_30 : decode cX5_meanTime 30 = .ok (.invokevirtual 263, 3) := by decide +kernel
theorem dX5_meanTime_33 : decode cX5_meanTime 33 = .ok (.l2d, 1) := by decide +kernel
theorem dX5_meanTime_34 : decode cX5_meanTime 34 = .ok (.iload_n 1, 1) := by decide +kernel
theorem dX5_meanTime_35 : decode cX5_meanTime 35 = .ok (.i2d, 1) := by decide +kernel
theorem dX5_meanTime_36 : decode cX5_meanTime 36 = .ok (.ddiv, 1) := by decide +kernel
theorem dX5_meanTime_37 : decode cX5_meanTime 37 = .ok (.dreturn, 1) := by decide +kernel
theorem dX5_isWithin_0 : decode cX5_isWithin 0 = .ok (.iload_n 0, 1) := by decide +kernel
theorem dX5_isWithin_1 : decode cX5_isWithin 1 = .ok (.iload_n 1, 1) := by decide +kernel
theorem dX5_isWithin_2 : decode cX5_isWithin 2 = .ok (.if_icmp .lt 12, 3) := by decide +kernel
theorem dX5_isWithin_5 : decode cX5_isWithin 5 = .ok (.iload_n 0, 1) := by decide +kernel
theorem dX5_isWithin_6 : decode cX5_isWithin 6 = .ok (.iload_n 2, 1) := by decide +kernel
theorem dX5_isWithin_7 : decode cX5_isWithin 7 = .ok (.if_icmp .gt 7, 3) := by decide +kernel
theorem dX5_isWithin_10 : decode cX5_isWithin 10 = .ok (.iconst 1, 1) := by decide +kernel
theorem dX5_isWithin_11 : decode cX5_isWithin 11 = .ok (.goto 4, 3) := by decide +kernel
theorem dX5_isWithin_14 : decode cX5_isWithin 14 = .ok (.iconst 0, 1) := by decide +kernel
theorem dX5_isWithin_15 : decode cX5_isWithin 15 = .ok (.ireturn, 1) := by decide +kernel
set_option maxRecDepth 20000 in
theorem ggX5_requirePart_X5_isWithin : GoodIn wsX5_requirePart wsX5_isWithin := goodIn_r _ [6] (by decide +kernel) (by decide +kernel)
set_option maxRecDepth 20000 in
theorem gX5_requirePart_X5_isWithin : GoodIn wsX5_requirePart (va_wsS RX5 21 yX5_isWithin wsX5_isWithin) := goodIn_app (goodIn_of _ (by decide +kernel)) ggX5_requirePart_X5_isWithin
theorem dX5_requirePart_0 : decode cX5_requirePart 0 = .ok (.iload_n 0, 1) := by decide +kernel
theorem dX5_requirePart_1 : decode cX5_requirePart 1 = .ok (.iconst 0, 1) := by decide +kernel
theorem dX5_requirePart_2 : decode cX5_requirePart 2 = .ok (.iconst 5, 1) := by decide +kernel
theorem dX5_requirePart_3 : decode cX5_requirePart 3 = .ok (.invokestatic 21, 3) := by decide +kernel
theorem dX5_requirePart_6 : decode cX5_requirePart 6 = .ok (.ifCond .ne 14, 3) := by decide +kernel
theorem dX5_requirePart_9 : decode cX5_requirePart 9 = .ok (.new 213, 3) := by decide +kernel
theorem dX5_requirePart_12 : decode cX5_requirePart 12 = .ok (.dup, 1) := by decide +kernel
theorem dX5_requirePart_13 : decode cX5_requirePart 13 = .ok (.ldc_w 267, 3) := by decide +kernel
theorem dX5_requirePart_16 : decode cX5_requirePart 16 = .ok (.invokespecial 217, 3) := by decide +kernel
theorem dX5_requirePart_19 : decode cX5_requirePart 19 = .ok (.athrow, 1) := by decide +kernel
theorem dX5_requirePart_20 : decode cX5_requirePart 20 = .ok (.return_, 1) := by decide +kernel
set_option maxRecDepth 20000 in
theorem ggX5_requireStation_X1_findStation : GoodIn wsX5_requireStation wsX1_findStation := goodIn_r _ [8, 9, 10, 13, 14, 15, 16, 17, 18, 19, 20, 21, 22] (by decide +kernel) (by decide +kernel)
set_option maxRecDepth 20000 in
theorem gX5_requireStation_X1_findStation : GoodIn wsX5_requireStation (wsV RX5 180 RX1 yX1_findStation wsX1_findStation) := goodIn_app (goodIn_of _ (by decide +kernel)) ggX5_requireStation_X1_findStation
theorem dX5_requireStation_0 : decode cX5_requireStation 0 = .ok (.aload_n 0, 1) := by decide +kernel
theorem dX5_requireStation_1 : decode cX5_requireStation 1 = .ok (.getfield 12, 3) := by decide +kernel
theorem dX5_requireStation_4 : decode cX5_requireStation 4 = .ok (.iload_n 1, 1) := by decide +kernel
theorem dX5_requireStation_5 : decode cX5_requireStation 5 = .ok (.invokevirtual 180, 3) := by decide +kernel
theorem dX5_requireStation_8 : decode cX5_requireStation 8 = .ok (.astore_n 2, 1) := by decide +kernel
theorem dX5_requireStation_9 : decode cX5_requireStation 9 = .ok (.aload_n 2, 1) := by decide +kernel
theorem dX5_requireStation_10 : decode cX5_requireStation 10 = .ok (.ifnonnull 14, 3) := by decide +kernel
theorem dX5_requireStation_13 : decode cX5_requireStation 13 = .ok (.new 213, 3) := by decide +kernel
theorem dX5_requireStation_16 : decode cX5_requireStation 16 = .ok (.dup, 1) := by decide +kernel
theorem dX5_requireStation_17 : decode cX5_requireStation 17 = .ok (.ldc_w 269, 3) := by decide +kernel
theorem dX5_requireStation_20 : decode cX5_requireStation 20 = .ok (.invokespecial 217, 3) := by decide +kernel
theorem dX5_requireStation_23 : decode cX5_requireStation 23 = .ok (.athrow, 1) := by decide +kernel
theorem dX5_requireStation_24 : decode cX5_requireStation 24 = .ok (.aload_n 2, 1) := by decide +kernel
theorem dX5_requireStation_25 : decode cX5_requireStation 25 = .ok (.areturn, 1) := by decide +kernel
set_option maxRecDepth 20000 in
theorem ggX5_requireCar_X1_findCar : GoodIn wsX5_requireCar wsX1_findCar := goodIn_r _ [8, 9, 10, 13, 14, 15, 16, 17, 18, 19, 20, 21, 22] (by decide +kernel) (by decide +kernel)
set_option maxRecDepth 20000 in
theorem gX5_requireCar_X1_findCar : GoodIn wsX5_requireCar (wsV RX5 271 RX1 yX1_findCar wsX1_findCar) := goodIn_app (goodIn_of _ (by decide +kernel)) ggX5_requireCar_X1_findCar
theorem dX5_requireCar_0 : decode cX5_requireCar 0 = .ok (.aload_n 0, 1) := by decide +kernel
theorem dX5_requireCar_1 : decode cX5_requireCar 1 = .ok (.getfield 12, 3) := by decide +kernel
theorem dX5_requireCar_4 : decode cX5_requireCar 4 = .ok (.iload_n 1, 1) := by decide +kernel
theorem dX5_requireCar_5 : decode cX5_requireCar 5 = .ok (.invokevirtual 271, 3) := by decide +kernel
theorem dX5_requireCar_8 : decode cX5_requireCar 8 = .ok (.astore_n 2, 1) := by decide +kernel
theorem dX5_requireCar_9 : decode cX5_requireCar 9 = .ok (.aload_n 2, 1) := by decide +kernel
theorem dX5_requireCar_10 : decode cX5_requireCar 10 = .ok (.ifnonnull 14, 3) := by decide +kernel
theorem dX5_requireCar_13 : decode cX5_requireCar 13 = .ok (.new 213, 3) := by decide +kernel
theorem dX5_requireCar_16 : decode cX5_requireCar 16 = .ok (.dup, 1) := by decide +kernel
theorem dX5_requireCar_17 : decode cX5_requireCar 17 = .ok (.ldc_w 274, 3) := by decide +kernel
theorem dX5_requireCar_20 : decode cX5_requireCar 20 = .ok (.invokespecial 217, 3) := by decide +kernel
theorem dX5_requireCar_23 : decode cX5_requireCar 23 = .ok (.athrow, 1) := by decide +kernel
theorem dX5_requireCar_24 : decode cX5_requireCar 24 = .ok (.aload_n 2, 1) := by decide +kernel
theorem dX5_requireCar_25 : decode cX5_requireCar 25 = .ok (.areturn, 1) := by decide +kernel
set_option maxRecDepth 20000 in
theorem ggX5_requireStanding_X5_requireCar : GoodIn wsX5_requireStanding wsX5_requireCar := goodIn_ca (goodIn_r _ [7, 8, 9, 10, 11, 12, 13, 14, 15, 16, 17, 29, 30, 31, 32, 33, 34, 35, 36, 37, 38, 39, 40] (by decide +kernel) (by decide +kernel)) (goodIn_sub (fun _ h => List.mem_cons_of_mem _ (List.mem_append_right _ h)) (by decide +kernel))
set_option maxRecDepth 20000 in
theorem gX5_requireStanding_X5_requireCar : GoodIn wsX5_requireStanding (wsV RX5 81 RX5 yX5_requireCar wsX5_requireCar) := goodIn_app (goodIn_of _ (by decide +kernel)) ggX5_requireStanding_X5_requireCar
theorem dX5_requireStanding_0 : decode cX5_requireStanding 0 = .ok (.aload_n 0, 1) := by decide +kernel
theorem dX5_requireStanding_1 : decode cX5_requireStanding 1 = .ok (.iload_n 1, 1) := by decide +kernel
theorem dX5_requireStanding_2 : decode cX5_requireStanding 2 = .ok (.invokevirtual 81, 3) := by decide +kernel
theorem dX5_requireStanding_5 : decode cX5_requireStanding 5 = .ok (.astore_n 2, 1) := by decide +kernel
theorem dX5_requireStanding_6 : decode cX5_requireStanding 6 = .ok (.aload_n 2, 1) := by decide +kernel
theorem dX5_requireStanding_7 : decode cX5_requireStanding 7 = .ok (.getfield 87, 3) := by decide +kernel
theorem dX5_requireStanding_10 : decode cX5_requireStanding 10 = .ok (.bipush 115, 2) := by decide +kernel
theorem dX5_requireStanding_12 : decode cX5_requireStanding 12 = .ok (.if_icmp .eq 14, 3) := by decide +kernel
theorem dX5_requireStanding_15 : decode cX5_requireStanding 15 = .ok (.new 41, 3) := by decide +kernel
theorem dX5_requireStanding_18 : decode cX5_requireStanding 18 = .ok (.dup, 1) := by decide +kernel
theorem dX5_requireStanding_19 : decode cX5_requireStanding 19 = .ok (.ldc_w 276, 3) := by decide +kernel
theorem dX5_requireStanding_22 : decode cX5_requireStanding 22 = .ok (.invokespecial 45, 3) := by decide +kernel
theorem dX5_requireStanding_25 : decode cX5_requireStanding 25 = .ok (.athrow, 1) := by decide +kernel
theorem dX5_requireStanding_26 : decode cX5_requireStanding 26 = .ok (.aload_n 2, 1) := by decide +kernel
theorem dX5_requireStanding_27 : decode cX5_requireStanding 27 = .ok (.areturn, 1) := by decide +kernel
set_option maxRecDepth 20000 in
theorem ggX5_requireNotGone_X5_requireCar : GoodIn wsX5_requireNotGone wsX5_requireCar := goodIn_ca (goodIn_r _ [7, 8, 9, 10, 11, 12, 13, 14, 15, 16, 17, 29, 30, 31, 32, 33, 34, 35, 36, 37, 38, 39, 40] (by decide +kernel) (by decide +kernel)) (goodIn_sub (fun _ h => List.mem_cons_of_mem _ (List.mem_append_right _ h)) (by decide +kernel))
set_option maxRecDepth 20000 in
theorem gX5_requireNotGone_X5_requireCar : GoodIn wsX5_requireNotGone (wsV RX5 81 RX5 yX5_requireCar wsX5_requireCar) := goodIn_app (goodIn_of _ (by decide +kernel)) ggX5_requireNotGone_X5_requireCar
theorem dX5_requireNotGone_0 : decode cX5_requireNotGone 0 = .ok (.aload_n 0, 1) := by decide +kernel
theorem dX5_requireNotGone_1 : decode cX5_requireNotGone 1 = .ok (.iload_n 1, 1) := by decide +kernel
theorem dX5_requireNotGone_2 : decode cX5_requireNotGone 2 = .ok (.invokevirtual 81, 3) := by decide +kernel
theorem dX5_requireNotGone_5 : decode cX5_requireNotGone 5 = .ok (.getfield 87, 3) := by decide +kernel
theorem dX5_requireNotGone_8 : decode cX5_requireNotGone 8 = .ok (.bipush 100, 2) := by decide +kernel
theorem dX5_requireNotGone_10 : decode cX5_requireNotGone 10 = .ok (.if_icmp .ne 14, 3) := by decide +kernel
theorem dX5_requireNotGone_13 : decode cX5_requireNotGone 13 = .ok (.new 41, 3) := by decide +kernel
theorem dX5_requireNotGone_16 : decode cX5_requireNotGone 16 = .ok (.dup, 1) := by decide +kernel
theorem dX5_requireNotGone_17 : decode cX5_requireNotGone 17 = .ok (.ldc_w 278, 3) := by decide +kernel
theorem dX5_requireNotGone_20 : decode cX5_requireNotGone 20 = .ok (.invokespecial 45, 3) := by decide +kernel
theorem dX5_requireNotGone_23 : decode cX5_requireNotGone 23 = .ok (.athrow, 1) := by decide +kernel
theorem dX5_requireNotGone_24 : decode cX5_requireNotGone 24 = .ok (.return_, 1) := by decide +kernel
set_option maxRecDepth 20000 in
theorem ggX5_requireTrace_X5_requireCar : GoodIn wsX5_requireTrace wsX5_requireCar := goodIn_ca (goodIn_r _ [7, 1, 2, 8, 9, 10, 11, 12, 13, 14, 15, 27, 28, 29, 30, 31, 32, 33, 34, 35, 36, 37, 38] (by decide +kernel) (by decide +kernel)) (goodIn_sub (fun _ h => List.mem_cons_of_mem _ (List.mem_append_right _ h)) (by decide +kernel))
set_option maxRecDepth 20000 in
theorem gX5_requireTrace_X5_requireCar : GoodIn wsX5_requireTrace (wsV RX5 81 RX5 yX5_requireCar wsX5_requireCar) := goodIn_app (goodIn_of _ (by decide +kernel)) ggX5_requireTrace_X5_requireCar
theorem dX5_requireTrace_0 : decode cX5_requireTrace 0 = .ok (.aload_n 0, 1) := by decide +kernel
theorem dX5_requireTrace_1 : decode cX5_requireTrace 1 = .ok (.iload_n 1, 1) := by decide +kernel
theorem dX5_requireTrace_2 : decode cX5_requireTrace 2 = .ok (.invokevirtual 81, 3) := by decide +kernel
theorem dX5_requireTrace_5 : decode cX5_requireTrace 5 = .ok (.getfield 280, 3) := by decide +kernel
theorem dX5_requireTrace_8 : decode cX5_requireTrace 8 = .ok (.astore_n 2, 1) := by decide +kernel
theorem dX5_requireTrace_9 : decode cX5_requireTrace 9 = .ok (.aload_n 2, 1) := by decide +kernel
theorem dX5_requireTrace_10 : decode cX5_requireTrace 10 = .ok (.ifnonnull 14, 3) := by decide +kernel
theorem dX5_requireTrace_13 : decode cX5_requireTrace 13 = .ok (.new 213, 3) := by decide +kernel
theorem dX5_requireTrace_16 : decode cX5_requireTrace 16 = .ok (.dup, 1) := by decide +kernel
theorem dX5_requireTrace_17 : decode cX5_requireTrace 17 = .ok (.ldc_w 274, 3) := by decide +kernel
theorem dX5_requireTrace_20 : decode cX5_requireTrace 20 = .ok (.invokespecial 217, 3) := by decide +kernel
theorem dX5_requireTrace_23 : decode cX5_requireTrace 23 = .ok (.athrow, 1) := by decide +kernel
theorem dX5_requireTrace_24 : decode cX5_requireTrace 24 = .ok (.aload_n 2, 1) := by decide +kernel
theorem dX5_requireTrace_25 : decode cX5_requireTrace 25 = .ok (.areturn, 1) := by decide +kernel
set_option maxRecDepth 20000 in
theorem ggX5_requirePlace_X2_has : GoodIn wsX5_requirePlace wsX2_has := goodIn_r _ [7, 8, 9, 15, 16] (by decide +kernel) (by decide +kernel)
set_option maxRecDepth 20000 in
theorem gX5_requirePlace_X2_has : GoodIn wsX5_requirePlace (wsV RX5 284 RX2 yX2_has wsX2_has) := goodIn_app (goodIn_of _ (by decide +kernel)) ggX5_requirePlace_X2_has
set_option maxRecDepth 20000 in
theorem ggX5_requirePlace_X2_at : GoodIn wsX5_requirePlace wsX2_at := goodIn_ca (goodIn_r _ [13, 9, 14, 4, 5, 6, 7, 8, 15, 16] (by decide +kernel) (by decide +kernel)) (goodIn_sub (fun _ h => List.mem_cons_of_mem _ (List.mem_append_right _ h)) (by decide +kernel))
set_option maxRecDepth 20000 in
theorem gX5_requirePlace_X2_at : GoodIn wsX5_requirePlace (wsV RX5 210 RX2 yX2_at wsX2_at) := goodIn_app (goodIn_of _ (by decide +kernel)) ggX5_requirePlace_X2_at
theorem dX5_requirePlace_0 : decode cX5_requirePlace 0 = .ok (.aload_n 0, 1) := by decide +kernel
theorem dX5_requirePlace_1 : decode cX5_requirePlace 1 = .ok (.iload_n 1, 1) := by decide +kernel
theorem dX5_requirePlace_2 : decode cX5_requirePlace 2 = .ok (.invokevirtual 284, 3) := by decide +kernel
theorem dX5_requirePlace_5 : decode cX5_requirePlace 5 = .ok (.ifCond .ne 14, 3) := by decide +kernel
theorem dX5_requirePlace_8 : decode cX5_requirePlace 8 = .ok (.new 230, 3) := by decide +kernel
theorem dX5_requirePlace_11 : decode cX5_requirePlace 11 = .ok (.dup, 1) := by decide +kernel
theorem dX5_requirePlace_12 : decode cX5_requirePlace 12 = .ok (.ldc_w 285, 3) := by decide +kernel
theorem dX5_requirePlace_15 : decode cX5_requirePlace 15 = .ok (.invokespecial 234, 3) := by decide +kernel
theorem dX5_requirePlace_18 : decode cX5_requirePlace 18 = .ok (.athrow, 1) := by decide +kernel
theorem dX5_requirePlace_19 : decode cX5_requirePlace 19 = .ok (.aload_n 0, 1) := by decide +kernel
theorem dX5_requirePlace_20 : decode cX5_requirePlace 20 = .ok (.iload_n 1, 1) := by decide +kernel
theorem dX5_requirePlace_21 : decode cX5_requirePlace 21 = .ok (.invokevirtual 210, 3) := by decide +kernel
theorem dX5_requirePlace_24 : decode cX5_requirePlace 24 = .ok (.ireturn, 1) := by decide +kernel
theorem dX6_init_0 : decode cX6_init 0 = .ok (.aload_n 0, 1) := by decide +kernel
theorem dX6_init_1 : decode cX6_init 1 = .ok (.invokespecial 1, 3) := by decide +kernel
theorem dX6_init_4 : decode cX6_init 4 = .ok (.aload_n 0, 1) := by decide +kernel
theorem dX6_init_5 : decode cX6_init 5 = .ok (.bipush 8, 2) := by decide +kernel
theorem dX6_init_7 : decode cX6_init 7 = .ok (.newarray .int, 2) := by decide +kernel
theorem dX6_init_9 : decode cX6_init 9 = .ok (.putfield 7, 3) := by decide +kernel
theorem dX6_init_12 : decode cX6_init 12 = .ok (.aload_n 0, 1) := by decide +kernel
theorem dX6_init_13 : decode cX6_init 13 = .ok (.bipush 8, 2) := by decide +kernel
theorem dX6_init_15 : decode cX6_init 15 = .ok (.newarray .int, 2) := by decide +kernel
theorem dX6_init_17 : decode cX6_init 17 = .ok (.putfield 13, 3) := by decide +kernel
theorem dX6_init_20 : decode cX6_init 20 = .ok (.aload_n 0, 1) := by decide +kernel
theorem dX6_init_21 : decode cX6_init 21 = .ok (.bipush 8, 2) := by decide +kernel
theorem dX6_init_23 : decode cX6_init 23 = .ok (.newarray .int, 2) := by decide +kernel
theorem dX6_init_25 : decode cX6_init 25 = .ok (.putfield 16, 3) := by decide +kernel
theorem dX6_init_28 : decode cX6_init 28 = .ok (.aload_n 0, 1) := by decide +kernel
theorem dX6_init_29 : decode cX6_init 29 = .ok (.bipush 8, 2) := by decide +kernel
theorem dX6_init_31 : decode cX6_init 31 = .ok (.newarray .int, 2) := by decide +kernel
theorem dX6_init_33 : decode cX6_init 33 = .ok (.putfield 19, 3) := by decide +kernel
theorem dX6_init_36 : decode cX6_init 36 = .ok (.aload_n 0, 1) := by decide +kernel
theorem dX6_init_37 : decode cX6_init 37 = .ok (.bipush 8, 2) := by decide +kernel
theorem dX6_init_39 : decode cX6_init 39 = .ok (.newarray .int, 2) := by decide +kernel
theorem dX6_init_41 : decode cX6_init 41 = .ok (.putfield 22, 3) := by decide +kernel
theorem dX6_init_44 : decode cX6_init 44 = .ok (.aload_n 0, 1) := by decide +kernel
theorem dX6_init_45 : decode cX6_init 45 = .ok (.bipush 10, 2) := by decide +kernel
theorem dX6_init_47 : decode cX6_init 47 = .ok (.putfield 25, 3) := by decide +kernel
theorem dX6_init_50 : decode cX6_init 50 = .ok (.aload_n 0, 1) := by decide +kernel
theorem dX6_init_51 : decode cX6_init 51 = .ok (.bipush 30, 2) := by decide +kernel
theorem dX6_init_53 : decode cX6_init 53 = .ok (.newarray .int, 2) := by decide +kernel
theorem dX6_init_55 : decode cX6_init 55 = .ok (.putfield 29, 3) := by decide +kernel
theorem dX6_init_58 : decode cX6_init 58 = .ok (.aload_n 0, 1) := by decide +kernel
theorem dX6_init_59 : decode cX6_init 59 = .ok (.bipush 30, 2) := by decide +kernel
theorem dX6_init_61 : decode cX6_init 61 = .ok (.newarray .int, 2) := by decide +kernel
theorem dX6_init_63 : decode cX6_init 63 = .ok (.putfield 32, 3) := by decide +kernel
theorem dX6_init_66 : decode cX6_init 66 = .ok (.aload_n 0, 1) := by decide +kernel
theorem dX6_init_67 : decode cX6_init 67 = .ok (.bipush 30, 2) := by decide +kernel
theorem dX6_init_69 : decode cX6_init 69 = .ok (.newarray .int, 2) := by decide +kernel
theorem dX6_init_71 : decode cX6_init 71 = .ok (.putfield 35, 3) := by decide +kernel
theorem dX6_init_74 : decode cX6_init 74 = .ok (.aload_n 0, 1) := by decide +kernel
theorem dX6_init_75 : decode cX6_init 75 = .ok (.bipush 30, 2) := by decide +kernel
theorem dX6_init_77 : decode cX6_init 77 = .ok (.newarray .int, 2) := by decide +kernel
theorem dX6_init_79 : decode cX6_init 79 = .ok (.putfield 38, 3) := by decide +kernel
theorem dX6_init_82 : decode cX6_init 82 = .ok (.aload_n 0, 1) := by decide +kernel
theorem dX6_init_83 : decode cX6_init 83 = .ok (.sipush 237, 3) := by decide +kernel
theorem dX6_init_86 : decode cX6_init 86 = .ok (.newarray .int, 2) := by decide +kernel
theorem dX6_init_88 : decode cX6_init 88 = .ok (.putfield 41, 3) := by decide +kernel
theorem dX6_init_91 : decode cX6_init 91 = .ok (.aload_n 0, 1) := by decide +kernel
theorem dX6_init_92 : decode cX6_init 92 = .ok (.sipush 237, 3) := by decide +kernel
theorem dX6_init_95 : decode cX6_init 95 = .ok (.newarray .int, 2) := by decide +kernel
theorem dX6_init_97 : decode cX6_init 97 = .ok (.putfield 44, 3) := by decide +kernel
theorem dX6_init_100 : decode cX6_init 100 = .ok (.aload_n 0, 1) := by decide +kernel
theorem dX6_init_101 : decode cX6_init 101 = .ok (.bipush 64, 2) := by decide +kernel
theorem dX6_init_103 : decode cX6_init 103 = .ok (.newarray .char, 2) := by decide +kernel
theorem dX6_init_105 : decode cX6_init 105 = .ok (.putfield 47, 3) := by decide +kernel
theorem dX6_init_108 : decode cX6_init 108 = .ok (.aload_n 0, 1) := by decide +kernel
theorem dX6_init_109 : decode cX6_init 109 = .ok (.bipush 64, 2) := by decide +kernel
theorem dX6_init_111 : decode cX6_init 111 = .ok (.newarray .int, 2) := by decide +kernel
theorem dX6_init_113 : decode cX6_init 113 = .ok (.putfield 51, 3) := by decide +kernel
theorem dX6_init_116 : decode cX6_init 116 = .ok (.return_, 1) := by decide +kernel
theorem dX6_thrown_0 : decode cX6_thrown 0 = .ok (.aload_n 0, 1) := by decide +kernel
theorem dX6_thrown_1 : decode cX6_thrown 1 = .ok (.getfield 54, 3) := by decide +kernel
theorem dX6_thrown_4 : decode cX6_thrown 4 = .ok (.ireturn, 1) := by decide +kernel
theorem dX6_in_0 : decode cX6_in 0 = .ok (.lload_n 0, 1) := by decide +kernel
theorem dX6_in_1 : decode cX6_in 1 = .ok (.lload_n 2, 1) := by decide +kernel
theorem dX6_in_2 : decode cX6_in 2 = .ok (.lcmp, 1) := by decide +kernel
theorem dX6_in_3 : decode cX6_in 3 = .ok (.ifCond .lt 14, 3) := by decide +kernel
theorem dX6_in_6 : decode cX6_in 6 = .ok (.lload_n 0, 1) := by decide +kernel
theorem dX6_in_7 : decode cX6_in 7 = .ok (.lload 4, 2) := by decide +kernel
theorem dX6_in_9 : decode cX6_in 9 = .ok (.lcmp, 1) := by decide +kernel
theorem dX6_in_10 : decode cX6_in 10 = .ok (.ifCond .gt 7, 3) := by decide +kernel
theorem dX6_in_13 : decode cX6_in 13 = .ok (.iconst 1, 1) := by decide +kernel
theorem dX6_in_14 : decode cX6_in 14 = .ok (.goto 4, 3) := by decide +kernel
theorem dX6_in_17 : decode cX6_in 17 = .ok (.iconst 0, 1) := by decide +kernel
theorem dX6_in_18 : decode cX6_in 18 = .ok (.ireturn, 1) := by decide +kernel
set_option maxRecDepth 20000 in
theorem ggX6_addStation_X6_in : GoodIn wsX6_addStation wsX6_in := goodIn_r _ [16] (by decide +kernel) (by decide +kernel)
set_option maxRecDepth 20000 in
theorem gX6_addStation_X6_in : GoodIn wsX6_addStation (va_wsS RX6 59 yX6_in wsX6_in) := goodIn_app (goodIn_of _ (by decide +kernel)) ggX6_addStation_X6_in
theorem dX6_addStation_0 : decode cX6_addStation 0 = .ok (.iload_n 1, 1) := by decide +kernel
theorem dX6_addStation_1 : decode cX6_addStation 1 = .ok (.i2l, 1) := by decide +kernel
theorem dX6_addStation_2 : decode cX6_addStation 2 = .ok (.lconst 1, 1) := by decide +kernel
theorem dX6_addStation_3 : decode cX6_addStation 3 = .ok (.ldc2_w 57, 3) := by decide +kernel
theorem dX6_addStation_6 : decode cX6_addStation 6 = .ok (.invokestatic 59, 3) := by decide +kernel
theorem dX6_addStation_9 : decode cX6_addStation 9 = .ok (.ifCond .eq 53, 3) := by decide +kernel
theorem dX6_addStation_12 : decode cX6_addStation 12 = .ok (.iload_n 2, 1) := by decide +kernel
theorem dX6_addStation_13 : decode cX6_addStation 13 = .ok (.i2l, 1) := by decide +kernel
theorem dX6_addStation_14 : decode cX6_addStation 14 = .ok (.ldc2_w 63, 3) := by decide +kernel
theorem dX6_addStation_17 : decode cX6_addStation 17 = .ok (.ldc2_w 65, 3) := by decide +kernel
theorem dX6_addStation_20 : decode cX6_addStation 20 = .ok (.invokestatic 59, 3) := by decide +kernel
theorem dX6_addStation_23 : decode cX6_addStation 23 = .ok (.ifCond .eq 39, 3) := by decide +kernel
theorem dX6_addStation_26 : decode cX6_addStation 26 = .ok (.iload_n 2, 1) := by decide +kernel
theorem dX6_addStation_27 : decode cX6_addStation 27 = .ok (.iconst (-1), 1) := by decide +kernel
theorem dX6_addStation_28 : decode cX6_addStation 28 = .ok (.if_icmp .eq 30, 3) := by decide +kernel
theorem dX6_addStation_31 : decode cX6_addStation 31 = .ok (.iload_n 3, 1) := by decide +kernel
theorem dX6_addStation_32 : decode cX6_addStation 32 = .ok (.i2l, 1) := by decide +kernel
theorem dX6_addStation_33 : decode cX6_addStation 33 = .ok (.lconst 1, 1) := by decide +kernel
theorem dX6_addStation_34 : decode cX6_addStation 34 = .ok (.ldc2_w 67, 3) := by decide +kernel
theorem dX6_addStation_37 : decode cX6_addStation 37 = .ok (.invokestatic 59, 3) := by decide +kernel
theorem dX6_addStation_40 : decode cX6_addStation 40 = .ok (.ifCond .eq 22, 3) := by decide +kernel
theorem dX6_addStation_43 : decode cX6_addStation 43 = .ok (.iload 4, 2) := by decide +kernel
theorem dX6_addStation_45 : decode cX6_addStation 45 = .ok (.i2l, 1) := by decide +kernel
theorem dX6_addStation_46 : decode cX6_addStation 46 = .ok (.ldc2_w 67, 3) := by decide +kernel
theorem dX6_addStation_49 : decode cX6_addStation 49 = .ok (.ldc2_w 69, 3) := by decide +kernel
theorem dX6_addStation_52 : decode cX6_addStation 52 = .ok (.invokestatic 59, 3) := by decide +kernel
theorem dX6_addStation_55 : decode cX6_addStation 55 = .ok (.ifCond .eq 7, 3) := by decide +kernel
theorem dX6_addStation_58 : decode cX6_addStation 58 = .ok (.iconst 1, 1) := by decide +kernel
theorem dX6_addStation_59 : decode cX6_addStation 59 = .ok (.goto 4, 3) := by decide +kernel
theorem dX6_addStation_62 : decode cX6_addStation 62 = .ok (.iconst 0, 1) := by decide +kernel
theorem dX6_addStation_63 : decode cX6_addStation 63 = .ok (.istore 5, 2) := by decide +kernel
theorem dX6_addStation_65 : decode cX6_addStation 65 = .ok (.aload_n 0, 1) := by decide +kernel
theorem dX6_addStation_66 : decode cX6_addStation 66 = .ok (.iload 5, 2) := by decide +kernel
theorem dX6_addStation_68 : decode cX6_addStation 68 = .ok (.ifCond .ne 7, 3) := by decide +kernel
theorem dX6_addStation_71 : decode cX6_addStation 71 = .ok (.iconst 1, 1) := by decide +kernel
theorem dX6_addStation_72 : decode cX6_addStation 72 = .ok (.goto 28, 3) := by decide +kernel
theorem dX6_addStation_75 : decode cX6_addStation 75 = .ok (.aload_n 0, 1) := by decide +kernel
theorem dX6_addStation_76 : decode cX6_addStation 76 = .ok (.getfield 71, 3) := by decide +kernel
theorem dX6_addStation_79 : decode cX6_addStation 79 = .ok (.bipush 8, 2) := by decide +kernel
theorem dX6_addStation_81 : decode cX6_addStation 81 = .ok (.if_icmp .eq 14, 3) := by decide +kernel
theorem dX6_addStation_84 : decode cX6_addStation 84 = .ok (.aload_n 0, 1) := by decide +kernel
theorem dX6_addStation_85 : decode cX6_addStation 85 = .ok (.getfield 41, 3) := by decide +kernel
theorem dX6_addStation_88 : decode cX6_addStation 88 = .ok (.sipush 232, 3) := by decide +kernel
theorem dX6_addStation_91 : decode cX6_addStation 91 = .ok (.iaload, 1) := by decide +kernel
theorem dX6_addStation_92 : decode cX6_addStation 92 = .ok (.ifCond .le 7, 3) := by decide +kernel
theorem dX6_addStation_95 : decode cX6_addStation 95 = .ok (.iconst 2, 1) := by decide +kernel
theorem dX6_addStation_96 : decode cX6_addStation 96 = .ok (.goto 4, 3) := by decide +kernel
theorem dX6_addStation_99 : decode cX6_addStation 99 = .ok (.iconst 0, 1) := by decide +kernel
theorem dX6_addStation_100 : decode cX6_addStation 100 = .ok (.putfield 54, 3) := by decide +kernel
theorem dX6_addStation_103 : decode cX6_addStation 103 = .ok (.aload_n 0, 1) := by decide +kernel
theorem dX6_addStation_104 : decode cX6_addStation 104 = .ok (.getfield 54, 3) := by decide +kernel
theorem dX6_addStation_107 : decode cX6_addStation 107 = .ok (.ifCond .le 5, 3) := by decide +kernel
theorem dX6_addStation_110 : decode cX6_addStation 110 = .ok (.iconst (-1), 1) := by decide +kernel
theorem dX6_addStation_111 : decode cX6_addStation 111 = .ok (.ireturn, 1) := by decide +kernel
theorem dX6_addStation_112 : decode cX6_addStation 112 = .ok (.aload_n 0, 1) := by decide +kernel
theorem dX6_addStation_113 : decode cX6_addStation 113 = .ok (.getfield 7, 3) := by decide +kernel
theorem dX6_addStation_116 : decode cX6_addStation 116 = .ok (.aload_n 0, 1) := by decide +kernel
theorem dX6_addStation_117 : decode cX6_addStation 117 = .ok (.getfield 71, 3) := by decide +kernel
theorem dX6_addStation_120 : decode cX6_addStation 120 = .ok (.iload_n 1, 1) := by decide +kernel
theorem dX6_addStation_121 : decode cX6_addStation 121 = .ok (.iastore, 1) := by decide +kernel
theorem dX6_addStation_122 : decode cX6_addStation 122 = .ok (.aload_n 0, 1) := by decide +kernel
theorem dX6_addStation_123 : decode cX6_addStation 123 = .ok (.getfield 13, 3) := by decide +kernel
theorem dX6_addStation_126 : decode cX6_addStation 126 = .ok (.aload_n 0, 1) := by decide +kernel
theorem dX6_addStation_127 : decode cX6_addStation 127 = .ok (.getfield 71, 3) := by decide +kernel
theorem dX6_addStation_130 : decode cX6_addStation 130 = .ok (.iload_n 2, 1) := by decide +kernel
theorem dX6_addStation_131 : decode cX6_addStation 131 = .ok (.iastore, 1) := by decide +kernel
theorem dX6_addStation_132 : decode cX6_addStation 132 = .ok (.aload_n 0, 1) := by decide +kernel
theorem dX6_addStation_133 : decode cX6_addStation 133 = .ok (.getfield 16, 3) := by decide +kernel
theorem dX6_addStation_136 : decode cX6_addStation 136 = .ok (.aload_n 0, 1) := by decide +kernel
theorem dX6_addStation_137 : decode cX6_addStation 137 = .ok (.getfield 71, 3) := by decide +kernel
theorem dX6_addStation_140 : decode cX6_addStation 140 = .ok (.iload_n 3, 1) := by decide +kernel
theorem dX6_addStation_141 : decode cX6_addStation 141 = .ok (.iastore, 1) := by decide +kernel
theorem dX6_addStation_142 : decode cX6_addStation 142 = .ok (.aload_n 0, 1) := by decide +kernel
theorem dX6_addStation_143 : decode cX6_addStation 143 = .ok (.getfield 19, 3) := by decide +kernel
theorem dX6_addStation_146 : decode cX6_addStation 146 = .ok (.aload_n 0, 1) := by decide +kernel
theorem dX6_addStation_147 : decode cX6_addStation 147 = .ok (.getfield 71, 3) := by decide +kernel
theorem dX6_addStation_150 : decode cX6_addStation 150 = .ok (.iload 4, 2) := by decide +kernel
theorem dX6_addStation_152 : decode cX6_addStation 152 = .ok (.iastore, 1) := by decide +kernel
theorem dX6_addStation_153 : decode cX6_addStation 153 = .ok (.aload_n 0, 1) := by decide +kernel
theorem dX6_addStation_154 : decode cX6_addStation 154 = .ok (.getfield 41, 3) := by decide +kernel
theorem dX6_addStation_157 : decode cX6_addStation 157 = .ok (.bipush 14, 2) := by decide +kernel
theorem dX6_addStation_159 : decode cX6_addStation 159 = .ok (.aload_n 0, 1) := by decide +kernel
theorem dX6_addStation_160 : decode cX6_addStation 160 = .ok (.getfield 71, 3) := by decide +kernel
theorem dX6_addStation_163 : decode cX6_addStation 163 = .ok (.iadd, 1) := by decide +kernel
theorem dX6_addStation_164 : decode cX6_addStation 164 = .ok (.iconst (-1), 1) := by decide +kernel
theorem dX6_addStation_165 : decode cX6_addStation 165 = .ok (.iastore, 1) := by decide +kernel
theorem dX6_addStation_166 : decode cX6_addStation 166 = .ok (.aload_n 0, 1) := by decide +kernel
theorem dX6_addStation_167 : decode cX6_addStation 167 = .ok (.dup, 1) := by decide +kernel
theorem dX6_addStation_168 : decode cX6_addStation 168 = .ok (.getfield 71, 3) := by decide +kernel
theorem dX6_addStation_171 : decode cX6_addStation 171 = .ok (.iconst 1, 1) := by decide +kernel
theorem dX6_addStation_172 : decode cX6_addStation 172 = .ok (.iadd, 1) := by decide +kernel
theorem dX6_addStation_173 : decode cX6_addStation 173 = .ok (.putfield 71, 3) := by decide +kernel
theorem dX6_addStation_176 : decode cX6_addStation 176 = .ok (.aload_n 0, 1) := by decide +kernel
theorem dX6_addStation_177 : decode cX6_addStation 177 = .ok (.getfield 71, 3) := by decide +kernel
theorem dX6_addStation_180 : decode cX6_addStation 180 = .ok (.iconst 1, 1) := by decide +kernel
theorem dX6_addStation_181 : decode cX6_addStation 181 = .ok (.isub, 1) := by decide +kernel
theorem dX6_addStation_182 : decode cX6_addStation 182 = .ok (.ireturn, 1) := by decide +kernel
set_option maxRecDepth 20000 in
theorem ggX6_isPart_X6_in : GoodIn wsX6_isPart wsX6_in := goodIn_r _ [5] (by decide +kernel) (by decide +kernel)
set_option maxRecDepth 20000 in
theorem gX6_isPart_X6_in : GoodIn wsX6_isPart (va_wsS RX6 59 yX6_in wsX6_in) := goodIn_app (goodIn_of _ (by decide +kernel)) ggX6_isPart_X6_in
theorem dX6_isPart_0 : decode cX6_isPart 0 = .ok (.iload_n 0, 1) := by decide +kernel
theorem dX6_isPart_1 : decode cX6_isPart 1 = .ok (.i2l, 1) := by decide +kernel
theorem dX6_isPart_2 : decode cX6_isPart 2 = .ok (.lconst 0, 1) := by decide +kernel
theorem dX6_isPart_3 : decode cX6_isPart 3 = .ok (.ldc2_w 65, 3) := by decide +kernel
theorem dX6_isPart_6 : decode cX6_isPart 6 = .ok (.invokestatic 59, 3) := by decide +kernel
theorem dX6_isPart_9 : decode cX6_isPart 9 = .ok (.ireturn, 1) := by decide +kernel
set_option maxRecDepth 20000 in
theorem ggX6_supply_X6_isPart : GoodIn wsX6_supply wsX6_isPart := goodIn_r _ [7, 8, 9, 10, 6, 11] (by decide +kernel) (by decide +kernel)
set_option maxRecDepth 20000 in
theorem gX6_supply_X6_isPart : GoodIn wsX6_supply (va_wsS RX6 74 yX6_isPart wsX6_isPart) := goodIn_app (goodIn_of _ (by decide +kernel)) ggX6_supply_X6_isPart
set_option maxRecDepth 20000 in
theorem ggX6_supply_X6_in : GoodIn wsX6_supply wsX6_in := goodIn_r _ [11] (by decide +kernel) (by decide +kernel)
set_option maxRecDepth 20000 in
theorem gX6_supply_X6_in : GoodIn wsX6_supply (va_wsS RX6 59 yX6_in wsX6_in) := goodIn_app (goodIn_of _ (by decide +kernel)) ggX6_supply_X6_in
theorem dX6_supply_0 : decode cX6_supply 0 = .ok (.aload_n 0, 1) := by decide +kernel
theorem dX6_supply_1 : decode cX6_supply 1 = .ok (.iload_n 1, 1) := by decide +kernel
theorem dX6_supply_2 : decode cX6_supply 2 = .ok (.invokestatic 74, 3) := by decide +kernel
theorem dX6_supply_5 : decode cX6_supply 5 = .ok (.ifCond .ne 7, 3) := by decide +kernel
theorem dX6_supply_8 : decode cX6_supply 8 = .ok (.iconst 1, 1) := by decide +kernel
theorem dX6_supply_9 : decode cX6_supply 9 = .ok (.goto 38, 3) := by decide +kernel
theorem dX6_supply_12 : decode cX6_supply 12 = .ok (.iload_n 2, 1) := by decide +kernel
theorem dX6_supply_13 : decode cX6_supply 13 = .ok (.i2l, 1) := by decide +kernel
theorem dX6_supply_14 : decode cX6_supply 14 = .ok (.lconst 1, 1) := by decide +kernel
theorem dX6_supply_15 : decode cX6_supply 15 = .ok (.ldc2_w 78, 3) := by decide +kernel
theorem dX6_supply_18 : decode cX6_supply 18 = .ok (.invokestatic 59, 3) := by decide +kernel
theorem dX6_supply_21 : decode cX6_supply 21 = .ok (.ifCond .ne 7, 3) := by decide +kernel
theorem dX6_supply_24 : decode cX6_supply 24 = .ok (.iconst 2, 1) := by decide +kernel
theorem dX6_supply_25 : decode cX6_supply 25 = .ok (.goto 22, 3) := by decide +kernel
theorem dX6_supply_28 : decode cX6_supply 28 = .ok (.aload_n 0, 1) := by decide +kernel
theorem dX6_supply_29 : decode cX6_supply 29 = .ok (.getfield 41, 3) := by decide +kernel
theorem dX6_supply_32 : decode cX6_supply 32 = .ok (.iload_n 1, 1) := by decide +kernel
theorem dX6_supply_33 : decode cX6_supply 33 = .ok (.iaload, 1) := by decide +kernel
theorem dX6_supply_34 : decode cX6_supply 34 = .ok (.iload_n 2, 1) := by decide +kernel
theorem dX6_supply_35 : decode cX6_supply 35 = .ok (.iadd, 1) := by decide +kernel
theorem dX6_supply_36 : decode cX6_supply 36 = .ok (.sipush 999, 3) := by decide +kernel
theorem dX6_supply_39 : decode cX6_supply 39 = .ok (.if_icmp .le 7, 3) := by decide +kernel
theorem dX6_supply_42 : decode cX6_supply 42 = .ok (.iconst 3, 1) := by decide +kernel
theorem dX6_supply_43 : decode cX6_supply 43 = .ok (.goto 4, 3) := by decide +kernel
theorem dX6_supply_46 : decode cX6_supply 46 = .ok (.iconst 0, 1) := by decide +kernel
theorem dX6_supply_47 : decode cX6_supply 47 = .ok (.putfield 54, 3) := by decide +kernel
theorem dX6_supply_50 : decode cX6_supply 50 = .ok (.aload_n 0, 1) := by decide +kernel
theorem dX6_supply_51 : decode cX6_supply 51 = .ok (.getfield 54, 3) := by decide +kernel
theorem dX6_supply_54 : decode cX6_supply 54 = .ok (.ifCond .le 5, 3) := by decide +kernel
theorem dX6_supply_57 : decode cX6_supply 57 = .ok (.iconst (-1), 1) := by decide +kernel
theorem dX6_supply_58 : decode cX6_supply 58 = .ok (.ireturn, 1) := by decide +kernel
theorem dX6_supply_59 : decode cX6_supply 59 = .ok (.aload_n 0, 1) := by decide +kernel
theorem dX6_supply_60 : decode cX6_supply 60 = .ok (.getfield 41, 3) := by decide +kernel
theorem dX6_supply_63 : decode cX6_supply 63 = .ok (.iload_n 1, 1) := by decide +kernel
theorem dX6_supply_64 : decode cX6_supply 64 = .ok (.dup2, 1) := by decide +kernel
theorem dX6_supply_65 : decode cX6_supply 65 = .ok (.iaload, 1) := by decide +kernel
theorem dX6_supply_66 : decode cX6_supply 66 = .ok (.iload_n 2, 1) := by decide +kernel
theorem dX6_supply_67 : decode cX6_supply 67 = .ok (.iadd, 1) := by decide +kernel
theorem dX6_supply_68 : decode cX6_supply 68 = .ok (.iastore, 1) := by decide +kernel
theorem dX6_supply_69 : decode cX6_supply 69 = .ok (.aload_n 0, 1) := by decide +kernel
theorem dX6_supply_70 : decode cX6_supply 70 = .ok (.getfield 41, 3) := by decide +kernel
theorem dX6_supply_73 : decode cX6_supply 73 = .ok (.iload_n 1, 1) := by decide +kernel
theorem dX6_supply_74 : decode cX6_supply 74 = .ok (.iaload, 1) := by decide +kernel
theorem dX6_supply_75 : decode cX6_supply 75 = .ok (.ireturn, 1) := by decide +kernel
set_option maxRecDepth 20000 in
theorem ggX6_setPeriod_X6_in : GoodIn wsX6_setPeriod wsX6_in := goodIn_r _ [7] (by decide +kernel) (by decide +kernel)
set_option maxRecDepth 20000 in
theorem gX6_setPeriod_X6_in : GoodIn wsX6_setPeriod (va_wsS RX6 59 yX6_in wsX6_in) := goodIn_app (goodIn_of _ (by decide +kernel)) ggX6_setPeriod_X6_in
theorem dX6_setPeriod_0 : decode cX6_setPeriod 0 = .ok (.aload_n 0, 1) := by decide +kernel
theorem dX6_setPeriod_1 : decode cX6_setPeriod 1 = .ok (.iload_n 1, 1) := by decide +kernel
theorem dX6_setPeriod_2 : decode cX6_setPeriod 2 = .ok (.i2l, 1) := by decide +kernel
theorem dX6_setPeriod_3 : decode cX6_setPeriod 3 = .ok (.lconst 1, 1) := by decide +kernel
theorem dX6_setPeriod_4 : decode cX6_setPeriod 4 = .ok (.ldc2_w 80, 3) := by decide +kernel
theorem dX6_setPeriod_7 : decode cX6_setPeriod 7 = .ok (.invokestatic 59, 3) := by decide +kernel
theorem dX6_setPeriod_10 : decode cX6_setPeriod 10 = .ok (.ifCond .eq 7, 3) := by decide +kernel
theorem dX6_setPeriod_13 : decode cX6_setPeriod 13 = .ok (.iconst 0, 1) := by decide +kernel
theorem dX6_setPeriod_14 : decode cX6_setPeriod 14 = .ok (.goto 4, 3) := by decide +kernel
theorem dX6_setPeriod_17 : decode cX6_setPeriod 17 = .ok (.iconst 1, 1) := by decide +kernel
theorem dX6_setPeriod_18 : decode cX6_setPeriod 18 = .ok (.putfield 54, 3) := by decide +kernel
theorem dX6_setPeriod_21 : decode cX6_setPeriod 21 = .ok (.aload_n 0, 1) := by decide +kernel
theorem dX6_setPeriod_22 : decode cX6_setPeriod 22 = .ok (.getfield 25, 3) := by decide +kernel
theorem dX6_setPeriod_25 : decode cX6_setPeriod 25 = .ok (.istore_n 2, 1) := by decide +kernel
theorem dX6_setPeriod_26 : decode cX6_setPeriod 26 = .ok (.aload_n 0, 1) := by decide +kernel
theorem dX6_setPeriod_27 : decode cX6_setPeriod 27 = .ok (.aload_n 0, 1) := by decide +kernel
theorem dX6_setPeriod_28 : decode cX6_setPeriod 28 = .ok (.getfield 54, 3) := by decide +kernel
theorem dX6_setPeriod_31 : decode cX6_setPeriod 31 = .ok (.ifCond .ne 7, 3) := by decide +kernel
theorem dX6_setPeriod_34 : decode cX6_setPeriod 34 = .ok (.iload_n 1, 1) := by decide +kernel
theorem dX6_setPeriod_35 : decode cX6_setPeriod 35 = .ok (.goto 7, 3) := by decide +kernel
theorem dX6_setPeriod_38 : decode cX6_setPeriod 38 = .ok (.aload_n 0, 1) := by decide +kernel
theorem dX6_setPeriod_39 : decode cX6_setPeriod 39 = .ok (.getfield 25, 3) := by decide +kernel
theorem dX6_setPeriod_42 : decode cX6_setPeriod 42 = .ok (.putfield 25, 3) := by decide +kernel
theorem dX6_setPeriod_45 : decode cX6_setPeriod 45 = .ok (.aload_n 0, 1) := by decide +kernel
theorem dX6_setPeriod_46 : decode cX6_setPeriod 46 = .ok (.getfield 54, 3) := by decide +kernel
theorem dX6_setPeriod_49 : decode cX6_setPeriod 49 = .ok (.ifCond .ne 7, 3) := by decide +kernel
theorem dX6_setPeriod_52 : decode cX6_setPeriod 52 = .ok (.iload_n 2, 1) := by decide +kernel
theorem dX6_setPeriod_53 : decode cX6_setPeriod 53 = .ok (.goto 4, 3) := by decide +kernel
theorem dX6_setPeriod_56 : decode cX6_setPeriod 56 = .ok (.iconst (-1), 1) := by decide +kernel
theorem dX6_setPeriod_57 : decode cX6_setPeriod 57 = .ok (.ireturn, 1) := by decide +kernel
set_option maxRecDepth 20000 in
theorem ggX6_addCar_X6_in : GoodIn wsX6_addCar wsX6_in := goodIn_r _ [10] (by decide +kernel) (by decide +kernel)
set_option maxRecDepth 20000 in
theorem gX6_addCar_X6_in : GoodIn wsX6_addCar (va_wsS RX6 59 yX6_in wsX6_in) := goodIn_app (goodIn_of _ (by decide +kernel)) ggX6_addCar_X6_in
theorem dX6_addCar_0 : decode cX6_addCar 0 = .ok (.aload_n 0, 1) := by decide +kernel
theorem dX6_addCar_1 : decode cX6_addCar 1 = .ok (.iload_n 1, 1) := by decide +kernel
theorem dX6_addCar_2 : decode cX6_addCar 2 = .ok (.i2l, 1) := by decide +kernel
theorem dX6_addCar_3 : decode cX6_addCar 3 = .ok (.lconst 0, 1) := by decide +kernel
theorem dX6_addCar_4 : decode cX6_addCar 4 = .ok (.ldc2_w 82, 3) := by decide +kernel
theorem dX6_addCar_7 : decode cX6_addCar 7 = .ok (.invokestatic 59, 3) := by decide +kernel
theorem dX6_addCar_10 : decode cX6_addCar 10 = .ok (.ifCond .ne 7, 3) := by decide +kernel
theorem dX6_addCar_13 : decode cX6_addCar 13 = .ok (.iconst 1, 1) := by decide +kernel
theorem dX6_addCar_14 : decode cX6_addCar 14 = .ok (.goto 24, 3) := by decide +kernel
theorem dX6_addCar_17 : decode cX6_addCar 17 = .ok (.aload_n 0, 1) := by decide +kernel
theorem dX6_addCar_18 : decode cX6_addCar 18 = .ok (.getfield 84, 3) := by decide +kernel
theorem dX6_addCar_21 : decode cX6_addCar 21 = .ok (.bipush 30, 2) := by decide +kernel
theorem dX6_addCar_23 : decode cX6_addCar 23 = .ok (.if_icmp .eq 10, 3) := by decide +kernel
theorem dX6_addCar_26 : decode cX6_addCar 26 = .ok (.aload_n 0, 1) := by decide +kernel
theorem dX6_addCar_27 : decode cX6_addCar 27 = .ok (.getfield 71, 3) := by decide +kernel
theorem dX6_addCar_30 : decode cX6_addCar 30 = .ok (.ifCond .ne 7, 3) := by decide +kernel
theorem dX6_addCar_33 : decode cX6_addCar 33 = .ok (.iconst 2, 1) := by decide +kernel
theorem dX6_addCar_34 : decode cX6_addCar 34 = .ok (.goto 4, 3) := by decide +kernel
theorem dX6_addCar_37 : decode cX6_addCar 37 = .ok (.iconst 0, 1) := by decide +kernel
theorem dX6_addCar_38 : decode cX6_addCar 38 = .ok (.putfield 54, 3) := by decide +kernel
theorem dX6_addCar_41 : decode cX6_addCar 41 = .ok (.aload_n 0, 1) := by decide +kernel
theorem dX6_addCar_42 : decode cX6_addCar 42 = .ok (.getfield 54, 3) := by decide +kernel
theorem dX6_addCar_45 : decode cX6_addCar 45 = .ok (.ifCond .le 5, 3) := by decide +kernel
theorem dX6_addCar_48 : decode cX6_addCar 48 = .ok (.iconst (-1), 1) := by decide +kernel
theorem dX6_addCar_49 : decode cX6_addCar 49 = .ok (.ireturn, 1) := by decide +kernel
theorem dX6_addCar_50 : decode cX6_addCar 50 = .ok (.aload_n 0, 1) := by decide +kernel
theorem dX6_addCar_51 : decode cX6_addCar 51 = .ok (.getfield 29, 3) := by decide +kernel
theorem dX6_addCar_54 : decode cX6_addCar 54 = .ok (.aload_n 0, 1) := by decide +kernel
theorem dX6_addCar_55 : decode cX6_addCar 55 = .ok (.getfield 84, 3) := by decide +kernel
theorem dX6_addCar_58 : decode cX6_addCar 58 = .ok (.iload_n 1, 1) := by decide +kernel
theorem dX6_addCar_59 : decode cX6_addCar 59 = .ok (.iastore, 1) := by decide +kernel
theorem dX6_addCar_60 : decode cX6_addCar 60 = .ok (.aload_n 0, 1) := by decide +kernel
theorem dX6_addCar_61 : decode cX6_addCar 61 = .ok (.getfield 41, 3) := by decide +kernel
theorem dX6_addCar_64 : decode cX6_addCar 64 = .ok (.bipush 82, 2) := by decide +kernel
theorem dX6_addCar_66 : decode cX6_addCar 66 = .ok (.aload_n 0, 1) := by decide +kernel
theorem dX6_addCar_67 : decode cX6_addCar 67 = .ok (.getfield 84, 3) := by decide +kernel
theorem dX6_addCar_70 : decode cX6_addCar 70 = .ok (.iadd, 1) := by decide +kernel
theorem dX6_addCar_71 : decode cX6_addCar 71 = .ok (.bipush 119, 2) := by decide +kernel
theorem dX6_addCar_73 : decode cX6_addCar 73 = .ok (.iastore, 1) := by decide +kernel
theorem dX6_addCar_74 : decode cX6_addCar 74 = .ok (.aload_n 0, 1) := by decide +kernel
theorem dX6_addCar_75 : decode cX6_addCar 75 = .ok (.getfield 41, 3) := by decide +kernel
theorem dX6_addCar_78 : decode cX6_addCar 78 = .ok (.sipush 142, 3) := by decide +kernel
theorem dX6_addCar_81 : decode cX6_addCar 81 = .ok (.aload_n 0, 1) := by decide +kernel
theorem dX6_addCar_82 : decode cX6_addCar 82 = .ok (.getfield 41, 3) := by decide +kernel
theorem dX6_addCar_85 : decode cX6_addCar 85 = .ok (.sipush 233, 3) := by decide +kernel
theorem dX6_addCar_88 : decode cX6_addCar 88 = .ok (.iaload, 1) := by decide +kernel
theorem dX6_addCar_89 : decode cX6_addCar 89 = .ok (.iadd, 1) := by decide +kernel
theorem dX6_addCar_90 : decode cX6_addCar 90 = .ok (.aload_n 0, 1) := by decide +kernel
theorem dX6_addCar_91 : decode cX6_addCar 91 = .ok (.getfield 84, 3) := by decide +kernel
theorem dX6_addCar_94 : decode cX6_addCar 94 = .ok (.iastore, 1) := by decide +kernel
theorem dX6_addCar_95 : decode cX6_addCar 95 = .ok (.aload_n 0, 1) := by decide +kernel
theorem dX6_addCar_96 : decode cX6_addCar 96 = .ok (.getfield 41, 3) := by decide +kernel
theorem dX6_addCar_99 : decode cX6_addCar 99 = .ok (.sipush 233, 3) := by decide +kernel
theorem dX6_addCar_102 : decode cX6_addCar 102 = .ok (.dup2, 1) := by decide +kernel
theorem dX6_addCar_103 : decode cX6_addCar 103 = .ok (.iaload, 1) := by decide +kernel
theorem dX6_addCar_104 : decode cX6_addCar 104 = .ok (.iconst 1, 1) := by decide +kernel
theorem dX6_addCar_105 : decode cX6_addCar 105 = .ok (.iadd, 1) := by decide +kernel
theorem dX6_addCar_106 : decode cX6_addCar 106 = .ok (.iastore, 1) := by decide +kernel
theorem dX6_addCar_107 : decode cX6_addCar 107 = .ok (.aload_n 0, 1) := by decide +kernel
theorem dX6_addCar_108 : decode cX6_addCar 108 = .ok (.dup, 1) := by decide +kernel
theorem dX6_addCar_109 : decode cX6_addCar 109 = .ok (.getfield 84, 3) := by decide +kernel
theorem dX6_addCar_112 : decode cX6_addCar 112 = .ok (.iconst 1, 1) := by decide +kernel
theorem dX6_addCar_113 : decode cX6_addCar 113 = .ok (.iadd, 1) := by decide +kernel
theorem dX6_addCar_114 : decode cX6_addCar 114 = .ok (.putfield 84, 3) := by decide +kernel
theorem dX6_addCar_117 : decode cX6_addCar 117 = .ok (.aload_n 0, 1) := by decide +kernel
theorem dX6_addCar_118 : decode cX6_addCar 118 = .ok (.getfield 84, 3) := by decide +kernel
theorem dX6_addCar_121 : decode cX6_addCar 121 = .ok (.iconst 1, 1) := by decide +kernel
theorem dX6_addCar_122 : decode cX6_addCar 122 = .ok (.isub, 1) := by decide +kernel
theorem dX6_addCar_123 : decode cX6_addCar 123 = .ok (.ireturn, 1) := by decide +kernel
set_option maxRecDepth 20000 in
theorem ggX6_isCar_X6_in : GoodIn wsX6_isCar wsX6_in := goodIn_r _ [5] (by decide +kernel) (by decide +kernel)
set_option maxRecDepth 20000 in
theorem gX6_isCar_X6_in : GoodIn wsX6_isCar (va_wsS RX6 59 yX6_in wsX6_in) := goodIn_app (goodIn_of _ (by decide +kernel)) ggX6_isCar_X6_in
theorem dX6_isCar_0 : decode cX6_isCar 0 = .ok (.iload_n 1, 1) := by decide +kernel
theorem dX6_isCar_1 : decode cX6_isCar 1 = .ok (.i2l, 1) := by decide +kernel
theorem dX6_isCar_2 : decode cX6_isCar 2 = .ok (.lconst 0, 1) := by decide +kernel
theorem dX6_isCar_3 : decode cX6_isCar 3 = .ok (.aload_n 0, 1) := by decide +kernel
theorem dX6_isCar_4 : decode cX6_isCar 4 = .ok (.getfield 84, 3) := by decide +kernel
theorem dX6_isCar_7 : decode cX6_isCar 7 = .ok (.iconst 1, 1) := by decide +kernel
theorem dX6_isCar_8 : decode cX6_isCar 8 = .ok (.isub, 1) := by decide +kernel
theorem dX6_isCar_9 : decode cX6_isCar 9 = .ok (.i2l, 1) := by decide +kernel
theorem dX6_isCar_10 : decode cX6_isCar 10 = .ok (.invokestatic 59, 3) := by decide +kernel
theorem dX6_isCar_13 : decode cX6_isCar 13 = .ok (.ireturn, 1) := by decide +kernel
theorem dX6_waitsAt_0 : decode cX6_waitsAt 0 = .ok (.iconst 0, 1) := by decide +kernel
theorem dX6_waitsAt_1 : decode cX6_waitsAt 1 = .ok (.istore_n 2, 1) := by decide +kernel
theorem dX6_waitsAt_2 : decode cX6_waitsAt 2 = .ok (.aload_n 0, 1) := by decide +kernel
theorem dX6_waitsAt_3 : decode cX6_waitsAt 3 = .ok (.getfield 41, 3) := by decide +kernel
theorem dX6_waitsAt_6 : decode cX6_waitsAt 6 = .ok (.sipush 142, 3) := by decide +kernel
theorem dX6_waitsAt_9 : decode cX6_waitsAt 9 = .ok (.iload_n 2, 1) := by decide +kernel
theorem dX6_waitsAt_10 : decode cX6_waitsAt 10 = .ok (.iadd, 1) := by decide +kernel
theorem dX6_waitsAt_11 : decode cX6_waitsAt 11 = .ok (.iaload, 1) := by decide +kernel
theorem dX6_waitsAt_12 : decode cX6_waitsAt 12 = .ok (.iload_n 1, 1) := by decide +kernel
theorem dX6_waitsAt_13 : decode cX6_waitsAt 13 = .ok (.if_icmp .eq 9, 3) := by decide +kernel
theorem dX6_waitsAt_16 : decode cX6_waitsAt 16 = .ok (.iinc 2 1, 3) := by decide +kernel
theorem dX6_waitsAt_19 : decode cX6_waitsAt 19 = .ok (.goto (-17), 3) := by decide +kernel
theorem dX6_waitsAt_22 : decode cX6_waitsAt 22 = .ok (.iload_n 2, 1) := by decide +kernel
theorem dX6_waitsAt_23 : decode cX6_waitsAt 23 = .ok (.ireturn, 1) := by decide +kernel
set_option maxRecDepth 20000 in
theorem ggX6_swap_X6_isCar : GoodIn wsX6_swap wsX6_isCar := goodIn_r _ [7, 8, 9, 10, 6, 11, 16, 17, 18, 19, 20, 21, 22, 23, 24, 25, 26, 27, 28, 29, 30, 31, 32, 33, 34, 35] (by decide +kernel) (by decide +kernel)
set_option maxRecDepth 20000 in
theorem gX6_swap_X6_isCar : GoodIn wsX6_swap (wsV RX6 87 RX6 yX6_isCar wsX6_isCar) := goodIn_app (goodIn_of _ (by decide +kernel)) ggX6_swap_X6_isCar
set_option maxRecDepth 20000 in
theorem ggX6_swap_X6_waitsAt : GoodIn wsX6_swap wsX6_waitsAt := goodIn_ca (goodIn_r _ [15, 2, 16, 17, 18, 19, 20, 21, 22, 23, 24, 25, 26, 27, 28, 29, 30, 31, 32, 33, 34, 35] (by decide +kernel) (by decide +kernel)) (goodIn_sub (fun _ h => List.mem_cons_of_mem _ (List.mem_append_right _ h)) (by decide +kernel))
set_option maxRecDepth 20000 in
theorem gX6_swap_X6_waitsAt : GoodIn wsX6_swap (wsV RX6 90 RX6 yX6_waitsAt wsX6_waitsAt) := goodIn_app (goodIn_of _ (by decide +kernel)) ggX6_swap_X6_waitsAt
theorem dX6_swap_0 : decode cX6_swap 0 = .ok (.aload_n 0, 1) := by decide +kernel
theorem dX6_swap_1 : decode cX6_swap 1 = .ok (.iload_n 1, 1) := by decide +kernel
theorem dX6_swap_2 : decode cX6_swap 2 = .ok (.invokevirtual 87, 3) := by decide +kernel
theorem dX6_swap_5 : decode cX6_swap 5 = .ok (.ifCond .eq 16, 3) := by decide +kernel
theorem dX6_swap_8 : decode cX6_swap 8 = .ok (.aload_n 0, 1) := by decide +kernel
theorem dX6_swap_9 : decode cX6_swap 9 = .ok (.iload_n 2, 1) := by decide +kernel
theorem dX6_swap_10 : decode cX6_swap 10 = .ok (.invokevirtual 87, 3) := by decide +kernel
theorem dX6_swap_13 : decode cX6_swap 13 = .ok (.ifCond .eq 8, 3) := by decide +kernel
theorem dX6_swap_16 : decode cX6_swap 16 = .ok (.iload_n 1, 1) := by decide +kernel
theorem dX6_swap_17 : decode cX6_swap 17 = .ok (.iload_n 2, 1) := by decide +kernel
theorem dX6_swap_18 : decode cX6_swap 18 = .ok (.if_icmp .ne 30, 3) := by decide +kernel
theorem dX6_swap_21 : decode cX6_swap 21 = .ok (.aload_n 0, 1) := by decide +kernel
theorem dX6_swap_22 : decode cX6_swap 22 = .ok (.aload_n 0, 1) := by decide +kernel
theorem dX6_swap_23 : decode cX6_swap 23 = .ok (.iload_n 1, 1) := by decide +kernel
theorem dX6_swap_24 : decode cX6_swap 24 = .ok (.invokevirtual 87, 3) := by decide +kernel
theorem dX6_swap_27 : decode cX6_swap 27 = .ok (.ifCond .eq 11, 3) := by decide +kernel
theorem dX6_swap_30 : decode cX6_swap 30 = .ok (.aload_n 0, 1) := by decide +kernel
theorem dX6_swap_31 : decode cX6_swap 31 = .ok (.iload_n 2, 1) := by decide +kernel
theorem dX6_swap_32 : decode cX6_swap 32 = .ok (.invokevirtual 87, 3) := by decide +kernel
theorem dX6_swap_35 : decode cX6_swap 35 = .ok (.ifCond .ne 7, 3) := by decide +kernel
theorem dX6_swap_38 : decode cX6_swap 38 = .ok (.iconst 1, 1) := by decide +kernel
theorem dX6_swap_39 : decode cX6_swap 39 = .ok (.goto 4, 3) := by decide +kernel
theorem dX6_swap_42 : decode cX6_swap 42 = .ok (.iconst 2, 1) := by decide +kernel
theorem dX6_swap_43 : decode cX6_swap 43 = .ok (.putfield 54, 3) := by decide +kernel
theorem dX6_swap_46 : decode cX6_swap 46 = .ok (.iconst (-1), 1) := by decide +kernel
theorem dX6_swap_47 : decode cX6_swap 47 = .ok (.ireturn, 1) := by decide +kernel
theorem dX6_swap_48 : decode cX6_swap 48 = .ok (.aload_n 0, 1) := by decide +kernel
theorem dX6_swap_49 : decode cX6_swap 49 = .ok (.aload_n 0, 1) := by decide +kernel
theorem dX6_swap_50 : decode cX6_swap 50 = .ok (.getfield 41, 3) := by decide +kernel
theorem dX6_swap_53 : decode cX6_swap 53 = .ok (.bipush 82, 2) := by decide +kernel
theorem dX6_swap_55 : decode cX6_swap 55 = .ok (.iload_n 1, 1) := by decide +kernel
theorem dX6_swap_56 : decode cX6_swap 56 = .ok (.iadd, 1) := by decide +kernel
theorem dX6_swap_57 : decode cX6_swap 57 = .ok (.iaload, 1) := by decide +kernel
theorem dX6_swap_58 : decode cX6_swap 58 = .ok (.bipush 119, 2) := by decide +kernel
theorem dX6_swap_60 : decode cX6_swap 60 = .ok (.if_icmp .ne 21, 3) := by decide +kernel
theorem dX6_swap_63 : decode cX6_swap 63 = .ok (.aload_n 0, 1) := by decide +kernel
theorem dX6_swap_64 : decode cX6_swap 64 = .ok (.getfield 41, 3) := by decide +kernel
theorem dX6_swap_67 : decode cX6_swap 67 = .ok (.bipush 82, 2) := by decide +kernel
theorem dX6_swap_69 : decode cX6_swap 69 = .ok (.iload_n 2, 1) := by decide +kernel
theorem dX6_swap_70 : decode cX6_swap 70 = .ok (.iadd, 1) := by decide +kernel
theorem dX6_swap_71 : decode cX6_swap 71 = .ok (.iaload, 1) := by decide +kernel
theorem dX6_swap_72 : decode cX6_swap 72 = .ok (.bipush 119, 2) := by decide +kernel
theorem dX6_swap_74 : decode cX6_swap 74 = .ok (.if_icmp .ne 7, 3) := by decide +kernel
theorem dX6_swap_77 : decode cX6_swap 77 = .ok (.iconst 0, 1) := by decide +kernel
theorem dX6_swap_78 : decode cX6_swap 78 = .ok (.goto 4, 3) := by decide +kernel
theorem dX6_swap_81 : decode cX6_swap 81 = .ok (.iconst 3, 1) := by decide +kernel
theorem dX6_swap_82 : decode cX6_swap 82 = .ok (.putfield 54, 3) := by decide +kernel
theorem dX6_swap_85 : decode cX6_swap 85 = .ok (.aload_n 0, 1) := by decide +kernel
theorem dX6_swap_86 : decode cX6_swap 86 = .ok (.getfield 54, 3) := by decide +kernel
theorem dX6_swap_89 : decode cX6_swap 89 = .ok (.ifCond .le 5, 3) := by decide +kernel
theorem dX6_swap_92 : decode cX6_swap 92 = .ok (.iconst (-1), 1) := by decide +kernel
theorem dX6_swap_93 : decode cX6_swap 93 = .ok (.ireturn, 1) := by decide +kernel
theorem dX6_swap_94 : decode cX6_swap 94 = .ok (.aload_n 0, 1) := by decide +kernel
theorem dX6_swap_95 : decode cX6_swap 95 = .ok (.iload_n 1, 1) := by decide +kernel
theorem dX6_swap_96 : decode cX6_swap 96 = .ok (.invokevirtual 90, 3) := by decide +kernel
theorem dX6_swap_99 : decode cX6_swap 99 = .ok (.istore_n 3, 1) := by decide +kernel
theorem dX6_swap_100 : decode cX6_swap 100 = .ok (.aload_n 0, 1) := by decide +kernel
theorem dX6_swap_101 : decode cX6_swap 101 = .ok (.iload_n 2, 1) := by decide +kernel
theorem dX6_swap_102 : decode cX6_swap 102 = .ok (.invokevirtual 90, 3) := by decide +kernel
theorem dX6_swap_105 : decode cX6_swap 105 = .ok (.istore 4, 2) := by decide +kernel
theorem dX6_swap_107 : decode cX6_swap 107 = .ok (.aload_n 0, 1) := by decide +kernel
theorem dX6_swap_108 : decode cX6_swap 108 = .ok (.getfield 41, 3) := by decide +kernel
theorem dX6_swap_111 : decode cX6_swap 111 = .ok (.sipush 142, 3) := by decide +kernel
theorem dX6_swap_114 : decode cX6_swap 114 = .ok (.iload_n 3, 1) := by decide +kernel
theorem dX6_swap_115 : decode cX6_swap 115 = .ok (.iadd, 1) := by decide +kernel
theorem dX6_swap_116 : decode cX6_swap 116 = .ok (.iload_n 2, 1) := by decide +kernel
theorem dX6_swap_117 : decode cX6_swap 117 = .ok (.iastore, 1) := by decide +kernel
theorem dX6_swap_118 : decode cX6_swap 118 = .ok (.aload_n 0, 1) := by decide +kernel
theorem dX6_swap_119 : decode cX6_swap 119 = .ok (.getfield 41, 3) := by decide +kernel
theorem dX6_swap_122 : decode cX6_swap 122 = .ok (.sipush 142, 3) := by decide +kernel
theorem dX6_swap_125 : decode cX6_swap 125 = .ok (.iload 4, 2) := by decide +kernel
theorem dX6_swap_127 : decode cX6_swap 127 = .ok (.iadd, 1) := by decide +kernel
theorem dX6_swap_128 : decode cX6_swap 128 = .ok (.iload_n 1, 1) := by decide +kernel
theorem dX6_swap_129 : decode cX6_swap 129 = .ok (.iastore, 1) := by decide +kernel
theorem dX6_swap_130 : decode cX6_swap 130 = .ok (.iload 4, 2) := by decide +kernel
theorem dX6_swap_132 : decode cX6_swap 132 = .ok (.ireturn, 1) := by decide +kernel
set_option maxRecDepth 20000 in
theorem ggX6_isStation_X6_in : GoodIn wsX6_isStation wsX6_in := goodIn_r _ [5] (by decide +kernel) (by decide +kernel)
set_option maxRecDepth 20000 in
theorem gX6_isStation_X6_in : GoodIn wsX6_isStation (va_wsS RX6 59 yX6_in wsX6_in) := goodIn_app (goodIn_of _ (by decide +kernel)) ggX6_isStation_X6_in
theorem dX6_isStation_0 : decode cX6_isStation 0 = .ok (.iload_n 1, 1) := by decide +kernel
theorem dX6_isStation_1 : decode cX6_isStation 1 = .ok (.i2l, 1) := by decide +kernel
theorem dX6_isStation_2 : decode cX6_isStation 2 = .ok (.lconst 0, 1) := by decide +kernel
theorem dX6_isStation_3 : decode cX6_isStation 3 = .ok (.aload_n 0, 1) := by decide +kernel
theorem dX6_isStation_4 : decode cX6_isStation 4 = .ok (.getfield 71, 3) := by decide +kernel
theorem dX6_isStation_7 : decode cX6_isStation 7 = .ok (.iconst 1, 1) := by decide +kernel
theorem dX6_isStation_8 : decode cX6_isStation 8 = .ok (.isub, 1) := by decide +kernel
theorem dX6_isStation_9 : decode cX6_isStation 9 = .ok (.i2l, 1) := by decide +kernel
theorem dX6_isStation_10 : decode cX6_isStation 10 = .ok (.invokestatic 59, 3) := by decide +kernel
theorem dX6_isStation_13 : decode cX6_isStation 13 = .ok (.ireturn, 1) := by decide +kernel
theorem dX6_many_0 : decode cX6_many 0 = .ok (.iconst 0, 1) := by decide +kernel
theorem dX6_many_1 : decode cX6_many 1 = .ok (.istore_n 1, 1) := by decide +kernel
theorem dX6_many_2 : decode cX6_many 2 = .ok (.iconst 0, 1) := by decide +kernel
theorem dX6_many_3 : decode cX6_many 3 = .ok (.istore_n 2, 1) := by decide +kernel
theorem dX6_many_4 : decode cX6_many 4 = .ok (.iload_n 2, 1) := by decide +kernel
theorem dX6_many_5 : decode cX6_many 5 = .ok (.bipush 8, 2) := by decide +kernel
theorem dX6_many_7 : decode cX6_many 7 = .ok (.if_icmp .ge 17, 3) := by decide +kernel
theorem dX6_many_10 : decode cX6_many 10 = .ok (.iload_n 1, 1) := by decide +kernel
theorem dX6_many_11 : decode cX6_many 11 = .ok (.iload_n 0, 1) := by decide +kernel
theorem dX6_many_12 : decode cX6_many 12 = .ok (.iload_n 2, 1) := by decide +kernel
theorem dX6_many_13 : decode cX6_many 13 = .ok (.ishr, 1) := by decide +kernel
theorem dX6_many_14 : decode cX6_many 14 = .ok (.iconst 1, 1) := by decide +kernel
theorem dX6_many_15 : decode cX6_many 15 = .ok (.iand, 1) := by decide +kernel
theorem dX6_many_16 : decode cX6_many 16 = .ok (.iadd, 1) := by decide +kernel
theorem dX6_many_17 : decode cX6_many 17 = .ok (.istore_n 1, 1) := by decide +kernel
theorem dX6_many_18 : decode cX6_many 18 = .ok (.iinc 2 1, 3) := by decide +kernel
theorem dX6_many_21 : decode cX6_many 21 = .ok (.goto (-17), 3) := by decide +kernel
theorem dX6_many_24 : decode cX6_many 24 = .ok (.iload_n 1, 1) := by decide +kernel
theorem dX6_many_25 : decode cX6_many 25 = .ok (.ireturn, 1) := by decide +kernel
set_option maxRecDepth 20000 in
theorem ggX6_fault_X6_isCar : GoodIn wsX6_fault wsX6_isCar := goodIn_r _ [8, 9, 10, 11, 7, 12, 21, 22, 23, 24, 25, 26, 27, 28, 29, 30, 31, 32, 33, 34, 35, 36, 37, 38, 39, 40] (by decide +kernel) (by decide +kernel)
set_option maxRecDepth 20000 in
theorem gX6_fault_X6_isCar : GoodIn wsX6_fault (wsV RX6 87 RX6 yX6_isCar wsX6_isCar) := goodIn_app (goodIn_of _ (by decide +kernel)) ggX6_fault_X6_isCar
set_option maxRecDepth 20000 in
theorem ggX6_fault_X6_isStation : GoodIn wsX6_fault wsX6_isStation := goodIn_r _ [16, 17, 10, 11, 7, 12, 21, 22, 23, 24, 25, 26, 27, 28, 29, 30, 31, 32, 33, 34, 35, 36, 37, 38, 39, 40] (by decide +kernel) (by decide +kernel)
set_option maxRecDepth 20000 in
theorem gX6_fault_X6_isStation : GoodIn wsX6_fault (wsV RX6 94 RX6 yX6_isStation wsX6_isStation) := goodIn_app (goodIn_of _ (by decide +kernel)) ggX6_fault_X6_isStation
set_option maxRecDepth 20000 in
theorem ggX6_fault_X6_many : GoodIn wsX6_fault wsX6_many := goodIn_r _ [20] (by decide +kernel) (by decide +kernel)
set_option maxRecDepth 20000 in
theorem gX6_fault_X6_many : GoodIn wsX6_fault (va_wsS RX6 97 yX6_many wsX6_many) := goodIn_app (goodIn_of _ (by decide +kernel)) ggX6_fault_X6_many
theorem dX6_fault_0 : decode cX6_fault 0 = .ok (.aload_n 0, 1) := by decide +kernel
theorem dX6_fault_1 : decode cX6_fault 1 = .ok (.iload_n 1, 1) := by decide +kernel
theorem dX6_fault_2 : decode cX6_fault 2 = .ok (.invokevirtual 87, 3) := by decide +kernel
theorem dX6_fault_5 : decode cX6_fault 5 = .ok (.ifCond .eq 11, 3) := by decide +kernel
theorem dX6_fault_8 : decode cX6_fault 8 = .ok (.aload_n 0, 1) := by decide +kernel
theorem dX6_fault_9 : decode cX6_fault 9 = .ok (.iload_n 2, 1) := by decide +kernel
theorem dX6_fault_10 : decode cX6_fault 10 = .ok (.invokevirtual 94, 3) := by decide +kernel
theorem dX6_fault_13 : decode cX6_fault 13 = .ok (.ifCond .ne 10, 3) := by decide +kernel
theorem dX6_fault_16 : decode cX6_fault 16 = .ok (.aload_n 0, 1) := by decide +kernel
theorem dX6_fault_17 : decode cX6_fault 17 = .ok (.iconst 1, 1) := by decide +kernel
theorem dX6_fault_18 : decode cX6_fault 18 = .ok (.putfield 54, 3) := by decide +kernel
theorem dX6_fault_21 : decode cX6_fault 21 = .ok (.iconst (-1), 1) := by decide +kernel
theorem dX6_fault_22 : decode cX6_fault 22 = .ok (.ireturn, 1) := by decide +kernel
theorem dX6_fault_23 : decode cX6_fault 23 = .ok (.aload_n 0, 1) := by decide +kernel
theorem dX6_fault_24 : decode cX6_fault 24 = .ok (.getfield 38, 3) := by decide +kernel
theorem dX6_fault_27 : decode cX6_fault 27 = .ok (.iload_n 1, 1) := by decide +kernel
theorem dX6_fault_28 : decode cX6_fault 28 = .ok (.iaload, 1) := by decide +kernel
theorem dX6_fault_29 : decode cX6_fault 29 = .ok (.iload_n 2, 1) := by decide +kernel
theorem dX6_fault_30 : decode cX6_fault 30 = .ok (.ishr, 1) := by decide +kernel
theorem dX6_fault_31 : decode cX6_fault 31 = .ok (.iconst 1, 1) := by decide +kernel
theorem dX6_fault_32 : decode cX6_fault 32 = .ok (.iand, 1) := by decide +kernel
theorem dX6_fault_33 : decode cX6_fault 33 = .ok (.iconst 1, 1) := by decide +kernel
theorem dX6_fault_34 : decode cX6_fault 34 = .ok (.if_icmp .ne 34, 3) := by decide +kernel
theorem dX6_fault_37 : decode cX6_fault 37 = .ok (.aload_n 0, 1) := by decide +kernel
theorem dX6_fault_38 : decode cX6_fault 38 = .ok (.getfield 41, 3) := by decide +kernel
theorem dX6_fault_41 : decode cX6_fault 41 = .ok (.bipush 14, 2) := by decide +kernel
theorem dX6_fault_43 : decode cX6_fault 43 = .ok (.iload_n 2, 1) := by decide +kernel
theorem dX6_fault_44 : decode cX6_fault 44 = .ok (.iadd, 1) := by decide +kernel
theorem dX6_fault_45 : decode cX6_fault 45 = .ok (.iaload, 1) := by decide +kernel
theorem dX6_fault_46 : decode cX6_fault 46 = .ok (.iload_n 1, 1) := by decide +kernel
theorem dX6_fault_47 : decode cX6_fault 47 = .ok (.if_icmp .eq 21, 3) := by decide +kernel
theorem dX6_fault_50 : decode cX6_fault 50 = .ok (.aload_n 0, 1) := by decide +kernel
theorem dX6_fault_51 : decode cX6_fault 51 = .ok (.getfield 41, 3) := by decide +kernel
theorem dX6_fault_54 : decode cX6_fault 54 = .ok (.bipush 82, 2) := by decide +kernel
theorem dX6_fault_56 : decode cX6_fault 56 = .ok (.iload_n 1, 1) := by decide +kernel
theorem dX6_fault_57 : decode cX6_fault 57 = .ok (.iadd, 1) := by decide +kernel
theorem dX6_fault_58 : decode cX6_fault 58 = .ok (.iaload, 1) := by decide +kernel
theorem dX6_fault_59 : decode cX6_fault 59 = .ok (.bipush 100, 2) := by decide +kernel
theorem dX6_fault_61 : decode cX6_fault 61 = .ok (.if_icmp .eq 7, 3) := by decide +kernel
theorem dX6_fault_64 : decode cX6_fault 64 = .ok (.iconst 1, 1) := by decide +kernel
theorem dX6_fault_65 : decode cX6_fault 65 = .ok (.goto 4, 3) := by decide +kernel
theorem dX6_fault_68 : decode cX6_fault 68 = .ok (.iconst 0, 1) := by decide +kernel
theorem dX6_fault_69 : decode cX6_fault 69 = .ok (.istore_n 3, 1) := by decide +kernel
theorem dX6_fault_70 : decode cX6_fault 70 = .ok (.aload_n 0, 1) := by decide +kernel
theorem dX6_fault_71 : decode cX6_fault 71 = .ok (.iload_n 3, 1) := by decide +kernel
theorem dX6_fault_72 : decode cX6_fault 72 = .ok (.ifCond .ne 7, 3) := by decide +kernel
theorem dX6_fault_75 : decode cX6_fault 75 = .ok (.iconst 2, 1) := by decide +kernel
theorem dX6_fault_76 : decode cX6_fault 76 = .ok (.goto 25, 3) := by decide +kernel
theorem dX6_fault_79 : decode cX6_fault 79 = .ok (.aload_n 0, 1) := by decide +kernel
theorem dX6_fault_80 : decode cX6_fault 80 = .ok (.getfield 41, 3) := by decide +kernel
theorem dX6_fault_83 : decode cX6_fault 83 = .ok (.bipush 112, 2) := by decide +kernel
theorem dX6_fault_85 : decode cX6_fault 85 = .ok (.iload_n 1, 1) := by decide +kernel
theorem dX6_fault_86 : decode cX6_fault 86 = .ok (.iadd, 1) := by decide +kernel
theorem dX6_fault_87 : decode cX6_fault 87 = .ok (.iaload, 1) := by decide +kernel
theorem dX6_fault_88 : decode cX6_fault 88 = .ok (.iload_n 2, 1) := by decide +kernel
theorem dX6_fault_89 : decode cX6_fault 89 = .ok (.ishr, 1) := by decide +kernel
theorem dX6_fault_90 : decode cX6_fault 90 = .ok (.iconst 1, 1) := by decide +kernel
theorem dX6_fault_91 : decode cX6_fault 91 = .ok (.iand, 1) := by decide +kernel
theorem dX6_fault_92 : decode cX6_fault 92 = .ok (.iconst 1, 1) := by decide +kernel
theorem dX6_fault_93 : decode cX6_fault 93 = .ok (.if_icmp .ne 7, 3) := by decide +kernel
theorem dX6_fault_96 : decode cX6_fault 96 = .ok (.iconst 3, 1) := by decide +kernel
theorem dX6_fault_97 : decode cX6_fault 97 = .ok (.goto 4, 3) := by decide +kernel
theorem dX6_fault_100 : decode cX6_fault 100 = .ok (.iconst 0, 1) := by decide +kernel
theorem dX6_fault_101 : decode cX6_fault 101 = .ok (.putfield 54, 3) := by decide +kernel
theorem dX6_fault_104 : decode cX6_fault 104 = .ok (.aload_n 0, 1) := by decide +kernel
theorem dX6_fault_105 : decode cX6_fault 105 = .ok (.getfield 54, 3) := by decide +kernel
theorem dX6_fault_108 : decode cX6_fault 108 = .ok (.ifCond .le 5, 3) := by decide +kernel
theorem dX6_fault_111 : decode cX6_fault 111 = .ok (.iconst (-1), 1) := by decide +kernel
theorem dX6_fault_112 : decode cX6_fault 112 = .ok (.ireturn, 1) := by decide +kernel
theorem dX6_fault_113 : decode cX6_fault 113 = .ok (.aload_n 0, 1) := by decide +kernel
theorem dX6_fault_114 : decode cX6_fault 114 = .ok (.getfield 41, 3) := by decide +kernel
theorem dX6_fault_117 : decode cX6_fault 117 = .ok (.bipush 112, 2) := by decide +kernel
theorem dX6_fault_119 : decode cX6_fault 119 = .ok (.iload_n 1, 1) := by decide +kernel
theorem dX6_fault_120 : decode cX6_fault 120 = .ok (.iadd, 1) := by decide +kernel
theorem dX6_fault_121 : decode cX6_fault 121 = .ok (.dup2, 1) := by decide +kernel
theorem dX6_fault_122 : decode cX6_fault 122 = .ok (.iaload, 1) := by decide +kernel
theorem dX6_fault_123 : decode cX6_fault 123 = .ok (.iconst 1, 1) := by decide +kernel
theorem dX6_fault_124 : decode cX6_fault 124 = .ok (.iload_n 2, 1) := by decide +kernel
theorem dX6_fault_125 : decode cX6_fault 125 = .ok (.ishl, 1) := by decide +kernel
theorem dX6_fault_126 : decode cX6_fault 126 = .ok (.ior, 1) := by decide +kernel
theorem dX6_fault_127 : decode cX6_fault 127 = .ok (.iastore, 1) := by decide +kernel
theorem dX6_fault_128 : decode cX6_fault 128 = .ok (.aload_n 0, 1) := by decide +kernel
theorem dX6_fault_129 : decode cX6_fault 129 = .ok (.getfield 41, 3) := by decide +kernel
theorem dX6_fault_132 : decode cX6_fault 132 = .ok (.bipush 112, 2) := by decide +kernel
theorem dX6_fault_134 : decode cX6_fault 134 = .ok (.iload_n 1, 1) := by decide +kernel
theorem dX6_fault_135 : decode cX6_fault 135 = .ok (.iadd, 1) := by decide +kernel
theorem dX6_fault_136 : decode cX6_fault 136 = .ok (.iaload, 1) := by decide +kernel
theorem dX6_fault_137 : decode cX6_fault 137 = .ok (.invokestatic 97, 3) := by decide +kernel
theorem dX6_fault_140 : decode cX6_fault 140 = .ok (.ireturn, 1) := by decide +kernel
theorem dX6_writes_0 : decode cX6_writes 0 = .ok (.aload_n 0, 1) := by decide +kernel
theorem dX6_writes_1 : decode cX6_writes 1 = .ok (.getfield 100, 3) := by decide +kernel
theorem dX6_writes_4 : decode cX6_writes 4 = .ok (.ifCond .eq 4, 3) := by decide +kernel
theorem dX6_writes_7 : decode cX6_writes 7 = .ok (.return_, 1) := by decide +kernel
theorem dX6_writes_8 : decode cX6_writes 8 = .ok (.aload_n 0, 1) := by decide +kernel
theorem dX6_writes_9 : decode cX6_writes 9 = .ok (.getfield 104, 3) := by decide +kernel
theorem dX6_writes_12 : decode cX6_writes 12 = .ok (.aload_n 0, 1) := by decide +kernel
theorem dX6_writes_13 : decode cX6_writes 13 = .ok (.getfield 47, 3) := by decide +kernel
theorem dX6_writes_16 : decode cX6_writes 16 = .ok (.arraylength, 1) := by decide +kernel
theorem dX6_writes_17 : decode cX6_writes 17 = .ok (.if_icmp .ne 74, 3) := by decide +kernel
theorem dX6_writes_20 : decode cX6_writes 20 = .ok (.iconst 2, 1) := by decide +kernel
theorem dX6_writes_21 : decode cX6_writes 21 = .ok (.aload_n 0, 1) := by decide +kernel
theorem dX6_writes_22 : decode cX6_writes 22 = .ok (.getfield 104, 3) := by decide +kernel
theorem dX6_writes_25 : decode cX6_writes 25 = .ok (.imul, 1) := by decide +kernel
theorem dX6_writes_26 : decode cX6_writes 26 = .ok (.newarray .char, 2) := by decide +kernel
theorem dX6_writes_28 : decode cX6_writes 28 = .ok (.astore_n 3, 1) := by decide +kernel
theorem dX6_writes_29 : decode cX6_writes 29 = .ok (.iconst 2, 1) := by decide +kernel
theorem dX6_writes_30 : decode cX6_writes 30 = .ok (.aload_n 0, 1) := by decide +kernel
theorem dX6_writes_31 : decode cX6_writes 31 = .ok (.getfield 104, 3) := by decide +kernel
theorem dX6_writes_34 : decode cX6_writes 34 = .ok (.imul, 1) := by decide +kernel
theorem dX6_writes_35 : decode cX6_writes 35 = .ok (.newarray .int, 2) := by decide +kernel
theorem dX6_writes_37 : decode cX6_writes 37 = .ok (.astore 4, 2) := by decide +kernel
theorem dX6_writes_39 : decode cX6_writes 39 = .ok (.iconst 0, 1) := by decide +kernel
theorem dX6_writes_40 : decode cX6_writes 40 = .ok (.istore 5, 2) := by decide +kernel
theorem dX6_writes_42 : decode cX6_writes 42 = .ok (.iload 5, 2) := by decide +kernel
theorem dX6_writes_44 : decode cX6_writes 44 = .ok (.aload_n 0, 1) := by decide +kernel
theorem dX6_writes_45 : decode cX6_writes 45 = .ok (.getfield 104, 3) := by decide +kernel
theorem dX6_writes_48 : decode cX6_writes 48 = .ok (.if_icmp .ge 32, 3) := by decide +kernel
theorem dX6_writes_51 : decode cX6_writes 51 = .ok (.aload_n 3, 1) := by decide +kernel
theorem dX6_writes_52 : decode cX6_writes 52 = .ok (.iload 5, 2) := by decide +kernel
theorem dX6_writes_54 : decode cX6_writes 54 = .ok (.aload_n 0, 1) := by decide +kernel
theorem dX6_writes_55 : decode cX6_writes 55 = .ok (.getfield 47, 3) := by decide +kernel
theorem dX6_writes_58 : decode cX6_writes 58 = .ok (.iload 5, 2) := by decide +kernel
theorem dX6_writes_60 : decode cX6_writes 60 = .ok (.caload, 1) := by decide +kernel
theorem dX6_writes_61 : decode cX6_writes 61 = .ok (.castore, 1) := by decide +kernel
theorem dX6_writes_62 : decode cX6_writes 62 = .ok (.aload 4, 2) := by decide +kernel
theorem dX6_writes_64 : decode cX6_writes 64 = .ok (.iload 5, 2) := by decide +kernel
theorem dX6_writes_66 : decode cX6_writes 66 = .ok (.aload_n 0, 1) := by decide +kernel
theorem dX6_writes_67 : decode cX6_writes 67 = .ok (.getfield 51, 3) := by decide +kernel
theorem dX6_writes_70 : decode cX6_writes 70 = .ok (.iload 5, 2) := by decide +kernel
theorem dX6_writes_72 : decode cX6_writes 72 = .ok (.iaload, 1) := by decide +kernel
theorem dX6_writes_73 : decode cX6_writes 73 = .ok (.iastore, 1) := by decide +kernel
theorem dX6_writes_74 : decode cX6_writes 74 = .ok (.iinc 5 1, 3) := by decide +kernel
theorem dX6_writes_77 : decode cX6_writes 77 = .ok (.goto (-35), 3) := by decide +kernel
theorem dX6_writes_80 : decode cX6_writes 80 = .ok (.aload_n 0, 1) := by decide +kernel
theorem dX6_writes_81 : decode cX6_writes 81 = .ok (.aload_n 3, 1) := by decide +kernel
theorem dX6_writes_82 : decode cX6_writes 82 = .ok (.putfield 47, 3) := by decide +kernel
theorem dX6_writes_85 : decode cX6_writes 85 = .ok (.aload_n 0, 1) := by decide +kernel
theorem dX6_writes_86 : decode cX6_writes 86 = .ok (.aload 4, 2) := by decide +kernel
theorem dX6_writes_88 : decode cX6_writes 88 = .ok (.putfield 51, 3) := by decide +kernel
theorem dX6_writes_91 : decode cX6_writes 91 = .ok (.aload_n 0, 1) := by decide +kernel
theorem dX6_writes_92 : decode cX6_writes 92 = .ok (.getfield 47, 3) := by decide +kernel
theorem dX6_writes_95 : decode cX6_writes 95 = .ok (.aload_n 0, 1) := by decide +kernel
theorem dX6_writes_96 : decode cX6_writes 96 = .ok (.getfield 104, 3) := by decide +kernel
theorem dX6_writes_99 : decode cX6_writes 99 = .ok (.iload_n 2, 1) := by decide +kernel
theorem dX6_writes_100 : decode cX6_writes 100 = .ok (.castore, 1) := by decide +kernel
theorem dX6_writes_101 : decode cX6_writes 101 = .ok (.aload_n 0, 1) := by decide +kernel
theorem dX6_writes_102 : decode cX6_writes 102 = .ok (.getfield 51, 3) := by decide +kernel
theorem dX6_writes_105 : decode cX6_writes 105 = .ok (.aload_n 0, 1) := by decide +kernel
theorem dX6_writes_106 : decode cX6_writes 106 = .ok (.getfield 104, 3) := by decide +kernel
theorem dX6_writes_109 : decode cX6_writes 109 = .ok (.iload_n 1, 1) := by decide +kernel
theorem dX6_writes_110 : decode cX6_writes 110 = .ok (.iastore, 1) := by decide +kernel
theorem dX6_writes_111 : decode cX6_writes 111 = .ok (.aload_n 0, 1) := by decide +kernel
theorem dX6_writes_112 : decode cX6_writes 112 = .ok (.dup, 1) := by decide +kernel
theorem dX6_writes_113 : decode cX6_writes 113 = .ok (.getfield 104, 3) := by decide +kernel
theorem dX6_writes_116 : decode cX6_writes 116 = .ok (.iconst 1, 1) := by decide +kernel
theorem dX6_writes_117 : decode cX6_writes 117 = .ok (.iadd, 1) := by decide +kernel
theorem dX6_writes_118 : decode cX6_writes 118 = .ok (.putfield 104, 3) := by decide +kernel
theorem dX6_writes_121 : decode cX6_writes 121 = .ok (.return_, 1) := by decide +kernel
set_option maxRecDepth 20000 in
theorem ggX6_enters_X6_writes : GoodIn wsX6_enters wsX6_writes := goodIn_ca (goodIn_r _ [15, 6, 16, 17, 18, 19, 20, 21, 22, 23, 24, 25, 26, 27, 28, 29, 30, 31, 32, 33, 34, 35, 36, 37, 38, 39, 40] (by decide +kernel) (by decide +kernel)) (goodIn_sub (fun _ h => List.mem_cons_of_mem _ (List.mem_append_right _ h)) (by decide +kernel))
set_option maxRecDepth 20000 in
theorem gX6_enters_X6_writes : GoodIn wsX6_enters (wsV RX6 107 RX6 yX6_writes wsX6_writes) := goodIn_app (goodIn_of _ (by decide +kernel)) ggX6_enters_X6_writes
theorem dX6_enters_0 : decode cX6_enters 0 = .ok (.aload_n 0, 1) := by decide +kernel
theorem dX6_enters_1 : decode cX6_enters 1 = .ok (.getfield 13, 3) := by decide +kernel
theorem dX6_enters_4 : decode cX6_enters 4 = .ok (.iload_n 2, 1) := by decide +kernel
theorem dX6_enters_5 : decode cX6_enters 5 = .ok (.iaload, 1) := by decide +kernel
theorem dX6_enters_6 : decode cX6_enters 6 = .ok (.iconst (-1), 1) := by decide +kernel
theorem dX6_enters_7 : decode cX6_enters 7 = .ok (.if_icmp .eq 26, 3) := by decide +kernel
theorem dX6_enters_10 : decode cX6_enters 10 = .ok (.aload_n 0, 1) := by decide +kernel
theorem dX6_enters_11 : decode cX6_enters 11 = .ok (.getfield 29, 3) := by decide +kernel
theorem dX6_enters_14 : decode cX6_enters 14 = .ok (.iload_n 1, 1) := by decide +kernel
theorem dX6_enters_15 : decode cX6_enters 15 = .ok (.iaload, 1) := by decide +kernel
theorem dX6_enters_16 : decode cX6_enters 16 = .ok (.aload_n 0, 1) := by decide +kernel
theorem dX6_enters_17 : decode cX6_enters 17 = .ok (.getfield 13, 3) := by decide +kernel
theorem dX6_enters_20 : decode cX6_enters 20 = .ok (.iload_n 2, 1) := by decide +kernel
theorem dX6_enters_21 : decode cX6_enters 21 = .ok (.iaload, 1) := by decide +kernel
theorem dX6_enters_22 : decode cX6_enters 22 = .ok (.ishr, 1) := by decide +kernel
theorem dX6_enters_23 : decode cX6_enters 23 = .ok (.iconst 1, 1) := by decide +kernel
theorem dX6_enters_24 : decode cX6_enters 24 = .ok (.iand, 1) := by decide +kernel
theorem dX6_enters_25 : decode cX6_enters 25 = .ok (.iconst 1, 1) := by decide +kernel
theorem dX6_enters_26 : decode cX6_enters 26 = .ok (.if_icmp .ne 7, 3) := by decide +kernel
theorem dX6_enters_29 : decode cX6_enters 29 = .ok (.iconst 1, 1) := by decide +kernel
theorem dX6_enters_30 : decode cX6_enters 30 = .ok (.goto 4, 3) := by decide +kernel
theorem dX6_enters_33 : decode cX6_enters 33 = .ok (.iconst 0, 1) := by decide +kernel
theorem dX6_enters_34 : decode cX6_enters 34 = .ok (.istore 4, 2) := by decide +kernel
theorem dX6_enters_36 : decode cX6_enters 36 = .ok (.aload_n 0, 1) := by decide +kernel
theorem dX6_enters_37 : decode cX6_enters 37 = .ok (.getfield 13, 3) := by decide +kernel
theorem dX6_enters_40 : decode cX6_enters 40 = .ok (.iload_n 2, 1) := by decide +kernel
theorem dX6_enters_41 : decode cX6_enters 41 = .ok (.iaload, 1) := by decide +kernel
theorem dX6_enters_42 : decode cX6_enters 42 = .ok (.iconst (-1), 1) := by decide +kernel
theorem dX6_enters_43 : decode cX6_enters 43 = .ok (.if_icmp .eq 16, 3) := by decide +kernel
theorem dX6_enters_46 : decode cX6_enters 46 = .ok (.iload 4, 2) := by decide +kernel
theorem dX6_enters_48 : decode cX6_enters 48 = .ok (.ifCond .ne 11, 3) := by decide +kernel
theorem dX6_enters_51 : decode cX6_enters 51 = .ok (.iload_n 3, 1) := by decide +kernel
theorem dX6_enters_52 : decode cX6_enters 52 = .ok (.ifCond .ne 7, 3) := by decide +kernel
theorem dX6_enters_55 : decode cX6_enters 55 = .ok (.iconst 1, 1) := by decide +kernel
theorem dX6_enters_56 : decode cX6_enters 56 = .ok (.goto 4, 3) := by decide +kernel
theorem dX6_enters_59 : decode cX6_enters 59 = .ok (.iconst 0, 1) := by decide +kernel
theorem dX6_enters_60 : decode cX6_enters 60 = .ok (.istore 5, 2) := by decide +kernel
theorem dX6_enters_62 : decode cX6_enters 62 = .ok (.iload 4, 2) := by decide +kernel
theorem dX6_enters_64 : decode cX6_enters 64 = .ok (.ifCond .eq 25, 3) := by decide +kernel
theorem dX6_enters_67 : decode cX6_enters 67 = .ok (.aload_n 0, 1) := by decide +kernel
theorem dX6_enters_68 : decode cX6_enters 68 = .ok (.getfield 41, 3) := by decide +kernel
theorem dX6_enters_71 : decode cX6_enters 71 = .ok (.bipush 6, 2) := by decide +kernel
theorem dX6_enters_73 : decode cX6_enters 73 = .ok (.iload_n 2, 1) := by decide +kernel
theorem dX6_enters_74 : decode cX6_enters 74 = .ok (.iadd, 1) := by decide +kernel
theorem dX6_enters_75 : decode cX6_enters 75 = .ok (.iaload, 1) := by decide +kernel
theorem dX6_enters_76 : decode cX6_enters 76 = .ok (.aload_n 0, 1) := by decide +kernel
theorem dX6_enters_77 : decode cX6_enters 77 = .ok (.getfield 16, 3) := by decide +kernel
theorem dX6_enters_80 : decode cX6_enters 80 = .ok (.iload_n 2, 1) := by decide +kernel
theorem dX6_enters_81 : decode cX6_enters 81 = .ok (.iaload, 1) := by decide +kernel
theorem dX6_enters_82 : decode cX6_enters 82 = .ok (.if_icmp .ge 7, 3) := by decide +kernel
theorem dX6_enters_85 : decode cX6_enters 85 = .ok (.iconst 1, 1) := by decide +kernel
theorem dX6_enters_86 : decode cX6_enters 86 = .ok (.goto 4, 3) := by decide +kernel
theorem dX6_enters_89 : decode cX6_enters 89 = .ok (.iconst 0, 1) := by decide +kernel
theorem dX6_enters_90 : decode cX6_enters 90 = .ok (.istore 6, 2) := by decide +kernel
theorem dX6_enters_92 : decode cX6_enters 92 = .ok (.aload_n 0, 1) := by decide +kernel
theorem dX6_enters_93 : decode cX6_enters 93 = .ok (.getfield 41, 3) := by decide +kernel
theorem dX6_enters_96 : decode cX6_enters 96 = .ok (.bipush 14, 2) := by decide +kernel
theorem dX6_enters_98 : decode cX6_enters 98 = .ok (.iload_n 2, 1) := by decide +kernel
theorem dX6_enters_99 : decode cX6_enters 99 = .ok (.iadd, 1) := by decide +kernel
theorem dX6_enters_100 : decode cX6_enters 100 = .ok (.iload_n 1, 1) := by decide +kernel
theorem dX6_enters_101 : decode cX6_enters 101 = .ok (.iastore, 1) := by decide +kernel
theorem dX6_enters_102 : decode cX6_enters 102 = .ok (.aload_n 0, 1) := by decide +kernel
theorem dX6_enters_103 : decode cX6_enters 103 = .ok (.getfield 41, 3) := by decide +kernel
theorem dX6_enters_106 : decode cX6_enters 106 = .ok (.bipush 82, 2) := by decide +kernel
theorem dX6_enters_108 : decode cX6_enters 108 = .ok (.iload_n 1, 1) := by decide +kernel
theorem dX6_enters_109 : decode cX6_enters 109 = .ok (.iadd, 1) := by decide +kernel
theorem dX6_enters_110 : decode cX6_enters 110 = .ok (.bipush 115, 2) := by decide +kernel
theorem dX6_enters_112 : decode cX6_enters 112 = .ok (.iastore, 1) := by decide +kernel
theorem dX6_enters_113 : decode cX6_enters 113 = .ok (.aload_n 0, 1) := by decide +kernel
theorem dX6_enters_114 : decode cX6_enters 114 = .ok (.getfield 41, 3) := by decide +kernel
theorem dX6_enters_117 : decode cX6_enters 117 = .ok (.bipush 52, 2) := by decide +kernel
theorem dX6_enters_119 : decode cX6_enters 119 = .ok (.iload_n 1, 1) := by decide +kernel
theorem dX6_enters_120 : decode cX6_enters 120 = .ok (.iadd, 1) := by decide +kernel
theorem dX6_enters_121 : decode cX6_enters 121 = .ok (.iload_n 3, 1) := by decide +kernel
theorem dX6_enters_122 : decode cX6_enters 122 = .ok (.ifCond .eq 7, 3) := by decide +kernel
theorem dX6_enters_125 : decode cX6_enters 125 = .ok (.iconst 1, 1) := by decide +kernel
theorem dX6_enters_126 : decode cX6_enters 126 = .ok (.goto 4, 3) := by decide +kernel
theorem dX6_enters_129 : decode cX6_enters 129 = .ok (.iconst 0, 1) := by decide +kernel
theorem dX6_enters_130 : decode cX6_enters 130 = .ok (.iastore, 1) := by decide +kernel
theorem dX6_enters_131 : decode cX6_enters 131 = .ok (.aload_n 0, 1) := by decide +kernel
theorem dX6_enters_132 : decode cX6_enters 132 = .ok (.getfield 41, 3) := by decide +kernel
theorem dX6_enters_135 : decode cX6_enters 135 = .ok (.bipush 22, 2) := by decide +kernel
theorem dX6_enters_137 : decode cX6_enters 137 = .ok (.iload_n 1, 1) := by decide +kernel
theorem dX6_enters_138 : decode cX6_enters 138 = .ok (.iadd, 1) := by decide +kernel
theorem dX6_enters_139 : decode cX6_enters 139 = .ok (.iload 5, 2) := by decide +kernel
theorem dX6_enters_141 : decode cX6_enters 141 = .ok (.ifCond .eq 7, 3) := by decide +kernel
theorem dX6_enters_144 : decode cX6_enters 144 = .ok (.iconst 1, 1) := by decide +kernel
theorem dX6_enters_145 : decode cX6_enters 145 = .ok (.goto 9, 3) := by decide +kernel
theorem dX6_enters_148 : decode cX6_enters 148 = .ok (.aload_n 0, 1) := by decide +kernel
theorem dX6_enters_149 : decode cX6_enters 149 = .ok (.getfield 7, 3) := by decide +kernel
theorem dX6_enters_152 : decode cX6_enters 152 = .ok (.iload_n 2, 1) := by decide +kernel
theorem dX6_enters_153 : decode cX6_enters 153 = .ok (.iaload, 1) := by decide +kernel
theorem dX6_enters_154 : decode cX6_enters 154 = .ok (.iastore, 1) := by decide +kernel
theorem dX6_enters_155 : decode cX6_enters 155 = .ok (.iload 6, 2) := by decide +kernel
theorem dX6_enters_157 : decode cX6_enters 157 = .ok (.ifCond .eq 21, 3) := by decide +kernel
theorem dX6_enters_160 : decode cX6_enters 160 = .ok (.aload_n 0, 1) := by decide +kernel
theorem dX6_enters_161 : decode cX6_enters 161 = .ok (.getfield 41, 3) := by decide +kernel
theorem dX6_enters_164 : decode cX6_enters 164 = .ok (.bipush 112, 2) := by decide +kernel
theorem dX6_enters_166 : decode cX6_enters 166 = .ok (.iload_n 1, 1) := by decide +kernel
theorem dX6_enters_167 : decode cX6_enters 167 = .ok (.iadd, 1) := by decide +kernel
theorem dX6_enters_168 : decode cX6_enters 168 = .ok (.dup2, 1) := by decide +kernel
theorem dX6_enters_169 : decode cX6_enters 169 = .ok (.iaload, 1) := by decide +kernel
theorem dX6_enters_170 : decode cX6_enters 170 = .ok (.iconst 1, 1) := by decide +kernel
theorem dX6_enters_171 : decode cX6_enters 171 = .ok (.iload_n 2, 1) := by decide +kernel
theorem dX6_enters_172 : decode cX6_enters 172 = .ok (.ishl, 1) := by decide +kernel
theorem dX6_enters_173 : decode cX6_enters 173 = .ok (.ior, 1) := by decide +kernel
theorem dX6_enters_174 : decode cX6_enters 174 = .ok (.iastore, 1) := by decide +kernel
theorem dX6_enters_175 : decode cX6_enters 175 = .ok (.goto 25, 3) := by decide +kernel
theorem dX6_enters_178 : decode cX6_enters 178 = .ok (.iload 5, 2) := by decide +kernel
theorem dX6_enters_180 : decode cX6_enters 180 = .ok (.ifCond .ne 20, 3) := by decide +kernel
theorem dX6_enters_183 : decode cX6_enters 183 = .ok (.aload_n 0, 1) := by decide +kernel
theorem dX6_enters_184 : decode cX6_enters 184 = .ok (.getfield 41, 3) := by decide +kernel
theorem dX6_enters_187 : decode cX6_enters 187 = .ok (.bipush 112, 2) := by decide +kernel
theorem dX6_enters_189 : decode cX6_enters 189 = .ok (.iload_n 1, 1) := by decide +kernel
theorem dX6_enters_190 : decode cX6_enters 190 = .ok (.iadd, 1) := by decide +kernel
theorem dX6_enters_191 : decode cX6_enters 191 = .ok (.dup2, 1) := by decide +kernel
theorem dX6_enters_192 : decode cX6_enters 192 = .ok (.iaload, 1) := by decide +kernel
theorem dX6_enters_193 : decode cX6_enters 193 = .ok (.iconst 1, 1) := by decide +kernel
theorem dX6_enters_194 : decode cX6_enters 194 = .ok (.iload_n 2, 1) := by decide +kernel
theorem dX6_enters_195 : decode cX6_enters 195 = .ok (.ishl, 1) := by decide +kernel
theorem dX6_enters_196 : decode cX6_enters 196 = .ok (.iconst (-1), 1) := by decide +kernel
theorem dX6_enters_197 : decode cX6_enters 197 = .ok (.ixor, 1) := by decide +kernel
theorem dX6_enters_198 : decode cX6_enters 198 = .ok (.iand, 1) := by decide +kernel
theorem dX6_enters_199 : decode cX6_enters 199 = .ok (.iastore, 1) := by decide +kernel
theorem dX6_enters_200 : decode cX6_enters 200 = .ok (.iload 4, 2) := by decide +kernel
theorem dX6_enters_202 : decode cX6_enters 202 = .ok (.ifCond .eq 26, 3) := by decide +kernel
theorem dX6_enters_205 : decode cX6_enters 205 = .ok (.iload 6, 2) := by decide +kernel
theorem dX6_enters_207 : decode cX6_enters 207 = .ok (.ifCond .ne 21, 3) := by decide +kernel
theorem dX6_enters_210 : decode cX6_enters 210 = .ok (.aload_n 0, 1) := by decide +kernel
theorem dX6_enters_211 : decode cX6_enters 211 = .ok (.getfield 41, 3) := by decide +kernel
theorem dX6_enters_214 : decode cX6_enters 214 = .ok (.bipush 6, 2) := by decide +kernel
theorem dX6_enters_216 : decode cX6_enters 216 = .ok (.iload_n 2, 1) := by decide +kernel
theorem dX6_enters_217 : decode cX6_enters 217 = .ok (.iadd, 1) := by decide +kernel
theorem dX6_enters_218 : decode cX6_enters 218 = .ok (.dup2, 1) := by decide +kernel
theorem dX6_enters_219 : decode cX6_enters 219 = .ok (.iaload, 1) := by decide +kernel
theorem dX6_enters_220 : decode cX6_enters 220 = .ok (.aload_n 0, 1) := by decide +kernel
theorem dX6_enters_221 : decode cX6_enters 221 = .ok (.getfield 16, 3) := by decide +kernel
theorem dX6_enters_224 : decode cX6_enters 224 = .ok (.iload_n 2, 1) := by decide +kernel
theorem dX6_enters_225 : decode cX6_enters 225 = .ok (.iaload, 1) := by decide +kernel
theorem dX6_enters_226 : decode cX6_enters 226 = .ok (.isub, 1) := by decide +kernel
theorem dX6_enters_227 : decode cX6_enters 227 = .ok (.iastore, 1) := by decide +kernel
theorem dX6_enters_228 : decode cX6_enters 228 = .ok (.aload_n 0, 1) := by decide +kernel
theorem dX6_enters_229 : decode cX6_enters 229 = .ok (.iload_n 1, 1) := by decide +kernel
theorem dX6_enters_230 : decode cX6_enters 230 = .ok (.bipush 48, 2) := by decide +kernel
theorem dX6_enters_232 : decode cX6_enters 232 = .ok (.iload_n 2, 1) := by decide +kernel
theorem dX6_enters_233 : decode cX6_enters 233 = .ok (.iadd, 1) := by decide +kernel
theorem dX6_enters_234 : decode cX6_enters 234 = .ok (.i2c, 1) := by decide +kernel
theorem dX6_enters_235 : decode cX6_enters 235 = .ok (.invokevirtual 107, 3) := by decide +kernel
theorem dX6_enters_238 : decode cX6_enters 238 = .ok (.aload_n 0, 1) := by decide +kernel
theorem dX6_enters_239 : decode cX6_enters 239 = .ok (.iload_n 1, 1) := by decide +kernel
theorem dX6_enters_240 : decode cX6_enters 240 = .ok (.iload 6, 2) := by decide +kernel
theorem dX6_enters_242 : decode cX6_enters 242 = .ok (.ifCond .eq 8, 3) := by decide +kernel
theorem dX6_enters_245 : decode cX6_enters 245 = .ok (.bipush 45, 2) := by decide +kernel
theorem dX6_enters_247 : decode cX6_enters 247 = .ok (.goto 15, 3) := by decide +kernel
theorem dX6_enters_250 : decode cX6_enters 250 = .ok (.iload 5, 2) := by decide +kernel
theorem dX6_enters_252 : decode cX6_enters 252 = .ok (.ifCond .eq 8, 3) := by decide +kernel
theorem dX6_enters_255 : decode cX6_enters 255 = .ok (.bipush 46, 2) := by decide +kernel
theorem dX6_enters_257 : decode cX6_enters 257 = .ok (.goto 5, 3) := by decide +kernel
theorem dX6_enters_260 : decode cX6_enters 260 = .ok (.bipush 43, 2) := by decide +kernel
theorem dX6_enters_262 : decode cX6_enters 262 = .ok (.invokevirtual 107, 3) := by decide +kernel
theorem dX6_enters_265 : decode cX6_enters 265 = .ok (.aload_n 0, 1) := by decide +kernel
theorem dX6_enters_266 : decode cX6_enters 266 = .ok (.getfield 100, 3) := by decide +kernel
theorem dX6_enters_269 : decode cX6_enters 269 = .ok (.ifCond .ne 112, 3) := by decide +kernel
theorem dX6_enters_272 : decode cX6_enters 272 = .ok (.aload_n 0, 1) := by decide +kernel
theorem dX6_enters_273 : decode cX6_enters 273 = .ok (.getfield 38, 3) := by decide +kernel
theorem dX6_enters_276 : decode cX6_enters 276 = .ok (.iload_n 1, 1) := by decide +kernel
theorem dX6_enters_277 : decode cX6_enters 277 = .ok (.dup2, 1) := by decide +kernel
theorem dX6_enters_278 : decode cX6_enters 278 = .ok (.iaload, 1) := by decide +kernel
theorem dX6_enters_279 : decode cX6_enters 279 = .ok (.iconst 1, 1) := by decide +kernel
theorem dX6_enters_280 : decode cX6_enters 280 = .ok (.iload_n 2, 1) := by decide +kernel
theorem dX6_enters_281 : decode cX6_enters 281 = .ok (.ishl, 1) := by decide +kernel
theorem dX6_enters_282 : decode cX6_enters 282 = .ok (.ior, 1) := by decide +kernel
theorem dX6_enters_283 : decode cX6_enters 283 = .ok (.iastore, 1) := by decide +kernel
theorem dX6_enters_284 : decode cX6_enters 284 = .ok (.aload_n 0, 1) := by decide +kernel
theorem dX6_enters_285 : decode cX6_enters 285 = .ok (.getfield 22, 3) := by decide +kernel
theorem dX6_enters_288 : decode cX6_enters 288 = .ok (.iload_n 2, 1) := by decide +kernel
theorem dX6_enters_289 : decode cX6_enters 289 = .ok (.dup2, 1) := by decide +kernel
theorem dX6_enters_290 : decode cX6_enters 290 = .ok (.iaload, 1) := by decide +kernel
theorem dX6_enters_291 : decode cX6_enters 291 = .ok (.iload 6, 2) := by decide +kernel
theorem dX6_enters_293 : decode cX6_enters 293 = .ok (.ifCond .eq 7, 3) := by decide +kernel
theorem dX6_enters_296 : decode cX6_enters 296 = .ok (.iconst 1, 1) := by decide +kernel
theorem dX6_enters_297 : decode cX6_enters 297 = .ok (.goto 4, 3) := by decide +kernel
theorem dX6_enters_300 : decode cX6_enters 300 = .ok (.iconst 0, 1) := by decide +kernel
theorem dX6_enters_301 : decode cX6_enters 301 = .ok (.iadd, 1) := by decide +kernel
theorem dX6_enters_302 : decode cX6_enters 302 = .ok (.iastore, 1) := by decide +kernel
theorem dX6_enters_303 : decode cX6_enters 303 = .ok (.aload_n 0, 1) := by decide +kernel
theorem dX6_enters_304 : decode cX6_enters 304 = .ok (.dup, 1) := by decide +kernel
theorem dX6_enters_305 : decode cX6_enters 305 = .ok (.getfield 111, 3) := by decide +kernel
theorem dX6_enters_308 : decode cX6_enters 308 = .ok (.iload 4, 2) := by decide +kernel
theorem dX6_enters_310 : decode cX6_enters 310 = .ok (.ifCond .eq 18, 3) := by decide +kernel
theorem dX6_enters_313 : decode cX6_enters 313 = .ok (.iload 6, 2) := by decide +kernel
theorem dX6_enters_315 : decode cX6_enters 315 = .ok (.ifCond .ne 13, 3) := by decide +kernel
theorem dX6_enters_318 : decode cX6_enters 318 = .ok (.aload_n 0, 1) := by decide +kernel
theorem dX6_enters_319 : decode cX6_enters 319 = .ok (.getfield 16, 3) := by decide +kernel
theorem dX6_enters_322 : decode cX6_enters 322 = .ok (.iload_n 2, 1) := by decide +kernel
theorem dX6_enters_323 : decode cX6_enters 323 = .ok (.iaload, 1) := by decide +kernel
theorem dX6_enters_324 : decode cX6_enters 324 = .ok (.i2l, 1) := by decide +kernel
theorem dX6_enters_325 : decode cX6_enters 325 = .ok (.goto 4, 3) := by decide +kernel
theorem dX6_enters_328 : decode cX6_enters 328 = .ok (.lconst 0, 1) := by decide +kernel
theorem dX6_enters_329 : decode cX6_enters 329 = .ok (.ladd, 1) := by decide +kernel
theorem dX6_enters_330 : decode cX6_enters 330 = .ok (.putfield 111, 3) := by decide +kernel
theorem dX6_enters_333 : decode cX6_enters 333 = .ok (.iload_n 2, 1) := by decide +kernel
theorem dX6_enters_334 : decode cX6_enters 334 = .ok (.ifCond .ne 16, 3) := by decide +kernel
theorem dX6_enters_337 : decode cX6_enters 337 = .ok (.aload_n 0, 1) := by decide +kernel
theorem dX6_enters_338 : decode cX6_enters 338 = .ok (.getfield 32, 3) := by decide +kernel
theorem dX6_enters_341 : decode cX6_enters 341 = .ok (.iload_n 1, 1) := by decide +kernel
theorem dX6_enters_342 : decode cX6_enters 342 = .ok (.iaload, 1) := by decide +kernel
theorem dX6_enters_343 : decode cX6_enters 343 = .ok (.ifCond .ne 7, 3) := by decide +kernel
theorem dX6_enters_346 : decode cX6_enters 346 = .ok (.iconst 1, 1) := by decide +kernel
theorem dX6_enters_347 : decode cX6_enters 347 = .ok (.goto 4, 3) := by decide +kernel
theorem dX6_enters_350 : decode cX6_enters 350 = .ok (.iconst 0, 1) := by decide +kernel
theorem dX6_enters_351 : decode cX6_enters 351 = .ok (.istore 7, 2) := by decide +kernel
theorem dX6_enters_353 : decode cX6_enters 353 = .ok (.aload_n 0, 1) := by decide +kernel
theorem dX6_enters_354 : decode cX6_enters 354 = .ok (.getfield 32, 3) := by decide +kernel
theorem dX6_enters_357 : decode cX6_enters 357 = .ok (.iload_n 1, 1) := by decide +kernel
theorem dX6_enters_358 : decode cX6_enters 358 = .ok (.iload 7, 2) := by decide +kernel
theorem dX6_enters_360 : decode cX6_enters 360 = .ok (.ifCond .eq 14, 3) := by decide +kernel
theorem dX6_enters_363 : decode cX6_enters 363 = .ok (.aload_n 0, 1) := by decide +kernel
theorem dX6_enters_364 : decode cX6_enters 364 = .ok (.getfield 41, 3) := by decide +kernel
theorem dX6_enters_367 : decode cX6_enters 367 = .ok (.sipush 232, 3) := by decide +kernel
theorem dX6_enters_370 : decode cX6_enters 370 = .ok (.iaload, 1) := by decide +kernel
theorem dX6_enters_371 : decode cX6_enters 371 = .ok (.goto 9, 3) := by decide +kernel
theorem dX6_enters_374 : decode cX6_enters 374 = .ok (.aload_n 0, 1) := by decide +kernel
theorem dX6_enters_375 : decode cX6_enters 375 = .ok (.getfield 32, 3) := by decide +kernel
theorem dX6_enters_378 : decode cX6_enters 378 = .ok (.iload_n 1, 1) := by decide +kernel
theorem dX6_enters_379 : decode cX6_enters 379 = .ok (.iaload, 1) := by decide +kernel
theorem dX6_enters_380 : decode cX6_enters 380 = .ok (.iastore, 1) := by decide +kernel
theorem dX6_enters_381 : decode cX6_enters 381 = .ok (.return_, 1) := by decide +kernel
theorem dX6_fillsUp_0 : decode cX6_fillsUp 0 = .ok (.iconst 0, 1) := by decide +kernel
theorem dX6_fillsUp_1 : decode cX6_fillsUp 1 = .ok (.istore_n 1, 1) := by decide +kernel
theorem dX6_fillsUp_2 : decode cX6_fillsUp 2 = .ok (.iload_n 1, 1) := by decide +kernel
theorem dX6_fillsUp_3 : decode cX6_fillsUp 3 = .ok (.aload_n 0, 1) := by decide +kernel
theorem dX6_fillsUp_4 : decode cX6_fillsUp 4 = .ok (.getfield 71, 3) := by decide +kernel
theorem dX6_fillsUp_7 : decode cX6_fillsUp 7 = .ok (.if_icmp .ge 85, 3) := by decide +kernel
theorem dX6_fillsUp_10 : decode cX6_fillsUp 10 = .ok (.aload_n 0, 1) := by decide +kernel
theorem dX6_fillsUp_11 : decode cX6_fillsUp 11 = .ok (.getfield 13, 3) := by decide +kernel
theorem dX6_fillsUp_14 : decode cX6_fillsUp 14 = .ok (.iload_n 1, 1) := by decide +kernel
theorem dX6_fillsUp_15 : decode cX6_fillsUp 15 = .ok (.iaload, 1) := by decide +kernel
theorem dX6_fillsUp_16 : decode cX6_fillsUp 16 = .ok (.istore_n 2, 1) := by decide +kernel
theorem dX6_fillsUp_17 : decode cX6_fillsUp 17 = .ok (.iload_n 2, 1) := by decide +kernel
theorem dX6_fillsUp_18 : decode cX6_fillsUp 18 = .ok (.iconst (-1), 1) := by decide +kernel
theorem dX6_fillsUp_19 : decode cX6_fillsUp 19 = .ok (.if_icmp .eq 67, 3) := by decide +kernel
theorem dX6_fillsUp_22 : decode cX6_fillsUp 22 = .ok (.aload_n 0, 1) := by decide +kernel
theorem dX6_fillsUp_23 : decode cX6_fillsUp 23 = .ok (.getfield 19, 3) := by decide +kernel
theorem dX6_fillsUp_26 : decode cX6_fillsUp 26 = .ok (.iload_n 1, 1) := by decide +kernel
theorem dX6_fillsUp_27 : decode cX6_fillsUp 27 = .ok (.iaload, 1) := by decide +kernel
theorem dX6_fillsUp_28 : decode cX6_fillsUp 28 = .ok (.aload_n 0, 1) := by decide +kernel
theorem dX6_fillsUp_29 : decode cX6_fillsUp 29 = .ok (.getfield 41, 3) := by decide +kernel
theorem dX6_fillsUp_32 : decode cX6_fillsUp 32 = .ok (.bipush 6, 2) := by decide +kernel
theorem dX6_fillsUp_34 : decode cX6_fillsUp 34 = .ok (.iload_n 1, 1) := by decide +kernel
theorem dX6_fillsUp_35 : decode cX6_fillsUp 35 = .ok (.iadd, 1) := by decide +kernel
theorem dX6_fillsUp_36 : decode cX6_fillsUp 36 = .ok (.iaload, 1) := by decide +kernel
theorem dX6_fillsUp_37 : decode cX6_fillsUp 37 = .ok (.isub, 1) := by decide +kernel
theorem dX6_fillsUp_38 : decode cX6_fillsUp 38 = .ok (.istore_n 3, 1) := by decide +kernel
theorem dX6_fillsUp_39 : decode cX6_fillsUp 39 = .ok (.iload_n 3, 1) := by decide +kernel
theorem dX6_fillsUp_40 : decode cX6_fillsUp 40 = .ok (.aload_n 0, 1) := by decide +kernel
theorem dX6_fillsUp_41 : decode cX6_fillsUp 41 = .ok (.getfield 41, 3) := by decide +kernel
theorem dX6_fillsUp_44 : decode cX6_fillsUp 44 = .ok (.iload_n 2, 1) := by decide +kernel
theorem dX6_fillsUp_45 : decode cX6_fillsUp 45 = .ok (.iaload, 1) := by decide +kernel
theorem dX6_fillsUp_46 : decode cX6_fillsUp 46 = .ok (.if_icmp .ge 7, 3) := by decide +kernel
theorem dX6_fillsUp_49 : decode cX6_fillsUp 49 = .ok (.iload_n 3, 1) := by decide +kernel
theorem dX6_fillsUp_50 : decode cX6_fillsUp 50 = .ok (.goto 9, 3) := by decide +kernel
theorem dX6_fillsUp_53 : decode cX6_fillsUp 53 = .ok (.aload_n 0, 1) := by decide +kernel
theorem dX6_fillsUp_54 : decode cX6_fillsUp 54 = .ok (.getfield 41, 3) := by decide +kernel
theorem dX6_fillsUp_57 : decode cX6_fillsUp 57 = .ok (.iload_n 2, 1) := by decide +kernel
theorem dX6_fillsUp_58 : decode cX6_fillsUp 58 = .ok (.iaload, 1) := by decide +kernel
theorem dX6_fillsUp_59 : decode cX6_fillsUp 59 = .ok (.istore 4, 2) := by decide +kernel
theorem dX6_fillsUp_61 : decode cX6_fillsUp 61 = .ok (.aload_n 0, 1) := by decide +kernel
theorem dX6_fillsUp_62 : decode cX6_fillsUp 62 = .ok (.getfield 41, 3) := by decide +kernel
theorem dX6_fillsUp_65 : decode cX6_fillsUp 65 = .ok (.bipush 6, 2) := by decide +kernel
theorem dX6_fillsUp_67 : decode cX6_fillsUp 67 = .ok (.iload_n 1, 1) := by decide +kernel
theorem dX6_fillsUp_68 : decode cX6_fillsUp 68 = .ok (.iadd, 1) := by decide +kernel
theorem dX6_fillsUp_69 : decode cX6_fillsUp 69 = .ok (.dup2, 1) := by decide +kernel
theorem dX6_fillsUp_70 : decode cX6_fillsUp 70 = .ok (.iaload, 1) := by decide +kernel
theorem dX6_fillsUp_71 : decode cX6_fillsUp 71 = .ok (.iload 4, 2) := by decide +kernel
theorem dX6_fillsUp_73 : decode cX6_fillsUp 73 = .ok (.iadd, 1) := by decide +kernel
theorem dX6_fillsUp_74 : decode cX6_fillsUp 74 = .ok (.iastore, 1) := by decide +kernel
theorem dX6_fillsUp_75 : decode cX6_fillsUp 75 = .ok (.aload_n 0, 1) := by decide +kernel
theorem dX6_fillsUp_76 : decode cX6_fillsUp 76 = .ok (.getfield 41, 3) := by decide +kernel
theorem dX6_fillsUp_79 : decode cX6_fillsUp 79 = .ok (.iload_n 2, 1) := by decide +kernel
theorem dX6_fillsUp_80 : decode cX6_fillsUp 80 = .ok (.dup2, 1) := by decide +kernel
theorem dX6_fillsUp_81 : decode cX6_fillsUp 81 = .ok (.iaload, 1) := by decide +kernel
theorem dX6_fillsUp_82 : decode cX6_fillsUp 82 = .ok (.iload 4, 2) := by decide +kernel
theorem dX6_fillsUp_84 : decode cX6_fillsUp 84 = .ok (.isub, 1) := by decide +kernel
theorem dX6_fillsUp_85 : decode cX6_fillsUp 85 = .ok (.iastore, 1) := by decide +kernel
theorem dX6_fillsUp_86 : decode cX6_fillsUp 86 = .ok (.iinc 1 1, 3) := by decide +kernel
theorem dX6_fillsUp_89 : decode cX6_fillsUp 89 = .ok (.goto (-87), 3) := by decide +kernel
theorem dX6_fillsUp_92 : decode cX6_fillsUp 92 = .ok (.return_, 1) := by decide +kernel
set_option maxRecDepth 20000 in
theorem ggX6_leavesLine_X6_writes : GoodIn wsX6_leavesLine wsX6_writes := goodIn_ca (goodIn_r _ [8, 2, 9, 10, 11, 12, 13, 14, 15, 16, 17, 18, 19, 20, 21, 22, 23, 24, 25, 26, 27, 28, 29, 30, 31, 32, 33] (by decide +kernel) (by decide +kernel)) (goodIn_sub (fun _ h => List.mem_cons_of_mem _ (List.mem_append_right _ h)) (by decide +kernel))
set_option maxRecDepth 20000 in
theorem gX6_leavesLine_X6_writes : GoodIn wsX6_leavesLine (wsV RX6 107 RX6 yX6_writes wsX6_writes) := goodIn_app (goodIn_of _ (by decide +kernel)) ggX6_leavesLine_X6_writes
theorem dX6_leavesLine_0 : decode cX6_leavesLine 0 = .ok (.aload_n 0, 1) := by decide +kernel
theorem dX6_leavesLine_1 : decode cX6_leavesLine 1 = .ok (.getfield 41, 3) := by decide +kernel
theorem dX6_leavesLine_4 : decode cX6_leavesLine 4 = .ok (.bipush 112, 2) := by decide +kernel
theorem dX6_leavesLine_6 : decode cX6_leavesLine 6 = .ok (.iload_n 1, 1) := by decide +kernel
theorem dX6_leavesLine_7 : decode cX6_leavesLine 7 = .ok (.iadd, 1) := by decide +kernel
theorem dX6_leavesLine_8 : decode cX6_leavesLine 8 = .ok (.iaload, 1) := by decide +kernel
theorem dX6_leavesLine_9 : decode cX6_leavesLine 9 = .ok (.ifCond .eq 52, 3) := by decide +kernel
theorem dX6_leavesLine_12 : decode cX6_leavesLine 12 = .ok (.aload_n 0, 1) := by decide +kernel
theorem dX6_leavesLine_13 : decode cX6_leavesLine 13 = .ok (.getfield 41, 3) := by decide +kernel
theorem dX6_leavesLine_16 : decode cX6_leavesLine 16 = .ok (.bipush 82, 2) := by decide +kernel
theorem dX6_leavesLine_18 : decode cX6_leavesLine 18 = .ok (.iload_n 1, 1) := by decide +kernel
theorem dX6_leavesLine_19 : decode cX6_leavesLine 19 = .ok (.iadd, 1) := by decide +kernel
theorem dX6_leavesLine_20 : decode cX6_leavesLine 20 = .ok (.bipush 108, 2) := by decide +kernel
theorem dX6_leavesLine_22 : decode cX6_leavesLine 22 = .ok (.iastore, 1) := by decide +kernel
theorem dX6_leavesLine_23 : decode cX6_leavesLine 23 = .ok (.aload_n 0, 1) := by decide +kernel
theorem dX6_leavesLine_24 : decode cX6_leavesLine 24 = .ok (.getfield 41, 3) := by decide +kernel
theorem dX6_leavesLine_27 : decode cX6_leavesLine 27 = .ok (.sipush 172, 3) := by decide +kernel
theorem dX6_leavesLine_30 : decode cX6_leavesLine 30 = .ok (.aload_n 0, 1) := by decide +kernel
theorem dX6_leavesLine_31 : decode cX6_leavesLine 31 = .ok (.getfield 41, 3) := by decide +kernel
theorem dX6_leavesLine_34 : decode cX6_leavesLine 34 = .ok (.sipush 234, 3) := by decide +kernel
theorem dX6_leavesLine_37 : decode cX6_leavesLine 37 = .ok (.iaload, 1) := by decide +kernel
theorem dX6_leavesLine_38 : decode cX6_leavesLine 38 = .ok (.iadd, 1) := by decide +kernel
theorem dX6_leavesLine_39 : decode cX6_leavesLine 39 = .ok (.iload_n 1, 1) := by decide +kernel
theorem dX6_leavesLine_40 : decode cX6_leavesLine 40 = .ok (.iastore, 1) := by decide +kernel
theorem dX6_leavesLine_41 : decode cX6_leavesLine 41 = .ok (.aload_n 0, 1) := by decide +kernel
theorem dX6_leavesLine_42 : decode cX6_leavesLine 42 = .ok (.getfield 41, 3) := by decide +kernel
theorem dX6_leavesLine_45 : decode cX6_leavesLine 45 = .ok (.sipush 234, 3) := by decide +kernel
theorem dX6_leavesLine_48 : decode cX6_leavesLine 48 = .ok (.dup2, 1) := by decide +kernel
theorem dX6_leavesLine_49 : decode cX6_leavesLine 49 = .ok (.iaload, 1) := by decide +kernel
theorem dX6_leavesLine_50 : decode cX6_leavesLine 50 = .ok (.iconst 1, 1) := by decide +kernel
theorem dX6_leavesLine_51 : decode cX6_leavesLine 51 = .ok (.iadd, 1) := by decide +kernel
theorem dX6_leavesLine_52 : decode cX6_leavesLine 52 = .ok (.iastore, 1) := by decide +kernel
theorem dX6_leavesLine_53 : decode cX6_leavesLine 53 = .ok (.aload_n 0, 1) := by decide +kernel
theorem dX6_leavesLine_54 : decode cX6_leavesLine 54 = .ok (.iload_n 1, 1) := by decide +kernel
theorem dX6_leavesLine_55 : decode cX6_leavesLine 55 = .ok (.bipush 76, 2) := by decide +kernel
theorem dX6_leavesLine_57 : decode cX6_leavesLine 57 = .ok (.invokevirtual 107, 3) := by decide +kernel
theorem dX6_leavesLine_60 : decode cX6_leavesLine 60 = .ok (.return_, 1) := by decide +kernel
theorem dX6_leavesLine_61 : decode cX6_leavesLine 61 = .ok (.aload_n 0, 1) := by decide +kernel
theorem dX6_leavesLine_62 : decode cX6_leavesLine 62 = .ok (.getfield 41, 3) := by decide +kernel
theorem dX6_leavesLine_65 : decode cX6_leavesLine 65 = .ok (.bipush 82, 2) := by decide +kernel
theorem dX6_leavesLine_67 : decode cX6_leavesLine 67 = .ok (.iload_n 1, 1) := by decide +kernel
theorem dX6_leavesLine_68 : decode cX6_leavesLine 68 = .ok (.iadd, 1) := by decide +kernel
theorem dX6_leavesLine_69 : decode cX6_leavesLine 69 = .ok (.bipush 100, 2) := by decide +kernel
theorem dX6_leavesLine_71 : decode cX6_leavesLine 71 = .ok (.iastore, 1) := by decide +kernel
theorem dX6_leavesLine_72 : decode cX6_leavesLine 72 = .ok (.aload_n 0, 1) := by decide +kernel
theorem dX6_leavesLine_73 : decode cX6_leavesLine 73 = .ok (.getfield 41, 3) := by decide +kernel
theorem dX6_leavesLine_76 : decode cX6_leavesLine 76 = .ok (.sipush 202, 3) := by decide +kernel
theorem dX6_leavesLine_79 : decode cX6_leavesLine 79 = .ok (.aload_n 0, 1) := by decide +kernel
theorem dX6_leavesLine_80 : decode cX6_leavesLine 80 = .ok (.getfield 41, 3) := by decide +kernel
theorem dX6_leavesLine_83 : decode cX6_leavesLine 83 = .ok (.sipush 235, 3) := by decide +kernel
theorem dX6_leavesLine_86 : decode cX6_leavesLine 86 = .ok (.iaload, 1) := by decide +kernel
theorem dX6_leavesLine_87 : decode cX6_leavesLine 87 = .ok (.iadd, 1) := by decide +kernel
theorem dX6_leavesLine_88 : decode cX6_leavesLine 88 = .ok (.iload_n 1, 1) := by decide +kernel
theorem dX6_leavesLine_89 : decode cX6_leavesLine 89 = .ok (.iastore, 1) := by decide +kernel
theorem dX6_leavesLine_90 : decode cX6_leavesLine 90 = .ok (.aload_n 0, 1) := by decide +kernel
theorem dX6_leavesLine_91 : decode cX6_leavesLine 91 = .ok (.getfield 41, 3) := by decide +kernel
theorem dX6_leavesLine_94 : decode cX6_leavesLine 94 = .ok (.sipush 235, 3) := by decide +kernel
theorem dX6_leavesLine_97 : decode cX6_leavesLine 97 = .ok (.dup2, 1) := by decide +kernel
theorem dX6_leavesLine_98 : decode cX6_leavesLine 98 = .ok (.iaload, 1) := by decide +kernel
theorem dX6_leavesLine_99 : decode cX6_leavesLine 99 = .ok (.iconst 1, 1) := by decide +kernel
theorem dX6_leavesLine_100 : decode cX6_leavesLine 100 = .ok (.iadd, 1) := by decide +kernel
theorem dX6_leavesLine_101 : decode cX6_leavesLine 101 = .ok (.iastore, 1) := by decide +kernel
theorem dX6_leavesLine_102 : decode cX6_leavesLine 102 = .ok (.aload_n 0, 1) := by decide +kernel
theorem dX6_leavesLine_103 : decode cX6_leavesLine 103 = .ok (.iload_n 1, 1) := by decide +kernel
theorem dX6_leavesLine_104 : decode cX6_leavesLine 104 = .ok (.bipush 120, 2) := by decide +kernel
theorem dX6_leavesLine_106 : decode cX6_leavesLine 106 = .ok (.invokevirtual 107, 3) := by decide +kernel
theorem dX6_leavesLine_109 : decode cX6_leavesLine 109 = .ok (.aload_n 0, 1) := by decide +kernel
theorem dX6_leavesLine_110 : decode cX6_leavesLine 110 = .ok (.getfield 100, 3) := by decide +kernel
theorem dX6_leavesLine_113 : decode cX6_leavesLine 113 = .ok (.ifCond .ne 17, 3) := by decide +kernel
theorem dX6_leavesLine_116 : decode cX6_leavesLine 116 = .ok (.aload_n 0, 1) := by decide +kernel
theorem dX6_leavesLine_117 : decode cX6_leavesLine 117 = .ok (.getfield 35, 3) := by decide +kernel
theorem dX6_leavesLine_120 : decode cX6_leavesLine 120 = .ok (.iload_n 1, 1) := by decide +kernel
theorem dX6_leavesLine_121 : decode cX6_leavesLine 121 = .ok (.aload_n 0, 1) := by decide +kernel
theorem dX6_leavesLine_122 : decode cX6_leavesLine 122 = .ok (.getfield 41, 3) := by decide +kernel
theorem dX6_leavesLine_125 : decode cX6_leavesLine 125 = .ok (.sipush 232, 3) := by decide +kernel
theorem dX6_leavesLine_128 : decode cX6_leavesLine 128 = .ok (.iaload, 1) := by decide +kernel
theorem dX6_leavesLine_129 : decode cX6_leavesLine 129 = .ok (.iastore, 1) := by decide +kernel
theorem dX6_leavesLine_130 : decode cX6_leavesLine 130 = .ok (.return_, 1) := by decide +kernel
set_option maxRecDepth 20000 in
theorem ggX6_goesOn_X6_leavesLine : GoodIn wsX6_goesOn wsX6_leavesLine := goodIn_ca (goodIn_r _ [7, 1, 8, 9, 10, 11, 12, 6, 13, 14, 15, 16, 17, 18, 31, 32, 33, 34, 35, 36, 37, 38, 39, 40, 41, 42, 43, 44, 45, 46, 47, 48, 49, 50] (by decide +kernel) (by decide +kernel)) (goodIn_sub (fun _ h => List.mem_cons_of_mem _ (List.mem_append_right _ h)) (by decide +kernel))
set_option maxRecDepth 20000 in
theorem gX6_goesOn_X6_leavesLine : GoodIn wsX6_goesOn (wsV RX6 115 RX6 yX6_leavesLine wsX6_leavesLine) := goodIn_app (goodIn_of _ (by decide +kernel)) ggX6_goesOn_X6_leavesLine
set_option maxRecDepth 20000 in
theorem ggX6_goesOn_X6_enters : GoodIn wsX6_goesOn wsX6_enters := goodIn_ca (goodIn_r _ [22, 23, 24, 1, 25, 26, 8, 27, 28, 29, 30, 10, 11, 12, 6, 13, 14, 15, 16, 17, 18, 31, 32, 33, 34, 35, 36, 37, 38, 39, 40, 41, 42, 43, 44, 45, 46, 47, 48, 49, 50] (by decide +kernel) (by decide +kernel)) (goodIn_sub (fun _ h => List.mem_cons_of_mem _ (List.mem_append_right _ h)) (by decide +kernel))
set_option maxRecDepth 20000 in
theorem gX6_goesOn_X6_enters : GoodIn wsX6_goesOn (wsV RX6 119 RX6 yX6_enters wsX6_enters) := goodIn_app (goodIn_of _ (by decide +kernel)) ggX6_goesOn_X6_enters
theorem dX6_goesOn_0 : decode cX6_goesOn 0 = .ok (.aload_n 0, 1) := by decide +kernel
theorem dX6_goesOn_1 : decode cX6_goesOn 1 = .ok (.getfield 41, 3) := by decide +kernel
theorem dX6_goesOn_4 : decode cX6_goesOn 4 = .ok (.bipush 14, 2) := by decide +kernel
theorem dX6_goesOn_6 : decode cX6_goesOn 6 = .ok (.iload_n 1, 1) := by decide +kernel
theorem dX6_goesOn_7 : decode cX6_goesOn 7 = .ok (.iadd, 1) := by decide +kernel
theorem dX6_goesOn_8 : decode cX6_goesOn 8 = .ok (.iaload, 1) := by decide +kernel
theorem dX6_goesOn_9 : decode cX6_goesOn 9 = .ok (.istore_n 2, 1) := by decide +kernel
theorem dX6_goesOn_10 : decode cX6_goesOn 10 = .ok (.iload_n 2, 1) := by decide +kernel
theorem dX6_goesOn_11 : decode cX6_goesOn 11 = .ok (.iconst (-1), 1) := by decide +kernel
theorem dX6_goesOn_12 : decode cX6_goesOn 12 = .ok (.if_icmp .eq 15, 3) := by decide +kernel
theorem dX6_goesOn_15 : decode cX6_goesOn 15 = .ok (.aload_n 0, 1) := by decide +kernel
theorem dX6_goesOn_16 : decode cX6_goesOn 16 = .ok (.getfield 41, 3) := by decide +kernel
theorem dX6_goesOn_19 : decode cX6_goesOn 19 = .ok (.bipush 22, 2) := by decide +kernel
theorem dX6_goesOn_21 : decode cX6_goesOn 21 = .ok (.iload_n 2, 1) := by decide +kernel
theorem dX6_goesOn_22 : decode cX6_goesOn 22 = .ok (.iadd, 1) := by decide +kernel
theorem dX6_goesOn_23 : decode cX6_goesOn 23 = .ok (.iaload, 1) := by decide +kernel
theorem dX6_goesOn_24 : decode cX6_goesOn 24 = .ok (.ifCond .le 4, 3) := by decide +kernel
theorem dX6_goesOn_27 : decode cX6_goesOn 27 = .ok (.return_, 1) := by decide +kernel
theorem dX6_goesOn_28 : decode cX6_goesOn 28 = .ok (.aload_n 0, 1) := by decide +kernel
theorem dX6_goesOn_29 : decode cX6_goesOn 29 = .ok (.getfield 41, 3) := by decide +kernel
theorem dX6_goesOn_32 : decode cX6_goesOn 32 = .ok (.bipush 52, 2) := by decide +kernel
theorem dX6_goesOn_34 : decode cX6_goesOn 34 = .ok (.iload_n 2, 1) := by decide +kernel
theorem dX6_goesOn_35 : decode cX6_goesOn 35 = .ok (.iadd, 1) := by decide +kernel
theorem dX6_goesOn_36 : decode cX6_goesOn 36 = .ok (.iaload, 1) := by decide +kernel
theorem dX6_goesOn_37 : decode cX6_goesOn 37 = .ok (.iconst 1, 1) := by decide +kernel
theorem dX6_goesOn_38 : decode cX6_goesOn 38 = .ok (.if_icmp .eq 13, 3) := by decide +kernel
theorem dX6_goesOn_41 : decode cX6_goesOn 41 = .ok (.iload_n 1, 1) := by decide +kernel
theorem dX6_goesOn_42 : decode cX6_goesOn 42 = .ok (.aload_n 0, 1) := by decide +kernel
theorem dX6_goesOn_43 : decode cX6_goesOn 43 = .ok (.getfield 71, 3) := by decide +kernel
theorem dX6_goesOn_46 : decode cX6_goesOn 46 = .ok (.iconst 1, 1) := by decide +kernel
theorem dX6_goesOn_47 : decode cX6_goesOn 47 = .ok (.isub, 1) := by decide +kernel
theorem dX6_goesOn_48 : decode cX6_goesOn 48 = .ok (.if_icmp .ne 21, 3) := by decide +kernel
theorem dX6_goesOn_51 : decode cX6_goesOn 51 = .ok (.aload_n 0, 1) := by decide +kernel
theorem dX6_goesOn_52 : decode cX6_goesOn 52 = .ok (.getfield 41, 3) := by decide +kernel
theorem dX6_goesOn_55 : decode cX6_goesOn 55 = .ok (.bipush 14, 2) := by decide +kernel
theorem dX6_goesOn_57 : decode cX6_goesOn 57 = .ok (.iload_n 1, 1) := by decide +kernel
theorem dX6_goesOn_58 : decode cX6_goesOn 58 = .ok (.iadd, 1) := by decide +kernel
theorem dX6_goesOn_59 : decode cX6_goesOn 59 = .ok (.iconst (-1), 1) := by decide +kernel
theorem dX6_goesOn_60 : decode cX6_goesOn 60 = .ok (.iastore, 1) := by decide +kernel
theorem dX6_goesOn_61 : decode cX6_goesOn 61 = .ok (.aload_n 0, 1) := by decide +kernel
theorem dX6_goesOn_62 : decode cX6_goesOn 62 = .ok (.iload_n 2, 1) := by decide +kernel
theorem dX6_goesOn_63 : decode cX6_goesOn 63 = .ok (.invokevirtual 115, 3) := by decide +kernel
theorem dX6_goesOn_66 : decode cX6_goesOn 66 = .ok (.goto 37, 3) := by decide +kernel
theorem dX6_goesOn_69 : decode cX6_goesOn 69 = .ok (.aload_n 0, 1) := by decide +kernel
theorem dX6_goesOn_70 : decode cX6_goesOn 70 = .ok (.getfield 41, 3) := by decide +kernel
theorem dX6_goesOn_73 : decode cX6_goesOn 73 = .ok (.bipush 14, 2) := by decide +kernel
theorem dX6_goesOn_75 : decode cX6_goesOn 75 = .ok (.iload_n 1, 1) := by decide +kernel
theorem dX6_goesOn_76 : decode cX6_goesOn 76 = .ok (.iadd, 1) := by decide +kernel
theorem dX6_goesOn_77 : decode cX6_goesOn 77 = .ok (.iconst 1, 1) := by decide +kernel
theorem dX6_goesOn_78 : decode cX6_goesOn 78 = .ok (.iadd, 1) := by decide +kernel
theorem dX6_goesOn_79 : decode cX6_goesOn 79 = .ok (.iaload, 1) := by decide +kernel
theorem dX6_goesOn_80 : decode cX6_goesOn 80 = .ok (.iconst (-1), 1) := by decide +kernel
theorem dX6_goesOn_81 : decode cX6_goesOn 81 = .ok (.if_icmp .ne 22, 3) := by decide +kernel
theorem dX6_goesOn_84 : decode cX6_goesOn 84 = .ok (.aload_n 0, 1) := by decide +kernel
theorem dX6_goesOn_85 : decode cX6_goesOn 85 = .ok (.getfield 41, 3) := by decide +kernel
theorem dX6_goesOn_88 : decode cX6_goesOn 88 = .ok (.bipush 14, 2) := by decide +kernel
theorem dX6_goesOn_90 : decode cX6_goesOn 90 = .ok (.iload_n 1, 1) := by decide +kernel
theorem dX6_goesOn_91 : decode cX6_goesOn 91 = .ok (.iadd, 1) := by decide +kernel
theorem dX6_goesOn_92 : decode cX6_goesOn 92 = .ok (.iconst (-1), 1) := by decide +kernel
theorem dX6_goesOn_93 : decode cX6_goesOn 93 = .ok (.iastore, 1) := by decide +kernel
theorem dX6_goesOn_94 : decode cX6_goesOn 94 = .ok (.aload_n 0, 1) := by decide +kernel
theorem dX6_goesOn_95 : decode cX6_goesOn 95 = .ok (.iload_n 2, 1) := by decide +kernel
theorem dX6_goesOn_96 : decode cX6_goesOn 96 = .ok (.iload_n 1, 1) := by decide +kernel
theorem dX6_goesOn_97 : decode cX6_goesOn 97 = .ok (.iconst 1, 1) := by decide +kernel
theorem dX6_goesOn_98 : decode cX6_goesOn 98 = .ok (.iadd, 1) := by decide +kernel
theorem dX6_goesOn_99 : decode cX6_goesOn 99 = .ok (.iconst 0, 1) := by decide +kernel
theorem dX6_goesOn_100 : decode cX6_goesOn 100 = .ok (.invokevirtual 119, 3) := by decide +kernel
theorem dX6_goesOn_103 : decode cX6_goesOn 103 = .ok (.return_, 1) := by decide +kernel
theorem dX6_lowest_0 : decode cX6_lowest 0 = .ok (.iconst 0, 1) := by decide +kernel
theorem dX6_lowest_1 : decode cX6_lowest 1 = .ok (.istore_n 1, 1) := by decide +kernel
theorem dX6_lowest_2 : decode cX6_lowest 2 = .ok (.iload_n 0, 1) := by decide +kernel
theorem dX6_lowest_3 : decode cX6_lowest 3 = .ok (.iload_n 1, 1) := by decide +kernel
theorem dX6_lowest_4 : decode cX6_lowest 4 = .ok (.ishr, 1) := by decide +kernel
theorem dX6_lowest_5 : decode cX6_lowest 5 = .ok (.iconst 1, 1) := by decide +kernel
theorem dX6_lowest_6 : decode cX6_lowest 6 = .ok (.iand, 1) := by decide +kernel
theorem dX6_lowest_7 : decode cX6_lowest 7 = .ok (.ifCond .ne 9, 3) := by decide +kernel
theorem dX6_lowest_10 : decode cX6_lowest 10 = .ok (.iinc 1 1, 3) := by decide +kernel
theorem dX6_lowest_13 : decode cX6_lowest 13 = .ok (.goto (-11), 3) := by decide +kernel
theorem dX6_lowest_16 : decode cX6_lowest 16 = .ok (.iload_n 1, 1) := by decide +kernel
theorem dX6_lowest_17 : decode cX6_lowest 17 = .ok (.ireturn, 1) := by decide +kernel
set_option maxRecDepth 20000 in
theorem ggX6_comesBack_X6_lowest : GoodIn wsX6_comesBack wsX6_lowest := goodIn_r _ [5] (by decide +kernel) (by decide +kernel)
set_option maxRecDepth 20000 in
theorem gX6_comesBack_X6_lowest : GoodIn wsX6_comesBack (va_wsS RX6 123 yX6_lowest wsX6_lowest) := goodIn_app (goodIn_of _ (by decide +kernel)) ggX6_comesBack_X6_lowest
set_option maxRecDepth 20000 in
theorem ggX6_comesBack_X6_enters : GoodIn wsX6_comesBack wsX6_enters := goodIn_ca (goodIn_r _ [9, 10, 11, 1, 12, 13, 14, 15, 16, 17, 18, 19, 20, 21, 4, 22, 23, 24, 25, 26, 27, 28, 29, 30, 31, 32, 33, 34, 35, 36, 37, 38, 39, 40, 41, 42, 43, 44, 45, 46, 47] (by decide +kernel) (by decide +kernel)) (goodIn_sub (fun _ h => List.mem_cons_of_mem _ (List.mem_append_right _ h)) (by decide +kernel))
set_option maxRecDepth 20000 in
theorem gX6_comesBack_X6_enters : GoodIn wsX6_comesBack (wsV RX6 119 RX6 yX6_enters wsX6_enters) := goodIn_app (goodIn_of _ (by decide +kernel)) ggX6_comesBack_X6_enters
theorem dX6_comesBack_0 : decode cX6_comesBack 0 = .ok (.iconst 0, 1) := by decide +kernel
theorem dX6_comesBack_1 : decode cX6_comesBack 1 = .ok (.istore_n 1, 1) := by decide +kernel
theorem dX6_comesBack_2 : decode cX6_comesBack 2 = .ok (.aload_n 0, 1) := by decide +kernel
theorem dX6_comesBack_3 : decode cX6_comesBack 3 = .ok (.getfield 41, 3) := by decide +kernel
theorem dX6_comesBack_6 : decode cX6_comesBack 6 = .ok (.sipush 234, 3) := by decide +kernel
theorem dX6_comesBack_9 : decode cX6_comesBack 9 = .ok (.iaload, 1) := by decide +kernel
theorem dX6_comesBack_10 : decode cX6_comesBack 10 = .ok (.istore_n 2, 1) := by decide +kernel
theorem dX6_comesBack_11 : decode cX6_comesBack 11 = .ok (.iconst 0, 1) := by decide +kernel
theorem dX6_comesBack_12 : decode cX6_comesBack 12 = .ok (.istore_n 3, 1) := by decide +kernel
theorem dX6_comesBack_13 : decode cX6_comesBack 13 = .ok (.iload_n 3, 1) := by decide +kernel
theorem dX6_comesBack_14 : decode cX6_comesBack 14 = .ok (.iload_n 2, 1) := by decide +kernel
theorem dX6_comesBack_15 : decode cX6_comesBack 15 = .ok (.if_icmp .ge 77, 3) := by decide +kernel
theorem dX6_comesBack_18 : decode cX6_comesBack 18 = .ok (.aload_n 0, 1) := by decide +kernel
theorem dX6_comesBack_19 : decode cX6_comesBack 19 = .ok (.getfield 41, 3) := by decide +kernel
theorem dX6_comesBack_22 : decode cX6_comesBack 22 = .ok (.sipush 172, 3) := by decide +kernel
theorem dX6_comesBack_25 : decode cX6_comesBack 25 = .ok (.iload_n 3, 1) := by decide +kernel
theorem dX6_comesBack_26 : decode cX6_comesBack 26 = .ok (.iadd, 1) := by decide +kernel
theorem dX6_comesBack_27 : decode cX6_comesBack 27 = .ok (.iaload, 1) := by decide +kernel
theorem dX6_comesBack_28 : decode cX6_comesBack 28 = .ok (.istore 4, 2) := by decide +kernel
theorem dX6_comesBack_30 : decode cX6_comesBack 30 = .ok (.aload_n 0, 1) := by decide +kernel
