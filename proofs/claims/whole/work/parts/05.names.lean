set_option maxRecDepth 20000 in
theorem ggX0_init_J7_fill_53178 : GoodIn wsX0_init wsJ7_fill_53178 := goodIn_r _ [14] (by decide +kernel) (by decide +kernel)
set_option maxRecDepth 20000 in
theorem gX0_init_J7_fill_53178 : GoodIn wsX0_init (va_wsS RX0 28 yJ7_fill_53178 wsJ7_fill_53178) := goodIn_app (goodIn_of _ (by decide +kernel)) ggX0_init_J7_fill_53178
theorem dX0_init_0 : decode cX0_init 0 = .ok (.aload_n 0, 1) := by decide +kernel
theorem dX0_init_1 : decode cX0_init 1 = .ok (.invokespecial 3, 3) := by decide +kernel
theorem dX0_init_4 : decode cX0_init 4 = .ok (.aload_n 0, 1) := by decide +kernel
theorem dX0_init_5 : decode cX0_init 5 = .ok (.sipush 480, 3) := by decide +kernel
theorem dX0_init_8 : decode cX0_init 8 = .ok (.newarray .int, 2) := by decide +kernel
theorem dX0_init_10 : decode cX0_init 10 = .ok (.putfield 9, 3) := by decide +kernel
theorem dX0_init_13 : decode cX0_init 13 = .ok (.aload_n 0, 1) := by decide +kernel
theorem dX0_init_14 : decode cX0_init 14 = .ok (.bipush 60, 2) := by decide +kernel
theorem dX0_init_16 : decode cX0_init 16 = .ok (.newarray .boolean, 2) := by decide +kernel
theorem dX0_init_18 : decode cX0_init 18 = .ok (.putfield 15, 3) := by decide +kernel
theorem dX0_init_21 : decode cX0_init 21 = .ok (.aload_n 0, 1) := by decide +kernel
theorem dX0_init_22 : decode cX0_init 22 = .ok (.sipush 2880, 3) := by decide +kernel
theorem dX0_init_25 : decode cX0_init 25 = .ok (.newarray .int, 2) := by decide +kernel
theorem dX0_init_27 : decode cX0_init 27 = .ok (.putfield 19, 3) := by decide +kernel
theorem dX0_init_30 : decode cX0_init 30 = .ok (.aload_n 0, 1) := by decide +kernel
theorem dX0_init_31 : decode cX0_init 31 = .ok (.bipush 8, 2) := by decide +kernel
theorem dX0_init_33 : decode cX0_init 33 = .ok (.newarray .int, 2) := by decide +kernel
theorem dX0_init_35 : decode cX0_init 35 = .ok (.putfield 22, 3) := by decide +kernel
theorem dX0_init_38 : decode cX0_init 38 = .ok (.aload_n 0, 1) := by decide +kernel
theorem dX0_init_39 : decode cX0_init 39 = .ok (.bipush 8, 2) := by decide +kernel
theorem dX0_init_41 : decode cX0_init 41 = .ok (.newarray .int, 2) := by decide +kernel
theorem dX0_init_43 : decode cX0_init 43 = .ok (.putfield 25, 3) := by decide +kernel
theorem dX0_init_46 : decode cX0_init 46 = .ok (.aload_n 0, 1) := by decide +kernel
theorem dX0_init_47 : decode cX0_init 47 = .ok (.getfield 9, 3) := by decide +kernel
theorem dX0_init_50 : decode cX0_init 50 = .ok (.iconst (-1), 1) := by decide +kernel
theorem dX0_init_51 : decode cX0_init 51 = .ok (.invokestatic 28, 3) := by decide +kernel
theorem dX0_init_54 : decode cX0_init 54 = .ok (.aload_n 0, 1) := by decide +kernel
theorem dX0_init_55 : decode cX0_init 55 = .ok (.getfield 19, 3) := by decide +kernel
theorem dX0_init_58 : decode cX0_init 58 = .ok (.iconst (-1), 1) := by decide +kernel
theorem dX0_init_59 : decode cX0_init 59 = .ok (.invokestatic 28, 3) := by decide +kernel
theorem dX0_init_62 : decode cX0_init 62 = .ok (.return_, 1) := by decide +kernel
theorem dX0_addExaminer_0 : decode cX0_addExaminer 0 = .ok (.aload_n 0, 1) := by decide +kernel
theorem dX0_addExaminer_1 : decode cX0_addExaminer 1 = .ok (.getfield 34, 3) := by decide +kernel
theorem dX0_addExaminer_4 : decode cX0_addExaminer 4 = .ok (.bipush 8, 2) := by decide +kernel
theorem dX0_addExaminer_6 : decode cX0_addExaminer 6 = .ok (.if_icmp .lt 5, 3) := by decide +kernel
theorem dX0_addExaminer_9 : decode cX0_addExaminer 9 = .ok (.iconst (-1), 1) := by decide +kernel
theorem dX0_addExaminer_10 : decode cX0_addExaminer 10 = .ok (.ireturn, 1) := by decide +kernel
theorem dX0_addExaminer_11 : decode cX0_addExaminer 11 = .ok (.aload_n 0, 1) := by decide +kernel
theorem dX0_addExaminer_12 : decode cX0_addExaminer 12 = .ok (.dup, 1) := by decide +kernel
theorem dX0_addExaminer_13 : decode cX0_addExaminer 13 = .ok (.getfield 34, 3) := by decide +kernel
theorem dX0_addExaminer_16 : decode cX0_addExaminer 16 = .ok (.iconst 1, 1) := by decide +kernel
theorem dX0_addExaminer_17 : decode cX0_addExaminer 17 = .ok (.iadd, 1) := by decide +kernel
theorem dX0_addExaminer_18 : decode cX0_addExaminer 18 = .ok (.putfield 34, 3) := by decide +kernel
theorem dX0_addExaminer_21 : decode cX0_addExaminer 21 = .ok (.aload_n 0, 1) := by decide +kernel
theorem dX0_addExaminer_22 : decode cX0_addExaminer 22 = .ok (.getfield 34, 3) := by decide +kernel
theorem dX0_addExaminer_25 : decode cX0_addExaminer 25 = .ok (.iconst 1, 1) := by decide +kernel
theorem dX0_addExaminer_26 : decode cX0_addExaminer 26 = .ok (.isub, 1) := by decide +kernel
theorem dX0_addExaminer_27 : decode cX0_addExaminer 27 = .ok (.ireturn, 1) := by decide +kernel
theorem dX0_isExaminer_0 : decode cX0_isExaminer 0 = .ok (.iload_n 1, 1) := by decide +kernel
theorem dX0_isExaminer_1 : decode cX0_isExaminer 1 = .ok (.ifCond .lt 15, 3) := by decide +kernel
theorem dX0_isExaminer_4 : decode cX0_isExaminer 4 = .ok (.iload_n 1, 1) := by decide +kernel
theorem dX0_isExaminer_5 : decode cX0_isExaminer 5 = .ok (.aload_n 0, 1) := by decide +kernel
theorem dX0_isExaminer_6 : decode cX0_isExaminer 6 = .ok (.getfield 34, 3) := by decide +kernel
theorem dX0_isExaminer_9 : decode cX0_isExaminer 9 = .ok (.if_icmp .ge 7, 3) := by decide +kernel
theorem dX0_isExaminer_12 : decode cX0_isExaminer 12 = .ok (.iconst 1, 1) := by decide +kernel
theorem dX0_isExaminer_13 : decode cX0_isExaminer 13 = .ok (.goto 4, 3) := by decide +kernel
theorem dX0_isExaminer_16 : decode cX0_isExaminer 16 = .ok (.iconst 0, 1) := by decide +kernel
theorem dX0_isExaminer_17 : decode cX0_isExaminer 17 = .ok (.ireturn, 1) := by decide +kernel
set_option maxRecDepth 20000 in
theorem ggX0_setTown_X0_isExaminer : GoodIn wsX0_setTown wsX0_isExaminer := goodIn_r _ [6, 7, 11, 12, 13, 14, 15, 16, 17, 18, 19] (by decide +kernel) (by decide +kernel)
set_option maxRecDepth 20000 in
theorem gX0_setTown_X0_isExaminer : GoodIn wsX0_setTown (wsV RX0 38 RX0 yX0_isExaminer wsX0_isExaminer) := goodIn_app (goodIn_of _ (by decide +kernel)) ggX0_setTown_X0_isExaminer
set_option maxRecDepth 20000 in
theorem ggX0_setTown_X8_isDay : GoodIn wsX0_setTown wsX8_isDay := goodIn_r _ [10] (by decide +kernel) (by decide +kernel)
set_option maxRecDepth 20000 in
theorem gX0_setTown_X8_isDay_n42 : GoodIn wsX0_setTown (wsX8_isDay) := ggX0_setTown_X8_isDay
theorem dX0_setTown_0 : decode cX0_setTown 0 = .ok (.aload_n 0, 1) := by decide +kernel
theorem dX0_setTown_1 : decode cX0_setTown 1 = .ok (.iload_n 1, 1) := by decide +kernel
theorem dX0_setTown_2 : decode cX0_setTown 2 = .ok (.invokevirtual 38, 3) := by decide +kernel
theorem dX0_setTown_5 : decode cX0_setTown 5 = .ok (.ifCond .eq 22, 3) := by decide +kernel
theorem dX0_setTown_8 : decode cX0_setTown 8 = .ok (.iload_n 2, 1) := by decide +kernel
theorem dX0_setTown_9 : decode cX0_setTown 9 = .ok (.invokestatic 42, 3) := by decide +kernel
theorem dX0_setTown_12 : decode cX0_setTown 12 = .ok (.ifCond .eq 15, 3) := by decide +kernel
theorem dX0_setTown_15 : decode cX0_setTown 15 = .ok (.aload_n 0, 1) := by decide +kernel
theorem dX0_setTown_16 : decode cX0_setTown 16 = .ok (.getfield 9, 3) := by decide +kernel
theorem dX0_setTown_19 : decode cX0_setTown 19 = .ok (.bipush 60, 2) := by decide +kernel
theorem dX0_setTown_21 : decode cX0_setTown 21 = .ok (.iload_n 1, 1) := by decide +kernel
theorem dX0_setTown_22 : decode cX0_setTown 22 = .ok (.imul, 1) := by decide +kernel
theorem dX0_setTown_23 : decode cX0_setTown 23 = .ok (.iload_n 2, 1) := by decide +kernel
theorem dX0_setTown_24 : decode cX0_setTown 24 = .ok (.iadd, 1) := by decide +kernel
theorem dX0_setTown_25 : decode cX0_setTown 25 = .ok (.iload_n 3, 1) := by decide +kernel
theorem dX0_setTown_26 : decode cX0_setTown 26 = .ok (.iastore, 1) := by decide +kernel
theorem dX0_setTown_27 : decode cX0_setTown 27 = .ok (.return_, 1) := by decide +kernel
theorem dX0_townOf_0 : decode cX0_townOf 0 = .ok (.iload_n 1, 1) := by decide +kernel
theorem dX0_townOf_1 : decode cX0_townOf 1 = .ok (.ifCond .lt 25, 3) := by decide +kernel
theorem dX0_townOf_4 : decode cX0_townOf 4 = .ok (.iload_n 1, 1) := by decide +kernel
theorem dX0_townOf_5 : decode cX0_townOf 5 = .ok (.aload_n 0, 1) := by decide +kernel
theorem dX0_townOf_6 : decode cX0_townOf 6 = .ok (.getfield 34, 3) := by decide +kernel
theorem dX0_townOf_9 : decode cX0_townOf 9 = .ok (.if_icmp .ge 17, 3) := by decide +kernel
theorem dX0_townOf_12 : decode cX0_townOf 12 = .ok (.iload_n 2, 1) := by decide +kernel
theorem dX0_townOf_13 : decode cX0_townOf 13 = .ok (.ifCond .lt 13, 3) := by decide +kernel
theorem dX0_townOf_16 : decode cX0_townOf 16 = .ok (.iload_n 2, 1) := by decide +kernel
theorem dX0_townOf_17 : decode cX0_townOf 17 = .ok (.bipush 60, 2) := by decide +kernel
theorem dX0_townOf_19 : decode cX0_townOf 19 = .ok (.if_icmp .ge 7, 3) := by decide +kernel
theorem dX0_townOf_22 : decode cX0_townOf 22 = .ok (.iconst 1, 1) := by decide +kernel
theorem dX0_townOf_23 : decode cX0_townOf 23 = .ok (.goto 4, 3) := by decide +kernel
theorem dX0_townOf_26 : decode cX0_townOf 26 = .ok (.iconst 0, 1) := by decide +kernel
theorem dX0_townOf_27 : decode cX0_townOf 27 = .ok (.istore_n 3, 1) := by decide +kernel
theorem dX0_townOf_28 : decode cX0_townOf 28 = .ok (.iload_n 3, 1) := by decide +kernel
theorem dX0_townOf_29 : decode cX0_townOf 29 = .ok (.ifCond .eq 17, 3) := by decide +kernel
theorem dX0_townOf_32 : decode cX0_townOf 32 = .ok (.aload_n 0, 1) := by decide +kernel
theorem dX0_townOf_33 : decode cX0_townOf 33 = .ok (.getfield 9, 3) := by decide +kernel
theorem dX0_townOf_36 : decode cX0_townOf 36 = .ok (.bipush 60, 2) := by decide +kernel
theorem dX0_townOf_38 : decode cX0_townOf 38 = .ok (.iload_n 1, 1) := by decide +kernel
theorem dX0_townOf_39 : decode cX0_townOf 39 = .ok (.imul, 1) := by decide +kernel
theorem dX0_townOf_40 : decode cX0_townOf 40 = .ok (.iload_n 2, 1) := by decide +kernel
theorem dX0_townOf_41 : decode cX0_townOf 41 = .ok (.iadd, 1) := by decide +kernel
theorem dX0_townOf_42 : decode cX0_townOf 42 = .ok (.iaload, 1) := by decide +kernel
theorem dX0_townOf_43 : decode cX0_townOf 43 = .ok (.goto 4, 3) := by decide +kernel
theorem dX0_townOf_46 : decode cX0_townOf 46 = .ok (.iconst (-1), 1) := by decide +kernel
theorem dX0_townOf_47 : decode cX0_townOf 47 = .ok (.ireturn, 1) := by decide +kernel
set_option maxRecDepth 20000 in
theorem ggX0_shutDay_X8_isDay : GoodIn wsX0_shutDay wsX8_isDay := goodIn_r _ [4] (by decide +kernel) (by decide +kernel)
set_option maxRecDepth 20000 in
theorem gX0_shutDay_X8_isDay_n42 : GoodIn wsX0_shutDay (wsX8_isDay) := ggX0_shutDay_X8_isDay
theorem dX0_shutDay_0 : decode cX0_shutDay 0 = .ok (.iload_n 1, 1) := by decide +kernel
theorem dX0_shutDay_1 : decode cX0_shutDay 1 = .ok (.invokestatic 42, 3) := by decide +kernel
theorem dX0_shutDay_4 : decode cX0_shutDay 4 = .ok (.ifCond .eq 10, 3) := by decide +kernel
theorem dX0_shutDay_7 : decode cX0_shutDay 7 = .ok (.aload_n 0, 1) := by decide +kernel
theorem dX0_shutDay_8 : decode cX0_shutDay 8 = .ok (.getfield 15, 3) := by decide +kernel
theorem dX0_shutDay_11 : decode cX0_shutDay 11 = .ok (.iload_n 1, 1) := by decide +kernel
theorem dX0_shutDay_12 : decode cX0_shutDay 12 = .ok (.iconst 1, 1) := by decide +kernel
theorem dX0_shutDay_13 : decode cX0_shutDay 13 = .ok (.bastore, 1) := by decide +kernel
theorem dX0_shutDay_14 : decode cX0_shutDay 14 = .ok (.return_, 1) := by decide +kernel
set_option maxRecDepth 20000 in
theorem ggX0_isShut_X8_isDay : GoodIn wsX0_isShut wsX8_isDay := goodIn_r _ [4] (by decide +kernel) (by decide +kernel)
set_option maxRecDepth 20000 in
theorem gX0_isShut_X8_isDay_n42 : GoodIn wsX0_isShut (wsX8_isDay) := ggX0_isShut_X8_isDay
theorem dX0_isShut_0 : decode cX0_isShut 0 = .ok (.iload_n 1, 1) := by decide +kernel
theorem dX0_isShut_1 : decode cX0_isShut 1 = .ok (.invokestatic 42, 3) := by decide +kernel
theorem dX0_isShut_4 : decode cX0_isShut 4 = .ok (.ifCond .eq 16, 3) := by decide +kernel
theorem dX0_isShut_7 : decode cX0_isShut 7 = .ok (.aload_n 0, 1) := by decide +kernel
theorem dX0_isShut_8 : decode cX0_isShut 8 = .ok (.getfield 15, 3) := by decide +kernel
theorem dX0_isShut_11 : decode cX0_isShut 11 = .ok (.iload_n 1, 1) := by decide +kernel
theorem dX0_isShut_12 : decode cX0_isShut 12 = .ok (.baload, 1) := by decide +kernel
theorem dX0_isShut_13 : decode cX0_isShut 13 = .ok (.ifCond .eq 7, 3) := by decide +kernel
theorem dX0_isShut_16 : decode cX0_isShut 16 = .ok (.iconst 1, 1) := by decide +kernel
theorem dX0_isShut_17 : decode cX0_isShut 17 = .ok (.goto 4, 3) := by decide +kernel
theorem dX0_isShut_20 : decode cX0_isShut 20 = .ok (.iconst 0, 1) := by decide +kernel
theorem dX0_isShut_21 : decode cX0_isShut 21 = .ok (.ireturn, 1) := by decide +kernel
set_option maxRecDepth 20000 in
theorem ggX0_hasHour_X0_townOf : GoodIn wsX0_hasHour wsX0_townOf := goodIn_r _ [5, 6, 7, 11, 12, 13, 14, 15, 16, 17, 18, 19] (by decide +kernel) (by decide +kernel)
set_option maxRecDepth 20000 in
theorem gX0_hasHour_X0_townOf : GoodIn wsX0_hasHour (wsV RX0 45 RX0 yX0_townOf wsX0_townOf) := goodIn_app (goodIn_of _ (by decide +kernel)) ggX0_hasHour_X0_townOf
set_option maxRecDepth 20000 in
theorem ggX0_hasHour_X0_isTravel : GoodIn wsX0_hasHour wsX0_isTravel := goodIn_r _ [10] (by decide +kernel) (by decide +kernel)
set_option maxRecDepth 20000 in
theorem gX0_hasHour_X0_isTravel : GoodIn wsX0_hasHour (va_wsS RX0 49 yX0_isTravel wsX0_isTravel) := goodIn_app (goodIn_of _ (by decide +kernel)) ggX0_hasHour_X0_isTravel
theorem dX0_hasHour_0 : decode cX0_hasHour 0 = .ok (.aload_n 0, 1) := by decide +kernel
theorem dX0_hasHour_1 : decode cX0_hasHour 1 = .ok (.iload_n 3, 1) := by decide +kernel
theorem dX0_hasHour_2 : decode cX0_hasHour 2 = .ok (.iload_n 1, 1) := by decide +kernel
theorem dX0_hasHour_3 : decode cX0_hasHour 3 = .ok (.invokevirtual 45, 3) := by decide +kernel
theorem dX0_hasHour_6 : decode cX0_hasHour 6 = .ok (.istore 4, 2) := by decide +kernel
theorem dX0_hasHour_8 : decode cX0_hasHour 8 = .ok (.iload 4, 2) := by decide +kernel
theorem dX0_hasHour_10 : decode cX0_hasHour 10 = .ok (.iconst (-1), 1) := by decide +kernel
theorem dX0_hasHour_11 : decode cX0_hasHour 11 = .ok (.if_icmp .eq 27, 3) := by decide +kernel
theorem dX0_hasHour_14 : decode cX0_hasHour 14 = .ok (.iload_n 2, 1) := by decide +kernel
theorem dX0_hasHour_15 : decode cX0_hasHour 15 = .ok (.ifCond .gt 19, 3) := by decide +kernel
theorem dX0_hasHour_18 : decode cX0_hasHour 18 = .ok (.iload 4, 2) := by decide +kernel
theorem dX0_hasHour_20 : decode cX0_hasHour 20 = .ok (.aload_n 0, 1) := by decide +kernel
theorem dX0_hasHour_21 : decode cX0_hasHour 21 = .ok (.iload_n 3, 1) := by decide +kernel
theorem dX0_hasHour_22 : decode cX0_hasHour 22 = .ok (.iload_n 1, 1) := by decide +kernel
theorem dX0_hasHour_23 : decode cX0_hasHour 23 = .ok (.iconst 1, 1) := by decide +kernel
theorem dX0_hasHour_24 : decode cX0_hasHour 24 = .ok (.isub, 1) := by decide +kernel
theorem dX0_hasHour_25 : decode cX0_hasHour 25 = .ok (.invokevirtual 45, 3) := by decide +kernel
theorem dX0_hasHour_28 : decode cX0_hasHour 28 = .ok (.invokestatic 49, 3) := by decide +kernel
theorem dX0_hasHour_31 : decode cX0_hasHour 31 = .ok (.ifCond .ne 7, 3) := by decide +kernel
theorem dX0_hasHour_34 : decode cX0_hasHour 34 = .ok (.iconst 1, 1) := by decide +kernel
theorem dX0_hasHour_35 : decode cX0_hasHour 35 = .ok (.goto 4, 3) := by decide +kernel
theorem dX0_hasHour_38 : decode cX0_hasHour 38 = .ok (.iconst 0, 1) := by decide +kernel
theorem dX0_hasHour_39 : decode cX0_hasHour 39 = .ok (.ireturn, 1) := by decide +kernel
theorem dX0_isTravel_0 : decode cX0_isTravel 0 = .ok (.iload_n 1, 1) := by decide +kernel
theorem dX0_isTravel_1 : decode cX0_isTravel 1 = .ok (.iconst (-1), 1) := by decide +kernel
theorem dX0_isTravel_2 : decode cX0_isTravel 2 = .ok (.if_icmp .eq 12, 3) := by decide +kernel
theorem dX0_isTravel_5 : decode cX0_isTravel 5 = .ok (.iload_n 1, 1) := by decide +kernel
theorem dX0_isTravel_6 : decode cX0_isTravel 6 = .ok (.iload_n 0, 1) := by decide +kernel
theorem dX0_isTravel_7 : decode cX0_isTravel 7 = .ok (.if_icmp .eq 7, 3) := by decide +kernel
theorem dX0_isTravel_10 : decode cX0_isTravel 10 = .ok (.iconst 1, 1) := by decide +kernel
theorem dX0_isTravel_11 : decode cX0_isTravel 11 = .ok (.goto 4, 3) := by decide +kernel
theorem dX0_isTravel_14 : decode cX0_isTravel 14 = .ok (.iconst 0, 1) := by decide +kernel
theorem dX0_isTravel_15 : decode cX0_isTravel 15 = .ok (.ireturn, 1) := by decide +kernel
theorem dX0_isSlot_0 : decode cX0_isSlot 0 = .ok (.iload_n 1, 1) := by decide +kernel
theorem dX0_isSlot_1 : decode cX0_isSlot 1 = .ok (.ifCond .lt 16, 3) := by decide +kernel
theorem dX0_isSlot_4 : decode cX0_isSlot 4 = .ok (.iload_n 1, 1) := by decide +kernel
theorem dX0_isSlot_5 : decode cX0_isSlot 5 = .ok (.aload_n 0, 1) := by decide +kernel
theorem dX0_isSlot_6 : decode cX0_isSlot 6 = .ok (.getfield 19, 3) := by decide +kernel
theorem dX0_isSlot_9 : decode cX0_isSlot 9 = .ok (.arraylength, 1) := by decide +kernel
theorem dX0_isSlot_10 : decode cX0_isSlot 10 = .ok (.if_icmp .ge 7, 3) := by decide +kernel
theorem dX0_isSlot_13 : decode cX0_isSlot 13 = .ok (.iconst 1, 1) := by decide +kernel
theorem dX0_isSlot_14 : decode cX0_isSlot 14 = .ok (.goto 4, 3) := by decide +kernel
theorem dX0_isSlot_17 : decode cX0_isSlot 17 = .ok (.iconst 0, 1) := by decide +kernel
theorem dX0_isSlot_18 : decode cX0_isSlot 18 = .ok (.ireturn, 1) := by decide +kernel
set_option maxRecDepth 20000 in
theorem ggX0_bookedIn_X0_isSlot : GoodIn wsX0_bookedIn wsX0_isSlot := goodIn_r _ [6, 1, 7, 8, 9, 10, 11, 12, 13, 14, 15] (by decide +kernel) (by decide +kernel)
set_option maxRecDepth 20000 in
theorem gX0_bookedIn_X0_isSlot : GoodIn wsX0_bookedIn (wsV RX0 53 RX0 yX0_isSlot wsX0_isSlot) := goodIn_app (goodIn_of _ (by decide +kernel)) ggX0_bookedIn_X0_isSlot
theorem dX0_bookedIn_0 : decode cX0_bookedIn 0 = .ok (.aload_n 0, 1) := by decide +kernel
theorem dX0_bookedIn_1 : decode cX0_bookedIn 1 = .ok (.iload_n 1, 1) := by decide +kernel
theorem dX0_bookedIn_2 : decode cX0_bookedIn 2 = .ok (.invokevirtual 53, 3) := by decide +kernel
theorem dX0_bookedIn_5 : decode cX0_bookedIn 5 = .ok (.ifCond .eq 12, 3) := by decide +kernel
theorem dX0_bookedIn_8 : decode cX0_bookedIn 8 = .ok (.aload_n 0, 1) := by decide +kernel
theorem dX0_bookedIn_9 : decode cX0_bookedIn 9 = .ok (.getfield 19, 3) := by decide +kernel
theorem dX0_bookedIn_12 : decode cX0_bookedIn 12 = .ok (.iload_n 1, 1) := by decide +kernel
theorem dX0_bookedIn_13 : decode cX0_bookedIn 13 = .ok (.iaload, 1) := by decide +kernel
theorem dX0_bookedIn_14 : decode cX0_bookedIn 14 = .ok (.goto 4, 3) := by decide +kernel
theorem dX0_bookedIn_17 : decode cX0_bookedIn 17 = .ok (.iconst (-1), 1) := by decide +kernel
theorem dX0_bookedIn_18 : decode cX0_bookedIn 18 = .ok (.ireturn, 1) := by decide +kernel
set_option maxRecDepth 20000 in
theorem ggX0_setBooked_X0_isSlot : GoodIn wsX0_setBooked wsX0_isSlot := goodIn_r _ [6, 1, 7, 8, 9, 10, 11, 12, 13, 14, 15] (by decide +kernel) (by decide +kernel)
set_option maxRecDepth 20000 in
theorem gX0_setBooked_X0_isSlot : GoodIn wsX0_setBooked (wsV RX0 53 RX0 yX0_isSlot wsX0_isSlot) := goodIn_app (goodIn_of _ (by decide +kernel)) ggX0_setBooked_X0_isSlot
theorem dX0_setBooked_0 : decode cX0_setBooked 0 = .ok (.aload_n 0, 1) := by decide +kernel
theorem dX0_setBooked_1 : decode cX0_setBooked 1 = .ok (.iload_n 1, 1) := by decide +kernel
theorem dX0_setBooked_2 : decode cX0_setBooked 2 = .ok (.invokevirtual 53, 3) := by decide +kernel
theorem dX0_setBooked_5 : decode cX0_setBooked 5 = .ok (.ifCond .eq 10, 3) := by decide +kernel
theorem dX0_setBooked_8 : decode cX0_setBooked 8 = .ok (.aload_n 0, 1) := by decide +kernel
theorem dX0_setBooked_9 : decode cX0_setBooked 9 = .ok (.getfield 19, 3) := by decide +kernel
theorem dX0_setBooked_12 : decode cX0_setBooked 12 = .ok (.iload_n 1, 1) := by decide +kernel
theorem dX0_setBooked_13 : decode cX0_setBooked 13 = .ok (.iload_n 2, 1) := by decide +kernel
theorem dX0_setBooked_14 : decode cX0_setBooked 14 = .ok (.iastore, 1) := by decide +kernel
theorem dX0_setBooked_15 : decode cX0_setBooked 15 = .ok (.return_, 1) := by decide +kernel
set_option maxRecDepth 20000 in
theorem ggX0_isFree_X0_isSlot : GoodIn wsX0_isFree wsX0_isSlot := goodIn_r _ [8, 1, 29, 30, 31, 32, 33, 34, 35, 36, 37] (by decide +kernel) (by decide +kernel)
set_option maxRecDepth 20000 in
theorem gX0_isFree_X0_isSlot : GoodIn wsX0_isFree (wsV RX0 53 RX0 yX0_isSlot wsX0_isSlot) := goodIn_app (goodIn_of _ (by decide +kernel)) ggX0_isFree_X0_isSlot
set_option maxRecDepth 20000 in
theorem ggX0_isFree_X8_dayOf : GoodIn wsX0_isFree wsX8_dayOf := goodIn_r _ [11] (by decide +kernel) (by decide +kernel)
set_option maxRecDepth 20000 in
theorem gX0_isFree_X8_dayOf_n56 : GoodIn wsX0_isFree (wsX8_dayOf) := ggX0_isFree_X8_dayOf
set_option maxRecDepth 20000 in
theorem ggX0_isFree_X8_hourOf : GoodIn wsX0_isFree wsX8_hourOf := goodIn_r _ [13] (by decide +kernel) (by decide +kernel)
set_option maxRecDepth 20000 in
theorem gX0_isFree_X8_hourOf_n63 : GoodIn wsX0_isFree (wsX8_hourOf) := ggX0_isFree_X8_hourOf
set_option maxRecDepth 20000 in
theorem ggX0_isFree_X8_examinerOf : GoodIn wsX0_isFree wsX8_examinerOf := goodIn_r _ [15] (by decide +kernel) (by decide +kernel)
set_option maxRecDepth 20000 in
theorem gX0_isFree_X8_examinerOf_n66 : GoodIn wsX0_isFree (wsX8_examinerOf) := ggX0_isFree_X8_examinerOf
set_option maxRecDepth 20000 in
theorem ggX0_isFree_X0_hasHour : GoodIn wsX0_isFree wsX0_hasHour := goodIn_r _ [19, 20, 21, 22, 7, 23, 24, 25, 26, 27, 28, 29, 30, 31, 32, 33, 34, 35, 36, 37] (by decide +kernel) (by decide +kernel)
set_option maxRecDepth 20000 in
theorem gX0_isFree_X0_hasHour : GoodIn wsX0_isFree (wsV RX0 69 RX0 yX0_hasHour wsX0_hasHour) := goodIn_app (goodIn_of _ (by decide +kernel)) ggX0_isFree_X0_hasHour
theorem dX0_isFree_0 : decode cX0_isFree 0 = .ok (.aload_n 0, 1) := by decide +kernel
theorem dX0_isFree_1 : decode cX0_isFree 1 = .ok (.iload_n 1, 1) := by decide +kernel
theorem dX0_isFree_2 : decode cX0_isFree 2 = .ok (.invokevirtual 53, 3) := by decide +kernel
theorem dX0_isFree_5 : decode cX0_isFree 5 = .ok (.ifCond .eq 13, 3) := by decide +kernel
theorem dX0_isFree_8 : decode cX0_isFree 8 = .ok (.aload_n 0, 1) := by decide +kernel
theorem dX0_isFree_9 : decode cX0_isFree 9 = .ok (.getfield 19, 3) := by decide +kernel
theorem dX0_isFree_12 : decode cX0_isFree 12 = .ok (.iload_n 1, 1) := by decide +kernel
theorem dX0_isFree_13 : decode cX0_isFree 13 = .ok (.iaload, 1) := by decide +kernel
theorem dX0_isFree_14 : decode cX0_isFree 14 = .ok (.iconst (-1), 1) := by decide +kernel
theorem dX0_isFree_15 : decode cX0_isFree 15 = .ok (.if_icmp .eq 5, 3) := by decide +kernel
theorem dX0_isFree_18 : decode cX0_isFree 18 = .ok (.iconst 0, 1) := by decide +kernel
theorem dX0_isFree_19 : decode cX0_isFree 19 = .ok (.ireturn, 1) := by decide +kernel
theorem dX0_isFree_20 : decode cX0_isFree 20 = .ok (.iload_n 1, 1) := by decide +kernel
theorem dX0_isFree_21 : decode cX0_isFree 21 = .ok (.invokestatic 56, 3) := by decide +kernel
theorem dX0_isFree_24 : decode cX0_isFree 24 = .ok (.istore_n 2, 1) := by decide +kernel
theorem dX0_isFree_25 : decode cX0_isFree 25 = .ok (.iload_n 2, 1) := by decide +kernel
theorem dX0_isFree_26 : decode cX0_isFree 26 = .ok (.aload_n 0, 1) := by decide +kernel
theorem dX0_isFree_27 : decode cX0_isFree 27 = .ok (.getfield 60, 3) := by decide +kernel
theorem dX0_isFree_30 : decode cX0_isFree 30 = .ok (.if_icmp .le 32, 3) := by decide +kernel
theorem dX0_isFree_33 : decode cX0_isFree 33 = .ok (.aload_n 0, 1) := by decide +kernel
theorem dX0_isFree_34 : decode cX0_isFree 34 = .ok (.getfield 15, 3) := by decide +kernel
theorem dX0_isFree_37 : decode cX0_isFree 37 = .ok (.iload_n 2, 1) := by decide +kernel
theorem dX0_isFree_38 : decode cX0_isFree 38 = .ok (.baload, 1) := by decide +kernel
theorem dX0_isFree_39 : decode cX0_isFree 39 = .ok (.ifCond .ne 23, 3) := by decide +kernel
theorem dX0_isFree_42 : decode cX0_isFree 42 = .ok (.aload_n 0, 1) := by decide +kernel
theorem dX0_isFree_43 : decode cX0_isFree 43 = .ok (.iload_n 2, 1) := by decide +kernel
theorem dX0_isFree_44 : decode cX0_isFree 44 = .ok (.iload_n 1, 1) := by decide +kernel
theorem dX0_isFree_45 : decode cX0_isFree 45 = .ok (.invokestatic 63, 3) := by decide +kernel
theorem dX0_isFree_48 : decode cX0_isFree 48 = .ok (.iload_n 1, 1) := by decide +kernel
theorem dX0_isFree_49 : decode cX0_isFree 49 = .ok (.invokestatic 66, 3) := by decide +kernel
theorem dX0_isFree_52 : decode cX0_isFree 52 = .ok (.invokevirtual 69, 3) := by decide +kernel
theorem dX0_isFree_55 : decode cX0_isFree 55 = .ok (.ifCond .eq 7, 3) := by decide +kernel
theorem dX0_isFree_58 : decode cX0_isFree 58 = .ok (.iconst 1, 1) := by decide +kernel
theorem dX0_isFree_59 : decode cX0_isFree 59 = .ok (.goto 4, 3) := by decide +kernel
theorem dX0_isFree_62 : decode cX0_isFree 62 = .ok (.iconst 0, 1) := by decide +kernel
theorem dX0_isFree_63 : decode cX0_isFree 63 = .ok (.ireturn, 1) := by decide +kernel
set_option maxRecDepth 20000 in
theorem ggX0_leastFree_X0_leastFreeOn : GoodIn wsX0_leastFree wsX0_leastFreeOn := goodIn_r _ [10, 11, 12, 13, 14, 15, 16, 17, 9, 18, 19, 20, 21, 22, 23, 24, 1, 25, 26, 27, 28, 29, 30, 31, 32, 33, 34, 35, 36, 37, 38, 39, 40, 41, 42, 43, 44, 45, 46, 47, 48, 49, 50, 51] (by decide +kernel) (by decide +kernel)
set_option maxRecDepth 20000 in
theorem gX0_leastFree_X0_leastFreeOn : GoodIn wsX0_leastFree (wsV RX0 78 RX0 yX0_leastFreeOn wsX0_leastFreeOn) := goodIn_app (goodIn_of _ (by decide +kernel)) ggX0_leastFree_X0_leastFreeOn
theorem dX0_leastFree_0 : decode cX0_leastFree 0 = .ok (.iload_n 2, 1) := by decide +kernel
theorem dX0_leastFree_1 : decode cX0_leastFree 1 = .ok (.aload_n 0, 1) := by decide +kernel
theorem dX0_leastFree_2 : decode cX0_leastFree 2 = .ok (.getfield 60, 3) := by decide +kernel
theorem dX0_leastFree_5 : decode cX0_leastFree 5 = .ok (.iconst 1, 1) := by decide +kernel
theorem dX0_leastFree_6 : decode cX0_leastFree 6 = .ok (.iadd, 1) := by decide +kernel
theorem dX0_leastFree_7 : decode cX0_leastFree 7 = .ok (.invokestatic 73, 3) := by decide +kernel
theorem dX0_leastFree_10 : decode cX0_leastFree 10 = .ok (.istore 4, 2) := by decide +kernel
theorem dX0_leastFree_12 : decode cX0_leastFree 12 = .ok (.iload 4, 2) := by decide +kernel
theorem dX0_leastFree_14 : decode cX0_leastFree 14 = .ok (.iload_n 3, 1) := by decide +kernel
theorem dX0_leastFree_15 : decode cX0_leastFree 15 = .ok (.if_icmp .gt 34, 3) := by decide +kernel
theorem dX0_leastFree_18 : decode cX0_leastFree 18 = .ok (.iload 4, 2) := by decide +kernel
theorem dX0_leastFree_20 : decode cX0_leastFree 20 = .ok (.bipush 60, 2) := by decide +kernel
theorem dX0_leastFree_22 : decode cX0_leastFree 22 = .ok (.if_icmp .ge 27, 3) := by decide +kernel
theorem dX0_leastFree_25 : decode cX0_leastFree 25 = .ok (.aload_n 0, 1) := by decide +kernel
theorem dX0_leastFree_26 : decode cX0_leastFree 26 = .ok (.iload 4, 2) := by decide +kernel
theorem dX0_leastFree_28 : decode cX0_leastFree 28 = .ok (.iload_n 1, 1) := by decide +kernel
theorem dX0_leastFree_29 : decode cX0_leastFree 29 = .ok (.invokevirtual 78, 3) := by decide +kernel
theorem dX0_leastFree_32 : decode cX0_leastFree 32 = .ok (.istore 5, 2) := by decide +kernel
theorem dX0_leastFree_34 : decode cX0_leastFree 34 = .ok (.iload 5, 2) := by decide +kernel
theorem dX0_leastFree_36 : decode cX0_leastFree 36 = .ok (.iconst (-1), 1) := by decide +kernel
theorem dX0_leastFree_37 : decode cX0_leastFree 37 = .ok (.if_icmp .eq 6, 3) := by decide +kernel
theorem dX0_leastFree_40 : decode cX0_leastFree 40 = .ok (.iload 5, 2) := by decide +kernel
theorem dX0_leastFree_42 : decode cX0_leastFree 42 = .ok (.ireturn, 1) := by decide +kernel
theorem dX0_leastFree_43 : decode cX0_leastFree 43 = .ok (.iinc 4 1, 3) := by decide +kernel
theorem dX0_leastFree_46 : decode cX0_leastFree 46 = .ok (.goto (-34), 3) := by decide +kernel
theorem dX0_leastFree_49 : decode cX0_leastFree 49 = .ok (.iconst (-1), 1) := by decide +kernel
theorem dX0_leastFree_50 : decode cX0_leastFree 50 = .ok (.ireturn, 1) := by decide +kernel
set_option maxRecDepth 20000 in
theorem ggX0_leastFreeOn_X8_slotOf : GoodIn wsX0_leastFreeOn wsX8_slotOf := goodIn_r _ [4] (by decide +kernel) (by decide +kernel)
set_option maxRecDepth 20000 in
theorem gX0_leastFreeOn_X8_slotOf_n81 : GoodIn wsX0_leastFreeOn (wsX8_slotOf) := ggX0_leastFreeOn_X8_slotOf
set_option maxRecDepth 20000 in
theorem ggX0_leastFreeOn_X0_townOf : GoodIn wsX0_leastFreeOn wsX0_townOf := goodIn_r _ [9, 1, 10, 35, 36, 37, 38, 39, 40, 41, 42, 43] (by decide +kernel) (by decide +kernel)
set_option maxRecDepth 20000 in
theorem gX0_leastFreeOn_X0_townOf : GoodIn wsX0_leastFreeOn (wsV RX0 45 RX0 yX0_townOf wsX0_townOf) := goodIn_app (goodIn_of _ (by decide +kernel)) ggX0_leastFreeOn_X0_townOf
set_option maxRecDepth 20000 in
theorem ggX0_leastFreeOn_X0_isFree : GoodIn wsX0_leastFreeOn wsX0_isFree := goodIn_r _ [14, 15, 16, 17, 18, 19, 20, 8, 21, 22, 3, 23, 24, 25, 26, 27, 28, 29, 30, 31, 5, 6, 7, 9, 1, 10, 32, 33, 34, 35, 36, 37, 38, 39, 40, 41, 42, 43] (by decide +kernel) (by decide +kernel)
set_option maxRecDepth 20000 in
theorem gX0_leastFreeOn_X0_isFree : GoodIn wsX0_leastFreeOn (wsV RX0 85 RX0 yX0_isFree wsX0_isFree) := goodIn_app (goodIn_of _ (by decide +kernel)) ggX0_leastFreeOn_X0_isFree
theorem dX0_leastFreeOn_0 : decode cX0_leastFreeOn 0 = .ok (.iconst 0, 1) := by decide +kernel
theorem dX0_leastFreeOn_1 : decode cX0_leastFreeOn 1 = .ok (.istore_n 3, 1) := by decide +kernel
theorem dX0_leastFreeOn_2 : decode cX0_leastFreeOn 2 = .ok (.iload_n 3, 1) := by decide +kernel
theorem dX0_leastFreeOn_3 : decode cX0_leastFreeOn 3 = .ok (.bipush 6, 2) := by decide +kernel
theorem dX0_leastFreeOn_5 : decode cX0_leastFreeOn 5 = .ok (.if_icmp .ge 59, 3) := by decide +kernel
theorem dX0_leastFreeOn_8 : decode cX0_leastFreeOn 8 = .ok (.iconst 0, 1) := by decide +kernel
theorem dX0_leastFreeOn_9 : decode cX0_leastFreeOn 9 = .ok (.istore 4, 2) := by decide +kernel
theorem dX0_leastFreeOn_11 : decode cX0_leastFreeOn 11 = .ok (.iload 4, 2) := by decide +kernel
theorem dX0_leastFreeOn_13 : decode cX0_leastFreeOn 13 = .ok (.aload_n 0, 1) := by decide +kernel
theorem dX0_leastFreeOn_14 : decode cX0_leastFreeOn 14 = .ok (.getfield 34, 3) := by decide +kernel
theorem dX0_leastFreeOn_17 : decode cX0_leastFreeOn 17 = .ok (.if_icmp .ge 41, 3) := by decide +kernel
theorem dX0_leastFreeOn_20 : decode cX0_leastFreeOn 20 = .ok (.iload_n 1, 1) := by decide +kernel
theorem dX0_leastFreeOn_21 : decode cX0_leastFreeOn 21 = .ok (.iload_n 3, 1) := by decide +kernel
theorem dX0_leastFreeOn_22 : decode cX0_leastFreeOn 22 = .ok (.iload 4, 2) := by decide +kernel
theorem dX0_leastFreeOn_24 : decode cX0_leastFreeOn 24 = .ok (.invokestatic 81, 3) := by decide +kernel
theorem dX0_leastFreeOn_27 : decode cX0_leastFreeOn 27 = .ok (.istore 5, 2) := by decide +kernel
theorem dX0_leastFreeOn_29 : decode cX0_leastFreeOn 29 = .ok (.aload_n 0, 1) := by decide +kernel
theorem dX0_leastFreeOn_30 : decode cX0_leastFreeOn 30 = .ok (.iload 4, 2) := by decide +kernel
theorem dX0_leastFreeOn_32 : decode cX0_leastFreeOn 32 = .ok (.iload_n 1, 1) := by decide +kernel
theorem dX0_leastFreeOn_33 : decode cX0_leastFreeOn 33 = .ok (.invokevirtual 45, 3) := by decide +kernel
theorem dX0_leastFreeOn_36 : decode cX0_leastFreeOn 36 = .ok (.iload_n 2, 1) := by decide +kernel
theorem dX0_leastFreeOn_37 : decode cX0_leastFreeOn 37 = .ok (.if_icmp .ne 15, 3) := by decide +kernel
theorem dX0_leastFreeOn_40 : decode cX0_leastFreeOn 40 = .ok (.aload_n 0, 1) := by decide +kernel
theorem dX0_leastFreeOn_41 : decode cX0_leastFreeOn 41 = .ok (.iload 5, 2) := by decide +kernel
theorem dX0_leastFreeOn_43 : decode cX0_leastFreeOn 43 = .ok (.invokevirtual 85, 3) := by decide +kernel
theorem dX0_leastFreeOn_46 : decode cX0_leastFreeOn 46 = .ok (.ifCond .eq 6, 3) := by decide +kernel
theorem dX0_leastFreeOn_49 : decode cX0_leastFreeOn 49 = .ok (.iload 5, 2) := by decide +kernel
theorem dX0_leastFreeOn_51 : decode cX0_leastFreeOn 51 = .ok (.ireturn, 1) := by decide +kernel
theorem dX0_leastFreeOn_52 : decode cX0_leastFreeOn 52 = .ok (.iinc 4 1, 3) := by decide +kernel
theorem dX0_leastFreeOn_55 : decode cX0_leastFreeOn 55 = .ok (.goto (-44), 3) := by decide +kernel
theorem dX0_leastFreeOn_58 : decode cX0_leastFreeOn 58 = .ok (.iinc 3 1, 3) := by decide +kernel
theorem dX0_leastFreeOn_61 : decode cX0_leastFreeOn 61 = .ok (.goto (-59), 3) := by decide +kernel
theorem dX0_leastFreeOn_64 : decode cX0_leastFreeOn 64 = .ok (.iconst (-1), 1) := by decide +kernel
theorem dX0_leastFreeOn_65 : decode cX0_leastFreeOn 65 = .ok (.ireturn, 1) := by decide +kernel
set_option maxRecDepth 20000 in
theorem ggX0_noteTest_X0_isExaminer : GoodIn wsX0_noteTest wsX0_isExaminer := goodIn_r _ [9, 10, 11, 12, 13, 14, 15, 16, 17, 18, 19] (by decide +kernel) (by decide +kernel)
set_option maxRecDepth 20000 in
theorem gX0_noteTest_X0_isExaminer : GoodIn wsX0_noteTest (wsV RX0 38 RX0 yX0_isExaminer wsX0_isExaminer) := goodIn_app (goodIn_of _ (by decide +kernel)) ggX0_noteTest_X0_isExaminer
theorem dX0_noteTest_0 : decode cX0_noteTest 0 = .ok (.aload_n 0, 1) := by decide +kernel
theorem dX0_noteTest_1 : decode cX0_noteTest 1 = .ok (.iload_n 1, 1) := by decide +kernel
theorem dX0_noteTest_2 : decode cX0_noteTest 2 = .ok (.invokevirtual 38, 3) := by decide +kernel
theorem dX0_noteTest_5 : decode cX0_noteTest 5 = .ok (.ifCond .ne 4, 3) := by decide +kernel
theorem dX0_noteTest_8 : decode cX0_noteTest 8 = .ok (.return_, 1) := by decide +kernel
theorem dX0_noteTest_9 : decode cX0_noteTest 9 = .ok (.aload_n 0, 1) := by decide +kernel
theorem dX0_noteTest_10 : decode cX0_noteTest 10 = .ok (.getfield 22, 3) := by decide +kernel
theorem dX0_noteTest_13 : decode cX0_noteTest 13 = .ok (.iload_n 1, 1) := by decide +kernel
theorem dX0_noteTest_14 : decode cX0_noteTest 14 = .ok (.dup2, 1) := by decide +kernel
theorem dX0_noteTest_15 : decode cX0_noteTest 15 = .ok (.iaload, 1) := by decide +kernel
theorem dX0_noteTest_16 : decode cX0_noteTest 16 = .ok (.iconst 1, 1) := by decide +kernel
theorem dX0_noteTest_17 : decode cX0_noteTest 17 = .ok (.iadd, 1) := by decide +kernel
theorem dX0_noteTest_18 : decode cX0_noteTest 18 = .ok (.iastore, 1) := by decide +kernel
theorem dX0_noteTest_19 : decode cX0_noteTest 19 = .ok (.aload_n 0, 1) := by decide +kernel
theorem dX0_noteTest_20 : decode cX0_noteTest 20 = .ok (.dup, 1) := by decide +kernel
theorem dX0_noteTest_21 : decode cX0_noteTest 21 = .ok (.getfield 88, 3) := by decide +kernel
theorem dX0_noteTest_24 : decode cX0_noteTest 24 = .ok (.iconst 1, 1) := by decide +kernel
theorem dX0_noteTest_25 : decode cX0_noteTest 25 = .ok (.iadd, 1) := by decide +kernel
theorem dX0_noteTest_26 : decode cX0_noteTest 26 = .ok (.putfield 88, 3) := by decide +kernel
theorem dX0_noteTest_29 : decode cX0_noteTest 29 = .ok (.iload_n 2, 1) := by decide +kernel
theorem dX0_noteTest_30 : decode cX0_noteTest 30 = .ok (.ifCond .eq 23, 3) := by decide +kernel
theorem dX0_noteTest_33 : decode cX0_noteTest 33 = .ok (.aload_n 0, 1) := by decide +kernel
theorem dX0_noteTest_34 : decode cX0_noteTest 34 = .ok (.getfield 25, 3) := by decide +kernel
theorem dX0_noteTest_37 : decode cX0_noteTest 37 = .ok (.iload_n 1, 1) := by decide +kernel
theorem dX0_noteTest_38 : decode cX0_noteTest 38 = .ok (.dup2, 1) := by decide +kernel
theorem dX0_noteTest_39 : decode cX0_noteTest 39 = .ok (.iaload, 1) := by decide +kernel
theorem dX0_noteTest_40 : decode cX0_noteTest 40 = .ok (.iconst 1, 1) := by decide +kernel
theorem dX0_noteTest_41 : decode cX0_noteTest 41 = .ok (.iadd, 1) := by decide +kernel
theorem dX0_noteTest_42 : decode cX0_noteTest 42 = .ok (.iastore, 1) := by decide +kernel
theorem dX0_noteTest_43 : decode cX0_noteTest 43 = .ok (.aload_n 0, 1) := by decide +kernel
theorem dX0_noteTest_44 : decode cX0_noteTest 44 = .ok (.dup, 1) := by decide +kernel
theorem dX0_noteTest_45 : decode cX0_noteTest 45 = .ok (.getfield 91, 3) := by decide +kernel
theorem dX0_noteTest_48 : decode cX0_noteTest 48 = .ok (.iconst 1, 1) := by decide +kernel
theorem dX0_noteTest_49 : decode cX0_noteTest 49 = .ok (.iadd, 1) := by decide +kernel
theorem dX0_noteTest_50 : decode cX0_noteTest 50 = .ok (.putfield 91, 3) := by decide +kernel
theorem dX0_noteTest_53 : decode cX0_noteTest 53 = .ok (.return_, 1) := by decide +kernel
set_option maxRecDepth 20000 in
theorem ggX0_testsOf_X0_isExaminer : GoodIn wsX0_testsOf wsX0_isExaminer := goodIn_r _ [6, 7, 8, 9, 10, 11, 12, 13, 14, 15, 16] (by decide +kernel) (by decide +kernel)
set_option maxRecDepth 20000 in
theorem gX0_testsOf_X0_isExaminer : GoodIn wsX0_testsOf (wsV RX0 38 RX0 yX0_isExaminer wsX0_isExaminer) := goodIn_app (goodIn_of _ (by decide +kernel)) ggX0_testsOf_X0_isExaminer
theorem dX0_testsOf_0 : decode cX0_testsOf 0 = .ok (.aload_n 0, 1) := by decide +kernel
theorem dX0_testsOf_1 : decode cX0_testsOf 1 = .ok (.iload_n 1, 1) := by decide +kernel
theorem dX0_testsOf_2 : decode cX0_testsOf 2 = .ok (.invokevirtual 38, 3) := by decide +kernel
theorem dX0_testsOf_5 : decode cX0_testsOf 5 = .ok (.ifCond .eq 12, 3) := by decide +kernel
theorem dX0_testsOf_8 : decode cX0_testsOf 8 = .ok (.aload_n 0, 1) := by decide +kernel
theorem dX0_testsOf_9 : decode cX0_testsOf 9 = .ok (.getfield 22, 3) := by decide +kernel
theorem dX0_testsOf_12 : decode cX0_testsOf 12 = .ok (.iload_n 1, 1) := by decide +kernel
theorem dX0_testsOf_13 : decode cX0_testsOf 13 = .ok (.iaload, 1) := by decide +kernel
theorem dX0_testsOf_14 : decode cX0_testsOf 14 = .ok (.goto 4, 3) := by decide +kernel
theorem dX0_testsOf_17 : decode cX0_testsOf 17 = .ok (.iconst 0, 1) := by decide +kernel
theorem dX0_testsOf_18 : decode cX0_testsOf 18 = .ok (.ireturn, 1) := by decide +kernel
set_option maxRecDepth 20000 in
theorem ggX0_passesOf_X0_isExaminer : GoodIn wsX0_passesOf wsX0_isExaminer := goodIn_r _ [6, 7, 8, 9, 10, 11, 12, 13, 14, 15, 16] (by decide +kernel) (by decide +kernel)
set_option maxRecDepth 20000 in
theorem gX0_passesOf_X0_isExaminer : GoodIn wsX0_passesOf (wsV RX0 38 RX0 yX0_isExaminer wsX0_isExaminer) := goodIn_app (goodIn_of _ (by decide +kernel)) ggX0_passesOf_X0_isExaminer
theorem dX0_passesOf_0 : decode cX0_passesOf 0 = .ok (.aload_n 0, 1) := by decide +kernel
theorem dX0_passesOf_1 : decode cX0_passesOf 1 = .ok (.iload_n 1, 1) := by decide +kernel
theorem dX0_passesOf_2 : decode cX0_passesOf 2 = .ok (.invokevirtual 38, 3) := by decide +kernel
theorem dX0_passesOf_5 : decode cX0_passesOf 5 = .ok (.ifCond .eq 12, 3) := by decide +kernel
theorem dX0_passesOf_8 : decode cX0_passesOf 8 = .ok (.aload_n 0, 1) := by decide +kernel
theorem dX0_passesOf_9 : decode cX0_passesOf 9 = .ok (.getfield 25, 3) := by decide +kernel
theorem dX0_passesOf_12 : decode cX0_passesOf 12 = .ok (.iload_n 1, 1) := by decide +kernel
theorem dX0_passesOf_13 : decode cX0_passesOf 13 = .ok (.iaload, 1) := by decide +kernel
theorem dX0_passesOf_14 : decode cX0_passesOf 14 = .ok (.goto 4, 3) := by decide +kernel
theorem dX0_passesOf_17 : decode cX0_passesOf 17 = .ok (.iconst 0, 1) := by decide +kernel
theorem dX0_passesOf_18 : decode cX0_passesOf 18 = .ok (.ireturn, 1) := by decide +kernel
set_option maxRecDepth 20000 in
theorem ggX0_difference_X0_testsOf : GoodIn wsX0_difference wsX0_testsOf := goodIn_r _ [8, 9, 10, 11, 12, 7, 13, 14, 20, 21, 22, 23, 24, 25, 26, 27, 28] (by decide +kernel) (by decide +kernel)
set_option maxRecDepth 20000 in
theorem gX0_difference_X0_testsOf : GoodIn wsX0_difference (wsV RX0 94 RX0 yX0_testsOf wsX0_testsOf) := goodIn_app (goodIn_of _ (by decide +kernel)) ggX0_difference_X0_testsOf
set_option maxRecDepth 20000 in
theorem ggX0_difference_X0_passesOf : GoodIn wsX0_difference wsX0_passesOf := goodIn_r _ [18, 19, 10, 11, 12, 7, 13, 14, 20, 21, 22, 23, 24, 25, 26, 27, 28] (by decide +kernel) (by decide +kernel)
set_option maxRecDepth 20000 in
theorem gX0_difference_X0_passesOf : GoodIn wsX0_difference (wsV RX0 97 RX0 yX0_passesOf wsX0_passesOf) := goodIn_app (goodIn_of _ (by decide +kernel)) ggX0_difference_X0_passesOf
theorem dX0_difference_0 : decode cX0_difference 0 = .ok (.aload_n 0, 1) := by decide +kernel
theorem dX0_difference_1 : decode cX0_difference 1 = .ok (.iload_n 1, 1) := by decide +kernel
theorem dX0_difference_2 : decode cX0_difference 2 = .ok (.invokevirtual 94, 3) := by decide +kernel
theorem dX0_difference_5 : decode cX0_difference 5 = .ok (.i2l, 1) := by decide +kernel
theorem dX0_difference_6 : decode cX0_difference 6 = .ok (.lstore_n 3, 1) := by decide +kernel
theorem dX0_difference_7 : decode cX0_difference 7 = .ok (.aload_n 0, 1) := by decide +kernel
theorem dX0_difference_8 : decode cX0_difference 8 = .ok (.getfield 88, 3) := by decide +kernel
theorem dX0_difference_11 : decode cX0_difference 11 = .ok (.i2l, 1) := by decide +kernel
theorem dX0_difference_12 : decode cX0_difference 12 = .ok (.lload_n 3, 1) := by decide +kernel
theorem dX0_difference_13 : decode cX0_difference 13 = .ok (.lsub, 1) := by decide +kernel
theorem dX0_difference_14 : decode cX0_difference 14 = .ok (.lstore 5, 2) := by decide +kernel
theorem dX0_difference_16 : decode cX0_difference 16 = .ok (.aload_n 0, 1) := by decide +kernel
theorem dX0_difference_17 : decode cX0_difference 17 = .ok (.iload_n 1, 1) := by decide +kernel
theorem dX0_difference_18 : decode cX0_difference 18 = .ok (.invokevirtual 97, 3) := by decide +kernel
theorem dX0_difference_21 : decode cX0_difference 21 = .ok (.i2l, 1) := by decide +kernel
theorem dX0_difference_22 : decode cX0_difference 22 = .ok (.lstore 7, 2) := by decide +kernel
theorem dX0_difference_24 : decode cX0_difference 24 = .ok (.aload_n 0, 1) := by decide +kernel
theorem dX0_difference_25 : decode cX0_difference 25 = .ok (.getfield 91, 3) := by decide +kernel
theorem dX0_difference_28 : decode cX0_difference 28 = .ok (.i2l, 1) := by decide +kernel
theorem dX0_difference_29 : decode cX0_difference 29 = .ok (.lload 7, 2) := by decide +kernel
theorem dX0_difference_31 : decode cX0_difference 31 = .ok (.lsub, 1) := by decide +kernel
theorem dX0_difference_32 : decode cX0_difference 32 = .ok (.lstore 9, 2) := by decide +kernel
theorem dX0_difference_34 : decode cX0_difference 34 = .ok (.lload 7, 2) := by decide +kernel
theorem dX0_difference_36 : decode cX0_difference 36 = .ok (.lload 5, 2) := by decide +kernel
theorem dX0_difference_38 : decode cX0_difference 38 = .ok (.lmul, 1) := by decide +kernel
theorem dX0_difference_39 : decode cX0_difference 39 = .ok (.lload 9, 2) := by decide +kernel
theorem dX0_difference_41 : decode cX0_difference 41 = .ok (.lload_n 3, 1) := by decide +kernel
theorem dX0_difference_42 : decode cX0_difference 42 = .ok (.lmul, 1) := by decide +kernel
theorem dX0_difference_43 : decode cX0_difference 43 = .ok (.lsub, 1) := by decide +kernel
theorem dX0_difference_44 : decode cX0_difference 44 = .ok (.ldc2_w 100, 3) := by decide +kernel
theorem dX0_difference_47 : decode cX0_difference 47 = .ok (.lmul, 1) := by decide +kernel
theorem dX0_difference_48 : decode cX0_difference 48 = .ok (.lstore 11, 2) := by decide +kernel
theorem dX0_difference_50 : decode cX0_difference 50 = .ok (.iload_n 2, 1) := by decide +kernel
theorem dX0_difference_51 : decode cX0_difference 51 = .ok (.i2l, 1) := by decide +kernel
theorem dX0_difference_52 : decode cX0_difference 52 = .ok (.lload_n 3, 1) := by decide +kernel
theorem dX0_difference_53 : decode cX0_difference 53 = .ok (.lmul, 1) := by decide +kernel
theorem dX0_difference_54 : decode cX0_difference 54 = .ok (.lload 5, 2) := by decide +kernel
theorem dX0_difference_56 : decode cX0_difference 56 = .ok (.lmul, 1) := by decide +kernel
theorem dX0_difference_57 : decode cX0_difference 57 = .ok (.lstore 13, 2) := by decide +kernel
theorem dX0_difference_59 : decode cX0_difference 59 = .ok (.lload 11, 2) := by decide +kernel
theorem dX0_difference_61 : decode cX0_difference 61 = .ok (.lload 13, 2) := by decide +kernel
theorem dX0_difference_63 : decode cX0_difference 63 = .ok (.lcmp, 1) := by decide +kernel
theorem dX0_difference_64 : decode cX0_difference 64 = .ok (.ifCond .le 5, 3) := by decide +kernel
theorem dX0_difference_67 : decode cX0_difference 67 = .ok (.iconst 1, 1) := by decide +kernel
theorem dX0_difference_68 : decode cX0_difference 68 = .ok (.ireturn, 1) := by decide +kernel
theorem dX0_difference_69 : decode cX0_difference 69 = .ok (.lload 11, 2) := by decide +kernel
theorem dX0_difference_71 : decode cX0_difference 71 = .ok (.lload 13, 2) := by decide +kernel
theorem dX0_difference_73 : decode cX0_difference 73 = .ok (.lneg, 1) := by decide +kernel
theorem dX0_difference_74 : decode cX0_difference 74 = .ok (.lcmp, 1) := by decide +kernel
theorem dX0_difference_75 : decode cX0_difference 75 = .ok (.ifCond .ge 7, 3) := by decide +kernel
theorem dX0_difference_78 : decode cX0_difference 78 = .ok (.iconst (-1), 1) := by decide +kernel
theorem dX0_difference_79 : decode cX0_difference 79 = .ok (.goto 4, 3) := by decide +kernel
theorem dX0_difference_82 : decode cX0_difference 82 = .ok (.iconst 0, 1) := by decide +kernel
theorem dX0_difference_83 : decode cX0_difference 83 = .ok (.ireturn, 1) := by decide +kernel
theorem dX1_init_0 : decode cX1_init 0 = .ok (.aload_n 0, 1) := by decide +kernel
theorem dX1_init_1 : decode cX1_init 1 = .ok (.invokespecial 3, 3) := by decide +kernel
theorem dX1_init_4 : decode cX1_init 4 = .ok (.aload_n 0, 1) := by decide +kernel
theorem dX1_init_5 : decode cX1_init 5 = .ok (.iload_n 1, 1) := by decide +kernel
theorem dX1_init_6 : decode cX1_init 6 = .ok (.putfield 9, 3) := by decide +kernel
theorem dX1_init_9 : decode cX1_init 9 = .ok (.aload_n 0, 1) := by decide +kernel
theorem dX1_init_10 : decode cX1_init 10 = .ok (.iload_n 2, 1) := by decide +kernel
theorem dX1_init_11 : decode cX1_init 11 = .ok (.putfield 15, 3) := by decide +kernel
theorem dX1_init_14 : decode cX1_init 14 = .ok (.aload_n 0, 1) := by decide +kernel
theorem dX1_init_15 : decode cX1_init 15 = .ok (.iconst 0, 1) := by decide +kernel
theorem dX1_init_16 : decode cX1_init 16 = .ok (.putfield 18, 3) := by decide +kernel
theorem dX1_init_19 : decode cX1_init 19 = .ok (.aload_n 0, 1) := by decide +kernel
theorem dX1_init_20 : decode cX1_init 20 = .ok (.iconst (-1), 1) := by decide +kernel
theorem dX1_init_21 : decode cX1_init 21 = .ok (.putfield 21, 3) := by decide +kernel
theorem dX1_init_24 : decode cX1_init 24 = .ok (.return_, 1) := by decide +kernel
theorem dX2_init_0 : decode cX2_init 0 = .ok (.aload_n 0, 1) := by decide +kernel
theorem dX2_init_1 : decode cX2_init 1 = .ok (.invokespecial 3, 3) := by decide +kernel
theorem dX2_init_4 : decode cX2_init 4 = .ok (.aload_n 0, 1) := by decide +kernel
theorem dX2_init_5 : decode cX2_init 5 = .ok (.bipush 60, 2) := by decide +kernel
theorem dX2_init_7 : decode cX2_init 7 = .ok (.newarray .int, 2) := by decide +kernel
theorem dX2_init_9 : decode cX2_init 9 = .ok (.putfield 9, 3) := by decide +kernel
theorem dX2_init_12 : decode cX2_init 12 = .ok (.aload_n 0, 1) := by decide +kernel
theorem dX2_init_13 : decode cX2_init 13 = .ok (.bipush 60, 2) := by decide +kernel
theorem dX2_init_15 : decode cX2_init 15 = .ok (.newarray .int, 2) := by decide +kernel
theorem dX2_init_17 : decode cX2_init 17 = .ok (.putfield 15, 3) := by decide +kernel
theorem dX2_init_20 : decode cX2_init 20 = .ok (.return_, 1) := by decide +kernel
theorem dX2_clear_0 : decode cX2_clear 0 = .ok (.aload_n 0, 1) := by decide +kernel
theorem dX2_clear_1 : decode cX2_clear 1 = .ok (.iconst 0, 1) := by decide +kernel
theorem dX2_clear_2 : decode cX2_clear 2 = .ok (.putfield 18, 3) := by decide +kernel
theorem dX2_clear_5 : decode cX2_clear 5 = .ok (.return_, 1) := by decide +kernel
theorem dX2_add_0 : decode cX2_add 0 = .ok (.aload_n 0, 1) := by decide +kernel
theorem dX2_add_1 : decode cX2_add 1 = .ok (.getfield 18, 3) := by decide +kernel
theorem dX2_add_4 : decode cX2_add 4 = .ok (.bipush 60, 2) := by decide +kernel
theorem dX2_add_6 : decode cX2_add 6 = .ok (.if_icmp .lt 4, 3) := by decide +kernel
theorem dX2_add_9 : decode cX2_add 9 = .ok (.return_, 1) := by decide +kernel
theorem dX2_add_10 : decode cX2_add 10 = .ok (.aload_n 0, 1) := by decide +kernel
theorem dX2_add_11 : decode cX2_add 11 = .ok (.getfield 18, 3) := by decide +kernel
theorem dX2_add_14 : decode cX2_add 14 = .ok (.istore_n 3, 1) := by decide +kernel
theorem dX2_add_15 : decode cX2_add 15 = .ok (.iload_n 3, 1) := by decide +kernel
theorem dX2_add_16 : decode cX2_add 16 = .ok (.ifCond .le 49, 3) := by decide +kernel
theorem dX2_add_19 : decode cX2_add 19 = .ok (.aload_n 0, 1) := by decide +kernel
theorem dX2_add_20 : decode cX2_add 20 = .ok (.getfield 15, 3) := by decide +kernel
theorem dX2_add_23 : decode cX2_add 23 = .ok (.iload_n 3, 1) := by decide +kernel
theorem dX2_add_24 : decode cX2_add 24 = .ok (.iconst 1, 1) := by decide +kernel
theorem dX2_add_25 : decode cX2_add 25 = .ok (.isub, 1) := by decide +kernel
theorem dX2_add_26 : decode cX2_add 26 = .ok (.iaload, 1) := by decide +kernel
theorem dX2_add_27 : decode cX2_add 27 = .ok (.iload_n 2, 1) := by decide +kernel
theorem dX2_add_28 : decode cX2_add 28 = .ok (.if_icmp .ge 37, 3) := by decide +kernel
theorem dX2_add_31 : decode cX2_add 31 = .ok (.aload_n 0, 1) := by decide +kernel
theorem dX2_add_32 : decode cX2_add 32 = .ok (.getfield 9, 3) := by decide +kernel
theorem dX2_add_35 : decode cX2_add 35 = .ok (.iload_n 3, 1) := by decide +kernel
theorem dX2_add_36 : decode cX2_add 36 = .ok (.aload_n 0, 1) := by decide +kernel
theorem dX2_add_37 : decode cX2_add 37 = .ok (.getfield 9, 3) := by decide +kernel
theorem dX2_add_40 : decode cX2_add 40 = .ok (.iload_n 3, 1) := by decide +kernel
theorem dX2_add_41 : decode cX2_add 41 = .ok (.iconst 1, 1) := by decide +kernel
theorem dX2_add_42 : decode cX2_add 42 = .ok (.isub, 1) := by decide +kernel
theorem dX2_add_43 : decode cX2_add 43 = .ok (.iaload, 1) := by decide +kernel
theorem dX2_add_44 : decode cX2_add 44 = .ok (.iastore, 1) := by decide +kernel
theorem dX2_add_45 : decode cX2_add 45 = .ok (.aload_n 0, 1) := by decide +kernel
theorem dX2_add_46 : decode cX2_add 46 = .ok (.getfield 15, 3) := by decide +kernel
theorem dX2_add_49 : decode cX2_add 49 = .ok (.iload_n 3, 1) := by decide +kernel
theorem dX2_add_50 : decode cX2_add 50 = .ok (.aload_n 0, 1) := by decide +kernel
theorem dX2_add_51 : decode cX2_add 51 = .ok (.getfield 15, 3) := by decide +kernel
theorem dX2_add_54 : decode cX2_add 54 = .ok (.iload_n 3, 1) := by decide +kernel
theorem dX2_add_55 : decode cX2_add 55 = .ok (.iconst 1, 1) := by decide +kernel
theorem dX2_add_56 : decode cX2_add 56 = .ok (.isub, 1) := by decide +kernel
theorem dX2_add_57 : decode cX2_add 57 = .ok (.iaload, 1) := by decide +kernel
theorem dX2_add_58 : decode cX2_add 58 = .ok (.iastore, 1) := by decide +kernel
theorem dX2_add_59 : decode cX2_add 59 = .ok (.iinc 3 (-1), 3) := by decide +kernel
theorem dX2_add_62 : decode cX2_add 62 = .ok (.goto (-47), 3) := by decide +kernel
theorem dX2_add_65 : decode cX2_add 65 = .ok (.aload_n 0, 1) := by decide +kernel
theorem dX2_add_66 : decode cX2_add 66 = .ok (.getfield 9, 3) := by decide +kernel
theorem dX2_add_69 : decode cX2_add 69 = .ok (.iload_n 3, 1) := by decide +kernel
theorem dX2_add_70 : decode cX2_add 70 = .ok (.iload_n 1, 1) := by decide +kernel
theorem dX2_add_71 : decode cX2_add 71 = .ok (.iastore, 1) := by decide +kernel
theorem dX2_add_72 : decode cX2_add 72 = .ok (.aload_n 0, 1) := by decide +kernel
theorem dX2_add_73 : decode cX2_add 73 = .ok (.getfield 15, 3) := by decide +kernel
theorem dX2_add_76 : decode cX2_add 76 = .ok (.iload_n 3, 1) := by decide +kernel
theorem dX2_add_77 : decode cX2_add 77 = .ok (.iload_n 2, 1) := by decide +kernel
theorem dX2_add_78 : decode cX2_add 78 = .ok (.iastore, 1) := by decide +kernel
theorem dX2_add_79 : decode cX2_add 79 = .ok (.aload_n 0, 1) := by decide +kernel
theorem dX2_add_80 : decode cX2_add 80 = .ok (.dup, 1) := by decide +kernel
theorem dX2_add_81 : decode cX2_add 81 = .ok (.getfield 18, 3) := by decide +kernel
theorem dX2_add_84 : decode cX2_add 84 = .ok (.iconst 1, 1) := by decide +kernel
theorem dX2_add_85 : decode cX2_add 85 = .ok (.iadd, 1) := by decide +kernel
theorem dX2_add_86 : decode cX2_add 86 = .ok (.putfield 18, 3) := by decide +kernel
theorem dX2_add_89 : decode cX2_add 89 = .ok (.return_, 1) := by decide +kernel
theorem dX2_placeOf_0 : decode cX2_placeOf 0 = .ok (.iconst 0, 1) := by decide +kernel
theorem dX2_placeOf_1 : decode cX2_placeOf 1 = .ok (.istore_n 2, 1) := by decide +kernel
theorem dX2_placeOf_2 : decode cX2_placeOf 2 = .ok (.iload_n 2, 1) := by decide +kernel
theorem dX2_placeOf_3 : decode cX2_placeOf 3 = .ok (.aload_n 0, 1) := by decide +kernel
theorem dX2_placeOf_4 : decode cX2_placeOf 4 = .ok (.getfield 18, 3) := by decide +kernel
theorem dX2_placeOf_7 : decode cX2_placeOf 7 = .ok (.if_icmp .ge 21, 3) := by decide +kernel
theorem dX2_placeOf_10 : decode cX2_placeOf 10 = .ok (.aload_n 0, 1) := by decide +kernel
theorem dX2_placeOf_11 : decode cX2_placeOf 11 = .ok (.getfield 9, 3) := by decide +kernel
theorem dX2_placeOf_14 : decode cX2_placeOf 14 = .ok (.iload_n 2, 1) := by decide +kernel
theorem dX2_placeOf_15 : decode cX2_placeOf 15 = .ok (.iaload, 1) := by decide +kernel
theorem dX2_placeOf_16 : decode cX2_placeOf 16 = .ok (.iload_n 1, 1) := by decide +kernel
theorem dX2_placeOf_17 : decode cX2_placeOf 17 = .ok (.if_icmp .ne 5, 3) := by decide +kernel
theorem dX2_placeOf_20 : decode cX2_placeOf 20 = .ok (.iload_n 2, 1) := by decide +kernel
theorem dX2_placeOf_21 : decode cX2_placeOf 21 = .ok (.ireturn, 1) := by decide +kernel
theorem dX2_placeOf_22 : decode cX2_placeOf 22 = .ok (.iinc 2 1, 3) := by decide +kernel
theorem dX2_placeOf_25 : decode cX2_placeOf 25 = .ok (.goto (-23), 3) := by decide +kernel
theorem dX2_placeOf_28 : decode cX2_placeOf 28 = .ok (.iconst (-1), 1) := by decide +kernel
theorem dX2_placeOf_29 : decode cX2_placeOf 29 = .ok (.ireturn, 1) := by decide +kernel
theorem dX3_init_0 : decode cX3_init 0 = .ok (.aload_n 0, 1) := by decide +kernel
theorem dX3_init_1 : decode cX3_init 1 = .ok (.invokespecial 3, 3) := by decide +kernel
theorem dX3_init_4 : decode cX3_init 4 = .ok (.aload_n 0, 1) := by decide +kernel
theorem dX3_init_5 : decode cX3_init 5 = .ok (.bipush 24, 2) := by decide +kernel
theorem dX3_init_7 : decode cX3_init 7 = .ok (.newarray .int, 2) := by decide +kernel
theorem dX3_init_9 : decode cX3_init 9 = .ok (.putfield 11, 3) := by decide +kernel
theorem dX3_init_12 : decode cX3_init 12 = .ok (.aload_n 0, 1) := by decide +kernel
theorem dX3_init_13 : decode cX3_init 13 = .ok (.bipush 24, 2) := by decide +kernel
theorem dX3_init_15 : decode cX3_init 15 = .ok (.newarray .int, 2) := by decide +kernel
theorem dX3_init_17 : decode cX3_init 17 = .ok (.putfield 15, 3) := by decide +kernel
theorem dX3_init_20 : decode cX3_init 20 = .ok (.aload_n 0, 1) := by decide +kernel
theorem dX3_init_21 : decode cX3_init 21 = .ok (.bipush 24, 2) := by decide +kernel
theorem dX3_init_23 : decode cX3_init 23 = .ok (.newarray .int, 2) := by decide +kernel
theorem dX3_init_25 : decode cX3_init 25 = .ok (.putfield 18, 3) := by decide +kernel
theorem dX3_init_28 : decode cX3_init 28 = .ok (.aload_n 0, 1) := by decide +kernel
theorem dX3_init_29 : decode cX3_init 29 = .ok (.bipush 24, 2) := by decide +kernel
theorem dX3_init_31 : decode cX3_init 31 = .ok (.newarray .int, 2) := by decide +kernel
theorem dX3_init_33 : decode cX3_init 33 = .ok (.putfield 21, 3) := by decide +kernel
theorem dX3_init_36 : decode cX3_init 36 = .ok (.aload_n 0, 1) := by decide +kernel
theorem dX3_init_37 : decode cX3_init 37 = .ok (.bipush 24, 2) := by decide +kernel
theorem dX3_init_39 : decode cX3_init 39 = .ok (.newarray .boolean, 2) := by decide +kernel
theorem dX3_init_41 : decode cX3_init 41 = .ok (.putfield 24, 3) := by decide +kernel
theorem dX3_init_44 : decode cX3_init 44 = .ok (.aload_n 0, 1) := by decide +kernel
theorem dX3_init_45 : decode cX3_init 45 = .ok (.bipush 12, 2) := by decide +kernel
theorem dX3_init_47 : decode cX3_init 47 = .ok (.iconst 4, 1) := by decide +kernel
theorem dX3_init_48 : decode cX3_init 48 = .ok (.multianewarray 28 2, 4) := by decide +kernel
theorem dX3_init_52 : decode cX3_init 52 = .ok (.putfield 30, 3) := by decide +kernel
theorem dX3_init_55 : decode cX3_init 55 = .ok (.aload_n 0, 1) := by decide +kernel
theorem dX3_init_56 : decode cX3_init 56 = .ok (.bipush 12, 2) := by decide +kernel
theorem dX3_init_58 : decode cX3_init 58 = .ok (.newarray .int, 2) := by decide +kernel
theorem dX3_init_60 : decode cX3_init 60 = .ok (.putfield 33, 3) := by decide +kernel
theorem dX3_init_63 : decode cX3_init 63 = .ok (.aload_n 0, 1) := by decide +kernel
theorem dX3_init_64 : decode cX3_init 64 = .ok (.bipush 8, 2) := by decide +kernel
theorem dX3_init_66 : decode cX3_init 66 = .ok (.newarray .int, 2) := by decide +kernel
theorem dX3_init_68 : decode cX3_init 68 = .ok (.putfield 36, 3) := by decide +kernel
theorem dX3_init_71 : decode cX3_init 71 = .ok (.aload_n 0, 1) := by decide +kernel
theorem dX3_init_72 : decode cX3_init 72 = .ok (.bipush 8, 2) := by decide +kernel
theorem dX3_init_74 : decode cX3_init 74 = .ok (.newarray .int, 2) := by decide +kernel
theorem dX3_init_76 : decode cX3_init 76 = .ok (.putfield 39, 3) := by decide +kernel
theorem dX3_init_79 : decode cX3_init 79 = .ok (.return_, 1) := by decide +kernel
set_option maxRecDepth 20000 in
theorem ggX3_add_X3_hasRoomAt : GoodIn wsX3_add wsX3_hasRoomAt := goodIn_r _ [10, 11, 12, 13, 14, 20, 21, 22, 23, 24, 25, 26, 27, 28, 29, 30, 31, 32, 33, 34, 35, 36, 37] (by decide +kernel) (by decide +kernel)
set_option maxRecDepth 20000 in
theorem gX3_add_X3_hasRoomAt : GoodIn wsX3_add (wsV RX3 42 RX3 yX3_hasRoomAt wsX3_hasRoomAt) := goodIn_app (goodIn_of _ (by decide +kernel)) ggX3_add_X3_hasRoomAt
set_option maxRecDepth 20000 in
theorem ggX3_add_X8_isWithin : GoodIn wsX3_add wsX8_isWithin := goodIn_r _ [14] (by decide +kernel) (by decide +kernel)
set_option maxRecDepth 20000 in
theorem gX3_add_X8_isWithin_n50 : GoodIn wsX3_add (wsX8_isWithin) := ggX3_add_X8_isWithin
set_option maxRecDepth 20000 in
theorem ggX3_add_X3_putAt : GoodIn wsX3_add wsX3_putAt := goodIn_r _ [18, 19, 11, 6, 7, 8, 9, 10, 12, 13, 14, 20, 21, 22, 23, 24, 25, 26, 27, 28, 29, 30, 31, 32, 33, 34, 35, 36, 37] (by decide +kernel) (by decide +kernel)
set_option maxRecDepth 20000 in
theorem gX3_add_X3_putAt : GoodIn wsX3_add (wsV RX3 54 RX3 yX3_putAt wsX3_putAt) := goodIn_app (goodIn_of _ (by decide +kernel)) ggX3_add_X3_putAt
theorem dX3_add_0 : decode cX3_add 0 = .ok (.aload_n 0, 1) := by decide +kernel
theorem dX3_add_1 : decode cX3_add 1 = .ok (.iload_n 1, 1) := by decide +kernel
theorem dX3_add_2 : decode cX3_add 2 = .ok (.invokevirtual 42, 3) := by decide +kernel
theorem dX3_add_5 : decode cX3_add 5 = .ok (.ifCond .eq 25, 3) := by decide +kernel
theorem dX3_add_8 : decode cX3_add 8 = .ok (.aload_n 0, 1) := by decide +kernel
theorem dX3_add_9 : decode cX3_add 9 = .ok (.iload_n 2, 1) := by decide +kernel
theorem dX3_add_10 : decode cX3_add 10 = .ok (.invokevirtual 42, 3) := by decide +kernel
theorem dX3_add_13 : decode cX3_add 13 = .ok (.ifCond .eq 17, 3) := by decide +kernel
theorem dX3_add_16 : decode cX3_add 16 = .ok (.iload_n 1, 1) := by decide +kernel
theorem dX3_add_17 : decode cX3_add 17 = .ok (.iload_n 2, 1) := by decide +kernel
theorem dX3_add_18 : decode cX3_add 18 = .ok (.if_icmp .eq 12, 3) := by decide +kernel
theorem dX3_add_21 : decode cX3_add 21 = .ok (.aload_n 0, 1) := by decide +kernel
theorem dX3_add_22 : decode cX3_add 22 = .ok (.getfield 46, 3) := by decide +kernel
theorem dX3_add_25 : decode cX3_add 25 = .ok (.bipush 24, 2) := by decide +kernel
theorem dX3_add_27 : decode cX3_add 27 = .ok (.if_icmp .lt 5, 3) := by decide +kernel
theorem dX3_add_30 : decode cX3_add 30 = .ok (.iconst (-1), 1) := by decide +kernel
theorem dX3_add_31 : decode cX3_add 31 = .ok (.ireturn, 1) := by decide +kernel
theorem dX3_add_32 : decode cX3_add 32 = .ok (.iload_n 3, 1) := by decide +kernel
theorem dX3_add_33 : decode cX3_add 33 = .ok (.iconst 1, 1) := by decide +kernel
theorem dX3_add_34 : decode cX3_add 34 = .ok (.bipush 30, 2) := by decide +kernel
theorem dX3_add_36 : decode cX3_add 36 = .ok (.invokestatic 50, 3) := by decide +kernel
theorem dX3_add_39 : decode cX3_add 39 = .ok (.ifCond .eq 15, 3) := by decide +kernel
theorem dX3_add_42 : decode cX3_add 42 = .ok (.iload 4, 2) := by decide +kernel
theorem dX3_add_44 : decode cX3_add 44 = .ok (.iconst 0, 1) := by decide +kernel
theorem dX3_add_45 : decode cX3_add 45 = .ok (.sipush 255, 3) := by decide +kernel
theorem dX3_add_48 : decode cX3_add 48 = .ok (.invokestatic 50, 3) := by decide +kernel
theorem dX3_add_51 : decode cX3_add 51 = .ok (.ifCond .ne 5, 3) := by decide +kernel
theorem dX3_add_54 : decode cX3_add 54 = .ok (.iconst (-1), 1) := by decide +kernel
theorem dX3_add_55 : decode cX3_add 55 = .ok (.ireturn, 1) := by decide +kernel
theorem dX3_add_56 : decode cX3_add 56 = .ok (.aload_n 0, 1) := by decide +kernel
theorem dX3_add_57 : decode cX3_add 57 = .ok (.getfield 11, 3) := by decide +kernel
theorem dX3_add_60 : decode cX3_add 60 = .ok (.aload_n 0, 1) := by decide +kernel
theorem dX3_add_61 : decode cX3_add 61 = .ok (.getfield 46, 3) := by decide +kernel
theorem dX3_add_64 : decode cX3_add 64 = .ok (.iload_n 1, 1) := by decide +kernel
theorem dX3_add_65 : decode cX3_add 65 = .ok (.iastore, 1) := by decide +kernel
theorem dX3_add_66 : decode cX3_add 66 = .ok (.aload_n 0, 1) := by decide +kernel
theorem dX3_add_67 : decode cX3_add 67 = .ok (.getfield 15, 3) := by decide +kernel
theorem dX3_add_70 : decode cX3_add 70 = .ok (.aload_n 0, 1) := by decide +kernel
theorem dX3_add_71 : decode cX3_add 71 = .ok (.getfield 46, 3) := by decide +kernel
theorem dX3_add_74 : decode cX3_add 74 = .ok (.iload_n 2, 1) := by decide +kernel
theorem dX3_add_75 : decode cX3_add 75 = .ok (.iastore, 1) := by decide +kernel
theorem dX3_add_76 : decode cX3_add 76 = .ok (.aload_n 0, 1) := by decide +kernel
theorem dX3_add_77 : decode cX3_add 77 = .ok (.getfield 18, 3) := by decide +kernel
theorem dX3_add_80 : decode cX3_add 80 = .ok (.aload_n 0, 1) := by decide +kernel
theorem dX3_add_81 : decode cX3_add 81 = .ok (.getfield 46, 3) := by decide +kernel
theorem dX3_add_84 : decode cX3_add 84 = .ok (.iload_n 3, 1) := by decide +kernel
theorem dX3_add_85 : decode cX3_add 85 = .ok (.iastore, 1) := by decide +kernel
theorem dX3_add_86 : decode cX3_add 86 = .ok (.aload_n 0, 1) := by decide +kernel
theorem dX3_add_87 : decode cX3_add 87 = .ok (.getfield 21, 3) := by decide +kernel
theorem dX3_add_90 : decode cX3_add 90 = .ok (.aload_n 0, 1) := by decide +kernel
theorem dX3_add_91 : decode cX3_add 91 = .ok (.getfield 46, 3) := by decide +kernel
theorem dX3_add_94 : decode cX3_add 94 = .ok (.iload 4, 2) := by decide +kernel
theorem dX3_add_96 : decode cX3_add 96 = .ok (.iastore, 1) := by decide +kernel
theorem dX3_add_97 : decode cX3_add 97 = .ok (.aload_n 0, 1) := by decide +kernel
theorem dX3_add_98 : decode cX3_add 98 = .ok (.iload_n 1, 1) := by decide +kernel
theorem dX3_add_99 : decode cX3_add 99 = .ok (.aload_n 0, 1) := by decide +kernel
theorem dX3_add_100 : decode cX3_add 100 = .ok (.getfield 46, 3) := by decide +kernel
theorem dX3_add_103 : decode cX3_add 103 = .ok (.invokevirtual 54, 3) := by decide +kernel
theorem dX3_add_106 : decode cX3_add 106 = .ok (.aload_n 0, 1) := by decide +kernel
theorem dX3_add_107 : decode cX3_add 107 = .ok (.iload_n 2, 1) := by decide +kernel
theorem dX3_add_108 : decode cX3_add 108 = .ok (.aload_n 0, 1) := by decide +kernel
theorem dX3_add_109 : decode cX3_add 109 = .ok (.getfield 46, 3) := by decide +kernel
theorem dX3_add_112 : decode cX3_add 112 = .ok (.invokevirtual 54, 3) := by decide +kernel
theorem dX3_add_115 : decode cX3_add 115 = .ok (.aload_n 0, 1) := by decide +kernel
theorem dX3_add_116 : decode cX3_add 116 = .ok (.dup, 1) := by decide +kernel
theorem dX3_add_117 : decode cX3_add 117 = .ok (.getfield 46, 3) := by decide +kernel
theorem dX3_add_120 : decode cX3_add 120 = .ok (.iconst 1, 1) := by decide +kernel
theorem dX3_add_121 : decode cX3_add 121 = .ok (.iadd, 1) := by decide +kernel
theorem dX3_add_122 : decode cX3_add 122 = .ok (.putfield 46, 3) := by decide +kernel
theorem dX3_add_125 : decode cX3_add 125 = .ok (.aload_n 0, 1) := by decide +kernel
theorem dX3_add_126 : decode cX3_add 126 = .ok (.getfield 46, 3) := by decide +kernel
theorem dX3_add_129 : decode cX3_add 129 = .ok (.iconst 1, 1) := by decide +kernel
theorem dX3_add_130 : decode cX3_add 130 = .ok (.isub, 1) := by decide +kernel
theorem dX3_add_131 : decode cX3_add 131 = .ok (.ireturn, 1) := by decide +kernel
set_option maxRecDepth 20000 in
theorem ggX3_hasRoomAt_X8_isWithin : GoodIn wsX3_hasRoomAt wsX8_isWithin := goodIn_r _ [4] (by decide +kernel) (by decide +kernel)
set_option maxRecDepth 20000 in
theorem gX3_hasRoomAt_X8_isWithin_n50 : GoodIn wsX3_hasRoomAt (wsX8_isWithin) := ggX3_hasRoomAt_X8_isWithin
theorem dX3_hasRoomAt_0 : decode cX3_hasRoomAt 0 = .ok (.iload_n 1, 1) := by decide +kernel
theorem dX3_hasRoomAt_1 : decode cX3_hasRoomAt 1 = .ok (.iconst 0, 1) := by decide +kernel
theorem dX3_hasRoomAt_2 : decode cX3_hasRoomAt 2 = .ok (.bipush 11, 2) := by decide +kernel
theorem dX3_hasRoomAt_4 : decode cX3_hasRoomAt 4 = .ok (.invokestatic 50, 3) := by decide +kernel
theorem dX3_hasRoomAt_7 : decode cX3_hasRoomAt 7 = .ok (.ifCond .eq 17, 3) := by decide +kernel
theorem dX3_hasRoomAt_10 : decode cX3_hasRoomAt 10 = .ok (.aload_n 0, 1) := by decide +kernel
theorem dX3_hasRoomAt_11 : decode cX3_hasRoomAt 11 = .ok (.getfield 33, 3) := by decide +kernel
theorem dX3_hasRoomAt_14 : decode cX3_hasRoomAt 14 = .ok (.iload_n 1, 1) := by decide +kernel
theorem dX3_hasRoomAt_15 : decode cX3_hasRoomAt 15 = .ok (.iaload, 1) := by decide +kernel
theorem dX3_hasRoomAt_16 : decode cX3_hasRoomAt 16 = .ok (.iconst 4, 1) := by decide +kernel
theorem dX3_hasRoomAt_17 : decode cX3_hasRoomAt 17 = .ok (.if_icmp .ge 7, 3) := by decide +kernel
theorem dX3_hasRoomAt_20 : decode cX3_hasRoomAt 20 = .ok (.iconst 1, 1) := by decide +kernel
theorem dX3_hasRoomAt_21 : decode cX3_hasRoomAt 21 = .ok (.goto 4, 3) := by decide +kernel
theorem dX3_hasRoomAt_24 : decode cX3_hasRoomAt 24 = .ok (.iconst 0, 1) := by decide +kernel
theorem dX3_hasRoomAt_25 : decode cX3_hasRoomAt 25 = .ok (.ireturn, 1) := by decide +kernel
set_option maxRecDepth 20000 in
theorem ggX3_putAt_X3_hasRoomAt : GoodIn wsX3_putAt wsX3_hasRoomAt := goodIn_r _ [7, 2, 8, 9, 10, 11, 12, 13, 14, 15, 16, 17, 18, 19, 20, 21, 22, 23, 24, 25, 26, 27, 28] (by decide +kernel) (by decide +kernel)
set_option maxRecDepth 20000 in
theorem gX3_putAt_X3_hasRoomAt : GoodIn wsX3_putAt (wsV RX3 42 RX3 yX3_hasRoomAt wsX3_hasRoomAt) := goodIn_app (goodIn_of _ (by decide +kernel)) ggX3_putAt_X3_hasRoomAt
theorem dX3_putAt_0 : decode cX3_putAt 0 = .ok (.aload_n 0, 1) := by decide +kernel
theorem dX3_putAt_1 : decode cX3_putAt 1 = .ok (.iload_n 1, 1) := by decide +kernel
theorem dX3_putAt_2 : decode cX3_putAt 2 = .ok (.invokevirtual 42, 3) := by decide +kernel
theorem dX3_putAt_5 : decode cX3_putAt 5 = .ok (.ifCond .eq 27, 3) := by decide +kernel
theorem dX3_putAt_8 : decode cX3_putAt 8 = .ok (.aload_n 0, 1) := by decide +kernel
theorem dX3_putAt_9 : decode cX3_putAt 9 = .ok (.getfield 30, 3) := by decide +kernel
theorem dX3_putAt_12 : decode cX3_putAt 12 = .ok (.iload_n 1, 1) := by decide +kernel
theorem dX3_putAt_13 : decode cX3_putAt 13 = .ok (.aaload, 1) := by decide +kernel
theorem dX3_putAt_14 : decode cX3_putAt 14 = .ok (.aload_n 0, 1) := by decide +kernel
theorem dX3_putAt_15 : decode cX3_putAt 15 = .ok (.getfield 33, 3) := by decide +kernel
theorem dX3_putAt_18 : decode cX3_putAt 18 = .ok (.iload_n 1, 1) := by decide +kernel
theorem dX3_putAt_19 : decode cX3_putAt 19 = .ok (.iaload, 1) := by decide +kernel
theorem dX3_putAt_20 : decode cX3_putAt 20 = .ok (.iload_n 2, 1) := by decide +kernel
theorem dX3_putAt_21 : decode cX3_putAt 21 = .ok (.iastore, 1) := by decide +kernel
theorem dX3_putAt_22 : decode cX3_putAt 22 = .ok (.aload_n 0, 1) := by decide +kernel
theorem dX3_putAt_23 : decode cX3_putAt 23 = .ok (.getfield 33, 3) := by decide +kernel
theorem dX3_putAt_26 : decode cX3_putAt 26 = .ok (.iload_n 1, 1) := by decide +kernel
theorem dX3_putAt_27 : decode cX3_putAt 27 = .ok (.dup2, 1) := by decide +kernel
theorem dX3_putAt_28 : decode cX3_putAt 28 = .ok (.iaload, 1) := by decide +kernel
theorem dX3_putAt_29 : decode cX3_putAt 29 = .ok (.iconst 1, 1) := by decide +kernel
theorem dX3_putAt_30 : decode cX3_putAt 30 = .ok (.iadd, 1) := by decide +kernel
theorem dX3_putAt_31 : decode cX3_putAt 31 = .ok (.iastore, 1) := by decide +kernel
theorem dX3_putAt_32 : decode cX3_putAt 32 = .ok (.return_, 1) := by decide +kernel
set_option maxRecDepth 20000 in
theorem ggX3_setClosed_X8_isWithin : GoodIn wsX3_setClosed wsX8_isWithin := goodIn_r _ [5] (by decide +kernel) (by decide +kernel)
set_option maxRecDepth 20000 in
theorem gX3_setClosed_X8_isWithin_n50 : GoodIn wsX3_setClosed (wsX8_isWithin) := ggX3_setClosed_X8_isWithin
theorem dX3_setClosed_0 : decode cX3_setClosed 0 = .ok (.iload_n 1, 1) := by decide +kernel
theorem dX3_setClosed_1 : decode cX3_setClosed 1 = .ok (.iconst 0, 1) := by decide +kernel
theorem dX3_setClosed_2 : decode cX3_setClosed 2 = .ok (.aload_n 0, 1) := by decide +kernel
theorem dX3_setClosed_3 : decode cX3_setClosed 3 = .ok (.getfield 46, 3) := by decide +kernel
theorem dX3_setClosed_6 : decode cX3_setClosed 6 = .ok (.iconst 1, 1) := by decide +kernel
theorem dX3_setClosed_7 : decode cX3_setClosed 7 = .ok (.isub, 1) := by decide +kernel
theorem dX3_setClosed_8 : decode cX3_setClosed 8 = .ok (.invokestatic 50, 3) := by decide +kernel
theorem dX3_setClosed_11 : decode cX3_setClosed 11 = .ok (.ifCond .ne 5, 3) := by decide +kernel
theorem dX3_setClosed_14 : decode cX3_setClosed 14 = .ok (.iconst 0, 1) := by decide +kernel
theorem dX3_setClosed_15 : decode cX3_setClosed 15 = .ok (.ireturn, 1) := by decide +kernel
theorem dX3_setClosed_16 : decode cX3_setClosed 16 = .ok (.aload_n 0, 1) := by decide +kernel
theorem dX3_setClosed_17 : decode cX3_setClosed 17 = .ok (.getfield 24, 3) := by decide +kernel
theorem dX3_setClosed_20 : decode cX3_setClosed 20 = .ok (.iload_n 1, 1) := by decide +kernel
theorem dX3_setClosed_21 : decode cX3_setClosed 21 = .ok (.iload_n 2, 1) := by decide +kernel
theorem dX3_setClosed_22 : decode cX3_setClosed 22 = .ok (.bastore, 1) := by decide +kernel
theorem dX3_setClosed_23 : decode cX3_setClosed 23 = .ok (.iconst 1, 1) := by decide +kernel
theorem dX3_setClosed_24 : decode cX3_setClosed 24 = .ok (.ireturn, 1) := by decide +kernel
set_option maxRecDepth 20000 in
theorem ggX3_isOpen_X8_isWithin : GoodIn wsX3_isOpen wsX8_isWithin := goodIn_r _ [5] (by decide +kernel) (by decide +kernel)
set_option maxRecDepth 20000 in
theorem gX3_isOpen_X8_isWithin_n50 : GoodIn wsX3_isOpen (wsX8_isWithin) := ggX3_isOpen_X8_isWithin
theorem dX3_isOpen_0 : decode cX3_isOpen 0 = .ok (.iload_n 1, 1) := by decide +kernel
theorem dX3_isOpen_1 : decode cX3_isOpen 1 = .ok (.iconst 0, 1) := by decide +kernel
theorem dX3_isOpen_2 : decode cX3_isOpen 2 = .ok (.aload_n 0, 1) := by decide +kernel
theorem dX3_isOpen_3 : decode cX3_isOpen 3 = .ok (.getfield 46, 3) := by decide +kernel
theorem dX3_isOpen_6 : decode cX3_isOpen 6 = .ok (.iconst 1, 1) := by decide +kernel
theorem dX3_isOpen_7 : decode cX3_isOpen 7 = .ok (.isub, 1) := by decide +kernel
theorem dX3_isOpen_8 : decode cX3_isOpen 8 = .ok (.invokestatic 50, 3) := by decide +kernel
theorem dX3_isOpen_11 : decode cX3_isOpen 11 = .ok (.ifCond .eq 16, 3) := by decide +kernel
theorem dX3_isOpen_14 : decode cX3_isOpen 14 = .ok (.aload_n 0, 1) := by decide +kernel
theorem dX3_isOpen_15 : decode cX3_isOpen 15 = .ok (.getfield 24, 3) := by decide +kernel
theorem dX3_isOpen_18 : decode cX3_isOpen 18 = .ok (.iload_n 1, 1) := by decide +kernel
theorem dX3_isOpen_19 : decode cX3_isOpen 19 = .ok (.baload, 1) := by decide +kernel
theorem dX3_isOpen_20 : decode cX3_isOpen 20 = .ok (.ifCond .ne 7, 3) := by decide +kernel
theorem dX3_isOpen_23 : decode cX3_isOpen 23 = .ok (.iconst 1, 1) := by decide +kernel
theorem dX3_isOpen_24 : decode cX3_isOpen 24 = .ok (.goto 4, 3) := by decide +kernel
theorem dX3_isOpen_27 : decode cX3_isOpen 27 = .ok (.iconst 0, 1) := by decide +kernel
theorem dX3_isOpen_28 : decode cX3_isOpen 28 = .ok (.ireturn, 1) := by decide +kernel
set_option maxRecDepth 20000 in
theorem ggX3_countRoutes_X8_isWithin : GoodIn wsX3_countRoutes wsX8_isWithin := goodIn_r _ [7] (by decide +kernel) (by decide +kernel)
set_option maxRecDepth 20000 in
theorem gX3_countRoutes_X8_isWithin_n50 : GoodIn wsX3_countRoutes (wsX8_isWithin) := ggX3_countRoutes_X8_isWithin
set_option maxRecDepth 20000 in
theorem ggX3_countRoutes_X3_search : GoodIn wsX3_countRoutes wsX3_search := goodIn_r _ [12, 13, 4, 14, 15, 16, 11, 17, 18, 19, 20, 21, 22, 23, 24, 5, 6, 7, 25, 26, 27, 28, 29, 30, 31, 32, 33, 34, 1, 2, 3, 35, 36, 37, 38, 39, 40, 41, 42, 43, 44, 45, 46, 47, 48, 49, 50, 51, 52, 53, 54] (by decide +kernel) (by decide +kernel)
set_option maxRecDepth 20000 in
theorem gX3_countRoutes_X3_search : GoodIn wsX3_countRoutes (wsV RX3 67 RX3 yX3_search wsX3_search) := goodIn_app (goodIn_of _ (by decide +kernel)) ggX3_countRoutes_X3_search
theorem dX3_countRoutes_0 : decode cX3_countRoutes 0 = .ok (.iload_n 1, 1) := by decide +kernel
theorem dX3_countRoutes_1 : decode cX3_countRoutes 1 = .ok (.iconst 0, 1) := by decide +kernel
theorem dX3_countRoutes_2 : decode cX3_countRoutes 2 = .ok (.sipush 240, 3) := by decide +kernel
theorem dX3_countRoutes_5 : decode cX3_countRoutes 5 = .ok (.invokestatic 50, 3) := by decide +kernel
theorem dX3_countRoutes_8 : decode cX3_countRoutes 8 = .ok (.ifCond .eq 18, 3) := by decide +kernel
theorem dX3_countRoutes_11 : decode cX3_countRoutes 11 = .ok (.iload_n 2, 1) := by decide +kernel
theorem dX3_countRoutes_12 : decode cX3_countRoutes 12 = .ok (.iconst 0, 1) := by decide +kernel
theorem dX3_countRoutes_13 : decode cX3_countRoutes 13 = .ok (.sipush 240, 3) := by decide +kernel
theorem dX3_countRoutes_16 : decode cX3_countRoutes 16 = .ok (.invokestatic 50, 3) := by decide +kernel
theorem dX3_countRoutes_19 : decode cX3_countRoutes 19 = .ok (.ifCond .eq 7, 3) := by decide +kernel
theorem dX3_countRoutes_22 : decode cX3_countRoutes 22 = .ok (.iconst 1, 1) := by decide +kernel
theorem dX3_countRoutes_23 : decode cX3_countRoutes 23 = .ok (.goto 4, 3) := by decide +kernel
theorem dX3_countRoutes_26 : decode cX3_countRoutes 26 = .ok (.iconst 0, 1) := by decide +kernel
theorem dX3_countRoutes_27 : decode cX3_countRoutes 27 = .ok (.istore 4, 2) := by decide +kernel
theorem dX3_countRoutes_29 : decode cX3_countRoutes 29 = .ok (.iload 4, 2) := by decide +kernel
theorem dX3_countRoutes_31 : decode cX3_countRoutes 31 = .ok (.ifCond .eq 14, 3) := by decide +kernel
theorem dX3_countRoutes_34 : decode cX3_countRoutes 34 = .ok (.iload_n 3, 1) := by decide +kernel
theorem dX3_countRoutes_35 : decode cX3_countRoutes 35 = .ok (.iconst 0, 1) := by decide +kernel
theorem dX3_countRoutes_36 : decode cX3_countRoutes 36 = .ok (.sipush 255, 3) := by decide +kernel
theorem dX3_countRoutes_39 : decode cX3_countRoutes 39 = .ok (.invokestatic 50, 3) := by decide +kernel
theorem dX3_countRoutes_42 : decode cX3_countRoutes 42 = .ok (.ifCond .ne 5, 3) := by decide +kernel
theorem dX3_countRoutes_45 : decode cX3_countRoutes 45 = .ok (.iconst (-1), 1) := by decide +kernel
theorem dX3_countRoutes_46 : decode cX3_countRoutes 46 = .ok (.ireturn, 1) := by decide +kernel
theorem dX3_countRoutes_47 : decode cX3_countRoutes 47 = .ok (.aload_n 0, 1) := by decide +kernel
theorem dX3_countRoutes_48 : decode cX3_countRoutes 48 = .ok (.iload_n 1, 1) := by decide +kernel
theorem dX3_countRoutes_49 : decode cX3_countRoutes 49 = .ok (.putfield 58, 3) := by decide +kernel
theorem dX3_countRoutes_52 : decode cX3_countRoutes 52 = .ok (.aload_n 0, 1) := by decide +kernel
theorem dX3_countRoutes_53 : decode cX3_countRoutes 53 = .ok (.iload_n 2, 1) := by decide +kernel
theorem dX3_countRoutes_54 : decode cX3_countRoutes 54 = .ok (.putfield 61, 3) := by decide +kernel
theorem dX3_countRoutes_57 : decode cX3_countRoutes 57 = .ok (.aload_n 0, 1) := by decide +kernel
theorem dX3_countRoutes_58 : decode cX3_countRoutes 58 = .ok (.iload_n 3, 1) := by decide +kernel
theorem dX3_countRoutes_59 : decode cX3_countRoutes 59 = .ok (.putfield 64, 3) := by decide +kernel
theorem dX3_countRoutes_62 : decode cX3_countRoutes 62 = .ok (.aload_n 0, 1) := by decide +kernel
theorem dX3_countRoutes_63 : decode cX3_countRoutes 63 = .ok (.iconst (-1), 1) := by decide +kernel
theorem dX3_countRoutes_64 : decode cX3_countRoutes 64 = .ok (.invokevirtual 67, 3) := by decide +kernel
theorem dX3_countRoutes_67 : decode cX3_countRoutes 67 = .ok (.aload_n 0, 1) := by decide +kernel
theorem dX3_countRoutes_68 : decode cX3_countRoutes 68 = .ok (.getfield 71, 3) := by decide +kernel
theorem dX3_countRoutes_71 : decode cX3_countRoutes 71 = .ok (.ireturn, 1) := by decide +kernel
set_option maxRecDepth 20000 in
theorem ggX3_draw_X3_countRoutes : GoodIn wsX3_draw wsX3_countRoutes := goodIn_r _ [14, 15, 16, 17, 18, 19, 20, 21, 22, 23, 24, 13, 25, 26, 27, 28, 29, 30, 31, 32, 1, 33, 34, 35, 36, 37, 38, 39, 40, 41, 42, 43, 44, 45, 46, 7, 9, 47, 48, 49, 50, 51, 52, 53, 54, 55, 56, 57, 58, 59, 60, 61, 62, 63, 64] (by decide +kernel) (by decide +kernel)
set_option maxRecDepth 20000 in
theorem gX3_draw_X3_countRoutes : GoodIn wsX3_draw (wsV RX3 74 RX3 yX3_countRoutes wsX3_countRoutes) := goodIn_app (goodIn_of _ (by decide +kernel)) ggX3_draw_X3_countRoutes
set_option maxRecDepth 20000 in
theorem ggX3_draw_X3_search : GoodIn wsX3_draw wsX3_search := goodIn_r _ [25, 26, 18, 27, 28, 29, 13, 30, 31, 32, 1, 33, 34, 35, 36, 19, 20, 21, 37, 38, 39, 40, 41, 42, 43, 44, 45, 46, 15, 16, 17, 7, 9, 47, 48, 49, 50, 51, 52, 53, 54, 55, 56, 57, 58, 59, 60, 61, 62, 63, 64] (by decide +kernel) (by decide +kernel)
set_option maxRecDepth 20000 in
theorem gX3_draw_X3_search : GoodIn wsX3_draw (wsV RX3 67 RX3 yX3_search wsX3_search) := goodIn_app (goodIn_of _ (by decide +kernel)) ggX3_draw_X3_search
theorem dX3_draw_0 : decode cX3_draw 0 = .ok (.iload 4, 2) := by decide +kernel
theorem dX3_draw_2 : decode cX3_draw 2 = .ok (.ifCond .ge 7, 3) := by decide +kernel
theorem dX3_draw_5 : decode cX3_draw 5 = .ok (.iconst (-1), 1) := by decide +kernel
theorem dX3_draw_6 : decode cX3_draw 6 = .ok (.goto 10, 3) := by decide +kernel
theorem dX3_draw_9 : decode cX3_draw 9 = .ok (.aload_n 0, 1) := by decide +kernel
theorem dX3_draw_10 : decode cX3_draw 10 = .ok (.iload_n 1, 1) := by decide +kernel
theorem dX3_draw_11 : decode cX3_draw 11 = .ok (.iload_n 2, 1) := by decide +kernel
theorem dX3_draw_12 : decode cX3_draw 12 = .ok (.iload_n 3, 1) := by decide +kernel
theorem dX3_draw_13 : decode cX3_draw 13 = .ok (.invokevirtual 74, 3) := by decide +kernel
theorem dX3_draw_16 : decode cX3_draw 16 = .ok (.istore 5, 2) := by decide +kernel
theorem dX3_draw_18 : decode cX3_draw 18 = .ok (.iload 5, 2) := by decide +kernel
theorem dX3_draw_20 : decode cX3_draw 20 = .ok (.ifCond .gt 5, 3) := by decide +kernel
theorem dX3_draw_23 : decode cX3_draw 23 = .ok (.iconst (-1), 1) := by decide +kernel
theorem dX3_draw_24 : decode cX3_draw 24 = .ok (.ireturn, 1) := by decide +kernel
theorem dX3_draw_25 : decode cX3_draw 25 = .ok (.aload_n 0, 1) := by decide +kernel
theorem dX3_draw_26 : decode cX3_draw 26 = .ok (.iload 4, 2) := by decide +kernel
theorem dX3_draw_28 : decode cX3_draw 28 = .ok (.iload 5, 2) := by decide +kernel
theorem dX3_draw_30 : decode cX3_draw 30 = .ok (.irem, 1) := by decide +kernel
theorem dX3_draw_31 : decode cX3_draw 31 = .ok (.invokevirtual 67, 3) := by decide +kernel
theorem dX3_draw_34 : decode cX3_draw 34 = .ok (.aload_n 0, 1) := by decide +kernel
theorem dX3_draw_35 : decode cX3_draw 35 = .ok (.getfield 36, 3) := by decide +kernel
theorem dX3_draw_38 : decode cX3_draw 38 = .ok (.iconst 0, 1) := by decide +kernel
theorem dX3_draw_39 : decode cX3_draw 39 = .ok (.aload_n 0, 1) := by decide +kernel
theorem dX3_draw_40 : decode cX3_draw 40 = .ok (.getfield 39, 3) := by decide +kernel
theorem dX3_draw_43 : decode cX3_draw 43 = .ok (.iconst 0, 1) := by decide +kernel
theorem dX3_draw_44 : decode cX3_draw 44 = .ok (.bipush 8, 2) := by decide +kernel
theorem dX3_draw_46 : decode cX3_draw 46 = .ok (.invokestatic 78, 3) := by decide +kernel
theorem dX3_draw_49 : decode cX3_draw 49 = .ok (.aload_n 0, 1) := by decide +kernel
theorem dX3_draw_50 : decode cX3_draw 50 = .ok (.aload_n 0, 1) := by decide +kernel
theorem dX3_draw_51 : decode cX3_draw 51 = .ok (.getfield 84, 3) := by decide +kernel
theorem dX3_draw_54 : decode cX3_draw 54 = .ok (.putfield 87, 3) := by decide +kernel
theorem dX3_draw_57 : decode cX3_draw 57 = .ok (.aload_n 0, 1) := by decide +kernel
theorem dX3_draw_58 : decode cX3_draw 58 = .ok (.getfield 90, 3) := by decide +kernel
theorem dX3_draw_61 : decode cX3_draw 61 = .ok (.ireturn, 1) := by decide +kernel
set_option maxRecDepth 20000 in
theorem ggX3_drawnStreet_X8_isWithin : GoodIn wsX3_drawnStreet wsX8_isWithin := goodIn_r _ [5] (by decide +kernel) (by decide +kernel)
set_option maxRecDepth 20000 in
theorem gX3_drawnStreet_X8_isWithin_n50 : GoodIn wsX3_drawnStreet (wsX8_isWithin) := ggX3_drawnStreet_X8_isWithin
theorem dX3_drawnStreet_0 : decode cX3_drawnStreet 0 = .ok (.iload_n 1, 1) := by decide +kernel
theorem dX3_drawnStreet_1 : decode cX3_drawnStreet 1 = .ok (.iconst 0, 1) := by decide +kernel
theorem dX3_drawnStreet_2 : decode cX3_drawnStreet 2 = .ok (.aload_n 0, 1) := by decide +kernel
theorem dX3_drawnStreet_3 : decode cX3_drawnStreet 3 = .ok (.getfield 87, 3) := by decide +kernel
theorem dX3_drawnStreet_6 : decode cX3_drawnStreet 6 = .ok (.iconst 1, 1) := by decide +kernel
theorem dX3_drawnStreet_7 : decode cX3_drawnStreet 7 = .ok (.isub, 1) := by decide +kernel
theorem dX3_drawnStreet_8 : decode cX3_drawnStreet 8 = .ok (.invokestatic 50, 3) := by decide +kernel
theorem dX3_drawnStreet_11 : decode cX3_drawnStreet 11 = .ok (.ifCond .eq 12, 3) := by decide +kernel
theorem dX3_drawnStreet_14 : decode cX3_drawnStreet 14 = .ok (.aload_n 0, 1) := by decide +kernel
theorem dX3_drawnStreet_15 : decode cX3_drawnStreet 15 = .ok (.getfield 39, 3) := by decide +kernel
theorem dX3_drawnStreet_18 : decode cX3_drawnStreet 18 = .ok (.iload_n 1, 1) := by decide +kernel
theorem dX3_drawnStreet_19 : decode cX3_drawnStreet 19 = .ok (.iaload, 1) := by decide +kernel
theorem dX3_drawnStreet_20 : decode cX3_drawnStreet 20 = .ok (.goto 4, 3) := by decide +kernel
theorem dX3_drawnStreet_23 : decode cX3_drawnStreet 23 = .ok (.iconst (-1), 1) := by decide +kernel
theorem dX3_drawnStreet_24 : decode cX3_drawnStreet 24 = .ok (.ireturn, 1) := by decide +kernel
set_option maxRecDepth 20000 in
theorem ggX3_search_X3_walk : GoodIn wsX3_search wsX3_walk := goodIn_r _ [7, 8, 9, 10, 11, 12, 13, 14, 15, 16, 17, 18, 19, 20, 6, 21, 22, 23, 24, 25, 26, 27, 28, 29, 30, 2, 1, 31, 32, 3, 4, 5, 33, 34, 35, 36, 37, 38, 39, 40, 41, 42, 43, 44, 45, 46, 47, 48, 49, 50] (by decide +kernel) (by decide +kernel)
set_option maxRecDepth 20000 in
theorem gX3_search_X3_walk : GoodIn wsX3_search (wsV RX3 96 RX3 yX3_walk wsX3_walk) := goodIn_app (goodIn_of _ (by decide +kernel)) ggX3_search_X3_walk
theorem dX3_search_0 : decode cX3_search 0 = .ok (.aload_n 0, 1) := by decide +kernel
theorem dX3_search_1 : decode cX3_search 1 = .ok (.iload_n 1, 1) := by decide +kernel
theorem dX3_search_2 : decode cX3_search 2 = .ok (.putfield 93, 3) := by decide +kernel
theorem dX3_search_5 : decode cX3_search 5 = .ok (.aload_n 0, 1) := by decide +kernel
theorem dX3_search_6 : decode cX3_search 6 = .ok (.iconst 0, 1) := by decide +kernel
theorem dX3_search_7 : decode cX3_search 7 = .ok (.putfield 71, 3) := by decide +kernel
theorem dX3_search_10 : decode cX3_search 10 = .ok (.aload_n 0, 1) := by decide +kernel
theorem dX3_search_11 : decode cX3_search 11 = .ok (.iconst 0, 1) := by decide +kernel
theorem dX3_search_12 : decode cX3_search 12 = .ok (.iconst 0, 1) := by decide +kernel
theorem dX3_search_13 : decode cX3_search 13 = .ok (.iconst 0, 1) := by decide +kernel
theorem dX3_search_14 : decode cX3_search 14 = .ok (.iconst 0, 1) := by decide +kernel
theorem dX3_search_15 : decode cX3_search 15 = .ok (.iconst 0, 1) := by decide +kernel
theorem dX3_search_16 : decode cX3_search 16 = .ok (.invokevirtual 96, 3) := by decide +kernel
theorem dX3_search_19 : decode cX3_search 19 = .ok (.pop, 1) := by decide +kernel
theorem dX3_search_20 : decode cX3_search 20 = .ok (.return_, 1) := by decide +kernel
set_option maxRecDepth 20000 in
theorem ggX3_walk_X8_isWithin : GoodIn wsX3_walk wsX8_isWithin := goodIn_r _ [10] (by decide +kernel) (by decide +kernel)
set_option maxRecDepth 20000 in
theorem gX3_walk_X8_isWithin_n50 : GoodIn wsX3_walk (wsX8_isWithin) := ggX3_walk_X8_isWithin
set_option maxRecDepth 20000 in
theorem ggX3_walk_X3_isOpen : GoodIn wsX3_walk wsX3_isOpen := goodIn_r _ [15, 16, 17, 8, 9, 10, 32, 33, 34, 35, 36, 37, 38, 39, 40, 41, 42, 43, 44, 45, 46, 47, 48, 49] (by decide +kernel) (by decide +kernel)
set_option maxRecDepth 20000 in
theorem gX3_walk_X3_isOpen : GoodIn wsX3_walk (wsV RX3 100 RX3 yX3_isOpen wsX3_isOpen) := goodIn_app (goodIn_of _ (by decide +kernel)) ggX3_walk_X3_isOpen
set_option maxRecDepth 20000 in
theorem ggX3_walk_X3_isTarget : GoodIn wsX3_walk wsX3_isTarget := goodIn_r _ [21, 22, 23, 24, 25, 26, 27, 28, 8, 9, 10, 32, 33, 34, 35, 36, 37, 38, 39, 40, 41, 42, 43, 44, 45, 46, 47, 48, 49] (by decide +kernel) (by decide +kernel)
set_option maxRecDepth 20000 in
theorem gX3_walk_X3_isTarget : GoodIn wsX3_walk (wsV RX3 103 RX3 yX3_isTarget wsX3_isTarget) := goodIn_app (goodIn_of _ (by decide +kernel)) ggX3_walk_X3_isTarget
set_option maxRecDepth 20000 in
theorem ggX3_walk_X3_walk : GoodIn wsX3_walk wsX3_walk := goodIn_r _ [0, 1, 2, 3, 4, 5, 6, 7, 8, 9, 10, 11, 12, 13, 14, 15, 16, 17, 18, 19, 20, 21, 22, 23, 24, 25, 26, 27, 28, 29, 30, 31, 32, 33, 34, 35, 36, 37, 38, 39, 40, 41, 42, 43, 44, 45, 46, 47, 48, 49] (by decide +kernel) (by decide +kernel)
set_option maxRecDepth 20000 in
theorem gX3_walk_X3_walk : GoodIn wsX3_walk (wsV RX3 96 RX3 yX3_walk wsX3_walk) := goodIn_app (goodIn_of _ (by decide +kernel)) ggX3_walk_X3_walk
theorem dX3_walk_0 : decode cX3_walk 0 = .ok (.iload_n 2, 1) := by decide +kernel
theorem dX3_walk_1 : decode cX3_walk 1 = .ok (.bipush 8, 2) := by decide +kernel
theorem dX3_walk_3 : decode cX3_walk 3 = .ok (.if_icmp .ge 13, 3) := by decide +kernel
theorem dX3_walk_6 : decode cX3_walk 6 = .ok (.iload_n 1, 1) := by decide +kernel
theorem dX3_walk_7 : decode cX3_walk 7 = .ok (.iconst 0, 1) := by decide +kernel
theorem dX3_walk_8 : decode cX3_walk 8 = .ok (.bipush 11, 2) := by decide +kernel
theorem dX3_walk_10 : decode cX3_walk 10 = .ok (.invokestatic 50, 3) := by decide +kernel
theorem dX3_walk_13 : decode cX3_walk 13 = .ok (.ifCond .ne 5, 3) := by decide +kernel
theorem dX3_walk_16 : decode cX3_walk 16 = .ok (.iconst 0, 1) := by decide +kernel
theorem dX3_walk_17 : decode cX3_walk 17 = .ok (.ireturn, 1) := by decide +kernel
theorem dX3_walk_18 : decode cX3_walk 18 = .ok (.iconst 0, 1) := by decide +kernel
theorem dX3_walk_19 : decode cX3_walk 19 = .ok (.istore 6, 2) := by decide +kernel
theorem dX3_walk_21 : decode cX3_walk 21 = .ok (.iload 6, 2) := by decide +kernel
theorem dX3_walk_23 : decode cX3_walk 23 = .ok (.aload_n 0, 1) := by decide +kernel
theorem dX3_walk_24 : decode cX3_walk 24 = .ok (.getfield 33, 3) := by decide +kernel
theorem dX3_walk_27 : decode cX3_walk 27 = .ok (.iload_n 1, 1) := by decide +kernel
theorem dX3_walk_28 : decode cX3_walk 28 = .ok (.iaload, 1) := by decide +kernel
theorem dX3_walk_29 : decode cX3_walk 29 = .ok (.if_icmp .ge 151, 3) := by decide +kernel
theorem dX3_walk_32 : decode cX3_walk 32 = .ok (.aload_n 0, 1) := by decide +kernel
theorem dX3_walk_33 : decode cX3_walk 33 = .ok (.getfield 30, 3) := by decide +kernel
theorem dX3_walk_36 : decode cX3_walk 36 = .ok (.iload_n 1, 1) := by decide +kernel
theorem dX3_walk_37 : decode cX3_walk 37 = .ok (.aaload, 1) := by decide +kernel
theorem dX3_walk_38 : decode cX3_walk 38 = .ok (.iload 6, 2) := by decide +kernel
theorem dX3_walk_40 : decode cX3_walk 40 = .ok (.iaload, 1) := by decide +kernel
theorem dX3_walk_41 : decode cX3_walk 41 = .ok (.istore 7, 2) := by decide +kernel
theorem dX3_walk_43 : decode cX3_walk 43 = .ok (.aload_n 0, 1) := by decide +kernel
theorem dX3_walk_44 : decode cX3_walk 44 = .ok (.iload 7, 2) := by decide +kernel
theorem dX3_walk_46 : decode cX3_walk 46 = .ok (.invokevirtual 100, 3) := by decide +kernel
theorem dX3_walk_49 : decode cX3_walk 49 = .ok (.ifCond .eq 125, 3) := by decide +kernel
theorem dX3_walk_52 : decode cX3_walk 52 = .ok (.iload 5, 2) := by decide +kernel
theorem dX3_walk_54 : decode cX3_walk 54 = .ok (.iload 7, 2) := by decide +kernel
theorem dX3_walk_56 : decode cX3_walk 56 = .ok (.ishr, 1) := by decide +kernel
theorem dX3_walk_57 : decode cX3_walk 57 = .ok (.iconst 1, 1) := by decide +kernel
theorem dX3_walk_58 : decode cX3_walk 58 = .ok (.iand, 1) := by decide +kernel
theorem dX3_walk_59 : decode cX3_walk 59 = .ok (.ifCond .eq 6, 3) := by decide +kernel
theorem dX3_walk_62 : decode cX3_walk 62 = .ok (.goto 112, 3) := by decide +kernel
theorem dX3_walk_65 : decode cX3_walk 65 = .ok (.aload_n 0, 1) := by decide +kernel
theorem dX3_walk_66 : decode cX3_walk 66 = .ok (.getfield 36, 3) := by decide +kernel
theorem dX3_walk_69 : decode cX3_walk 69 = .ok (.iload_n 2, 1) := by decide +kernel
theorem dX3_walk_70 : decode cX3_walk 70 = .ok (.iload 7, 2) := by decide +kernel
theorem dX3_walk_72 : decode cX3_walk 72 = .ok (.iastore, 1) := by decide +kernel
theorem dX3_walk_73 : decode cX3_walk 73 = .ok (.aload_n 0, 1) := by decide +kernel
theorem dX3_walk_74 : decode cX3_walk 74 = .ok (.getfield 11, 3) := by decide +kernel
theorem dX3_walk_77 : decode cX3_walk 77 = .ok (.iload 7, 2) := by decide +kernel
theorem dX3_walk_79 : decode cX3_walk 79 = .ok (.iaload, 1) := by decide +kernel
theorem dX3_walk_80 : decode cX3_walk 80 = .ok (.iload_n 1, 1) := by decide +kernel
theorem dX3_walk_81 : decode cX3_walk 81 = .ok (.if_icmp .ne 13, 3) := by decide +kernel
theorem dX3_walk_84 : decode cX3_walk 84 = .ok (.aload_n 0, 1) := by decide +kernel
theorem dX3_walk_85 : decode cX3_walk 85 = .ok (.getfield 15, 3) := by decide +kernel
theorem dX3_walk_88 : decode cX3_walk 88 = .ok (.iload 7, 2) := by decide +kernel
theorem dX3_walk_90 : decode cX3_walk 90 = .ok (.iaload, 1) := by decide +kernel
theorem dX3_walk_91 : decode cX3_walk 91 = .ok (.goto 10, 3) := by decide +kernel
theorem dX3_walk_94 : decode cX3_walk 94 = .ok (.aload_n 0, 1) := by decide +kernel
theorem dX3_walk_95 : decode cX3_walk 95 = .ok (.getfield 11, 3) := by decide +kernel
theorem dX3_walk_98 : decode cX3_walk 98 = .ok (.iload 7, 2) := by decide +kernel
theorem dX3_walk_100 : decode cX3_walk 100 = .ok (.iaload, 1) := by decide +kernel
theorem dX3_walk_101 : decode cX3_walk 101 = .ok (.istore 8, 2) := by decide +kernel
theorem dX3_walk_103 : decode cX3_walk 103 = .ok (.iload_n 3, 1) := by decide +kernel
theorem dX3_walk_104 : decode cX3_walk 104 = .ok (.aload_n 0, 1) := by decide +kernel
theorem dX3_walk_105 : decode cX3_walk 105 = .ok (.getfield 18, 3) := by decide +kernel
theorem dX3_walk_108 : decode cX3_walk 108 = .ok (.iload 7, 2) := by decide +kernel
theorem dX3_walk_110 : decode cX3_walk 110 = .ok (.iaload, 1) := by decide +kernel
theorem dX3_walk_111 : decode cX3_walk 111 = .ok (.iadd, 1) := by decide +kernel
theorem dX3_walk_112 : decode cX3_walk 112 = .ok (.istore 9, 2) := by decide +kernel
theorem dX3_walk_114 : decode cX3_walk 114 = .ok (.iload 4, 2) := by decide +kernel
theorem dX3_walk_116 : decode cX3_walk 116 = .ok (.aload_n 0, 1) := by decide +kernel
theorem dX3_walk_117 : decode cX3_walk 117 = .ok (.getfield 21, 3) := by decide +kernel
theorem dX3_walk_120 : decode cX3_walk 120 = .ok (.iload 7, 2) := by decide +kernel
theorem dX3_walk_122 : decode cX3_walk 122 = .ok (.iaload, 1) := by decide +kernel
theorem dX3_walk_123 : decode cX3_walk 123 = .ok (.ior, 1) := by decide +kernel
theorem dX3_walk_124 : decode cX3_walk 124 = .ok (.istore 10, 2) := by decide +kernel
theorem dX3_walk_126 : decode cX3_walk 126 = .ok (.iload 8, 2) := by decide +kernel
theorem dX3_walk_128 : decode cX3_walk 128 = .ok (.ifCond .ne 17, 3) := by decide +kernel
theorem dX3_walk_131 : decode cX3_walk 131 = .ok (.aload_n 0, 1) := by decide +kernel
theorem dX3_walk_132 : decode cX3_walk 132 = .ok (.iload_n 2, 1) := by decide +kernel
theorem dX3_walk_133 : decode cX3_walk 133 = .ok (.iconst 1, 1) := by decide +kernel
theorem dX3_walk_134 : decode cX3_walk 134 = .ok (.iadd, 1) := by decide +kernel
theorem dX3_walk_135 : decode cX3_walk 135 = .ok (.iload 9, 2) := by decide +kernel
theorem dX3_walk_137 : decode cX3_walk 137 = .ok (.iload 10, 2) := by decide +kernel
theorem dX3_walk_139 : decode cX3_walk 139 = .ok (.invokevirtual 103, 3) := by decide +kernel
theorem dX3_walk_142 : decode cX3_walk 142 = .ok (.goto 23, 3) := by decide +kernel
theorem dX3_walk_145 : decode cX3_walk 145 = .ok (.aload_n 0, 1) := by decide +kernel
theorem dX3_walk_146 : decode cX3_walk 146 = .ok (.iload 8, 2) := by decide +kernel
theorem dX3_walk_148 : decode cX3_walk 148 = .ok (.iload_n 2, 1) := by decide +kernel
theorem dX3_walk_149 : decode cX3_walk 149 = .ok (.iconst 1, 1) := by decide +kernel
theorem dX3_walk_150 : decode cX3_walk 150 = .ok (.iadd, 1) := by decide +kernel
theorem dX3_walk_151 : decode cX3_walk 151 = .ok (.iload 9, 2) := by decide +kernel
theorem dX3_walk_153 : decode cX3_walk 153 = .ok (.iload 10, 2) := by decide +kernel
theorem dX3_walk_155 : decode cX3_walk 155 = .ok (.iload 5, 2) := by decide +kernel
theorem dX3_walk_157 : decode cX3_walk 157 = .ok (.iconst 1, 1) := by decide +kernel
theorem dX3_walk_158 : decode cX3_walk 158 = .ok (.iload 7, 2) := by decide +kernel
theorem dX3_walk_160 : decode cX3_walk 160 = .ok (.ishl, 1) := by decide +kernel
theorem dX3_walk_161 : decode cX3_walk 161 = .ok (.ior, 1) := by decide +kernel
theorem dX3_walk_162 : decode cX3_walk 162 = .ok (.invokevirtual 96, 3) := by decide +kernel
theorem dX3_walk_165 : decode cX3_walk 165 = .ok (.istore 11, 2) := by decide +kernel
theorem dX3_walk_167 : decode cX3_walk 167 = .ok (.iload 11, 2) := by decide +kernel
theorem dX3_walk_169 : decode cX3_walk 169 = .ok (.ifCond .eq 5, 3) := by decide +kernel
theorem dX3_walk_172 : decode cX3_walk 172 = .ok (.iconst 1, 1) := by decide +kernel
theorem dX3_walk_173 : decode cX3_walk 173 = .ok (.ireturn, 1) := by decide +kernel
theorem dX3_walk_174 : decode cX3_walk 174 = .ok (.iinc 6 1, 3) := by decide +kernel
theorem dX3_walk_177 : decode cX3_walk 177 = .ok (.goto (-156), 3) := by decide +kernel
theorem dX3_walk_180 : decode cX3_walk 180 = .ok (.iconst 0, 1) := by decide +kernel
theorem dX3_walk_181 : decode cX3_walk 181 = .ok (.ireturn, 1) := by decide +kernel
set_option maxRecDepth 20000 in
theorem ggX3_isTarget_X8_isWithin : GoodIn wsX3_isTarget wsX8_isWithin := goodIn_r _ [10] (by decide +kernel) (by decide +kernel)
set_option maxRecDepth 20000 in
theorem gX3_isTarget_X8_isWithin_n50 : GoodIn wsX3_isTarget (wsX8_isWithin) := ggX3_isTarget_X8_isWithin
theorem dX3_isTarget_0 : decode cX3_isTarget 0 = .ok (.iload_n 2, 1) := by decide +kernel
theorem dX3_isTarget_1 : decode cX3_isTarget 1 = .ok (.aload_n 0, 1) := by decide +kernel
theorem dX3_isTarget_2 : decode cX3_isTarget 2 = .ok (.getfield 58, 3) := by decide +kernel
theorem dX3_isTarget_5 : decode cX3_isTarget 5 = .ok (.aload_n 0, 1) := by decide +kernel
theorem dX3_isTarget_6 : decode cX3_isTarget 6 = .ok (.getfield 61, 3) := by decide +kernel
theorem dX3_isTarget_9 : decode cX3_isTarget 9 = .ok (.invokestatic 50, 3) := by decide +kernel
theorem dX3_isTarget_12 : decode cX3_isTarget 12 = .ok (.ifCond .eq 16, 3) := by decide +kernel
theorem dX3_isTarget_15 : decode cX3_isTarget 15 = .ok (.iload_n 3, 1) := by decide +kernel
theorem dX3_isTarget_16 : decode cX3_isTarget 16 = .ok (.aload_n 0, 1) := by decide +kernel
theorem dX3_isTarget_17 : decode cX3_isTarget 17 = .ok (.getfield 64, 3) := by decide +kernel
theorem dX3_isTarget_20 : decode cX3_isTarget 20 = .ok (.iand, 1) := by decide +kernel
theorem dX3_isTarget_21 : decode cX3_isTarget 21 = .ok (.aload_n 0, 1) := by decide +kernel
theorem dX3_isTarget_22 : decode cX3_isTarget 22 = .ok (.getfield 64, 3) := by decide +kernel
theorem dX3_isTarget_25 : decode cX3_isTarget 25 = .ok (.if_icmp .eq 5, 3) := by decide +kernel
theorem dX3_isTarget_28 : decode cX3_isTarget 28 = .ok (.iconst 0, 1) := by decide +kernel
theorem dX3_isTarget_29 : decode cX3_isTarget 29 = .ok (.ireturn, 1) := by decide +kernel
theorem dX3_isTarget_30 : decode cX3_isTarget 30 = .ok (.aload_n 0, 1) := by decide +kernel
theorem dX3_isTarget_31 : decode cX3_isTarget 31 = .ok (.getfield 71, 3) := by decide +kernel
theorem dX3_isTarget_34 : decode cX3_isTarget 34 = .ok (.aload_n 0, 1) := by decide +kernel
theorem dX3_isTarget_35 : decode cX3_isTarget 35 = .ok (.getfield 93, 3) := by decide +kernel
theorem dX3_isTarget_38 : decode cX3_isTarget 38 = .ok (.if_icmp .ne 15, 3) := by decide +kernel
theorem dX3_isTarget_41 : decode cX3_isTarget 41 = .ok (.aload_n 0, 1) := by decide +kernel
theorem dX3_isTarget_42 : decode cX3_isTarget 42 = .ok (.iload_n 1, 1) := by decide +kernel
theorem dX3_isTarget_43 : decode cX3_isTarget 43 = .ok (.putfield 84, 3) := by decide +kernel
theorem dX3_isTarget_46 : decode cX3_isTarget 46 = .ok (.aload_n 0, 1) := by decide +kernel
theorem dX3_isTarget_47 : decode cX3_isTarget 47 = .ok (.iload_n 2, 1) := by decide +kernel
theorem dX3_isTarget_48 : decode cX3_isTarget 48 = .ok (.putfield 90, 3) := by decide +kernel
theorem dX3_isTarget_51 : decode cX3_isTarget 51 = .ok (.iconst 1, 1) := by decide +kernel
theorem dX3_isTarget_52 : decode cX3_isTarget 52 = .ok (.ireturn, 1) := by decide +kernel
theorem dX3_isTarget_53 : decode cX3_isTarget 53 = .ok (.aload_n 0, 1) := by decide +kernel
theorem dX3_isTarget_54 : decode cX3_isTarget 54 = .ok (.dup, 1) := by decide +kernel
theorem dX3_isTarget_55 : decode cX3_isTarget 55 = .ok (.getfield 71, 3) := by decide +kernel
theorem dX3_isTarget_58 : decode cX3_isTarget 58 = .ok (.iconst 1, 1) := by decide +kernel
theorem dX3_isTarget_59 : decode cX3_isTarget 59 = .ok (.iadd, 1) := by decide +kernel
theorem dX3_isTarget_60 : decode cX3_isTarget 60 = .ok (.putfield 71, 3) := by decide +kernel
theorem dX3_isTarget_63 : decode cX3_isTarget 63 = .ok (.iconst 0, 1) := by decide +kernel
theorem dX3_isTarget_64 : decode cX3_isTarget 64 = .ok (.ireturn, 1) := by decide +kernel
theorem dX4_init_0 : decode cX4_init 0 = .ok (.aload_n 0, 1) := by decide +kernel
theorem dX4_init_1 : decode cX4_init 1 = .ok (.invokespecial 1, 3) := by decide +kernel
theorem dX4_init_4 : decode cX4_init 4 = .ok (.aload_n 0, 1) := by decide +kernel
theorem dX4_init_5 : decode cX4_init 5 = .ok (.sipush 600, 3) := by decide +kernel
theorem dX4_init_8 : decode cX4_init 8 = .ok (.newarray .char, 2) := by decide +kernel
theorem dX4_init_10 : decode cX4_init 10 = .ok (.putfield 9, 3) := by decide +kernel
theorem dX4_init_13 : decode cX4_init 13 = .ok (.return_, 1) := by decide +kernel
set_option maxRecDepth 20000 in
theorem ggX4_addEight_X8_isWithin : GoodIn wsX4_addEight wsX8_isWithin := goodIn_r _ [5] (by decide +kernel) (by decide +kernel)
set_option maxRecDepth 20000 in
theorem gX4_addEight_X8_isWithin_n13 : GoodIn wsX4_addEight (wsX8_isWithin) := ggX4_addEight_X8_isWithin
theorem dX4_addEight_0 : decode cX4_addEight 0 = .ok (.bipush 56, 2) := by decide +kernel
theorem dX4_addEight_2 : decode cX4_addEight 2 = .ok (.istore_n 3, 1) := by decide +kernel
theorem dX4_addEight_3 : decode cX4_addEight 3 = .ok (.iload_n 3, 1) := by decide +kernel
theorem dX4_addEight_4 : decode cX4_addEight 4 = .ok (.ifCond .lt 82, 3) := by decide +kernel
theorem dX4_addEight_7 : decode cX4_addEight 7 = .ok (.lload_n 1, 1) := by decide +kernel
theorem dX4_addEight_8 : decode cX4_addEight 8 = .ok (.iload_n 3, 1) := by decide +kernel
theorem dX4_addEight_9 : decode cX4_addEight 9 = .ok (.lushr, 1) := by decide +kernel
theorem dX4_addEight_10 : decode cX4_addEight 10 = .ok (.l2i, 1) := by decide +kernel
theorem dX4_addEight_11 : decode cX4_addEight 11 = .ok (.sipush 255, 3) := by decide +kernel
theorem dX4_addEight_14 : decode cX4_addEight 14 = .ok (.iand, 1) := by decide +kernel
theorem dX4_addEight_15 : decode cX4_addEight 15 = .ok (.istore 4, 2) := by decide +kernel
theorem dX4_addEight_17 : decode cX4_addEight 17 = .ok (.iload 4, 2) := by decide +kernel
theorem dX4_addEight_19 : decode cX4_addEight 19 = .ok (.bipush 10, 2) := by decide +kernel
theorem dX4_addEight_21 : decode cX4_addEight 21 = .ok (.if_icmp .eq 15, 3) := by decide +kernel
theorem dX4_addEight_24 : decode cX4_addEight 24 = .ok (.iload 4, 2) := by decide +kernel
theorem dX4_addEight_26 : decode cX4_addEight 26 = .ok (.bipush 32, 2) := by decide +kernel
theorem dX4_addEight_28 : decode cX4_addEight 28 = .ok (.bipush 126, 2) := by decide +kernel
theorem dX4_addEight_30 : decode cX4_addEight 30 = .ok (.invokestatic 13, 3) := by decide +kernel
theorem dX4_addEight_33 : decode cX4_addEight 33 = .ok (.ifCond .eq 7, 3) := by decide +kernel
theorem dX4_addEight_36 : decode cX4_addEight 36 = .ok (.iconst 1, 1) := by decide +kernel
theorem dX4_addEight_37 : decode cX4_addEight 37 = .ok (.goto 4, 3) := by decide +kernel
theorem dX4_addEight_40 : decode cX4_addEight 40 = .ok (.iconst 0, 1) := by decide +kernel
theorem dX4_addEight_41 : decode cX4_addEight 41 = .ok (.istore 5, 2) := by decide +kernel
theorem dX4_addEight_43 : decode cX4_addEight 43 = .ok (.iload 5, 2) := by decide +kernel
theorem dX4_addEight_45 : decode cX4_addEight 45 = .ok (.ifCond .eq 35, 3) := by decide +kernel
theorem dX4_addEight_48 : decode cX4_addEight 48 = .ok (.aload_n 0, 1) := by decide +kernel
theorem dX4_addEight_49 : decode cX4_addEight 49 = .ok (.getfield 19, 3) := by decide +kernel
theorem dX4_addEight_52 : decode cX4_addEight 52 = .ok (.sipush 600, 3) := by decide +kernel
theorem dX4_addEight_55 : decode cX4_addEight 55 = .ok (.if_icmp .ge 25, 3) := by decide +kernel
theorem dX4_addEight_58 : decode cX4_addEight 58 = .ok (.aload_n 0, 1) := by decide +kernel
theorem dX4_addEight_59 : decode cX4_addEight 59 = .ok (.getfield 9, 3) := by decide +kernel
theorem dX4_addEight_62 : decode cX4_addEight 62 = .ok (.aload_n 0, 1) := by decide +kernel
theorem dX4_addEight_63 : decode cX4_addEight 63 = .ok (.getfield 19, 3) := by decide +kernel
theorem dX4_addEight_66 : decode cX4_addEight 66 = .ok (.iload 4, 2) := by decide +kernel
theorem dX4_addEight_68 : decode cX4_addEight 68 = .ok (.i2c, 1) := by decide +kernel
theorem dX4_addEight_69 : decode cX4_addEight 69 = .ok (.castore, 1) := by decide +kernel
theorem dX4_addEight_70 : decode cX4_addEight 70 = .ok (.aload_n 0, 1) := by decide +kernel
theorem dX4_addEight_71 : decode cX4_addEight 71 = .ok (.dup, 1) := by decide +kernel
theorem dX4_addEight_72 : decode cX4_addEight 72 = .ok (.getfield 19, 3) := by decide +kernel
theorem dX4_addEight_75 : decode cX4_addEight 75 = .ok (.iconst 1, 1) := by decide +kernel
theorem dX4_addEight_76 : decode cX4_addEight 76 = .ok (.iadd, 1) := by decide +kernel
theorem dX4_addEight_77 : decode cX4_addEight 77 = .ok (.putfield 19, 3) := by decide +kernel
theorem dX4_addEight_80 : decode cX4_addEight 80 = .ok (.iinc 3 (-8), 3) := by decide +kernel
theorem dX4_addEight_83 : decode cX4_addEight 83 = .ok (.goto (-80), 3) := by decide +kernel
theorem dX4_addEight_86 : decode cX4_addEight 86 = .ok (.return_, 1) := by decide +kernel
theorem dX5_init_0 : decode cX5_init 0 = .ok (.aload_n 0, 1) := by decide +kernel
theorem dX5_init_1 : decode cX5_init 1 = .ok (.invokespecial 3, 3) := by decide +kernel
theorem dX5_init_4 : decode cX5_init 4 = .ok (.aload_n 0, 1) := by decide +kernel
theorem dX5_init_5 : decode cX5_init 5 = .ok (.bipush 16, 2) := by decide +kernel
theorem dX5_init_7 : decode cX5_init 7 = .ok (.newarray .int, 2) := by decide +kernel
theorem dX5_init_9 : decode cX5_init 9 = .ok (.putfield 9, 3) := by decide +kernel
theorem dX5_init_12 : decode cX5_init 12 = .ok (.aload_n 0, 1) := by decide +kernel
theorem dX5_init_13 : decode cX5_init 13 = .ok (.bipush 16, 2) := by decide +kernel
theorem dX5_init_15 : decode cX5_init 15 = .ok (.newarray .int, 2) := by decide +kernel
theorem dX5_init_17 : decode cX5_init 17 = .ok (.putfield 13, 3) := by decide +kernel
theorem dX5_init_20 : decode cX5_init 20 = .ok (.aload_n 0, 1) := by decide +kernel
theorem dX5_init_21 : decode cX5_init 21 = .ok (.sipush 600, 3) := by decide +kernel
theorem dX5_init_24 : decode cX5_init 24 = .ok (.newarray .int, 2) := by decide +kernel
theorem dX5_init_26 : decode cX5_init 26 = .ok (.putfield 18, 3) := by decide +kernel
theorem dX5_init_29 : decode cX5_init 29 = .ok (.aload_n 0, 1) := by decide +kernel
theorem dX5_init_30 : decode cX5_init 30 = .ok (.bipush 16, 2) := by decide +kernel
theorem dX5_init_32 : decode cX5_init 32 = .ok (.newarray .int, 2) := by decide +kernel
theorem dX5_init_34 : decode cX5_init 34 = .ok (.putfield 21, 3) := by decide +kernel
theorem dX5_init_37 : decode cX5_init 37 = .ok (.return_, 1) := by decide +kernel
theorem dX5_clear_0 : decode cX5_clear 0 = .ok (.aload_n 0, 1) := by decide +kernel
theorem dX5_clear_1 : decode cX5_clear 1 = .ok (.iconst 0, 1) := by decide +kernel
theorem dX5_clear_2 : decode cX5_clear 2 = .ok (.putfield 24, 3) := by decide +kernel
theorem dX5_clear_5 : decode cX5_clear 5 = .ok (.aload_n 0, 1) := by decide +kernel
theorem dX5_clear_6 : decode cX5_clear 6 = .ok (.iconst 0, 1) := by decide +kernel
theorem dX5_clear_7 : decode cX5_clear 7 = .ok (.putfield 28, 3) := by decide +kernel
theorem dX5_clear_10 : decode cX5_clear 10 = .ok (.return_, 1) := by decide +kernel
theorem dX5_addCode_0 : decode cX5_addCode 0 = .ok (.aload_n 0, 1) := by decide +kernel
theorem dX5_addCode_1 : decode cX5_addCode 1 = .ok (.getfield 28, 3) := by decide +kernel
theorem dX5_addCode_4 : decode cX5_addCode 4 = .ok (.aload_n 0, 1) := by decide +kernel
theorem dX5_addCode_5 : decode cX5_addCode 5 = .ok (.getfield 18, 3) := by decide +kernel
theorem dX5_addCode_8 : decode cX5_addCode 8 = .ok (.arraylength, 1) := by decide +kernel
theorem dX5_addCode_9 : decode cX5_addCode 9 = .ok (.if_icmp .ge 23, 3) := by decide +kernel
theorem dX5_addCode_12 : decode cX5_addCode 12 = .ok (.aload_n 0, 1) := by decide +kernel
theorem dX5_addCode_13 : decode cX5_addCode 13 = .ok (.getfield 18, 3) := by decide +kernel
theorem dX5_addCode_16 : decode cX5_addCode 16 = .ok (.aload_n 0, 1) := by decide +kernel
theorem dX5_addCode_17 : decode cX5_addCode 17 = .ok (.getfield 28, 3) := by decide +kernel
theorem dX5_addCode_20 : decode cX5_addCode 20 = .ok (.iload_n 1, 1) := by decide +kernel
theorem dX5_addCode_21 : decode cX5_addCode 21 = .ok (.iastore, 1) := by decide +kernel
theorem dX5_addCode_22 : decode cX5_addCode 22 = .ok (.aload_n 0, 1) := by decide +kernel
theorem dX5_addCode_23 : decode cX5_addCode 23 = .ok (.dup, 1) := by decide +kernel
theorem dX5_addCode_24 : decode cX5_addCode 24 = .ok (.getfield 28, 3) := by decide +kernel
theorem dX5_addCode_27 : decode cX5_addCode 27 = .ok (.iconst 1, 1) := by decide +kernel
theorem dX5_addCode_28 : decode cX5_addCode 28 = .ok (.iadd, 1) := by decide +kernel
theorem dX5_addCode_29 : decode cX5_addCode 29 = .ok (.putfield 28, 3) := by decide +kernel
theorem dX5_addCode_32 : decode cX5_addCode 32 = .ok (.return_, 1) := by decide +kernel
theorem dX5_addLine_0 : decode cX5_addLine 0 = .ok (.aload_n 0, 1) := by decide +kernel
theorem dX5_addLine_1 : decode cX5_addLine 1 = .ok (.getfield 24, 3) := by decide +kernel
theorem dX5_addLine_4 : decode cX5_addLine 4 = .ok (.bipush 16, 2) := by decide +kernel
theorem dX5_addLine_6 : decode cX5_addLine 6 = .ok (.if_icmp .ge 36, 3) := by decide +kernel
theorem dX5_addLine_9 : decode cX5_addLine 9 = .ok (.aload_n 0, 1) := by decide +kernel
theorem dX5_addLine_10 : decode cX5_addLine 10 = .ok (.getfield 9, 3) := by decide +kernel
theorem dX5_addLine_13 : decode cX5_addLine 13 = .ok (.aload_n 0, 1) := by decide +kernel
theorem dX5_addLine_14 : decode cX5_addLine 14 = .ok (.getfield 24, 3) := by decide +kernel
theorem dX5_addLine_17 : decode cX5_addLine 17 = .ok (.iload_n 1, 1) := by decide +kernel
theorem dX5_addLine_18 : decode cX5_addLine 18 = .ok (.iastore, 1) := by decide +kernel
theorem dX5_addLine_19 : decode cX5_addLine 19 = .ok (.aload_n 0, 1) := by decide +kernel
theorem dX5_addLine_20 : decode cX5_addLine 20 = .ok (.getfield 13, 3) := by decide +kernel
theorem dX5_addLine_23 : decode cX5_addLine 23 = .ok (.aload_n 0, 1) := by decide +kernel
theorem dX5_addLine_24 : decode cX5_addLine 24 = .ok (.getfield 24, 3) := by decide +kernel
theorem dX5_addLine_27 : decode cX5_addLine 27 = .ok (.aload_n 0, 1) := by decide +kernel
theorem dX5_addLine_28 : decode cX5_addLine 28 = .ok (.getfield 28, 3) := by decide +kernel
theorem dX5_addLine_31 : decode cX5_addLine 31 = .ok (.iastore, 1) := by decide +kernel
theorem dX5_addLine_32 : decode cX5_addLine 32 = .ok (.aload_n 0, 1) := by decide +kernel
theorem dX5_addLine_33 : decode cX5_addLine 33 = .ok (.dup, 1) := by decide +kernel
theorem dX5_addLine_34 : decode cX5_addLine 34 = .ok (.getfield 24, 3) := by decide +kernel
theorem dX5_addLine_37 : decode cX5_addLine 37 = .ok (.iconst 1, 1) := by decide +kernel
theorem dX5_addLine_38 : decode cX5_addLine 38 = .ok (.iadd, 1) := by decide +kernel
theorem dX5_addLine_39 : decode cX5_addLine 39 = .ok (.putfield 24, 3) := by decide +kernel
theorem dX5_addLine_42 : decode cX5_addLine 42 = .ok (.return_, 1) := by decide +kernel
set_option maxRecDepth 20000 in
theorem ggX5_rankBy_X5_valueOf : GoodIn wsX5_rankBy wsX5_valueOf := goodIn_r _ [8, 9, 10, 11, 12, 7, 13, 14, 15, 16, 17, 18, 19] (by decide +kernel) (by decide +kernel)
set_option maxRecDepth 20000 in
theorem gX5_rankBy_X5_valueOf : GoodIn wsX5_rankBy (wsV RX5 31 RX5 yX5_valueOf wsX5_valueOf) := goodIn_app (goodIn_of _ (by decide +kernel)) ggX5_rankBy_X5_valueOf
theorem dX5_rankBy_0 : decode cX5_rankBy 0 = .ok (.iconst 0, 1) := by decide +kernel
theorem dX5_rankBy_1 : decode cX5_rankBy 1 = .ok (.istore_n 2, 1) := by decide +kernel
theorem dX5_rankBy_2 : decode cX5_rankBy 2 = .ok (.iconst 0, 1) := by decide +kernel
theorem dX5_rankBy_3 : decode cX5_rankBy 3 = .ok (.istore_n 3, 1) := by decide +kernel
theorem dX5_rankBy_4 : decode cX5_rankBy 4 = .ok (.iload_n 3, 1) := by decide +kernel
theorem dX5_rankBy_5 : decode cX5_rankBy 5 = .ok (.aload_n 0, 1) := by decide +kernel
theorem dX5_rankBy_6 : decode cX5_rankBy 6 = .ok (.getfield 24, 3) := by decide +kernel
theorem dX5_rankBy_9 : decode cX5_rankBy 9 = .ok (.if_icmp .ge 38, 3) := by decide +kernel
theorem dX5_rankBy_12 : decode cX5_rankBy 12 = .ok (.aload_n 0, 1) := by decide +kernel
theorem dX5_rankBy_13 : decode cX5_rankBy 13 = .ok (.iload_n 2, 1) := by decide +kernel
theorem dX5_rankBy_14 : decode cX5_rankBy 14 = .ok (.aload_n 0, 1) := by decide +kernel
theorem dX5_rankBy_15 : decode cX5_rankBy 15 = .ok (.getfield 13, 3) := by decide +kernel
theorem dX5_rankBy_18 : decode cX5_rankBy 18 = .ok (.iload_n 3, 1) := by decide +kernel
theorem dX5_rankBy_19 : decode cX5_rankBy 19 = .ok (.iaload, 1) := by decide +kernel
theorem dX5_rankBy_20 : decode cX5_rankBy 20 = .ok (.aload_n 1, 1) := by decide +kernel
theorem dX5_rankBy_21 : decode cX5_rankBy 21 = .ok (.invokevirtual 31, 3) := by decide +kernel
theorem dX5_rankBy_24 : decode cX5_rankBy 24 = .ok (.ifCond .eq 10, 3) := by decide +kernel
theorem dX5_rankBy_27 : decode cX5_rankBy 27 = .ok (.aload_n 0, 1) := by decide +kernel
theorem dX5_rankBy_28 : decode cX5_rankBy 28 = .ok (.getfield 9, 3) := by decide +kernel
theorem dX5_rankBy_31 : decode cX5_rankBy 31 = .ok (.iload_n 3, 1) := by decide +kernel
theorem dX5_rankBy_32 : decode cX5_rankBy 32 = .ok (.iaload, 1) := by decide +kernel
theorem dX5_rankBy_33 : decode cX5_rankBy 33 = .ok (.ireturn, 1) := by decide +kernel
theorem dX5_rankBy_34 : decode cX5_rankBy 34 = .ok (.aload_n 0, 1) := by decide +kernel
theorem dX5_rankBy_35 : decode cX5_rankBy 35 = .ok (.getfield 13, 3) := by decide +kernel
theorem dX5_rankBy_38 : decode cX5_rankBy 38 = .ok (.iload_n 3, 1) := by decide +kernel
theorem dX5_rankBy_39 : decode cX5_rankBy 39 = .ok (.iaload, 1) := by decide +kernel
theorem dX5_rankBy_40 : decode cX5_rankBy 40 = .ok (.istore_n 2, 1) := by decide +kernel
theorem dX5_rankBy_41 : decode cX5_rankBy 41 = .ok (.iinc 3 1, 3) := by decide +kernel
theorem dX5_rankBy_44 : decode cX5_rankBy 44 = .ok (.goto (-40), 3) := by decide +kernel
theorem dX5_rankBy_47 : decode cX5_rankBy 47 = .ok (.iconst 0, 1) := by decide +kernel
theorem dX5_rankBy_48 : decode cX5_rankBy 48 = .ok (.ireturn, 1) := by decide +kernel
set_option maxRecDepth 20000 in
theorem ggX5_valueOf_X5_joined : GoodIn wsX5_valueOf wsX5_joined := goodIn_r _ [6] (by decide +kernel) (by decide +kernel)
set_option maxRecDepth 20000 in
theorem gX5_valueOf_X5_joined : GoodIn wsX5_valueOf (va_wsS RX5 37 yX5_joined wsX5_joined) := goodIn_app (goodIn_of _ (by decide +kernel)) ggX5_valueOf_X5_joined
theorem dX5_valueOf_0 : decode cX5_valueOf 0 = .ok (.iconst 0, 1) := by decide +kernel
theorem dX5_valueOf_1 : decode cX5_valueOf 1 = .ok (.istore 4, 2) := by decide +kernel
theorem dX5_valueOf_3 : decode cX5_valueOf 3 = .ok (.iload_n 1, 1) := by decide +kernel
theorem dX5_valueOf_4 : decode cX5_valueOf 4 = .ok (.istore 5, 2) := by decide +kernel
theorem dX5_valueOf_6 : decode cX5_valueOf 6 = .ok (.iload 5, 2) := by decide +kernel
theorem dX5_valueOf_8 : decode cX5_valueOf 8 = .ok (.iload_n 2, 1) := by decide +kernel
theorem dX5_valueOf_9 : decode cX5_valueOf 9 = .ok (.if_icmp .ge 114, 3) := by decide +kernel
theorem dX5_valueOf_12 : decode cX5_valueOf 12 = .ok (.aload_n 0, 1) := by decide +kernel
theorem dX5_valueOf_13 : decode cX5_valueOf 13 = .ok (.getfield 18, 3) := by decide +kernel
theorem dX5_valueOf_16 : decode cX5_valueOf 16 = .ok (.iload 5, 2) := by decide +kernel
theorem dX5_valueOf_18 : decode cX5_valueOf 18 = .ok (.iaload, 1) := by decide +kernel
theorem dX5_valueOf_19 : decode cX5_valueOf 19 = .ok (.istore 6, 2) := by decide +kernel
theorem dX5_valueOf_21 : decode cX5_valueOf 21 = .ok (.iload 6, 2) := by decide +kernel
theorem dX5_valueOf_23 : decode cX5_valueOf 23 = .ok (.sipush 10005, 3) := by decide +kernel
theorem dX5_valueOf_26 : decode cX5_valueOf 26 = .ok (.if_icmp .le 45, 3) := by decide +kernel
theorem dX5_valueOf_29 : decode cX5_valueOf 29 = .ok (.iload 4, 2) := by decide +kernel
theorem dX5_valueOf_31 : decode cX5_valueOf 31 = .ok (.iconst 2, 1) := by decide +kernel
theorem dX5_valueOf_32 : decode cX5_valueOf 32 = .ok (.if_icmp .lt 39, 3) := by decide +kernel
theorem dX5_valueOf_35 : decode cX5_valueOf 35 = .ok (.iinc 4 (-1), 3) := by decide +kernel
theorem dX5_valueOf_38 : decode cX5_valueOf 38 = .ok (.aload_n 0, 1) := by decide +kernel
theorem dX5_valueOf_39 : decode cX5_valueOf 39 = .ok (.getfield 21, 3) := by decide +kernel
theorem dX5_valueOf_42 : decode cX5_valueOf 42 = .ok (.iload 4, 2) := by decide +kernel
theorem dX5_valueOf_44 : decode cX5_valueOf 44 = .ok (.iconst 1, 1) := by decide +kernel
theorem dX5_valueOf_45 : decode cX5_valueOf 45 = .ok (.isub, 1) := by decide +kernel
theorem dX5_valueOf_46 : decode cX5_valueOf 46 = .ok (.iload 6, 2) := by decide +kernel
theorem dX5_valueOf_48 : decode cX5_valueOf 48 = .ok (.aload_n 0, 1) := by decide +kernel
theorem dX5_valueOf_49 : decode cX5_valueOf 49 = .ok (.getfield 21, 3) := by decide +kernel
theorem dX5_valueOf_52 : decode cX5_valueOf 52 = .ok (.iload 4, 2) := by decide +kernel
theorem dX5_valueOf_54 : decode cX5_valueOf 54 = .ok (.iconst 1, 1) := by decide +kernel
theorem dX5_valueOf_55 : decode cX5_valueOf 55 = .ok (.isub, 1) := by decide +kernel
theorem dX5_valueOf_56 : decode cX5_valueOf 56 = .ok (.iaload, 1) := by decide +kernel
theorem dX5_valueOf_57 : decode cX5_valueOf 57 = .ok (.aload_n 0, 1) := by decide +kernel
theorem dX5_valueOf_58 : decode cX5_valueOf 58 = .ok (.getfield 21, 3) := by decide +kernel
theorem dX5_valueOf_61 : decode cX5_valueOf 61 = .ok (.iload 4, 2) := by decide +kernel
theorem dX5_valueOf_63 : decode cX5_valueOf 63 = .ok (.iaload, 1) := by decide +kernel
theorem dX5_valueOf_64 : decode cX5_valueOf 64 = .ok (.invokestatic 37, 3) := by decide +kernel
theorem dX5_valueOf_67 : decode cX5_valueOf 67 = .ok (.iastore, 1) := by decide +kernel
theorem dX5_valueOf_68 : decode cX5_valueOf 68 = .ok (.goto 49, 3) := by decide +kernel
theorem dX5_valueOf_71 : decode cX5_valueOf 71 = .ok (.iload 6, 2) := by decide +kernel
theorem dX5_valueOf_73 : decode cX5_valueOf 73 = .ok (.sipush 10005, 3) := by decide +kernel
theorem dX5_valueOf_76 : decode cX5_valueOf 76 = .ok (.if_icmp .gt 41, 3) := by decide +kernel
theorem dX5_valueOf_79 : decode cX5_valueOf 79 = .ok (.iload 4, 2) := by decide +kernel
theorem dX5_valueOf_81 : decode cX5_valueOf 81 = .ok (.bipush 16, 2) := by decide +kernel
theorem dX5_valueOf_83 : decode cX5_valueOf 83 = .ok (.if_icmp .ge 34, 3) := by decide +kernel
theorem dX5_valueOf_86 : decode cX5_valueOf 86 = .ok (.aload_n 0, 1) := by decide +kernel
theorem dX5_valueOf_87 : decode cX5_valueOf 87 = .ok (.getfield 21, 3) := by decide +kernel
theorem dX5_valueOf_90 : decode cX5_valueOf 90 = .ok (.iload 4, 2) := by decide +kernel
theorem dX5_valueOf_92 : decode cX5_valueOf 92 = .ok (.iload 6, 2) := by decide +kernel
theorem dX5_valueOf_94 : decode cX5_valueOf 94 = .ok (.sipush 9999, 3) := by decide +kernel
theorem dX5_valueOf_97 : decode cX5_valueOf 97 = .ok (.if_icmp .gt 8, 3) := by decide +kernel
theorem dX5_valueOf_100 : decode cX5_valueOf 100 = .ok (.iload 6, 2) := by decide +kernel
theorem dX5_valueOf_102 : decode cX5_valueOf 102 = .ok (.goto 11, 3) := by decide +kernel
theorem dX5_valueOf_105 : decode cX5_valueOf 105 = .ok (.aload_n 3, 1) := by decide +kernel
theorem dX5_valueOf_106 : decode cX5_valueOf 106 = .ok (.iload 6, 2) := by decide +kernel
theorem dX5_valueOf_108 : decode cX5_valueOf 108 = .ok (.sipush 10000, 3) := by decide +kernel
theorem dX5_valueOf_111 : decode cX5_valueOf 111 = .ok (.isub, 1) := by decide +kernel
theorem dX5_valueOf_112 : decode cX5_valueOf 112 = .ok (.iaload, 1) := by decide +kernel
theorem dX5_valueOf_113 : decode cX5_valueOf 113 = .ok (.iastore, 1) := by decide +kernel
theorem dX5_valueOf_114 : decode cX5_valueOf 114 = .ok (.iinc 4 1, 3) := by decide +kernel
theorem dX5_valueOf_117 : decode cX5_valueOf 117 = .ok (.iinc 5 1, 3) := by decide +kernel
theorem dX5_valueOf_120 : decode cX5_valueOf 120 = .ok (.goto (-114), 3) := by decide +kernel
theorem dX5_valueOf_123 : decode cX5_valueOf 123 = .ok (.aload_n 0, 1) := by decide +kernel
theorem dX5_valueOf_124 : decode cX5_valueOf 124 = .ok (.getfield 21, 3) := by decide +kernel
theorem dX5_valueOf_127 : decode cX5_valueOf 127 = .ok (.iconst 0, 1) := by decide +kernel
theorem dX5_valueOf_128 : decode cX5_valueOf 128 = .ok (.iaload, 1) := by decide +kernel
theorem dX5_valueOf_129 : decode cX5_valueOf 129 = .ok (.ireturn, 1) := by decide +kernel
theorem dX5_joined_0 : decode cX5_joined 0 = .ok (.iload_n 0, 1) := by decide +kernel
theorem dX5_joined_1 : decode cX5_joined 1 = .ok (.tableswitch 61 10006 10009 #[31, 35, 39, 50], 31) := by decide +kernel
theorem dX5_joined_32 : decode cX5_joined 32 = .ok (.iload_n 1, 1) := by decide +kernel
theorem dX5_joined_33 : decode cX5_joined 33 = .ok (.iload_n 2, 1) := by decide +kernel
theorem dX5_joined_34 : decode cX5_joined 34 = .ok (.iadd, 1) := by decide +kernel
theorem dX5_joined_35 : decode cX5_joined 35 = .ok (.ireturn, 1) := by decide +kernel
theorem dX5_joined_36 : decode cX5_joined 36 = .ok (.iload_n 1, 1) := by decide +kernel
theorem dX5_joined_37 : decode cX5_joined 37 = .ok (.iload_n 2, 1) := by decide +kernel
theorem dX5_joined_38 : decode cX5_joined 38 = .ok (.isub, 1) := by decide +kernel
theorem dX5_joined_39 : decode cX5_joined 39 = .ok (.ireturn, 1) := by decide +kernel
theorem dX5_joined_40 : decode cX5_joined 40 = .ok (.iload_n 1, 1) := by decide +kernel
theorem dX5_joined_41 : decode cX5_joined 41 = .ok (.iload_n 2, 1) := by decide +kernel
theorem dX5_joined_42 : decode cX5_joined 42 = .ok (.if_icmp .ge 7, 3) := by decide +kernel
theorem dX5_joined_45 : decode cX5_joined 45 = .ok (.iconst 1, 1) := by decide +kernel
theorem dX5_joined_46 : decode cX5_joined 46 = .ok (.goto 4, 3) := by decide +kernel
theorem dX5_joined_49 : decode cX5_joined 49 = .ok (.iconst 0, 1) := by decide +kernel
theorem dX5_joined_50 : decode cX5_joined 50 = .ok (.ireturn, 1) := by decide +kernel
theorem dX5_joined_51 : decode cX5_joined 51 = .ok (.iload_n 1, 1) := by decide +kernel
theorem dX5_joined_52 : decode cX5_joined 52 = .ok (.iload_n 2, 1) := by decide +kernel
theorem dX5_joined_53 : decode cX5_joined 53 = .ok (.if_icmp .ne 7, 3) := by decide +kernel
theorem dX5_joined_56 : decode cX5_joined 56 = .ok (.iconst 1, 1) := by decide +kernel
theorem dX5_joined_57 : decode cX5_joined 57 = .ok (.goto 4, 3) := by decide +kernel
theorem dX5_joined_60 : decode cX5_joined 60 = .ok (.iconst 0, 1) := by decide +kernel
theorem dX5_joined_61 : decode cX5_joined 61 = .ok (.ireturn, 1) := by decide +kernel
theorem dX5_joined_62 : decode cX5_joined 62 = .ok (.iload_n 1, 1) := by decide +kernel
theorem dX5_joined_63 : decode cX5_joined 63 = .ok (.ifCond .eq 11, 3) := by decide +kernel
theorem dX5_joined_66 : decode cX5_joined 66 = .ok (.iload_n 2, 1) := by decide +kernel
theorem dX5_joined_67 : decode cX5_joined 67 = .ok (.ifCond .eq 7, 3) := by decide +kernel
theorem dX5_joined_70 : decode cX5_joined 70 = .ok (.iconst 1, 1) := by decide +kernel
theorem dX5_joined_71 : decode cX5_joined 71 = .ok (.goto 4, 3) := by decide +kernel
theorem dX5_joined_74 : decode cX5_joined 74 = .ok (.iconst 0, 1) := by decide +kernel
theorem dX5_joined_75 : decode cX5_joined 75 = .ok (.ireturn, 1) := by decide +kernel
theorem dX6_init_0 : decode cX6_init 0 = .ok (.aload_n 0, 1) := by decide +kernel
theorem dX6_init_1 : decode cX6_init 1 = .ok (.invokespecial 3, 3) := by decide +kernel
theorem dX6_init_4 : decode cX6_init 4 = .ok (.aload_n 0, 1) := by decide +kernel
theorem dX6_init_5 : decode cX6_init 5 = .ok (.sipush 601, 3) := by decide +kernel
theorem dX6_init_8 : decode cX6_init 8 = .ok (.newarray .int, 2) := by decide +kernel
theorem dX6_init_10 : decode cX6_init 10 = .ok (.putfield 11, 3) := by decide +kernel
theorem dX6_init_13 : decode cX6_init 13 = .ok (.aload_n 0, 1) := by decide +kernel
theorem dX6_init_14 : decode cX6_init 14 = .ok (.sipush 601, 3) := by decide +kernel
theorem dX6_init_17 : decode cX6_init 17 = .ok (.newarray .int, 2) := by decide +kernel
theorem dX6_init_19 : decode cX6_init 19 = .ok (.putfield 15, 3) := by decide +kernel
theorem dX6_init_22 : decode cX6_init 22 = .ok (.return_, 1) := by decide +kernel
set_option maxRecDepth 20000 in
theorem ggX6_read_X5_clear : GoodIn wsX6_read wsX5_clear := goodIn_r _ [12, 13, 14, 162, 163, 164, 165, 166, 167] (by decide +kernel) (by decide +kernel)
set_option maxRecDepth 20000 in
theorem gX6_read_X5_clear : GoodIn wsX6_read (wsV RX6 32 RX5 yX5_clear wsX5_clear) := goodIn_app (goodIn_of _ (by decide +kernel)) ggX6_read_X5_clear
set_option maxRecDepth 20000 in
theorem ggX6_read_X6_scan : GoodIn wsX6_read wsX6_scan := goodIn_r _ [19, 20, 4, 2, 21, 22, 18, 23, 24, 25, 26, 27, 28, 29, 30, 31, 32, 33, 34, 35, 36, 37, 38, 39, 40, 41, 42, 43, 44, 45, 46, 47, 48, 49, 50, 51, 52, 53, 54, 55, 56, 57, 58, 59, 60, 61, 62, 63, 64, 65, 66, 67, 68, 69, 70, 71, 72, 73, 74, 75, 76, 77, 78, 79, 80, 81, 82, 83, 84, 85, 86, 87, 88, 89, 90, 91, 92, 93, 94, 95, 96, 97, 98, 99, 100, 101, 102, 103, 104, 105, 106, 107, 154, 155, 156, 157, 158, 159, 160, 161] (by decide +kernel) (by decide +kernel)
set_option maxRecDepth 20000 in
theorem gX6_read_X6_scan : GoodIn wsX6_read (wsV RX6 37 RX6 yX6_scan wsX6_scan) := goodIn_app (goodIn_of _ (by decide +kernel)) ggX6_read_X6_scan
set_option maxRecDepth 20000 in
theorem ggX6_read_X6_peek : GoodIn wsX6_read wsX6_peek := goodIn_r _ [111, 6, 20, 106, 154, 155, 156, 157, 158, 159, 160, 161] (by decide +kernel) (by decide +kernel)
set_option maxRecDepth 20000 in
theorem gX6_read_X6_peek : GoodIn wsX6_read (wsV RX6 46 RX6 yX6_peek wsX6_peek) := goodIn_app (goodIn_of _ (by decide +kernel)) ggX6_read_X6_peek
set_option maxRecDepth 20000 in
theorem ggX6_read_X6_readLine : GoodIn wsX6_read wsX6_readLine := goodIn_r _ [115, 5, 116, 7, 6, 108, 109, 110, 18, 111, 20, 106, 117, 118, 119, 120, 121, 122, 123, 124, 125, 126, 127, 128, 129, 130, 11, 131, 14, 132, 133, 134, 135, 136, 137, 138, 139, 140, 141, 142, 143, 144, 145, 13, 146, 147, 154, 155, 156, 157, 158, 159, 160, 161, 162, 163, 164, 165, 166, 167] (by decide +kernel) (by decide +kernel)
set_option maxRecDepth 20000 in
theorem gX6_read_X6_readLine : GoodIn wsX6_read (wsV RX6 52 RX6 yX6_readLine wsX6_readLine) := goodIn_app (goodIn_of _ (by decide +kernel)) ggX6_read_X6_readLine
set_option maxRecDepth 20000 in
theorem ggX6_read_X6_placeOfNext : GoodIn wsX6_read wsX6_placeOfNext := goodIn_r _ [151, 6, 20, 107, 4, 154, 155, 156, 157, 158, 159, 160, 161] (by decide +kernel) (by decide +kernel)
set_option maxRecDepth 20000 in
theorem gX6_read_X6_placeOfNext : GoodIn wsX6_read (wsV RX6 56 RX6 yX6_placeOfNext wsX6_placeOfNext) := goodIn_app (goodIn_of _ (by decide +kernel)) ggX6_read_X6_placeOfNext
theorem dX6_read_0 : decode cX6_read 0 = .ok (.aload_n 0, 1) := by decide +kernel
theorem dX6_read_1 : decode cX6_read 1 = .ok (.aload_n 1, 1) := by decide +kernel
theorem dX6_read_2 : decode cX6_read 2 = .ok (.getfield 18, 3) := by decide +kernel
theorem dX6_read_5 : decode cX6_read 5 = .ok (.putfield 22, 3) := by decide +kernel
theorem dX6_read_8 : decode cX6_read 8 = .ok (.aload_n 0, 1) := by decide +kernel
theorem dX6_read_9 : decode cX6_read 9 = .ok (.aload_n 1, 1) := by decide +kernel
theorem dX6_read_10 : decode cX6_read 10 = .ok (.getfield 23, 3) := by decide +kernel
theorem dX6_read_13 : decode cX6_read 13 = .ok (.putfield 27, 3) := by decide +kernel
theorem dX6_read_16 : decode cX6_read 16 = .ok (.aload_n 0, 1) := by decide +kernel
theorem dX6_read_17 : decode cX6_read 17 = .ok (.aload_n 2, 1) := by decide +kernel
theorem dX6_read_18 : decode cX6_read 18 = .ok (.putfield 28, 3) := by decide +kernel
theorem dX6_read_21 : decode cX6_read 21 = .ok (.aload_n 0, 1) := by decide +kernel
theorem dX6_read_22 : decode cX6_read 22 = .ok (.getfield 28, 3) := by decide +kernel
theorem dX6_read_25 : decode cX6_read 25 = .ok (.invokevirtual 32, 3) := by decide +kernel
theorem dX6_read_28 : decode cX6_read 28 = .ok (.aload_n 0, 1) := by decide +kernel
theorem dX6_read_29 : decode cX6_read 29 = .ok (.invokevirtual 37, 3) := by decide +kernel
theorem dX6_read_32 : decode cX6_read 32 = .ok (.aload_n 0, 1) := by decide +kernel
theorem dX6_read_33 : decode cX6_read 33 = .ok (.iconst 0, 1) := by decide +kernel
theorem dX6_read_34 : decode cX6_read 34 = .ok (.putfield 40, 3) := by decide +kernel
theorem dX6_read_37 : decode cX6_read 37 = .ok (.aload_n 0, 1) := by decide +kernel
theorem dX6_read_38 : decode cX6_read 38 = .ok (.iconst 1, 1) := by decide +kernel
theorem dX6_read_39 : decode cX6_read 39 = .ok (.putfield 43, 3) := by decide +kernel
theorem dX6_read_42 : decode cX6_read 42 = .ok (.iconst 0, 1) := by decide +kernel
theorem dX6_read_43 : decode cX6_read 43 = .ok (.istore_n 3, 1) := by decide +kernel
theorem dX6_read_44 : decode cX6_read 44 = .ok (.iload_n 3, 1) := by decide +kernel
theorem dX6_read_45 : decode cX6_read 45 = .ok (.bipush 16, 2) := by decide +kernel
theorem dX6_read_47 : decode cX6_read 47 = .ok (.if_icmp .gt 39, 3) := by decide +kernel
theorem dX6_read_50 : decode cX6_read 50 = .ok (.aload_n 0, 1) := by decide +kernel
theorem dX6_read_51 : decode cX6_read 51 = .ok (.invokevirtual 46, 3) := by decide +kernel
theorem dX6_read_54 : decode cX6_read 54 = .ok (.sipush 10016, 3) := by decide +kernel
theorem dX6_read_57 : decode cX6_read 57 = .ok (.if_icmp .eq 29, 3) := by decide +kernel
theorem dX6_read_60 : decode cX6_read 60 = .ok (.aload_n 0, 1) := by decide +kernel
theorem dX6_read_61 : decode cX6_read 61 = .ok (.invokevirtual 52, 3) := by decide +kernel
theorem dX6_read_64 : decode cX6_read 64 = .ok (.ifCond .ne 16, 3) := by decide +kernel
theorem dX6_read_67 : decode cX6_read 67 = .ok (.aload_n 0, 1) := by decide +kernel
theorem dX6_read_68 : decode cX6_read 68 = .ok (.getfield 43, 3) := by decide +kernel
theorem dX6_read_71 : decode cX6_read 71 = .ok (.bipush 16, 2) := by decide +kernel
theorem dX6_read_73 : decode cX6_read 73 = .ok (.aload_n 0, 1) := by decide +kernel
theorem dX6_read_74 : decode cX6_read 74 = .ok (.invokevirtual 56, 3) := by decide +kernel
theorem dX6_read_77 : decode cX6_read 77 = .ok (.imul, 1) := by decide +kernel
theorem dX6_read_78 : decode cX6_read 78 = .ok (.iadd, 1) := by decide +kernel
theorem dX6_read_79 : decode cX6_read 79 = .ok (.ireturn, 1) := by decide +kernel
theorem dX6_read_80 : decode cX6_read 80 = .ok (.iinc 3 1, 3) := by decide +kernel
theorem dX6_read_83 : decode cX6_read 83 = .ok (.goto (-39), 3) := by decide +kernel
theorem dX6_read_86 : decode cX6_read 86 = .ok (.iconst 0, 1) := by decide +kernel
theorem dX6_read_87 : decode cX6_read 87 = .ok (.ireturn, 1) := by decide +kernel
theorem dX6_placeOfNext_0 : decode cX6_placeOfNext 0 = .ok (.aload_n 0, 1) := by decide +kernel
theorem dX6_placeOfNext_1 : decode cX6_placeOfNext 1 = .ok (.getfield 40, 3) := by decide +kernel
theorem dX6_placeOfNext_4 : decode cX6_placeOfNext 4 = .ok (.aload_n 0, 1) := by decide +kernel
theorem dX6_placeOfNext_5 : decode cX6_placeOfNext 5 = .ok (.getfield 59, 3) := by decide +kernel
theorem dX6_placeOfNext_8 : decode cX6_placeOfNext 8 = .ok (.if_icmp .ge 15, 3) := by decide +kernel
theorem dX6_placeOfNext_11 : decode cX6_placeOfNext 11 = .ok (.aload_n 0, 1) := by decide +kernel
theorem dX6_placeOfNext_12 : decode cX6_placeOfNext 12 = .ok (.getfield 15, 3) := by decide +kernel
theorem dX6_placeOfNext_15 : decode cX6_placeOfNext 15 = .ok (.aload_n 0, 1) := by decide +kernel
theorem dX6_placeOfNext_16 : decode cX6_placeOfNext 16 = .ok (.getfield 40, 3) := by decide +kernel
theorem dX6_placeOfNext_19 : decode cX6_placeOfNext 19 = .ok (.iaload, 1) := by decide +kernel
theorem dX6_placeOfNext_20 : decode cX6_placeOfNext 20 = .ok (.goto 7, 3) := by decide +kernel
theorem dX6_placeOfNext_23 : decode cX6_placeOfNext 23 = .ok (.aload_n 0, 1) := by decide +kernel
theorem dX6_placeOfNext_24 : decode cX6_placeOfNext 24 = .ok (.getfield 27, 3) := by decide +kernel
theorem dX6_placeOfNext_27 : decode cX6_placeOfNext 27 = .ok (.ireturn, 1) := by decide +kernel
theorem dX6_peek_0 : decode cX6_peek 0 = .ok (.aload_n 0, 1) := by decide +kernel
theorem dX6_peek_1 : decode cX6_peek 1 = .ok (.getfield 40, 3) := by decide +kernel
theorem dX6_peek_4 : decode cX6_peek 4 = .ok (.aload_n 0, 1) := by decide +kernel
theorem dX6_peek_5 : decode cX6_peek 5 = .ok (.getfield 59, 3) := by decide +kernel
theorem dX6_peek_8 : decode cX6_peek 8 = .ok (.if_icmp .ge 15, 3) := by decide +kernel
theorem dX6_peek_11 : decode cX6_peek 11 = .ok (.aload_n 0, 1) := by decide +kernel
theorem dX6_peek_12 : decode cX6_peek 12 = .ok (.getfield 11, 3) := by decide +kernel
theorem dX6_peek_15 : decode cX6_peek 15 = .ok (.aload_n 0, 1) := by decide +kernel
theorem dX6_peek_16 : decode cX6_peek 16 = .ok (.getfield 40, 3) := by decide +kernel
theorem dX6_peek_19 : decode cX6_peek 19 = .ok (.iaload, 1) := by decide +kernel
theorem dX6_peek_20 : decode cX6_peek 20 = .ok (.goto 6, 3) := by decide +kernel
theorem dX6_peek_23 : decode cX6_peek 23 = .ok (.sipush 10017, 3) := by decide +kernel
theorem dX6_peek_26 : decode cX6_peek 26 = .ok (.ireturn, 1) := by decide +kernel
theorem dX6_take_0 : decode cX6_take 0 = .ok (.aload_n 0, 1) := by decide +kernel
theorem dX6_take_1 : decode cX6_take 1 = .ok (.getfield 40, 3) := by decide +kernel
theorem dX6_take_4 : decode cX6_take 4 = .ok (.aload_n 0, 1) := by decide +kernel
theorem dX6_take_5 : decode cX6_take 5 = .ok (.getfield 59, 3) := by decide +kernel
theorem dX6_take_8 : decode cX6_take 8 = .ok (.if_icmp .ge 16, 3) := by decide +kernel
theorem dX6_take_11 : decode cX6_take 11 = .ok (.aload_n 0, 1) := by decide +kernel
theorem dX6_take_12 : decode cX6_take 12 = .ok (.getfield 11, 3) := by decide +kernel
theorem dX6_take_15 : decode cX6_take 15 = .ok (.aload_n 0, 1) := by decide +kernel
theorem dX6_take_16 : decode cX6_take 16 = .ok (.getfield 40, 3) := by decide +kernel
theorem dX6_take_19 : decode cX6_take 19 = .ok (.iaload, 1) := by decide +kernel
theorem dX6_take_20 : decode cX6_take 20 = .ok (.iload_n 1, 1) := by decide +kernel
theorem dX6_take_21 : decode cX6_take 21 = .ok (.if_icmp .eq 5, 3) := by decide +kernel
theorem dX6_take_24 : decode cX6_take 24 = .ok (.iconst 0, 1) := by decide +kernel
theorem dX6_take_25 : decode cX6_take 25 = .ok (.ireturn, 1) := by decide +kernel
theorem dX6_take_26 : decode cX6_take 26 = .ok (.aload_n 0, 1) := by decide +kernel
theorem dX6_take_27 : decode cX6_take 27 = .ok (.dup, 1) := by decide +kernel
theorem dX6_take_28 : decode cX6_take 28 = .ok (.getfield 40, 3) := by decide +kernel
theorem dX6_take_31 : decode cX6_take 31 = .ok (.iconst 1, 1) := by decide +kernel
theorem dX6_take_32 : decode cX6_take 32 = .ok (.iadd, 1) := by decide +kernel
theorem dX6_take_33 : decode cX6_take 33 = .ok (.putfield 40, 3) := by decide +kernel
theorem dX6_take_36 : decode cX6_take 36 = .ok (.iconst 1, 1) := by decide +kernel
theorem dX6_take_37 : decode cX6_take 37 = .ok (.ireturn, 1) := by decide +kernel
set_option maxRecDepth 20000 in
theorem ggX6_readLine_X6_peek : GoodIn wsX6_readLine wsX6_peek := goodIn_r _ [9, 4, 10, 11, 46, 47, 48, 49, 50, 51, 52, 53] (by decide +kernel) (by decide +kernel)
set_option maxRecDepth 20000 in
theorem gX6_readLine_X6_peek : GoodIn wsX6_readLine (wsV RX6 46 RX6 yX6_peek wsX6_peek) := goodIn_app (goodIn_of _ (by decide +kernel)) ggX6_readLine_X6_peek
set_option maxRecDepth 20000 in
theorem ggX6_readLine_X6_take : GoodIn wsX6_readLine wsX6_take := goodIn_r _ [15, 4, 10, 11, 46, 47, 48, 49, 50, 51, 52, 53] (by decide +kernel) (by decide +kernel)
set_option maxRecDepth 20000 in
theorem gX6_readLine_X6_take : GoodIn wsX6_readLine (wsV RX6 65 RX6 yX6_take wsX6_take) := goodIn_app (goodIn_of _ (by decide +kernel)) ggX6_readLine_X6_take
set_option maxRecDepth 20000 in
theorem ggX6_readLine_X6_readCondition : GoodIn wsX6_readLine wsX6_readCondition := goodIn_r _ [19, 1, 20, 21, 22, 8, 12, 13, 14, 15, 4, 10, 11, 23, 24, 25, 26, 27, 28, 29, 30, 3, 5, 6, 7, 9, 16, 17, 18, 31, 32, 33, 34, 35, 36, 37, 38, 46, 47, 48, 49, 50, 51, 52, 53, 54, 55, 56, 57, 58, 59] (by decide +kernel) (by decide +kernel)
set_option maxRecDepth 20000 in
theorem gX6_readLine_X6_readCondition : GoodIn wsX6_readLine (wsV RX6 69 RX6 yX6_readCondition wsX6_readCondition) := goodIn_app (goodIn_of _ (by decide +kernel)) ggX6_readLine_X6_readCondition
set_option maxRecDepth 20000 in
theorem ggX6_readLine_X5_addLine : GoodIn wsX6_readLine wsX5_addLine := goodIn_r _ [42, 43, 44, 45, 28, 54, 55, 56, 57, 58, 59] (by decide +kernel) (by decide +kernel)
set_option maxRecDepth 20000 in
theorem gX6_readLine_X5_addLine : GoodIn wsX6_readLine (wsV RX6 72 RX5 yX5_addLine wsX5_addLine) := goodIn_app (goodIn_of _ (by decide +kernel)) ggX6_readLine_X5_addLine
theorem dX6_readLine_0 : decode cX6_readLine 0 = .ok (.aload_n 0, 1) := by decide +kernel
theorem dX6_readLine_1 : decode cX6_readLine 1 = .ok (.invokevirtual 46, 3) := by decide +kernel
theorem dX6_readLine_4 : decode cX6_readLine 4 = .ok (.sipush 10011, 3) := by decide +kernel
theorem dX6_readLine_7 : decode cX6_readLine 7 = .ok (.if_icmp .ne 22, 3) := by decide +kernel
theorem dX6_readLine_10 : decode cX6_readLine 10 = .ok (.aload_n 0, 1) := by decide +kernel
theorem dX6_readLine_11 : decode cX6_readLine 11 = .ok (.getfield 28, 3) := by decide +kernel
theorem dX6_readLine_14 : decode cX6_readLine 14 = .ok (.getfield 62, 3) := by decide +kernel
theorem dX6_readLine_17 : decode cX6_readLine 17 = .ok (.bipush 16, 2) := by decide +kernel
theorem dX6_readLine_19 : decode cX6_readLine 19 = .ok (.if_icmp .lt 10, 3) := by decide +kernel
theorem dX6_readLine_22 : decode cX6_readLine 22 = .ok (.aload_n 0, 1) := by decide +kernel
theorem dX6_readLine_23 : decode cX6_readLine 23 = .ok (.iconst 5, 1) := by decide +kernel
theorem dX6_readLine_24 : decode cX6_readLine 24 = .ok (.putfield 43, 3) := by decide +kernel
theorem dX6_readLine_27 : decode cX6_readLine 27 = .ok (.iconst 0, 1) := by decide +kernel
theorem dX6_readLine_28 : decode cX6_readLine 28 = .ok (.ireturn, 1) := by decide +kernel
theorem dX6_readLine_29 : decode cX6_readLine 29 = .ok (.aload_n 0, 1) := by decide +kernel
theorem dX6_readLine_30 : decode cX6_readLine 30 = .ok (.sipush 10011, 3) := by decide +kernel
theorem dX6_readLine_33 : decode cX6_readLine 33 = .ok (.invokevirtual 65, 3) := by decide +kernel
theorem dX6_readLine_36 : decode cX6_readLine 36 = .ok (.ifCond .ne 5, 3) := by decide +kernel
theorem dX6_readLine_39 : decode cX6_readLine 39 = .ok (.iconst 0, 1) := by decide +kernel
theorem dX6_readLine_40 : decode cX6_readLine 40 = .ok (.ireturn, 1) := by decide +kernel
theorem dX6_readLine_41 : decode cX6_readLine 41 = .ok (.aload_n 0, 1) := by decide +kernel
theorem dX6_readLine_42 : decode cX6_readLine 42 = .ok (.invokevirtual 46, 3) := by decide +kernel
theorem dX6_readLine_45 : decode cX6_readLine 45 = .ok (.istore_n 1, 1) := by decide +kernel
theorem dX6_readLine_46 : decode cX6_readLine 46 = .ok (.iload_n 1, 1) := by decide +kernel
theorem dX6_readLine_47 : decode cX6_readLine 47 = .ok (.bipush 99, 2) := by decide +kernel
theorem dX6_readLine_49 : decode cX6_readLine 49 = .ok (.if_icmp .le 21, 3) := by decide +kernel
theorem dX6_readLine_52 : decode cX6_readLine 52 = .ok (.aload_n 0, 1) := by decide +kernel
theorem dX6_readLine_53 : decode cX6_readLine 53 = .ok (.iload_n 1, 1) := by decide +kernel
theorem dX6_readLine_54 : decode cX6_readLine 54 = .ok (.sipush 9999, 3) := by decide +kernel
theorem dX6_readLine_57 : decode cX6_readLine 57 = .ok (.if_icmp .gt 7, 3) := by decide +kernel
theorem dX6_readLine_60 : decode cX6_readLine 60 = .ok (.iconst 4, 1) := by decide +kernel
theorem dX6_readLine_61 : decode cX6_readLine 61 = .ok (.goto 4, 3) := by decide +kernel
theorem dX6_readLine_64 : decode cX6_readLine 64 = .ok (.iconst 1, 1) := by decide +kernel
theorem dX6_readLine_65 : decode cX6_readLine 65 = .ok (.putfield 43, 3) := by decide +kernel
theorem dX6_readLine_68 : decode cX6_readLine 68 = .ok (.iconst 0, 1) := by decide +kernel
theorem dX6_readLine_69 : decode cX6_readLine 69 = .ok (.ireturn, 1) := by decide +kernel
theorem dX6_readLine_70 : decode cX6_readLine 70 = .ok (.aload_n 0, 1) := by decide +kernel
theorem dX6_readLine_71 : decode cX6_readLine 71 = .ok (.dup, 1) := by decide +kernel
theorem dX6_readLine_72 : decode cX6_readLine 72 = .ok (.getfield 40, 3) := by decide +kernel
theorem dX6_readLine_75 : decode cX6_readLine 75 = .ok (.iconst 1, 1) := by decide +kernel
theorem dX6_readLine_76 : decode cX6_readLine 76 = .ok (.iadd, 1) := by decide +kernel
theorem dX6_readLine_77 : decode cX6_readLine 77 = .ok (.putfield 40, 3) := by decide +kernel
theorem dX6_readLine_80 : decode cX6_readLine 80 = .ok (.aload_n 0, 1) := by decide +kernel
theorem dX6_readLine_81 : decode cX6_readLine 81 = .ok (.sipush 10012, 3) := by decide +kernel
theorem dX6_readLine_84 : decode cX6_readLine 84 = .ok (.invokevirtual 65, 3) := by decide +kernel
theorem dX6_readLine_87 : decode cX6_readLine 87 = .ok (.ifCond .eq 21, 3) := by decide +kernel
theorem dX6_readLine_90 : decode cX6_readLine 90 = .ok (.aload_n 0, 1) := by decide +kernel
theorem dX6_readLine_91 : decode cX6_readLine 91 = .ok (.iconst 0, 1) := by decide +kernel
theorem dX6_readLine_92 : decode cX6_readLine 92 = .ok (.invokevirtual 69, 3) := by decide +kernel
theorem dX6_readLine_95 : decode cX6_readLine 95 = .ok (.ifCond .eq 13, 3) := by decide +kernel
theorem dX6_readLine_98 : decode cX6_readLine 98 = .ok (.aload_n 0, 1) := by decide +kernel
theorem dX6_readLine_99 : decode cX6_readLine 99 = .ok (.sipush 10015, 3) := by decide +kernel
theorem dX6_readLine_102 : decode cX6_readLine 102 = .ok (.invokevirtual 65, 3) := by decide +kernel
theorem dX6_readLine_105 : decode cX6_readLine 105 = .ok (.ifCond .ne 5, 3) := by decide +kernel
theorem dX6_readLine_108 : decode cX6_readLine 108 = .ok (.iconst 0, 1) := by decide +kernel
theorem dX6_readLine_109 : decode cX6_readLine 109 = .ok (.ireturn, 1) := by decide +kernel
theorem dX6_readLine_110 : decode cX6_readLine 110 = .ok (.aload_n 0, 1) := by decide +kernel
theorem dX6_readLine_111 : decode cX6_readLine 111 = .ok (.getfield 28, 3) := by decide +kernel
theorem dX6_readLine_114 : decode cX6_readLine 114 = .ok (.iload_n 1, 1) := by decide +kernel
theorem dX6_readLine_115 : decode cX6_readLine 115 = .ok (.invokevirtual 72, 3) := by decide +kernel
theorem dX6_readLine_118 : decode cX6_readLine 118 = .ok (.iconst 1, 1) := by decide +kernel
theorem dX6_readLine_119 : decode cX6_readLine 119 = .ok (.ireturn, 1) := by decide +kernel
set_option maxRecDepth 20000 in
theorem ggX6_readCondition_X6_readTest : GoodIn wsX6_readCondition wsX6_readTest := goodIn_r _ [33, 10, 1, 34, 35, 36, 5, 22, 23, 24, 25, 11, 12, 13, 14, 15, 16, 17, 18, 19, 0, 2, 3, 4, 6, 7, 8, 9, 20, 21, 26, 27, 28, 29, 30, 31, 32, 37, 38, 39, 40, 41, 42, 43, 44, 45, 46, 47, 48, 49, 50] (by decide +kernel) (by decide +kernel)
set_option maxRecDepth 20000 in
theorem gX6_readCondition_X6_readTest : GoodIn wsX6_readCondition (wsV RX6 76 RX6 yX6_readTest wsX6_readTest) := goodIn_app (goodIn_of _ (by decide +kernel)) ggX6_readCondition_X6_readTest
set_option maxRecDepth 20000 in
theorem ggX6_readCondition_X6_take : GoodIn wsX6_readCondition wsX6_take := goodIn_r _ [9, 10, 11, 12, 37, 38, 39, 40, 41, 42, 43, 44] (by decide +kernel) (by decide +kernel)
set_option maxRecDepth 20000 in
theorem gX6_readCondition_X6_take : GoodIn wsX6_readCondition (wsV RX6 65 RX6 yX6_take wsX6_take) := goodIn_app (goodIn_of _ (by decide +kernel)) ggX6_readCondition_X6_take
set_option maxRecDepth 20000 in
theorem ggX6_readCondition_X5_addCode : GoodIn wsX6_readCondition wsX5_addCode := goodIn_r _ [17, 18, 19, 45, 46, 47, 48, 49, 50] (by decide +kernel) (by decide +kernel)
set_option maxRecDepth 20000 in
theorem gX6_readCondition_X5_addCode : GoodIn wsX6_readCondition (wsV RX6 79 RX5 yX5_addCode wsX5_addCode) := goodIn_app (goodIn_of _ (by decide +kernel)) ggX6_readCondition_X5_addCode
theorem dX6_readCondition_0 : decode cX6_readCondition 0 = .ok (.aload_n 0, 1) := by decide +kernel
theorem dX6_readCondition_1 : decode cX6_readCondition 1 = .ok (.iload_n 1, 1) := by decide +kernel
theorem dX6_readCondition_2 : decode cX6_readCondition 2 = .ok (.invokevirtual 76, 3) := by decide +kernel
theorem dX6_readCondition_5 : decode cX6_readCondition 5 = .ok (.ifCond .ne 5, 3) := by decide +kernel
theorem dX6_readCondition_8 : decode cX6_readCondition 8 = .ok (.iconst 0, 1) := by decide +kernel
theorem dX6_readCondition_9 : decode cX6_readCondition 9 = .ok (.ireturn, 1) := by decide +kernel
theorem dX6_readCondition_10 : decode cX6_readCondition 10 = .ok (.iconst 0, 1) := by decide +kernel
theorem dX6_readCondition_11 : decode cX6_readCondition 11 = .ok (.istore_n 2, 1) := by decide +kernel
theorem dX6_readCondition_12 : decode cX6_readCondition 12 = .ok (.iload_n 2, 1) := by decide +kernel
theorem dX6_readCondition_13 : decode cX6_readCondition 13 = .ok (.sipush 601, 3) := by decide +kernel
theorem dX6_readCondition_16 : decode cX6_readCondition 16 = .ok (.if_icmp .ge 39, 3) := by decide +kernel
theorem dX6_readCondition_19 : decode cX6_readCondition 19 = .ok (.aload_n 0, 1) := by decide +kernel
theorem dX6_readCondition_20 : decode cX6_readCondition 20 = .ok (.sipush 10010, 3) := by decide +kernel
theorem dX6_readCondition_23 : decode cX6_readCondition 23 = .ok (.invokevirtual 65, 3) := by decide +kernel
theorem dX6_readCondition_26 : decode cX6_readCondition 26 = .ok (.ifCond .eq 29, 3) := by decide +kernel
theorem dX6_readCondition_29 : decode cX6_readCondition 29 = .ok (.aload_n 0, 1) := by decide +kernel
theorem dX6_readCondition_30 : decode cX6_readCondition 30 = .ok (.iload_n 1, 1) := by decide +kernel
theorem dX6_readCondition_31 : decode cX6_readCondition 31 = .ok (.invokevirtual 76, 3) := by decide +kernel
theorem dX6_readCondition_34 : decode cX6_readCondition 34 = .ok (.ifCond .ne 5, 3) := by decide +kernel
theorem dX6_readCondition_37 : decode cX6_readCondition 37 = .ok (.iconst 0, 1) := by decide +kernel
theorem dX6_readCondition_38 : decode cX6_readCondition 38 = .ok (.ireturn, 1) := by decide +kernel
theorem dX6_readCondition_39 : decode cX6_readCondition 39 = .ok (.aload_n 0, 1) := by decide +kernel
theorem dX6_readCondition_40 : decode cX6_readCondition 40 = .ok (.getfield 28, 3) := by decide +kernel
theorem dX6_readCondition_43 : decode cX6_readCondition 43 = .ok (.sipush 10010, 3) := by decide +kernel
theorem dX6_readCondition_46 : decode cX6_readCondition 46 = .ok (.invokevirtual 79, 3) := by decide +kernel
theorem dX6_readCondition_49 : decode cX6_readCondition 49 = .ok (.iinc 2 1, 3) := by decide +kernel
theorem dX6_readCondition_52 : decode cX6_readCondition 52 = .ok (.goto (-40), 3) := by decide +kernel
theorem dX6_readCondition_55 : decode cX6_readCondition 55 = .ok (.iconst 1, 1) := by decide +kernel
theorem dX6_readCondition_56 : decode cX6_readCondition 56 = .ok (.ireturn, 1) := by decide +kernel
set_option maxRecDepth 20000 in
theorem ggX6_readTest_X6_readSum : GoodIn wsX6_readTest wsX6_readSum := goodIn_r _ [33, 1, 2, 34, 35, 36, 6, 7, 8, 9, 10, 11, 12, 13, 14, 15, 16, 17, 18, 19, 20, 21, 22, 23, 24, 25, 26, 27, 28, 29, 30, 31, 32, 0, 3, 4, 5, 37, 38, 39, 40, 41, 42, 43, 44, 45, 46, 47, 48, 49, 50] (by decide +kernel) (by decide +kernel)
set_option maxRecDepth 20000 in
theorem gX6_readTest_X6_readSum : GoodIn wsX6_readTest (wsV RX6 82 RX6 yX6_readSum wsX6_readSum) := goodIn_app (goodIn_of _ (by decide +kernel)) ggX6_readTest_X6_readSum
set_option maxRecDepth 20000 in
theorem ggX6_readTest_X6_peek : GoodIn wsX6_readTest wsX6_peek := goodIn_r _ [10, 1, 11, 12, 37, 38, 39, 40, 41, 42, 43, 44] (by decide +kernel) (by decide +kernel)
set_option maxRecDepth 20000 in
theorem gX6_readTest_X6_peek : GoodIn wsX6_readTest (wsV RX6 46 RX6 yX6_peek wsX6_peek) := goodIn_app (goodIn_of _ (by decide +kernel)) ggX6_readTest_X6_peek
set_option maxRecDepth 20000 in
theorem ggX6_readTest_X5_addCode : GoodIn wsX6_readTest wsX5_addCode := goodIn_r _ [17, 18, 19, 45, 46, 47, 48, 49, 50] (by decide +kernel) (by decide +kernel)
set_option maxRecDepth 20000 in
theorem gX6_readTest_X5_addCode : GoodIn wsX6_readTest (wsV RX6 79 RX5 yX5_addCode wsX5_addCode) := goodIn_app (goodIn_of _ (by decide +kernel)) ggX6_readTest_X5_addCode
theorem dX6_readTest_0 : decode cX6_readTest 0 = .ok (.aload_n 0, 1) := by decide +kernel
theorem dX6_readTest_1 : decode cX6_readTest 1 = .ok (.iload_n 1, 1) := by decide +kernel
theorem dX6_readTest_2 : decode cX6_readTest 2 = .ok (.invokevirtual 82, 3) := by decide +kernel
theorem dX6_readTest_5 : decode cX6_readTest 5 = .ok (.ifCond .ne 5, 3) := by decide +kernel
theorem dX6_readTest_8 : decode cX6_readTest 8 = .ok (.iconst 0, 1) := by decide +kernel
theorem dX6_readTest_9 : decode cX6_readTest 9 = .ok (.ireturn, 1) := by decide +kernel
theorem dX6_readTest_10 : decode cX6_readTest 10 = .ok (.aload_n 0, 1) := by decide +kernel
theorem dX6_readTest_11 : decode cX6_readTest 11 = .ok (.invokevirtual 46, 3) := by decide +kernel
theorem dX6_readTest_14 : decode cX6_readTest 14 = .ok (.istore_n 2, 1) := by decide +kernel
theorem dX6_readTest_15 : decode cX6_readTest 15 = .ok (.iload_n 2, 1) := by decide +kernel
theorem dX6_readTest_16 : decode cX6_readTest 16 = .ok (.sipush 10008, 3) := by decide +kernel
theorem dX6_readTest_19 : decode cX6_readTest 19 = .ok (.if_icmp .eq 12, 3) := by decide +kernel
theorem dX6_readTest_22 : decode cX6_readTest 22 = .ok (.iload_n 2, 1) := by decide +kernel
theorem dX6_readTest_23 : decode cX6_readTest 23 = .ok (.sipush 10009, 3) := by decide +kernel
theorem dX6_readTest_26 : decode cX6_readTest 26 = .ok (.if_icmp .eq 5, 3) := by decide +kernel
theorem dX6_readTest_29 : decode cX6_readTest 29 = .ok (.iconst 1, 1) := by decide +kernel
theorem dX6_readTest_30 : decode cX6_readTest 30 = .ok (.ireturn, 1) := by decide +kernel
theorem dX6_readTest_31 : decode cX6_readTest 31 = .ok (.aload_n 0, 1) := by decide +kernel
theorem dX6_readTest_32 : decode cX6_readTest 32 = .ok (.dup, 1) := by decide +kernel
theorem dX6_readTest_33 : decode cX6_readTest 33 = .ok (.getfield 40, 3) := by decide +kernel
theorem dX6_readTest_36 : decode cX6_readTest 36 = .ok (.iconst 1, 1) := by decide +kernel
theorem dX6_readTest_37 : decode cX6_readTest 37 = .ok (.iadd, 1) := by decide +kernel
theorem dX6_readTest_38 : decode cX6_readTest 38 = .ok (.putfield 40, 3) := by decide +kernel
theorem dX6_readTest_41 : decode cX6_readTest 41 = .ok (.aload_n 0, 1) := by decide +kernel
theorem dX6_readTest_42 : decode cX6_readTest 42 = .ok (.iload_n 1, 1) := by decide +kernel
theorem dX6_readTest_43 : decode cX6_readTest 43 = .ok (.invokevirtual 82, 3) := by decide +kernel
theorem dX6_readTest_46 : decode cX6_readTest 46 = .ok (.ifCond .ne 5, 3) := by decide +kernel
theorem dX6_readTest_49 : decode cX6_readTest 49 = .ok (.iconst 0, 1) := by decide +kernel
theorem dX6_readTest_50 : decode cX6_readTest 50 = .ok (.ireturn, 1) := by decide +kernel
theorem dX6_readTest_51 : decode cX6_readTest 51 = .ok (.aload_n 0, 1) := by decide +kernel
theorem dX6_readTest_52 : decode cX6_readTest 52 = .ok (.getfield 28, 3) := by decide +kernel
theorem dX6_readTest_55 : decode cX6_readTest 55 = .ok (.iload_n 2, 1) := by decide +kernel
theorem dX6_readTest_56 : decode cX6_readTest 56 = .ok (.invokevirtual 79, 3) := by decide +kernel
theorem dX6_readTest_59 : decode cX6_readTest 59 = .ok (.iconst 1, 1) := by decide +kernel
theorem dX6_readTest_60 : decode cX6_readTest 60 = .ok (.ireturn, 1) := by decide +kernel
set_option maxRecDepth 20000 in
theorem ggX6_readSum_X6_readPart : GoodIn wsX6_readSum wsX6_readPart := goodIn_r _ [28, 29, 1, 2, 7, 8, 9, 6, 10, 11, 12, 30, 31, 32, 24, 25, 26, 27, 13, 14, 15, 16, 17, 18, 19, 20, 21, 22, 23, 0, 3, 4, 5, 33, 34, 35, 36, 37, 38, 39, 40, 41, 42, 43, 44, 45, 46, 47, 48, 49, 50] (by decide +kernel) (by decide +kernel)
set_option maxRecDepth 20000 in
theorem gX6_readSum_X6_readPart : GoodIn wsX6_readSum (wsV RX6 85 RX6 yX6_readPart wsX6_readPart) := goodIn_app (goodIn_of _ (by decide +kernel)) ggX6_readSum_X6_readPart
set_option maxRecDepth 20000 in
theorem ggX6_readSum_X6_peek : GoodIn wsX6_readSum wsX6_peek := goodIn_r _ [10, 1, 11, 12, 37, 38, 39, 40, 41, 42, 43, 44] (by decide +kernel) (by decide +kernel)
set_option maxRecDepth 20000 in
theorem gX6_readSum_X6_peek : GoodIn wsX6_readSum (wsV RX6 46 RX6 yX6_peek wsX6_peek) := goodIn_app (goodIn_of _ (by decide +kernel)) ggX6_readSum_X6_peek
set_option maxRecDepth 20000 in
theorem ggX6_readSum_X5_addCode : GoodIn wsX6_readSum wsX5_addCode := goodIn_r _ [17, 18, 19, 45, 46, 47, 48, 49, 50] (by decide +kernel) (by decide +kernel)
set_option maxRecDepth 20000 in
theorem gX6_readSum_X5_addCode : GoodIn wsX6_readSum (wsV RX6 79 RX5 yX5_addCode wsX5_addCode) := goodIn_app (goodIn_of _ (by decide +kernel)) ggX6_readSum_X5_addCode
theorem dX6_readSum_0 : decode cX6_readSum 0 = .ok (.aload_n 0, 1) := by decide +kernel
theorem dX6_readSum_1 : decode cX6_readSum 1 = .ok (.iload_n 1, 1) := by decide +kernel
theorem dX6_readSum_2 : decode cX6_readSum 2 = .ok (.invokevirtual 85, 3) := by decide +kernel
theorem dX6_readSum_5 : decode cX6_readSum 5 = .ok (.ifCond .ne 5, 3) := by decide +kernel
theorem dX6_readSum_8 : decode cX6_readSum 8 = .ok (.iconst 0, 1) := by decide +kernel
theorem dX6_readSum_9 : decode cX6_readSum 9 = .ok (.ireturn, 1) := by decide +kernel
theorem dX6_readSum_10 : decode cX6_readSum 10 = .ok (.iconst 0, 1) := by decide +kernel
theorem dX6_readSum_11 : decode cX6_readSum 11 = .ok (.istore_n 2, 1) := by decide +kernel
theorem dX6_readSum_12 : decode cX6_readSum 12 = .ok (.iload_n 2, 1) := by decide +kernel
theorem dX6_readSum_13 : decode cX6_readSum 13 = .ok (.sipush 601, 3) := by decide +kernel
theorem dX6_readSum_16 : decode cX6_readSum 16 = .ok (.if_icmp .ge 58, 3) := by decide +kernel
theorem dX6_readSum_19 : decode cX6_readSum 19 = .ok (.aload_n 0, 1) := by decide +kernel
theorem dX6_readSum_20 : decode cX6_readSum 20 = .ok (.invokevirtual 46, 3) := by decide +kernel
theorem dX6_readSum_23 : decode cX6_readSum 23 = .ok (.istore_n 3, 1) := by decide +kernel
theorem dX6_readSum_24 : decode cX6_readSum 24 = .ok (.iload_n 3, 1) := by decide +kernel
theorem dX6_readSum_25 : decode cX6_readSum 25 = .ok (.sipush 10006, 3) := by decide +kernel
theorem dX6_readSum_28 : decode cX6_readSum 28 = .ok (.if_icmp .eq 12, 3) := by decide +kernel
theorem dX6_readSum_31 : decode cX6_readSum 31 = .ok (.iload_n 3, 1) := by decide +kernel
theorem dX6_readSum_32 : decode cX6_readSum 32 = .ok (.sipush 10007, 3) := by decide +kernel
theorem dX6_readSum_35 : decode cX6_readSum 35 = .ok (.if_icmp .eq 5, 3) := by decide +kernel
theorem dX6_readSum_38 : decode cX6_readSum 38 = .ok (.iconst 1, 1) := by decide +kernel
theorem dX6_readSum_39 : decode cX6_readSum 39 = .ok (.ireturn, 1) := by decide +kernel
theorem dX6_readSum_40 : decode cX6_readSum 40 = .ok (.aload_n 0, 1) := by decide +kernel
theorem dX6_readSum_41 : decode cX6_readSum 41 = .ok (.dup, 1) := by decide +kernel
theorem dX6_readSum_42 : decode cX6_readSum 42 = .ok (.getfield 40, 3) := by decide +kernel
theorem dX6_readSum_45 : decode cX6_readSum 45 = .ok (.iconst 1, 1) := by decide +kernel
theorem dX6_readSum_46 : decode cX6_readSum 46 = .ok (.iadd, 1) := by decide +kernel
theorem dX6_readSum_47 : decode cX6_readSum 47 = .ok (.putfield 40, 3) := by decide +kernel
theorem dX6_readSum_50 : decode cX6_readSum 50 = .ok (.aload_n 0, 1) := by decide +kernel
theorem dX6_readSum_51 : decode cX6_readSum 51 = .ok (.iload_n 1, 1) := by decide +kernel
theorem dX6_readSum_52 : decode cX6_readSum 52 = .ok (.invokevirtual 85, 3) := by decide +kernel
theorem dX6_readSum_55 : decode cX6_readSum 55 = .ok (.ifCond .ne 5, 3) := by decide +kernel
theorem dX6_readSum_58 : decode cX6_readSum 58 = .ok (.iconst 0, 1) := by decide +kernel
theorem dX6_readSum_59 : decode cX6_readSum 59 = .ok (.ireturn, 1) := by decide +kernel
theorem dX6_readSum_60 : decode cX6_readSum 60 = .ok (.aload_n 0, 1) := by decide +kernel
theorem dX6_readSum_61 : decode cX6_readSum 61 = .ok (.getfield 28, 3) := by decide +kernel
theorem dX6_readSum_64 : decode cX6_readSum 64 = .ok (.iload_n 3, 1) := by decide +kernel
theorem dX6_readSum_65 : decode cX6_readSum 65 = .ok (.invokevirtual 79, 3) := by decide +kernel
theorem dX6_readSum_68 : decode cX6_readSum 68 = .ok (.iinc 2 1, 3) := by decide +kernel
theorem dX6_readSum_71 : decode cX6_readSum 71 = .ok (.goto (-59), 3) := by decide +kernel
theorem dX6_readSum_74 : decode cX6_readSum 74 = .ok (.iconst 1, 1) := by decide +kernel
theorem dX6_readSum_75 : decode cX6_readSum 75 = .ok (.ireturn, 1) := by decide +kernel
set_option maxRecDepth 20000 in
theorem ggX6_readPart_X6_peek : GoodIn wsX6_readPart wsX6_peek := goodIn_r _ [8, 2, 9, 10, 37, 38, 39, 40, 41, 42, 43, 44] (by decide +kernel) (by decide +kernel)
set_option maxRecDepth 20000 in
theorem gX6_readPart_X6_peek : GoodIn wsX6_readPart (wsV RX6 46 RX6 yX6_peek wsX6_peek) := goodIn_app (goodIn_of _ (by decide +kernel)) ggX6_readPart_X6_peek
set_option maxRecDepth 20000 in
theorem ggX6_readPart_X6_readCondition : GoodIn wsX6_readPart wsX6_readCondition := goodIn_r _ [25, 3, 26, 27, 28, 7, 14, 15, 16, 17, 2, 9, 10, 18, 19, 20, 21, 22, 23, 24, 0, 1, 4, 5, 6, 8, 11, 12, 13, 29, 30, 31, 32, 33, 34, 35, 36, 37, 38, 39, 40, 41, 42, 43, 44, 45, 46, 47, 48, 49, 50] (by decide +kernel) (by decide +kernel)
set_option maxRecDepth 20000 in
theorem gX6_readPart_X6_readCondition : GoodIn wsX6_readPart (wsV RX6 69 RX6 yX6_readCondition wsX6_readCondition) := goodIn_app (goodIn_of _ (by decide +kernel)) ggX6_readPart_X6_readCondition
set_option maxRecDepth 20000 in
theorem ggX6_readPart_X6_take : GoodIn wsX6_readPart wsX6_take := goodIn_r _ [17, 2, 9, 10, 37, 38, 39, 40, 41, 42, 43, 44] (by decide +kernel) (by decide +kernel)
set_option maxRecDepth 20000 in
theorem gX6_readPart_X6_take : GoodIn wsX6_readPart (wsV RX6 65 RX6 yX6_take wsX6_take) := goodIn_app (goodIn_of _ (by decide +kernel)) ggX6_readPart_X6_take
set_option maxRecDepth 20000 in
theorem ggX6_readPart_X5_addCode : GoodIn wsX6_readPart wsX5_addCode := goodIn_r _ [22, 23, 24, 45, 46, 47, 48, 49, 50] (by decide +kernel) (by decide +kernel)
set_option maxRecDepth 20000 in
theorem gX6_readPart_X5_addCode : GoodIn wsX6_readPart (wsV RX6 79 RX5 yX5_addCode wsX5_addCode) := goodIn_app (goodIn_of _ (by decide +kernel)) ggX6_readPart_X5_addCode
theorem dX6_readPart_0 : decode cX6_readPart 0 = .ok (.aload_n 0, 1) := by decide +kernel
theorem dX6_readPart_1 : decode cX6_readPart 1 = .ok (.invokevirtual 46, 3) := by decide +kernel
theorem dX6_readPart_4 : decode cX6_readPart 4 = .ok (.istore_n 2, 1) := by decide +kernel
theorem dX6_readPart_5 : decode cX6_readPart 5 = .ok (.iload_n 2, 1) := by decide +kernel
theorem dX6_readPart_6 : decode cX6_readPart 6 = .ok (.sipush 10005, 3) := by decide +kernel
theorem dX6_readPart_9 : decode cX6_readPart 9 = .ok (.if_icmp .le 12, 3) := by decide +kernel
theorem dX6_readPart_12 : decode cX6_readPart 12 = .ok (.iload_n 2, 1) := by decide +kernel
theorem dX6_readPart_13 : decode cX6_readPart 13 = .ok (.sipush 10013, 3) := by decide +kernel
theorem dX6_readPart_16 : decode cX6_readPart 16 = .ok (.if_icmp .eq 5, 3) := by decide +kernel
theorem dX6_readPart_19 : decode cX6_readPart 19 = .ok (.iconst 0, 1) := by decide +kernel
theorem dX6_readPart_20 : decode cX6_readPart 20 = .ok (.ireturn, 1) := by decide +kernel
theorem dX6_readPart_21 : decode cX6_readPart 21 = .ok (.iload_n 1, 1) := by decide +kernel
theorem dX6_readPart_22 : decode cX6_readPart 22 = .ok (.iconst 5, 1) := by decide +kernel
theorem dX6_readPart_23 : decode cX6_readPart 23 = .ok (.if_icmp .lt 10, 3) := by decide +kernel
theorem dX6_readPart_26 : decode cX6_readPart 26 = .ok (.aload_n 0, 1) := by decide +kernel
theorem dX6_readPart_27 : decode cX6_readPart 27 = .ok (.iconst 5, 1) := by decide +kernel
theorem dX6_readPart_28 : decode cX6_readPart 28 = .ok (.putfield 43, 3) := by decide +kernel
theorem dX6_readPart_31 : decode cX6_readPart 31 = .ok (.iconst 0, 1) := by decide +kernel
theorem dX6_readPart_32 : decode cX6_readPart 32 = .ok (.ireturn, 1) := by decide +kernel
theorem dX6_readPart_33 : decode cX6_readPart 33 = .ok (.aload_n 0, 1) := by decide +kernel
theorem dX6_readPart_34 : decode cX6_readPart 34 = .ok (.dup, 1) := by decide +kernel
theorem dX6_readPart_35 : decode cX6_readPart 35 = .ok (.getfield 40, 3) := by decide +kernel
theorem dX6_readPart_38 : decode cX6_readPart 38 = .ok (.iconst 1, 1) := by decide +kernel
theorem dX6_readPart_39 : decode cX6_readPart 39 = .ok (.iadd, 1) := by decide +kernel
theorem dX6_readPart_40 : decode cX6_readPart 40 = .ok (.putfield 40, 3) := by decide +kernel
theorem dX6_readPart_43 : decode cX6_readPart 43 = .ok (.iload_n 2, 1) := by decide +kernel
theorem dX6_readPart_44 : decode cX6_readPart 44 = .ok (.sipush 10013, 3) := by decide +kernel
theorem dX6_readPart_47 : decode cX6_readPart 47 = .ok (.if_icmp .ne 29, 3) := by decide +kernel
theorem dX6_readPart_50 : decode cX6_readPart 50 = .ok (.aload_n 0, 1) := by decide +kernel
theorem dX6_readPart_51 : decode cX6_readPart 51 = .ok (.iload_n 1, 1) := by decide +kernel
theorem dX6_readPart_52 : decode cX6_readPart 52 = .ok (.iconst 1, 1) := by decide +kernel
theorem dX6_readPart_53 : decode cX6_readPart 53 = .ok (.iadd, 1) := by decide +kernel
theorem dX6_readPart_54 : decode cX6_readPart 54 = .ok (.invokevirtual 69, 3) := by decide +kernel
theorem dX6_readPart_57 : decode cX6_readPart 57 = .ok (.ifCond .eq 17, 3) := by decide +kernel
theorem dX6_readPart_60 : decode cX6_readPart 60 = .ok (.aload_n 0, 1) := by decide +kernel
theorem dX6_readPart_61 : decode cX6_readPart 61 = .ok (.sipush 10014, 3) := by decide +kernel
theorem dX6_readPart_64 : decode cX6_readPart 64 = .ok (.invokevirtual 65, 3) := by decide +kernel
theorem dX6_readPart_67 : decode cX6_readPart 67 = .ok (.ifCond .eq 7, 3) := by decide +kernel
theorem dX6_readPart_70 : decode cX6_readPart 70 = .ok (.iconst 1, 1) := by decide +kernel
theorem dX6_readPart_71 : decode cX6_readPart 71 = .ok (.goto 4, 3) := by decide +kernel
theorem dX6_readPart_74 : decode cX6_readPart 74 = .ok (.iconst 0, 1) := by decide +kernel
theorem dX6_readPart_75 : decode cX6_readPart 75 = .ok (.ireturn, 1) := by decide +kernel
theorem dX6_readPart_76 : decode cX6_readPart 76 = .ok (.aload_n 0, 1) := by decide +kernel
theorem dX6_readPart_77 : decode cX6_readPart 77 = .ok (.getfield 28, 3) := by decide +kernel
theorem dX6_readPart_80 : decode cX6_readPart 80 = .ok (.iload_n 2, 1) := by decide +kernel
theorem dX6_readPart_81 : decode cX6_readPart 81 = .ok (.invokevirtual 79, 3) := by decide +kernel
theorem dX6_readPart_84 : decode cX6_readPart 84 = .ok (.iconst 1, 1) := by decide +kernel
theorem dX6_readPart_85 : decode cX6_readPart 85 = .ok (.ireturn, 1) := by decide +kernel
set_option maxRecDepth 20000 in
theorem ggX6_scan_X6_isBlank : GoodIn wsX6_scan wsX6_isBlank := goodIn_r _ [7] (by decide +kernel) (by decide +kernel)
set_option maxRecDepth 20000 in
theorem gX6_scan_X6_isBlank : GoodIn wsX6_scan (va_wsS RX6 88 yX6_isBlank wsX6_isBlank) := goodIn_app (goodIn_of _ (by decide +kernel)) ggX6_scan_X6_isBlank
set_option maxRecDepth 20000 in
theorem ggX6_scan_X6_endOf : GoodIn wsX6_scan wsX6_endOf := goodIn_r _ [11, 3, 2, 12, 13, 6, 14, 15, 16, 17, 92, 93, 94, 95, 96, 97, 98, 99] (by decide +kernel) (by decide +kernel)
set_option maxRecDepth 20000 in
theorem gX6_scan_X6_endOf : GoodIn wsX6_scan (wsV RX6 92 RX6 yX6_endOf wsX6_endOf) := goodIn_app (goodIn_of _ (by decide +kernel)) ggX6_scan_X6_endOf
set_option maxRecDepth 20000 in
theorem ggX6_scan_X6_tokenOf : GoodIn wsX6_scan wsX6_tokenOf := goodIn_r _ [21, 3, 12, 13, 6, 14, 22, 23, 24, 25, 26, 27, 28, 29, 30, 31, 32, 33, 34, 35, 36, 37, 38, 39, 40, 41, 42, 43, 44, 45, 46, 47, 48, 49, 50, 51, 52, 53, 54, 55, 56, 57, 58, 59, 60, 61, 62, 63, 64, 65, 66, 67, 68, 69, 70, 71, 72, 73, 74, 75, 76, 77, 78, 15, 16, 17, 79, 80, 81, 82, 83, 84, 85, 92, 93, 94, 95, 96, 97, 98, 99] (by decide +kernel) (by decide +kernel)
set_option maxRecDepth 20000 in
theorem gX6_scan_X6_tokenOf : GoodIn wsX6_scan (wsV RX6 96 RX6 yX6_tokenOf wsX6_tokenOf) := goodIn_app (goodIn_of _ (by decide +kernel)) ggX6_scan_X6_tokenOf
set_option maxRecDepth 20000 in
theorem ggX6_scan_X6_addToken : GoodIn wsX6_scan wsX6_addToken := goodIn_r _ [89, 1, 90, 91, 92, 93, 94, 95, 96, 97, 98, 99] (by decide +kernel) (by decide +kernel)
set_option maxRecDepth 20000 in
theorem gX6_scan_X6_addToken : GoodIn wsX6_scan (wsV RX6 100 RX6 yX6_addToken wsX6_addToken) := goodIn_app (goodIn_of _ (by decide +kernel)) ggX6_scan_X6_addToken
theorem dX6_scan_0 : decode cX6_scan 0 = .ok (.aload_n 0, 1) := by decide +kernel
theorem dX6_scan_1 : decode cX6_scan 1 = .ok (.iconst 0, 1) := by decide +kernel
theorem dX6_scan_2 : decode cX6_scan 2 = .ok (.putfield 59, 3) := by decide +kernel
theorem dX6_scan_5 : decode cX6_scan 5 = .ok (.iconst 0, 1) := by decide +kernel
theorem dX6_scan_6 : decode cX6_scan 6 = .ok (.istore_n 1, 1) := by decide +kernel
theorem dX6_scan_7 : decode cX6_scan 7 = .ok (.iconst 0, 1) := by decide +kernel
theorem dX6_scan_8 : decode cX6_scan 8 = .ok (.istore_n 2, 1) := by decide +kernel
theorem dX6_scan_9 : decode cX6_scan 9 = .ok (.iload_n 2, 1) := by decide +kernel
theorem dX6_scan_10 : decode cX6_scan 10 = .ok (.aload_n 0, 1) := by decide +kernel
theorem dX6_scan_11 : decode cX6_scan 11 = .ok (.getfield 27, 3) := by decide +kernel
theorem dX6_scan_14 : decode cX6_scan 14 = .ok (.if_icmp .ge 43, 3) := by decide +kernel
theorem dX6_scan_17 : decode cX6_scan 17 = .ok (.iload_n 2, 1) := by decide +kernel
theorem dX6_scan_18 : decode cX6_scan 18 = .ok (.iload_n 1, 1) := by decide +kernel
theorem dX6_scan_19 : decode cX6_scan 19 = .ok (.if_icmp .lt 32, 3) := by decide +kernel
theorem dX6_scan_22 : decode cX6_scan 22 = .ok (.aload_n 0, 1) := by decide +kernel
theorem dX6_scan_23 : decode cX6_scan 23 = .ok (.getfield 22, 3) := by decide +kernel
theorem dX6_scan_26 : decode cX6_scan 26 = .ok (.iload_n 2, 1) := by decide +kernel
theorem dX6_scan_27 : decode cX6_scan 27 = .ok (.caload, 1) := by decide +kernel
theorem dX6_scan_28 : decode cX6_scan 28 = .ok (.invokestatic 88, 3) := by decide +kernel
theorem dX6_scan_31 : decode cX6_scan 31 = .ok (.ifCond .ne 20, 3) := by decide +kernel
theorem dX6_scan_34 : decode cX6_scan 34 = .ok (.aload_n 0, 1) := by decide +kernel
theorem dX6_scan_35 : decode cX6_scan 35 = .ok (.iload_n 2, 1) := by decide +kernel
theorem dX6_scan_36 : decode cX6_scan 36 = .ok (.invokevirtual 92, 3) := by decide +kernel
