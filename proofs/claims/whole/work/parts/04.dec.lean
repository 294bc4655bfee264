theorem dX3_standingStones_70 : decode cX3_standingStones 70 = .ok (.lload 10, 2) := by decide +kernel
theorem dX3_standingStones_72 : decode cX3_standingStones 72 = .ok (.invokevirtual 15, 3) := by decide +kernel
theorem dX3_standingStones_75 : decode cX3_standingStones 75 = .ok (.lload 7, 2) := by decide +kernel
theorem dX3_standingStones_77 : decode cX3_standingStones 77 = .ok (.invokevirtual 43, 3) := by decide +kernel
theorem dX3_standingStones_80 : decode cX3_standingStones 80 = .ok (.ldc2_w 21, 3) := by decide +kernel
theorem dX3_standingStones_83 : decode cX3_standingStones 83 = .ok (.lxor, 1) := by decide +kernel
theorem dX3_standingStones_84 : decode cX3_standingStones 84 = .ok (.land, 1) := by decide +kernel
theorem dX3_standingStones_85 : decode cX3_standingStones 85 = .ok (.lstore 7, 2) := by decide +kernel
theorem dX3_standingStones_87 : decode cX3_standingStones 87 = .ok (.iinc 9 1, 3) := by decide +kernel
theorem dX3_standingStones_90 : decode cX3_standingStones 90 = .ok (.goto (-69), 3) := by decide +kernel
theorem dX3_standingStones_93 : decode cX3_standingStones 93 = .ok (.lload 5, 2) := by decide +kernel
theorem dX3_standingStones_95 : decode cX3_standingStones 95 = .ok (.lreturn, 1) := by decide +kernel
set_option maxRecDepth 20000 in
theorem ggX3_groupsWithoutTwo_X2_partFrom : GoodIn wsX3_groupsWithoutTwo wsX2_partFrom := goodIn_r _ [7, 8, 9, 10, 6, 11, 12, 13, 14, 15, 16, 17, 18, 19, 32, 33, 34, 35, 36, 37] (by decide +kernel) (by decide +kernel)
set_option maxRecDepth 20000 in
theorem gX3_groupsWithoutTwo_X2_partFrom : GoodIn wsX3_groupsWithoutTwo (wsV RX3 27 RX2 yX2_partFrom wsX2_partFrom) := goodIn_app (goodIn_of _ (by decide +kernel)) ggX3_groupsWithoutTwo_X2_partFrom
set_option maxRecDepth 20000 in
theorem ggX3_groupsWithoutTwo_X3_vitalRegions : GoodIn wsX3_groupsWithoutTwo wsX3_vitalRegions := goodIn_r _ [24, 1, 2, 3, 4, 5, 6, 7, 8, 9, 10, 11, 12, 13, 14, 15, 16, 17, 18, 19, 25, 26, 27, 23, 28, 29, 30, 31, 32, 33, 34, 35, 36, 37] (by decide +kernel) (by decide +kernel)
set_option maxRecDepth 20000 in
theorem gX3_groupsWithoutTwo_X3_vitalRegions : GoodIn wsX3_groupsWithoutTwo (wsV RX3 47 RX3 yX3_vitalRegions wsX3_vitalRegions) := goodIn_app (goodIn_of _ (by decide +kernel)) ggX3_groupsWithoutTwo_X3_vitalRegions
theorem dX3_groupsWithoutTwo_0 : decode cX3_groupsWithoutTwo 0 = .ok (.lconst 0, 1) := by decide +kernel
theorem dX3_groupsWithoutTwo_1 : decode cX3_groupsWithoutTwo 1 = .ok (.lstore 7, 2) := by decide +kernel
theorem dX3_groupsWithoutTwo_3 : decode cX3_groupsWithoutTwo 3 = .ok (.iconst 0, 1) := by decide +kernel
theorem dX3_groupsWithoutTwo_4 : decode cX3_groupsWithoutTwo 4 = .ok (.istore 9, 2) := by decide +kernel
theorem dX3_groupsWithoutTwo_6 : decode cX3_groupsWithoutTwo 6 = .ok (.iload 9, 2) := by decide +kernel
theorem dX3_groupsWithoutTwo_8 : decode cX3_groupsWithoutTwo 8 = .ok (.aload_n 0, 1) := by decide +kernel
theorem dX3_groupsWithoutTwo_9 : decode cX3_groupsWithoutTwo 9 = .ok (.getfield 9, 3) := by decide +kernel
theorem dX3_groupsWithoutTwo_12 : decode cX3_groupsWithoutTwo 12 = .ok (.getfield 23, 3) := by decide +kernel
theorem dX3_groupsWithoutTwo_15 : decode cX3_groupsWithoutTwo 15 = .ok (.if_icmp .ge 48, 3) := by decide +kernel
theorem dX3_groupsWithoutTwo_18 : decode cX3_groupsWithoutTwo 18 = .ok (.aload_n 0, 1) := by decide +kernel
theorem dX3_groupsWithoutTwo_19 : decode cX3_groupsWithoutTwo 19 = .ok (.getfield 9, 3) := by decide +kernel
theorem dX3_groupsWithoutTwo_22 : decode cX3_groupsWithoutTwo 22 = .ok (.lload_n 1, 1) := by decide +kernel
theorem dX3_groupsWithoutTwo_23 : decode cX3_groupsWithoutTwo 23 = .ok (.iload 9, 2) := by decide +kernel
theorem dX3_groupsWithoutTwo_25 : decode cX3_groupsWithoutTwo 25 = .ok (.invokevirtual 27, 3) := by decide +kernel
theorem dX3_groupsWithoutTwo_28 : decode cX3_groupsWithoutTwo 28 = .ok (.lstore 10, 2) := by decide +kernel
theorem dX3_groupsWithoutTwo_30 : decode cX3_groupsWithoutTwo 30 = .ok (.lload 10, 2) := by decide +kernel
theorem dX3_groupsWithoutTwo_32 : decode cX3_groupsWithoutTwo 32 = .ok (.lconst 0, 1) := by decide +kernel
theorem dX3_groupsWithoutTwo_33 : decode cX3_groupsWithoutTwo 33 = .ok (.lcmp, 1) := by decide +kernel
theorem dX3_groupsWithoutTwo_34 : decode cX3_groupsWithoutTwo 34 = .ok (.ifCond .eq 23, 3) := by decide +kernel
theorem dX3_groupsWithoutTwo_37 : decode cX3_groupsWithoutTwo 37 = .ok (.aload_n 0, 1) := by decide +kernel
theorem dX3_groupsWithoutTwo_38 : decode cX3_groupsWithoutTwo 38 = .ok (.lload 10, 2) := by decide +kernel
theorem dX3_groupsWithoutTwo_40 : decode cX3_groupsWithoutTwo 40 = .ok (.lload_n 3, 1) := by decide +kernel
theorem dX3_groupsWithoutTwo_41 : decode cX3_groupsWithoutTwo 41 = .ok (.lload 5, 2) := by decide +kernel
theorem dX3_groupsWithoutTwo_43 : decode cX3_groupsWithoutTwo 43 = .ok (.invokevirtual 47, 3) := by decide +kernel
theorem dX3_groupsWithoutTwo_46 : decode cX3_groupsWithoutTwo 46 = .ok (.iconst 2, 1) := by decide +kernel
theorem dX3_groupsWithoutTwo_47 : decode cX3_groupsWithoutTwo 47 = .ok (.if_icmp .ge 10, 3) := by decide +kernel
theorem dX3_groupsWithoutTwo_50 : decode cX3_groupsWithoutTwo 50 = .ok (.lload 7, 2) := by decide +kernel
theorem dX3_groupsWithoutTwo_52 : decode cX3_groupsWithoutTwo 52 = .ok (.lload 10, 2) := by decide +kernel
theorem dX3_groupsWithoutTwo_54 : decode cX3_groupsWithoutTwo 54 = .ok (.lor, 1) := by decide +kernel
theorem dX3_groupsWithoutTwo_55 : decode cX3_groupsWithoutTwo 55 = .ok (.lstore 7, 2) := by decide +kernel
theorem dX3_groupsWithoutTwo_57 : decode cX3_groupsWithoutTwo 57 = .ok (.iinc 9 1, 3) := by decide +kernel
theorem dX3_groupsWithoutTwo_60 : decode cX3_groupsWithoutTwo 60 = .ok (.goto (-54), 3) := by decide +kernel
theorem dX3_groupsWithoutTwo_63 : decode cX3_groupsWithoutTwo 63 = .ok (.lload 7, 2) := by decide +kernel
theorem dX3_groupsWithoutTwo_65 : decode cX3_groupsWithoutTwo 65 = .ok (.lreturn, 1) := by decide +kernel
theorem dX4_init_0 : decode cX4_init 0 = .ok (.aload_n 0, 1) := by decide +kernel
theorem dX4_init_1 : decode cX4_init 1 = .ok (.invokespecial 3, 3) := by decide +kernel
theorem dX4_init_4 : decode cX4_init 4 = .ok (.aload_n 0, 1) := by decide +kernel
theorem dX4_init_5 : decode cX4_init 5 = .ok (.aload_n 1, 1) := by decide +kernel
theorem dX4_init_6 : decode cX4_init 6 = .ok (.putfield 9, 3) := by decide +kernel
theorem dX4_init_9 : decode cX4_init 9 = .ok (.iload_n 2, 1) := by decide +kernel
theorem dX4_init_10 : decode cX4_init 10 = .ok (.iconst 0, 1) := by decide +kernel
theorem dX4_init_11 : decode cX4_init 11 = .ok (.invokestatic 15, 3) := by decide +kernel
theorem dX4_init_14 : decode cX4_init 14 = .ok (.iconst 1, 1) := by decide +kernel
theorem dX4_init_15 : decode cX4_init 15 = .ok (.iadd, 1) := by decide +kernel
theorem dX4_init_16 : decode cX4_init 16 = .ok (.istore_n 3, 1) := by decide +kernel
theorem dX4_init_17 : decode cX4_init 17 = .ok (.aload_n 0, 1) := by decide +kernel
theorem dX4_init_18 : decode cX4_init 18 = .ok (.iload_n 3, 1) := by decide +kernel
theorem dX4_init_19 : decode cX4_init 19 = .ok (.newarray .long, 2) := by decide +kernel
theorem dX4_init_21 : decode cX4_init 21 = .ok (.putfield 21, 3) := by decide +kernel
theorem dX4_init_24 : decode cX4_init 24 = .ok (.aload_n 0, 1) := by decide +kernel
theorem dX4_init_25 : decode cX4_init 25 = .ok (.iload_n 3, 1) := by decide +kernel
theorem dX4_init_26 : decode cX4_init 26 = .ok (.newarray .long, 2) := by decide +kernel
theorem dX4_init_28 : decode cX4_init 28 = .ok (.putfield 25, 3) := by decide +kernel
theorem dX4_init_31 : decode cX4_init 31 = .ok (.aload_n 0, 1) := by decide +kernel
theorem dX4_init_32 : decode cX4_init 32 = .ok (.iload_n 3, 1) := by decide +kernel
theorem dX4_init_33 : decode cX4_init 33 = .ok (.newarray .int, 2) := by decide +kernel
theorem dX4_init_35 : decode cX4_init 35 = .ok (.putfield 28, 3) := by decide +kernel
theorem dX4_init_38 : decode cX4_init 38 = .ok (.return_, 1) := by decide +kernel
set_option maxRecDepth 20000 in
theorem ggX4_begin_X4_keep : GoodIn wsX4_begin wsX4_keep := goodIn_r _ [8, 9, 10, 11, 12, 13, 14, 15, 16, 17, 18, 19] (by decide +kernel) (by decide +kernel)
set_option maxRecDepth 20000 in
theorem gX4_begin_X4_keep : GoodIn wsX4_begin (wsV RX4 42 RX4 yX4_keep wsX4_keep) := goodIn_app (goodIn_of _ (by decide +kernel)) ggX4_begin_X4_keep
theorem dX4_begin_0 : decode cX4_begin 0 = .ok (.aload_n 0, 1) := by decide +kernel
theorem dX4_begin_1 : decode cX4_begin 1 = .ok (.iload 6, 2) := by decide +kernel
theorem dX4_begin_3 : decode cX4_begin 3 = .ok (.putfield 32, 3) := by decide +kernel
theorem dX4_begin_6 : decode cX4_begin 6 = .ok (.aload_n 0, 1) := by decide +kernel
theorem dX4_begin_7 : decode cX4_begin 7 = .ok (.iconst 0, 1) := by decide +kernel
theorem dX4_begin_8 : decode cX4_begin 8 = .ok (.putfield 36, 3) := by decide +kernel
theorem dX4_begin_11 : decode cX4_begin 11 = .ok (.aload_n 0, 1) := by decide +kernel
theorem dX4_begin_12 : decode cX4_begin 12 = .ok (.iload 5, 2) := by decide +kernel
theorem dX4_begin_14 : decode cX4_begin 14 = .ok (.putfield 39, 3) := by decide +kernel
theorem dX4_begin_17 : decode cX4_begin 17 = .ok (.aload_n 0, 1) := by decide +kernel
theorem dX4_begin_18 : decode cX4_begin 18 = .ok (.iconst 0, 1) := by decide +kernel
theorem dX4_begin_19 : decode cX4_begin 19 = .ok (.lload_n 1, 1) := by decide +kernel
theorem dX4_begin_20 : decode cX4_begin 20 = .ok (.lload_n 3, 1) := by decide +kernel
theorem dX4_begin_21 : decode cX4_begin 21 = .ok (.invokevirtual 42, 3) := by decide +kernel
theorem dX4_begin_24 : decode cX4_begin 24 = .ok (.return_, 1) := by decide +kernel
theorem dX4_keep_0 : decode cX4_keep 0 = .ok (.iload_n 1, 1) := by decide +kernel
theorem dX4_keep_1 : decode cX4_keep 1 = .ok (.ifCond .lt 36, 3) := by decide +kernel
theorem dX4_keep_4 : decode cX4_keep 4 = .ok (.iload_n 1, 1) := by decide +kernel
theorem dX4_keep_5 : decode cX4_keep 5 = .ok (.aload_n 0, 1) := by decide +kernel
theorem dX4_keep_6 : decode cX4_keep 6 = .ok (.getfield 21, 3) := by decide +kernel
theorem dX4_keep_9 : decode cX4_keep 9 = .ok (.arraylength, 1) := by decide +kernel
theorem dX4_keep_10 : decode cX4_keep 10 = .ok (.if_icmp .ge 27, 3) := by decide +kernel
theorem dX4_keep_13 : decode cX4_keep 13 = .ok (.iload_n 1, 1) := by decide +kernel
theorem dX4_keep_14 : decode cX4_keep 14 = .ok (.aload_n 0, 1) := by decide +kernel
theorem dX4_keep_15 : decode cX4_keep 15 = .ok (.getfield 25, 3) := by decide +kernel
theorem dX4_keep_18 : decode cX4_keep 18 = .ok (.arraylength, 1) := by decide +kernel
theorem dX4_keep_19 : decode cX4_keep 19 = .ok (.if_icmp .ge 18, 3) := by decide +kernel
theorem dX4_keep_22 : decode cX4_keep 22 = .ok (.aload_n 0, 1) := by decide +kernel
theorem dX4_keep_23 : decode cX4_keep 23 = .ok (.getfield 21, 3) := by decide +kernel
theorem dX4_keep_26 : decode cX4_keep 26 = .ok (.iload_n 1, 1) := by decide +kernel
theorem dX4_keep_27 : decode cX4_keep 27 = .ok (.lload_n 2, 1) := by decide +kernel
theorem dX4_keep_28 : decode cX4_keep 28 = .ok (.lastore, 1) := by decide +kernel
theorem dX4_keep_29 : decode cX4_keep 29 = .ok (.aload_n 0, 1) := by decide +kernel
theorem dX4_keep_30 : decode cX4_keep 30 = .ok (.getfield 25, 3) := by decide +kernel
theorem dX4_keep_33 : decode cX4_keep 33 = .ok (.iload_n 1, 1) := by decide +kernel
theorem dX4_keep_34 : decode cX4_keep 34 = .ok (.lload 4, 2) := by decide +kernel
theorem dX4_keep_36 : decode cX4_keep 36 = .ok (.lastore, 1) := by decide +kernel
theorem dX4_keep_37 : decode cX4_keep 37 = .ok (.return_, 1) := by decide +kernel
theorem dX4_stonesThen_0 : decode cX4_stonesThen 0 = .ok (.iload_n 2, 1) := by decide +kernel
theorem dX4_stonesThen_1 : decode cX4_stonesThen 1 = .ok (.iconst 1, 1) := by decide +kernel
theorem dX4_stonesThen_2 : decode cX4_stonesThen 2 = .ok (.if_icmp .ne 10, 3) := by decide +kernel
theorem dX4_stonesThen_5 : decode cX4_stonesThen 5 = .ok (.aload_n 0, 1) := by decide +kernel
theorem dX4_stonesThen_6 : decode cX4_stonesThen 6 = .ok (.getfield 21, 3) := by decide +kernel
theorem dX4_stonesThen_9 : decode cX4_stonesThen 9 = .ok (.goto 7, 3) := by decide +kernel
theorem dX4_stonesThen_12 : decode cX4_stonesThen 12 = .ok (.aload_n 0, 1) := by decide +kernel
theorem dX4_stonesThen_13 : decode cX4_stonesThen 13 = .ok (.getfield 25, 3) := by decide +kernel
theorem dX4_stonesThen_16 : decode cX4_stonesThen 16 = .ok (.astore_n 3, 1) := by decide +kernel
theorem dX4_stonesThen_17 : decode cX4_stonesThen 17 = .ok (.iload_n 1, 1) := by decide +kernel
theorem dX4_stonesThen_18 : decode cX4_stonesThen 18 = .ok (.ifCond .lt 15, 3) := by decide +kernel
theorem dX4_stonesThen_21 : decode cX4_stonesThen 21 = .ok (.iload_n 1, 1) := by decide +kernel
theorem dX4_stonesThen_22 : decode cX4_stonesThen 22 = .ok (.aload_n 3, 1) := by decide +kernel
theorem dX4_stonesThen_23 : decode cX4_stonesThen 23 = .ok (.arraylength, 1) := by decide +kernel
theorem dX4_stonesThen_24 : decode cX4_stonesThen 24 = .ok (.if_icmp .ge 9, 3) := by decide +kernel
theorem dX4_stonesThen_27 : decode cX4_stonesThen 27 = .ok (.aload_n 3, 1) := by decide +kernel
theorem dX4_stonesThen_28 : decode cX4_stonesThen 28 = .ok (.iload_n 1, 1) := by decide +kernel
theorem dX4_stonesThen_29 : decode cX4_stonesThen 29 = .ok (.laload, 1) := by decide +kernel
theorem dX4_stonesThen_30 : decode cX4_stonesThen 30 = .ok (.goto 4, 3) := by decide +kernel
theorem dX4_stonesThen_33 : decode cX4_stonesThen 33 = .ok (.lconst 0, 1) := by decide +kernel
theorem dX4_stonesThen_34 : decode cX4_stonesThen 34 = .ok (.lreturn, 1) := by decide +kernel
theorem dX4_moverThen_0 : decode cX4_moverThen 0 = .ok (.iload_n 1, 1) := by decide +kernel
theorem dX4_moverThen_1 : decode cX4_moverThen 1 = .ok (.iconst 1, 1) := by decide +kernel
theorem dX4_moverThen_2 : decode cX4_moverThen 2 = .ok (.iand, 1) := by decide +kernel
theorem dX4_moverThen_3 : decode cX4_moverThen 3 = .ok (.ifCond .ne 10, 3) := by decide +kernel
theorem dX4_moverThen_6 : decode cX4_moverThen 6 = .ok (.aload_n 0, 1) := by decide +kernel
theorem dX4_moverThen_7 : decode cX4_moverThen 7 = .ok (.getfield 39, 3) := by decide +kernel
theorem dX4_moverThen_10 : decode cX4_moverThen 10 = .ok (.goto 9, 3) := by decide +kernel
theorem dX4_moverThen_13 : decode cX4_moverThen 13 = .ok (.iconst 3, 1) := by decide +kernel
theorem dX4_moverThen_14 : decode cX4_moverThen 14 = .ok (.aload_n 0, 1) := by decide +kernel
theorem dX4_moverThen_15 : decode cX4_moverThen 15 = .ok (.getfield 39, 3) := by decide +kernel
theorem dX4_moverThen_18 : decode cX4_moverThen 18 = .ok (.isub, 1) := by decide +kernel
theorem dX4_moverThen_19 : decode cX4_moverThen 19 = .ok (.ireturn, 1) := by decide +kernel
set_option maxRecDepth 20000 in
theorem ggX4_stonesOf_X4_stonesThen : GoodIn wsX4_stonesOf wsX4_stonesThen := goodIn_r _ [6, 7, 8, 9, 10, 11, 12, 13, 14, 15, 16, 17] (by decide +kernel) (by decide +kernel)
set_option maxRecDepth 20000 in
theorem gX4_stonesOf_X4_stonesThen : GoodIn wsX4_stonesOf (wsV RX4 46 RX4 yX4_stonesThen wsX4_stonesThen) := goodIn_app (goodIn_of _ (by decide +kernel)) ggX4_stonesOf_X4_stonesThen
theorem dX4_stonesOf_0 : decode cX4_stonesOf 0 = .ok (.aload_n 0, 1) := by decide +kernel
theorem dX4_stonesOf_1 : decode cX4_stonesOf 1 = .ok (.aload_n 0, 1) := by decide +kernel
theorem dX4_stonesOf_2 : decode cX4_stonesOf 2 = .ok (.getfield 36, 3) := by decide +kernel
theorem dX4_stonesOf_5 : decode cX4_stonesOf 5 = .ok (.iload_n 1, 1) := by decide +kernel
theorem dX4_stonesOf_6 : decode cX4_stonesOf 6 = .ok (.invokevirtual 46, 3) := by decide +kernel
theorem dX4_stonesOf_9 : decode cX4_stonesOf 9 = .ok (.lreturn, 1) := by decide +kernel
set_option maxRecDepth 20000 in
theorem ggX4_mover_X4_moverThen : GoodIn wsX4_mover wsX4_moverThen := goodIn_r _ [6, 7, 8, 9, 10, 11, 12, 13, 14, 15, 16] (by decide +kernel) (by decide +kernel)
set_option maxRecDepth 20000 in
theorem gX4_mover_X4_moverThen : GoodIn wsX4_mover (wsV RX4 50 RX4 yX4_moverThen wsX4_moverThen) := goodIn_app (goodIn_of _ (by decide +kernel)) ggX4_mover_X4_moverThen
theorem dX4_mover_0 : decode cX4_mover 0 = .ok (.aload_n 0, 1) := by decide +kernel
theorem dX4_mover_1 : decode cX4_mover 1 = .ok (.aload_n 0, 1) := by decide +kernel
theorem dX4_mover_2 : decode cX4_mover 2 = .ok (.getfield 36, 3) := by decide +kernel
theorem dX4_mover_5 : decode cX4_mover 5 = .ok (.invokevirtual 50, 3) := by decide +kernel
theorem dX4_mover_8 : decode cX4_mover 8 = .ok (.ireturn, 1) := by decide +kernel
set_option maxRecDepth 20000 in
theorem ggX4_free_X4_stonesThen : GoodIn wsX4_free wsX4_stonesThen := goodIn_r _ [9, 10, 11, 12, 13, 14, 15, 16, 17, 18, 19, 20] (by decide +kernel) (by decide +kernel)
set_option maxRecDepth 20000 in
theorem gX4_free_X4_stonesThen : GoodIn wsX4_free (wsV RX4 46 RX4 yX4_stonesThen wsX4_stonesThen) := goodIn_app (goodIn_of _ (by decide +kernel)) ggX4_free_X4_stonesThen
theorem dX4_free_0 : decode cX4_free 0 = .ok (.aload_n 0, 1) := by decide +kernel
theorem dX4_free_1 : decode cX4_free 1 = .ok (.getfield 9, 3) := by decide +kernel
theorem dX4_free_4 : decode cX4_free 4 = .ok (.getfield 54, 3) := by decide +kernel
theorem dX4_free_7 : decode cX4_free 7 = .ok (.aload_n 0, 1) := by decide +kernel
theorem dX4_free_8 : decode cX4_free 8 = .ok (.aload_n 0, 1) := by decide +kernel
theorem dX4_free_9 : decode cX4_free 9 = .ok (.getfield 36, 3) := by decide +kernel
theorem dX4_free_12 : decode cX4_free 12 = .ok (.iconst 1, 1) := by decide +kernel
theorem dX4_free_13 : decode cX4_free 13 = .ok (.invokevirtual 46, 3) := by decide +kernel
theorem dX4_free_16 : decode cX4_free 16 = .ok (.aload_n 0, 1) := by decide +kernel
theorem dX4_free_17 : decode cX4_free 17 = .ok (.aload_n 0, 1) := by decide +kernel
theorem dX4_free_18 : decode cX4_free 18 = .ok (.getfield 36, 3) := by decide +kernel
theorem dX4_free_21 : decode cX4_free 21 = .ok (.iconst 2, 1) := by decide +kernel
theorem dX4_free_22 : decode cX4_free 22 = .ok (.invokevirtual 46, 3) := by decide +kernel
theorem dX4_free_25 : decode cX4_free 25 = .ok (.lor, 1) := by decide +kernel
theorem dX4_free_26 : decode cX4_free 26 = .ok (.ldc2_w 60, 3) := by decide +kernel
theorem dX4_free_29 : decode cX4_free 29 = .ok (.lxor, 1) := by decide +kernel
theorem dX4_free_30 : decode cX4_free 30 = .ok (.land, 1) := by decide +kernel
theorem dX4_free_31 : decode cX4_free 31 = .ok (.lreturn, 1) := by decide +kernel
set_option maxRecDepth 20000 in
theorem ggX4_colourAt_X4_stonesOf : GoodIn wsX4_colourAt wsX4_stonesOf := goodIn_r _ [5, 6, 7, 8, 9, 4, 10, 11, 12, 17, 18, 19, 20, 21, 22, 23, 24, 25] (by decide +kernel) (by decide +kernel)
set_option maxRecDepth 20000 in
theorem gX4_colourAt_X4_stonesOf : GoodIn wsX4_colourAt (wsV RX4 62 RX4 yX4_stonesOf wsX4_stonesOf) := goodIn_app (goodIn_of _ (by decide +kernel)) ggX4_colourAt_X4_stonesOf
set_option maxRecDepth 20000 in
theorem ggX4_colourAt_X2_holds : GoodIn wsX4_colourAt wsX2_holds := goodIn_r _ [16] (by decide +kernel) (by decide +kernel)
set_option maxRecDepth 20000 in
theorem gX4_colourAt_X2_holds : GoodIn wsX4_colourAt (va_wsS RX4 66 yX2_holds wsX2_holds) := goodIn_app (goodIn_of _ (by decide +kernel)) ggX4_colourAt_X2_holds
theorem dX4_colourAt_0 : decode cX4_colourAt 0 = .ok (.aload_n 0, 1) := by decide +kernel
theorem dX4_colourAt_1 : decode cX4_colourAt 1 = .ok (.iconst 1, 1) := by decide +kernel
theorem dX4_colourAt_2 : decode cX4_colourAt 2 = .ok (.invokevirtual 62, 3) := by decide +kernel
theorem dX4_colourAt_5 : decode cX4_colourAt 5 = .ok (.iload_n 1, 1) := by decide +kernel
theorem dX4_colourAt_6 : decode cX4_colourAt 6 = .ok (.invokestatic 66, 3) := by decide +kernel
theorem dX4_colourAt_9 : decode cX4_colourAt 9 = .ok (.ifCond .eq 5, 3) := by decide +kernel
theorem dX4_colourAt_12 : decode cX4_colourAt 12 = .ok (.iconst 1, 1) := by decide +kernel
theorem dX4_colourAt_13 : decode cX4_colourAt 13 = .ok (.ireturn, 1) := by decide +kernel
theorem dX4_colourAt_14 : decode cX4_colourAt 14 = .ok (.aload_n 0, 1) := by decide +kernel
theorem dX4_colourAt_15 : decode cX4_colourAt 15 = .ok (.iconst 2, 1) := by decide +kernel
theorem dX4_colourAt_16 : decode cX4_colourAt 16 = .ok (.invokevirtual 62, 3) := by decide +kernel
theorem dX4_colourAt_19 : decode cX4_colourAt 19 = .ok (.iload_n 1, 1) := by decide +kernel
theorem dX4_colourAt_20 : decode cX4_colourAt 20 = .ok (.invokestatic 66, 3) := by decide +kernel
theorem dX4_colourAt_23 : decode cX4_colourAt 23 = .ok (.ifCond .eq 7, 3) := by decide +kernel
theorem dX4_colourAt_26 : decode cX4_colourAt 26 = .ok (.iconst 2, 1) := by decide +kernel
theorem dX4_colourAt_27 : decode cX4_colourAt 27 = .ok (.goto 4, 3) := by decide +kernel
theorem dX4_colourAt_30 : decode cX4_colourAt 30 = .ok (.iconst 0, 1) := by decide +kernel
theorem dX4_colourAt_31 : decode cX4_colourAt 31 = .ok (.ireturn, 1) := by decide +kernel
theorem dX4_actAt_0 : decode cX4_actAt 0 = .ok (.iload_n 1, 1) := by decide +kernel
theorem dX4_actAt_1 : decode cX4_actAt 1 = .ok (.ifCond .lt 29, 3) := by decide +kernel
theorem dX4_actAt_4 : decode cX4_actAt 4 = .ok (.iload_n 1, 1) := by decide +kernel
theorem dX4_actAt_5 : decode cX4_actAt 5 = .ok (.aload_n 0, 1) := by decide +kernel
theorem dX4_actAt_6 : decode cX4_actAt 6 = .ok (.getfield 36, 3) := by decide +kernel
theorem dX4_actAt_9 : decode cX4_actAt 9 = .ok (.if_icmp .ge 21, 3) := by decide +kernel
theorem dX4_actAt_12 : decode cX4_actAt 12 = .ok (.iload_n 1, 1) := by decide +kernel
theorem dX4_actAt_13 : decode cX4_actAt 13 = .ok (.aload_n 0, 1) := by decide +kernel
theorem dX4_actAt_14 : decode cX4_actAt 14 = .ok (.getfield 28, 3) := by decide +kernel
theorem dX4_actAt_17 : decode cX4_actAt 17 = .ok (.arraylength, 1) := by decide +kernel
theorem dX4_actAt_18 : decode cX4_actAt 18 = .ok (.if_icmp .ge 12, 3) := by decide +kernel
theorem dX4_actAt_21 : decode cX4_actAt 21 = .ok (.aload_n 0, 1) := by decide +kernel
theorem dX4_actAt_22 : decode cX4_actAt 22 = .ok (.getfield 28, 3) := by decide +kernel
theorem dX4_actAt_25 : decode cX4_actAt 25 = .ok (.iload_n 1, 1) := by decide +kernel
theorem dX4_actAt_26 : decode cX4_actAt 26 = .ok (.iaload, 1) := by decide +kernel
theorem dX4_actAt_27 : decode cX4_actAt 27 = .ok (.goto 4, 3) := by decide +kernel
theorem dX4_actAt_30 : decode cX4_actAt 30 = .ok (.iconst (-1), 1) := by decide +kernel
theorem dX4_actAt_31 : decode cX4_actAt 31 = .ok (.ireturn, 1) := by decide +kernel
set_option maxRecDepth 20000 in
theorem ggX4_reasonAgainst_X4_free : GoodIn wsX4_reasonAgainst wsX4_free := goodIn_r _ [10, 1, 2, 11, 3, 12, 13, 14, 9, 15, 16, 17, 56, 57, 58, 59, 60, 61, 62, 63, 64, 65, 66, 67, 68, 69, 70] (by decide +kernel) (by decide +kernel)
set_option maxRecDepth 20000 in
theorem gX4_reasonAgainst_X4_free : GoodIn wsX4_reasonAgainst (wsV RX4 70 RX4 yX4_free wsX4_free) := goodIn_app (goodIn_of _ (by decide +kernel)) ggX4_reasonAgainst_X4_free
set_option maxRecDepth 20000 in
theorem ggX4_reasonAgainst_X2_holds : GoodIn wsX4_reasonAgainst wsX2_holds := goodIn_r _ [21] (by decide +kernel) (by decide +kernel)
set_option maxRecDepth 20000 in
theorem gX4_reasonAgainst_X2_holds : GoodIn wsX4_reasonAgainst (va_wsS RX4 66 yX2_holds wsX2_holds) := goodIn_app (goodIn_of _ (by decide +kernel)) ggX4_reasonAgainst_X2_holds
set_option maxRecDepth 20000 in
theorem ggX4_reasonAgainst_X4_mover : GoodIn wsX4_reasonAgainst wsX4_mover := goodIn_r _ [25, 11, 26, 27, 28, 9, 29, 30, 56, 57, 58, 59, 60, 61, 62, 63, 64] (by decide +kernel) (by decide +kernel)
set_option maxRecDepth 20000 in
theorem gX4_reasonAgainst_X4_mover : GoodIn wsX4_reasonAgainst (wsV RX4 74 RX4 yX4_mover wsX4_mover) := goodIn_app (goodIn_of _ (by decide +kernel)) ggX4_reasonAgainst_X4_mover
set_option maxRecDepth 20000 in
theorem ggX4_reasonAgainst_X4_stonesOf : GoodIn wsX4_reasonAgainst wsX4_stonesOf := goodIn_r _ [34, 11, 12, 13, 14, 9, 15, 16, 17, 56, 57, 58, 59, 60, 61, 62, 63, 64] (by decide +kernel) (by decide +kernel)
set_option maxRecDepth 20000 in
theorem gX4_reasonAgainst_X4_stonesOf : GoodIn wsX4_reasonAgainst (wsV RX4 62 RX4 yX4_stonesOf wsX4_stonesOf) := goodIn_app (goodIn_of _ (by decide +kernel)) ggX4_reasonAgainst_X4_stonesOf
set_option maxRecDepth 20000 in
theorem ggX4_reasonAgainst_X6_other : GoodIn wsX4_reasonAgainst wsX6_other := goodIn_r _ [37] (by decide +kernel) (by decide +kernel)
set_option maxRecDepth 20000 in
theorem gX4_reasonAgainst_X6_other_n78 : GoodIn wsX4_reasonAgainst (wsX6_other) := ggX4_reasonAgainst_X6_other
set_option maxRecDepth 20000 in
theorem ggX4_reasonAgainst_X2_beside : GoodIn wsX4_reasonAgainst wsX2_beside := goodIn_r _ [41, 42, 43, 44, 45, 65, 66, 67, 68, 69, 70] (by decide +kernel) (by decide +kernel)
set_option maxRecDepth 20000 in
theorem gX4_reasonAgainst_X2_beside : GoodIn wsX4_reasonAgainst (wsV RX4 81 RX2 yX2_beside wsX2_beside) := goodIn_app (goodIn_of _ (by decide +kernel)) ggX4_reasonAgainst_X2_beside
set_option maxRecDepth 20000 in
theorem ggX4_reasonAgainst_X2_spread : GoodIn wsX4_reasonAgainst wsX2_spread := goodIn_r _ [49, 50, 39, 40, 20, 41, 42, 43, 44, 45, 65, 66, 67, 68, 69, 70] (by decide +kernel) (by decide +kernel)
set_option maxRecDepth 20000 in
theorem gX4_reasonAgainst_X2_spread : GoodIn wsX4_reasonAgainst (wsV RX4 85 RX2 yX2_spread wsX2_spread) := goodIn_app (goodIn_of _ (by decide +kernel)) ggX4_reasonAgainst_X2_spread
set_option maxRecDepth 20000 in
theorem ggX4_reasonAgainst_X4_isRefusedByLaw : GoodIn wsX4_reasonAgainst wsX4_isRefusedByLaw := goodIn_r _ [54, 55, 11, 4, 5, 26, 27, 28, 9, 29, 30, 12, 13, 14, 15, 16, 17, 56, 57, 58, 59, 60, 61, 62, 63, 64] (by decide +kernel) (by decide +kernel)
set_option maxRecDepth 20000 in
theorem gX4_reasonAgainst_X4_isRefusedByLaw : GoodIn wsX4_reasonAgainst (wsV RX4 95 RX4 yX4_isRefusedByLaw wsX4_isRefusedByLaw) := goodIn_app (goodIn_of _ (by decide +kernel)) ggX4_reasonAgainst_X4_isRefusedByLaw
theorem dX4_reasonAgainst_0 : decode cX4_reasonAgainst 0 = .ok (.aload_n 0, 1) := by decide +kernel
theorem dX4_reasonAgainst_1 : decode cX4_reasonAgainst 1 = .ok (.invokevirtual 70, 3) := by decide +kernel
theorem dX4_reasonAgainst_4 : decode cX4_reasonAgainst 4 = .ok (.iload_n 1, 1) := by decide +kernel
theorem dX4_reasonAgainst_5 : decode cX4_reasonAgainst 5 = .ok (.invokestatic 66, 3) := by decide +kernel
theorem dX4_reasonAgainst_8 : decode cX4_reasonAgainst 8 = .ok (.ifCond .ne 5, 3) := by decide +kernel
theorem dX4_reasonAgainst_11 : decode cX4_reasonAgainst 11 = .ok (.iconst 1, 1) := by decide +kernel
theorem dX4_reasonAgainst_12 : decode cX4_reasonAgainst 12 = .ok (.ireturn, 1) := by decide +kernel
theorem dX4_reasonAgainst_13 : decode cX4_reasonAgainst 13 = .ok (.lconst 1, 1) := by decide +kernel
theorem dX4_reasonAgainst_14 : decode cX4_reasonAgainst 14 = .ok (.iload_n 1, 1) := by decide +kernel
theorem dX4_reasonAgainst_15 : decode cX4_reasonAgainst 15 = .ok (.lshl, 1) := by decide +kernel
theorem dX4_reasonAgainst_16 : decode cX4_reasonAgainst 16 = .ok (.lstore_n 2, 1) := by decide +kernel
theorem dX4_reasonAgainst_17 : decode cX4_reasonAgainst 17 = .ok (.aload_n 0, 1) := by decide +kernel
theorem dX4_reasonAgainst_18 : decode cX4_reasonAgainst 18 = .ok (.invokevirtual 74, 3) := by decide +kernel
theorem dX4_reasonAgainst_21 : decode cX4_reasonAgainst 21 = .ok (.istore 4, 2) := by decide +kernel
theorem dX4_reasonAgainst_23 : decode cX4_reasonAgainst 23 = .ok (.aload_n 0, 1) := by decide +kernel
theorem dX4_reasonAgainst_24 : decode cX4_reasonAgainst 24 = .ok (.iload 4, 2) := by decide +kernel
theorem dX4_reasonAgainst_26 : decode cX4_reasonAgainst 26 = .ok (.invokevirtual 62, 3) := by decide +kernel
theorem dX4_reasonAgainst_29 : decode cX4_reasonAgainst 29 = .ok (.lload_n 2, 1) := by decide +kernel
theorem dX4_reasonAgainst_30 : decode cX4_reasonAgainst 30 = .ok (.lor, 1) := by decide +kernel
theorem dX4_reasonAgainst_31 : decode cX4_reasonAgainst 31 = .ok (.lstore 5, 2) := by decide +kernel
theorem dX4_reasonAgainst_33 : decode cX4_reasonAgainst 33 = .ok (.aload_n 0, 1) := by decide +kernel
theorem dX4_reasonAgainst_34 : decode cX4_reasonAgainst 34 = .ok (.iload 4, 2) := by decide +kernel
theorem dX4_reasonAgainst_36 : decode cX4_reasonAgainst 36 = .ok (.invokestatic 78, 3) := by decide +kernel
theorem dX4_reasonAgainst_39 : decode cX4_reasonAgainst 39 = .ok (.invokevirtual 62, 3) := by decide +kernel
theorem dX4_reasonAgainst_42 : decode cX4_reasonAgainst 42 = .ok (.lstore 7, 2) := by decide +kernel
theorem dX4_reasonAgainst_44 : decode cX4_reasonAgainst 44 = .ok (.aload_n 0, 1) := by decide +kernel
theorem dX4_reasonAgainst_45 : decode cX4_reasonAgainst 45 = .ok (.getfield 9, 3) := by decide +kernel
theorem dX4_reasonAgainst_48 : decode cX4_reasonAgainst 48 = .ok (.aload_n 0, 1) := by decide +kernel
theorem dX4_reasonAgainst_49 : decode cX4_reasonAgainst 49 = .ok (.getfield 9, 3) := by decide +kernel
theorem dX4_reasonAgainst_52 : decode cX4_reasonAgainst 52 = .ok (.aload_n 0, 1) := by decide +kernel
theorem dX4_reasonAgainst_53 : decode cX4_reasonAgainst 53 = .ok (.getfield 9, 3) := by decide +kernel
theorem dX4_reasonAgainst_56 : decode cX4_reasonAgainst 56 = .ok (.getfield 54, 3) := by decide +kernel
theorem dX4_reasonAgainst_59 : decode cX4_reasonAgainst 59 = .ok (.lload 5, 2) := by decide +kernel
theorem dX4_reasonAgainst_61 : decode cX4_reasonAgainst 61 = .ok (.lload 7, 2) := by decide +kernel
theorem dX4_reasonAgainst_63 : decode cX4_reasonAgainst 63 = .ok (.lor, 1) := by decide +kernel
theorem dX4_reasonAgainst_64 : decode cX4_reasonAgainst 64 = .ok (.ldc2_w 60, 3) := by decide +kernel
theorem dX4_reasonAgainst_67 : decode cX4_reasonAgainst 67 = .ok (.lxor, 1) := by decide +kernel
theorem dX4_reasonAgainst_68 : decode cX4_reasonAgainst 68 = .ok (.land, 1) := by decide +kernel
theorem dX4_reasonAgainst_69 : decode cX4_reasonAgainst 69 = .ok (.invokevirtual 81, 3) := by decide +kernel
theorem dX4_reasonAgainst_72 : decode cX4_reasonAgainst 72 = .ok (.lload 7, 2) := by decide +kernel
theorem dX4_reasonAgainst_74 : decode cX4_reasonAgainst 74 = .ok (.invokevirtual 85, 3) := by decide +kernel
theorem dX4_reasonAgainst_77 : decode cX4_reasonAgainst 77 = .ok (.lstore 7, 2) := by decide +kernel
theorem dX4_reasonAgainst_79 : decode cX4_reasonAgainst 79 = .ok (.aload_n 0, 1) := by decide +kernel
theorem dX4_reasonAgainst_80 : decode cX4_reasonAgainst 80 = .ok (.getfield 9, 3) := by decide +kernel
theorem dX4_reasonAgainst_83 : decode cX4_reasonAgainst 83 = .ok (.getfield 54, 3) := by decide +kernel
theorem dX4_reasonAgainst_86 : decode cX4_reasonAgainst 86 = .ok (.lload 5, 2) := by decide +kernel
theorem dX4_reasonAgainst_88 : decode cX4_reasonAgainst 88 = .ok (.lload 7, 2) := by decide +kernel
theorem dX4_reasonAgainst_90 : decode cX4_reasonAgainst 90 = .ok (.lor, 1) := by decide +kernel
theorem dX4_reasonAgainst_91 : decode cX4_reasonAgainst 91 = .ok (.ldc2_w 60, 3) := by decide +kernel
theorem dX4_reasonAgainst_94 : decode cX4_reasonAgainst 94 = .ok (.lxor, 1) := by decide +kernel
theorem dX4_reasonAgainst_95 : decode cX4_reasonAgainst 95 = .ok (.land, 1) := by decide +kernel
theorem dX4_reasonAgainst_96 : decode cX4_reasonAgainst 96 = .ok (.lstore 9, 2) := by decide +kernel
theorem dX4_reasonAgainst_98 : decode cX4_reasonAgainst 98 = .ok (.aload_n 0, 1) := by decide +kernel
theorem dX4_reasonAgainst_99 : decode cX4_reasonAgainst 99 = .ok (.getfield 9, 3) := by decide +kernel
theorem dX4_reasonAgainst_102 : decode cX4_reasonAgainst 102 = .ok (.aload_n 0, 1) := by decide +kernel
theorem dX4_reasonAgainst_103 : decode cX4_reasonAgainst 103 = .ok (.getfield 9, 3) := by decide +kernel
theorem dX4_reasonAgainst_106 : decode cX4_reasonAgainst 106 = .ok (.lload_n 2, 1) := by decide +kernel
theorem dX4_reasonAgainst_107 : decode cX4_reasonAgainst 107 = .ok (.lload 5, 2) := by decide +kernel
theorem dX4_reasonAgainst_109 : decode cX4_reasonAgainst 109 = .ok (.invokevirtual 85, 3) := by decide +kernel
theorem dX4_reasonAgainst_112 : decode cX4_reasonAgainst 112 = .ok (.invokevirtual 81, 3) := by decide +kernel
theorem dX4_reasonAgainst_115 : decode cX4_reasonAgainst 115 = .ok (.lload 9, 2) := by decide +kernel
theorem dX4_reasonAgainst_117 : decode cX4_reasonAgainst 117 = .ok (.land, 1) := by decide +kernel
theorem dX4_reasonAgainst_118 : decode cX4_reasonAgainst 118 = .ok (.lconst 0, 1) := by decide +kernel
theorem dX4_reasonAgainst_119 : decode cX4_reasonAgainst 119 = .ok (.lcmp, 1) := by decide +kernel
theorem dX4_reasonAgainst_120 : decode cX4_reasonAgainst 120 = .ok (.ifCond .ne 5, 3) := by decide +kernel
theorem dX4_reasonAgainst_123 : decode cX4_reasonAgainst 123 = .ok (.iconst 2, 1) := by decide +kernel
theorem dX4_reasonAgainst_124 : decode cX4_reasonAgainst 124 = .ok (.ireturn, 1) := by decide +kernel
theorem dX4_reasonAgainst_125 : decode cX4_reasonAgainst 125 = .ok (.aload_n 0, 1) := by decide +kernel
theorem dX4_reasonAgainst_126 : decode cX4_reasonAgainst 126 = .ok (.iload 4, 2) := by decide +kernel
theorem dX4_reasonAgainst_128 : decode cX4_reasonAgainst 128 = .ok (.iconst 1, 1) := by decide +kernel
theorem dX4_reasonAgainst_129 : decode cX4_reasonAgainst 129 = .ok (.if_icmp .ne 8, 3) := by decide +kernel
theorem dX4_reasonAgainst_132 : decode cX4_reasonAgainst 132 = .ok (.lload 5, 2) := by decide +kernel
theorem dX4_reasonAgainst_134 : decode cX4_reasonAgainst 134 = .ok (.goto 5, 3) := by decide +kernel
theorem dX4_reasonAgainst_137 : decode cX4_reasonAgainst 137 = .ok (.lload 7, 2) := by decide +kernel
theorem dX4_reasonAgainst_139 : decode cX4_reasonAgainst 139 = .ok (.putfield 89, 3) := by decide +kernel
theorem dX4_reasonAgainst_142 : decode cX4_reasonAgainst 142 = .ok (.aload_n 0, 1) := by decide +kernel
theorem dX4_reasonAgainst_143 : decode cX4_reasonAgainst 143 = .ok (.iload 4, 2) := by decide +kernel
theorem dX4_reasonAgainst_145 : decode cX4_reasonAgainst 145 = .ok (.iconst 1, 1) := by decide +kernel
theorem dX4_reasonAgainst_146 : decode cX4_reasonAgainst 146 = .ok (.if_icmp .ne 8, 3) := by decide +kernel
theorem dX4_reasonAgainst_149 : decode cX4_reasonAgainst 149 = .ok (.lload 7, 2) := by decide +kernel
theorem dX4_reasonAgainst_151 : decode cX4_reasonAgainst 151 = .ok (.goto 5, 3) := by decide +kernel
theorem dX4_reasonAgainst_154 : decode cX4_reasonAgainst 154 = .ok (.lload 5, 2) := by decide +kernel
theorem dX4_reasonAgainst_156 : decode cX4_reasonAgainst 156 = .ok (.putfield 92, 3) := by decide +kernel
theorem dX4_reasonAgainst_159 : decode cX4_reasonAgainst 159 = .ok (.aload_n 0, 1) := by decide +kernel
theorem dX4_reasonAgainst_160 : decode cX4_reasonAgainst 160 = .ok (.invokevirtual 95, 3) := by decide +kernel
theorem dX4_reasonAgainst_163 : decode cX4_reasonAgainst 163 = .ok (.ifCond .eq 7, 3) := by decide +kernel
theorem dX4_reasonAgainst_166 : decode cX4_reasonAgainst 166 = .ok (.iconst 3, 1) := by decide +kernel
theorem dX4_reasonAgainst_167 : decode cX4_reasonAgainst 167 = .ok (.goto 4, 3) := by decide +kernel
theorem dX4_reasonAgainst_170 : decode cX4_reasonAgainst 170 = .ok (.iconst 0, 1) := by decide +kernel
theorem dX4_reasonAgainst_171 : decode cX4_reasonAgainst 171 = .ok (.ireturn, 1) := by decide +kernel
set_option maxRecDepth 20000 in
theorem ggX4_isRefusedByLaw_X4_moverThen : GoodIn wsX4_isRefusedByLaw wsX4_moverThen := goodIn_r _ [9, 10, 17, 18, 19, 20, 21, 22, 23, 24, 25] (by decide +kernel) (by decide +kernel)
set_option maxRecDepth 20000 in
theorem gX4_isRefusedByLaw_X4_moverThen : GoodIn wsX4_isRefusedByLaw (wsV RX4 50 RX4 yX4_moverThen wsX4_moverThen) := goodIn_app (goodIn_of _ (by decide +kernel)) ggX4_isRefusedByLaw_X4_moverThen
set_option maxRecDepth 20000 in
theorem ggX4_isRefusedByLaw_X4_stonesThen : GoodIn wsX4_isRefusedByLaw wsX4_stonesThen := goodIn_r _ [14, 15, 16, 17, 18, 19, 20, 21, 22, 23, 24, 25] (by decide +kernel) (by decide +kernel)
set_option maxRecDepth 20000 in
theorem gX4_isRefusedByLaw_X4_stonesThen : GoodIn wsX4_isRefusedByLaw (wsV RX4 46 RX4 yX4_stonesThen wsX4_stonesThen) := goodIn_app (goodIn_of _ (by decide +kernel)) ggX4_isRefusedByLaw_X4_stonesThen
theorem dX4_isRefusedByLaw_0 : decode cX4_isRefusedByLaw 0 = .ok (.aload_n 0, 1) := by decide +kernel
theorem dX4_isRefusedByLaw_1 : decode cX4_isRefusedByLaw 1 = .ok (.getfield 32, 3) := by decide +kernel
theorem dX4_isRefusedByLaw_4 : decode cX4_isRefusedByLaw 4 = .ok (.ifCond .ne 12, 3) := by decide +kernel
theorem dX4_isRefusedByLaw_7 : decode cX4_isRefusedByLaw 7 = .ok (.aload_n 0, 1) := by decide +kernel
theorem dX4_isRefusedByLaw_8 : decode cX4_isRefusedByLaw 8 = .ok (.getfield 36, 3) := by decide +kernel
theorem dX4_isRefusedByLaw_11 : decode cX4_isRefusedByLaw 11 = .ok (.iconst 1, 1) := by decide +kernel
theorem dX4_isRefusedByLaw_12 : decode cX4_isRefusedByLaw 12 = .ok (.isub, 1) := by decide +kernel
theorem dX4_isRefusedByLaw_13 : decode cX4_isRefusedByLaw 13 = .ok (.goto 4, 3) := by decide +kernel
theorem dX4_isRefusedByLaw_16 : decode cX4_isRefusedByLaw 16 = .ok (.iconst 0, 1) := by decide +kernel
theorem dX4_isRefusedByLaw_17 : decode cX4_isRefusedByLaw 17 = .ok (.istore_n 1, 1) := by decide +kernel
theorem dX4_isRefusedByLaw_18 : decode cX4_isRefusedByLaw 18 = .ok (.aload_n 0, 1) := by decide +kernel
theorem dX4_isRefusedByLaw_19 : decode cX4_isRefusedByLaw 19 = .ok (.getfield 36, 3) := by decide +kernel
theorem dX4_isRefusedByLaw_22 : decode cX4_isRefusedByLaw 22 = .ok (.iconst 1, 1) := by decide +kernel
theorem dX4_isRefusedByLaw_23 : decode cX4_isRefusedByLaw 23 = .ok (.isub, 1) := by decide +kernel
theorem dX4_isRefusedByLaw_24 : decode cX4_isRefusedByLaw 24 = .ok (.istore_n 2, 1) := by decide +kernel
theorem dX4_isRefusedByLaw_25 : decode cX4_isRefusedByLaw 25 = .ok (.iload_n 2, 1) := by decide +kernel
theorem dX4_isRefusedByLaw_26 : decode cX4_isRefusedByLaw 26 = .ok (.iload_n 1, 1) := by decide +kernel
theorem dX4_isRefusedByLaw_27 : decode cX4_isRefusedByLaw 27 = .ok (.if_icmp .lt 79, 3) := by decide +kernel
theorem dX4_isRefusedByLaw_30 : decode cX4_isRefusedByLaw 30 = .ok (.iload_n 2, 1) := by decide +kernel
theorem dX4_isRefusedByLaw_31 : decode cX4_isRefusedByLaw 31 = .ok (.ifCond .lt 75, 3) := by decide +kernel
theorem dX4_isRefusedByLaw_34 : decode cX4_isRefusedByLaw 34 = .ok (.aload_n 0, 1) := by decide +kernel
theorem dX4_isRefusedByLaw_35 : decode cX4_isRefusedByLaw 35 = .ok (.getfield 32, 3) := by decide +kernel
theorem dX4_isRefusedByLaw_38 : decode cX4_isRefusedByLaw 38 = .ok (.iconst 2, 1) := by decide +kernel
theorem dX4_isRefusedByLaw_39 : decode cX4_isRefusedByLaw 39 = .ok (.if_icmp .ne 21, 3) := by decide +kernel
theorem dX4_isRefusedByLaw_42 : decode cX4_isRefusedByLaw 42 = .ok (.aload_n 0, 1) := by decide +kernel
theorem dX4_isRefusedByLaw_43 : decode cX4_isRefusedByLaw 43 = .ok (.iload_n 2, 1) := by decide +kernel
theorem dX4_isRefusedByLaw_44 : decode cX4_isRefusedByLaw 44 = .ok (.invokevirtual 50, 3) := by decide +kernel
theorem dX4_isRefusedByLaw_47 : decode cX4_isRefusedByLaw 47 = .ok (.aload_n 0, 1) := by decide +kernel
theorem dX4_isRefusedByLaw_48 : decode cX4_isRefusedByLaw 48 = .ok (.aload_n 0, 1) := by decide +kernel
theorem dX4_isRefusedByLaw_49 : decode cX4_isRefusedByLaw 49 = .ok (.getfield 36, 3) := by decide +kernel
theorem dX4_isRefusedByLaw_52 : decode cX4_isRefusedByLaw 52 = .ok (.iconst 1, 1) := by decide +kernel
theorem dX4_isRefusedByLaw_53 : decode cX4_isRefusedByLaw 53 = .ok (.iadd, 1) := by decide +kernel
theorem dX4_isRefusedByLaw_54 : decode cX4_isRefusedByLaw 54 = .ok (.invokevirtual 50, 3) := by decide +kernel
theorem dX4_isRefusedByLaw_57 : decode cX4_isRefusedByLaw 57 = .ok (.if_icmp .ne 7, 3) := by decide +kernel
theorem dX4_isRefusedByLaw_60 : decode cX4_isRefusedByLaw 60 = .ok (.iconst 1, 1) := by decide +kernel
theorem dX4_isRefusedByLaw_61 : decode cX4_isRefusedByLaw 61 = .ok (.goto 4, 3) := by decide +kernel
theorem dX4_isRefusedByLaw_64 : decode cX4_isRefusedByLaw 64 = .ok (.iconst 0, 1) := by decide +kernel
theorem dX4_isRefusedByLaw_65 : decode cX4_isRefusedByLaw 65 = .ok (.istore_n 3, 1) := by decide +kernel
theorem dX4_isRefusedByLaw_66 : decode cX4_isRefusedByLaw 66 = .ok (.iload_n 3, 1) := by decide +kernel
theorem dX4_isRefusedByLaw_67 : decode cX4_isRefusedByLaw 67 = .ok (.ifCond .eq 33, 3) := by decide +kernel
theorem dX4_isRefusedByLaw_70 : decode cX4_isRefusedByLaw 70 = .ok (.aload_n 0, 1) := by decide +kernel
theorem dX4_isRefusedByLaw_71 : decode cX4_isRefusedByLaw 71 = .ok (.iload_n 2, 1) := by decide +kernel
theorem dX4_isRefusedByLaw_72 : decode cX4_isRefusedByLaw 72 = .ok (.iconst 1, 1) := by decide +kernel
theorem dX4_isRefusedByLaw_73 : decode cX4_isRefusedByLaw 73 = .ok (.invokevirtual 46, 3) := by decide +kernel
theorem dX4_isRefusedByLaw_76 : decode cX4_isRefusedByLaw 76 = .ok (.aload_n 0, 1) := by decide +kernel
theorem dX4_isRefusedByLaw_77 : decode cX4_isRefusedByLaw 77 = .ok (.getfield 89, 3) := by decide +kernel
theorem dX4_isRefusedByLaw_80 : decode cX4_isRefusedByLaw 80 = .ok (.lcmp, 1) := by decide +kernel
theorem dX4_isRefusedByLaw_81 : decode cX4_isRefusedByLaw 81 = .ok (.ifCond .ne 19, 3) := by decide +kernel
theorem dX4_isRefusedByLaw_84 : decode cX4_isRefusedByLaw 84 = .ok (.aload_n 0, 1) := by decide +kernel
theorem dX4_isRefusedByLaw_85 : decode cX4_isRefusedByLaw 85 = .ok (.iload_n 2, 1) := by decide +kernel
theorem dX4_isRefusedByLaw_86 : decode cX4_isRefusedByLaw 86 = .ok (.iconst 2, 1) := by decide +kernel
theorem dX4_isRefusedByLaw_87 : decode cX4_isRefusedByLaw 87 = .ok (.invokevirtual 46, 3) := by decide +kernel
theorem dX4_isRefusedByLaw_90 : decode cX4_isRefusedByLaw 90 = .ok (.aload_n 0, 1) := by decide +kernel
theorem dX4_isRefusedByLaw_91 : decode cX4_isRefusedByLaw 91 = .ok (.getfield 92, 3) := by decide +kernel
theorem dX4_isRefusedByLaw_94 : decode cX4_isRefusedByLaw 94 = .ok (.lcmp, 1) := by decide +kernel
theorem dX4_isRefusedByLaw_95 : decode cX4_isRefusedByLaw 95 = .ok (.ifCond .ne 5, 3) := by decide +kernel
theorem dX4_isRefusedByLaw_98 : decode cX4_isRefusedByLaw 98 = .ok (.iconst 1, 1) := by decide +kernel
theorem dX4_isRefusedByLaw_99 : decode cX4_isRefusedByLaw 99 = .ok (.ireturn, 1) := by decide +kernel
theorem dX4_isRefusedByLaw_100 : decode cX4_isRefusedByLaw 100 = .ok (.iinc 2 (-1), 3) := by decide +kernel
theorem dX4_isRefusedByLaw_103 : decode cX4_isRefusedByLaw 103 = .ok (.goto (-78), 3) := by decide +kernel
theorem dX4_isRefusedByLaw_106 : decode cX4_isRefusedByLaw 106 = .ok (.iconst 0, 1) := by decide +kernel
theorem dX4_isRefusedByLaw_107 : decode cX4_isRefusedByLaw 107 = .ok (.ireturn, 1) := by decide +kernel
set_option maxRecDepth 20000 in
theorem ggX4_add_X4_stonesOf : GoodIn wsX4_add wsX4_stonesOf := goodIn_r _ [12, 1, 13, 14, 15, 11, 16, 2, 17, 71, 72, 73, 74, 75, 76, 77, 78, 79] (by decide +kernel) (by decide +kernel)
set_option maxRecDepth 20000 in
theorem gX4_add_X4_stonesOf : GoodIn wsX4_add (wsV RX4 62 RX4 yX4_stonesOf wsX4_stonesOf) := goodIn_app (goodIn_of _ (by decide +kernel)) ggX4_add_X4_stonesOf
set_option maxRecDepth 20000 in
theorem ggX4_add_X4_keep : GoodIn wsX4_add wsX4_keep := goodIn_r _ [21, 2, 17, 71, 72, 73, 74, 75, 76, 77, 78, 79] (by decide +kernel) (by decide +kernel)
set_option maxRecDepth 20000 in
theorem gX4_add_X4_keep : GoodIn wsX4_add (wsV RX4 42 RX4 yX4_keep wsX4_keep) := goodIn_app (goodIn_of _ (by decide +kernel)) ggX4_add_X4_keep
set_option maxRecDepth 20000 in
theorem ggX4_add_X2_has : GoodIn wsX4_add wsX2_has := goodIn_r _ [26, 27, 80, 81, 82, 83, 84, 85] (by decide +kernel) (by decide +kernel)
set_option maxRecDepth 20000 in
theorem gX4_add_X2_has : GoodIn wsX4_add (wsV RX4 102 RX2 yX2_has wsX2_has) := goodIn_app (goodIn_of _ (by decide +kernel)) ggX4_add_X2_has
set_option maxRecDepth 20000 in
theorem ggX4_add_X4_reasonAgainst : GoodIn wsX4_add wsX4_reasonAgainst := goodIn_r _ [31, 4, 32, 33, 6, 7, 34, 35, 36, 11, 37, 1, 13, 14, 15, 16, 2, 17, 38, 39, 25, 40, 41, 42, 43, 44, 45, 46, 47, 48, 49, 8, 9, 10, 12, 50, 51, 52, 53, 54, 55, 56, 57, 58, 59, 60, 61, 62, 63, 64, 65, 66, 67, 68, 69, 70, 71, 72, 73, 74, 75, 76, 77, 78, 79, 80, 81, 82, 83, 84, 85] (by decide +kernel) (by decide +kernel)
set_option maxRecDepth 20000 in
theorem gX4_add_X4_reasonAgainst : GoodIn wsX4_add (wsV RX4 106 RX4 yX4_reasonAgainst wsX4_reasonAgainst) := goodIn_app (goodIn_of _ (by decide +kernel)) ggX4_add_X4_reasonAgainst
theorem dX4_add_0 : decode cX4_add 0 = .ok (.aload_n 0, 1) := by decide +kernel
theorem dX4_add_1 : decode cX4_add 1 = .ok (.getfield 36, 3) := by decide +kernel
theorem dX4_add_4 : decode cX4_add 4 = .ok (.iconst 1, 1) := by decide +kernel
theorem dX4_add_5 : decode cX4_add 5 = .ok (.iadd, 1) := by decide +kernel
theorem dX4_add_6 : decode cX4_add 6 = .ok (.aload_n 0, 1) := by decide +kernel
theorem dX4_add_7 : decode cX4_add 7 = .ok (.getfield 21, 3) := by decide +kernel
theorem dX4_add_10 : decode cX4_add 10 = .ok (.arraylength, 1) := by decide +kernel
theorem dX4_add_11 : decode cX4_add 11 = .ok (.if_icmp .ge 22, 3) := by decide +kernel
theorem dX4_add_14 : decode cX4_add 14 = .ok (.aload_n 0, 1) := by decide +kernel
theorem dX4_add_15 : decode cX4_add 15 = .ok (.getfield 36, 3) := by decide +kernel
theorem dX4_add_18 : decode cX4_add 18 = .ok (.ifCond .lt 15, 3) := by decide +kernel
theorem dX4_add_21 : decode cX4_add 21 = .ok (.aload_n 0, 1) := by decide +kernel
theorem dX4_add_22 : decode cX4_add 22 = .ok (.getfield 36, 3) := by decide +kernel
theorem dX4_add_25 : decode cX4_add 25 = .ok (.aload_n 0, 1) := by decide +kernel
theorem dX4_add_26 : decode cX4_add 26 = .ok (.getfield 28, 3) := by decide +kernel
theorem dX4_add_29 : decode cX4_add 29 = .ok (.arraylength, 1) := by decide +kernel
theorem dX4_add_30 : decode cX4_add 30 = .ok (.if_icmp .lt 5, 3) := by decide +kernel
theorem dX4_add_33 : decode cX4_add 33 = .ok (.iconst 0, 1) := by decide +kernel
theorem dX4_add_34 : decode cX4_add 34 = .ok (.ireturn, 1) := by decide +kernel
theorem dX4_add_35 : decode cX4_add 35 = .ok (.iload_n 1, 1) := by decide +kernel
theorem dX4_add_36 : decode cX4_add 36 = .ok (.aload_n 0, 1) := by decide +kernel
theorem dX4_add_37 : decode cX4_add 37 = .ok (.getfield 9, 3) := by decide +kernel
theorem dX4_add_40 : decode cX4_add 40 = .ok (.getfield 99, 3) := by decide +kernel
theorem dX4_add_43 : decode cX4_add 43 = .ok (.if_icmp .ne 26, 3) := by decide +kernel
theorem dX4_add_46 : decode cX4_add 46 = .ok (.aload_n 0, 1) := by decide +kernel
theorem dX4_add_47 : decode cX4_add 47 = .ok (.aload_n 0, 1) := by decide +kernel
theorem dX4_add_48 : decode cX4_add 48 = .ok (.getfield 36, 3) := by decide +kernel
theorem dX4_add_51 : decode cX4_add 51 = .ok (.iconst 1, 1) := by decide +kernel
theorem dX4_add_52 : decode cX4_add 52 = .ok (.iadd, 1) := by decide +kernel
theorem dX4_add_53 : decode cX4_add 53 = .ok (.aload_n 0, 1) := by decide +kernel
theorem dX4_add_54 : decode cX4_add 54 = .ok (.iconst 1, 1) := by decide +kernel
theorem dX4_add_55 : decode cX4_add 55 = .ok (.invokevirtual 62, 3) := by decide +kernel
theorem dX4_add_58 : decode cX4_add 58 = .ok (.aload_n 0, 1) := by decide +kernel
theorem dX4_add_59 : decode cX4_add 59 = .ok (.iconst 2, 1) := by decide +kernel
theorem dX4_add_60 : decode cX4_add 60 = .ok (.invokevirtual 62, 3) := by decide +kernel
theorem dX4_add_63 : decode cX4_add 63 = .ok (.invokevirtual 42, 3) := by decide +kernel
theorem dX4_add_66 : decode cX4_add 66 = .ok (.goto 45, 3) := by decide +kernel
theorem dX4_add_69 : decode cX4_add 69 = .ok (.aload_n 0, 1) := by decide +kernel
theorem dX4_add_70 : decode cX4_add 70 = .ok (.getfield 9, 3) := by decide +kernel
theorem dX4_add_73 : decode cX4_add 73 = .ok (.iload_n 1, 1) := by decide +kernel
theorem dX4_add_74 : decode cX4_add 74 = .ok (.invokevirtual 102, 3) := by decide +kernel
theorem dX4_add_77 : decode cX4_add 77 = .ok (.ifCond .eq 32, 3) := by decide +kernel
theorem dX4_add_80 : decode cX4_add 80 = .ok (.aload_n 0, 1) := by decide +kernel
theorem dX4_add_81 : decode cX4_add 81 = .ok (.iload_n 1, 1) := by decide +kernel
theorem dX4_add_82 : decode cX4_add 82 = .ok (.invokevirtual 106, 3) := by decide +kernel
theorem dX4_add_85 : decode cX4_add 85 = .ok (.ifCond .ne 24, 3) := by decide +kernel
theorem dX4_add_88 : decode cX4_add 88 = .ok (.aload_n 0, 1) := by decide +kernel
theorem dX4_add_89 : decode cX4_add 89 = .ok (.aload_n 0, 1) := by decide +kernel
theorem dX4_add_90 : decode cX4_add 90 = .ok (.getfield 36, 3) := by decide +kernel
theorem dX4_add_93 : decode cX4_add 93 = .ok (.iconst 1, 1) := by decide +kernel
theorem dX4_add_94 : decode cX4_add 94 = .ok (.iadd, 1) := by decide +kernel
theorem dX4_add_95 : decode cX4_add 95 = .ok (.aload_n 0, 1) := by decide +kernel
theorem dX4_add_96 : decode cX4_add 96 = .ok (.getfield 89, 3) := by decide +kernel
theorem dX4_add_99 : decode cX4_add 99 = .ok (.aload_n 0, 1) := by decide +kernel
theorem dX4_add_100 : decode cX4_add 100 = .ok (.getfield 92, 3) := by decide +kernel
theorem dX4_add_103 : decode cX4_add 103 = .ok (.invokevirtual 42, 3) := by decide +kernel
theorem dX4_add_106 : decode cX4_add 106 = .ok (.goto 5, 3) := by decide +kernel
theorem dX4_add_109 : decode cX4_add 109 = .ok (.iconst 0, 1) := by decide +kernel
theorem dX4_add_110 : decode cX4_add 110 = .ok (.ireturn, 1) := by decide +kernel
theorem dX4_add_111 : decode cX4_add 111 = .ok (.aload_n 0, 1) := by decide +kernel
theorem dX4_add_112 : decode cX4_add 112 = .ok (.getfield 28, 3) := by decide +kernel
theorem dX4_add_115 : decode cX4_add 115 = .ok (.aload_n 0, 1) := by decide +kernel
theorem dX4_add_116 : decode cX4_add 116 = .ok (.getfield 36, 3) := by decide +kernel
theorem dX4_add_119 : decode cX4_add 119 = .ok (.iload_n 1, 1) := by decide +kernel
theorem dX4_add_120 : decode cX4_add 120 = .ok (.iastore, 1) := by decide +kernel
theorem dX4_add_121 : decode cX4_add 121 = .ok (.aload_n 0, 1) := by decide +kernel
theorem dX4_add_122 : decode cX4_add 122 = .ok (.dup, 1) := by decide +kernel
theorem dX4_add_123 : decode cX4_add 123 = .ok (.getfield 36, 3) := by decide +kernel
theorem dX4_add_126 : decode cX4_add 126 = .ok (.iconst 1, 1) := by decide +kernel
theorem dX4_add_127 : decode cX4_add 127 = .ok (.iadd, 1) := by decide +kernel
theorem dX4_add_128 : decode cX4_add 128 = .ok (.putfield 36, 3) := by decide +kernel
theorem dX4_add_131 : decode cX4_add 131 = .ok (.iconst 1, 1) := by decide +kernel
theorem dX4_add_132 : decode cX4_add 132 = .ok (.ireturn, 1) := by decide +kernel
theorem dX4_takeBack_0 : decode cX4_takeBack 0 = .ok (.aload_n 0, 1) := by decide +kernel
theorem dX4_takeBack_1 : decode cX4_takeBack 1 = .ok (.aload_n 0, 1) := by decide +kernel
theorem dX4_takeBack_2 : decode cX4_takeBack 2 = .ok (.getfield 36, 3) := by decide +kernel
theorem dX4_takeBack_5 : decode cX4_takeBack 5 = .ok (.iconst 1, 1) := by decide +kernel
theorem dX4_takeBack_6 : decode cX4_takeBack 6 = .ok (.isub, 1) := by decide +kernel
theorem dX4_takeBack_7 : decode cX4_takeBack 7 = .ok (.iconst 0, 1) := by decide +kernel
theorem dX4_takeBack_8 : decode cX4_takeBack 8 = .ok (.invokestatic 15, 3) := by decide +kernel
theorem dX4_takeBack_11 : decode cX4_takeBack 11 = .ok (.putfield 36, 3) := by decide +kernel
theorem dX4_takeBack_14 : decode cX4_takeBack 14 = .ok (.return_, 1) := by decide +kernel
set_option maxRecDepth 20000 in
theorem ggX4_passesNow_X4_actAt : GoodIn wsX4_passesNow wsX4_actAt := goodIn_r _ [8, 1, 9, 10, 11, 12, 13, 14, 15, 16, 17, 18] (by decide +kernel) (by decide +kernel)
set_option maxRecDepth 20000 in
theorem gX4_passesNow_X4_actAt : GoodIn wsX4_passesNow (wsV RX4 109 RX4 yX4_actAt wsX4_actAt) := goodIn_app (goodIn_of _ (by decide +kernel)) ggX4_passesNow_X4_actAt
theorem dX4_passesNow_0 : decode cX4_passesNow 0 = .ok (.iconst 0, 1) := by decide +kernel
theorem dX4_passesNow_1 : decode cX4_passesNow 1 = .ok (.istore_n 1, 1) := by decide +kernel
theorem dX4_passesNow_2 : decode cX4_passesNow 2 = .ok (.aload_n 0, 1) := by decide +kernel
theorem dX4_passesNow_3 : decode cX4_passesNow 3 = .ok (.getfield 36, 3) := by decide +kernel
theorem dX4_passesNow_6 : decode cX4_passesNow 6 = .ok (.iconst 1, 1) := by decide +kernel
theorem dX4_passesNow_7 : decode cX4_passesNow 7 = .ok (.isub, 1) := by decide +kernel
theorem dX4_passesNow_8 : decode cX4_passesNow 8 = .ok (.istore_n 2, 1) := by decide +kernel
theorem dX4_passesNow_9 : decode cX4_passesNow 9 = .ok (.iload_n 2, 1) := by decide +kernel
theorem dX4_passesNow_10 : decode cX4_passesNow 10 = .ok (.ifCond .lt 27, 3) := by decide +kernel
theorem dX4_passesNow_13 : decode cX4_passesNow 13 = .ok (.aload_n 0, 1) := by decide +kernel
theorem dX4_passesNow_14 : decode cX4_passesNow 14 = .ok (.iload_n 2, 1) := by decide +kernel
theorem dX4_passesNow_15 : decode cX4_passesNow 15 = .ok (.invokevirtual 109, 3) := by decide +kernel
theorem dX4_passesNow_18 : decode cX4_passesNow 18 = .ok (.aload_n 0, 1) := by decide +kernel
theorem dX4_passesNow_19 : decode cX4_passesNow 19 = .ok (.getfield 9, 3) := by decide +kernel
theorem dX4_passesNow_22 : decode cX4_passesNow 22 = .ok (.getfield 99, 3) := by decide +kernel
theorem dX4_passesNow_25 : decode cX4_passesNow 25 = .ok (.if_icmp .ne 12, 3) := by decide +kernel
theorem dX4_passesNow_28 : decode cX4_passesNow 28 = .ok (.iinc 1 1, 3) := by decide +kernel
theorem dX4_passesNow_31 : decode cX4_passesNow 31 = .ok (.iinc 2 (-1), 3) := by decide +kernel
theorem dX4_passesNow_34 : decode cX4_passesNow 34 = .ok (.goto (-25), 3) := by decide +kernel
theorem dX4_passesNow_37 : decode cX4_passesNow 37 = .ok (.iload_n 1, 1) := by decide +kernel
theorem dX4_passesNow_38 : decode cX4_passesNow 38 = .ok (.ireturn, 1) := by decide +kernel
set_option maxRecDepth 20000 in
theorem ggX4_takenBy_X4_stonesThen : GoodIn wsX4_takenBy wsX4_stonesThen := goodIn_r _ [6, 7, 8, 16, 17, 18, 19, 20, 21, 22, 23, 24] (by decide +kernel) (by decide +kernel)
set_option maxRecDepth 20000 in
theorem gX4_takenBy_X4_stonesThen : GoodIn wsX4_takenBy (wsV RX4 46 RX4 yX4_stonesThen wsX4_stonesThen) := goodIn_app (goodIn_of _ (by decide +kernel)) ggX4_takenBy_X4_stonesThen
set_option maxRecDepth 20000 in
theorem ggX4_takenBy_J13_bitCount_95d88 : GoodIn wsX4_takenBy wsJ13_bitCount_95d88 := goodIn_r _ [12, 13, 14, 15] (by decide +kernel) (by decide +kernel)
set_option maxRecDepth 20000 in
theorem gX4_takenBy_J13_bitCount_95d88 : GoodIn wsX4_takenBy (va_wsS RX4 112 yJ13_bitCount_95d88 wsJ13_bitCount_95d88) := goodIn_app (goodIn_of _ (by decide +kernel)) ggX4_takenBy_J13_bitCount_95d88
theorem dX4_takenBy_0 : decode cX4_takenBy 0 = .ok (.aload_n 0, 1) := by decide +kernel
theorem dX4_takenBy_1 : decode cX4_takenBy 1 = .ok (.iload_n 1, 1) := by decide +kernel
theorem dX4_takenBy_2 : decode cX4_takenBy 2 = .ok (.iconst 1, 1) := by decide +kernel
theorem dX4_takenBy_3 : decode cX4_takenBy 3 = .ok (.isub, 1) := by decide +kernel
theorem dX4_takenBy_4 : decode cX4_takenBy 4 = .ok (.iload_n 2, 1) := by decide +kernel
theorem dX4_takenBy_5 : decode cX4_takenBy 5 = .ok (.invokevirtual 46, 3) := by decide +kernel
theorem dX4_takenBy_8 : decode cX4_takenBy 8 = .ok (.aload_n 0, 1) := by decide +kernel
theorem dX4_takenBy_9 : decode cX4_takenBy 9 = .ok (.iload_n 1, 1) := by decide +kernel
theorem dX4_takenBy_10 : decode cX4_takenBy 10 = .ok (.iload_n 2, 1) := by decide +kernel
theorem dX4_takenBy_11 : decode cX4_takenBy 11 = .ok (.invokevirtual 46, 3) := by decide +kernel
theorem dX4_takenBy_14 : decode cX4_takenBy 14 = .ok (.ldc2_w 60, 3) := by decide +kernel
theorem dX4_takenBy_17 : decode cX4_takenBy 17 = .ok (.lxor, 1) := by decide +kernel
theorem dX4_takenBy_18 : decode cX4_takenBy 18 = .ok (.land, 1) := by decide +kernel
theorem dX4_takenBy_19 : decode cX4_takenBy 19 = .ok (.invokestatic 112, 3) := by decide +kernel
theorem dX4_takenBy_22 : decode cX4_takenBy 22 = .ok (.ireturn, 1) := by decide +kernel
set_option maxRecDepth 20000 in
theorem ggX4_taken_X4_takenBy : GoodIn wsX4_taken wsX4_takenBy := goodIn_r _ [6, 7, 8, 9, 10, 5, 11, 12, 13, 14, 15, 16, 17, 18, 19, 20, 21, 22, 23, 24, 25, 26, 27, 28, 29] (by decide +kernel) (by decide +kernel)
set_option maxRecDepth 20000 in
theorem gX4_taken_X4_takenBy : GoodIn wsX4_taken (wsV RX4 118 RX4 yX4_takenBy wsX4_takenBy) := goodIn_app (goodIn_of _ (by decide +kernel)) ggX4_taken_X4_takenBy
theorem dX4_taken_0 : decode cX4_taken 0 = .ok (.iconst 0, 1) := by decide +kernel
theorem dX4_taken_1 : decode cX4_taken 1 = .ok (.istore_n 2, 1) := by decide +kernel
theorem dX4_taken_2 : decode cX4_taken 2 = .ok (.iconst 1, 1) := by decide +kernel
theorem dX4_taken_3 : decode cX4_taken 3 = .ok (.istore_n 3, 1) := by decide +kernel
theorem dX4_taken_4 : decode cX4_taken 4 = .ok (.iload_n 3, 1) := by decide +kernel
theorem dX4_taken_5 : decode cX4_taken 5 = .ok (.aload_n 0, 1) := by decide +kernel
theorem dX4_taken_6 : decode cX4_taken 6 = .ok (.getfield 36, 3) := by decide +kernel
theorem dX4_taken_9 : decode cX4_taken 9 = .ok (.if_icmp .gt 18, 3) := by decide +kernel
theorem dX4_taken_12 : decode cX4_taken 12 = .ok (.iload_n 2, 1) := by decide +kernel
theorem dX4_taken_13 : decode cX4_taken 13 = .ok (.aload_n 0, 1) := by decide +kernel
theorem dX4_taken_14 : decode cX4_taken 14 = .ok (.iload_n 3, 1) := by decide +kernel
theorem dX4_taken_15 : decode cX4_taken 15 = .ok (.iload_n 1, 1) := by decide +kernel
theorem dX4_taken_16 : decode cX4_taken 16 = .ok (.invokevirtual 118, 3) := by decide +kernel
theorem dX4_taken_19 : decode cX4_taken 19 = .ok (.iadd, 1) := by decide +kernel
theorem dX4_taken_20 : decode cX4_taken 20 = .ok (.istore_n 2, 1) := by decide +kernel
theorem dX4_taken_21 : decode cX4_taken 21 = .ok (.iinc 3 1, 3) := by decide +kernel
theorem dX4_taken_24 : decode cX4_taken 24 = .ok (.goto (-20), 3) := by decide +kernel
theorem dX4_taken_27 : decode cX4_taken 27 = .ok (.iload_n 2, 1) := by decide +kernel
theorem dX4_taken_28 : decode cX4_taken 28 = .ok (.ireturn, 1) := by decide +kernel
theorem dX5_init_0 : decode cX5_init 0 = .ok (.aload_n 0, 1) := by decide +kernel
theorem dX5_init_1 : decode cX5_init 1 = .ok (.invokespecial 3, 3) := by decide +kernel
theorem dX5_init_4 : decode cX5_init 4 = .ok (.return_, 1) := by decide +kernel
theorem dX5_oneMore_0 : decode cX5_oneMore 0 = .ok (.aload_n 0, 1) := by decide +kernel
theorem dX5_oneMore_1 : decode cX5_oneMore 1 = .ok (.getfield 9, 3) := by decide +kernel
theorem dX5_oneMore_4 : decode cX5_oneMore 4 = .ok (.sipush 600, 3) := by decide +kernel
theorem dX5_oneMore_7 : decode cX5_oneMore 7 = .ok (.if_icmp .lt 5, 3) := by decide +kernel
theorem dX5_oneMore_10 : decode cX5_oneMore 10 = .ok (.iconst 0, 1) := by decide +kernel
theorem dX5_oneMore_11 : decode cX5_oneMore 11 = .ok (.ireturn, 1) := by decide +kernel
theorem dX5_oneMore_12 : decode cX5_oneMore 12 = .ok (.aload_n 0, 1) := by decide +kernel
theorem dX5_oneMore_13 : decode cX5_oneMore 13 = .ok (.dup, 1) := by decide +kernel
theorem dX5_oneMore_14 : decode cX5_oneMore 14 = .ok (.getfield 9, 3) := by decide +kernel
theorem dX5_oneMore_17 : decode cX5_oneMore 17 = .ok (.iconst 1, 1) := by decide +kernel
theorem dX5_oneMore_18 : decode cX5_oneMore 18 = .ok (.iadd, 1) := by decide +kernel
theorem dX5_oneMore_19 : decode cX5_oneMore 19 = .ok (.putfield 9, 3) := by decide +kernel
theorem dX5_oneMore_22 : decode cX5_oneMore 22 = .ok (.iconst 1, 1) := by decide +kernel
theorem dX5_oneMore_23 : decode cX5_oneMore 23 = .ok (.ireturn, 1) := by decide +kernel
set_option maxRecDepth 20000 in
theorem ggX6_init_X2_init : GoodIn wsX6_init wsX2_init := goodIn_r _ [30, 31, 2, 3] (by decide +kernel) (by decide +kernel)
set_option maxRecDepth 20000 in
theorem gX6_init_X2_init_n11 : GoodIn wsX6_init (wsX2_init) := ggX6_init_X2_init
set_option maxRecDepth 20000 in
theorem ggX6_init_X2_measure : GoodIn wsX6_init wsX2_measure := goodIn_r _ [35, 36, 37, 38, 39, 40, 41, 42, 90, 91, 92, 93, 94, 95] (by decide +kernel) (by decide +kernel)
set_option maxRecDepth 20000 in
theorem gX6_init_X2_measure : GoodIn wsX6_init (wsV RX6 16 RX2 yX2_measure wsX2_measure) := goodIn_app (goodIn_of _ (by decide +kernel)) ggX6_init_X2_measure
set_option maxRecDepth 20000 in
theorem ggX6_init_X4_init : GoodIn wsX6_init wsX4_init := goodIn_r _ [45, 46, 2, 3, 47, 48, 49, 50, 51, 52, 53, 54, 55, 56, 103, 104, 105, 106, 107, 108, 109, 110, 111] (by decide +kernel) (by decide +kernel)
set_option maxRecDepth 20000 in
theorem gX6_init_X4_init : GoodIn wsX6_init (wsX4_init) := ggX6_init_X4_init
set_option maxRecDepth 20000 in
theorem ggX6_init_X4_begin : GoodIn wsX6_init wsX4_begin := goodIn_r _ [60, 61, 62, 63, 64, 65, 66, 10, 67, 53, 54, 103, 104, 105, 106, 107, 108, 109, 110, 111] (by decide +kernel) (by decide +kernel)
set_option maxRecDepth 20000 in
theorem gX6_init_X4_begin : GoodIn wsX6_init (wsV RX6 29 RX4 yX4_begin wsX4_begin) := goodIn_app (goodIn_of _ (by decide +kernel)) ggX6_init_X4_begin
set_option maxRecDepth 20000 in
theorem ggX6_init_X3_init : GoodIn wsX6_init wsX3_init := goodIn_r _ [70, 71, 2, 3, 72, 112] (by decide +kernel) (by decide +kernel)
set_option maxRecDepth 20000 in
theorem gX6_init_X3_init : GoodIn wsX6_init (wsX3_init) := ggX6_init_X3_init
set_option maxRecDepth 20000 in
theorem ggX6_init_X5_init : GoodIn wsX6_init wsX5_init := goodIn_r _ [74, 75, 2, 3] (by decide +kernel) (by decide +kernel)
set_option maxRecDepth 20000 in
theorem gX6_init_X5_init_n44 : GoodIn wsX6_init (wsX5_init) := ggX6_init_X5_init
set_option maxRecDepth 20000 in
theorem ggX6_init_X0_init : GoodIn wsX6_init wsX0_init := goodIn_r _ [78, 79, 2, 3, 80, 81, 82, 114, 115, 116, 117, 118] (by decide +kernel) (by decide +kernel)
set_option maxRecDepth 20000 in
theorem gX6_init_X0_init : GoodIn wsX6_init (wsX0_init) := ggX6_init_X0_init
set_option maxRecDepth 20000 in
theorem ggX6_init_X1_init : GoodIn wsX6_init wsX1_init := goodIn_r _ [85, 86, 2, 3, 87, 88, 89, 119, 120, 121, 122, 123, 124] (by decide +kernel) (by decide +kernel)
set_option maxRecDepth 20000 in
theorem gX6_init_X1_init : GoodIn wsX6_init (wsX1_init) := ggX6_init_X1_init
theorem dX6_init_0 : decode cX6_init 0 = .ok (.aload_n 0, 1) := by decide +kernel
theorem dX6_init_1 : decode cX6_init 1 = .ok (.invokespecial 3, 3) := by decide +kernel
theorem dX6_init_4 : decode cX6_init 4 = .ok (.aload_n 0, 1) := by decide +kernel
theorem dX6_init_5 : decode cX6_init 5 = .ok (.new 9, 3) := by decide +kernel
theorem dX6_init_8 : decode cX6_init 8 = .ok (.dup, 1) := by decide +kernel
theorem dX6_init_9 : decode cX6_init 9 = .ok (.invokespecial 11, 3) := by decide +kernel
theorem dX6_init_12 : decode cX6_init 12 = .ok (.putfield 12, 3) := by decide +kernel
theorem dX6_init_15 : decode cX6_init 15 = .ok (.aload_n 0, 1) := by decide +kernel
theorem dX6_init_16 : decode cX6_init 16 = .ok (.getfield 12, 3) := by decide +kernel
theorem dX6_init_19 : decode cX6_init 19 = .ok (.iconst 5, 1) := by decide +kernel
theorem dX6_init_20 : decode cX6_init 20 = .ok (.iconst 5, 1) := by decide +kernel
theorem dX6_init_21 : decode cX6_init 21 = .ok (.invokevirtual 16, 3) := by decide +kernel
theorem dX6_init_24 : decode cX6_init 24 = .ok (.aload_n 0, 1) := by decide +kernel
theorem dX6_init_25 : decode cX6_init 25 = .ok (.new 20, 3) := by decide +kernel
theorem dX6_init_28 : decode cX6_init 28 = .ok (.dup, 1) := by decide +kernel
theorem dX6_init_29 : decode cX6_init 29 = .ok (.aload_n 0, 1) := by decide +kernel
theorem dX6_init_30 : decode cX6_init 30 = .ok (.getfield 12, 3) := by decide +kernel
theorem dX6_init_33 : decode cX6_init 33 = .ok (.bipush 126, 2) := by decide +kernel
theorem dX6_init_35 : decode cX6_init 35 = .ok (.invokespecial 22, 3) := by decide +kernel
theorem dX6_init_38 : decode cX6_init 38 = .ok (.putfield 25, 3) := by decide +kernel
theorem dX6_init_41 : decode cX6_init 41 = .ok (.aload_n 0, 1) := by decide +kernel
theorem dX6_init_42 : decode cX6_init 42 = .ok (.getfield 25, 3) := by decide +kernel
theorem dX6_init_45 : decode cX6_init 45 = .ok (.lconst 0, 1) := by decide +kernel
theorem dX6_init_46 : decode cX6_init 46 = .ok (.lconst 0, 1) := by decide +kernel
theorem dX6_init_47 : decode cX6_init 47 = .ok (.iconst 1, 1) := by decide +kernel
theorem dX6_init_48 : decode cX6_init 48 = .ok (.iconst 0, 1) := by decide +kernel
theorem dX6_init_49 : decode cX6_init 49 = .ok (.invokevirtual 29, 3) := by decide +kernel
theorem dX6_init_52 : decode cX6_init 52 = .ok (.aload_n 0, 1) := by decide +kernel
theorem dX6_init_53 : decode cX6_init 53 = .ok (.new 33, 3) := by decide +kernel
theorem dX6_init_56 : decode cX6_init 56 = .ok (.dup, 1) := by decide +kernel
theorem dX6_init_57 : decode cX6_init 57 = .ok (.aload_n 0, 1) := by decide +kernel
theorem dX6_init_58 : decode cX6_init 58 = .ok (.getfield 12, 3) := by decide +kernel
theorem dX6_init_61 : decode cX6_init 61 = .ok (.invokespecial 35, 3) := by decide +kernel
theorem dX6_init_64 : decode cX6_init 64 = .ok (.putfield 38, 3) := by decide +kernel
theorem dX6_init_67 : decode cX6_init 67 = .ok (.aload_n 0, 1) := by decide +kernel
theorem dX6_init_68 : decode cX6_init 68 = .ok (.new 42, 3) := by decide +kernel
theorem dX6_init_71 : decode cX6_init 71 = .ok (.dup, 1) := by decide +kernel
theorem dX6_init_72 : decode cX6_init 72 = .ok (.invokespecial 44, 3) := by decide +kernel
theorem dX6_init_75 : decode cX6_init 75 = .ok (.putfield 45, 3) := by decide +kernel
theorem dX6_init_78 : decode cX6_init 78 = .ok (.aload_n 0, 1) := by decide +kernel
theorem dX6_init_79 : decode cX6_init 79 = .ok (.new 49, 3) := by decide +kernel
theorem dX6_init_82 : decode cX6_init 82 = .ok (.dup, 1) := by decide +kernel
theorem dX6_init_83 : decode cX6_init 83 = .ok (.aload_n 0, 1) := by decide +kernel
theorem dX6_init_84 : decode cX6_init 84 = .ok (.getfield 12, 3) := by decide +kernel
theorem dX6_init_87 : decode cX6_init 87 = .ok (.new 20, 3) := by decide +kernel
theorem dX6_init_90 : decode cX6_init 90 = .ok (.dup, 1) := by decide +kernel
theorem dX6_init_91 : decode cX6_init 91 = .ok (.aload_n 0, 1) := by decide +kernel
theorem dX6_init_92 : decode cX6_init 92 = .ok (.getfield 12, 3) := by decide +kernel
theorem dX6_init_95 : decode cX6_init 95 = .ok (.bipush 40, 2) := by decide +kernel
theorem dX6_init_97 : decode cX6_init 97 = .ok (.invokespecial 22, 3) := by decide +kernel
theorem dX6_init_100 : decode cX6_init 100 = .ok (.aload_n 0, 1) := by decide +kernel
theorem dX6_init_101 : decode cX6_init 101 = .ok (.getfield 45, 3) := by decide +kernel
theorem dX6_init_104 : decode cX6_init 104 = .ok (.invokespecial 51, 3) := by decide +kernel
theorem dX6_init_107 : decode cX6_init 107 = .ok (.putfield 54, 3) := by decide +kernel
theorem dX6_init_110 : decode cX6_init 110 = .ok (.aload_n 0, 1) := by decide +kernel
theorem dX6_init_111 : decode cX6_init 111 = .ok (.new 58, 3) := by decide +kernel
theorem dX6_init_114 : decode cX6_init 114 = .ok (.dup, 1) := by decide +kernel
theorem dX6_init_115 : decode cX6_init 115 = .ok (.aload_n 0, 1) := by decide +kernel
theorem dX6_init_116 : decode cX6_init 116 = .ok (.getfield 12, 3) := by decide +kernel
theorem dX6_init_119 : decode cX6_init 119 = .ok (.aload_n 0, 1) := by decide +kernel
theorem dX6_init_120 : decode cX6_init 120 = .ok (.getfield 25, 3) := by decide +kernel
theorem dX6_init_123 : decode cX6_init 123 = .ok (.aload_n 0, 1) := by decide +kernel
theorem dX6_init_124 : decode cX6_init 124 = .ok (.getfield 45, 3) := by decide +kernel
theorem dX6_init_127 : decode cX6_init 127 = .ok (.invokespecial 60, 3) := by decide +kernel
theorem dX6_init_130 : decode cX6_init 130 = .ok (.putfield 61, 3) := by decide +kernel
theorem dX6_init_133 : decode cX6_init 133 = .ok (.aload_n 0, 1) := by decide +kernel
theorem dX6_init_134 : decode cX6_init 134 = .ok (.iconst (-1), 1) := by decide +kernel
theorem dX6_init_135 : decode cX6_init 135 = .ok (.putfield 65, 3) := by decide +kernel
theorem dX6_init_138 : decode cX6_init 138 = .ok (.return_, 1) := by decide +kernel
set_option maxRecDepth 20000 in
theorem ggX6_board_X6_isSide : GoodIn wsX6_board wsX6_isSide := goodIn_r _ [7] (by decide +kernel) (by decide +kernel)
set_option maxRecDepth 20000 in
theorem gX6_board_X6_isSide : GoodIn wsX6_board (va_wsS RX6 69 yX6_isSide wsX6_isSide) := goodIn_app (goodIn_of _ (by decide +kernel)) ggX6_board_X6_isSide
set_option maxRecDepth 20000 in
theorem ggX6_board_X2_measure : GoodIn wsX6_board wsX2_measure := goodIn_r _ [12, 13, 14, 15, 16, 17, 18, 19, 50, 51, 52, 53, 54, 55] (by decide +kernel) (by decide +kernel)
set_option maxRecDepth 20000 in
theorem gX6_board_X2_measure : GoodIn wsX6_board (wsV RX6 16 RX2 yX2_measure wsX2_measure) := goodIn_app (goodIn_of _ (by decide +kernel)) ggX6_board_X2_measure
set_option maxRecDepth 20000 in
theorem ggX6_board_X4_begin : GoodIn wsX6_board wsX4_begin := goodIn_r _ [24, 25, 26, 27, 28, 29, 30, 23, 31, 32, 33, 41, 42, 43, 44, 45, 46, 47, 48, 49] (by decide +kernel) (by decide +kernel)
set_option maxRecDepth 20000 in
theorem gX6_board_X4_begin : GoodIn wsX6_board (wsV RX6 29 RX4 yX4_begin wsX4_begin) := goodIn_app (goodIn_of _ (by decide +kernel)) ggX6_board_X4_begin
theorem dX6_board_0 : decode cX6_board 0 = .ok (.iload_n 1, 1) := by decide +kernel
theorem dX6_board_1 : decode cX6_board 1 = .ok (.invokestatic 69, 3) := by decide +kernel
theorem dX6_board_4 : decode cX6_board 4 = .ok (.ifCond .eq 19, 3) := by decide +kernel
theorem dX6_board_7 : decode cX6_board 7 = .ok (.iload_n 2, 1) := by decide +kernel
theorem dX6_board_8 : decode cX6_board 8 = .ok (.invokestatic 69, 3) := by decide +kernel
theorem dX6_board_11 : decode cX6_board 11 = .ok (.ifCond .eq 12, 3) := by decide +kernel
theorem dX6_board_14 : decode cX6_board 14 = .ok (.iload_n 3, 1) := by decide +kernel
theorem dX6_board_15 : decode cX6_board 15 = .ok (.ifCond .lt 8, 3) := by decide +kernel
theorem dX6_board_18 : decode cX6_board 18 = .ok (.iload_n 3, 1) := by decide +kernel
theorem dX6_board_19 : decode cX6_board 19 = .ok (.iconst 2, 1) := by decide +kernel
theorem dX6_board_20 : decode cX6_board 20 = .ok (.if_icmp .le 6, 3) := by decide +kernel
theorem dX6_board_23 : decode cX6_board 23 = .ok (.bipush (-2), 2) := by decide +kernel
theorem dX6_board_25 : decode cX6_board 25 = .ok (.ireturn, 1) := by decide +kernel
theorem dX6_board_26 : decode cX6_board 26 = .ok (.aload_n 0, 1) := by decide +kernel
theorem dX6_board_27 : decode cX6_board 27 = .ok (.getfield 25, 3) := by decide +kernel
theorem dX6_board_30 : decode cX6_board 30 = .ok (.getfield 73, 3) := by decide +kernel
theorem dX6_board_33 : decode cX6_board 33 = .ok (.istore 4, 2) := by decide +kernel
theorem dX6_board_35 : decode cX6_board 35 = .ok (.aload_n 0, 1) := by decide +kernel
theorem dX6_board_36 : decode cX6_board 36 = .ok (.getfield 12, 3) := by decide +kernel
theorem dX6_board_39 : decode cX6_board 39 = .ok (.iload_n 1, 1) := by decide +kernel
theorem dX6_board_40 : decode cX6_board 40 = .ok (.iload_n 2, 1) := by decide +kernel
theorem dX6_board_41 : decode cX6_board 41 = .ok (.invokevirtual 16, 3) := by decide +kernel
theorem dX6_board_44 : decode cX6_board 44 = .ok (.aload_n 0, 1) := by decide +kernel
theorem dX6_board_45 : decode cX6_board 45 = .ok (.getfield 25, 3) := by decide +kernel
theorem dX6_board_48 : decode cX6_board 48 = .ok (.lconst 0, 1) := by decide +kernel
theorem dX6_board_49 : decode cX6_board 49 = .ok (.lconst 0, 1) := by decide +kernel
theorem dX6_board_50 : decode cX6_board 50 = .ok (.iconst 1, 1) := by decide +kernel
theorem dX6_board_51 : decode cX6_board 51 = .ok (.iload_n 3, 1) := by decide +kernel
theorem dX6_board_52 : decode cX6_board 52 = .ok (.invokevirtual 29, 3) := by decide +kernel
theorem dX6_board_55 : decode cX6_board 55 = .ok (.iload 4, 2) := by decide +kernel
theorem dX6_board_57 : decode cX6_board 57 = .ok (.ireturn, 1) := by decide +kernel
set_option maxRecDepth 20000 in
theorem ggX6_set_X2_has : GoodIn wsX6_set wsX2_has := goodIn_r _ [11, 12, 62, 63, 64, 65, 66, 67] (by decide +kernel) (by decide +kernel)
set_option maxRecDepth 20000 in
theorem gX6_set_X2_has : GoodIn wsX6_set (wsV RX6 76 RX2 yX2_has wsX2_has) := goodIn_app (goodIn_of _ (by decide +kernel)) ggX6_set_X2_has
set_option maxRecDepth 20000 in
theorem ggX6_set_X6_isColour : GoodIn wsX6_set wsX6_isColour := goodIn_r _ [16] (by decide +kernel) (by decide +kernel)
set_option maxRecDepth 20000 in
theorem gX6_set_X6_isColour : GoodIn wsX6_set (va_wsS RX6 79 yX6_isColour wsX6_isColour) := goodIn_app (goodIn_of _ (by decide +kernel)) ggX6_set_X6_isColour
set_option maxRecDepth 20000 in
theorem ggX6_set_X4_stonesOf : GoodIn wsX6_set wsX4_stonesOf := goodIn_r _ [21, 22, 23, 24, 25, 20, 26, 27, 28, 68, 69, 70, 71, 72, 73, 74, 75, 76] (by decide +kernel) (by decide +kernel)
set_option maxRecDepth 20000 in
theorem gX6_set_X4_stonesOf : GoodIn wsX6_set (wsV RX6 82 RX4 yX4_stonesOf wsX4_stonesOf) := goodIn_app (goodIn_of _ (by decide +kernel)) ggX6_set_X4_stonesOf
set_option maxRecDepth 20000 in
theorem ggX6_set_X2_allBreathe : GoodIn wsX6_set wsX2_allBreathe := goodIn_r _ [32, 33, 34, 35, 10, 36, 37, 38, 39, 40, 41, 42, 43, 44, 62, 63, 64, 65, 66, 67] (by decide +kernel) (by decide +kernel)
set_option maxRecDepth 20000 in
theorem gX6_set_X2_allBreathe : GoodIn wsX6_set (wsV RX6 92 RX2 yX2_allBreathe wsX2_allBreathe) := goodIn_app (goodIn_of _ (by decide +kernel)) ggX6_set_X2_allBreathe
set_option maxRecDepth 20000 in
theorem ggX6_set_X4_begin : GoodIn wsX6_set wsX4_begin := goodIn_r _ [48, 49, 22, 50, 51, 52, 53, 20, 54, 27, 28, 68, 69, 70, 71, 72, 73, 74, 75, 76] (by decide +kernel) (by decide +kernel)
set_option maxRecDepth 20000 in
theorem gX6_set_X4_begin : GoodIn wsX6_set (wsV RX6 29 RX4 yX4_begin wsX4_begin) := goodIn_app (goodIn_of _ (by decide +kernel)) ggX6_set_X4_begin
theorem dX6_set_0 : decode cX6_set 0 = .ok (.aload_n 0, 1) := by decide +kernel
theorem dX6_set_1 : decode cX6_set 1 = .ok (.getfield 12, 3) := by decide +kernel
theorem dX6_set_4 : decode cX6_set 4 = .ok (.iload_n 1, 1) := by decide +kernel
theorem dX6_set_5 : decode cX6_set 5 = .ok (.invokevirtual 76, 3) := by decide +kernel
theorem dX6_set_8 : decode cX6_set 8 = .ok (.ifCond .eq 19, 3) := by decide +kernel
theorem dX6_set_11 : decode cX6_set 11 = .ok (.iload_n 2, 1) := by decide +kernel
theorem dX6_set_12 : decode cX6_set 12 = .ok (.ifCond .lt 15, 3) := by decide +kernel
theorem dX6_set_15 : decode cX6_set 15 = .ok (.iload_n 2, 1) := by decide +kernel
theorem dX6_set_16 : decode cX6_set 16 = .ok (.iconst 2, 1) := by decide +kernel
theorem dX6_set_17 : decode cX6_set 17 = .ok (.if_icmp .gt 10, 3) := by decide +kernel
theorem dX6_set_20 : decode cX6_set 20 = .ok (.iload_n 3, 1) := by decide +kernel
theorem dX6_set_21 : decode cX6_set 21 = .ok (.invokestatic 79, 3) := by decide +kernel
theorem dX6_set_24 : decode cX6_set 24 = .ok (.ifCond .ne 6, 3) := by decide +kernel
theorem dX6_set_27 : decode cX6_set 27 = .ok (.bipush (-2), 2) := by decide +kernel
theorem dX6_set_29 : decode cX6_set 29 = .ok (.ireturn, 1) := by decide +kernel
theorem dX6_set_30 : decode cX6_set 30 = .ok (.lconst 1, 1) := by decide +kernel
theorem dX6_set_31 : decode cX6_set 31 = .ok (.iload_n 1, 1) := by decide +kernel
theorem dX6_set_32 : decode cX6_set 32 = .ok (.lshl, 1) := by decide +kernel
theorem dX6_set_33 : decode cX6_set 33 = .ok (.lstore 4, 2) := by decide +kernel
theorem dX6_set_35 : decode cX6_set 35 = .ok (.aload_n 0, 1) := by decide +kernel
theorem dX6_set_36 : decode cX6_set 36 = .ok (.getfield 25, 3) := by decide +kernel
theorem dX6_set_39 : decode cX6_set 39 = .ok (.iconst 1, 1) := by decide +kernel
theorem dX6_set_40 : decode cX6_set 40 = .ok (.invokevirtual 82, 3) := by decide +kernel
theorem dX6_set_43 : decode cX6_set 43 = .ok (.lload 4, 2) := by decide +kernel
theorem dX6_set_45 : decode cX6_set 45 = .ok (.ldc2_w 86, 3) := by decide +kernel
theorem dX6_set_48 : decode cX6_set 48 = .ok (.lxor, 1) := by decide +kernel
theorem dX6_set_49 : decode cX6_set 49 = .ok (.land, 1) := by decide +kernel
theorem dX6_set_50 : decode cX6_set 50 = .ok (.iload_n 2, 1) := by decide +kernel
theorem dX6_set_51 : decode cX6_set 51 = .ok (.iconst 1, 1) := by decide +kernel
theorem dX6_set_52 : decode cX6_set 52 = .ok (.if_icmp .ne 8, 3) := by decide +kernel
theorem dX6_set_55 : decode cX6_set 55 = .ok (.lload 4, 2) := by decide +kernel
theorem dX6_set_57 : decode cX6_set 57 = .ok (.goto 4, 3) := by decide +kernel
theorem dX6_set_60 : decode cX6_set 60 = .ok (.lconst 0, 1) := by decide +kernel
theorem dX6_set_61 : decode cX6_set 61 = .ok (.lor, 1) := by decide +kernel
theorem dX6_set_62 : decode cX6_set 62 = .ok (.lstore 6, 2) := by decide +kernel
theorem dX6_set_64 : decode cX6_set 64 = .ok (.aload_n 0, 1) := by decide +kernel
theorem dX6_set_65 : decode cX6_set 65 = .ok (.getfield 25, 3) := by decide +kernel
theorem dX6_set_68 : decode cX6_set 68 = .ok (.iconst 2, 1) := by decide +kernel
theorem dX6_set_69 : decode cX6_set 69 = .ok (.invokevirtual 82, 3) := by decide +kernel
theorem dX6_set_72 : decode cX6_set 72 = .ok (.lload 4, 2) := by decide +kernel
theorem dX6_set_74 : decode cX6_set 74 = .ok (.ldc2_w 86, 3) := by decide +kernel
theorem dX6_set_77 : decode cX6_set 77 = .ok (.lxor, 1) := by decide +kernel
theorem dX6_set_78 : decode cX6_set 78 = .ok (.land, 1) := by decide +kernel
theorem dX6_set_79 : decode cX6_set 79 = .ok (.iload_n 2, 1) := by decide +kernel
theorem dX6_set_80 : decode cX6_set 80 = .ok (.iconst 2, 1) := by decide +kernel
theorem dX6_set_81 : decode cX6_set 81 = .ok (.if_icmp .ne 8, 3) := by decide +kernel
theorem dX6_set_84 : decode cX6_set 84 = .ok (.lload 4, 2) := by decide +kernel
theorem dX6_set_86 : decode cX6_set 86 = .ok (.goto 4, 3) := by decide +kernel
theorem dX6_set_89 : decode cX6_set 89 = .ok (.lconst 0, 1) := by decide +kernel
theorem dX6_set_90 : decode cX6_set 90 = .ok (.lor, 1) := by decide +kernel
theorem dX6_set_91 : decode cX6_set 91 = .ok (.lstore 8, 2) := by decide +kernel
theorem dX6_set_93 : decode cX6_set 93 = .ok (.aload_n 0, 1) := by decide +kernel
theorem dX6_set_94 : decode cX6_set 94 = .ok (.getfield 12, 3) := by decide +kernel
theorem dX6_set_97 : decode cX6_set 97 = .ok (.getfield 88, 3) := by decide +kernel
theorem dX6_set_100 : decode cX6_set 100 = .ok (.lload 6, 2) := by decide +kernel
theorem dX6_set_102 : decode cX6_set 102 = .ok (.lload 8, 2) := by decide +kernel
theorem dX6_set_104 : decode cX6_set 104 = .ok (.lor, 1) := by decide +kernel
theorem dX6_set_105 : decode cX6_set 105 = .ok (.ldc2_w 86, 3) := by decide +kernel
theorem dX6_set_108 : decode cX6_set 108 = .ok (.lxor, 1) := by decide +kernel
theorem dX6_set_109 : decode cX6_set 109 = .ok (.land, 1) := by decide +kernel
theorem dX6_set_110 : decode cX6_set 110 = .ok (.lstore 10, 2) := by decide +kernel
theorem dX6_set_112 : decode cX6_set 112 = .ok (.aload_n 0, 1) := by decide +kernel
theorem dX6_set_113 : decode cX6_set 113 = .ok (.getfield 25, 3) := by decide +kernel
theorem dX6_set_116 : decode cX6_set 116 = .ok (.getfield 73, 3) := by decide +kernel
theorem dX6_set_119 : decode cX6_set 119 = .ok (.ifCond .gt 31, 3) := by decide +kernel
theorem dX6_set_122 : decode cX6_set 122 = .ok (.aload_n 0, 1) := by decide +kernel
theorem dX6_set_123 : decode cX6_set 123 = .ok (.getfield 12, 3) := by decide +kernel
theorem dX6_set_126 : decode cX6_set 126 = .ok (.lload 6, 2) := by decide +kernel
theorem dX6_set_128 : decode cX6_set 128 = .ok (.lload 10, 2) := by decide +kernel
theorem dX6_set_130 : decode cX6_set 130 = .ok (.invokevirtual 92, 3) := by decide +kernel
theorem dX6_set_133 : decode cX6_set 133 = .ok (.ifCond .eq 17, 3) := by decide +kernel
theorem dX6_set_136 : decode cX6_set 136 = .ok (.aload_n 0, 1) := by decide +kernel
theorem dX6_set_137 : decode cX6_set 137 = .ok (.getfield 12, 3) := by decide +kernel
theorem dX6_set_140 : decode cX6_set 140 = .ok (.lload 8, 2) := by decide +kernel
theorem dX6_set_142 : decode cX6_set 142 = .ok (.lload 10, 2) := by decide +kernel
theorem dX6_set_144 : decode cX6_set 144 = .ok (.invokevirtual 92, 3) := by decide +kernel
theorem dX6_set_147 : decode cX6_set 147 = .ok (.ifCond .ne 6, 3) := by decide +kernel
theorem dX6_set_150 : decode cX6_set 150 = .ok (.bipush (-3), 2) := by decide +kernel
theorem dX6_set_152 : decode cX6_set 152 = .ok (.ireturn, 1) := by decide +kernel
theorem dX6_set_153 : decode cX6_set 153 = .ok (.aload_n 0, 1) := by decide +kernel
theorem dX6_set_154 : decode cX6_set 154 = .ok (.getfield 25, 3) := by decide +kernel
theorem dX6_set_157 : decode cX6_set 157 = .ok (.lload 6, 2) := by decide +kernel
theorem dX6_set_159 : decode cX6_set 159 = .ok (.lload 8, 2) := by decide +kernel
theorem dX6_set_161 : decode cX6_set 161 = .ok (.iload_n 3, 1) := by decide +kernel
theorem dX6_set_162 : decode cX6_set 162 = .ok (.aload_n 0, 1) := by decide +kernel
theorem dX6_set_163 : decode cX6_set 163 = .ok (.getfield 25, 3) := by decide +kernel
theorem dX6_set_166 : decode cX6_set 166 = .ok (.getfield 96, 3) := by decide +kernel
theorem dX6_set_169 : decode cX6_set 169 = .ok (.invokevirtual 29, 3) := by decide +kernel
theorem dX6_set_172 : decode cX6_set 172 = .ok (.iconst 1, 1) := by decide +kernel
theorem dX6_set_173 : decode cX6_set 173 = .ok (.ireturn, 1) := by decide +kernel
set_option maxRecDepth 20000 in
theorem ggX6_lay_X2_has : GoodIn wsX6_lay wsX2_has := goodIn_r _ [8, 9, 108, 109, 110, 111, 112, 113] (by decide +kernel) (by decide +kernel)
set_option maxRecDepth 20000 in
theorem gX6_lay_X2_has : GoodIn wsX6_lay (wsV RX6 76 RX2 yX2_has wsX2_has) := goodIn_app (goodIn_of _ (by decide +kernel)) ggX6_lay_X2_has
set_option maxRecDepth 20000 in
theorem ggX6_lay_X4_reasonAgainst : GoodIn wsX6_lay wsX4_reasonAgainst := goodIn_r _ [14, 15, 16, 17, 18, 19, 20, 21, 22, 13, 23, 24, 25, 26, 27, 28, 29, 30, 31, 32, 7, 33, 34, 35, 36, 37, 38, 39, 40, 41, 42, 43, 44, 45, 46, 47, 48, 49, 50, 51, 52, 53, 54, 55, 56, 57, 58, 59, 60, 61, 62, 63, 64, 65, 66, 67, 99, 100, 101, 102, 103, 104, 105, 106, 107, 108, 109, 110, 111, 112, 113] (by decide +kernel) (by decide +kernel)
set_option maxRecDepth 20000 in
theorem gX6_lay_X4_reasonAgainst : GoodIn wsX6_lay (wsV RX6 99 RX4 yX4_reasonAgainst wsX4_reasonAgainst) := goodIn_app (goodIn_of _ (by decide +kernel)) ggX6_lay_X4_reasonAgainst
set_option maxRecDepth 20000 in
theorem ggX6_lay_X4_add : GoodIn wsX6_lay wsX4_add := goodIn_r _ [71, 24, 29, 72, 15, 73, 18, 19, 43, 44, 45, 13, 46, 25, 26, 27, 28, 30, 74, 75, 76, 77, 78, 5, 6, 7, 8, 9, 79, 11, 12, 14, 16, 17, 20, 21, 22, 23, 31, 32, 33, 34, 35, 36, 37, 38, 39, 40, 41, 42, 47, 48, 49, 50, 51, 52, 53, 54, 55, 56, 57, 58, 59, 60, 61, 62, 63, 64, 65, 66, 67, 99, 100, 101, 102, 103, 104, 105, 106, 107, 108, 109, 110, 111, 112, 113] (by decide +kernel) (by decide +kernel)
set_option maxRecDepth 20000 in
theorem gX6_lay_X4_add : GoodIn wsX6_lay (wsV RX6 103 RX4 yX4_add wsX4_add) := goodIn_app (goodIn_of _ (by decide +kernel)) ggX6_lay_X4_add
set_option maxRecDepth 20000 in
theorem ggX6_lay_X4_mover : GoodIn wsX6_lay wsX4_mover := goodIn_r _ [37, 24, 38, 39, 40, 13, 41, 42, 99, 100, 101, 102, 103, 104, 105, 106, 107] (by decide +kernel) (by decide +kernel)
set_option maxRecDepth 20000 in
theorem gX6_lay_X4_mover : GoodIn wsX6_lay (wsV RX6 106 RX4 yX4_mover wsX4_mover) := goodIn_app (goodIn_of _ (by decide +kernel)) ggX6_lay_X4_mover
set_option maxRecDepth 20000 in
theorem ggX6_lay_X4_takenBy : GoodIn wsX6_lay wsX4_takenBy := goodIn_r _ [84, 17, 25, 26, 27, 13, 28, 29, 30, 85, 86, 87, 88, 89, 90, 91, 99, 100, 101, 102, 103, 104, 105, 106, 107] (by decide +kernel) (by decide +kernel)
set_option maxRecDepth 20000 in
theorem gX6_lay_X4_takenBy : GoodIn wsX6_lay (wsV RX6 110 RX4 yX4_takenBy wsX4_takenBy) := goodIn_app (goodIn_of _ (by decide +kernel)) ggX6_lay_X4_takenBy
theorem dX6_lay_0 : decode cX6_lay 0 = .ok (.aload_n 0, 1) := by decide +kernel
theorem dX6_lay_1 : decode cX6_lay 1 = .ok (.getfield 12, 3) := by decide +kernel
theorem dX6_lay_4 : decode cX6_lay 4 = .ok (.iload_n 1, 1) := by decide +kernel
theorem dX6_lay_5 : decode cX6_lay 5 = .ok (.invokevirtual 76, 3) := by decide +kernel
theorem dX6_lay_8 : decode cX6_lay 8 = .ok (.ifCond .ne 6, 3) := by decide +kernel
theorem dX6_lay_11 : decode cX6_lay 11 = .ok (.bipush (-2), 2) := by decide +kernel
theorem dX6_lay_13 : decode cX6_lay 13 = .ok (.ireturn, 1) := by decide +kernel
theorem dX6_lay_14 : decode cX6_lay 14 = .ok (.aload_n 0, 1) := by decide +kernel
theorem dX6_lay_15 : decode cX6_lay 15 = .ok (.getfield 25, 3) := by decide +kernel
theorem dX6_lay_18 : decode cX6_lay 18 = .ok (.iload_n 1, 1) := by decide +kernel
theorem dX6_lay_19 : decode cX6_lay 19 = .ok (.invokevirtual 99, 3) := by decide +kernel
theorem dX6_lay_22 : decode cX6_lay 22 = .ok (.ifCond .eq 6, 3) := by decide +kernel
theorem dX6_lay_25 : decode cX6_lay 25 = .ok (.bipush (-3), 2) := by decide +kernel
theorem dX6_lay_27 : decode cX6_lay 27 = .ok (.ireturn, 1) := by decide +kernel
theorem dX6_lay_28 : decode cX6_lay 28 = .ok (.aload_n 0, 1) := by decide +kernel
theorem dX6_lay_29 : decode cX6_lay 29 = .ok (.getfield 25, 3) := by decide +kernel
theorem dX6_lay_32 : decode cX6_lay 32 = .ok (.getfield 73, 3) := by decide +kernel
theorem dX6_lay_35 : decode cX6_lay 35 = .ok (.bipush 120, 2) := by decide +kernel
theorem dX6_lay_37 : decode cX6_lay 37 = .ok (.if_icmp .lt 6, 3) := by decide +kernel
theorem dX6_lay_40 : decode cX6_lay 40 = .ok (.bipush (-4), 2) := by decide +kernel
theorem dX6_lay_42 : decode cX6_lay 42 = .ok (.ireturn, 1) := by decide +kernel
theorem dX6_lay_43 : decode cX6_lay 43 = .ok (.aload_n 0, 1) := by decide +kernel
theorem dX6_lay_44 : decode cX6_lay 44 = .ok (.getfield 25, 3) := by decide +kernel
theorem dX6_lay_47 : decode cX6_lay 47 = .ok (.iload_n 1, 1) := by decide +kernel
theorem dX6_lay_48 : decode cX6_lay 48 = .ok (.invokevirtual 103, 3) := by decide +kernel
theorem dX6_lay_51 : decode cX6_lay 51 = .ok (.pop, 1) := by decide +kernel
theorem dX6_lay_52 : decode cX6_lay 52 = .ok (.aload_n 0, 1) := by decide +kernel
theorem dX6_lay_53 : decode cX6_lay 53 = .ok (.getfield 25, 3) := by decide +kernel
theorem dX6_lay_56 : decode cX6_lay 56 = .ok (.aload_n 0, 1) := by decide +kernel
theorem dX6_lay_57 : decode cX6_lay 57 = .ok (.getfield 25, 3) := by decide +kernel
theorem dX6_lay_60 : decode cX6_lay 60 = .ok (.getfield 73, 3) := by decide +kernel
theorem dX6_lay_63 : decode cX6_lay 63 = .ok (.aload_n 0, 1) := by decide +kernel
theorem dX6_lay_64 : decode cX6_lay 64 = .ok (.getfield 25, 3) := by decide +kernel
theorem dX6_lay_67 : decode cX6_lay 67 = .ok (.invokevirtual 106, 3) := by decide +kernel
theorem dX6_lay_70 : decode cX6_lay 70 = .ok (.invokevirtual 110, 3) := by decide +kernel
theorem dX6_lay_73 : decode cX6_lay 73 = .ok (.ireturn, 1) := by decide +kernel
set_option maxRecDepth 20000 in
theorem ggX6_pass_X4_add : GoodIn wsX6_pass wsX4_add := goodIn_r _ [9, 10, 11, 12, 13, 14, 15, 16, 17, 18, 19, 8, 20, 21, 22, 23, 24, 25, 26, 27, 28, 29, 30, 31, 32, 33, 34, 35, 36, 37, 38, 39, 40, 41, 42, 43, 44, 45, 46, 47, 48, 49, 50, 51, 52, 53, 54, 55, 56, 57, 58, 59, 60, 61, 62, 63, 64, 65, 66, 67, 68, 69, 70, 71, 72, 73, 74, 75, 76, 77, 78, 94, 95, 96, 97, 98, 99, 100, 101, 102, 103, 104, 105, 106, 107, 108] (by decide +kernel) (by decide +kernel)
set_option maxRecDepth 20000 in
theorem gX6_pass_X4_add : GoodIn wsX6_pass (wsV RX6 103 RX4 yX4_add wsX4_add) := goodIn_app (goodIn_of _ (by decide +kernel)) ggX6_pass_X4_add
set_option maxRecDepth 20000 in
theorem ggX6_pass_X4_passesNow : GoodIn wsX6_pass wsX4_passesNow := goodIn_r _ [82, 10, 13, 14, 83, 84, 85, 8, 86, 12, 94, 95, 96, 97, 98, 99, 100, 101, 102, 103, 104, 105, 106, 107, 108] (by decide +kernel) (by decide +kernel)
set_option maxRecDepth 20000 in
theorem gX6_pass_X4_passesNow : GoodIn wsX6_pass (wsV RX6 117 RX4 yX4_passesNow wsX4_passesNow) := goodIn_app (goodIn_of _ (by decide +kernel)) ggX6_pass_X4_passesNow
theorem dX6_pass_0 : decode cX6_pass 0 = .ok (.aload_n 0, 1) := by decide +kernel
theorem dX6_pass_1 : decode cX6_pass 1 = .ok (.getfield 25, 3) := by decide +kernel
theorem dX6_pass_4 : decode cX6_pass 4 = .ok (.getfield 73, 3) := by decide +kernel
theorem dX6_pass_7 : decode cX6_pass 7 = .ok (.bipush 120, 2) := by decide +kernel
theorem dX6_pass_9 : decode cX6_pass 9 = .ok (.if_icmp .lt 6, 3) := by decide +kernel
theorem dX6_pass_12 : decode cX6_pass 12 = .ok (.bipush (-4), 2) := by decide +kernel
theorem dX6_pass_14 : decode cX6_pass 14 = .ok (.ireturn, 1) := by decide +kernel
theorem dX6_pass_15 : decode cX6_pass 15 = .ok (.aload_n 0, 1) := by decide +kernel
theorem dX6_pass_16 : decode cX6_pass 16 = .ok (.getfield 25, 3) := by decide +kernel
theorem dX6_pass_19 : decode cX6_pass 19 = .ok (.aload_n 0, 1) := by decide +kernel
theorem dX6_pass_20 : decode cX6_pass 20 = .ok (.getfield 12, 3) := by decide +kernel
theorem dX6_pass_23 : decode cX6_pass 23 = .ok (.getfield 114, 3) := by decide +kernel
theorem dX6_pass_26 : decode cX6_pass 26 = .ok (.invokevirtual 103, 3) := by decide +kernel
theorem dX6_pass_29 : decode cX6_pass 29 = .ok (.pop, 1) := by decide +kernel
theorem dX6_pass_30 : decode cX6_pass 30 = .ok (.aload_n 0, 1) := by decide +kernel
theorem dX6_pass_31 : decode cX6_pass 31 = .ok (.getfield 25, 3) := by decide +kernel
theorem dX6_pass_34 : decode cX6_pass 34 = .ok (.invokevirtual 117, 3) := by decide +kernel
theorem dX6_pass_37 : decode cX6_pass 37 = .ok (.ireturn, 1) := by decide +kernel
set_option maxRecDepth 20000 in
theorem ggX6_why_X2_has : GoodIn wsX6_why wsX2_has := goodIn_r _ [7, 8, 74, 75, 76, 77, 78, 79] (by decide +kernel) (by decide +kernel)
set_option maxRecDepth 20000 in
theorem gX6_why_X2_has : GoodIn wsX6_why (wsV RX6 76 RX2 yX2_has wsX2_has) := goodIn_app (goodIn_of _ (by decide +kernel)) ggX6_why_X2_has
set_option maxRecDepth 20000 in
theorem ggX6_why_X4_reasonAgainst : GoodIn wsX6_why wsX4_reasonAgainst := goodIn_r _ [13, 14, 15, 16, 17, 18, 19, 20, 21, 12, 22, 23, 24, 25, 26, 27, 28, 29, 30, 31, 6, 32, 33, 34, 35, 36, 37, 38, 39, 40, 41, 42, 43, 44, 45, 46, 47, 48, 49, 50, 51, 52, 53, 54, 55, 56, 57, 58, 59, 60, 61, 62, 63, 64, 65, 66, 80, 81, 82, 83, 84, 85, 86, 87, 88, 74, 75, 76, 77, 78, 79] (by decide +kernel) (by decide +kernel)
set_option maxRecDepth 20000 in
theorem gX6_why_X4_reasonAgainst : GoodIn wsX6_why (wsV RX6 99 RX4 yX4_reasonAgainst wsX4_reasonAgainst) := goodIn_app (goodIn_of _ (by decide +kernel)) ggX6_why_X4_reasonAgainst
theorem dX6_why_0 : decode cX6_why 0 = .ok (.aload_n 0, 1) := by decide +kernel
theorem dX6_why_1 : decode cX6_why 1 = .ok (.getfield 12, 3) := by decide +kernel
theorem dX6_why_4 : decode cX6_why 4 = .ok (.iload_n 1, 1) := by decide +kernel
theorem dX6_why_5 : decode cX6_why 5 = .ok (.invokevirtual 76, 3) := by decide +kernel
theorem dX6_why_8 : decode cX6_why 8 = .ok (.ifCond .eq 14, 3) := by decide +kernel
theorem dX6_why_11 : decode cX6_why 11 = .ok (.aload_n 0, 1) := by decide +kernel
theorem dX6_why_12 : decode cX6_why 12 = .ok (.getfield 25, 3) := by decide +kernel
theorem dX6_why_15 : decode cX6_why 15 = .ok (.iload_n 1, 1) := by decide +kernel
theorem dX6_why_16 : decode cX6_why 16 = .ok (.invokevirtual 99, 3) := by decide +kernel
theorem dX6_why_19 : decode cX6_why 19 = .ok (.goto 5, 3) := by decide +kernel
theorem dX6_why_22 : decode cX6_why 22 = .ok (.bipush (-2), 2) := by decide +kernel
theorem dX6_why_24 : decode cX6_why 24 = .ok (.ireturn, 1) := by decide +kernel
set_option maxRecDepth 20000 in
theorem ggX6_undo_X4_takeBack : GoodIn wsX6_undo wsX4_takeBack := goodIn_r _ [7, 8, 9, 10, 11, 12, 20, 21, 22, 23, 24, 25, 26, 27, 28] (by decide +kernel) (by decide +kernel)
set_option maxRecDepth 20000 in
theorem gX6_undo_X4_takeBack : GoodIn wsX6_undo (wsV RX6 120 RX4 yX4_takeBack wsX4_takeBack) := goodIn_app (goodIn_of _ (by decide +kernel)) ggX6_undo_X4_takeBack
theorem dX6_undo_0 : decode cX6_undo 0 = .ok (.aload_n 0, 1) := by decide +kernel
theorem dX6_undo_1 : decode cX6_undo 1 = .ok (.getfield 25, 3) := by decide +kernel
theorem dX6_undo_4 : decode cX6_undo 4 = .ok (.getfield 73, 3) := by decide +kernel
theorem dX6_undo_7 : decode cX6_undo 7 = .ok (.ifCond .gt 6, 3) := by decide +kernel
theorem dX6_undo_10 : decode cX6_undo 10 = .ok (.bipush (-3), 2) := by decide +kernel
theorem dX6_undo_12 : decode cX6_undo 12 = .ok (.ireturn, 1) := by decide +kernel
theorem dX6_undo_13 : decode cX6_undo 13 = .ok (.aload_n 0, 1) := by decide +kernel
theorem dX6_undo_14 : decode cX6_undo 14 = .ok (.getfield 25, 3) := by decide +kernel
theorem dX6_undo_17 : decode cX6_undo 17 = .ok (.invokevirtual 120, 3) := by decide +kernel
theorem dX6_undo_20 : decode cX6_undo 20 = .ok (.aload_n 0, 1) := by decide +kernel
theorem dX6_undo_21 : decode cX6_undo 21 = .ok (.getfield 25, 3) := by decide +kernel
theorem dX6_undo_24 : decode cX6_undo 24 = .ok (.getfield 73, 3) := by decide +kernel
theorem dX6_undo_27 : decode cX6_undo 27 = .ok (.ireturn, 1) := by decide +kernel
set_option maxRecDepth 20000 in
theorem ggX6_at_X2_has : GoodIn wsX6_at wsX2_has := goodIn_r _ [7, 8, 35, 36, 37, 38, 39, 40] (by decide +kernel) (by decide +kernel)
set_option maxRecDepth 20000 in
theorem gX6_at_X2_has : GoodIn wsX6_at (wsV RX6 76 RX2 yX2_has wsX2_has) := goodIn_app (goodIn_of _ (by decide +kernel)) ggX6_at_X2_has
set_option maxRecDepth 20000 in
theorem ggX6_at_X4_colourAt : GoodIn wsX6_at wsX4_colourAt := goodIn_r _ [13, 14, 15, 16, 12, 17, 18, 19, 20, 21, 22, 23, 24, 25, 26, 6, 27, 41, 42, 43, 44, 45, 46, 47, 48, 49] (by decide +kernel) (by decide +kernel)
set_option maxRecDepth 20000 in
theorem gX6_at_X4_colourAt : GoodIn wsX6_at (wsV RX6 123 RX4 yX4_colourAt wsX4_colourAt) := goodIn_app (goodIn_of _ (by decide +kernel)) ggX6_at_X4_colourAt
theorem dX6_at_0 : decode cX6_at 0 = .ok (.aload_n 0, 1) := by decide +kernel
theorem dX6_at_1 : decode cX6_at 1 = .ok (.getfield 12, 3) := by decide +kernel
theorem dX6_at_4 : decode cX6_at 4 = .ok (.iload_n 1, 1) := by decide +kernel
theorem dX6_at_5 : decode cX6_at 5 = .ok (.invokevirtual 76, 3) := by decide +kernel
theorem dX6_at_8 : decode cX6_at 8 = .ok (.ifCond .eq 14, 3) := by decide +kernel
theorem dX6_at_11 : decode cX6_at 11 = .ok (.aload_n 0, 1) := by decide +kernel
theorem dX6_at_12 : decode cX6_at 12 = .ok (.getfield 25, 3) := by decide +kernel
theorem dX6_at_15 : decode cX6_at 15 = .ok (.iload_n 1, 1) := by decide +kernel
theorem dX6_at_16 : decode cX6_at 16 = .ok (.invokevirtual 123, 3) := by decide +kernel
theorem dX6_at_19 : decode cX6_at 19 = .ok (.goto 5, 3) := by decide +kernel
theorem dX6_at_22 : decode cX6_at 22 = .ok (.bipush (-2), 2) := by decide +kernel
