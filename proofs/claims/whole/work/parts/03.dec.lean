theorem dX0_init_0 : decode cX0_init 0 = .ok (.aload_n 0, 1) := by decide +kernel
theorem dX0_init_1 : decode cX0_init 1 = .ok (.invokespecial 3, 3) := by decide +kernel
theorem dX0_init_4 : decode cX0_init 4 = .ok (.aload_n 0, 1) := by decide +kernel
theorem dX0_init_5 : decode cX0_init 5 = .ok (.aload_n 1, 1) := by decide +kernel
theorem dX0_init_6 : decode cX0_init 6 = .ok (.putfield 9, 3) := by decide +kernel
theorem dX0_init_9 : decode cX0_init 9 = .ok (.aload_n 0, 1) := by decide +kernel
theorem dX0_init_10 : decode cX0_init 10 = .ok (.aload_n 2, 1) := by decide +kernel
theorem dX0_init_11 : decode cX0_init 11 = .ok (.putfield 15, 3) := by decide +kernel
theorem dX0_init_14 : decode cX0_init 14 = .ok (.aload_n 0, 1) := by decide +kernel
theorem dX0_init_15 : decode cX0_init 15 = .ok (.aload_n 3, 1) := by decide +kernel
theorem dX0_init_16 : decode cX0_init 16 = .ok (.putfield 19, 3) := by decide +kernel
theorem dX0_init_19 : decode cX0_init 19 = .ok (.return_, 1) := by decide +kernel
set_option maxRecDepth 20000 in
theorem ggX0_read_X4_colourAt : GoodIn wsX0_read wsX4_colourAt := goodIn_r _ [10, 11, 12, 13, 9, 14, 15, 16, 17, 18, 19, 20, 21, 22, 23, 24, 25, 150, 151, 152, 153, 154, 155, 156, 157, 158] (by decide +kernel) (by decide +kernel)
set_option maxRecDepth 20000 in
theorem gX0_read_X4_colourAt : GoodIn wsX0_read (wsV RX0 27 RX4 yX4_colourAt wsX4_colourAt) := goodIn_app (goodIn_of _ (by decide +kernel)) ggX0_read_X4_colourAt
set_option maxRecDepth 20000 in
theorem ggX0_read_X4_stonesOf : GoodIn wsX0_read wsX4_stonesOf := goodIn_r _ [14, 15, 16, 17, 18, 9, 19, 20, 21, 150, 151, 152, 153, 154, 155, 156, 157, 158] (by decide +kernel) (by decide +kernel)
set_option maxRecDepth 20000 in
theorem gX0_read_X4_stonesOf : GoodIn wsX0_read (wsV RX0 41 RX4 yX4_stonesOf wsX4_stonesOf) := goodIn_app (goodIn_of _ (by decide +kernel)) ggX0_read_X4_stonesOf
set_option maxRecDepth 20000 in
theorem ggX0_read_X6_other : GoodIn wsX0_read wsX6_other := goodIn_r _ [29] (by decide +kernel) (by decide +kernel)
set_option maxRecDepth 20000 in
theorem gX0_read_X6_other_n45 : GoodIn wsX0_read (wsX6_other) := ggX0_read_X6_other
set_option maxRecDepth 20000 in
theorem ggX0_read_X4_begin : GoodIn wsX0_read wsX4_begin := goodIn_r _ [33, 34, 15, 35, 36, 37, 38, 9, 39, 20, 21, 150, 151, 152, 153, 154, 155, 156, 157, 158] (by decide +kernel) (by decide +kernel)
set_option maxRecDepth 20000 in
theorem gX0_read_X4_begin : GoodIn wsX0_read (wsV RX0 48 RX4 yX4_begin wsX4_begin) := goodIn_app (goodIn_of _ (by decide +kernel)) ggX0_read_X4_begin
set_option maxRecDepth 20000 in
theorem ggX0_read_X0_caughtIn : GoodIn wsX0_read wsX0_caughtIn := goodIn_r _ [44, 45, 5, 46, 3, 47, 48, 49, 43, 50, 1, 2, 26, 12, 13, 9, 14, 15, 16, 17, 18, 19, 20, 21, 51, 52, 53, 24, 54, 55, 56, 57, 58, 59, 60, 61, 62, 63, 64, 65, 66, 67, 68, 69, 70, 71, 72, 73, 74, 75, 76, 77, 78, 23, 25, 79, 80, 81, 82, 83, 84, 85, 86, 11, 36, 37, 38, 39, 87, 88, 89, 90, 91, 92, 93, 94, 95, 96, 22, 97, 98, 99, 100, 101, 102, 103, 104, 35, 27, 28, 29, 105, 106, 107, 108, 109, 110, 34, 111, 112, 113, 114, 115, 116, 117, 118, 119, 120, 121, 122, 123, 124, 125, 126, 127, 128, 129, 130, 131, 132, 133, 134, 135, 136, 137, 138, 139, 140, 141, 142, 143, 40, 41, 42, 144, 145, 146, 147, 148, 159, 160, 161, 162, 163, 164, 150, 151, 152, 153, 154, 155, 156, 157, 158, 149] (by decide +kernel) (by decide +kernel)
set_option maxRecDepth 20000 in
theorem gX0_read_X0_caughtIn : GoodIn wsX0_read (wsV RX0 52 RX0 yX0_caughtIn wsX0_caughtIn) := goodIn_app (goodIn_of _ (by decide +kernel)) ggX0_read_X0_caughtIn
theorem dX0_read_0 : decode cX0_read 0 = .ok (.aload_n 0, 1) := by decide +kernel
theorem dX0_read_1 : decode cX0_read 1 = .ok (.iload_n 2, 1) := by decide +kernel
theorem dX0_read_2 : decode cX0_read 2 = .ok (.putfield 23, 3) := by decide +kernel
theorem dX0_read_5 : decode cX0_read 5 = .ok (.aload_n 0, 1) := by decide +kernel
theorem dX0_read_6 : decode cX0_read 6 = .ok (.aload_n 1, 1) := by decide +kernel
theorem dX0_read_7 : decode cX0_read 7 = .ok (.iload_n 2, 1) := by decide +kernel
theorem dX0_read_8 : decode cX0_read 8 = .ok (.invokevirtual 27, 3) := by decide +kernel
theorem dX0_read_11 : decode cX0_read 11 = .ok (.putfield 33, 3) := by decide +kernel
theorem dX0_read_14 : decode cX0_read 14 = .ok (.aload_n 0, 1) := by decide +kernel
theorem dX0_read_15 : decode cX0_read 15 = .ok (.getfield 19, 3) := by decide +kernel
theorem dX0_read_18 : decode cX0_read 18 = .ok (.iconst 0, 1) := by decide +kernel
theorem dX0_read_19 : decode cX0_read 19 = .ok (.putfield 36, 3) := by decide +kernel
theorem dX0_read_22 : decode cX0_read 22 = .ok (.aload_n 0, 1) := by decide +kernel
theorem dX0_read_23 : decode cX0_read 23 = .ok (.getfield 15, 3) := by decide +kernel
theorem dX0_read_26 : decode cX0_read 26 = .ok (.aload_n 1, 1) := by decide +kernel
theorem dX0_read_27 : decode cX0_read 27 = .ok (.iconst 1, 1) := by decide +kernel
theorem dX0_read_28 : decode cX0_read 28 = .ok (.invokevirtual 41, 3) := by decide +kernel
theorem dX0_read_31 : decode cX0_read 31 = .ok (.aload_n 1, 1) := by decide +kernel
theorem dX0_read_32 : decode cX0_read 32 = .ok (.iconst 2, 1) := by decide +kernel
theorem dX0_read_33 : decode cX0_read 33 = .ok (.invokevirtual 41, 3) := by decide +kernel
theorem dX0_read_36 : decode cX0_read 36 = .ok (.aload_n 0, 1) := by decide +kernel
theorem dX0_read_37 : decode cX0_read 37 = .ok (.getfield 33, 3) := by decide +kernel
theorem dX0_read_40 : decode cX0_read 40 = .ok (.invokestatic 45, 3) := by decide +kernel
theorem dX0_read_43 : decode cX0_read 43 = .ok (.iconst 0, 1) := by decide +kernel
theorem dX0_read_44 : decode cX0_read 44 = .ok (.invokevirtual 48, 3) := by decide +kernel
theorem dX0_read_47 : decode cX0_read 47 = .ok (.aload_n 0, 1) := by decide +kernel
theorem dX0_read_48 : decode cX0_read 48 = .ok (.iload_n 3, 1) := by decide +kernel
theorem dX0_read_49 : decode cX0_read 49 = .ok (.invokevirtual 52, 3) := by decide +kernel
theorem dX0_read_52 : decode cX0_read 52 = .ok (.ireturn, 1) := by decide +kernel
set_option maxRecDepth 20000 in
theorem ggX0_targetGroup_X4_stonesOf : GoodIn wsX0_targetGroup wsX4_stonesOf := goodIn_r _ [9, 10, 11, 12, 13, 8, 14, 15, 16, 35, 36, 37, 38, 39, 40, 41, 42, 43] (by decide +kernel) (by decide +kernel)
set_option maxRecDepth 20000 in
theorem gX0_targetGroup_X4_stonesOf : GoodIn wsX0_targetGroup (wsV RX0 41 RX4 yX4_stonesOf wsX4_stonesOf) := goodIn_app (goodIn_of _ (by decide +kernel)) ggX0_targetGroup_X4_stonesOf
set_option maxRecDepth 20000 in
theorem ggX0_targetGroup_X2_spread : GoodIn wsX0_targetGroup wsX2_spread := goodIn_r _ [21, 22, 23, 24, 20, 25, 26, 27, 28, 29, 44, 45, 46, 47, 48, 49] (by decide +kernel) (by decide +kernel)
set_option maxRecDepth 20000 in
theorem gX0_targetGroup_X2_spread : GoodIn wsX0_targetGroup (wsV RX0 55 RX2 yX2_spread wsX2_spread) := goodIn_app (goodIn_of _ (by decide +kernel)) ggX0_targetGroup_X2_spread
theorem dX0_targetGroup_0 : decode cX0_targetGroup 0 = .ok (.aload_n 0, 1) := by decide +kernel
theorem dX0_targetGroup_1 : decode cX0_targetGroup 1 = .ok (.getfield 9, 3) := by decide +kernel
theorem dX0_targetGroup_4 : decode cX0_targetGroup 4 = .ok (.lconst 1, 1) := by decide +kernel
theorem dX0_targetGroup_5 : decode cX0_targetGroup 5 = .ok (.aload_n 0, 1) := by decide +kernel
theorem dX0_targetGroup_6 : decode cX0_targetGroup 6 = .ok (.getfield 23, 3) := by decide +kernel
theorem dX0_targetGroup_9 : decode cX0_targetGroup 9 = .ok (.lshl, 1) := by decide +kernel
theorem dX0_targetGroup_10 : decode cX0_targetGroup 10 = .ok (.aload_n 0, 1) := by decide +kernel
theorem dX0_targetGroup_11 : decode cX0_targetGroup 11 = .ok (.getfield 15, 3) := by decide +kernel
theorem dX0_targetGroup_14 : decode cX0_targetGroup 14 = .ok (.aload_n 0, 1) := by decide +kernel
theorem dX0_targetGroup_15 : decode cX0_targetGroup 15 = .ok (.getfield 33, 3) := by decide +kernel
theorem dX0_targetGroup_18 : decode cX0_targetGroup 18 = .ok (.invokevirtual 41, 3) := by decide +kernel
theorem dX0_targetGroup_21 : decode cX0_targetGroup 21 = .ok (.invokevirtual 55, 3) := by decide +kernel
theorem dX0_targetGroup_24 : decode cX0_targetGroup 24 = .ok (.lreturn, 1) := by decide +kernel
set_option maxRecDepth 20000 in
theorem ggX0_caughtIn_X0_targetGroup : GoodIn wsX0_caughtIn wsX0_targetGroup := goodIn_r _ [9, 1, 10, 2, 11, 12, 13, 14, 15, 16, 17, 18, 19, 20, 21, 22, 23, 24, 25, 26, 27, 28, 29, 30, 31, 32, 33, 34, 35, 36, 134, 135, 136, 137, 138, 145, 146, 147, 148, 149, 150, 151, 152, 153, 139, 140, 141, 142, 143, 144] (by decide +kernel) (by decide +kernel)
set_option maxRecDepth 20000 in
theorem gX0_caughtIn_X0_targetGroup : GoodIn wsX0_caughtIn (wsV RX0 61 RX0 yX0_targetGroup wsX0_targetGroup) := goodIn_app (goodIn_of _ (by decide +kernel)) ggX0_caughtIn_X0_targetGroup
set_option maxRecDepth 20000 in
theorem ggX0_caughtIn_X2_beside : GoodIn wsX0_caughtIn wsX2_beside := goodIn_r _ [32, 33, 34, 35, 36, 139, 140, 141, 142, 143, 144] (by decide +kernel) (by decide +kernel)
set_option maxRecDepth 20000 in
theorem gX0_caughtIn_X2_beside : GoodIn wsX0_caughtIn (wsV RX0 65 RX2 yX2_beside wsX2_beside) := goodIn_app (goodIn_of _ (by decide +kernel)) ggX0_caughtIn_X2_beside
set_option maxRecDepth 20000 in
theorem ggX0_caughtIn_X4_free : GoodIn wsX0_caughtIn wsX4_free := goodIn_r _ [41, 42, 43, 17, 44, 18, 19, 20, 15, 21, 22, 23, 145, 146, 147, 148, 149, 150, 151, 152, 153, 139, 140, 141, 142, 143, 144] (by decide +kernel) (by decide +kernel)
set_option maxRecDepth 20000 in
theorem gX0_caughtIn_X4_free : GoodIn wsX0_caughtIn (wsV RX0 69 RX4 yX4_free wsX4_free) := goodIn_app (goodIn_of _ (by decide +kernel)) ggX0_caughtIn_X4_free
set_option maxRecDepth 20000 in
theorem ggX0_caughtIn_J13_bitCount_95d88 : GoodIn wsX0_caughtIn wsJ13_bitCount_95d88 := goodIn_r _ [48, 49, 50, 51] (by decide +kernel) (by decide +kernel)
set_option maxRecDepth 20000 in
theorem gX0_caughtIn_J13_bitCount_95d88 : GoodIn wsX0_caughtIn (va_wsS RX0 72 yJ13_bitCount_95d88 wsJ13_bitCount_95d88) := goodIn_app (goodIn_of _ (by decide +kernel)) ggX0_caughtIn_J13_bitCount_95d88
set_option maxRecDepth 20000 in
theorem ggX0_caughtIn_X2_holds : GoodIn wsX0_caughtIn wsX2_holds := goodIn_r _ [54] (by decide +kernel) (by decide +kernel)
set_option maxRecDepth 20000 in
theorem gX0_caughtIn_X2_holds : GoodIn wsX0_caughtIn (va_wsS RX0 81 yX2_holds wsX2_holds) := goodIn_app (goodIn_of _ (by decide +kernel)) ggX0_caughtIn_X2_holds
set_option maxRecDepth 20000 in
theorem ggX0_caughtIn_X4_add : GoodIn wsX0_caughtIn wsX4_add := goodIn_r _ [58, 17, 22, 59, 42, 60, 61, 62, 63, 13, 14, 15, 16, 18, 19, 20, 21, 23, 64, 65, 66, 67, 68, 69, 70, 27, 71, 72, 73, 74, 75, 76, 43, 44, 77, 39, 40, 41, 78, 53, 54, 79, 80, 81, 82, 83, 84, 85, 86, 87, 88, 89, 90, 91, 30, 31, 32, 33, 34, 35, 36, 92, 25, 26, 28, 29, 93, 94, 95, 96, 97, 145, 146, 147, 148, 149, 150, 151, 152, 153, 139, 140, 141, 142, 143, 144] (by decide +kernel) (by decide +kernel)
set_option maxRecDepth 20000 in
theorem gX0_caughtIn_X4_add : GoodIn wsX0_caughtIn (wsV RX0 85 RX4 yX4_add wsX4_add) := goodIn_app (goodIn_of _ (by decide +kernel)) ggX0_caughtIn_X4_add
set_option maxRecDepth 20000 in
theorem ggX0_caughtIn_X5_oneMore : GoodIn wsX0_caughtIn wsX5_oneMore := goodIn_r _ [102, 103, 154] (by decide +kernel) (by decide +kernel)
set_option maxRecDepth 20000 in
theorem gX0_caughtIn_X5_oneMore : GoodIn wsX0_caughtIn (wsV RX0 89 RX5 yX5_oneMore wsX5_oneMore) := goodIn_app (goodIn_of _ (by decide +kernel)) ggX0_caughtIn_X5_oneMore
set_option maxRecDepth 20000 in
theorem ggX0_caughtIn_X0_answersFail : GoodIn wsX0_caughtIn wsX0_answersFail := goodIn_r _ [115, 1, 2, 116, 3, 4, 5, 6, 7, 8, 9, 10, 11, 12, 13, 14, 15, 16, 17, 18, 19, 20, 21, 22, 23, 24, 25, 26, 27, 28, 29, 30, 31, 32, 33, 34, 35, 36, 37, 38, 39, 40, 41, 42, 43, 44, 117, 118, 119, 120, 88, 89, 90, 121, 122, 123, 124, 125, 45, 46, 47, 48, 49, 50, 51, 126, 127, 128, 129, 72, 130, 53, 54, 52, 55, 56, 57, 58, 59, 60, 61, 62, 63, 64, 65, 66, 67, 68, 69, 70, 71, 73, 74, 75, 76, 77, 78, 79, 80, 81, 82, 83, 84, 85, 86, 87, 91, 92, 93, 94, 95, 96, 97, 98, 99, 100, 101, 102, 103, 131, 132, 133, 107, 108, 109, 110, 111, 112, 113, 114, 0, 104, 105, 106, 134, 135, 136, 137, 138, 139, 140, 141, 142, 143, 144, 145, 146, 147, 148, 149, 150, 151, 152, 153, 154] (by decide +kernel) (by decide +kernel)
set_option maxRecDepth 20000 in
theorem gX0_caughtIn_X0_answersFail : GoodIn wsX0_caughtIn (wsV RX0 93 RX0 yX0_answersFail wsX0_answersFail) := goodIn_app (goodIn_of _ (by decide +kernel)) ggX0_caughtIn_X0_answersFail
set_option maxRecDepth 20000 in
theorem ggX0_caughtIn_X4_takeBack : GoodIn wsX0_caughtIn wsX4_takeBack := goodIn_r _ [110, 17, 111, 112, 113, 114, 145, 146, 147, 148, 149, 150, 151, 152, 153] (by decide +kernel) (by decide +kernel)
set_option maxRecDepth 20000 in
theorem gX0_caughtIn_X4_takeBack : GoodIn wsX0_caughtIn (wsV RX0 96 RX4 yX4_takeBack wsX4_takeBack) := goodIn_app (goodIn_of _ (by decide +kernel)) ggX0_caughtIn_X4_takeBack
theorem dX0_caughtIn_0 : decode cX0_caughtIn 0 = .ok (.aload_n 0, 1) := by decide +kernel
theorem dX0_caughtIn_1 : decode cX0_caughtIn 1 = .ok (.getfield 9, 3) := by decide +kernel
theorem dX0_caughtIn_4 : decode cX0_caughtIn 4 = .ok (.aload_n 0, 1) := by decide +kernel
theorem dX0_caughtIn_5 : decode cX0_caughtIn 5 = .ok (.invokevirtual 61, 3) := by decide +kernel
theorem dX0_caughtIn_8 : decode cX0_caughtIn 8 = .ok (.invokevirtual 65, 3) := by decide +kernel
theorem dX0_caughtIn_11 : decode cX0_caughtIn 11 = .ok (.aload_n 0, 1) := by decide +kernel
theorem dX0_caughtIn_12 : decode cX0_caughtIn 12 = .ok (.getfield 15, 3) := by decide +kernel
theorem dX0_caughtIn_15 : decode cX0_caughtIn 15 = .ok (.invokevirtual 69, 3) := by decide +kernel
theorem dX0_caughtIn_18 : decode cX0_caughtIn 18 = .ok (.land, 1) := by decide +kernel
theorem dX0_caughtIn_19 : decode cX0_caughtIn 19 = .ok (.lstore_n 2, 1) := by decide +kernel
theorem dX0_caughtIn_20 : decode cX0_caughtIn 20 = .ok (.lload_n 2, 1) := by decide +kernel
theorem dX0_caughtIn_21 : decode cX0_caughtIn 21 = .ok (.invokestatic 72, 3) := by decide +kernel
theorem dX0_caughtIn_24 : decode cX0_caughtIn 24 = .ok (.istore 4, 2) := by decide +kernel
theorem dX0_caughtIn_26 : decode cX0_caughtIn 26 = .ok (.iload 4, 2) := by decide +kernel
theorem dX0_caughtIn_28 : decode cX0_caughtIn 28 = .ok (.iconst 1, 1) := by decide +kernel
theorem dX0_caughtIn_29 : decode cX0_caughtIn 29 = .ok (.if_icmp .lt 15, 3) := by decide +kernel
theorem dX0_caughtIn_32 : decode cX0_caughtIn 32 = .ok (.iload 4, 2) := by decide +kernel
theorem dX0_caughtIn_34 : decode cX0_caughtIn 34 = .ok (.iconst 2, 1) := by decide +kernel
theorem dX0_caughtIn_35 : decode cX0_caughtIn 35 = .ok (.if_icmp .gt 9, 3) := by decide +kernel
theorem dX0_caughtIn_38 : decode cX0_caughtIn 38 = .ok (.iload_n 1, 1) := by decide +kernel
theorem dX0_caughtIn_39 : decode cX0_caughtIn 39 = .ok (.iload 4, 2) := by decide +kernel
theorem dX0_caughtIn_41 : decode cX0_caughtIn 41 = .ok (.if_icmp .ge 5, 3) := by decide +kernel
theorem dX0_caughtIn_44 : decode cX0_caughtIn 44 = .ok (.iconst 0, 1) := by decide +kernel
theorem dX0_caughtIn_45 : decode cX0_caughtIn 45 = .ok (.ireturn, 1) := by decide +kernel
theorem dX0_caughtIn_46 : decode cX0_caughtIn 46 = .ok (.iconst 0, 1) := by decide +kernel
theorem dX0_caughtIn_47 : decode cX0_caughtIn 47 = .ok (.istore 5, 2) := by decide +kernel
theorem dX0_caughtIn_49 : decode cX0_caughtIn 49 = .ok (.iconst 0, 1) := by decide +kernel
theorem dX0_caughtIn_50 : decode cX0_caughtIn 50 = .ok (.istore 6, 2) := by decide +kernel
theorem dX0_caughtIn_52 : decode cX0_caughtIn 52 = .ok (.iload 6, 2) := by decide +kernel
theorem dX0_caughtIn_54 : decode cX0_caughtIn 54 = .ok (.aload_n 0, 1) := by decide +kernel
theorem dX0_caughtIn_55 : decode cX0_caughtIn 55 = .ok (.getfield 9, 3) := by decide +kernel
theorem dX0_caughtIn_58 : decode cX0_caughtIn 58 = .ok (.getfield 78, 3) := by decide +kernel
theorem dX0_caughtIn_61 : decode cX0_caughtIn 61 = .ok (.if_icmp .ge 79, 3) := by decide +kernel
theorem dX0_caughtIn_64 : decode cX0_caughtIn 64 = .ok (.iload 5, 2) := by decide +kernel
theorem dX0_caughtIn_66 : decode cX0_caughtIn 66 = .ok (.ifCond .ne 74, 3) := by decide +kernel
theorem dX0_caughtIn_69 : decode cX0_caughtIn 69 = .ok (.lload_n 2, 1) := by decide +kernel
theorem dX0_caughtIn_70 : decode cX0_caughtIn 70 = .ok (.iload 6, 2) := by decide +kernel
theorem dX0_caughtIn_72 : decode cX0_caughtIn 72 = .ok (.invokestatic 81, 3) := by decide +kernel
theorem dX0_caughtIn_75 : decode cX0_caughtIn 75 = .ok (.ifCond .eq 59, 3) := by decide +kernel
theorem dX0_caughtIn_78 : decode cX0_caughtIn 78 = .ok (.aload_n 0, 1) := by decide +kernel
theorem dX0_caughtIn_79 : decode cX0_caughtIn 79 = .ok (.getfield 15, 3) := by decide +kernel
theorem dX0_caughtIn_82 : decode cX0_caughtIn 82 = .ok (.iload 6, 2) := by decide +kernel
theorem dX0_caughtIn_84 : decode cX0_caughtIn 84 = .ok (.invokevirtual 85, 3) := by decide +kernel
theorem dX0_caughtIn_87 : decode cX0_caughtIn 87 = .ok (.ifCond .ne 6, 3) := by decide +kernel
theorem dX0_caughtIn_90 : decode cX0_caughtIn 90 = .ok (.goto 44, 3) := by decide +kernel
theorem dX0_caughtIn_93 : decode cX0_caughtIn 93 = .ok (.aload_n 0, 1) := by decide +kernel
theorem dX0_caughtIn_94 : decode cX0_caughtIn 94 = .ok (.getfield 19, 3) := by decide +kernel
theorem dX0_caughtIn_97 : decode cX0_caughtIn 97 = .ok (.invokevirtual 89, 3) := by decide +kernel
theorem dX0_caughtIn_100 : decode cX0_caughtIn 100 = .ok (.ifCond .ne 10, 3) := by decide +kernel
theorem dX0_caughtIn_103 : decode cX0_caughtIn 103 = .ok (.bipush (-5), 2) := by decide +kernel
theorem dX0_caughtIn_105 : decode cX0_caughtIn 105 = .ok (.istore 5, 2) := by decide +kernel
theorem dX0_caughtIn_107 : decode cX0_caughtIn 107 = .ok (.goto 20, 3) := by decide +kernel
theorem dX0_caughtIn_110 : decode cX0_caughtIn 110 = .ok (.iload 4, 2) := by decide +kernel
theorem dX0_caughtIn_112 : decode cX0_caughtIn 112 = .ok (.iconst 1, 1) := by decide +kernel
theorem dX0_caughtIn_113 : decode cX0_caughtIn 113 = .ok (.if_icmp .ne 7, 3) := by decide +kernel
theorem dX0_caughtIn_116 : decode cX0_caughtIn 116 = .ok (.iconst 1, 1) := by decide +kernel
theorem dX0_caughtIn_117 : decode cX0_caughtIn 117 = .ok (.goto 8, 3) := by decide +kernel
theorem dX0_caughtIn_120 : decode cX0_caughtIn 120 = .ok (.aload_n 0, 1) := by decide +kernel
theorem dX0_caughtIn_121 : decode cX0_caughtIn 121 = .ok (.iload_n 1, 1) := by decide +kernel
theorem dX0_caughtIn_122 : decode cX0_caughtIn 122 = .ok (.invokevirtual 93, 3) := by decide +kernel
theorem dX0_caughtIn_125 : decode cX0_caughtIn 125 = .ok (.istore 5, 2) := by decide +kernel
theorem dX0_caughtIn_127 : decode cX0_caughtIn 127 = .ok (.aload_n 0, 1) := by decide +kernel
theorem dX0_caughtIn_128 : decode cX0_caughtIn 128 = .ok (.getfield 15, 3) := by decide +kernel
theorem dX0_caughtIn_131 : decode cX0_caughtIn 131 = .ok (.invokevirtual 96, 3) := by decide +kernel
theorem dX0_caughtIn_134 : decode cX0_caughtIn 134 = .ok (.iinc 6 1, 3) := by decide +kernel
theorem dX0_caughtIn_137 : decode cX0_caughtIn 137 = .ok (.goto (-85), 3) := by decide +kernel
theorem dX0_caughtIn_140 : decode cX0_caughtIn 140 = .ok (.iload 5, 2) := by decide +kernel
theorem dX0_caughtIn_142 : decode cX0_caughtIn 142 = .ok (.ireturn, 1) := by decide +kernel
set_option maxRecDepth 20000 in
theorem ggX0_answersFail_X0_targetGroup : GoodIn wsX0_answersFail wsX0_targetGroup := goodIn_r _ [10, 1, 11, 2, 12, 13, 14, 15, 16, 17, 18, 19, 20, 21, 22, 23, 24, 25, 26, 27, 28, 29, 30, 31, 32, 33, 34, 35, 36, 37, 134, 135, 136, 137, 138, 145, 146, 147, 148, 149, 150, 151, 152, 153, 139, 140, 141, 142, 143, 144] (by decide +kernel) (by decide +kernel)
set_option maxRecDepth 20000 in
theorem gX0_answersFail_X0_targetGroup : GoodIn wsX0_answersFail (wsV RX0 61 RX0 yX0_targetGroup wsX0_targetGroup) := goodIn_app (goodIn_of _ (by decide +kernel)) ggX0_answersFail_X0_targetGroup
set_option maxRecDepth 20000 in
theorem ggX0_answersFail_X2_beside : GoodIn wsX0_answersFail wsX2_beside := goodIn_r _ [33, 34, 35, 36, 37, 139, 140, 141, 142, 143, 144] (by decide +kernel) (by decide +kernel)
set_option maxRecDepth 20000 in
theorem gX0_answersFail_X2_beside : GoodIn wsX0_answersFail (wsV RX0 65 RX2 yX2_beside wsX2_beside) := goodIn_app (goodIn_of _ (by decide +kernel)) ggX0_answersFail_X2_beside
set_option maxRecDepth 20000 in
theorem ggX0_answersFail_X4_free : GoodIn wsX0_answersFail wsX4_free := goodIn_r _ [42, 43, 44, 18, 45, 19, 20, 21, 16, 22, 23, 24, 145, 146, 147, 148, 149, 150, 151, 152, 153, 139, 140, 141, 142, 143, 144] (by decide +kernel) (by decide +kernel)
set_option maxRecDepth 20000 in
theorem gX0_answersFail_X4_free : GoodIn wsX0_answersFail (wsV RX0 69 RX4 yX4_free wsX4_free) := goodIn_app (goodIn_of _ (by decide +kernel)) ggX0_answersFail_X4_free
set_option maxRecDepth 20000 in
theorem ggX0_answersFail_X0_takingCrossings : GoodIn wsX0_answersFail wsX0_takingCrossings := goodIn_r _ [49, 1, 2, 12, 4, 38, 31, 32, 28, 33, 34, 35, 36, 37, 50, 51, 52, 13, 14, 15, 16, 17, 18, 19, 20, 21, 22, 23, 24, 25, 26, 27, 29, 30, 53, 54, 55, 56, 57, 39, 40, 41, 42, 43, 44, 45, 58, 59, 60, 61, 62, 63, 64, 134, 135, 136, 137, 138, 139, 140, 141, 142, 143, 144, 145, 146, 147, 148, 149, 150, 151, 152, 153] (by decide +kernel) (by decide +kernel)
set_option maxRecDepth 20000 in
theorem gX0_answersFail_X0_takingCrossings : GoodIn wsX0_answersFail (wsV RX0 99 RX0 yX0_takingCrossings wsX0_takingCrossings) := goodIn_app (goodIn_of _ (by decide +kernel)) ggX0_answersFail_X0_takingCrossings
set_option maxRecDepth 20000 in
theorem ggX0_answersFail_J13_bitCount_95d88 : GoodIn wsX0_answersFail wsJ13_bitCount_95d88 := goodIn_r _ [61, 62, 63, 64] (by decide +kernel) (by decide +kernel)
set_option maxRecDepth 20000 in
theorem gX0_answersFail_J13_bitCount_95d88 : GoodIn wsX0_answersFail (va_wsS RX0 72 yJ13_bitCount_95d88 wsJ13_bitCount_95d88) := goodIn_app (goodIn_of _ (by decide +kernel)) ggX0_answersFail_J13_bitCount_95d88
set_option maxRecDepth 20000 in
theorem ggX0_answersFail_X2_nth : GoodIn wsX0_answersFail wsX2_nth := goodIn_r _ [68, 69, 70, 71, 28, 72, 139, 140, 141, 142, 143, 144] (by decide +kernel) (by decide +kernel)
set_option maxRecDepth 20000 in
theorem gX0_answersFail_X2_nth : GoodIn wsX0_answersFail (wsV RX0 104 RX2 yX2_nth wsX2_nth) := goodIn_app (goodIn_of _ (by decide +kernel)) ggX0_answersFail_X2_nth
set_option maxRecDepth 20000 in
theorem ggX0_answersFail_X2_holds : GoodIn wsX0_answersFail wsX2_holds := goodIn_r _ [72] (by decide +kernel) (by decide +kernel)
set_option maxRecDepth 20000 in
theorem gX0_answersFail_X2_holds : GoodIn wsX0_answersFail (va_wsS RX0 81 yX2_holds wsX2_holds) := goodIn_app (goodIn_of _ (by decide +kernel)) ggX0_answersFail_X2_holds
set_option maxRecDepth 20000 in
theorem ggX0_answersFail_X4_add : GoodIn wsX0_answersFail wsX4_add := goodIn_r _ [77, 18, 23, 78, 43, 79, 80, 81, 82, 14, 15, 16, 17, 19, 20, 21, 22, 24, 83, 84, 85, 86, 87, 88, 89, 28, 90, 69, 91, 92, 93, 94, 44, 45, 95, 40, 41, 42, 96, 71, 72, 97, 98, 99, 100, 101, 102, 103, 104, 105, 50, 51, 52, 106, 31, 32, 33, 34, 35, 36, 37, 107, 26, 27, 29, 30, 108, 109, 110, 111, 112, 145, 146, 147, 148, 149, 150, 151, 152, 153, 139, 140, 141, 142, 143, 144] (by decide +kernel) (by decide +kernel)
set_option maxRecDepth 20000 in
theorem gX0_answersFail_X4_add : GoodIn wsX0_answersFail (wsV RX0 85 RX4 yX4_add wsX4_add) := goodIn_app (goodIn_of _ (by decide +kernel)) ggX0_answersFail_X4_add
set_option maxRecDepth 20000 in
theorem ggX0_answersFail_X5_oneMore : GoodIn wsX0_answersFail wsX5_oneMore := goodIn_r _ [117, 118, 154] (by decide +kernel) (by decide +kernel)
set_option maxRecDepth 20000 in
theorem gX0_answersFail_X5_oneMore : GoodIn wsX0_answersFail (wsV RX0 89 RX5 yX5_oneMore wsX5_oneMore) := goodIn_app (goodIn_of _ (by decide +kernel)) ggX0_answersFail_X5_oneMore
set_option maxRecDepth 20000 in
theorem ggX0_answersFail_X0_caughtIn : GoodIn wsX0_answersFail wsX0_caughtIn := goodIn_r _ [130, 1, 2, 4, 5, 6, 7, 8, 9, 10, 11, 12, 13, 14, 15, 16, 17, 18, 19, 20, 21, 22, 23, 24, 25, 26, 27, 28, 29, 30, 31, 32, 33, 34, 35, 36, 37, 38, 39, 40, 41, 42, 43, 44, 45, 58, 59, 60, 61, 62, 63, 64, 73, 71, 72, 74, 75, 76, 77, 78, 79, 80, 81, 82, 83, 84, 85, 86, 87, 88, 89, 90, 69, 91, 92, 93, 94, 95, 96, 97, 98, 99, 100, 101, 102, 103, 104, 105, 50, 51, 52, 106, 107, 108, 109, 110, 111, 112, 113, 114, 115, 116, 117, 118, 131, 132, 133, 122, 123, 124, 125, 126, 127, 128, 129, 0, 3, 46, 47, 48, 49, 53, 54, 55, 56, 57, 65, 66, 67, 68, 70, 119, 120, 121, 134, 135, 136, 137, 138, 139, 140, 141, 142, 143, 144, 145, 146, 147, 148, 149, 150, 151, 152, 153, 154] (by decide +kernel) (by decide +kernel)
set_option maxRecDepth 20000 in
theorem gX0_answersFail_X0_caughtIn : GoodIn wsX0_answersFail (wsV RX0 52 RX0 yX0_caughtIn wsX0_caughtIn) := goodIn_app (goodIn_of _ (by decide +kernel)) ggX0_answersFail_X0_caughtIn
set_option maxRecDepth 20000 in
theorem ggX0_answersFail_X4_takeBack : GoodIn wsX0_answersFail wsX4_takeBack := goodIn_r _ [125, 18, 126, 127, 128, 129, 145, 146, 147, 148, 149, 150, 151, 152, 153] (by decide +kernel) (by decide +kernel)
set_option maxRecDepth 20000 in
theorem gX0_answersFail_X4_takeBack : GoodIn wsX0_answersFail (wsV RX0 96 RX4 yX4_takeBack wsX4_takeBack) := goodIn_app (goodIn_of _ (by decide +kernel)) ggX0_answersFail_X4_takeBack
theorem dX0_answersFail_0 : decode cX0_answersFail 0 = .ok (.aload_n 0, 1) := by decide +kernel
theorem dX0_answersFail_1 : decode cX0_answersFail 1 = .ok (.invokevirtual 61, 3) := by decide +kernel
theorem dX0_answersFail_4 : decode cX0_answersFail 4 = .ok (.lstore_n 2, 1) := by decide +kernel
theorem dX0_answersFail_5 : decode cX0_answersFail 5 = .ok (.aload_n 0, 1) := by decide +kernel
theorem dX0_answersFail_6 : decode cX0_answersFail 6 = .ok (.getfield 9, 3) := by decide +kernel
theorem dX0_answersFail_9 : decode cX0_answersFail 9 = .ok (.lload_n 2, 1) := by decide +kernel
theorem dX0_answersFail_10 : decode cX0_answersFail 10 = .ok (.invokevirtual 65, 3) := by decide +kernel
theorem dX0_answersFail_13 : decode cX0_answersFail 13 = .ok (.aload_n 0, 1) := by decide +kernel
theorem dX0_answersFail_14 : decode cX0_answersFail 14 = .ok (.getfield 15, 3) := by decide +kernel
theorem dX0_answersFail_17 : decode cX0_answersFail 17 = .ok (.invokevirtual 69, 3) := by decide +kernel
theorem dX0_answersFail_20 : decode cX0_answersFail 20 = .ok (.land, 1) := by decide +kernel
theorem dX0_answersFail_21 : decode cX0_answersFail 21 = .ok (.lstore 4, 2) := by decide +kernel
theorem dX0_answersFail_23 : decode cX0_answersFail 23 = .ok (.aload_n 0, 1) := by decide +kernel
theorem dX0_answersFail_24 : decode cX0_answersFail 24 = .ok (.lload_n 2, 1) := by decide +kernel
theorem dX0_answersFail_25 : decode cX0_answersFail 25 = .ok (.invokevirtual 99, 3) := by decide +kernel
theorem dX0_answersFail_28 : decode cX0_answersFail 28 = .ok (.lload 4, 2) := by decide +kernel
theorem dX0_answersFail_30 : decode cX0_answersFail 30 = .ok (.ldc2_w 102, 3) := by decide +kernel
theorem dX0_answersFail_33 : decode cX0_answersFail 33 = .ok (.lxor, 1) := by decide +kernel
theorem dX0_answersFail_34 : decode cX0_answersFail 34 = .ok (.land, 1) := by decide +kernel
theorem dX0_answersFail_35 : decode cX0_answersFail 35 = .ok (.lstore 6, 2) := by decide +kernel
theorem dX0_answersFail_37 : decode cX0_answersFail 37 = .ok (.lload 4, 2) := by decide +kernel
theorem dX0_answersFail_39 : decode cX0_answersFail 39 = .ok (.invokestatic 72, 3) := by decide +kernel
theorem dX0_answersFail_42 : decode cX0_answersFail 42 = .ok (.iconst 1, 1) := by decide +kernel
theorem dX0_answersFail_43 : decode cX0_answersFail 43 = .ok (.if_icmp .ne 7, 3) := by decide +kernel
theorem dX0_answersFail_46 : decode cX0_answersFail 46 = .ok (.iconst 1, 1) := by decide +kernel
theorem dX0_answersFail_47 : decode cX0_answersFail 47 = .ok (.goto 4, 3) := by decide +kernel
theorem dX0_answersFail_50 : decode cX0_answersFail 50 = .ok (.iconst 0, 1) := by decide +kernel
theorem dX0_answersFail_51 : decode cX0_answersFail 51 = .ok (.istore 8, 2) := by decide +kernel
theorem dX0_answersFail_53 : decode cX0_answersFail 53 = .ok (.iconst (-1), 1) := by decide +kernel
theorem dX0_answersFail_54 : decode cX0_answersFail 54 = .ok (.istore 9, 2) := by decide +kernel
theorem dX0_answersFail_56 : decode cX0_answersFail 56 = .ok (.iload 9, 2) := by decide +kernel
theorem dX0_answersFail_58 : decode cX0_answersFail 58 = .ok (.aload_n 0, 1) := by decide +kernel
theorem dX0_answersFail_59 : decode cX0_answersFail 59 = .ok (.getfield 9, 3) := by decide +kernel
theorem dX0_answersFail_62 : decode cX0_answersFail 62 = .ok (.getfield 78, 3) := by decide +kernel
theorem dX0_answersFail_65 : decode cX0_answersFail 65 = .ok (.if_icmp .ge 107, 3) := by decide +kernel
theorem dX0_answersFail_68 : decode cX0_answersFail 68 = .ok (.iload 8, 2) := by decide +kernel
theorem dX0_answersFail_70 : decode cX0_answersFail 70 = .ok (.iconst 1, 1) := by decide +kernel
theorem dX0_answersFail_71 : decode cX0_answersFail 71 = .ok (.if_icmp .ne 101, 3) := by decide +kernel
theorem dX0_answersFail_74 : decode cX0_answersFail 74 = .ok (.iload 9, 2) := by decide +kernel
theorem dX0_answersFail_76 : decode cX0_answersFail 76 = .ok (.ifCond .ge 16, 3) := by decide +kernel
theorem dX0_answersFail_79 : decode cX0_answersFail 79 = .ok (.aload_n 0, 1) := by decide +kernel
theorem dX0_answersFail_80 : decode cX0_answersFail 80 = .ok (.getfield 9, 3) := by decide +kernel
theorem dX0_answersFail_83 : decode cX0_answersFail 83 = .ok (.lload 4, 2) := by decide +kernel
theorem dX0_answersFail_85 : decode cX0_answersFail 85 = .ok (.iconst 0, 1) := by decide +kernel
theorem dX0_answersFail_86 : decode cX0_answersFail 86 = .ok (.invokevirtual 104, 3) := by decide +kernel
theorem dX0_answersFail_89 : decode cX0_answersFail 89 = .ok (.goto 5, 3) := by decide +kernel
theorem dX0_answersFail_92 : decode cX0_answersFail 92 = .ok (.iload 9, 2) := by decide +kernel
theorem dX0_answersFail_94 : decode cX0_answersFail 94 = .ok (.istore 10, 2) := by decide +kernel
theorem dX0_answersFail_96 : decode cX0_answersFail 96 = .ok (.iload 9, 2) := by decide +kernel
theorem dX0_answersFail_98 : decode cX0_answersFail 98 = .ok (.ifCond .lt 13, 3) := by decide +kernel
theorem dX0_answersFail_101 : decode cX0_answersFail 101 = .ok (.lload 6, 2) := by decide +kernel
theorem dX0_answersFail_103 : decode cX0_answersFail 103 = .ok (.iload 10, 2) := by decide +kernel
theorem dX0_answersFail_105 : decode cX0_answersFail 105 = .ok (.invokestatic 81, 3) := by decide +kernel
theorem dX0_answersFail_108 : decode cX0_answersFail 108 = .ok (.ifCond .eq 7, 3) := by decide +kernel
theorem dX0_answersFail_111 : decode cX0_answersFail 111 = .ok (.iconst 1, 1) := by decide +kernel
theorem dX0_answersFail_112 : decode cX0_answersFail 112 = .ok (.goto 4, 3) := by decide +kernel
theorem dX0_answersFail_115 : decode cX0_answersFail 115 = .ok (.iconst 0, 1) := by decide +kernel
theorem dX0_answersFail_116 : decode cX0_answersFail 116 = .ok (.istore 11, 2) := by decide +kernel
theorem dX0_answersFail_118 : decode cX0_answersFail 118 = .ok (.iload 11, 2) := by decide +kernel
theorem dX0_answersFail_120 : decode cX0_answersFail 120 = .ok (.ifCond .eq 46, 3) := by decide +kernel
theorem dX0_answersFail_123 : decode cX0_answersFail 123 = .ok (.aload_n 0, 1) := by decide +kernel
theorem dX0_answersFail_124 : decode cX0_answersFail 124 = .ok (.getfield 15, 3) := by decide +kernel
theorem dX0_answersFail_127 : decode cX0_answersFail 127 = .ok (.iload 10, 2) := by decide +kernel
theorem dX0_answersFail_129 : decode cX0_answersFail 129 = .ok (.invokevirtual 85, 3) := by decide +kernel
theorem dX0_answersFail_132 : decode cX0_answersFail 132 = .ok (.ifCond .eq 34, 3) := by decide +kernel
theorem dX0_answersFail_135 : decode cX0_answersFail 135 = .ok (.aload_n 0, 1) := by decide +kernel
theorem dX0_answersFail_136 : decode cX0_answersFail 136 = .ok (.getfield 19, 3) := by decide +kernel
theorem dX0_answersFail_139 : decode cX0_answersFail 139 = .ok (.invokevirtual 89, 3) := by decide +kernel
theorem dX0_answersFail_142 : decode cX0_answersFail 142 = .ok (.ifCond .eq 13, 3) := by decide +kernel
theorem dX0_answersFail_145 : decode cX0_answersFail 145 = .ok (.aload_n 0, 1) := by decide +kernel
theorem dX0_answersFail_146 : decode cX0_answersFail 146 = .ok (.iload_n 1, 1) := by decide +kernel
theorem dX0_answersFail_147 : decode cX0_answersFail 147 = .ok (.iconst 1, 1) := by decide +kernel
theorem dX0_answersFail_148 : decode cX0_answersFail 148 = .ok (.isub, 1) := by decide +kernel
theorem dX0_answersFail_149 : decode cX0_answersFail 149 = .ok (.invokevirtual 52, 3) := by decide +kernel
theorem dX0_answersFail_152 : decode cX0_answersFail 152 = .ok (.goto 5, 3) := by decide +kernel
theorem dX0_answersFail_155 : decode cX0_answersFail 155 = .ok (.bipush (-5), 2) := by decide +kernel
theorem dX0_answersFail_157 : decode cX0_answersFail 157 = .ok (.istore 8, 2) := by decide +kernel
theorem dX0_answersFail_159 : decode cX0_answersFail 159 = .ok (.aload_n 0, 1) := by decide +kernel
theorem dX0_answersFail_160 : decode cX0_answersFail 160 = .ok (.getfield 15, 3) := by decide +kernel
theorem dX0_answersFail_163 : decode cX0_answersFail 163 = .ok (.invokevirtual 96, 3) := by decide +kernel
theorem dX0_answersFail_166 : decode cX0_answersFail 166 = .ok (.iinc 9 1, 3) := by decide +kernel
theorem dX0_answersFail_169 : decode cX0_answersFail 169 = .ok (.goto (-113), 3) := by decide +kernel
theorem dX0_answersFail_172 : decode cX0_answersFail 172 = .ok (.iload 8, 2) := by decide +kernel
theorem dX0_answersFail_174 : decode cX0_answersFail 174 = .ok (.ireturn, 1) := by decide +kernel
set_option maxRecDepth 20000 in
theorem ggX0_takingCrossings_X2_beside : GoodIn wsX0_takingCrossings wsX2_beside := goodIn_r _ [9, 10, 11, 12, 13, 58, 59, 60, 61, 62, 63] (by decide +kernel) (by decide +kernel)
set_option maxRecDepth 20000 in
theorem gX0_takingCrossings_X2_beside : GoodIn wsX0_takingCrossings (wsV RX0 65 RX2 yX2_beside wsX2_beside) := goodIn_app (goodIn_of _ (by decide +kernel)) ggX0_takingCrossings_X2_beside
set_option maxRecDepth 20000 in
theorem ggX0_takingCrossings_X6_other : GoodIn wsX0_takingCrossings wsX6_other := goodIn_r _ [16] (by decide +kernel) (by decide +kernel)
set_option maxRecDepth 20000 in
theorem gX0_takingCrossings_X6_other_n45 : GoodIn wsX0_takingCrossings (wsX6_other) := ggX0_takingCrossings_X6_other
set_option maxRecDepth 20000 in
theorem ggX0_takingCrossings_X4_stonesOf : GoodIn wsX0_takingCrossings wsX4_stonesOf := goodIn_r _ [21, 22, 23, 24, 25, 20, 26, 27, 28, 64, 65, 66, 67, 68, 69, 70, 71, 72] (by decide +kernel) (by decide +kernel)
set_option maxRecDepth 20000 in
theorem gX0_takingCrossings_X4_stonesOf : GoodIn wsX0_takingCrossings (wsV RX0 41 RX4 yX4_stonesOf wsX4_stonesOf) := goodIn_app (goodIn_of _ (by decide +kernel)) ggX0_takingCrossings_X4_stonesOf
set_option maxRecDepth 20000 in
theorem ggX0_takingCrossings_X2_spread : GoodIn wsX0_takingCrossings wsX2_spread := goodIn_r _ [32, 33, 6, 7, 8, 9, 10, 11, 12, 13, 58, 59, 60, 61, 62, 63] (by decide +kernel) (by decide +kernel)
set_option maxRecDepth 20000 in
theorem gX0_takingCrossings_X2_spread : GoodIn wsX0_takingCrossings (wsV RX0 55 RX2 yX2_spread wsX2_spread) := goodIn_app (goodIn_of _ (by decide +kernel)) ggX0_takingCrossings_X2_spread
set_option maxRecDepth 20000 in
theorem ggX0_takingCrossings_X2_partFrom : GoodIn wsX0_takingCrossings wsX2_partFrom := goodIn_r _ [37, 33, 6, 7, 8, 9, 10, 11, 12, 13, 38, 30, 31, 32, 58, 59, 60, 61, 62, 63] (by decide +kernel) (by decide +kernel)
set_option maxRecDepth 20000 in
theorem gX0_takingCrossings_X2_partFrom : GoodIn wsX0_takingCrossings (wsV RX0 108 RX2 yX2_partFrom wsX2_partFrom) := goodIn_app (goodIn_of _ (by decide +kernel)) ggX0_takingCrossings_X2_partFrom
set_option maxRecDepth 20000 in
theorem ggX0_takingCrossings_X4_free : GoodIn wsX0_takingCrossings wsX4_free := goodIn_r _ [42, 43, 44, 22, 45, 23, 24, 25, 20, 26, 27, 28, 64, 65, 66, 67, 68, 69, 70, 71, 72, 58, 59, 60, 61, 62, 63] (by decide +kernel) (by decide +kernel)
set_option maxRecDepth 20000 in
theorem gX0_takingCrossings_X4_free : GoodIn wsX0_takingCrossings (wsV RX0 69 RX4 yX4_free wsX4_free) := goodIn_app (goodIn_of _ (by decide +kernel)) ggX0_takingCrossings_X4_free
set_option maxRecDepth 20000 in
theorem ggX0_takingCrossings_J13_bitCount_95d88 : GoodIn wsX0_takingCrossings wsJ13_bitCount_95d88 := goodIn_r _ [49, 50, 51, 52] (by decide +kernel) (by decide +kernel)
set_option maxRecDepth 20000 in
theorem gX0_takingCrossings_J13_bitCount_95d88 : GoodIn wsX0_takingCrossings (va_wsS RX0 72 yJ13_bitCount_95d88 wsJ13_bitCount_95d88) := goodIn_app (goodIn_of _ (by decide +kernel)) ggX0_takingCrossings_J13_bitCount_95d88
theorem dX0_takingCrossings_0 : decode cX0_takingCrossings 0 = .ok (.aload_n 0, 1) := by decide +kernel
theorem dX0_takingCrossings_1 : decode cX0_takingCrossings 1 = .ok (.getfield 9, 3) := by decide +kernel
theorem dX0_takingCrossings_4 : decode cX0_takingCrossings 4 = .ok (.aload_n 0, 1) := by decide +kernel
theorem dX0_takingCrossings_5 : decode cX0_takingCrossings 5 = .ok (.getfield 9, 3) := by decide +kernel
theorem dX0_takingCrossings_8 : decode cX0_takingCrossings 8 = .ok (.lload_n 1, 1) := by decide +kernel
theorem dX0_takingCrossings_9 : decode cX0_takingCrossings 9 = .ok (.invokevirtual 65, 3) := by decide +kernel
theorem dX0_takingCrossings_12 : decode cX0_takingCrossings 12 = .ok (.aload_n 0, 1) := by decide +kernel
theorem dX0_takingCrossings_13 : decode cX0_takingCrossings 13 = .ok (.getfield 15, 3) := by decide +kernel
theorem dX0_takingCrossings_16 : decode cX0_takingCrossings 16 = .ok (.aload_n 0, 1) := by decide +kernel
theorem dX0_takingCrossings_17 : decode cX0_takingCrossings 17 = .ok (.getfield 33, 3) := by decide +kernel
theorem dX0_takingCrossings_20 : decode cX0_takingCrossings 20 = .ok (.invokestatic 45, 3) := by decide +kernel
theorem dX0_takingCrossings_23 : decode cX0_takingCrossings 23 = .ok (.invokevirtual 41, 3) := by decide +kernel
theorem dX0_takingCrossings_26 : decode cX0_takingCrossings 26 = .ok (.invokevirtual 55, 3) := by decide +kernel
theorem dX0_takingCrossings_29 : decode cX0_takingCrossings 29 = .ok (.lstore_n 3, 1) := by decide +kernel
theorem dX0_takingCrossings_30 : decode cX0_takingCrossings 30 = .ok (.lconst 0, 1) := by decide +kernel
theorem dX0_takingCrossings_31 : decode cX0_takingCrossings 31 = .ok (.lstore 5, 2) := by decide +kernel
theorem dX0_takingCrossings_33 : decode cX0_takingCrossings 33 = .ok (.iconst 0, 1) := by decide +kernel
theorem dX0_takingCrossings_34 : decode cX0_takingCrossings 34 = .ok (.istore 7, 2) := by decide +kernel
theorem dX0_takingCrossings_36 : decode cX0_takingCrossings 36 = .ok (.iload 7, 2) := by decide +kernel
theorem dX0_takingCrossings_38 : decode cX0_takingCrossings 38 = .ok (.aload_n 0, 1) := by decide +kernel
theorem dX0_takingCrossings_39 : decode cX0_takingCrossings 39 = .ok (.getfield 9, 3) := by decide +kernel
theorem dX0_takingCrossings_42 : decode cX0_takingCrossings 42 = .ok (.getfield 78, 3) := by decide +kernel
theorem dX0_takingCrossings_45 : decode cX0_takingCrossings 45 = .ok (.if_icmp .ge 52, 3) := by decide +kernel
theorem dX0_takingCrossings_48 : decode cX0_takingCrossings 48 = .ok (.aload_n 0, 1) := by decide +kernel
theorem dX0_takingCrossings_49 : decode cX0_takingCrossings 49 = .ok (.getfield 9, 3) := by decide +kernel
theorem dX0_takingCrossings_52 : decode cX0_takingCrossings 52 = .ok (.aload_n 0, 1) := by decide +kernel
theorem dX0_takingCrossings_53 : decode cX0_takingCrossings 53 = .ok (.getfield 9, 3) := by decide +kernel
theorem dX0_takingCrossings_56 : decode cX0_takingCrossings 56 = .ok (.lload_n 3, 1) := by decide +kernel
theorem dX0_takingCrossings_57 : decode cX0_takingCrossings 57 = .ok (.iload 7, 2) := by decide +kernel
theorem dX0_takingCrossings_59 : decode cX0_takingCrossings 59 = .ok (.invokevirtual 108, 3) := by decide +kernel
theorem dX0_takingCrossings_62 : decode cX0_takingCrossings 62 = .ok (.invokevirtual 65, 3) := by decide +kernel
theorem dX0_takingCrossings_65 : decode cX0_takingCrossings 65 = .ok (.aload_n 0, 1) := by decide +kernel
theorem dX0_takingCrossings_66 : decode cX0_takingCrossings 66 = .ok (.getfield 15, 3) := by decide +kernel
theorem dX0_takingCrossings_69 : decode cX0_takingCrossings 69 = .ok (.invokevirtual 69, 3) := by decide +kernel
theorem dX0_takingCrossings_72 : decode cX0_takingCrossings 72 = .ok (.land, 1) := by decide +kernel
theorem dX0_takingCrossings_73 : decode cX0_takingCrossings 73 = .ok (.lstore 8, 2) := by decide +kernel
theorem dX0_takingCrossings_75 : decode cX0_takingCrossings 75 = .ok (.lload 8, 2) := by decide +kernel
theorem dX0_takingCrossings_77 : decode cX0_takingCrossings 77 = .ok (.invokestatic 72, 3) := by decide +kernel
theorem dX0_takingCrossings_80 : decode cX0_takingCrossings 80 = .ok (.iconst 1, 1) := by decide +kernel
theorem dX0_takingCrossings_81 : decode cX0_takingCrossings 81 = .ok (.if_icmp .ne 10, 3) := by decide +kernel
theorem dX0_takingCrossings_84 : decode cX0_takingCrossings 84 = .ok (.lload 5, 2) := by decide +kernel
theorem dX0_takingCrossings_86 : decode cX0_takingCrossings 86 = .ok (.lload 8, 2) := by decide +kernel
theorem dX0_takingCrossings_88 : decode cX0_takingCrossings 88 = .ok (.lor, 1) := by decide +kernel
theorem dX0_takingCrossings_89 : decode cX0_takingCrossings 89 = .ok (.lstore 5, 2) := by decide +kernel
theorem dX0_takingCrossings_91 : decode cX0_takingCrossings 91 = .ok (.iinc 7 1, 3) := by decide +kernel
theorem dX0_takingCrossings_94 : decode cX0_takingCrossings 94 = .ok (.goto (-58), 3) := by decide +kernel
theorem dX0_takingCrossings_97 : decode cX0_takingCrossings 97 = .ok (.lload 5, 2) := by decide +kernel
theorem dX0_takingCrossings_99 : decode cX0_takingCrossings 99 = .ok (.lreturn, 1) := by decide +kernel
theorem dX1_init_0 : decode cX1_init 0 = .ok (.aload_n 0, 1) := by decide +kernel
theorem dX1_init_1 : decode cX1_init 1 = .ok (.invokespecial 3, 3) := by decide +kernel
theorem dX1_init_4 : decode cX1_init 4 = .ok (.aload_n 0, 1) := by decide +kernel
theorem dX1_init_5 : decode cX1_init 5 = .ok (.aload_n 1, 1) := by decide +kernel
theorem dX1_init_6 : decode cX1_init 6 = .ok (.putfield 9, 3) := by decide +kernel
theorem dX1_init_9 : decode cX1_init 9 = .ok (.aload_n 0, 1) := by decide +kernel
theorem dX1_init_10 : decode cX1_init 10 = .ok (.aload_n 2, 1) := by decide +kernel
theorem dX1_init_11 : decode cX1_init 11 = .ok (.putfield 15, 3) := by decide +kernel
theorem dX1_init_14 : decode cX1_init 14 = .ok (.aload_n 0, 1) := by decide +kernel
theorem dX1_init_15 : decode cX1_init 15 = .ok (.aload_n 3, 1) := by decide +kernel
theorem dX1_init_16 : decode cX1_init 16 = .ok (.putfield 19, 3) := by decide +kernel
theorem dX1_init_19 : decode cX1_init 19 = .ok (.return_, 1) := by decide +kernel
set_option maxRecDepth 20000 in
theorem ggX1_read_X4_colourAt : GoodIn wsX1_read wsX4_colourAt := goodIn_r _ [11, 12, 13, 14, 10, 15, 16, 17, 18, 19, 20, 21, 22, 23, 24, 25, 26, 118, 119, 120, 121, 122, 123, 124, 125, 126] (by decide +kernel) (by decide +kernel)
set_option maxRecDepth 20000 in
theorem gX1_read_X4_colourAt : GoodIn wsX1_read (wsV RX1 27 RX4 yX4_colourAt wsX4_colourAt) := goodIn_app (goodIn_of _ (by decide +kernel)) ggX1_read_X4_colourAt
set_option maxRecDepth 20000 in
theorem ggX1_read_X1_takenIn : GoodIn wsX1_read wsX1_takenIn := goodIn_r _ [31, 2, 3, 32, 33, 5, 4, 34, 35, 36, 10, 37, 16, 38, 39, 40, 41, 42, 43, 44, 45, 46, 21, 47, 48, 49, 50, 51, 12, 13, 14, 15, 17, 18, 19, 20, 22, 52, 53, 54, 55, 56, 57, 58, 25, 59, 60, 61, 62, 63, 64, 65, 66, 67, 68, 69, 70, 23, 24, 26, 71, 72, 73, 74, 75, 76, 77, 78, 79, 80, 81, 82, 83, 84, 85, 86, 87, 88, 89, 90, 91, 92, 93, 94, 95, 96, 97, 98, 99, 100, 101, 30, 102, 103, 104, 105, 106, 107, 108, 109, 110, 1, 7, 8, 9, 11, 27, 28, 29, 111, 112, 113, 114, 115, 116, 118, 119, 120, 121, 122, 123, 124, 125, 126, 127, 128, 129, 130, 131, 132, 117] (by decide +kernel) (by decide +kernel)
set_option maxRecDepth 20000 in
theorem gX1_read_X1_takenIn : GoodIn wsX1_read (wsV RX1 44 RX1 yX1_takenIn wsX1_takenIn) := goodIn_app (goodIn_of _ (by decide +kernel)) ggX1_read_X1_takenIn
theorem dX1_read_0 : decode cX1_read 0 = .ok (.aload_n 0, 1) := by decide +kernel
theorem dX1_read_1 : decode cX1_read 1 = .ok (.iload_n 1, 1) := by decide +kernel
theorem dX1_read_2 : decode cX1_read 2 = .ok (.putfield 23, 3) := by decide +kernel
theorem dX1_read_5 : decode cX1_read 5 = .ok (.aload_n 0, 1) := by decide +kernel
theorem dX1_read_6 : decode cX1_read 6 = .ok (.aload_n 0, 1) := by decide +kernel
theorem dX1_read_7 : decode cX1_read 7 = .ok (.getfield 15, 3) := by decide +kernel
theorem dX1_read_10 : decode cX1_read 10 = .ok (.iload_n 1, 1) := by decide +kernel
theorem dX1_read_11 : decode cX1_read 11 = .ok (.invokevirtual 27, 3) := by decide +kernel
theorem dX1_read_14 : decode cX1_read 14 = .ok (.putfield 33, 3) := by decide +kernel
theorem dX1_read_17 : decode cX1_read 17 = .ok (.aload_n 0, 1) := by decide +kernel
theorem dX1_read_18 : decode cX1_read 18 = .ok (.iconst (-1), 1) := by decide +kernel
theorem dX1_read_19 : decode cX1_read 19 = .ok (.putfield 36, 3) := by decide +kernel
theorem dX1_read_22 : decode cX1_read 22 = .ok (.aload_n 0, 1) := by decide +kernel
theorem dX1_read_23 : decode cX1_read 23 = .ok (.getfield 19, 3) := by decide +kernel
theorem dX1_read_26 : decode cX1_read 26 = .ok (.iconst 0, 1) := by decide +kernel
theorem dX1_read_27 : decode cX1_read 27 = .ok (.putfield 39, 3) := by decide +kernel
theorem dX1_read_30 : decode cX1_read 30 = .ok (.aload_n 0, 1) := by decide +kernel
theorem dX1_read_31 : decode cX1_read 31 = .ok (.iload_n 2, 1) := by decide +kernel
theorem dX1_read_32 : decode cX1_read 32 = .ok (.invokevirtual 44, 3) := by decide +kernel
theorem dX1_read_35 : decode cX1_read 35 = .ok (.ireturn, 1) := by decide +kernel
set_option maxRecDepth 20000 in
theorem ggX1_takenIn_X4_mover : GoodIn wsX1_takenIn wsX4_mover := goodIn_r _ [11, 12, 13, 14, 15, 10, 16, 17, 115, 116, 117, 118, 119, 120, 121, 122, 123] (by decide +kernel) (by decide +kernel)
set_option maxRecDepth 20000 in
theorem gX1_takenIn_X4_mover : GoodIn wsX1_takenIn (wsV RX1 47 RX4 yX4_mover wsX4_mover) := goodIn_app (goodIn_of _ (by decide +kernel)) ggX1_takenIn_X4_mover
set_option maxRecDepth 20000 in
theorem ggX1_takenIn_X4_add : GoodIn wsX1_takenIn wsX4_add := goodIn_r _ [21, 12, 22, 23, 24, 25, 26, 27, 28, 29, 30, 10, 31, 32, 33, 34, 35, 36, 37, 38, 39, 40, 41, 42, 43, 44, 45, 46, 47, 48, 49, 50, 51, 52, 53, 54, 55, 56, 57, 58, 59, 60, 8, 9, 11, 13, 14, 15, 16, 17, 61, 62, 63, 64, 65, 66, 67, 68, 69, 70, 71, 72, 73, 74, 75, 76, 77, 78, 79, 80, 81, 115, 116, 117, 118, 119, 120, 121, 122, 123, 124, 125, 126, 127, 128, 129] (by decide +kernel) (by decide +kernel)
set_option maxRecDepth 20000 in
theorem gX1_takenIn_X4_add : GoodIn wsX1_takenIn (wsV RX1 56 RX4 yX4_add wsX4_add) := goodIn_app (goodIn_of _ (by decide +kernel)) ggX1_takenIn_X4_add
set_option maxRecDepth 20000 in
theorem ggX1_takenIn_X5_oneMore : GoodIn wsX1_takenIn wsX5_oneMore := goodIn_r _ [86, 87, 130] (by decide +kernel) (by decide +kernel)
set_option maxRecDepth 20000 in
theorem gX1_takenIn_X5_oneMore : GoodIn wsX1_takenIn (wsV RX1 60 RX5 yX5_oneMore wsX5_oneMore) := goodIn_app (goodIn_of _ (by decide +kernel)) ggX1_takenIn_X5_oneMore
set_option maxRecDepth 20000 in
theorem ggX1_takenIn_X1_takenBehindAct : GoodIn wsX1_takenIn wsX1_takenBehindAct := goodIn_r _ [100, 1, 101, 2, 102, 103, 104, 10, 105, 28, 29, 30, 31, 12, 32, 33, 34, 35, 22, 36, 57, 58, 44, 59, 106, 107, 108, 91, 0, 3, 4, 5, 6, 7, 8, 9, 11, 13, 14, 15, 16, 17, 18, 19, 20, 21, 23, 24, 25, 26, 27, 37, 38, 39, 40, 41, 42, 43, 45, 46, 47, 48, 49, 50, 51, 52, 53, 54, 55, 56, 60, 61, 62, 63, 64, 65, 66, 67, 68, 69, 70, 71, 72, 73, 74, 75, 76, 77, 78, 79, 80, 81, 82, 83, 84, 85, 86, 87, 88, 89, 90, 92, 93, 94, 95, 96, 97, 98, 99, 109, 110, 111, 112, 113, 114, 115, 116, 117, 118, 119, 120, 121, 122, 123, 124, 125, 126, 127, 128, 129, 130] (by decide +kernel) (by decide +kernel)
set_option maxRecDepth 20000 in
theorem gX1_takenIn_X1_takenBehindAct : GoodIn wsX1_takenIn (wsV RX1 64 RX1 yX1_takenBehindAct wsX1_takenBehindAct) := goodIn_app (goodIn_of _ (by decide +kernel)) ggX1_takenIn_X1_takenBehindAct
set_option maxRecDepth 20000 in
theorem ggX1_takenIn_X4_takeBack : GoodIn wsX1_takenIn wsX4_takeBack := goodIn_r _ [95, 12, 96, 97, 98, 99, 115, 116, 117, 118, 119, 120, 121, 122, 123] (by decide +kernel) (by decide +kernel)
set_option maxRecDepth 20000 in
theorem gX1_takenIn_X4_takeBack : GoodIn wsX1_takenIn (wsV RX1 67 RX4 yX4_takeBack wsX4_takeBack) := goodIn_app (goodIn_of _ (by decide +kernel)) ggX1_takenIn_X4_takeBack
theorem dX1_takenIn_0 : decode cX1_takenIn 0 = .ok (.iload_n 1, 1) := by decide +kernel
theorem dX1_takenIn_1 : decode cX1_takenIn 1 = .ok (.iconst 1, 1) := by decide +kernel
theorem dX1_takenIn_2 : decode cX1_takenIn 2 = .ok (.if_icmp .ge 5, 3) := by decide +kernel
theorem dX1_takenIn_5 : decode cX1_takenIn 5 = .ok (.iconst 0, 1) := by decide +kernel
theorem dX1_takenIn_6 : decode cX1_takenIn 6 = .ok (.ireturn, 1) := by decide +kernel
theorem dX1_takenIn_7 : decode cX1_takenIn 7 = .ok (.aload_n 0, 1) := by decide +kernel
theorem dX1_takenIn_8 : decode cX1_takenIn 8 = .ok (.getfield 15, 3) := by decide +kernel
theorem dX1_takenIn_11 : decode cX1_takenIn 11 = .ok (.invokevirtual 47, 3) := by decide +kernel
theorem dX1_takenIn_14 : decode cX1_takenIn 14 = .ok (.aload_n 0, 1) := by decide +kernel
theorem dX1_takenIn_15 : decode cX1_takenIn 15 = .ok (.getfield 33, 3) := by decide +kernel
theorem dX1_takenIn_18 : decode cX1_takenIn 18 = .ok (.if_icmp .ne 7, 3) := by decide +kernel
theorem dX1_takenIn_21 : decode cX1_takenIn 21 = .ok (.iconst 1, 1) := by decide +kernel
theorem dX1_takenIn_22 : decode cX1_takenIn 22 = .ok (.goto 4, 3) := by decide +kernel
theorem dX1_takenIn_25 : decode cX1_takenIn 25 = .ok (.iconst 0, 1) := by decide +kernel
theorem dX1_takenIn_26 : decode cX1_takenIn 26 = .ok (.istore_n 2, 1) := by decide +kernel
theorem dX1_takenIn_27 : decode cX1_takenIn 27 = .ok (.iconst 0, 1) := by decide +kernel
theorem dX1_takenIn_28 : decode cX1_takenIn 28 = .ok (.istore_n 3, 1) := by decide +kernel
theorem dX1_takenIn_29 : decode cX1_takenIn 29 = .ok (.iload_n 3, 1) := by decide +kernel
theorem dX1_takenIn_30 : decode cX1_takenIn 30 = .ok (.aload_n 0, 1) := by decide +kernel
theorem dX1_takenIn_31 : decode cX1_takenIn 31 = .ok (.getfield 9, 3) := by decide +kernel
theorem dX1_takenIn_34 : decode cX1_takenIn 34 = .ok (.getfield 51, 3) := by decide +kernel
theorem dX1_takenIn_37 : decode cX1_takenIn 37 = .ok (.if_icmp .gt 66, 3) := by decide +kernel
theorem dX1_takenIn_40 : decode cX1_takenIn 40 = .ok (.aload_n 0, 1) := by decide +kernel
theorem dX1_takenIn_41 : decode cX1_takenIn 41 = .ok (.getfield 15, 3) := by decide +kernel
theorem dX1_takenIn_44 : decode cX1_takenIn 44 = .ok (.iload_n 3, 1) := by decide +kernel
theorem dX1_takenIn_45 : decode cX1_takenIn 45 = .ok (.invokevirtual 56, 3) := by decide +kernel
theorem dX1_takenIn_48 : decode cX1_takenIn 48 = .ok (.ifCond .ne 6, 3) := by decide +kernel
theorem dX1_takenIn_51 : decode cX1_takenIn 51 = .ok (.goto 46, 3) := by decide +kernel
theorem dX1_takenIn_54 : decode cX1_takenIn 54 = .ok (.aload_n 0, 1) := by decide +kernel
theorem dX1_takenIn_55 : decode cX1_takenIn 55 = .ok (.getfield 19, 3) := by decide +kernel
theorem dX1_takenIn_58 : decode cX1_takenIn 58 = .ok (.invokevirtual 60, 3) := by decide +kernel
theorem dX1_takenIn_61 : decode cX1_takenIn 61 = .ok (.ifCond .eq 11, 3) := by decide +kernel
theorem dX1_takenIn_64 : decode cX1_takenIn 64 = .ok (.aload_n 0, 1) := by decide +kernel
theorem dX1_takenIn_65 : decode cX1_takenIn 65 = .ok (.iload_n 1, 1) := by decide +kernel
theorem dX1_takenIn_66 : decode cX1_takenIn 66 = .ok (.invokevirtual 64, 3) := by decide +kernel
theorem dX1_takenIn_69 : decode cX1_takenIn 69 = .ok (.goto 5, 3) := by decide +kernel
theorem dX1_takenIn_72 : decode cX1_takenIn 72 = .ok (.bipush (-5), 2) := by decide +kernel
theorem dX1_takenIn_74 : decode cX1_takenIn 74 = .ok (.istore 4, 2) := by decide +kernel
theorem dX1_takenIn_76 : decode cX1_takenIn 76 = .ok (.aload_n 0, 1) := by decide +kernel
theorem dX1_takenIn_77 : decode cX1_takenIn 77 = .ok (.getfield 15, 3) := by decide +kernel
theorem dX1_takenIn_80 : decode cX1_takenIn 80 = .ok (.invokevirtual 67, 3) := by decide +kernel
theorem dX1_takenIn_83 : decode cX1_takenIn 83 = .ok (.iload 4, 2) := by decide +kernel
theorem dX1_takenIn_85 : decode cX1_takenIn 85 = .ok (.iload_n 2, 1) := by decide +kernel
theorem dX1_takenIn_86 : decode cX1_takenIn 86 = .ok (.if_icmp .eq 11, 3) := by decide +kernel
theorem dX1_takenIn_89 : decode cX1_takenIn 89 = .ok (.aload_n 0, 1) := by decide +kernel
theorem dX1_takenIn_90 : decode cX1_takenIn 90 = .ok (.iload_n 3, 1) := by decide +kernel
theorem dX1_takenIn_91 : decode cX1_takenIn 91 = .ok (.putfield 36, 3) := by decide +kernel
theorem dX1_takenIn_94 : decode cX1_takenIn 94 = .ok (.iload 4, 2) := by decide +kernel
theorem dX1_takenIn_96 : decode cX1_takenIn 96 = .ok (.ireturn, 1) := by decide +kernel
theorem dX1_takenIn_97 : decode cX1_takenIn 97 = .ok (.iinc 3 1, 3) := by decide +kernel
theorem dX1_takenIn_100 : decode cX1_takenIn 100 = .ok (.goto (-71), 3) := by decide +kernel
theorem dX1_takenIn_103 : decode cX1_takenIn 103 = .ok (.iload_n 2, 1) := by decide +kernel
theorem dX1_takenIn_104 : decode cX1_takenIn 104 = .ok (.ireturn, 1) := by decide +kernel
set_option maxRecDepth 20000 in
theorem ggX1_takenBehindAct_X4_colourAt : GoodIn wsX1_takenBehindAct wsX4_colourAt := goodIn_r _ [8, 9, 10, 11, 7, 12, 13, 14, 15, 16, 17, 18, 19, 20, 21, 22, 23, 115, 116, 117, 118, 119, 120, 121, 122, 123] (by decide +kernel) (by decide +kernel)
set_option maxRecDepth 20000 in
theorem gX1_takenBehindAct_X4_colourAt : GoodIn wsX1_takenBehindAct (wsV RX1 27 RX4 yX4_colourAt wsX4_colourAt) := goodIn_app (goodIn_of _ (by decide +kernel)) ggX1_takenBehindAct_X4_colourAt
set_option maxRecDepth 20000 in
theorem ggX1_takenBehindAct_X1_takenIn : GoodIn wsX1_takenBehindAct wsX1_takenIn := goodIn_r _ [28, 1, 3, 29, 30, 31, 32, 33, 34, 35, 7, 36, 13, 37, 38, 39, 40, 41, 42, 43, 44, 45, 18, 46, 47, 48, 49, 50, 9, 10, 11, 12, 14, 15, 16, 17, 19, 51, 52, 53, 54, 55, 56, 57, 22, 58, 59, 60, 61, 62, 63, 64, 65, 66, 67, 68, 69, 20, 21, 23, 70, 71, 72, 73, 74, 75, 76, 77, 78, 79, 80, 81, 82, 83, 84, 85, 86, 87, 88, 89, 90, 91, 92, 93, 94, 95, 96, 97, 98, 99, 100, 27, 101, 102, 103, 104, 105, 106, 107, 108, 0, 2, 4, 5, 6, 8, 24, 25, 26, 109, 110, 111, 112, 113, 114, 115, 116, 117, 118, 119, 120, 121, 122, 123, 124, 125, 126, 127, 128, 129, 130] (by decide +kernel) (by decide +kernel)
set_option maxRecDepth 20000 in
theorem gX1_takenBehindAct_X1_takenIn : GoodIn wsX1_takenBehindAct (wsV RX1 44 RX1 yX1_takenIn wsX1_takenIn) := goodIn_app (goodIn_of _ (by decide +kernel)) ggX1_takenBehindAct_X1_takenIn
theorem dX1_takenBehindAct_0 : decode cX1_takenBehindAct 0 = .ok (.aload_n 0, 1) := by decide +kernel
theorem dX1_takenBehindAct_1 : decode cX1_takenBehindAct 1 = .ok (.getfield 15, 3) := by decide +kernel
theorem dX1_takenBehindAct_4 : decode cX1_takenBehindAct 4 = .ok (.aload_n 0, 1) := by decide +kernel
theorem dX1_takenBehindAct_5 : decode cX1_takenBehindAct 5 = .ok (.getfield 23, 3) := by decide +kernel
theorem dX1_takenBehindAct_8 : decode cX1_takenBehindAct 8 = .ok (.invokevirtual 27, 3) := by decide +kernel
theorem dX1_takenBehindAct_11 : decode cX1_takenBehindAct 11 = .ok (.aload_n 0, 1) := by decide +kernel
theorem dX1_takenBehindAct_12 : decode cX1_takenBehindAct 12 = .ok (.getfield 33, 3) := by decide +kernel
theorem dX1_takenBehindAct_15 : decode cX1_takenBehindAct 15 = .ok (.if_icmp .eq 7, 3) := by decide +kernel
theorem dX1_takenBehindAct_18 : decode cX1_takenBehindAct 18 = .ok (.iconst 1, 1) := by decide +kernel
theorem dX1_takenBehindAct_19 : decode cX1_takenBehindAct 19 = .ok (.goto 10, 3) := by decide +kernel
theorem dX1_takenBehindAct_22 : decode cX1_takenBehindAct 22 = .ok (.aload_n 0, 1) := by decide +kernel
theorem dX1_takenBehindAct_23 : decode cX1_takenBehindAct 23 = .ok (.iload_n 1, 1) := by decide +kernel
theorem dX1_takenBehindAct_24 : decode cX1_takenBehindAct 24 = .ok (.iconst 1, 1) := by decide +kernel
theorem dX1_takenBehindAct_25 : decode cX1_takenBehindAct 25 = .ok (.isub, 1) := by decide +kernel
theorem dX1_takenBehindAct_26 : decode cX1_takenBehindAct 26 = .ok (.invokevirtual 44, 3) := by decide +kernel
theorem dX1_takenBehindAct_29 : decode cX1_takenBehindAct 29 = .ok (.ireturn, 1) := by decide +kernel
theorem dX2_init_0 : decode cX2_init 0 = .ok (.aload_n 0, 1) := by decide +kernel
theorem dX2_init_1 : decode cX2_init 1 = .ok (.invokespecial 3, 3) := by decide +kernel
theorem dX2_init_4 : decode cX2_init 4 = .ok (.return_, 1) := by decide +kernel
theorem dX2_measure_0 : decode cX2_measure 0 = .ok (.aload_n 0, 1) := by decide +kernel
theorem dX2_measure_1 : decode cX2_measure 1 = .ok (.iload_n 1, 1) := by decide +kernel
theorem dX2_measure_2 : decode cX2_measure 2 = .ok (.putfield 9, 3) := by decide +kernel
theorem dX2_measure_5 : decode cX2_measure 5 = .ok (.aload_n 0, 1) := by decide +kernel
theorem dX2_measure_6 : decode cX2_measure 6 = .ok (.iload_n 2, 1) := by decide +kernel
theorem dX2_measure_7 : decode cX2_measure 7 = .ok (.putfield 15, 3) := by decide +kernel
theorem dX2_measure_10 : decode cX2_measure 10 = .ok (.aload_n 0, 1) := by decide +kernel
theorem dX2_measure_11 : decode cX2_measure 11 = .ok (.iload_n 1, 1) := by decide +kernel
theorem dX2_measure_12 : decode cX2_measure 12 = .ok (.iload_n 2, 1) := by decide +kernel
theorem dX2_measure_13 : decode cX2_measure 13 = .ok (.imul, 1) := by decide +kernel
theorem dX2_measure_14 : decode cX2_measure 14 = .ok (.putfield 18, 3) := by decide +kernel
theorem dX2_measure_17 : decode cX2_measure 17 = .ok (.aload_n 0, 1) := by decide +kernel
theorem dX2_measure_18 : decode cX2_measure 18 = .ok (.lconst 1, 1) := by decide +kernel
theorem dX2_measure_19 : decode cX2_measure 19 = .ok (.aload_n 0, 1) := by decide +kernel
theorem dX2_measure_20 : decode cX2_measure 20 = .ok (.getfield 18, 3) := by decide +kernel
theorem dX2_measure_23 : decode cX2_measure 23 = .ok (.lshl, 1) := by decide +kernel
theorem dX2_measure_24 : decode cX2_measure 24 = .ok (.lconst 1, 1) := by decide +kernel
theorem dX2_measure_25 : decode cX2_measure 25 = .ok (.lsub, 1) := by decide +kernel
theorem dX2_measure_26 : decode cX2_measure 26 = .ok (.putfield 21, 3) := by decide +kernel
theorem dX2_measure_29 : decode cX2_measure 29 = .ok (.lconst 0, 1) := by decide +kernel
theorem dX2_measure_30 : decode cX2_measure 30 = .ok (.lstore_n 3, 1) := by decide +kernel
theorem dX2_measure_31 : decode cX2_measure 31 = .ok (.iconst 0, 1) := by decide +kernel
theorem dX2_measure_32 : decode cX2_measure 32 = .ok (.istore 5, 2) := by decide +kernel
theorem dX2_measure_34 : decode cX2_measure 34 = .ok (.iload 5, 2) := by decide +kernel
theorem dX2_measure_36 : decode cX2_measure 36 = .ok (.iload_n 2, 1) := by decide +kernel
theorem dX2_measure_37 : decode cX2_measure 37 = .ok (.if_icmp .ge 18, 3) := by decide +kernel
theorem dX2_measure_40 : decode cX2_measure 40 = .ok (.lload_n 3, 1) := by decide +kernel
theorem dX2_measure_41 : decode cX2_measure 41 = .ok (.lconst 1, 1) := by decide +kernel
theorem dX2_measure_42 : decode cX2_measure 42 = .ok (.iload 5, 2) := by decide +kernel
theorem dX2_measure_44 : decode cX2_measure 44 = .ok (.iload_n 1, 1) := by decide +kernel
theorem dX2_measure_45 : decode cX2_measure 45 = .ok (.imul, 1) := by decide +kernel
theorem dX2_measure_46 : decode cX2_measure 46 = .ok (.lshl, 1) := by decide +kernel
theorem dX2_measure_47 : decode cX2_measure 47 = .ok (.lor, 1) := by decide +kernel
theorem dX2_measure_48 : decode cX2_measure 48 = .ok (.lstore_n 3, 1) := by decide +kernel
theorem dX2_measure_49 : decode cX2_measure 49 = .ok (.iinc 5 1, 3) := by decide +kernel
theorem dX2_measure_52 : decode cX2_measure 52 = .ok (.goto (-18), 3) := by decide +kernel
theorem dX2_measure_55 : decode cX2_measure 55 = .ok (.aload_n 0, 1) := by decide +kernel
theorem dX2_measure_56 : decode cX2_measure 56 = .ok (.aload_n 0, 1) := by decide +kernel
theorem dX2_measure_57 : decode cX2_measure 57 = .ok (.getfield 21, 3) := by decide +kernel
theorem dX2_measure_60 : decode cX2_measure 60 = .ok (.lload_n 3, 1) := by decide +kernel
theorem dX2_measure_61 : decode cX2_measure 61 = .ok (.ldc2_w 25, 3) := by decide +kernel
theorem dX2_measure_64 : decode cX2_measure 64 = .ok (.lxor, 1) := by decide +kernel
theorem dX2_measure_65 : decode cX2_measure 65 = .ok (.land, 1) := by decide +kernel
theorem dX2_measure_66 : decode cX2_measure 66 = .ok (.putfield 27, 3) := by decide +kernel
theorem dX2_measure_69 : decode cX2_measure 69 = .ok (.aload_n 0, 1) := by decide +kernel
theorem dX2_measure_70 : decode cX2_measure 70 = .ok (.aload_n 0, 1) := by decide +kernel
theorem dX2_measure_71 : decode cX2_measure 71 = .ok (.getfield 21, 3) := by decide +kernel
theorem dX2_measure_74 : decode cX2_measure 74 = .ok (.lload_n 3, 1) := by decide +kernel
theorem dX2_measure_75 : decode cX2_measure 75 = .ok (.iload_n 1, 1) := by decide +kernel
theorem dX2_measure_76 : decode cX2_measure 76 = .ok (.iconst 1, 1) := by decide +kernel
theorem dX2_measure_77 : decode cX2_measure 77 = .ok (.isub, 1) := by decide +kernel
theorem dX2_measure_78 : decode cX2_measure 78 = .ok (.lshl, 1) := by decide +kernel
theorem dX2_measure_79 : decode cX2_measure 79 = .ok (.ldc2_w 25, 3) := by decide +kernel
theorem dX2_measure_82 : decode cX2_measure 82 = .ok (.lxor, 1) := by decide +kernel
theorem dX2_measure_83 : decode cX2_measure 83 = .ok (.land, 1) := by decide +kernel
theorem dX2_measure_84 : decode cX2_measure 84 = .ok (.putfield 30, 3) := by decide +kernel
theorem dX2_measure_87 : decode cX2_measure 87 = .ok (.return_, 1) := by decide +kernel
theorem dX2_has_0 : decode cX2_has 0 = .ok (.iload_n 1, 1) := by decide +kernel
theorem dX2_has_1 : decode cX2_has 1 = .ok (.ifCond .lt 15, 3) := by decide +kernel
theorem dX2_has_4 : decode cX2_has 4 = .ok (.iload_n 1, 1) := by decide +kernel
theorem dX2_has_5 : decode cX2_has 5 = .ok (.aload_n 0, 1) := by decide +kernel
theorem dX2_has_6 : decode cX2_has 6 = .ok (.getfield 18, 3) := by decide +kernel
theorem dX2_has_9 : decode cX2_has 9 = .ok (.if_icmp .ge 7, 3) := by decide +kernel
theorem dX2_has_12 : decode cX2_has 12 = .ok (.iconst 1, 1) := by decide +kernel
theorem dX2_has_13 : decode cX2_has 13 = .ok (.goto 4, 3) := by decide +kernel
theorem dX2_has_16 : decode cX2_has 16 = .ok (.iconst 0, 1) := by decide +kernel
theorem dX2_has_17 : decode cX2_has 17 = .ok (.ireturn, 1) := by decide +kernel
theorem dX2_holds_0 : decode cX2_holds 0 = .ok (.lload_n 0, 1) := by decide +kernel
theorem dX2_holds_1 : decode cX2_holds 1 = .ok (.iload_n 2, 1) := by decide +kernel
theorem dX2_holds_2 : decode cX2_holds 2 = .ok (.lushr, 1) := by decide +kernel
theorem dX2_holds_3 : decode cX2_holds 3 = .ok (.lconst 1, 1) := by decide +kernel
theorem dX2_holds_4 : decode cX2_holds 4 = .ok (.land, 1) := by decide +kernel
theorem dX2_holds_5 : decode cX2_holds 5 = .ok (.lconst 0, 1) := by decide +kernel
theorem dX2_holds_6 : decode cX2_holds 6 = .ok (.lcmp, 1) := by decide +kernel
theorem dX2_holds_7 : decode cX2_holds 7 = .ok (.ifCond .eq 7, 3) := by decide +kernel
theorem dX2_holds_10 : decode cX2_holds 10 = .ok (.iconst 1, 1) := by decide +kernel
theorem dX2_holds_11 : decode cX2_holds 11 = .ok (.goto 4, 3) := by decide +kernel
theorem dX2_holds_14 : decode cX2_holds 14 = .ok (.iconst 0, 1) := by decide +kernel
theorem dX2_holds_15 : decode cX2_holds 15 = .ok (.ireturn, 1) := by decide +kernel
theorem dX2_beside_0 : decode cX2_beside 0 = .ok (.lload_n 1, 1) := by decide +kernel
theorem dX2_beside_1 : decode cX2_beside 1 = .ok (.aload_n 0, 1) := by decide +kernel
theorem dX2_beside_2 : decode cX2_beside 2 = .ok (.getfield 30, 3) := by decide +kernel
theorem dX2_beside_5 : decode cX2_beside 5 = .ok (.land, 1) := by decide +kernel
theorem dX2_beside_6 : decode cX2_beside 6 = .ok (.iconst 1, 1) := by decide +kernel
theorem dX2_beside_7 : decode cX2_beside 7 = .ok (.lshl, 1) := by decide +kernel
theorem dX2_beside_8 : decode cX2_beside 8 = .ok (.lload_n 1, 1) := by decide +kernel
theorem dX2_beside_9 : decode cX2_beside 9 = .ok (.aload_n 0, 1) := by decide +kernel
theorem dX2_beside_10 : decode cX2_beside 10 = .ok (.getfield 27, 3) := by decide +kernel
theorem dX2_beside_13 : decode cX2_beside 13 = .ok (.land, 1) := by decide +kernel
theorem dX2_beside_14 : decode cX2_beside 14 = .ok (.iconst 1, 1) := by decide +kernel
theorem dX2_beside_15 : decode cX2_beside 15 = .ok (.lushr, 1) := by decide +kernel
theorem dX2_beside_16 : decode cX2_beside 16 = .ok (.lor, 1) := by decide +kernel
theorem dX2_beside_17 : decode cX2_beside 17 = .ok (.lstore_n 3, 1) := by decide +kernel
theorem dX2_beside_18 : decode cX2_beside 18 = .ok (.lload_n 3, 1) := by decide +kernel
theorem dX2_beside_19 : decode cX2_beside 19 = .ok (.lload_n 1, 1) := by decide +kernel
theorem dX2_beside_20 : decode cX2_beside 20 = .ok (.aload_n 0, 1) := by decide +kernel
theorem dX2_beside_21 : decode cX2_beside 21 = .ok (.getfield 9, 3) := by decide +kernel
theorem dX2_beside_24 : decode cX2_beside 24 = .ok (.lshl, 1) := by decide +kernel
theorem dX2_beside_25 : decode cX2_beside 25 = .ok (.lor, 1) := by decide +kernel
theorem dX2_beside_26 : decode cX2_beside 26 = .ok (.lload_n 1, 1) := by decide +kernel
theorem dX2_beside_27 : decode cX2_beside 27 = .ok (.aload_n 0, 1) := by decide +kernel
theorem dX2_beside_28 : decode cX2_beside 28 = .ok (.getfield 9, 3) := by decide +kernel
theorem dX2_beside_31 : decode cX2_beside 31 = .ok (.lushr, 1) := by decide +kernel
theorem dX2_beside_32 : decode cX2_beside 32 = .ok (.lor, 1) := by decide +kernel
theorem dX2_beside_33 : decode cX2_beside 33 = .ok (.aload_n 0, 1) := by decide +kernel
theorem dX2_beside_34 : decode cX2_beside 34 = .ok (.getfield 21, 3) := by decide +kernel
theorem dX2_beside_37 : decode cX2_beside 37 = .ok (.land, 1) := by decide +kernel
theorem dX2_beside_38 : decode cX2_beside 38 = .ok (.lreturn, 1) := by decide +kernel
set_option maxRecDepth 20000 in
theorem ggX2_spread_X2_beside : GoodIn wsX2_spread wsX2_beside := goodIn_r _ [5, 6, 7, 8, 9, 10, 11, 12, 13, 14, 15] (by decide +kernel) (by decide +kernel)
set_option maxRecDepth 20000 in
theorem gX2_spread_X2_beside : GoodIn wsX2_spread (wsV RX2 33 RX2 yX2_beside wsX2_beside) := goodIn_app (goodIn_of _ (by decide +kernel)) ggX2_spread_X2_beside
theorem dX2_spread_0 : decode cX2_spread 0 = .ok (.lload_n 1, 1) := by decide +kernel
theorem dX2_spread_1 : decode cX2_spread 1 = .ok (.lload_n 3, 1) := by decide +kernel
theorem dX2_spread_2 : decode cX2_spread 2 = .ok (.land, 1) := by decide +kernel
theorem dX2_spread_3 : decode cX2_spread 3 = .ok (.lstore 5, 2) := by decide +kernel
theorem dX2_spread_5 : decode cX2_spread 5 = .ok (.iconst 0, 1) := by decide +kernel
theorem dX2_spread_6 : decode cX2_spread 6 = .ok (.istore 7, 2) := by decide +kernel
theorem dX2_spread_8 : decode cX2_spread 8 = .ok (.iload 7, 2) := by decide +kernel
theorem dX2_spread_10 : decode cX2_spread 10 = .ok (.bipush 49, 2) := by decide +kernel
theorem dX2_spread_12 : decode cX2_spread 12 = .ok (.if_icmp .ge 37, 3) := by decide +kernel
theorem dX2_spread_15 : decode cX2_spread 15 = .ok (.lload 5, 2) := by decide +kernel
theorem dX2_spread_17 : decode cX2_spread 17 = .ok (.aload_n 0, 1) := by decide +kernel
theorem dX2_spread_18 : decode cX2_spread 18 = .ok (.lload 5, 2) := by decide +kernel
theorem dX2_spread_20 : decode cX2_spread 20 = .ok (.invokevirtual 33, 3) := by decide +kernel
theorem dX2_spread_23 : decode cX2_spread 23 = .ok (.lor, 1) := by decide +kernel
theorem dX2_spread_24 : decode cX2_spread 24 = .ok (.lload_n 3, 1) := by decide +kernel
theorem dX2_spread_25 : decode cX2_spread 25 = .ok (.land, 1) := by decide +kernel
theorem dX2_spread_26 : decode cX2_spread 26 = .ok (.lstore 8, 2) := by decide +kernel
theorem dX2_spread_28 : decode cX2_spread 28 = .ok (.lload 8, 2) := by decide +kernel
theorem dX2_spread_30 : decode cX2_spread 30 = .ok (.lload 5, 2) := by decide +kernel
theorem dX2_spread_32 : decode cX2_spread 32 = .ok (.lcmp, 1) := by decide +kernel
theorem dX2_spread_33 : decode cX2_spread 33 = .ok (.ifCond .ne 6, 3) := by decide +kernel
theorem dX2_spread_36 : decode cX2_spread 36 = .ok (.goto 13, 3) := by decide +kernel
theorem dX2_spread_39 : decode cX2_spread 39 = .ok (.lload 8, 2) := by decide +kernel
theorem dX2_spread_41 : decode cX2_spread 41 = .ok (.lstore 5, 2) := by decide +kernel
theorem dX2_spread_43 : decode cX2_spread 43 = .ok (.iinc 7 1, 3) := by decide +kernel
theorem dX2_spread_46 : decode cX2_spread 46 = .ok (.goto (-38), 3) := by decide +kernel
theorem dX2_spread_49 : decode cX2_spread 49 = .ok (.lload 5, 2) := by decide +kernel
theorem dX2_spread_51 : decode cX2_spread 51 = .ok (.lreturn, 1) := by decide +kernel
set_option maxRecDepth 20000 in
theorem ggX2_partFrom_X2_beside : GoodIn wsX2_partFrom wsX2_beside := goodIn_r _ [5, 6, 7, 8, 9, 14, 15, 16, 17, 18, 19] (by decide +kernel) (by decide +kernel)
set_option maxRecDepth 20000 in
theorem gX2_partFrom_X2_beside : GoodIn wsX2_partFrom (wsV RX2 33 RX2 yX2_beside wsX2_beside) := goodIn_app (goodIn_of _ (by decide +kernel)) ggX2_partFrom_X2_beside
set_option maxRecDepth 20000 in
theorem ggX2_partFrom_X2_spread : GoodIn wsX2_partFrom wsX2_spread := goodIn_r _ [13, 1, 2, 3, 4, 5, 6, 7, 8, 9, 14, 15, 16, 17, 18, 19] (by decide +kernel) (by decide +kernel)
set_option maxRecDepth 20000 in
theorem gX2_partFrom_X2_spread : GoodIn wsX2_partFrom (wsV RX2 37 RX2 yX2_spread wsX2_spread) := goodIn_app (goodIn_of _ (by decide +kernel)) ggX2_partFrom_X2_spread
theorem dX2_partFrom_0 : decode cX2_partFrom 0 = .ok (.lconst 1, 1) := by decide +kernel
theorem dX2_partFrom_1 : decode cX2_partFrom 1 = .ok (.iload_n 3, 1) := by decide +kernel
theorem dX2_partFrom_2 : decode cX2_partFrom 2 = .ok (.lshl, 1) := by decide +kernel
theorem dX2_partFrom_3 : decode cX2_partFrom 3 = .ok (.lload_n 1, 1) := by decide +kernel
theorem dX2_partFrom_4 : decode cX2_partFrom 4 = .ok (.land, 1) := by decide +kernel
theorem dX2_partFrom_5 : decode cX2_partFrom 5 = .ok (.lstore 4, 2) := by decide +kernel
theorem dX2_partFrom_7 : decode cX2_partFrom 7 = .ok (.lconst 1, 1) := by decide +kernel
theorem dX2_partFrom_8 : decode cX2_partFrom 8 = .ok (.iload_n 3, 1) := by decide +kernel
theorem dX2_partFrom_9 : decode cX2_partFrom 9 = .ok (.lshl, 1) := by decide +kernel
theorem dX2_partFrom_10 : decode cX2_partFrom 10 = .ok (.lconst 1, 1) := by decide +kernel
theorem dX2_partFrom_11 : decode cX2_partFrom 11 = .ok (.lsub, 1) := by decide +kernel
theorem dX2_partFrom_12 : decode cX2_partFrom 12 = .ok (.lstore 6, 2) := by decide +kernel
theorem dX2_partFrom_14 : decode cX2_partFrom 14 = .ok (.lload 4, 2) := by decide +kernel
theorem dX2_partFrom_16 : decode cX2_partFrom 16 = .ok (.lconst 0, 1) := by decide +kernel
theorem dX2_partFrom_17 : decode cX2_partFrom 17 = .ok (.lcmp, 1) := by decide +kernel
theorem dX2_partFrom_18 : decode cX2_partFrom 18 = .ok (.ifCond .eq 19, 3) := by decide +kernel
theorem dX2_partFrom_21 : decode cX2_partFrom 21 = .ok (.aload_n 0, 1) := by decide +kernel
theorem dX2_partFrom_22 : decode cX2_partFrom 22 = .ok (.lload 4, 2) := by decide +kernel
theorem dX2_partFrom_24 : decode cX2_partFrom 24 = .ok (.invokevirtual 33, 3) := by decide +kernel
theorem dX2_partFrom_27 : decode cX2_partFrom 27 = .ok (.lload_n 1, 1) := by decide +kernel
theorem dX2_partFrom_28 : decode cX2_partFrom 28 = .ok (.land, 1) := by decide +kernel
theorem dX2_partFrom_29 : decode cX2_partFrom 29 = .ok (.lload 6, 2) := by decide +kernel
theorem dX2_partFrom_31 : decode cX2_partFrom 31 = .ok (.land, 1) := by decide +kernel
theorem dX2_partFrom_32 : decode cX2_partFrom 32 = .ok (.lconst 0, 1) := by decide +kernel
theorem dX2_partFrom_33 : decode cX2_partFrom 33 = .ok (.lcmp, 1) := by decide +kernel
theorem dX2_partFrom_34 : decode cX2_partFrom 34 = .ok (.ifCond .eq 5, 3) := by decide +kernel
theorem dX2_partFrom_37 : decode cX2_partFrom 37 = .ok (.lconst 0, 1) := by decide +kernel
theorem dX2_partFrom_38 : decode cX2_partFrom 38 = .ok (.lreturn, 1) := by decide +kernel
theorem dX2_partFrom_39 : decode cX2_partFrom 39 = .ok (.aload_n 0, 1) := by decide +kernel
theorem dX2_partFrom_40 : decode cX2_partFrom 40 = .ok (.lload 4, 2) := by decide +kernel
theorem dX2_partFrom_42 : decode cX2_partFrom 42 = .ok (.lload_n 1, 1) := by decide +kernel
theorem dX2_partFrom_43 : decode cX2_partFrom 43 = .ok (.invokevirtual 37, 3) := by decide +kernel
theorem dX2_partFrom_46 : decode cX2_partFrom 46 = .ok (.lstore 8, 2) := by decide +kernel
theorem dX2_partFrom_48 : decode cX2_partFrom 48 = .ok (.lload 8, 2) := by decide +kernel
theorem dX2_partFrom_50 : decode cX2_partFrom 50 = .ok (.lload 6, 2) := by decide +kernel
theorem dX2_partFrom_52 : decode cX2_partFrom 52 = .ok (.land, 1) := by decide +kernel
theorem dX2_partFrom_53 : decode cX2_partFrom 53 = .ok (.lconst 0, 1) := by decide +kernel
theorem dX2_partFrom_54 : decode cX2_partFrom 54 = .ok (.lcmp, 1) := by decide +kernel
theorem dX2_partFrom_55 : decode cX2_partFrom 55 = .ok (.ifCond .ne 8, 3) := by decide +kernel
theorem dX2_partFrom_58 : decode cX2_partFrom 58 = .ok (.lload 8, 2) := by decide +kernel
theorem dX2_partFrom_60 : decode cX2_partFrom 60 = .ok (.goto 4, 3) := by decide +kernel
theorem dX2_partFrom_63 : decode cX2_partFrom 63 = .ok (.lconst 0, 1) := by decide +kernel
theorem dX2_partFrom_64 : decode cX2_partFrom 64 = .ok (.lreturn, 1) := by decide +kernel
set_option maxRecDepth 20000 in
theorem ggX2_allBreathe_X2_beside : GoodIn wsX2_allBreathe wsX2_beside := goodIn_r _ [5, 6, 7, 8, 9, 14, 15, 16, 17, 18, 19] (by decide +kernel) (by decide +kernel)
set_option maxRecDepth 20000 in
theorem gX2_allBreathe_X2_beside : GoodIn wsX2_allBreathe (wsV RX2 33 RX2 yX2_beside wsX2_beside) := goodIn_app (goodIn_of _ (by decide +kernel)) ggX2_allBreathe_X2_beside
set_option maxRecDepth 20000 in
theorem ggX2_allBreathe_X2_spread : GoodIn wsX2_allBreathe wsX2_spread := goodIn_r _ [13, 1, 2, 3, 4, 5, 6, 7, 8, 9, 14, 15, 16, 17, 18, 19] (by decide +kernel) (by decide +kernel)
set_option maxRecDepth 20000 in
theorem gX2_allBreathe_X2_spread : GoodIn wsX2_allBreathe (wsV RX2 37 RX2 yX2_spread wsX2_spread) := goodIn_app (goodIn_of _ (by decide +kernel)) ggX2_allBreathe_X2_spread
theorem dX2_allBreathe_0 : decode cX2_allBreathe 0 = .ok (.aload_n 0, 1) := by decide +kernel
theorem dX2_allBreathe_1 : decode cX2_allBreathe 1 = .ok (.aload_n 0, 1) := by decide +kernel
theorem dX2_allBreathe_2 : decode cX2_allBreathe 2 = .ok (.lload_n 3, 1) := by decide +kernel
theorem dX2_allBreathe_3 : decode cX2_allBreathe 3 = .ok (.invokevirtual 33, 3) := by decide +kernel
theorem dX2_allBreathe_6 : decode cX2_allBreathe 6 = .ok (.lload_n 1, 1) := by decide +kernel
theorem dX2_allBreathe_7 : decode cX2_allBreathe 7 = .ok (.invokevirtual 37, 3) := by decide +kernel
theorem dX2_allBreathe_10 : decode cX2_allBreathe 10 = .ok (.lload_n 1, 1) := by decide +kernel
theorem dX2_allBreathe_11 : decode cX2_allBreathe 11 = .ok (.lcmp, 1) := by decide +kernel
theorem dX2_allBreathe_12 : decode cX2_allBreathe 12 = .ok (.ifCond .ne 7, 3) := by decide +kernel
theorem dX2_allBreathe_15 : decode cX2_allBreathe 15 = .ok (.iconst 1, 1) := by decide +kernel
theorem dX2_allBreathe_16 : decode cX2_allBreathe 16 = .ok (.goto 4, 3) := by decide +kernel
theorem dX2_allBreathe_19 : decode cX2_allBreathe 19 = .ok (.iconst 0, 1) := by decide +kernel
theorem dX2_allBreathe_20 : decode cX2_allBreathe 20 = .ok (.ireturn, 1) := by decide +kernel
set_option maxRecDepth 20000 in
theorem ggX2_nth_X2_holds : GoodIn wsX2_nth wsX2_holds := goodIn_r _ [5] (by decide +kernel) (by decide +kernel)
set_option maxRecDepth 20000 in
theorem gX2_nth_X2_holds : GoodIn wsX2_nth (va_wsS RX2 41 yX2_holds wsX2_holds) := goodIn_app (goodIn_of _ (by decide +kernel)) ggX2_nth_X2_holds
theorem dX2_nth_0 : decode cX2_nth 0 = .ok (.iconst 0, 1) := by decide +kernel
theorem dX2_nth_1 : decode cX2_nth 1 = .ok (.istore 4, 2) := by decide +kernel
theorem dX2_nth_3 : decode cX2_nth 3 = .ok (.iconst 0, 1) := by decide +kernel
theorem dX2_nth_4 : decode cX2_nth 4 = .ok (.istore 5, 2) := by decide +kernel
theorem dX2_nth_6 : decode cX2_nth 6 = .ok (.iload 5, 2) := by decide +kernel
theorem dX2_nth_8 : decode cX2_nth 8 = .ok (.aload_n 0, 1) := by decide +kernel
theorem dX2_nth_9 : decode cX2_nth 9 = .ok (.getfield 18, 3) := by decide +kernel
theorem dX2_nth_12 : decode cX2_nth 12 = .ok (.if_icmp .ge 30, 3) := by decide +kernel
theorem dX2_nth_15 : decode cX2_nth 15 = .ok (.lload_n 1, 1) := by decide +kernel
theorem dX2_nth_16 : decode cX2_nth 16 = .ok (.iload 5, 2) := by decide +kernel
theorem dX2_nth_18 : decode cX2_nth 18 = .ok (.invokestatic 41, 3) := by decide +kernel
theorem dX2_nth_21 : decode cX2_nth 21 = .ok (.ifCond .eq 15, 3) := by decide +kernel
theorem dX2_nth_24 : decode cX2_nth 24 = .ok (.iload 4, 2) := by decide +kernel
theorem dX2_nth_26 : decode cX2_nth 26 = .ok (.iload_n 3, 1) := by decide +kernel
theorem dX2_nth_27 : decode cX2_nth 27 = .ok (.if_icmp .ne 6, 3) := by decide +kernel
theorem dX2_nth_30 : decode cX2_nth 30 = .ok (.iload 5, 2) := by decide +kernel
theorem dX2_nth_32 : decode cX2_nth 32 = .ok (.ireturn, 1) := by decide +kernel
theorem dX2_nth_33 : decode cX2_nth 33 = .ok (.iinc 4 1, 3) := by decide +kernel
theorem dX2_nth_36 : decode cX2_nth 36 = .ok (.iinc 5 1, 3) := by decide +kernel
theorem dX2_nth_39 : decode cX2_nth 39 = .ok (.goto (-33), 3) := by decide +kernel
theorem dX2_nth_42 : decode cX2_nth 42 = .ok (.iconst (-1), 1) := by decide +kernel
theorem dX2_nth_43 : decode cX2_nth 43 = .ok (.ireturn, 1) := by decide +kernel
set_option maxRecDepth 20000 in
theorem ggX2_freeOf_X2_partFrom : GoodIn wsX2_freeOf wsX2_partFrom := goodIn_r _ [8, 9, 10, 11, 7, 12, 13, 14, 15, 1, 16, 17, 18, 19, 20, 21, 22, 23, 24, 25] (by decide +kernel) (by decide +kernel)
set_option maxRecDepth 20000 in
theorem gX2_freeOf_X2_partFrom : GoodIn wsX2_freeOf (wsV RX2 45 RX2 yX2_partFrom wsX2_partFrom) := goodIn_app (goodIn_of _ (by decide +kernel)) ggX2_freeOf_X2_partFrom
set_option maxRecDepth 20000 in
theorem ggX2_freeOf_X2_beside : GoodIn wsX2_freeOf wsX2_beside := goodIn_r _ [12, 13, 14, 15, 1, 20, 21, 22, 23, 24, 25] (by decide +kernel) (by decide +kernel)
set_option maxRecDepth 20000 in
theorem gX2_freeOf_X2_beside : GoodIn wsX2_freeOf (wsV RX2 33 RX2 yX2_beside wsX2_beside) := goodIn_app (goodIn_of _ (by decide +kernel)) ggX2_freeOf_X2_beside
theorem dX2_freeOf_0 : decode cX2_freeOf 0 = .ok (.aload_n 0, 1) := by decide +kernel
theorem dX2_freeOf_1 : decode cX2_freeOf 1 = .ok (.getfield 21, 3) := by decide +kernel
theorem dX2_freeOf_4 : decode cX2_freeOf 4 = .ok (.lload_n 1, 1) := by decide +kernel
theorem dX2_freeOf_5 : decode cX2_freeOf 5 = .ok (.lload_n 3, 1) := by decide +kernel
theorem dX2_freeOf_6 : decode cX2_freeOf 6 = .ok (.lor, 1) := by decide +kernel
theorem dX2_freeOf_7 : decode cX2_freeOf 7 = .ok (.ldc2_w 25, 3) := by decide +kernel
theorem dX2_freeOf_10 : decode cX2_freeOf 10 = .ok (.lxor, 1) := by decide +kernel
theorem dX2_freeOf_11 : decode cX2_freeOf 11 = .ok (.land, 1) := by decide +kernel
theorem dX2_freeOf_12 : decode cX2_freeOf 12 = .ok (.lstore 5, 2) := by decide +kernel
theorem dX2_freeOf_14 : decode cX2_freeOf 14 = .ok (.lconst 0, 1) := by decide +kernel
theorem dX2_freeOf_15 : decode cX2_freeOf 15 = .ok (.lstore 7, 2) := by decide +kernel
theorem dX2_freeOf_17 : decode cX2_freeOf 17 = .ok (.iconst 0, 1) := by decide +kernel
theorem dX2_freeOf_18 : decode cX2_freeOf 18 = .ok (.istore 9, 2) := by decide +kernel
theorem dX2_freeOf_20 : decode cX2_freeOf 20 = .ok (.iload 9, 2) := by decide +kernel
theorem dX2_freeOf_22 : decode cX2_freeOf 22 = .ok (.aload_n 0, 1) := by decide +kernel
theorem dX2_freeOf_23 : decode cX2_freeOf 23 = .ok (.getfield 18, 3) := by decide +kernel
theorem dX2_freeOf_26 : decode cX2_freeOf 26 = .ok (.if_icmp .ge 52, 3) := by decide +kernel
theorem dX2_freeOf_29 : decode cX2_freeOf 29 = .ok (.aload_n 0, 1) := by decide +kernel
theorem dX2_freeOf_30 : decode cX2_freeOf 30 = .ok (.lload 5, 2) := by decide +kernel
theorem dX2_freeOf_32 : decode cX2_freeOf 32 = .ok (.iload 9, 2) := by decide +kernel
theorem dX2_freeOf_34 : decode cX2_freeOf 34 = .ok (.invokevirtual 45, 3) := by decide +kernel
theorem dX2_freeOf_37 : decode cX2_freeOf 37 = .ok (.lstore 10, 2) := by decide +kernel
theorem dX2_freeOf_39 : decode cX2_freeOf 39 = .ok (.aload_n 0, 1) := by decide +kernel
theorem dX2_freeOf_40 : decode cX2_freeOf 40 = .ok (.lload 10, 2) := by decide +kernel
theorem dX2_freeOf_42 : decode cX2_freeOf 42 = .ok (.invokevirtual 33, 3) := by decide +kernel
theorem dX2_freeOf_45 : decode cX2_freeOf 45 = .ok (.lstore 12, 2) := by decide +kernel
theorem dX2_freeOf_47 : decode cX2_freeOf 47 = .ok (.lload 12, 2) := by decide +kernel
theorem dX2_freeOf_49 : decode cX2_freeOf 49 = .ok (.lload_n 1, 1) := by decide +kernel
theorem dX2_freeOf_50 : decode cX2_freeOf 50 = .ok (.land, 1) := by decide +kernel
theorem dX2_freeOf_51 : decode cX2_freeOf 51 = .ok (.lconst 0, 1) := by decide +kernel
theorem dX2_freeOf_52 : decode cX2_freeOf 52 = .ok (.lcmp, 1) := by decide +kernel
theorem dX2_freeOf_53 : decode cX2_freeOf 53 = .ok (.ifCond .eq 19, 3) := by decide +kernel
theorem dX2_freeOf_56 : decode cX2_freeOf 56 = .ok (.lload 12, 2) := by decide +kernel
theorem dX2_freeOf_58 : decode cX2_freeOf 58 = .ok (.lload_n 3, 1) := by decide +kernel
theorem dX2_freeOf_59 : decode cX2_freeOf 59 = .ok (.land, 1) := by decide +kernel
theorem dX2_freeOf_60 : decode cX2_freeOf 60 = .ok (.lconst 0, 1) := by decide +kernel
theorem dX2_freeOf_61 : decode cX2_freeOf 61 = .ok (.lcmp, 1) := by decide +kernel
theorem dX2_freeOf_62 : decode cX2_freeOf 62 = .ok (.ifCond .ne 10, 3) := by decide +kernel
theorem dX2_freeOf_65 : decode cX2_freeOf 65 = .ok (.lload 7, 2) := by decide +kernel
theorem dX2_freeOf_67 : decode cX2_freeOf 67 = .ok (.lload 10, 2) := by decide +kernel
theorem dX2_freeOf_69 : decode cX2_freeOf 69 = .ok (.lor, 1) := by decide +kernel
theorem dX2_freeOf_70 : decode cX2_freeOf 70 = .ok (.lstore 7, 2) := by decide +kernel
theorem dX2_freeOf_72 : decode cX2_freeOf 72 = .ok (.iinc 9 1, 3) := by decide +kernel
theorem dX2_freeOf_75 : decode cX2_freeOf 75 = .ok (.goto (-55), 3) := by decide +kernel
theorem dX2_freeOf_78 : decode cX2_freeOf 78 = .ok (.lload 7, 2) := by decide +kernel
theorem dX2_freeOf_80 : decode cX2_freeOf 80 = .ok (.lreturn, 1) := by decide +kernel
theorem dX3_init_0 : decode cX3_init 0 = .ok (.aload_n 0, 1) := by decide +kernel
theorem dX3_init_1 : decode cX3_init 1 = .ok (.invokespecial 3, 3) := by decide +kernel
theorem dX3_init_4 : decode cX3_init 4 = .ok (.aload_n 0, 1) := by decide +kernel
theorem dX3_init_5 : decode cX3_init 5 = .ok (.aload_n 1, 1) := by decide +kernel
theorem dX3_init_6 : decode cX3_init 6 = .ok (.putfield 9, 3) := by decide +kernel
theorem dX3_init_9 : decode cX3_init 9 = .ok (.return_, 1) := by decide +kernel
set_option maxRecDepth 20000 in
theorem ggX3_isVital_X2_beside : GoodIn wsX3_isVital wsX2_beside := goodIn_r _ [7, 8, 9, 10, 11, 13, 14, 15, 16, 17, 18] (by decide +kernel) (by decide +kernel)
set_option maxRecDepth 20000 in
theorem gX3_isVital_X2_beside : GoodIn wsX3_isVital (wsV RX3 15 RX2 yX2_beside wsX2_beside) := goodIn_app (goodIn_of _ (by decide +kernel)) ggX3_isVital_X2_beside
theorem dX3_isVital_0 : decode cX3_isVital 0 = .ok (.aload_n 0, 1) := by decide +kernel
theorem dX3_isVital_1 : decode cX3_isVital 1 = .ok (.getfield 9, 3) := by decide +kernel
theorem dX3_isVital_4 : decode cX3_isVital 4 = .ok (.lload_n 3, 1) := by decide +kernel
theorem dX3_isVital_5 : decode cX3_isVital 5 = .ok (.invokevirtual 15, 3) := by decide +kernel
theorem dX3_isVital_8 : decode cX3_isVital 8 = .ok (.lstore 7, 2) := by decide +kernel
theorem dX3_isVital_10 : decode cX3_isVital 10 = .ok (.lload_n 1, 1) := by decide +kernel
theorem dX3_isVital_11 : decode cX3_isVital 11 = .ok (.lload 7, 2) := by decide +kernel
theorem dX3_isVital_13 : decode cX3_isVital 13 = .ok (.land, 1) := by decide +kernel
theorem dX3_isVital_14 : decode cX3_isVital 14 = .ok (.lconst 0, 1) := by decide +kernel
theorem dX3_isVital_15 : decode cX3_isVital 15 = .ok (.lcmp, 1) := by decide +kernel
theorem dX3_isVital_16 : decode cX3_isVital 16 = .ok (.ifCond .eq 23, 3) := by decide +kernel
theorem dX3_isVital_19 : decode cX3_isVital 19 = .ok (.lload_n 1, 1) := by decide +kernel
theorem dX3_isVital_20 : decode cX3_isVital 20 = .ok (.lload 5, 2) := by decide +kernel
theorem dX3_isVital_22 : decode cX3_isVital 22 = .ok (.land, 1) := by decide +kernel
theorem dX3_isVital_23 : decode cX3_isVital 23 = .ok (.lload 7, 2) := by decide +kernel
theorem dX3_isVital_25 : decode cX3_isVital 25 = .ok (.ldc2_w 21, 3) := by decide +kernel
theorem dX3_isVital_28 : decode cX3_isVital 28 = .ok (.lxor, 1) := by decide +kernel
theorem dX3_isVital_29 : decode cX3_isVital 29 = .ok (.land, 1) := by decide +kernel
theorem dX3_isVital_30 : decode cX3_isVital 30 = .ok (.lconst 0, 1) := by decide +kernel
theorem dX3_isVital_31 : decode cX3_isVital 31 = .ok (.lcmp, 1) := by decide +kernel
theorem dX3_isVital_32 : decode cX3_isVital 32 = .ok (.ifCond .ne 7, 3) := by decide +kernel
theorem dX3_isVital_35 : decode cX3_isVital 35 = .ok (.iconst 1, 1) := by decide +kernel
theorem dX3_isVital_36 : decode cX3_isVital 36 = .ok (.goto 4, 3) := by decide +kernel
theorem dX3_isVital_39 : decode cX3_isVital 39 = .ok (.iconst 0, 1) := by decide +kernel
theorem dX3_isVital_40 : decode cX3_isVital 40 = .ok (.ireturn, 1) := by decide +kernel
set_option maxRecDepth 20000 in
theorem ggX3_vitalRegions_X2_partFrom : GoodIn wsX3_vitalRegions wsX2_partFrom := goodIn_r _ [7, 8, 9, 10, 6, 11, 12, 13, 14, 15, 16, 17, 18, 19, 28, 29, 30, 31, 32, 33] (by decide +kernel) (by decide +kernel)
set_option maxRecDepth 20000 in
theorem gX3_vitalRegions_X2_partFrom : GoodIn wsX3_vitalRegions (wsV RX3 27 RX2 yX2_partFrom wsX2_partFrom) := goodIn_app (goodIn_of _ (by decide +kernel)) ggX3_vitalRegions_X2_partFrom
set_option maxRecDepth 20000 in
theorem ggX3_vitalRegions_X3_isVital : GoodIn wsX3_vitalRegions wsX3_isVital := goodIn_r _ [24, 1, 25, 26, 9, 10, 6, 11, 12, 13, 14, 15, 27, 28, 29, 30, 31, 32, 33] (by decide +kernel) (by decide +kernel)
set_option maxRecDepth 20000 in
theorem gX3_vitalRegions_X3_isVital : GoodIn wsX3_vitalRegions (wsV RX3 31 RX3 yX3_isVital wsX3_isVital) := goodIn_app (goodIn_of _ (by decide +kernel)) ggX3_vitalRegions_X3_isVital
theorem dX3_vitalRegions_0 : decode cX3_vitalRegions 0 = .ok (.iconst 0, 1) := by decide +kernel
theorem dX3_vitalRegions_1 : decode cX3_vitalRegions 1 = .ok (.istore 7, 2) := by decide +kernel
theorem dX3_vitalRegions_3 : decode cX3_vitalRegions 3 = .ok (.iconst 0, 1) := by decide +kernel
theorem dX3_vitalRegions_4 : decode cX3_vitalRegions 4 = .ok (.istore 8, 2) := by decide +kernel
theorem dX3_vitalRegions_6 : decode cX3_vitalRegions 6 = .ok (.iload 8, 2) := by decide +kernel
theorem dX3_vitalRegions_8 : decode cX3_vitalRegions 8 = .ok (.aload_n 0, 1) := by decide +kernel
theorem dX3_vitalRegions_9 : decode cX3_vitalRegions 9 = .ok (.getfield 9, 3) := by decide +kernel
theorem dX3_vitalRegions_12 : decode cX3_vitalRegions 12 = .ok (.getfield 23, 3) := by decide +kernel
theorem dX3_vitalRegions_15 : decode cX3_vitalRegions 15 = .ok (.if_icmp .ge 39, 3) := by decide +kernel
theorem dX3_vitalRegions_18 : decode cX3_vitalRegions 18 = .ok (.iload 7, 2) := by decide +kernel
theorem dX3_vitalRegions_20 : decode cX3_vitalRegions 20 = .ok (.aload_n 0, 1) := by decide +kernel
theorem dX3_vitalRegions_21 : decode cX3_vitalRegions 21 = .ok (.aload_n 0, 1) := by decide +kernel
theorem dX3_vitalRegions_22 : decode cX3_vitalRegions 22 = .ok (.getfield 9, 3) := by decide +kernel
theorem dX3_vitalRegions_25 : decode cX3_vitalRegions 25 = .ok (.lload_n 3, 1) := by decide +kernel
theorem dX3_vitalRegions_26 : decode cX3_vitalRegions 26 = .ok (.iload 8, 2) := by decide +kernel
theorem dX3_vitalRegions_28 : decode cX3_vitalRegions 28 = .ok (.invokevirtual 27, 3) := by decide +kernel
theorem dX3_vitalRegions_31 : decode cX3_vitalRegions 31 = .ok (.lload_n 1, 1) := by decide +kernel
theorem dX3_vitalRegions_32 : decode cX3_vitalRegions 32 = .ok (.lload 5, 2) := by decide +kernel
theorem dX3_vitalRegions_34 : decode cX3_vitalRegions 34 = .ok (.invokevirtual 31, 3) := by decide +kernel
theorem dX3_vitalRegions_37 : decode cX3_vitalRegions 37 = .ok (.ifCond .eq 7, 3) := by decide +kernel
theorem dX3_vitalRegions_40 : decode cX3_vitalRegions 40 = .ok (.iconst 1, 1) := by decide +kernel
theorem dX3_vitalRegions_41 : decode cX3_vitalRegions 41 = .ok (.goto 4, 3) := by decide +kernel
theorem dX3_vitalRegions_44 : decode cX3_vitalRegions 44 = .ok (.iconst 0, 1) := by decide +kernel
theorem dX3_vitalRegions_45 : decode cX3_vitalRegions 45 = .ok (.iadd, 1) := by decide +kernel
theorem dX3_vitalRegions_46 : decode cX3_vitalRegions 46 = .ok (.istore 7, 2) := by decide +kernel
theorem dX3_vitalRegions_48 : decode cX3_vitalRegions 48 = .ok (.iinc 8 1, 3) := by decide +kernel
theorem dX3_vitalRegions_51 : decode cX3_vitalRegions 51 = .ok (.goto (-45), 3) := by decide +kernel
theorem dX3_vitalRegions_54 : decode cX3_vitalRegions 54 = .ok (.iload 7, 2) := by decide +kernel
theorem dX3_vitalRegions_56 : decode cX3_vitalRegions 56 = .ok (.ireturn, 1) := by decide +kernel
set_option maxRecDepth 20000 in
theorem ggX3_groupsTouched_X2_beside : GoodIn wsX3_groupsTouched wsX2_beside := goodIn_r _ [7, 8, 9, 10, 11, 22, 23, 24, 25, 26, 27] (by decide +kernel) (by decide +kernel)
set_option maxRecDepth 20000 in
theorem gX3_groupsTouched_X2_beside : GoodIn wsX3_groupsTouched (wsV RX3 15 RX2 yX2_beside wsX2_beside) := goodIn_app (goodIn_of _ (by decide +kernel)) ggX3_groupsTouched_X2_beside
set_option maxRecDepth 20000 in
theorem ggX3_groupsTouched_X2_partFrom : GoodIn wsX3_groupsTouched wsX2_partFrom := goodIn_r _ [15, 16, 4, 5, 6, 7, 8, 9, 10, 11, 17, 18, 19, 20, 22, 23, 24, 25, 26, 27] (by decide +kernel) (by decide +kernel)
set_option maxRecDepth 20000 in
theorem gX3_groupsTouched_X2_partFrom : GoodIn wsX3_groupsTouched (wsV RX3 27 RX2 yX2_partFrom wsX2_partFrom) := goodIn_app (goodIn_of _ (by decide +kernel)) ggX3_groupsTouched_X2_partFrom
theorem dX3_groupsTouched_0 : decode cX3_groupsTouched 0 = .ok (.aload_n 0, 1) := by decide +kernel
theorem dX3_groupsTouched_1 : decode cX3_groupsTouched 1 = .ok (.getfield 9, 3) := by decide +kernel
theorem dX3_groupsTouched_4 : decode cX3_groupsTouched 4 = .ok (.lload_n 1, 1) := by decide +kernel
theorem dX3_groupsTouched_5 : decode cX3_groupsTouched 5 = .ok (.invokevirtual 15, 3) := by decide +kernel
theorem dX3_groupsTouched_8 : decode cX3_groupsTouched 8 = .ok (.lstore 5, 2) := by decide +kernel
theorem dX3_groupsTouched_10 : decode cX3_groupsTouched 10 = .ok (.iconst 0, 1) := by decide +kernel
theorem dX3_groupsTouched_11 : decode cX3_groupsTouched 11 = .ok (.istore 7, 2) := by decide +kernel
theorem dX3_groupsTouched_13 : decode cX3_groupsTouched 13 = .ok (.iconst 0, 1) := by decide +kernel
theorem dX3_groupsTouched_14 : decode cX3_groupsTouched 14 = .ok (.istore 8, 2) := by decide +kernel
theorem dX3_groupsTouched_16 : decode cX3_groupsTouched 16 = .ok (.iload 8, 2) := by decide +kernel
theorem dX3_groupsTouched_18 : decode cX3_groupsTouched 18 = .ok (.aload_n 0, 1) := by decide +kernel
theorem dX3_groupsTouched_19 : decode cX3_groupsTouched 19 = .ok (.getfield 9, 3) := by decide +kernel
theorem dX3_groupsTouched_22 : decode cX3_groupsTouched 22 = .ok (.getfield 23, 3) := by decide +kernel
theorem dX3_groupsTouched_25 : decode cX3_groupsTouched 25 = .ok (.if_icmp .ge 37, 3) := by decide +kernel
theorem dX3_groupsTouched_28 : decode cX3_groupsTouched 28 = .ok (.iload 7, 2) := by decide +kernel
theorem dX3_groupsTouched_30 : decode cX3_groupsTouched 30 = .ok (.aload_n 0, 1) := by decide +kernel
theorem dX3_groupsTouched_31 : decode cX3_groupsTouched 31 = .ok (.getfield 9, 3) := by decide +kernel
theorem dX3_groupsTouched_34 : decode cX3_groupsTouched 34 = .ok (.lload_n 3, 1) := by decide +kernel
theorem dX3_groupsTouched_35 : decode cX3_groupsTouched 35 = .ok (.iload 8, 2) := by decide +kernel
theorem dX3_groupsTouched_37 : decode cX3_groupsTouched 37 = .ok (.invokevirtual 27, 3) := by decide +kernel
theorem dX3_groupsTouched_40 : decode cX3_groupsTouched 40 = .ok (.lload 5, 2) := by decide +kernel
theorem dX3_groupsTouched_42 : decode cX3_groupsTouched 42 = .ok (.land, 1) := by decide +kernel
theorem dX3_groupsTouched_43 : decode cX3_groupsTouched 43 = .ok (.lconst 0, 1) := by decide +kernel
theorem dX3_groupsTouched_44 : decode cX3_groupsTouched 44 = .ok (.lcmp, 1) := by decide +kernel
theorem dX3_groupsTouched_45 : decode cX3_groupsTouched 45 = .ok (.ifCond .eq 7, 3) := by decide +kernel
theorem dX3_groupsTouched_48 : decode cX3_groupsTouched 48 = .ok (.iconst 1, 1) := by decide +kernel
theorem dX3_groupsTouched_49 : decode cX3_groupsTouched 49 = .ok (.goto 4, 3) := by decide +kernel
theorem dX3_groupsTouched_52 : decode cX3_groupsTouched 52 = .ok (.iconst 0, 1) := by decide +kernel
theorem dX3_groupsTouched_53 : decode cX3_groupsTouched 53 = .ok (.iadd, 1) := by decide +kernel
theorem dX3_groupsTouched_54 : decode cX3_groupsTouched 54 = .ok (.istore 7, 2) := by decide +kernel
theorem dX3_groupsTouched_56 : decode cX3_groupsTouched 56 = .ok (.iinc 8 1, 3) := by decide +kernel
theorem dX3_groupsTouched_59 : decode cX3_groupsTouched 59 = .ok (.goto (-43), 3) := by decide +kernel
theorem dX3_groupsTouched_62 : decode cX3_groupsTouched 62 = .ok (.iload 7, 2) := by decide +kernel
theorem dX3_groupsTouched_64 : decode cX3_groupsTouched 64 = .ok (.ireturn, 1) := by decide +kernel
set_option maxRecDepth 20000 in
theorem ggX3_groupsItIsVitalTo_X2_partFrom : GoodIn wsX3_groupsItIsVitalTo wsX2_partFrom := goodIn_r _ [7, 8, 9, 10, 6, 11, 12, 13, 14, 15, 16, 17, 18, 19, 28, 29, 30, 31, 32, 33] (by decide +kernel) (by decide +kernel)
set_option maxRecDepth 20000 in
theorem gX3_groupsItIsVitalTo_X2_partFrom : GoodIn wsX3_groupsItIsVitalTo (wsV RX3 27 RX2 yX2_partFrom wsX2_partFrom) := goodIn_app (goodIn_of _ (by decide +kernel)) ggX3_groupsItIsVitalTo_X2_partFrom
set_option maxRecDepth 20000 in
theorem ggX3_groupsItIsVitalTo_X3_isVital : GoodIn wsX3_groupsItIsVitalTo wsX3_isVital := goodIn_r _ [24, 1, 25, 26, 9, 10, 6, 11, 12, 13, 14, 15, 27, 28, 29, 30, 31, 32, 33] (by decide +kernel) (by decide +kernel)
set_option maxRecDepth 20000 in
theorem gX3_groupsItIsVitalTo_X3_isVital : GoodIn wsX3_groupsItIsVitalTo (wsV RX3 31 RX3 yX3_isVital wsX3_isVital) := goodIn_app (goodIn_of _ (by decide +kernel)) ggX3_groupsItIsVitalTo_X3_isVital
theorem dX3_groupsItIsVitalTo_0 : decode cX3_groupsItIsVitalTo 0 = .ok (.iconst 0, 1) := by decide +kernel
theorem dX3_groupsItIsVitalTo_1 : decode cX3_groupsItIsVitalTo 1 = .ok (.istore 7, 2) := by decide +kernel
theorem dX3_groupsItIsVitalTo_3 : decode cX3_groupsItIsVitalTo 3 = .ok (.iconst 0, 1) := by decide +kernel
theorem dX3_groupsItIsVitalTo_4 : decode cX3_groupsItIsVitalTo 4 = .ok (.istore 8, 2) := by decide +kernel
theorem dX3_groupsItIsVitalTo_6 : decode cX3_groupsItIsVitalTo 6 = .ok (.iload 8, 2) := by decide +kernel
theorem dX3_groupsItIsVitalTo_8 : decode cX3_groupsItIsVitalTo 8 = .ok (.aload_n 0, 1) := by decide +kernel
theorem dX3_groupsItIsVitalTo_9 : decode cX3_groupsItIsVitalTo 9 = .ok (.getfield 9, 3) := by decide +kernel
theorem dX3_groupsItIsVitalTo_12 : decode cX3_groupsItIsVitalTo 12 = .ok (.getfield 23, 3) := by decide +kernel
theorem dX3_groupsItIsVitalTo_15 : decode cX3_groupsItIsVitalTo 15 = .ok (.if_icmp .ge 39, 3) := by decide +kernel
theorem dX3_groupsItIsVitalTo_18 : decode cX3_groupsItIsVitalTo 18 = .ok (.iload 7, 2) := by decide +kernel
theorem dX3_groupsItIsVitalTo_20 : decode cX3_groupsItIsVitalTo 20 = .ok (.aload_n 0, 1) := by decide +kernel
theorem dX3_groupsItIsVitalTo_21 : decode cX3_groupsItIsVitalTo 21 = .ok (.lload_n 1, 1) := by decide +kernel
theorem dX3_groupsItIsVitalTo_22 : decode cX3_groupsItIsVitalTo 22 = .ok (.aload_n 0, 1) := by decide +kernel
theorem dX3_groupsItIsVitalTo_23 : decode cX3_groupsItIsVitalTo 23 = .ok (.getfield 9, 3) := by decide +kernel
theorem dX3_groupsItIsVitalTo_26 : decode cX3_groupsItIsVitalTo 26 = .ok (.lload_n 3, 1) := by decide +kernel
theorem dX3_groupsItIsVitalTo_27 : decode cX3_groupsItIsVitalTo 27 = .ok (.iload 8, 2) := by decide +kernel
theorem dX3_groupsItIsVitalTo_29 : decode cX3_groupsItIsVitalTo 29 = .ok (.invokevirtual 27, 3) := by decide +kernel
theorem dX3_groupsItIsVitalTo_32 : decode cX3_groupsItIsVitalTo 32 = .ok (.lload 5, 2) := by decide +kernel
theorem dX3_groupsItIsVitalTo_34 : decode cX3_groupsItIsVitalTo 34 = .ok (.invokevirtual 31, 3) := by decide +kernel
theorem dX3_groupsItIsVitalTo_37 : decode cX3_groupsItIsVitalTo 37 = .ok (.ifCond .eq 7, 3) := by decide +kernel
theorem dX3_groupsItIsVitalTo_40 : decode cX3_groupsItIsVitalTo 40 = .ok (.iconst 1, 1) := by decide +kernel
theorem dX3_groupsItIsVitalTo_41 : decode cX3_groupsItIsVitalTo 41 = .ok (.goto 4, 3) := by decide +kernel
theorem dX3_groupsItIsVitalTo_44 : decode cX3_groupsItIsVitalTo 44 = .ok (.iconst 0, 1) := by decide +kernel
theorem dX3_groupsItIsVitalTo_45 : decode cX3_groupsItIsVitalTo 45 = .ok (.iadd, 1) := by decide +kernel
theorem dX3_groupsItIsVitalTo_46 : decode cX3_groupsItIsVitalTo 46 = .ok (.istore 7, 2) := by decide +kernel
theorem dX3_groupsItIsVitalTo_48 : decode cX3_groupsItIsVitalTo 48 = .ok (.iinc 8 1, 3) := by decide +kernel
theorem dX3_groupsItIsVitalTo_51 : decode cX3_groupsItIsVitalTo 51 = .ok (.goto (-45), 3) := by decide +kernel
theorem dX3_groupsItIsVitalTo_54 : decode cX3_groupsItIsVitalTo 54 = .ok (.iload 7, 2) := by decide +kernel
theorem dX3_groupsItIsVitalTo_56 : decode cX3_groupsItIsVitalTo 56 = .ok (.ireturn, 1) := by decide +kernel
set_option maxRecDepth 20000 in
theorem ggX3_standingStones_X3_groupsWithoutTwo : GoodIn wsX3_standingStones wsX3_groupsWithoutTwo := goodIn_r _ [8, 1, 9, 10, 11, 12, 13, 14, 15, 16, 17, 18, 19, 20, 21, 22, 23, 24, 25, 26, 27, 28, 29, 7, 30, 31, 32, 33, 34, 3, 35, 37, 38, 39, 40, 41, 42, 43] (by decide +kernel) (by decide +kernel)
set_option maxRecDepth 20000 in
theorem gX3_standingStones_X3_groupsWithoutTwo : GoodIn wsX3_standingStones (wsV RX3 39 RX3 yX3_groupsWithoutTwo wsX3_groupsWithoutTwo) := goodIn_app (goodIn_of _ (by decide +kernel)) ggX3_standingStones_X3_groupsWithoutTwo
set_option maxRecDepth 20000 in
theorem ggX3_standingStones_X2_beside : GoodIn wsX3_standingStones wsX2_beside := goodIn_r _ [18, 19, 20, 21, 22, 38, 39, 40, 41, 42, 43] (by decide +kernel) (by decide +kernel)
set_option maxRecDepth 20000 in
theorem gX3_standingStones_X2_beside : GoodIn wsX3_standingStones (wsV RX3 15 RX2 yX2_beside wsX2_beside) := goodIn_app (goodIn_of _ (by decide +kernel)) ggX3_standingStones_X2_beside
set_option maxRecDepth 20000 in
theorem ggX3_standingStones_X2_spread : GoodIn wsX3_standingStones wsX2_spread := goodIn_r _ [26, 15, 16, 17, 13, 18, 19, 20, 21, 22, 38, 39, 40, 41, 42, 43] (by decide +kernel) (by decide +kernel)
set_option maxRecDepth 20000 in
theorem gX3_standingStones_X2_spread : GoodIn wsX3_standingStones (wsV RX3 43 RX2 yX2_spread wsX2_spread) := goodIn_app (goodIn_of _ (by decide +kernel)) ggX3_standingStones_X2_spread
theorem dX3_standingStones_0 : decode cX3_standingStones 0 = .ok (.lload_n 1, 1) := by decide +kernel
theorem dX3_standingStones_1 : decode cX3_standingStones 1 = .ok (.lstore 5, 2) := by decide +kernel
theorem dX3_standingStones_3 : decode cX3_standingStones 3 = .ok (.aload_n 0, 1) := by decide +kernel
theorem dX3_standingStones_4 : decode cX3_standingStones 4 = .ok (.getfield 9, 3) := by decide +kernel
theorem dX3_standingStones_7 : decode cX3_standingStones 7 = .ok (.getfield 35, 3) := by decide +kernel
theorem dX3_standingStones_10 : decode cX3_standingStones 10 = .ok (.lload_n 1, 1) := by decide +kernel
theorem dX3_standingStones_11 : decode cX3_standingStones 11 = .ok (.ldc2_w 21, 3) := by decide +kernel
theorem dX3_standingStones_14 : decode cX3_standingStones 14 = .ok (.lxor, 1) := by decide +kernel
theorem dX3_standingStones_15 : decode cX3_standingStones 15 = .ok (.land, 1) := by decide +kernel
theorem dX3_standingStones_16 : decode cX3_standingStones 16 = .ok (.lstore 7, 2) := by decide +kernel
theorem dX3_standingStones_18 : decode cX3_standingStones 18 = .ok (.iconst 0, 1) := by decide +kernel
theorem dX3_standingStones_19 : decode cX3_standingStones 19 = .ok (.istore 9, 2) := by decide +kernel
theorem dX3_standingStones_21 : decode cX3_standingStones 21 = .ok (.iload 9, 2) := by decide +kernel
theorem dX3_standingStones_23 : decode cX3_standingStones 23 = .ok (.bipush 49, 2) := by decide +kernel
theorem dX3_standingStones_25 : decode cX3_standingStones 25 = .ok (.if_icmp .ge 68, 3) := by decide +kernel
theorem dX3_standingStones_28 : decode cX3_standingStones 28 = .ok (.aload_n 0, 1) := by decide +kernel
theorem dX3_standingStones_29 : decode cX3_standingStones 29 = .ok (.lload 5, 2) := by decide +kernel
theorem dX3_standingStones_31 : decode cX3_standingStones 31 = .ok (.lload 7, 2) := by decide +kernel
theorem dX3_standingStones_33 : decode cX3_standingStones 33 = .ok (.lload_n 3, 1) := by decide +kernel
theorem dX3_standingStones_34 : decode cX3_standingStones 34 = .ok (.invokevirtual 39, 3) := by decide +kernel
theorem dX3_standingStones_37 : decode cX3_standingStones 37 = .ok (.lstore 10, 2) := by decide +kernel
theorem dX3_standingStones_39 : decode cX3_standingStones 39 = .ok (.lload 10, 2) := by decide +kernel
theorem dX3_standingStones_41 : decode cX3_standingStones 41 = .ok (.lconst 0, 1) := by decide +kernel
theorem dX3_standingStones_42 : decode cX3_standingStones 42 = .ok (.lcmp, 1) := by decide +kernel
theorem dX3_standingStones_43 : decode cX3_standingStones 43 = .ok (.ifCond .ne 6, 3) := by decide +kernel
theorem dX3_standingStones_46 : decode cX3_standingStones 46 = .ok (.goto 47, 3) := by decide +kernel
theorem dX3_standingStones_49 : decode cX3_standingStones 49 = .ok (.lload 5, 2) := by decide +kernel
theorem dX3_standingStones_51 : decode cX3_standingStones 51 = .ok (.lload 10, 2) := by decide +kernel
theorem dX3_standingStones_53 : decode cX3_standingStones 53 = .ok (.ldc2_w 21, 3) := by decide +kernel
theorem dX3_standingStones_56 : decode cX3_standingStones 56 = .ok (.lxor, 1) := by decide +kernel
theorem dX3_standingStones_57 : decode cX3_standingStones 57 = .ok (.land, 1) := by decide +kernel
theorem dX3_standingStones_58 : decode cX3_standingStones 58 = .ok (.lstore 5, 2) := by decide +kernel
theorem dX3_standingStones_60 : decode cX3_standingStones 60 = .ok (.lload 7, 2) := by decide +kernel
theorem dX3_standingStones_62 : decode cX3_standingStones 62 = .ok (.aload_n 0, 1) := by decide +kernel
theorem dX3_standingStones_63 : decode cX3_standingStones 63 = .ok (.getfield 9, 3) := by decide +kernel
theorem dX3_standingStones_66 : decode cX3_standingStones 66 = .ok (.aload_n 0, 1) := by decide +kernel
theorem dX3_standingStones_67 : decode cX3_standingStones 67 = .ok (.getfield 9, 3) := by decide +kernel
