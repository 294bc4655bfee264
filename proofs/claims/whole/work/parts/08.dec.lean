theorem dX7_mayAnswer_32 : decode cX7_mayAnswer 32 = .ok (.iload_n 1, 1) := by decide +kernel
theorem dX7_mayAnswer_33 : decode cX7_mayAnswer 33 = .ok (.laload, 1) := by decide +kernel
theorem dX7_mayAnswer_34 : decode cX7_mayAnswer 34 = .ok (.invokevirtual 194, 3) := by decide +kernel
theorem dX7_mayAnswer_37 : decode cX7_mayAnswer 37 = .ok (.ifCond .ne 7, 3) := by decide +kernel
theorem dX7_mayAnswer_40 : decode cX7_mayAnswer 40 = .ok (.iconst 1, 1) := by decide +kernel
theorem dX7_mayAnswer_41 : decode cX7_mayAnswer 41 = .ok (.goto 4, 3) := by decide +kernel
theorem dX7_mayAnswer_44 : decode cX7_mayAnswer 44 = .ok (.iconst 0, 1) := by decide +kernel
theorem dX7_mayAnswer_45 : decode cX7_mayAnswer 45 = .ok (.ireturn, 1) := by decide +kernel
set_option maxRecDepth 20000 in
theorem ggX7_chase_X7_isCrossing : GoodIn wsX7_chase wsX7_isCrossing := goodIn_r _ [7, 8, 9, 10, 6, 11, 12, 13, 14, 15, 16, 105, 106, 107, 108, 109, 110, 111, 112, 113, 114, 115, 116, 117, 118, 119, 120, 121, 122, 123, 124, 125, 126, 127, 128, 129, 130, 131, 132, 133] (by decide +kernel) (by decide +kernel)
set_option maxRecDepth 20000 in
theorem gX7_chase_X7_isCrossing : GoodIn wsX7_chase (wsV RX7 144 RX7 yX7_isCrossing wsX7_isCrossing) := goodIn_app (goodIn_of _ (by decide +kernel)) ggX7_chase_X7_isCrossing
set_option maxRecDepth 20000 in
theorem ggX7_chase_X7_in : GoodIn wsX7_chase wsX7_in := goodIn_r _ [16] (by decide +kernel) (by decide +kernel)
set_option maxRecDepth 20000 in
theorem gX7_chase_X7_in : GoodIn wsX7_chase (va_wsS RX7 93 yX7_in wsX7_in) := goodIn_app (goodIn_of _ (by decide +kernel)) ggX7_chase_X7_in
set_option maxRecDepth 20000 in
theorem ggX7_chase_X7_atOf : GoodIn wsX7_chase wsX7_atOf := goodIn_r _ [20, 21, 22, 23, 105, 106, 107, 108, 109, 110, 111, 112, 113, 114, 115, 116, 117, 118, 119, 120, 121, 122, 123, 124, 125, 126, 127, 128, 129, 130, 131, 132, 133] (by decide +kernel) (by decide +kernel)
set_option maxRecDepth 20000 in
theorem gX7_chase_X7_atOf : GoodIn wsX7_chase (wsV RX7 159 RX7 yX7_atOf wsX7_atOf) := goodIn_app (goodIn_of _ (by decide +kernel)) ggX7_chase_X7_atOf
set_option maxRecDepth 20000 in
theorem ggX7_chase_X7_isCaught : GoodIn wsX7_chase wsX7_isCaught := goodIn_r _ [27, 28, 21, 22, 23, 2, 29, 30, 31, 32, 33, 34, 35, 36, 37, 38, 39, 40, 6, 41, 42, 43, 44, 45, 46, 47, 48, 49, 50, 51, 52, 53, 54, 55, 56, 8, 9, 10, 11, 12, 13, 57, 58, 59, 60, 61, 62, 63, 64, 65, 66, 67, 68, 69, 70, 71, 72, 73, 74, 75, 76, 77, 78, 79, 80, 81, 82, 83, 84, 85, 86, 87, 88, 89, 90, 1, 91, 92, 93, 94, 95, 96, 97, 98, 99, 100, 101, 102, 103, 104, 105, 106, 107, 108, 109, 110, 111, 112, 113, 114, 115, 116, 117, 118, 119, 120, 121, 122, 123, 124, 125, 126, 127, 128, 129, 130, 131, 132, 133] (by decide +kernel) (by decide +kernel)
set_option maxRecDepth 20000 in
theorem gX7_chase_X7_isCaught : GoodIn wsX7_chase (wsV RX7 216 RX7 yX7_isCaught wsX7_isCaught) := goodIn_app (goodIn_of _ (by decide +kernel)) ggX7_chase_X7_isCaught
theorem dX7_chase_0 : decode cX7_chase 0 = .ok (.aload_n 0, 1) := by decide +kernel
theorem dX7_chase_1 : decode cX7_chase 1 = .ok (.iload_n 1, 1) := by decide +kernel
theorem dX7_chase_2 : decode cX7_chase 2 = .ok (.invokevirtual 144, 3) := by decide +kernel
theorem dX7_chase_5 : decode cX7_chase 5 = .ok (.ifCond .eq 13, 3) := by decide +kernel
theorem dX7_chase_8 : decode cX7_chase 8 = .ok (.iload_n 2, 1) := by decide +kernel
theorem dX7_chase_9 : decode cX7_chase 9 = .ok (.iconst 1, 1) := by decide +kernel
theorem dX7_chase_10 : decode cX7_chase 10 = .ok (.bipush 20, 2) := by decide +kernel
theorem dX7_chase_12 : decode cX7_chase 12 = .ok (.invokestatic 93, 3) := by decide +kernel
theorem dX7_chase_15 : decode cX7_chase 15 = .ok (.ifCond .ne 6, 3) := by decide +kernel
theorem dX7_chase_18 : decode cX7_chase 18 = .ok (.bipush (-2), 2) := by decide +kernel
theorem dX7_chase_20 : decode cX7_chase 20 = .ok (.ireturn, 1) := by decide +kernel
theorem dX7_chase_21 : decode cX7_chase 21 = .ok (.aload_n 0, 1) := by decide +kernel
theorem dX7_chase_22 : decode cX7_chase 22 = .ok (.iload_n 1, 1) := by decide +kernel
theorem dX7_chase_23 : decode cX7_chase 23 = .ok (.invokevirtual 159, 3) := by decide +kernel
theorem dX7_chase_26 : decode cX7_chase 26 = .ok (.ifCond .ne 6, 3) := by decide +kernel
theorem dX7_chase_29 : decode cX7_chase 29 = .ok (.bipush (-3), 2) := by decide +kernel
theorem dX7_chase_31 : decode cX7_chase 31 = .ok (.ireturn, 1) := by decide +kernel
theorem dX7_chase_32 : decode cX7_chase 32 = .ok (.aload_n 0, 1) := by decide +kernel
theorem dX7_chase_33 : decode cX7_chase 33 = .ok (.iconst 0, 1) := by decide +kernel
theorem dX7_chase_34 : decode cX7_chase 34 = .ok (.putfield 183, 3) := by decide +kernel
theorem dX7_chase_37 : decode cX7_chase 37 = .ok (.aload_n 0, 1) := by decide +kernel
theorem dX7_chase_38 : decode cX7_chase 38 = .ok (.iconst 0, 1) := by decide +kernel
theorem dX7_chase_39 : decode cX7_chase 39 = .ok (.putfield 186, 3) := by decide +kernel
theorem dX7_chase_42 : decode cX7_chase 42 = .ok (.aload_n 0, 1) := by decide +kernel
theorem dX7_chase_43 : decode cX7_chase 43 = .ok (.aload_n 0, 1) := by decide +kernel
theorem dX7_chase_44 : decode cX7_chase 44 = .ok (.iload_n 1, 1) := by decide +kernel
theorem dX7_chase_45 : decode cX7_chase 45 = .ok (.invokevirtual 159, 3) := by decide +kernel
theorem dX7_chase_48 : decode cX7_chase 48 = .ok (.iload_n 1, 1) := by decide +kernel
theorem dX7_chase_49 : decode cX7_chase 49 = .ok (.iload_n 2, 1) := by decide +kernel
theorem dX7_chase_50 : decode cX7_chase 50 = .ok (.invokevirtual 216, 3) := by decide +kernel
theorem dX7_chase_53 : decode cX7_chase 53 = .ok (.istore_n 3, 1) := by decide +kernel
theorem dX7_chase_54 : decode cX7_chase 54 = .ok (.aload_n 0, 1) := by decide +kernel
theorem dX7_chase_55 : decode cX7_chase 55 = .ok (.getfield 186, 3) := by decide +kernel
theorem dX7_chase_58 : decode cX7_chase 58 = .ok (.ifCond .eq 8, 3) := by decide +kernel
theorem dX7_chase_61 : decode cX7_chase 61 = .ok (.bipush (-5), 2) := by decide +kernel
theorem dX7_chase_63 : decode cX7_chase 63 = .ok (.goto 12, 3) := by decide +kernel
theorem dX7_chase_66 : decode cX7_chase 66 = .ok (.iload_n 3, 1) := by decide +kernel
theorem dX7_chase_67 : decode cX7_chase 67 = .ok (.ifCond .eq 7, 3) := by decide +kernel
theorem dX7_chase_70 : decode cX7_chase 70 = .ok (.iconst 1, 1) := by decide +kernel
theorem dX7_chase_71 : decode cX7_chase 71 = .ok (.goto 4, 3) := by decide +kernel
theorem dX7_chase_74 : decode cX7_chase 74 = .ok (.iconst 0, 1) := by decide +kernel
theorem dX7_chase_75 : decode cX7_chase 75 = .ok (.ireturn, 1) := by decide +kernel
theorem dX7_isGone_0 : decode cX7_isGone 0 = .ok (.iload_n 2, 1) := by decide +kernel
theorem dX7_isGone_1 : decode cX7_isGone 1 = .ok (.iconst 1, 1) := by decide +kernel
theorem dX7_isGone_2 : decode cX7_isGone 2 = .ok (.if_icmp .ne 12, 3) := by decide +kernel
theorem dX7_isGone_5 : decode cX7_isGone 5 = .ok (.aload_n 0, 1) := by decide +kernel
theorem dX7_isGone_6 : decode cX7_isGone 6 = .ok (.getfield 24, 3) := by decide +kernel
theorem dX7_isGone_9 : decode cX7_isGone 9 = .ok (.iload_n 1, 1) := by decide +kernel
theorem dX7_isGone_10 : decode cX7_isGone 10 = .ok (.laload, 1) := by decide +kernel
theorem dX7_isGone_11 : decode cX7_isGone 11 = .ok (.goto 9, 3) := by decide +kernel
theorem dX7_isGone_14 : decode cX7_isGone 14 = .ok (.aload_n 0, 1) := by decide +kernel
theorem dX7_isGone_15 : decode cX7_isGone 15 = .ok (.getfield 27, 3) := by decide +kernel
theorem dX7_isGone_18 : decode cX7_isGone 18 = .ok (.iload_n 1, 1) := by decide +kernel
theorem dX7_isGone_19 : decode cX7_isGone 19 = .ok (.laload, 1) := by decide +kernel
theorem dX7_isGone_20 : decode cX7_isGone 20 = .ok (.iload_n 3, 1) := by decide +kernel
theorem dX7_isGone_21 : decode cX7_isGone 21 = .ok (.lshr, 1) := by decide +kernel
theorem dX7_isGone_22 : decode cX7_isGone 22 = .ok (.lconst 1, 1) := by decide +kernel
theorem dX7_isGone_23 : decode cX7_isGone 23 = .ok (.land, 1) := by decide +kernel
theorem dX7_isGone_24 : decode cX7_isGone 24 = .ok (.lconst 0, 1) := by decide +kernel
theorem dX7_isGone_25 : decode cX7_isGone 25 = .ok (.lcmp, 1) := by decide +kernel
theorem dX7_isGone_26 : decode cX7_isGone 26 = .ok (.ifCond .ne 7, 3) := by decide +kernel
theorem dX7_isGone_29 : decode cX7_isGone 29 = .ok (.iconst 1, 1) := by decide +kernel
theorem dX7_isGone_30 : decode cX7_isGone 30 = .ok (.goto 4, 3) := by decide +kernel
theorem dX7_isGone_33 : decode cX7_isGone 33 = .ok (.iconst 0, 1) := by decide +kernel
theorem dX7_isGone_34 : decode cX7_isGone 34 = .ok (.ireturn, 1) := by decide +kernel
set_option maxRecDepth 20000 in
theorem ggX7_isTaken_X7_size : GoodIn wsX7_isTaken wsX7_size := goodIn_r _ [13, 14, 15, 66, 67, 68, 69, 70, 71, 72, 73, 74, 75, 76, 77, 78, 79, 80, 81, 82, 83, 84, 85, 86, 87, 88, 89, 90, 91, 92, 93, 94] (by decide +kernel) (by decide +kernel)
set_option maxRecDepth 20000 in
theorem gX7_isTaken_X7_size : GoodIn wsX7_isTaken (wsV RX7 89 RX7 yX7_size wsX7_size) := goodIn_app (goodIn_of _ (by decide +kernel)) ggX7_isTaken_X7_size
set_option maxRecDepth 20000 in
theorem ggX7_isTaken_X7_reason : GoodIn wsX7_isTaken wsX7_reason := goodIn_r _ [19, 5, 7, 20, 21, 22, 12, 23, 24, 25, 26, 6, 8, 27, 28, 29, 30, 31, 32, 33, 34, 35, 36, 37, 9, 10, 11, 13, 14, 15, 38, 39, 40, 41, 42, 43, 44, 45, 46, 47, 48, 49, 50, 51, 52, 53, 4, 54, 55, 56, 66, 67, 68, 69, 70, 71, 72, 73, 74, 75, 76, 77, 78, 79, 80, 81, 82, 83, 84, 85, 86, 87, 88, 89, 90, 91, 92, 93, 94] (by decide +kernel) (by decide +kernel)
set_option maxRecDepth 20000 in
theorem gX7_isTaken_X7_reason : GoodIn wsX7_isTaken (wsV RX7 148 RX7 yX7_reason wsX7_reason) := goodIn_app (goodIn_of _ (by decide +kernel)) ggX7_isTaken_X7_reason
set_option maxRecDepth 20000 in
theorem ggX7_isTaken_X7_counts : GoodIn wsX7_isTaken wsX7_counts := goodIn_r _ [60, 61, 2, 66, 67, 68, 69, 70, 71, 72, 73, 74, 75, 76, 77, 78, 79, 80, 81, 82, 83, 84, 85, 86, 87, 88, 89, 90, 91, 92, 93, 94] (by decide +kernel) (by decide +kernel)
set_option maxRecDepth 20000 in
theorem gX7_isTaken_X7_counts : GoodIn wsX7_isTaken (wsV RX7 204 RX7 yX7_counts wsX7_counts) := goodIn_app (goodIn_of _ (by decide +kernel)) ggX7_isTaken_X7_counts
set_option maxRecDepth 20000 in
theorem ggX7_isTaken_X7_other : GoodIn wsX7_isTaken wsX7_other := goodIn_r _ [56] (by decide +kernel) (by decide +kernel)
set_option maxRecDepth 20000 in
theorem gX7_isTaken_X7_other : GoodIn wsX7_isTaken (va_wsS RX7 132 yX7_other wsX7_other) := goodIn_app (goodIn_of _ (by decide +kernel)) ggX7_isTaken_X7_other
set_option maxRecDepth 20000 in
theorem ggX7_isTaken_X7_isGone : GoodIn wsX7_isTaken wsX7_isGone := goodIn_r _ [65, 5, 7, 66, 67, 68, 69, 70, 71, 72, 73, 74, 75, 76, 77, 78, 79, 80, 81, 82, 83, 84, 85, 86, 87, 88, 89, 90, 91, 92, 93, 94] (by decide +kernel) (by decide +kernel)
set_option maxRecDepth 20000 in
theorem gX7_isTaken_X7_isGone : GoodIn wsX7_isTaken (wsV RX7 219 RX7 yX7_isGone wsX7_isGone) := goodIn_app (goodIn_of _ (by decide +kernel)) ggX7_isTaken_X7_isGone
theorem dX7_isTaken_0 : decode cX7_isTaken 0 = .ok (.iconst 0, 1) := by decide +kernel
theorem dX7_isTaken_1 : decode cX7_isTaken 1 = .ok (.istore 4, 2) := by decide +kernel
theorem dX7_isTaken_3 : decode cX7_isTaken 3 = .ok (.aload_n 0, 1) := by decide +kernel
theorem dX7_isTaken_4 : decode cX7_isTaken 4 = .ok (.getfield 76, 3) := by decide +kernel
theorem dX7_isTaken_7 : decode cX7_isTaken 7 = .ok (.iconst 0, 1) := by decide +kernel
theorem dX7_isTaken_8 : decode cX7_isTaken 8 = .ok (.iconst 0, 1) := by decide +kernel
theorem dX7_isTaken_9 : decode cX7_isTaken 9 = .ok (.iastore, 1) := by decide +kernel
theorem dX7_isTaken_10 : decode cX7_isTaken 10 = .ok (.iconst 0, 1) := by decide +kernel
theorem dX7_isTaken_11 : decode cX7_isTaken 11 = .ok (.istore 5, 2) := by decide +kernel
theorem dX7_isTaken_13 : decode cX7_isTaken 13 = .ok (.iconst 0, 1) := by decide +kernel
theorem dX7_isTaken_14 : decode cX7_isTaken 14 = .ok (.istore 6, 2) := by decide +kernel
theorem dX7_isTaken_16 : decode cX7_isTaken 16 = .ok (.iload 4, 2) := by decide +kernel
theorem dX7_isTaken_18 : decode cX7_isTaken 18 = .ok (.ifCond .lt 295, 3) := by decide +kernel
theorem dX7_isTaken_21 : decode cX7_isTaken 21 = .ok (.aload_n 0, 1) := by decide +kernel
theorem dX7_isTaken_22 : decode cX7_isTaken 22 = .ok (.getfield 186, 3) := by decide +kernel
theorem dX7_isTaken_25 : decode cX7_isTaken 25 = .ok (.ifCond .ne 288, 3) := by decide +kernel
theorem dX7_isTaken_28 : decode cX7_isTaken 28 = .ok (.aload_n 0, 1) := by decide +kernel
theorem dX7_isTaken_29 : decode cX7_isTaken 29 = .ok (.getfield 86, 3) := by decide +kernel
theorem dX7_isTaken_32 : decode cX7_isTaken 32 = .ok (.iload 4, 2) := by decide +kernel
theorem dX7_isTaken_34 : decode cX7_isTaken 34 = .ok (.iadd, 1) := by decide +kernel
theorem dX7_isTaken_35 : decode cX7_isTaken 35 = .ok (.istore 7, 2) := by decide +kernel
theorem dX7_isTaken_37 : decode cX7_isTaken 37 = .ok (.aload_n 0, 1) := by decide +kernel
theorem dX7_isTaken_38 : decode cX7_isTaken 38 = .ok (.getfield 30, 3) := by decide +kernel
theorem dX7_isTaken_41 : decode cX7_isTaken 41 = .ok (.iload 7, 2) := by decide +kernel
theorem dX7_isTaken_43 : decode cX7_isTaken 43 = .ok (.iaload, 1) := by decide +kernel
theorem dX7_isTaken_44 : decode cX7_isTaken 44 = .ok (.iload_n 1, 1) := by decide +kernel
theorem dX7_isTaken_45 : decode cX7_isTaken 45 = .ok (.if_icmp .ne 7, 3) := by decide +kernel
theorem dX7_isTaken_48 : decode cX7_isTaken 48 = .ok (.iconst 1, 1) := by decide +kernel
theorem dX7_isTaken_49 : decode cX7_isTaken 49 = .ok (.goto 4, 3) := by decide +kernel
theorem dX7_isTaken_52 : decode cX7_isTaken 52 = .ok (.iconst 0, 1) := by decide +kernel
theorem dX7_isTaken_53 : decode cX7_isTaken 53 = .ok (.istore 8, 2) := by decide +kernel
theorem dX7_isTaken_55 : decode cX7_isTaken 55 = .ok (.iload 5, 2) := by decide +kernel
theorem dX7_isTaken_57 : decode cX7_isTaken 57 = .ok (.ifCond .eq 14, 3) := by decide +kernel
theorem dX7_isTaken_60 : decode cX7_isTaken 60 = .ok (.iload 6, 2) := by decide +kernel
theorem dX7_isTaken_62 : decode cX7_isTaken 62 = .ok (.iload 8, 2) := by decide +kernel
theorem dX7_isTaken_64 : decode cX7_isTaken 64 = .ok (.if_icmp .eq 7, 3) := by decide +kernel
theorem dX7_isTaken_67 : decode cX7_isTaken 67 = .ok (.iconst 1, 1) := by decide +kernel
theorem dX7_isTaken_68 : decode cX7_isTaken 68 = .ok (.goto 4, 3) := by decide +kernel
theorem dX7_isTaken_71 : decode cX7_isTaken 71 = .ok (.iconst 0, 1) := by decide +kernel
theorem dX7_isTaken_72 : decode cX7_isTaken 72 = .ok (.istore 9, 2) := by decide +kernel
theorem dX7_isTaken_74 : decode cX7_isTaken 74 = .ok (.iload 9, 2) := by decide +kernel
theorem dX7_isTaken_76 : decode cX7_isTaken 76 = .ok (.ifCond .ne 23, 3) := by decide +kernel
theorem dX7_isTaken_79 : decode cX7_isTaken 79 = .ok (.aload_n 0, 1) := by decide +kernel
theorem dX7_isTaken_80 : decode cX7_isTaken 80 = .ok (.getfield 76, 3) := by decide +kernel
theorem dX7_isTaken_83 : decode cX7_isTaken 83 = .ok (.iload 4, 2) := by decide +kernel
theorem dX7_isTaken_85 : decode cX7_isTaken 85 = .ok (.iaload, 1) := by decide +kernel
theorem dX7_isTaken_86 : decode cX7_isTaken 86 = .ok (.aload_n 0, 1) := by decide +kernel
theorem dX7_isTaken_87 : decode cX7_isTaken 87 = .ok (.invokevirtual 89, 3) := by decide +kernel
theorem dX7_isTaken_90 : decode cX7_isTaken 90 = .ok (.if_icmp .gt 9, 3) := by decide +kernel
theorem dX7_isTaken_93 : decode cX7_isTaken 93 = .ok (.iload 4, 2) := by decide +kernel
theorem dX7_isTaken_95 : decode cX7_isTaken 95 = .ok (.iload_n 3, 1) := by decide +kernel
theorem dX7_isTaken_96 : decode cX7_isTaken 96 = .ok (.if_icmp .ne 40, 3) := by decide +kernel
theorem dX7_isTaken_99 : decode cX7_isTaken 99 = .ok (.iload 9, 2) := by decide +kernel
theorem dX7_isTaken_101 : decode cX7_isTaken 101 = .ok (.ifCond .eq 8, 3) := by decide +kernel
theorem dX7_isTaken_104 : decode cX7_isTaken 104 = .ok (.iload 6, 2) := by decide +kernel
theorem dX7_isTaken_106 : decode cX7_isTaken 106 = .ok (.goto 19, 3) := by decide +kernel
theorem dX7_isTaken_109 : decode cX7_isTaken 109 = .ok (.iload 8, 2) := by decide +kernel
theorem dX7_isTaken_111 : decode cX7_isTaken 111 = .ok (.ifCond .eq 13, 3) := by decide +kernel
theorem dX7_isTaken_114 : decode cX7_isTaken 114 = .ok (.iload 4, 2) := by decide +kernel
theorem dX7_isTaken_116 : decode cX7_isTaken 116 = .ok (.iload_n 3, 1) := by decide +kernel
theorem dX7_isTaken_117 : decode cX7_isTaken 117 = .ok (.if_icmp .ge 7, 3) := by decide +kernel
theorem dX7_isTaken_120 : decode cX7_isTaken 120 = .ok (.iconst 1, 1) := by decide +kernel
theorem dX7_isTaken_121 : decode cX7_isTaken 121 = .ok (.goto 4, 3) := by decide +kernel
theorem dX7_isTaken_124 : decode cX7_isTaken 124 = .ok (.iconst 0, 1) := by decide +kernel
theorem dX7_isTaken_125 : decode cX7_isTaken 125 = .ok (.istore 6, 2) := by decide +kernel
theorem dX7_isTaken_127 : decode cX7_isTaken 127 = .ok (.iinc 4 (-1), 3) := by decide +kernel
theorem dX7_isTaken_130 : decode cX7_isTaken 130 = .ok (.iconst 1, 1) := by decide +kernel
theorem dX7_isTaken_131 : decode cX7_isTaken 131 = .ok (.istore 5, 2) := by decide +kernel
theorem dX7_isTaken_133 : decode cX7_isTaken 133 = .ok (.goto (-117), 3) := by decide +kernel
theorem dX7_isTaken_136 : decode cX7_isTaken 136 = .ok (.iconst 0, 1) := by decide +kernel
theorem dX7_isTaken_137 : decode cX7_isTaken 137 = .ok (.istore 5, 2) := by decide +kernel
theorem dX7_isTaken_139 : decode cX7_isTaken 139 = .ok (.aload_n 0, 1) := by decide +kernel
theorem dX7_isTaken_140 : decode cX7_isTaken 140 = .ok (.getfield 76, 3) := by decide +kernel
theorem dX7_isTaken_143 : decode cX7_isTaken 143 = .ok (.iload 4, 2) := by decide +kernel
theorem dX7_isTaken_145 : decode cX7_isTaken 145 = .ok (.iaload, 1) := by decide +kernel
theorem dX7_isTaken_146 : decode cX7_isTaken 146 = .ok (.istore 10, 2) := by decide +kernel
theorem dX7_isTaken_148 : decode cX7_isTaken 148 = .ok (.aload_n 0, 1) := by decide +kernel
theorem dX7_isTaken_149 : decode cX7_isTaken 149 = .ok (.getfield 76, 3) := by decide +kernel
theorem dX7_isTaken_152 : decode cX7_isTaken 152 = .ok (.iload 4, 2) := by decide +kernel
theorem dX7_isTaken_154 : decode cX7_isTaken 154 = .ok (.dup2, 1) := by decide +kernel
theorem dX7_isTaken_155 : decode cX7_isTaken 155 = .ok (.iaload, 1) := by decide +kernel
theorem dX7_isTaken_156 : decode cX7_isTaken 156 = .ok (.iconst 1, 1) := by decide +kernel
theorem dX7_isTaken_157 : decode cX7_isTaken 157 = .ok (.iadd, 1) := by decide +kernel
theorem dX7_isTaken_158 : decode cX7_isTaken 158 = .ok (.iastore, 1) := by decide +kernel
theorem dX7_isTaken_159 : decode cX7_isTaken 159 = .ok (.iload 10, 2) := by decide +kernel
theorem dX7_isTaken_161 : decode cX7_isTaken 161 = .ok (.aload_n 0, 1) := by decide +kernel
theorem dX7_isTaken_162 : decode cX7_isTaken 162 = .ok (.invokevirtual 89, 3) := by decide +kernel
theorem dX7_isTaken_165 : decode cX7_isTaken 165 = .ok (.if_icmp .ne 7, 3) := by decide +kernel
theorem dX7_isTaken_168 : decode cX7_isTaken 168 = .ok (.iconst 1, 1) := by decide +kernel
theorem dX7_isTaken_169 : decode cX7_isTaken 169 = .ok (.goto 4, 3) := by decide +kernel
theorem dX7_isTaken_172 : decode cX7_isTaken 172 = .ok (.iconst 0, 1) := by decide +kernel
theorem dX7_isTaken_173 : decode cX7_isTaken 173 = .ok (.istore 11, 2) := by decide +kernel
theorem dX7_isTaken_175 : decode cX7_isTaken 175 = .ok (.iload 11, 2) := by decide +kernel
theorem dX7_isTaken_177 : decode cX7_isTaken 177 = .ok (.ifCond .ne 21, 3) := by decide +kernel
theorem dX7_isTaken_180 : decode cX7_isTaken 180 = .ok (.aload_n 0, 1) := by decide +kernel
theorem dX7_isTaken_181 : decode cX7_isTaken 181 = .ok (.iload 7, 2) := by decide +kernel
theorem dX7_isTaken_183 : decode cX7_isTaken 183 = .ok (.aload_n 0, 1) := by decide +kernel
theorem dX7_isTaken_184 : decode cX7_isTaken 184 = .ok (.getfield 30, 3) := by decide +kernel
theorem dX7_isTaken_187 : decode cX7_isTaken 187 = .ok (.iload 7, 2) := by decide +kernel
theorem dX7_isTaken_189 : decode cX7_isTaken 189 = .ok (.iaload, 1) := by decide +kernel
theorem dX7_isTaken_190 : decode cX7_isTaken 190 = .ok (.iload 10, 2) := by decide +kernel
theorem dX7_isTaken_192 : decode cX7_isTaken 192 = .ok (.invokevirtual 148, 3) := by decide +kernel
theorem dX7_isTaken_195 : decode cX7_isTaken 195 = .ok (.ifCond .ne 115, 3) := by decide +kernel
theorem dX7_isTaken_198 : decode cX7_isTaken 198 = .ok (.aload_n 0, 1) := by decide +kernel
theorem dX7_isTaken_199 : decode cX7_isTaken 199 = .ok (.invokevirtual 204, 3) := by decide +kernel
theorem dX7_isTaken_202 : decode cX7_isTaken 202 = .ok (.aload_n 0, 1) := by decide +kernel
theorem dX7_isTaken_203 : decode cX7_isTaken 203 = .ok (.getfield 24, 3) := by decide +kernel
theorem dX7_isTaken_206 : decode cX7_isTaken 206 = .ok (.iload 7, 2) := by decide +kernel
theorem dX7_isTaken_208 : decode cX7_isTaken 208 = .ok (.iconst 1, 1) := by decide +kernel
theorem dX7_isTaken_209 : decode cX7_isTaken 209 = .ok (.iadd, 1) := by decide +kernel
theorem dX7_isTaken_210 : decode cX7_isTaken 210 = .ok (.iload 11, 2) := by decide +kernel
theorem dX7_isTaken_212 : decode cX7_isTaken 212 = .ok (.ifCond .eq 13, 3) := by decide +kernel
theorem dX7_isTaken_215 : decode cX7_isTaken 215 = .ok (.aload_n 0, 1) := by decide +kernel
theorem dX7_isTaken_216 : decode cX7_isTaken 216 = .ok (.getfield 24, 3) := by decide +kernel
theorem dX7_isTaken_219 : decode cX7_isTaken 219 = .ok (.iload 7, 2) := by decide +kernel
theorem dX7_isTaken_221 : decode cX7_isTaken 221 = .ok (.laload, 1) := by decide +kernel
theorem dX7_isTaken_222 : decode cX7_isTaken 222 = .ok (.goto 7, 3) := by decide +kernel
theorem dX7_isTaken_225 : decode cX7_isTaken 225 = .ok (.aload_n 0, 1) := by decide +kernel
theorem dX7_isTaken_226 : decode cX7_isTaken 226 = .ok (.getfield 122, 3) := by decide +kernel
theorem dX7_isTaken_229 : decode cX7_isTaken 229 = .ok (.lastore, 1) := by decide +kernel
theorem dX7_isTaken_230 : decode cX7_isTaken 230 = .ok (.aload_n 0, 1) := by decide +kernel
theorem dX7_isTaken_231 : decode cX7_isTaken 231 = .ok (.getfield 27, 3) := by decide +kernel
theorem dX7_isTaken_234 : decode cX7_isTaken 234 = .ok (.iload 7, 2) := by decide +kernel
theorem dX7_isTaken_236 : decode cX7_isTaken 236 = .ok (.iconst 1, 1) := by decide +kernel
theorem dX7_isTaken_237 : decode cX7_isTaken 237 = .ok (.iadd, 1) := by decide +kernel
theorem dX7_isTaken_238 : decode cX7_isTaken 238 = .ok (.iload 11, 2) := by decide +kernel
theorem dX7_isTaken_240 : decode cX7_isTaken 240 = .ok (.ifCond .eq 13, 3) := by decide +kernel
theorem dX7_isTaken_243 : decode cX7_isTaken 243 = .ok (.aload_n 0, 1) := by decide +kernel
theorem dX7_isTaken_244 : decode cX7_isTaken 244 = .ok (.getfield 27, 3) := by decide +kernel
theorem dX7_isTaken_247 : decode cX7_isTaken 247 = .ok (.iload 7, 2) := by decide +kernel
theorem dX7_isTaken_249 : decode cX7_isTaken 249 = .ok (.laload, 1) := by decide +kernel
theorem dX7_isTaken_250 : decode cX7_isTaken 250 = .ok (.goto 7, 3) := by decide +kernel
theorem dX7_isTaken_253 : decode cX7_isTaken 253 = .ok (.aload_n 0, 1) := by decide +kernel
theorem dX7_isTaken_254 : decode cX7_isTaken 254 = .ok (.getfield 126, 3) := by decide +kernel
theorem dX7_isTaken_257 : decode cX7_isTaken 257 = .ok (.lastore, 1) := by decide +kernel
theorem dX7_isTaken_258 : decode cX7_isTaken 258 = .ok (.aload_n 0, 1) := by decide +kernel
theorem dX7_isTaken_259 : decode cX7_isTaken 259 = .ok (.getfield 30, 3) := by decide +kernel
theorem dX7_isTaken_262 : decode cX7_isTaken 262 = .ok (.iload 7, 2) := by decide +kernel
theorem dX7_isTaken_264 : decode cX7_isTaken 264 = .ok (.iconst 1, 1) := by decide +kernel
theorem dX7_isTaken_265 : decode cX7_isTaken 265 = .ok (.iadd, 1) := by decide +kernel
theorem dX7_isTaken_266 : decode cX7_isTaken 266 = .ok (.aload_n 0, 1) := by decide +kernel
theorem dX7_isTaken_267 : decode cX7_isTaken 267 = .ok (.getfield 30, 3) := by decide +kernel
theorem dX7_isTaken_270 : decode cX7_isTaken 270 = .ok (.iload 7, 2) := by decide +kernel
theorem dX7_isTaken_272 : decode cX7_isTaken 272 = .ok (.iaload, 1) := by decide +kernel
theorem dX7_isTaken_273 : decode cX7_isTaken 273 = .ok (.invokestatic 132, 3) := by decide +kernel
theorem dX7_isTaken_276 : decode cX7_isTaken 276 = .ok (.iastore, 1) := by decide +kernel
theorem dX7_isTaken_277 : decode cX7_isTaken 277 = .ok (.aload_n 0, 1) := by decide +kernel
theorem dX7_isTaken_278 : decode cX7_isTaken 278 = .ok (.iload 7, 2) := by decide +kernel
theorem dX7_isTaken_280 : decode cX7_isTaken 280 = .ok (.iconst 1, 1) := by decide +kernel
theorem dX7_isTaken_281 : decode cX7_isTaken 281 = .ok (.iadd, 1) := by decide +kernel
theorem dX7_isTaken_282 : decode cX7_isTaken 282 = .ok (.iload_n 1, 1) := by decide +kernel
theorem dX7_isTaken_283 : decode cX7_isTaken 283 = .ok (.iload_n 2, 1) := by decide +kernel
theorem dX7_isTaken_284 : decode cX7_isTaken 284 = .ok (.invokevirtual 219, 3) := by decide +kernel
theorem dX7_isTaken_287 : decode cX7_isTaken 287 = .ok (.ifCond .eq 12, 3) := by decide +kernel
theorem dX7_isTaken_290 : decode cX7_isTaken 290 = .ok (.iconst 1, 1) := by decide +kernel
theorem dX7_isTaken_291 : decode cX7_isTaken 291 = .ok (.istore 6, 2) := by decide +kernel
theorem dX7_isTaken_293 : decode cX7_isTaken 293 = .ok (.iconst 1, 1) := by decide +kernel
theorem dX7_isTaken_294 : decode cX7_isTaken 294 = .ok (.istore 5, 2) := by decide +kernel
theorem dX7_isTaken_296 : decode cX7_isTaken 296 = .ok (.goto 14, 3) := by decide +kernel
theorem dX7_isTaken_299 : decode cX7_isTaken 299 = .ok (.iinc 4 1, 3) := by decide +kernel
theorem dX7_isTaken_302 : decode cX7_isTaken 302 = .ok (.aload_n 0, 1) := by decide +kernel
theorem dX7_isTaken_303 : decode cX7_isTaken 303 = .ok (.getfield 76, 3) := by decide +kernel
theorem dX7_isTaken_306 : decode cX7_isTaken 306 = .ok (.iload 4, 2) := by decide +kernel
theorem dX7_isTaken_308 : decode cX7_isTaken 308 = .ok (.iconst 0, 1) := by decide +kernel
theorem dX7_isTaken_309 : decode cX7_isTaken 309 = .ok (.iastore, 1) := by decide +kernel
theorem dX7_isTaken_310 : decode cX7_isTaken 310 = .ok (.goto (-294), 3) := by decide +kernel
theorem dX7_isTaken_313 : decode cX7_isTaken 313 = .ok (.iload 6, 2) := by decide +kernel
theorem dX7_isTaken_315 : decode cX7_isTaken 315 = .ok (.ireturn, 1) := by decide +kernel
set_option maxRecDepth 20000 in
theorem ggX7_fight_X7_isCrossing : GoodIn wsX7_fight wsX7_isCrossing := goodIn_r _ [11, 12, 13, 14, 10, 15, 16, 17, 18, 19, 20, 82, 83, 84, 85, 86, 87, 88, 89, 90, 91, 92, 93, 94, 95, 96, 97, 98, 99, 100, 101, 102, 103, 104, 105, 106, 107, 108, 109, 110] (by decide +kernel) (by decide +kernel)
set_option maxRecDepth 20000 in
theorem gX7_fight_X7_isCrossing : GoodIn wsX7_fight (wsV RX7 144 RX7 yX7_isCrossing wsX7_isCrossing) := goodIn_app (goodIn_of _ (by decide +kernel)) ggX7_fight_X7_isCrossing
set_option maxRecDepth 20000 in
theorem ggX7_fight_X7_in : GoodIn wsX7_fight wsX7_in := goodIn_r _ [20] (by decide +kernel) (by decide +kernel)
set_option maxRecDepth 20000 in
theorem gX7_fight_X7_in : GoodIn wsX7_fight (va_wsS RX7 93 yX7_in wsX7_in) := goodIn_app (goodIn_of _ (by decide +kernel)) ggX7_fight_X7_in
set_option maxRecDepth 20000 in
theorem ggX7_fight_X7_atOf : GoodIn wsX7_fight wsX7_atOf := goodIn_r _ [24, 25, 4, 26, 82, 83, 84, 85, 86, 87, 88, 89, 90, 91, 92, 93, 94, 95, 96, 97, 98, 99, 100, 101, 102, 103, 104, 105, 106, 107, 108, 109, 110] (by decide +kernel) (by decide +kernel)
set_option maxRecDepth 20000 in
theorem gX7_fight_X7_atOf : GoodIn wsX7_fight (wsV RX7 159 RX7 yX7_atOf wsX7_atOf) := goodIn_app (goodIn_of _ (by decide +kernel)) ggX7_fight_X7_atOf
set_option maxRecDepth 20000 in
theorem ggX7_fight_X7_isTaken : GoodIn wsX7_fight wsX7_isTaken := goodIn_r _ [30, 5, 2, 4, 3, 25, 31, 26, 32, 12, 13, 14, 10, 15, 16, 17, 33, 34, 35, 36, 37, 38, 39, 40, 41, 42, 43, 44, 45, 46, 47, 48, 49, 50, 51, 52, 53, 54, 55, 56, 57, 58, 59, 60, 61, 62, 63, 64, 65, 66, 67, 68, 69, 70, 71, 72, 73, 74, 75, 76, 77, 1, 78, 79, 80, 81, 82, 83, 84, 85, 86, 87, 88, 89, 90, 91, 92, 93, 94, 95, 96, 97, 98, 99, 100, 101, 102, 103, 104, 105, 106, 107, 108, 109, 110] (by decide +kernel) (by decide +kernel)
set_option maxRecDepth 20000 in
theorem gX7_fight_X7_isTaken : GoodIn wsX7_fight (wsV RX7 222 RX7 yX7_isTaken wsX7_isTaken) := goodIn_app (goodIn_of _ (by decide +kernel)) ggX7_fight_X7_isTaken
theorem dX7_fight_0 : decode cX7_fight 0 = .ok (.aload_n 0, 1) := by decide +kernel
theorem dX7_fight_1 : decode cX7_fight 1 = .ok (.iload_n 1, 1) := by decide +kernel
theorem dX7_fight_2 : decode cX7_fight 2 = .ok (.invokevirtual 144, 3) := by decide +kernel
theorem dX7_fight_5 : decode cX7_fight 5 = .ok (.ifCond .eq 13, 3) := by decide +kernel
theorem dX7_fight_8 : decode cX7_fight 8 = .ok (.iload_n 2, 1) := by decide +kernel
theorem dX7_fight_9 : decode cX7_fight 9 = .ok (.iconst 1, 1) := by decide +kernel
theorem dX7_fight_10 : decode cX7_fight 10 = .ok (.bipush 6, 2) := by decide +kernel
theorem dX7_fight_12 : decode cX7_fight 12 = .ok (.invokestatic 93, 3) := by decide +kernel
theorem dX7_fight_15 : decode cX7_fight 15 = .ok (.ifCond .ne 6, 3) := by decide +kernel
theorem dX7_fight_18 : decode cX7_fight 18 = .ok (.bipush (-2), 2) := by decide +kernel
theorem dX7_fight_20 : decode cX7_fight 20 = .ok (.ireturn, 1) := by decide +kernel
theorem dX7_fight_21 : decode cX7_fight 21 = .ok (.aload_n 0, 1) := by decide +kernel
theorem dX7_fight_22 : decode cX7_fight 22 = .ok (.iload_n 1, 1) := by decide +kernel
theorem dX7_fight_23 : decode cX7_fight 23 = .ok (.invokevirtual 159, 3) := by decide +kernel
theorem dX7_fight_26 : decode cX7_fight 26 = .ok (.istore_n 3, 1) := by decide +kernel
theorem dX7_fight_27 : decode cX7_fight 27 = .ok (.iload_n 3, 1) := by decide +kernel
theorem dX7_fight_28 : decode cX7_fight 28 = .ok (.ifCond .ne 6, 3) := by decide +kernel
theorem dX7_fight_31 : decode cX7_fight 31 = .ok (.bipush (-3), 2) := by decide +kernel
theorem dX7_fight_33 : decode cX7_fight 33 = .ok (.ireturn, 1) := by decide +kernel
theorem dX7_fight_34 : decode cX7_fight 34 = .ok (.aload_n 0, 1) := by decide +kernel
theorem dX7_fight_35 : decode cX7_fight 35 = .ok (.iconst 0, 1) := by decide +kernel
theorem dX7_fight_36 : decode cX7_fight 36 = .ok (.putfield 183, 3) := by decide +kernel
theorem dX7_fight_39 : decode cX7_fight 39 = .ok (.aload_n 0, 1) := by decide +kernel
theorem dX7_fight_40 : decode cX7_fight 40 = .ok (.iconst 0, 1) := by decide +kernel
theorem dX7_fight_41 : decode cX7_fight 41 = .ok (.putfield 186, 3) := by decide +kernel
theorem dX7_fight_44 : decode cX7_fight 44 = .ok (.aload_n 0, 1) := by decide +kernel
theorem dX7_fight_45 : decode cX7_fight 45 = .ok (.iload_n 3, 1) := by decide +kernel
theorem dX7_fight_46 : decode cX7_fight 46 = .ok (.iload_n 1, 1) := by decide +kernel
theorem dX7_fight_47 : decode cX7_fight 47 = .ok (.iload_n 2, 1) := by decide +kernel
theorem dX7_fight_48 : decode cX7_fight 48 = .ok (.invokevirtual 222, 3) := by decide +kernel
theorem dX7_fight_51 : decode cX7_fight 51 = .ok (.istore 4, 2) := by decide +kernel
theorem dX7_fight_53 : decode cX7_fight 53 = .ok (.aload_n 0, 1) := by decide +kernel
theorem dX7_fight_54 : decode cX7_fight 54 = .ok (.getfield 186, 3) := by decide +kernel
theorem dX7_fight_57 : decode cX7_fight 57 = .ok (.ifCond .eq 6, 3) := by decide +kernel
theorem dX7_fight_60 : decode cX7_fight 60 = .ok (.bipush (-5), 2) := by decide +kernel
theorem dX7_fight_62 : decode cX7_fight 62 = .ok (.ireturn, 1) := by decide +kernel
theorem dX7_fight_63 : decode cX7_fight 63 = .ok (.aload_n 0, 1) := by decide +kernel
theorem dX7_fight_64 : decode cX7_fight 64 = .ok (.iload 4, 2) := by decide +kernel
theorem dX7_fight_66 : decode cX7_fight 66 = .ok (.ifCond .eq 27, 3) := by decide +kernel
theorem dX7_fight_69 : decode cX7_fight 69 = .ok (.aload_n 0, 1) := by decide +kernel
theorem dX7_fight_70 : decode cX7_fight 70 = .ok (.getfield 30, 3) := by decide +kernel
theorem dX7_fight_73 : decode cX7_fight 73 = .ok (.aload_n 0, 1) := by decide +kernel
theorem dX7_fight_74 : decode cX7_fight 74 = .ok (.getfield 86, 3) := by decide +kernel
theorem dX7_fight_77 : decode cX7_fight 77 = .ok (.iaload, 1) := by decide +kernel
theorem dX7_fight_78 : decode cX7_fight 78 = .ok (.iload_n 3, 1) := by decide +kernel
theorem dX7_fight_79 : decode cX7_fight 79 = .ok (.if_icmp .eq 14, 3) := by decide +kernel
theorem dX7_fight_82 : decode cX7_fight 82 = .ok (.aload_n 0, 1) := by decide +kernel
theorem dX7_fight_83 : decode cX7_fight 83 = .ok (.getfield 76, 3) := by decide +kernel
theorem dX7_fight_86 : decode cX7_fight 86 = .ok (.iconst 0, 1) := by decide +kernel
theorem dX7_fight_87 : decode cX7_fight 87 = .ok (.iaload, 1) := by decide +kernel
theorem dX7_fight_88 : decode cX7_fight 88 = .ok (.iconst 1, 1) := by decide +kernel
theorem dX7_fight_89 : decode cX7_fight 89 = .ok (.isub, 1) := by decide +kernel
theorem dX7_fight_90 : decode cX7_fight 90 = .ok (.goto 7, 3) := by decide +kernel
theorem dX7_fight_93 : decode cX7_fight 93 = .ok (.aload_n 0, 1) := by decide +kernel
theorem dX7_fight_94 : decode cX7_fight 94 = .ok (.getfield 73, 3) := by decide +kernel
theorem dX7_fight_97 : decode cX7_fight 97 = .ok (.putfield 73, 3) := by decide +kernel
theorem dX7_fight_100 : decode cX7_fight 100 = .ok (.iload 4, 2) := by decide +kernel
theorem dX7_fight_102 : decode cX7_fight 102 = .ok (.ifCond .eq 7, 3) := by decide +kernel
theorem dX7_fight_105 : decode cX7_fight 105 = .ok (.iconst 1, 1) := by decide +kernel
theorem dX7_fight_106 : decode cX7_fight 106 = .ok (.goto 4, 3) := by decide +kernel
theorem dX7_fight_109 : decode cX7_fight 109 = .ok (.iconst 0, 1) := by decide +kernel
theorem dX7_fight_110 : decode cX7_fight 110 = .ok (.ireturn, 1) := by decide +kernel
theorem dX7_tries_0 : decode cX7_tries 0 = .ok (.aload_n 0, 1) := by decide +kernel
theorem dX7_tries_1 : decode cX7_tries 1 = .ok (.getfield 183, 3) := by decide +kernel
theorem dX7_tries_4 : decode cX7_tries 4 = .ok (.ireturn, 1) := by decide +kernel
theorem dX7_first_0 : decode cX7_first 0 = .ok (.aload_n 0, 1) := by decide +kernel
theorem dX7_first_1 : decode cX7_first 1 = .ok (.getfield 73, 3) := by decide +kernel
theorem dX7_first_4 : decode cX7_first 4 = .ok (.ireturn, 1) := by decide +kernel
set_option maxRecDepth 20000 in
theorem ggX7_pointsOf_X7_free : GoodIn wsX7_pointsOf wsX7_free := goodIn_r _ [11, 4, 12, 13, 14, 10, 15, 16, 17, 18, 19, 20, 21, 41, 42, 43, 44, 45, 46, 47, 48, 49, 50, 51, 52, 53, 54, 55, 56, 57, 58, 59, 60, 61, 62, 63, 64, 65, 66, 67, 68, 69] (by decide +kernel) (by decide +kernel)
set_option maxRecDepth 20000 in
theorem gX7_pointsOf_X7_free : GoodIn wsX7_pointsOf (wsV RX7 129 RX7 yX7_free wsX7_free) := goodIn_app (goodIn_of _ (by decide +kernel)) ggX7_pointsOf_X7_free
set_option maxRecDepth 20000 in
theorem ggX7_pointsOf_X7_spread : GoodIn wsX7_pointsOf wsX7_spread := goodIn_r _ [25, 26, 27, 28, 10, 29, 30, 16, 17, 18, 19, 20, 21, 41, 42, 43, 44, 45, 46, 47, 48, 49, 50, 51, 52, 53, 54, 55, 56, 57, 58, 59, 60, 61, 62, 63, 64, 65, 66, 67, 68, 69] (by decide +kernel) (by decide +kernel)
set_option maxRecDepth 20000 in
theorem gX7_pointsOf_X7_spread : GoodIn wsX7_pointsOf (wsV RX7 111 RX7 yX7_spread wsX7_spread) := goodIn_app (goodIn_of _ (by decide +kernel)) ggX7_pointsOf_X7_spread
set_option maxRecDepth 20000 in
theorem ggX7_pointsOf_X7_around : GoodIn wsX7_pointsOf wsX7_around := goodIn_r _ [29, 30, 16, 17, 18, 10, 19, 20, 21, 41, 42, 43, 44, 45, 46, 47, 48, 49, 50, 51, 52, 53, 54, 55, 56, 57, 58, 59, 60, 61, 62, 63, 64, 65, 66, 67, 68, 69] (by decide +kernel) (by decide +kernel)
set_option maxRecDepth 20000 in
theorem gX7_pointsOf_X7_around : GoodIn wsX7_pointsOf (wsV RX7 97 RX7 yX7_around wsX7_around) := goodIn_app (goodIn_of _ (by decide +kernel)) ggX7_pointsOf_X7_around
set_option maxRecDepth 20000 in
theorem ggX7_pointsOf_X7_stones : GoodIn wsX7_pointsOf wsX7_stones := goodIn_r _ [34, 1, 2, 3, 41, 42, 43, 44, 45, 46, 47, 48, 49, 50, 51, 52, 53, 54, 55, 56, 57, 58, 59, 60, 61, 62, 63, 64, 65, 66, 67, 68, 69] (by decide +kernel) (by decide +kernel)
set_option maxRecDepth 20000 in
theorem gX7_pointsOf_X7_stones : GoodIn wsX7_pointsOf (wsV RX7 165 RX7 yX7_stones wsX7_stones) := goodIn_app (goodIn_of _ (by decide +kernel)) ggX7_pointsOf_X7_stones
set_option maxRecDepth 20000 in
theorem ggX7_pointsOf_X7_other : GoodIn wsX7_pointsOf wsX7_other := goodIn_r _ [37] (by decide +kernel) (by decide +kernel)
set_option maxRecDepth 20000 in
theorem gX7_pointsOf_X7_other : GoodIn wsX7_pointsOf (va_wsS RX7 132 yX7_other wsX7_other) := goodIn_app (goodIn_of _ (by decide +kernel)) ggX7_pointsOf_X7_other
set_option maxRecDepth 20000 in
theorem ggX7_pointsOf_X7_many : GoodIn wsX7_pointsOf wsX7_many := goodIn_r _ [40] (by decide +kernel) (by decide +kernel)
set_option maxRecDepth 20000 in
theorem gX7_pointsOf_X7_many : GoodIn wsX7_pointsOf (va_wsS RX7 115 yX7_many wsX7_many) := goodIn_app (goodIn_of _ (by decide +kernel)) ggX7_pointsOf_X7_many
theorem dX7_pointsOf_0 : decode cX7_pointsOf 0 = .ok (.aload_n 0, 1) := by decide +kernel
theorem dX7_pointsOf_1 : decode cX7_pointsOf 1 = .ok (.aload_n 0, 1) := by decide +kernel
theorem dX7_pointsOf_2 : decode cX7_pointsOf 2 = .ok (.getfield 24, 3) := by decide +kernel
theorem dX7_pointsOf_5 : decode cX7_pointsOf 5 = .ok (.aload_n 0, 1) := by decide +kernel
theorem dX7_pointsOf_6 : decode cX7_pointsOf 6 = .ok (.getfield 86, 3) := by decide +kernel
theorem dX7_pointsOf_9 : decode cX7_pointsOf 9 = .ok (.laload, 1) := by decide +kernel
theorem dX7_pointsOf_10 : decode cX7_pointsOf 10 = .ok (.aload_n 0, 1) := by decide +kernel
theorem dX7_pointsOf_11 : decode cX7_pointsOf 11 = .ok (.getfield 27, 3) := by decide +kernel
theorem dX7_pointsOf_14 : decode cX7_pointsOf 14 = .ok (.aload_n 0, 1) := by decide +kernel
theorem dX7_pointsOf_15 : decode cX7_pointsOf 15 = .ok (.getfield 86, 3) := by decide +kernel
theorem dX7_pointsOf_18 : decode cX7_pointsOf 18 = .ok (.laload, 1) := by decide +kernel
theorem dX7_pointsOf_19 : decode cX7_pointsOf 19 = .ok (.invokevirtual 129, 3) := by decide +kernel
theorem dX7_pointsOf_22 : decode cX7_pointsOf 22 = .ok (.lstore_n 3, 1) := by decide +kernel
theorem dX7_pointsOf_23 : decode cX7_pointsOf 23 = .ok (.lload_n 3, 1) := by decide +kernel
theorem dX7_pointsOf_24 : decode cX7_pointsOf 24 = .ok (.lstore 5, 2) := by decide +kernel
theorem dX7_pointsOf_26 : decode cX7_pointsOf 26 = .ok (.iconst 0, 1) := by decide +kernel
theorem dX7_pointsOf_27 : decode cX7_pointsOf 27 = .ok (.istore 7, 2) := by decide +kernel
theorem dX7_pointsOf_29 : decode cX7_pointsOf 29 = .ok (.lload 5, 2) := by decide +kernel
theorem dX7_pointsOf_31 : decode cX7_pointsOf 31 = .ok (.lconst 0, 1) := by decide +kernel
theorem dX7_pointsOf_32 : decode cX7_pointsOf 32 = .ok (.lcmp, 1) := by decide +kernel
theorem dX7_pointsOf_33 : decode cX7_pointsOf 33 = .ok (.ifCond .eq 81, 3) := by decide +kernel
theorem dX7_pointsOf_36 : decode cX7_pointsOf 36 = .ok (.aload_n 0, 1) := by decide +kernel
theorem dX7_pointsOf_37 : decode cX7_pointsOf 37 = .ok (.lload 5, 2) := by decide +kernel
theorem dX7_pointsOf_39 : decode cX7_pointsOf 39 = .ok (.lload 5, 2) := by decide +kernel
theorem dX7_pointsOf_41 : decode cX7_pointsOf 41 = .ok (.lneg, 1) := by decide +kernel
theorem dX7_pointsOf_42 : decode cX7_pointsOf 42 = .ok (.land, 1) := by decide +kernel
theorem dX7_pointsOf_43 : decode cX7_pointsOf 43 = .ok (.lload_n 3, 1) := by decide +kernel
theorem dX7_pointsOf_44 : decode cX7_pointsOf 44 = .ok (.invokevirtual 111, 3) := by decide +kernel
theorem dX7_pointsOf_47 : decode cX7_pointsOf 47 = .ok (.lstore 8, 2) := by decide +kernel
theorem dX7_pointsOf_49 : decode cX7_pointsOf 49 = .ok (.lload 5, 2) := by decide +kernel
theorem dX7_pointsOf_51 : decode cX7_pointsOf 51 = .ok (.lload 8, 2) := by decide +kernel
theorem dX7_pointsOf_53 : decode cX7_pointsOf 53 = .ok (.ldc2_w 105, 3) := by decide +kernel
theorem dX7_pointsOf_56 : decode cX7_pointsOf 56 = .ok (.lxor, 1) := by decide +kernel
theorem dX7_pointsOf_57 : decode cX7_pointsOf 57 = .ok (.land, 1) := by decide +kernel
theorem dX7_pointsOf_58 : decode cX7_pointsOf 58 = .ok (.lstore 5, 2) := by decide +kernel
theorem dX7_pointsOf_60 : decode cX7_pointsOf 60 = .ok (.aload_n 0, 1) := by decide +kernel
theorem dX7_pointsOf_61 : decode cX7_pointsOf 61 = .ok (.lload 8, 2) := by decide +kernel
theorem dX7_pointsOf_63 : decode cX7_pointsOf 63 = .ok (.invokevirtual 97, 3) := by decide +kernel
theorem dX7_pointsOf_66 : decode cX7_pointsOf 66 = .ok (.lstore 10, 2) := by decide +kernel
theorem dX7_pointsOf_68 : decode cX7_pointsOf 68 = .ok (.iload 7, 2) := by decide +kernel
theorem dX7_pointsOf_70 : decode cX7_pointsOf 70 = .ok (.lload 10, 2) := by decide +kernel
theorem dX7_pointsOf_72 : decode cX7_pointsOf 72 = .ok (.aload_n 0, 1) := by decide +kernel
theorem dX7_pointsOf_73 : decode cX7_pointsOf 73 = .ok (.iload_n 1, 1) := by decide +kernel
theorem dX7_pointsOf_74 : decode cX7_pointsOf 74 = .ok (.invokevirtual 165, 3) := by decide +kernel
theorem dX7_pointsOf_77 : decode cX7_pointsOf 77 = .ok (.land, 1) := by decide +kernel
theorem dX7_pointsOf_78 : decode cX7_pointsOf 78 = .ok (.lconst 0, 1) := by decide +kernel
theorem dX7_pointsOf_79 : decode cX7_pointsOf 79 = .ok (.lcmp, 1) := by decide +kernel
theorem dX7_pointsOf_80 : decode cX7_pointsOf 80 = .ok (.ifCond .eq 27, 3) := by decide +kernel
theorem dX7_pointsOf_83 : decode cX7_pointsOf 83 = .ok (.lload 10, 2) := by decide +kernel
theorem dX7_pointsOf_85 : decode cX7_pointsOf 85 = .ok (.aload_n 0, 1) := by decide +kernel
theorem dX7_pointsOf_86 : decode cX7_pointsOf 86 = .ok (.iload_n 1, 1) := by decide +kernel
theorem dX7_pointsOf_87 : decode cX7_pointsOf 87 = .ok (.invokestatic 132, 3) := by decide +kernel
theorem dX7_pointsOf_90 : decode cX7_pointsOf 90 = .ok (.invokevirtual 165, 3) := by decide +kernel
theorem dX7_pointsOf_93 : decode cX7_pointsOf 93 = .ok (.land, 1) := by decide +kernel
theorem dX7_pointsOf_94 : decode cX7_pointsOf 94 = .ok (.lconst 0, 1) := by decide +kernel
theorem dX7_pointsOf_95 : decode cX7_pointsOf 95 = .ok (.lcmp, 1) := by decide +kernel
theorem dX7_pointsOf_96 : decode cX7_pointsOf 96 = .ok (.ifCond .ne 11, 3) := by decide +kernel
theorem dX7_pointsOf_99 : decode cX7_pointsOf 99 = .ok (.lload 8, 2) := by decide +kernel
theorem dX7_pointsOf_101 : decode cX7_pointsOf 101 = .ok (.invokestatic 115, 3) := by decide +kernel
theorem dX7_pointsOf_104 : decode cX7_pointsOf 104 = .ok (.goto 4, 3) := by decide +kernel
theorem dX7_pointsOf_107 : decode cX7_pointsOf 107 = .ok (.iconst 0, 1) := by decide +kernel
theorem dX7_pointsOf_108 : decode cX7_pointsOf 108 = .ok (.iadd, 1) := by decide +kernel
theorem dX7_pointsOf_109 : decode cX7_pointsOf 109 = .ok (.istore 7, 2) := by decide +kernel
theorem dX7_pointsOf_111 : decode cX7_pointsOf 111 = .ok (.goto (-82), 3) := by decide +kernel
theorem dX7_pointsOf_114 : decode cX7_pointsOf 114 = .ok (.iload 7, 2) := by decide +kernel
theorem dX7_pointsOf_116 : decode cX7_pointsOf 116 = .ok (.iload_n 2, 1) := by decide +kernel
theorem dX7_pointsOf_117 : decode cX7_pointsOf 117 = .ok (.iconst 1, 1) := by decide +kernel
theorem dX7_pointsOf_118 : decode cX7_pointsOf 118 = .ok (.if_icmp .ne 14, 3) := by decide +kernel
theorem dX7_pointsOf_121 : decode cX7_pointsOf 121 = .ok (.aload_n 0, 1) := by decide +kernel
theorem dX7_pointsOf_122 : decode cX7_pointsOf 122 = .ok (.iload_n 1, 1) := by decide +kernel
theorem dX7_pointsOf_123 : decode cX7_pointsOf 123 = .ok (.invokevirtual 165, 3) := by decide +kernel
theorem dX7_pointsOf_126 : decode cX7_pointsOf 126 = .ok (.invokestatic 115, 3) := by decide +kernel
theorem dX7_pointsOf_129 : decode cX7_pointsOf 129 = .ok (.goto 29, 3) := by decide +kernel
theorem dX7_pointsOf_132 : decode cX7_pointsOf 132 = .ok (.iload_n 1, 1) := by decide +kernel
theorem dX7_pointsOf_133 : decode cX7_pointsOf 133 = .ok (.iconst 1, 1) := by decide +kernel
theorem dX7_pointsOf_134 : decode cX7_pointsOf 134 = .ok (.if_icmp .ne 15, 3) := by decide +kernel
theorem dX7_pointsOf_137 : decode cX7_pointsOf 137 = .ok (.aload_n 0, 1) := by decide +kernel
theorem dX7_pointsOf_138 : decode cX7_pointsOf 138 = .ok (.getfield 36, 3) := by decide +kernel
theorem dX7_pointsOf_141 : decode cX7_pointsOf 141 = .ok (.aload_n 0, 1) := by decide +kernel
theorem dX7_pointsOf_142 : decode cX7_pointsOf 142 = .ok (.getfield 86, 3) := by decide +kernel
theorem dX7_pointsOf_145 : decode cX7_pointsOf 145 = .ok (.iaload, 1) := by decide +kernel
theorem dX7_pointsOf_146 : decode cX7_pointsOf 146 = .ok (.goto 12, 3) := by decide +kernel
theorem dX7_pointsOf_149 : decode cX7_pointsOf 149 = .ok (.aload_n 0, 1) := by decide +kernel
theorem dX7_pointsOf_150 : decode cX7_pointsOf 150 = .ok (.getfield 33, 3) := by decide +kernel
theorem dX7_pointsOf_153 : decode cX7_pointsOf 153 = .ok (.aload_n 0, 1) := by decide +kernel
theorem dX7_pointsOf_154 : decode cX7_pointsOf 154 = .ok (.getfield 86, 3) := by decide +kernel
theorem dX7_pointsOf_157 : decode cX7_pointsOf 157 = .ok (.iaload, 1) := by decide +kernel
theorem dX7_pointsOf_158 : decode cX7_pointsOf 158 = .ok (.iadd, 1) := by decide +kernel
theorem dX7_pointsOf_159 : decode cX7_pointsOf 159 = .ok (.ireturn, 1) := by decide +kernel
set_option maxRecDepth 20000 in
theorem ggX7_points_X7_in : GoodIn wsX7_points wsX7_in := goodIn_r _ [4] (by decide +kernel) (by decide +kernel)
set_option maxRecDepth 20000 in
theorem gX7_points_X7_in : GoodIn wsX7_points (va_wsS RX7 93 yX7_in wsX7_in) := goodIn_app (goodIn_of _ (by decide +kernel)) ggX7_points_X7_in
set_option maxRecDepth 20000 in
theorem ggX7_points_X7_pointsOf : GoodIn wsX7_points wsX7_pointsOf := goodIn_r _ [8, 9, 10, 11, 12, 13, 14, 15, 16, 17, 3, 18, 19, 20, 21, 22, 23, 24, 25, 26, 27, 28, 29, 30, 31, 32, 33, 34, 35, 36, 37, 38, 39, 40, 41, 42, 43, 44, 45, 46, 47, 48, 49, 50, 51, 52, 53, 54, 55, 56, 57, 58, 59, 60, 61, 62, 63, 64, 65, 66, 67, 68, 69, 70, 71, 72, 73, 74, 75, 76] (by decide +kernel) (by decide +kernel)
set_option maxRecDepth 20000 in
theorem gX7_points_X7_pointsOf : GoodIn wsX7_points (wsV RX7 225 RX7 yX7_pointsOf wsX7_pointsOf) := goodIn_app (goodIn_of _ (by decide +kernel)) ggX7_points_X7_pointsOf
theorem dX7_points_0 : decode cX7_points 0 = .ok (.iload_n 1, 1) := by decide +kernel
theorem dX7_points_1 : decode cX7_points 1 = .ok (.iconst 1, 1) := by decide +kernel
theorem dX7_points_2 : decode cX7_points 2 = .ok (.iconst 2, 1) := by decide +kernel
theorem dX7_points_3 : decode cX7_points 3 = .ok (.invokestatic 93, 3) := by decide +kernel
theorem dX7_points_6 : decode cX7_points 6 = .ok (.ifCond .eq 21, 3) := by decide +kernel
theorem dX7_points_9 : decode cX7_points 9 = .ok (.iload_n 2, 1) := by decide +kernel
theorem dX7_points_10 : decode cX7_points 10 = .ok (.iconst 0, 1) := by decide +kernel
theorem dX7_points_11 : decode cX7_points 11 = .ok (.iconst 1, 1) := by decide +kernel
theorem dX7_points_12 : decode cX7_points 12 = .ok (.invokestatic 93, 3) := by decide +kernel
theorem dX7_points_15 : decode cX7_points 15 = .ok (.ifCond .eq 12, 3) := by decide +kernel
theorem dX7_points_18 : decode cX7_points 18 = .ok (.aload_n 0, 1) := by decide +kernel
theorem dX7_points_19 : decode cX7_points 19 = .ok (.iload_n 1, 1) := by decide +kernel
theorem dX7_points_20 : decode cX7_points 20 = .ok (.iload_n 2, 1) := by decide +kernel
theorem dX7_points_21 : decode cX7_points 21 = .ok (.invokevirtual 225, 3) := by decide +kernel
theorem dX7_points_24 : decode cX7_points 24 = .ok (.goto 5, 3) := by decide +kernel
theorem dX7_points_27 : decode cX7_points 27 = .ok (.bipush (-2), 2) := by decide +kernel
theorem dX7_points_29 : decode cX7_points 29 = .ok (.ireturn, 1) := by decide +kernel
set_option maxRecDepth 20000 in
theorem ggX7_count_X7_many : GoodIn wsX7_count wsX7_many := goodIn_r _ [13] (by decide +kernel) (by decide +kernel)
set_option maxRecDepth 20000 in
theorem gX7_count_X7_many : GoodIn wsX7_count (va_wsS RX7 115 yX7_many wsX7_many) := goodIn_app (goodIn_of _ (by decide +kernel)) ggX7_count_X7_many
set_option maxRecDepth 20000 in
theorem ggX7_count_X7_passes : GoodIn wsX7_count wsX7_passes := goodIn_r _ [17, 1, 18, 19, 20, 21, 12, 22, 7, 8, 23, 24, 25, 26, 27, 28, 29, 30, 31, 32, 33, 34, 35, 36, 37, 38, 39, 40, 41, 42, 43, 44, 45, 46, 47, 48, 49, 50, 51] (by decide +kernel) (by decide +kernel)
set_option maxRecDepth 20000 in
theorem gX7_count_X7_passes : GoodIn wsX7_count (wsV RX7 156 RX7 yX7_passes wsX7_passes) := goodIn_app (goodIn_of _ (by decide +kernel)) ggX7_count_X7_passes
theorem dX7_count_0 : decode cX7_count 0 = .ok (.iload_n 1, 1) := by decide +kernel
theorem dX7_count_1 : decode cX7_count 1 = .ok (.tableswitch 136 0 9 #[55, 60, 70, 83, 96, 106, 116, 121, 126, 131], 55) := by decide +kernel
theorem dX7_count_56 : decode cX7_count 56 = .ok (.aload_n 0, 1) := by decide +kernel
theorem dX7_count_57 : decode cX7_count 57 = .ok (.getfield 86, 3) := by decide +kernel
theorem dX7_count_60 : decode cX7_count 60 = .ok (.ireturn, 1) := by decide +kernel
theorem dX7_count_61 : decode cX7_count 61 = .ok (.aload_n 0, 1) := by decide +kernel
theorem dX7_count_62 : decode cX7_count 62 = .ok (.getfield 30, 3) := by decide +kernel
theorem dX7_count_65 : decode cX7_count 65 = .ok (.aload_n 0, 1) := by decide +kernel
theorem dX7_count_66 : decode cX7_count 66 = .ok (.getfield 86, 3) := by decide +kernel
theorem dX7_count_69 : decode cX7_count 69 = .ok (.iaload, 1) := by decide +kernel
theorem dX7_count_70 : decode cX7_count 70 = .ok (.ireturn, 1) := by decide +kernel
theorem dX7_count_71 : decode cX7_count 71 = .ok (.aload_n 0, 1) := by decide +kernel
theorem dX7_count_72 : decode cX7_count 72 = .ok (.getfield 24, 3) := by decide +kernel
theorem dX7_count_75 : decode cX7_count 75 = .ok (.aload_n 0, 1) := by decide +kernel
theorem dX7_count_76 : decode cX7_count 76 = .ok (.getfield 86, 3) := by decide +kernel
theorem dX7_count_79 : decode cX7_count 79 = .ok (.laload, 1) := by decide +kernel
theorem dX7_count_80 : decode cX7_count 80 = .ok (.invokestatic 115, 3) := by decide +kernel
theorem dX7_count_83 : decode cX7_count 83 = .ok (.ireturn, 1) := by decide +kernel
theorem dX7_count_84 : decode cX7_count 84 = .ok (.aload_n 0, 1) := by decide +kernel
theorem dX7_count_85 : decode cX7_count 85 = .ok (.getfield 27, 3) := by decide +kernel
theorem dX7_count_88 : decode cX7_count 88 = .ok (.aload_n 0, 1) := by decide +kernel
theorem dX7_count_89 : decode cX7_count 89 = .ok (.getfield 86, 3) := by decide +kernel
theorem dX7_count_92 : decode cX7_count 92 = .ok (.laload, 1) := by decide +kernel
theorem dX7_count_93 : decode cX7_count 93 = .ok (.invokestatic 115, 3) := by decide +kernel
theorem dX7_count_96 : decode cX7_count 96 = .ok (.ireturn, 1) := by decide +kernel
theorem dX7_count_97 : decode cX7_count 97 = .ok (.aload_n 0, 1) := by decide +kernel
theorem dX7_count_98 : decode cX7_count 98 = .ok (.getfield 33, 3) := by decide +kernel
theorem dX7_count_101 : decode cX7_count 101 = .ok (.aload_n 0, 1) := by decide +kernel
theorem dX7_count_102 : decode cX7_count 102 = .ok (.getfield 86, 3) := by decide +kernel
theorem dX7_count_105 : decode cX7_count 105 = .ok (.iaload, 1) := by decide +kernel
theorem dX7_count_106 : decode cX7_count 106 = .ok (.ireturn, 1) := by decide +kernel
theorem dX7_count_107 : decode cX7_count 107 = .ok (.aload_n 0, 1) := by decide +kernel
theorem dX7_count_108 : decode cX7_count 108 = .ok (.getfield 36, 3) := by decide +kernel
theorem dX7_count_111 : decode cX7_count 111 = .ok (.aload_n 0, 1) := by decide +kernel
theorem dX7_count_112 : decode cX7_count 112 = .ok (.getfield 86, 3) := by decide +kernel
theorem dX7_count_115 : decode cX7_count 115 = .ok (.iaload, 1) := by decide +kernel
theorem dX7_count_116 : decode cX7_count 116 = .ok (.ireturn, 1) := by decide +kernel
theorem dX7_count_117 : decode cX7_count 117 = .ok (.aload_n 0, 1) := by decide +kernel
theorem dX7_count_118 : decode cX7_count 118 = .ok (.invokevirtual 156, 3) := by decide +kernel
theorem dX7_count_121 : decode cX7_count 121 = .ok (.ireturn, 1) := by decide +kernel
theorem dX7_count_122 : decode cX7_count 122 = .ok (.aload_n 0, 1) := by decide +kernel
theorem dX7_count_123 : decode cX7_count 123 = .ok (.getfield 7, 3) := by decide +kernel
theorem dX7_count_126 : decode cX7_count 126 = .ok (.ireturn, 1) := by decide +kernel
theorem dX7_count_127 : decode cX7_count 127 = .ok (.aload_n 0, 1) := by decide +kernel
theorem dX7_count_128 : decode cX7_count 128 = .ok (.getfield 13, 3) := by decide +kernel
theorem dX7_count_131 : decode cX7_count 131 = .ok (.ireturn, 1) := by decide +kernel
theorem dX7_count_132 : decode cX7_count 132 = .ok (.aload_n 0, 1) := by decide +kernel
theorem dX7_count_133 : decode cX7_count 133 = .ok (.getfield 83, 3) := by decide +kernel
theorem dX7_count_136 : decode cX7_count 136 = .ok (.ireturn, 1) := by decide +kernel
theorem dX7_count_137 : decode cX7_count 137 = .ok (.bipush (-2), 2) := by decide +kernel
theorem dX7_count_139 : decode cX7_count 139 = .ok (.ireturn, 1) := by decide +kernel
set_option maxRecDepth 20000 in
theorem ggX7_act_X7_in : GoodIn wsX7_act wsX7_in := goodIn_r _ [6] (by decide +kernel) (by decide +kernel)
set_option maxRecDepth 20000 in
theorem gX7_act_X7_in : GoodIn wsX7_act (va_wsS RX7 93 yX7_in wsX7_in) := goodIn_app (goodIn_of _ (by decide +kernel)) ggX7_act_X7_in
theorem dX7_act_0 : decode cX7_act 0 = .ok (.iload_n 1, 1) := by decide +kernel
theorem dX7_act_1 : decode cX7_act 1 = .ok (.iconst 0, 1) := by decide +kernel
theorem dX7_act_2 : decode cX7_act 2 = .ok (.aload_n 0, 1) := by decide +kernel
theorem dX7_act_3 : decode cX7_act 3 = .ok (.getfield 86, 3) := by decide +kernel
theorem dX7_act_6 : decode cX7_act 6 = .ok (.iconst 1, 1) := by decide +kernel
theorem dX7_act_7 : decode cX7_act 7 = .ok (.isub, 1) := by decide +kernel
theorem dX7_act_8 : decode cX7_act 8 = .ok (.invokestatic 93, 3) := by decide +kernel
theorem dX7_act_11 : decode cX7_act 11 = .ok (.ifCond .eq 12, 3) := by decide +kernel
theorem dX7_act_14 : decode cX7_act 14 = .ok (.aload_n 0, 1) := by decide +kernel
theorem dX7_act_15 : decode cX7_act 15 = .ok (.getfield 20, 3) := by decide +kernel
theorem dX7_act_18 : decode cX7_act 18 = .ok (.iload_n 1, 1) := by decide +kernel
theorem dX7_act_19 : decode cX7_act 19 = .ok (.iaload, 1) := by decide +kernel
theorem dX7_act_20 : decode cX7_act 20 = .ok (.goto 4, 3) := by decide +kernel
theorem dX7_act_23 : decode cX7_act 23 = .ok (.iconst (-1), 1) := by decide +kernel
theorem dX7_act_24 : decode cX7_act 24 = .ok (.ireturn, 1) := by decide +kernel
set_option maxRecDepth 20000 in
theorem ggX7_digest_X7_count : GoodIn wsX7_digest wsX7_count := goodIn_r _ [9, 3, 10, 11, 12, 13, 14, 15, 16, 17, 18, 19, 8, 20, 21, 22, 23, 24, 4, 25, 26, 27, 28, 33, 34, 35, 36, 37, 38, 39, 40, 41, 42, 43, 44, 45, 46, 47, 48, 49, 50, 51, 52, 53, 54, 55, 56, 57, 58, 59, 60, 61] (by decide +kernel) (by decide +kernel)
set_option maxRecDepth 20000 in
theorem gX7_digest_X7_count : GoodIn wsX7_digest (wsV RX7 233 RX7 yX7_count wsX7_count) := goodIn_app (goodIn_of _ (by decide +kernel)) ggX7_digest_X7_count
set_option maxRecDepth 20000 in
theorem ggX7_digest_X7_size : GoodIn wsX7_digest wsX7_size := goodIn_r _ [28, 15, 16, 33, 34, 35, 36, 37, 38, 39, 40, 41, 42, 43, 44, 45, 46, 47, 48, 49, 50, 51, 52, 53, 54, 55, 56, 57, 58, 59, 60, 61] (by decide +kernel) (by decide +kernel)
set_option maxRecDepth 20000 in
theorem gX7_digest_X7_size : GoodIn wsX7_digest (wsV RX7 89 RX7 yX7_size wsX7_size) := goodIn_app (goodIn_of _ (by decide +kernel)) ggX7_digest_X7_size
set_option maxRecDepth 20000 in
theorem ggX7_digest_X7_atOf : GoodIn wsX7_digest wsX7_atOf := goodIn_r _ [32, 11, 3, 12, 33, 34, 35, 36, 37, 38, 39, 40, 41, 42, 43, 44, 45, 46, 47, 48, 49, 50, 51, 52, 53, 54, 55, 56, 57, 58, 59, 60, 61] (by decide +kernel) (by decide +kernel)
set_option maxRecDepth 20000 in
theorem gX7_digest_X7_atOf : GoodIn wsX7_digest (wsV RX7 159 RX7 yX7_atOf wsX7_atOf) := goodIn_app (goodIn_of _ (by decide +kernel)) ggX7_digest_X7_atOf
theorem dX7_digest_0 : decode cX7_digest 0 = .ok (.ldc2_w 229, 3) := by decide +kernel
theorem dX7_digest_3 : decode cX7_digest 3 = .ok (.lstore_n 1, 1) := by decide +kernel
theorem dX7_digest_4 : decode cX7_digest 4 = .ok (.iconst 0, 1) := by decide +kernel
theorem dX7_digest_5 : decode cX7_digest 5 = .ok (.istore_n 3, 1) := by decide +kernel
theorem dX7_digest_6 : decode cX7_digest 6 = .ok (.iload_n 3, 1) := by decide +kernel
theorem dX7_digest_7 : decode cX7_digest 7 = .ok (.bipush 10, 2) := by decide +kernel
theorem dX7_digest_9 : decode cX7_digest 9 = .ok (.if_icmp .ge 22, 3) := by decide +kernel
theorem dX7_digest_12 : decode cX7_digest 12 = .ok (.ldc2_w 231, 3) := by decide +kernel
theorem dX7_digest_15 : decode cX7_digest 15 = .ok (.lload_n 1, 1) := by decide +kernel
theorem dX7_digest_16 : decode cX7_digest 16 = .ok (.lmul, 1) := by decide +kernel
theorem dX7_digest_17 : decode cX7_digest 17 = .ok (.aload_n 0, 1) := by decide +kernel
theorem dX7_digest_18 : decode cX7_digest 18 = .ok (.iload_n 3, 1) := by decide +kernel
theorem dX7_digest_19 : decode cX7_digest 19 = .ok (.invokevirtual 233, 3) := by decide +kernel
theorem dX7_digest_22 : decode cX7_digest 22 = .ok (.i2l, 1) := by decide +kernel
theorem dX7_digest_23 : decode cX7_digest 23 = .ok (.ladd, 1) := by decide +kernel
theorem dX7_digest_24 : decode cX7_digest 24 = .ok (.lstore_n 1, 1) := by decide +kernel
theorem dX7_digest_25 : decode cX7_digest 25 = .ok (.iinc 3 1, 3) := by decide +kernel
theorem dX7_digest_28 : decode cX7_digest 28 = .ok (.goto (-22), 3) := by decide +kernel
theorem dX7_digest_31 : decode cX7_digest 31 = .ok (.iconst 0, 1) := by decide +kernel
theorem dX7_digest_32 : decode cX7_digest 32 = .ok (.istore_n 3, 1) := by decide +kernel
theorem dX7_digest_33 : decode cX7_digest 33 = .ok (.iload_n 3, 1) := by decide +kernel
theorem dX7_digest_34 : decode cX7_digest 34 = .ok (.aload_n 0, 1) := by decide +kernel
theorem dX7_digest_35 : decode cX7_digest 35 = .ok (.invokevirtual 89, 3) := by decide +kernel
theorem dX7_digest_38 : decode cX7_digest 38 = .ok (.if_icmp .ge 22, 3) := by decide +kernel
theorem dX7_digest_41 : decode cX7_digest 41 = .ok (.ldc2_w 231, 3) := by decide +kernel
theorem dX7_digest_44 : decode cX7_digest 44 = .ok (.lload_n 1, 1) := by decide +kernel
theorem dX7_digest_45 : decode cX7_digest 45 = .ok (.lmul, 1) := by decide +kernel
theorem dX7_digest_46 : decode cX7_digest 46 = .ok (.aload_n 0, 1) := by decide +kernel
theorem dX7_digest_47 : decode cX7_digest 47 = .ok (.iload_n 3, 1) := by decide +kernel
theorem dX7_digest_48 : decode cX7_digest 48 = .ok (.invokevirtual 159, 3) := by decide +kernel
theorem dX7_digest_51 : decode cX7_digest 51 = .ok (.i2l, 1) := by decide +kernel
theorem dX7_digest_52 : decode cX7_digest 52 = .ok (.ladd, 1) := by decide +kernel
theorem dX7_digest_53 : decode cX7_digest 53 = .ok (.lstore_n 1, 1) := by decide +kernel
theorem dX7_digest_54 : decode cX7_digest 54 = .ok (.iinc 3 1, 3) := by decide +kernel
theorem dX7_digest_57 : decode cX7_digest 57 = .ok (.goto (-24), 3) := by decide +kernel
theorem dX7_digest_60 : decode cX7_digest 60 = .ok (.iconst 0, 1) := by decide +kernel
theorem dX7_digest_61 : decode cX7_digest 61 = .ok (.istore_n 3, 1) := by decide +kernel
theorem dX7_digest_62 : decode cX7_digest 62 = .ok (.iload_n 3, 1) := by decide +kernel
theorem dX7_digest_63 : decode cX7_digest 63 = .ok (.aload_n 0, 1) := by decide +kernel
theorem dX7_digest_64 : decode cX7_digest 64 = .ok (.getfield 86, 3) := by decide +kernel
theorem dX7_digest_67 : decode cX7_digest 67 = .ok (.if_icmp .ge 23, 3) := by decide +kernel
theorem dX7_digest_70 : decode cX7_digest 70 = .ok (.ldc2_w 231, 3) := by decide +kernel
theorem dX7_digest_73 : decode cX7_digest 73 = .ok (.lload_n 1, 1) := by decide +kernel
theorem dX7_digest_74 : decode cX7_digest 74 = .ok (.lmul, 1) := by decide +kernel
theorem dX7_digest_75 : decode cX7_digest 75 = .ok (.aload_n 0, 1) := by decide +kernel
theorem dX7_digest_76 : decode cX7_digest 76 = .ok (.getfield 20, 3) := by decide +kernel
theorem dX7_digest_79 : decode cX7_digest 79 = .ok (.iload_n 3, 1) := by decide +kernel
theorem dX7_digest_80 : decode cX7_digest 80 = .ok (.iaload, 1) := by decide +kernel
theorem dX7_digest_81 : decode cX7_digest 81 = .ok (.i2l, 1) := by decide +kernel
theorem dX7_digest_82 : decode cX7_digest 82 = .ok (.ladd, 1) := by decide +kernel
theorem dX7_digest_83 : decode cX7_digest 83 = .ok (.lstore_n 1, 1) := by decide +kernel
theorem dX7_digest_84 : decode cX7_digest 84 = .ok (.iinc 3 1, 3) := by decide +kernel
theorem dX7_digest_87 : decode cX7_digest 87 = .ok (.goto (-25), 3) := by decide +kernel
theorem dX7_digest_90 : decode cX7_digest 90 = .ok (.lload_n 1, 1) := by decide +kernel
theorem dX7_digest_91 : decode cX7_digest 91 = .ok (.lreturn, 1) := by decide +kernel
theorem dJ13_bitCount_95d88_0 : decode cJ13_bitCount_95d88 0 = .ok (.lload_n 0, 1) := by decide +kernel
theorem dJ13_bitCount_95d88_1 : decode cJ13_bitCount_95d88 1 = .ok (.lload_n 0, 1) := by decide +kernel
theorem dJ13_bitCount_95d88_2 : decode cJ13_bitCount_95d88 2 = .ok (.iconst 1, 1) := by decide +kernel
theorem dJ13_bitCount_95d88_3 : decode cJ13_bitCount_95d88 3 = .ok (.lushr, 1) := by decide +kernel
theorem dJ13_bitCount_95d88_4 : decode cJ13_bitCount_95d88 4 = .ok (.ldc2_w 314, 3) := by decide +kernel
theorem dJ13_bitCount_95d88_7 : decode cJ13_bitCount_95d88 7 = .ok (.land, 1) := by decide +kernel
theorem dJ13_bitCount_95d88_8 : decode cJ13_bitCount_95d88 8 = .ok (.lsub, 1) := by decide +kernel
theorem dJ13_bitCount_95d88_9 : decode cJ13_bitCount_95d88 9 = .ok (.lstore_n 0, 1) := by decide +kernel
theorem dJ13_bitCount_95d88_10 : decode cJ13_bitCount_95d88 10 = .ok (.lload_n 0, 1) := by decide +kernel
theorem dJ13_bitCount_95d88_11 : decode cJ13_bitCount_95d88 11 = .ok (.ldc2_w 316, 3) := by decide +kernel
theorem dJ13_bitCount_95d88_14 : decode cJ13_bitCount_95d88 14 = .ok (.land, 1) := by decide +kernel
theorem dJ13_bitCount_95d88_15 : decode cJ13_bitCount_95d88 15 = .ok (.lload_n 0, 1) := by decide +kernel
theorem dJ13_bitCount_95d88_16 : decode cJ13_bitCount_95d88 16 = .ok (.iconst 2, 1) := by decide +kernel
theorem dJ13_bitCount_95d88_17 : decode cJ13_bitCount_95d88 17 = .ok (.lushr, 1) := by decide +kernel
theorem dJ13_bitCount_95d88_18 : decode cJ13_bitCount_95d88 18 = .ok (.ldc2_w 316, 3) := by decide +kernel
theorem dJ13_bitCount_95d88_21 : decode cJ13_bitCount_95d88 21 = .ok (.land, 1) := by decide +kernel
theorem dJ13_bitCount_95d88_22 : decode cJ13_bitCount_95d88 22 = .ok (.ladd, 1) := by decide +kernel
theorem dJ13_bitCount_95d88_23 : decode cJ13_bitCount_95d88 23 = .ok (.lstore_n 0, 1) := by decide +kernel
theorem dJ13_bitCount_95d88_24 : decode cJ13_bitCount_95d88 24 = .ok (.lload_n 0, 1) := by decide +kernel
theorem dJ13_bitCount_95d88_25 : decode cJ13_bitCount_95d88 25 = .ok (.lload_n 0, 1) := by decide +kernel
theorem dJ13_bitCount_95d88_26 : decode cJ13_bitCount_95d88 26 = .ok (.iconst 4, 1) := by decide +kernel
theorem dJ13_bitCount_95d88_27 : decode cJ13_bitCount_95d88 27 = .ok (.lushr, 1) := by decide +kernel
theorem dJ13_bitCount_95d88_28 : decode cJ13_bitCount_95d88 28 = .ok (.ladd, 1) := by decide +kernel
theorem dJ13_bitCount_95d88_29 : decode cJ13_bitCount_95d88 29 = .ok (.ldc2_w 318, 3) := by decide +kernel
theorem dJ13_bitCount_95d88_32 : decode cJ13_bitCount_95d88 32 = .ok (.land, 1) := by decide +kernel
theorem dJ13_bitCount_95d88_33 : decode cJ13_bitCount_95d88 33 = .ok (.lstore_n 0, 1) := by decide +kernel
theorem dJ13_bitCount_95d88_34 : decode cJ13_bitCount_95d88 34 = .ok (.lload_n 0, 1) := by decide +kernel
theorem dJ13_bitCount_95d88_35 : decode cJ13_bitCount_95d88 35 = .ok (.lload_n 0, 1) := by decide +kernel
theorem dJ13_bitCount_95d88_36 : decode cJ13_bitCount_95d88 36 = .ok (.bipush 8, 2) := by decide +kernel
theorem dJ13_bitCount_95d88_38 : decode cJ13_bitCount_95d88 38 = .ok (.lushr, 1) := by decide +kernel
theorem dJ13_bitCount_95d88_39 : decode cJ13_bitCount_95d88 39 = .ok (.ladd, 1) := by decide +kernel
theorem dJ13_bitCount_95d88_40 : decode cJ13_bitCount_95d88 40 = .ok (.lstore_n 0, 1) := by decide +kernel
theorem dJ13_bitCount_95d88_41 : decode cJ13_bitCount_95d88 41 = .ok (.lload_n 0, 1) := by decide +kernel
theorem dJ13_bitCount_95d88_42 : decode cJ13_bitCount_95d88 42 = .ok (.lload_n 0, 1) := by decide +kernel
theorem dJ13_bitCount_95d88_43 : decode cJ13_bitCount_95d88 43 = .ok (.bipush 16, 2) := by decide +kernel
theorem dJ13_bitCount_95d88_45 : decode cJ13_bitCount_95d88 45 = .ok (.lushr, 1) := by decide +kernel
theorem dJ13_bitCount_95d88_46 : decode cJ13_bitCount_95d88 46 = .ok (.ladd, 1) := by decide +kernel
theorem dJ13_bitCount_95d88_47 : decode cJ13_bitCount_95d88 47 = .ok (.lstore_n 0, 1) := by decide +kernel
theorem dJ13_bitCount_95d88_48 : decode cJ13_bitCount_95d88 48 = .ok (.lload_n 0, 1) := by decide +kernel
theorem dJ13_bitCount_95d88_49 : decode cJ13_bitCount_95d88 49 = .ok (.lload_n 0, 1) := by decide +kernel
theorem dJ13_bitCount_95d88_50 : decode cJ13_bitCount_95d88 50 = .ok (.bipush 32, 2) := by decide +kernel
theorem dJ13_bitCount_95d88_52 : decode cJ13_bitCount_95d88 52 = .ok (.lushr, 1) := by decide +kernel
theorem dJ13_bitCount_95d88_53 : decode cJ13_bitCount_95d88 53 = .ok (.ladd, 1) := by decide +kernel
theorem dJ13_bitCount_95d88_54 : decode cJ13_bitCount_95d88 54 = .ok (.lstore_n 0, 1) := by decide +kernel
theorem dJ13_bitCount_95d88_55 : decode cJ13_bitCount_95d88 55 = .ok (.lload_n 0, 1) := by decide +kernel
theorem dJ13_bitCount_95d88_56 : decode cJ13_bitCount_95d88 56 = .ok (.l2i, 1) := by decide +kernel
theorem dJ13_bitCount_95d88_57 : decode cJ13_bitCount_95d88 57 = .ok (.bipush 127, 2) := by decide +kernel
theorem dJ13_bitCount_95d88_59 : decode cJ13_bitCount_95d88 59 = .ok (.iand, 1) := by decide +kernel
theorem dJ13_bitCount_95d88_60 : decode cJ13_bitCount_95d88 60 = .ok (.ireturn, 1) := by decide +kernel
theorem dJ9_max_7cf53_0 : decode cJ9_max_7cf53 0 = .ok (.iload_n 0, 1) := by decide +kernel
theorem dJ9_max_7cf53_1 : decode cJ9_max_7cf53 1 = .ok (.iload_n 1, 1) := by decide +kernel
theorem dJ9_max_7cf53_2 : decode cJ9_max_7cf53 2 = .ok (.if_icmp .lt 7, 3) := by decide +kernel
theorem dJ9_max_7cf53_5 : decode cJ9_max_7cf53 5 = .ok (.iload_n 0, 1) := by decide +kernel
theorem dJ9_max_7cf53_6 : decode cJ9_max_7cf53 6 = .ok (.goto 4, 3) := by decide +kernel
theorem dJ9_max_7cf53_9 : decode cJ9_max_7cf53 9 = .ok (.iload_n 1, 1) := by decide +kernel
theorem dJ9_max_7cf53_10 : decode cJ9_max_7cf53 10 = .ok (.ireturn, 1) := by decide +kernel
abbrev vwCl : List vw_C := [(RX0, TX0, 5), (RX1, TX1, 6), (RX2, TX2, 6), (RX3, TX3, 1), (RX4, TX4, 9), (RX5, TX5, 1), (RX6, TX6, 7), (RX7, TX7, 29)]
