theorem dX7_stand_39 : decode cX7_stand 39 = .ok (.lload 6, 2) := by decide +kernel
theorem dX7_stand_41 : decode cX7_stand 41 = .ok (.lload 6, 2) := by decide +kernel
theorem dX7_stand_43 : decode cX7_stand 43 = .ok (.lneg, 1) := by decide +kernel
theorem dX7_stand_44 : decode cX7_stand 44 = .ok (.land, 1) := by decide +kernel
theorem dX7_stand_45 : decode cX7_stand 45 = .ok (.aload_n 0, 1) := by decide +kernel
theorem dX7_stand_46 : decode cX7_stand 46 = .ok (.iload_n 1, 1) := by decide +kernel
theorem dX7_stand_47 : decode cX7_stand 47 = .ok (.invokevirtual 165, 3) := by decide +kernel
theorem dX7_stand_50 : decode cX7_stand 50 = .ok (.invokevirtual 111, 3) := by decide +kernel
theorem dX7_stand_53 : decode cX7_stand 53 = .ok (.lstore 8, 2) := by decide +kernel
theorem dX7_stand_55 : decode cX7_stand 55 = .ok (.lload 6, 2) := by decide +kernel
theorem dX7_stand_57 : decode cX7_stand 57 = .ok (.lload 8, 2) := by decide +kernel
theorem dX7_stand_59 : decode cX7_stand 59 = .ok (.ldc2_w 105, 3) := by decide +kernel
theorem dX7_stand_62 : decode cX7_stand 62 = .ok (.lxor, 1) := by decide +kernel
theorem dX7_stand_63 : decode cX7_stand 63 = .ok (.land, 1) := by decide +kernel
theorem dX7_stand_64 : decode cX7_stand 64 = .ok (.lstore 6, 2) := by decide +kernel
theorem dX7_stand_66 : decode cX7_stand 66 = .ok (.lload_n 2, 1) := by decide +kernel
theorem dX7_stand_67 : decode cX7_stand 67 = .ok (.aload_n 0, 1) := by decide +kernel
theorem dX7_stand_68 : decode cX7_stand 68 = .ok (.iload_n 1, 1) := by decide +kernel
theorem dX7_stand_69 : decode cX7_stand 69 = .ok (.lload 8, 2) := by decide +kernel
theorem dX7_stand_71 : decode cX7_stand 71 = .ok (.lload 4, 2) := by decide +kernel
theorem dX7_stand_73 : decode cX7_stand 73 = .ok (.invokevirtual 173, 3) := by decide +kernel
theorem dX7_stand_76 : decode cX7_stand 76 = .ok (.iconst 2, 1) := by decide +kernel
theorem dX7_stand_77 : decode cX7_stand 77 = .ok (.if_icmp .ge 8, 3) := by decide +kernel
theorem dX7_stand_80 : decode cX7_stand 80 = .ok (.lload 8, 2) := by decide +kernel
theorem dX7_stand_82 : decode cX7_stand 82 = .ok (.goto 4, 3) := by decide +kernel
theorem dX7_stand_85 : decode cX7_stand 85 = .ok (.lconst 0, 1) := by decide +kernel
theorem dX7_stand_86 : decode cX7_stand 86 = .ok (.lor, 1) := by decide +kernel
theorem dX7_stand_87 : decode cX7_stand 87 = .ok (.lstore_n 2, 1) := by decide +kernel
theorem dX7_stand_88 : decode cX7_stand 88 = .ok (.goto (-57), 3) := by decide +kernel
theorem dX7_stand_91 : decode cX7_stand 91 = .ok (.goto (-84), 3) := by decide +kernel
theorem dX7_stand_94 : decode cX7_stand 94 = .ok (.aload_n 0, 1) := by decide +kernel
theorem dX7_stand_95 : decode cX7_stand 95 = .ok (.iload_n 1, 1) := by decide +kernel
theorem dX7_stand_96 : decode cX7_stand 96 = .ok (.invokevirtual 165, 3) := by decide +kernel
theorem dX7_stand_99 : decode cX7_stand 99 = .ok (.lload_n 2, 1) := by decide +kernel
theorem dX7_stand_100 : decode cX7_stand 100 = .ok (.ldc2_w 105, 3) := by decide +kernel
theorem dX7_stand_103 : decode cX7_stand 103 = .ok (.lxor, 1) := by decide +kernel
theorem dX7_stand_104 : decode cX7_stand 104 = .ok (.land, 1) := by decide +kernel
theorem dX7_stand_105 : decode cX7_stand 105 = .ok (.lreturn, 1) := by decide +kernel
set_option maxRecDepth 20000 in
theorem ggX7_groupAt_X7_atOf : GoodIn wsX7_groupAt wsX7_atOf := goodIn_r _ [5, 6, 7, 8, 28, 29, 30, 31, 32, 33, 34, 35, 36, 37, 38, 39, 40, 41, 42, 43, 44, 45, 46, 47, 48, 49, 50, 51, 52, 53, 54, 55, 56] (by decide +kernel) (by decide +kernel)
set_option maxRecDepth 20000 in
theorem gX7_groupAt_X7_atOf : GoodIn wsX7_groupAt (wsV RX7 159 RX7 yX7_atOf wsX7_atOf) := goodIn_app (goodIn_of _ (by decide +kernel)) ggX7_groupAt_X7_atOf
set_option maxRecDepth 20000 in
theorem ggX7_groupAt_X7_stones : GoodIn wsX7_groupAt wsX7_stones := goodIn_r _ [12, 6, 7, 8, 28, 29, 30, 31, 32, 33, 34, 35, 36, 37, 38, 39, 40, 41, 42, 43, 44, 45, 46, 47, 48, 49, 50, 51, 52, 53, 54, 55, 56] (by decide +kernel) (by decide +kernel)
set_option maxRecDepth 20000 in
theorem gX7_groupAt_X7_stones : GoodIn wsX7_groupAt (wsV RX7 165 RX7 yX7_stones wsX7_stones) := goodIn_app (goodIn_of _ (by decide +kernel)) ggX7_groupAt_X7_stones
set_option maxRecDepth 20000 in
theorem ggX7_groupAt_X7_spread : GoodIn wsX7_groupAt wsX7_spread := goodIn_r _ [16, 17, 18, 19, 4, 20, 21, 22, 23, 24, 25, 26, 27, 28, 29, 30, 31, 32, 33, 34, 35, 36, 37, 38, 39, 40, 41, 42, 43, 44, 45, 46, 47, 48, 49, 50, 51, 52, 53, 54, 55, 56] (by decide +kernel) (by decide +kernel)
set_option maxRecDepth 20000 in
theorem gX7_groupAt_X7_spread : GoodIn wsX7_groupAt (wsV RX7 111 RX7 yX7_spread wsX7_spread) := goodIn_app (goodIn_of _ (by decide +kernel)) ggX7_groupAt_X7_spread
theorem dX7_groupAt_0 : decode cX7_groupAt 0 = .ok (.aload_n 0, 1) := by decide +kernel
theorem dX7_groupAt_1 : decode cX7_groupAt 1 = .ok (.lconst 1, 1) := by decide +kernel
theorem dX7_groupAt_2 : decode cX7_groupAt 2 = .ok (.iload_n 1, 1) := by decide +kernel
theorem dX7_groupAt_3 : decode cX7_groupAt 3 = .ok (.lshl, 1) := by decide +kernel
theorem dX7_groupAt_4 : decode cX7_groupAt 4 = .ok (.aload_n 0, 1) := by decide +kernel
theorem dX7_groupAt_5 : decode cX7_groupAt 5 = .ok (.aload_n 0, 1) := by decide +kernel
theorem dX7_groupAt_6 : decode cX7_groupAt 6 = .ok (.iload_n 1, 1) := by decide +kernel
theorem dX7_groupAt_7 : decode cX7_groupAt 7 = .ok (.invokevirtual 159, 3) := by decide +kernel
theorem dX7_groupAt_10 : decode cX7_groupAt 10 = .ok (.invokevirtual 165, 3) := by decide +kernel
theorem dX7_groupAt_13 : decode cX7_groupAt 13 = .ok (.invokevirtual 111, 3) := by decide +kernel
theorem dX7_groupAt_16 : decode cX7_groupAt 16 = .ok (.lreturn, 1) := by decide +kernel
set_option maxRecDepth 20000 in
theorem ggX7_group_X7_isCrossing : GoodIn wsX7_group wsX7_isCrossing := goodIn_r _ [5, 6, 7, 8, 4, 9, 10, 11, 12, 13, 14, 70, 71, 72, 73, 74, 75, 76, 77, 78, 79, 80, 81, 82, 83, 84, 85, 86, 87, 88, 89, 90, 91, 92, 93, 94, 95, 96, 97, 98] (by decide +kernel) (by decide +kernel)
set_option maxRecDepth 20000 in
theorem gX7_group_X7_isCrossing : GoodIn wsX7_group (wsV RX7 144 RX7 yX7_isCrossing wsX7_isCrossing) := goodIn_app (goodIn_of _ (by decide +kernel)) ggX7_group_X7_isCrossing
set_option maxRecDepth 20000 in
theorem ggX7_group_X7_in : GoodIn wsX7_group wsX7_in := goodIn_r _ [14] (by decide +kernel) (by decide +kernel)
set_option maxRecDepth 20000 in
theorem gX7_group_X7_in : GoodIn wsX7_group (va_wsS RX7 93 yX7_in wsX7_in) := goodIn_app (goodIn_of _ (by decide +kernel)) ggX7_group_X7_in
set_option maxRecDepth 20000 in
theorem ggX7_group_X7_atOf : GoodIn wsX7_group wsX7_atOf := goodIn_r _ [18, 19, 20, 21, 70, 71, 72, 73, 74, 75, 76, 77, 78, 79, 80, 81, 82, 83, 84, 85, 86, 87, 88, 89, 90, 91, 92, 93, 94, 95, 96, 97, 98] (by decide +kernel) (by decide +kernel)
set_option maxRecDepth 20000 in
theorem gX7_group_X7_atOf : GoodIn wsX7_group (wsV RX7 159 RX7 yX7_atOf wsX7_atOf) := goodIn_app (goodIn_of _ (by decide +kernel)) ggX7_group_X7_atOf
set_option maxRecDepth 20000 in
theorem ggX7_group_X7_groupAt : GoodIn wsX7_group wsX7_groupAt := goodIn_r _ [25, 15, 16, 17, 4, 18, 19, 20, 21, 26, 27, 28, 29, 30, 31, 32, 33, 34, 35, 36, 37, 38, 6, 7, 8, 9, 10, 11, 70, 71, 72, 73, 74, 75, 76, 77, 78, 79, 80, 81, 82, 83, 84, 85, 86, 87, 88, 89, 90, 91, 92, 93, 94, 95, 96, 97, 98] (by decide +kernel) (by decide +kernel)
set_option maxRecDepth 20000 in
theorem gX7_group_X7_groupAt : GoodIn wsX7_group (wsV RX7 177 RX7 yX7_groupAt wsX7_groupAt) := goodIn_app (goodIn_of _ (by decide +kernel)) ggX7_group_X7_groupAt
set_option maxRecDepth 20000 in
theorem ggX7_group_X7_many : GoodIn wsX7_group wsX7_many := goodIn_r _ [41] (by decide +kernel) (by decide +kernel)
set_option maxRecDepth 20000 in
theorem gX7_group_X7_many : GoodIn wsX7_group (va_wsS RX7 115 yX7_many wsX7_many) := goodIn_app (goodIn_of _ (by decide +kernel)) ggX7_group_X7_many
set_option maxRecDepth 20000 in
theorem ggX7_group_X7_breaths : GoodIn wsX7_group wsX7_breaths := goodIn_r _ [45, 19, 20, 21, 34, 35, 36, 4, 37, 38, 6, 7, 8, 9, 10, 11, 46, 47, 48, 49, 50, 51, 52, 53, 54, 70, 71, 72, 73, 74, 75, 76, 77, 78, 79, 80, 81, 82, 83, 84, 85, 86, 87, 88, 89, 90, 91, 92, 93, 94, 95, 96, 97, 98] (by decide +kernel) (by decide +kernel)
set_option maxRecDepth 20000 in
theorem gX7_group_X7_breaths : GoodIn wsX7_group (wsV RX7 162 RX7 yX7_breaths wsX7_breaths) := goodIn_app (goodIn_of _ (by decide +kernel)) ggX7_group_X7_breaths
set_option maxRecDepth 20000 in
theorem ggX7_group_X7_least : GoodIn wsX7_group wsX7_least := goodIn_r _ [57] (by decide +kernel) (by decide +kernel)
set_option maxRecDepth 20000 in
theorem gX7_group_X7_least : GoodIn wsX7_group (va_wsS RX7 107 yX7_least wsX7_least) := goodIn_app (goodIn_of _ (by decide +kernel)) ggX7_group_X7_least
set_option maxRecDepth 20000 in
theorem ggX7_group_X7_vital : GoodIn wsX7_group wsX7_vital := goodIn_r _ [61, 50, 51, 52, 53, 4, 54, 6, 7, 8, 9, 10, 11, 26, 27, 28, 29, 19, 20, 21, 30, 31, 32, 33, 34, 35, 36, 37, 38, 62, 63, 64, 65, 46, 47, 48, 49, 42, 43, 44, 45, 70, 71, 72, 73, 74, 75, 76, 77, 78, 79, 80, 81, 82, 83, 84, 85, 86, 87, 88, 89, 90, 91, 92, 93, 94, 95, 96, 97, 98] (by decide +kernel) (by decide +kernel)
set_option maxRecDepth 20000 in
theorem gX7_group_X7_vital : GoodIn wsX7_group (wsV RX7 173 RX7 yX7_vital wsX7_vital) := goodIn_app (goodIn_of _ (by decide +kernel)) ggX7_group_X7_vital
set_option maxRecDepth 20000 in
theorem ggX7_group_X7_stand : GoodIn wsX7_group wsX7_stand := goodIn_r _ [69, 50, 26, 27, 28, 4, 29, 19, 20, 21, 30, 31, 32, 33, 34, 35, 36, 37, 38, 6, 7, 8, 9, 10, 11, 58, 59, 60, 61, 51, 52, 53, 54, 62, 63, 64, 65, 46, 47, 48, 49, 42, 43, 44, 45, 70, 71, 72, 73, 74, 75, 76, 77, 78, 79, 80, 81, 82, 83, 84, 85, 86, 87, 88, 89, 90, 91, 92, 93, 94, 95, 96, 97, 98] (by decide +kernel) (by decide +kernel)
set_option maxRecDepth 20000 in
theorem gX7_group_X7_stand : GoodIn wsX7_group (wsV RX7 180 RX7 yX7_stand wsX7_stand) := goodIn_app (goodIn_of _ (by decide +kernel)) ggX7_group_X7_stand
theorem dX7_group_0 : decode cX7_group 0 = .ok (.aload_n 0, 1) := by decide +kernel
theorem dX7_group_1 : decode cX7_group 1 = .ok (.iload_n 1, 1) := by decide +kernel
theorem dX7_group_2 : decode cX7_group 2 = .ok (.invokevirtual 144, 3) := by decide +kernel
theorem dX7_group_5 : decode cX7_group 5 = .ok (.ifCond .eq 12, 3) := by decide +kernel
theorem dX7_group_8 : decode cX7_group 8 = .ok (.iload_n 2, 1) := by decide +kernel
theorem dX7_group_9 : decode cX7_group 9 = .ok (.iconst 0, 1) := by decide +kernel
theorem dX7_group_10 : decode cX7_group 10 = .ok (.iconst 4, 1) := by decide +kernel
theorem dX7_group_11 : decode cX7_group 11 = .ok (.invokestatic 93, 3) := by decide +kernel
theorem dX7_group_14 : decode cX7_group 14 = .ok (.ifCond .ne 6, 3) := by decide +kernel
theorem dX7_group_17 : decode cX7_group 17 = .ok (.bipush (-2), 2) := by decide +kernel
theorem dX7_group_19 : decode cX7_group 19 = .ok (.ireturn, 1) := by decide +kernel
theorem dX7_group_20 : decode cX7_group 20 = .ok (.aload_n 0, 1) := by decide +kernel
theorem dX7_group_21 : decode cX7_group 21 = .ok (.iload_n 1, 1) := by decide +kernel
theorem dX7_group_22 : decode cX7_group 22 = .ok (.invokevirtual 159, 3) := by decide +kernel
theorem dX7_group_25 : decode cX7_group 25 = .ok (.istore_n 3, 1) := by decide +kernel
theorem dX7_group_26 : decode cX7_group 26 = .ok (.iload_n 3, 1) := by decide +kernel
theorem dX7_group_27 : decode cX7_group 27 = .ok (.ifCond .ne 6, 3) := by decide +kernel
theorem dX7_group_30 : decode cX7_group 30 = .ok (.bipush (-3), 2) := by decide +kernel
theorem dX7_group_32 : decode cX7_group 32 = .ok (.ireturn, 1) := by decide +kernel
theorem dX7_group_33 : decode cX7_group 33 = .ok (.aload_n 0, 1) := by decide +kernel
theorem dX7_group_34 : decode cX7_group 34 = .ok (.iload_n 1, 1) := by decide +kernel
theorem dX7_group_35 : decode cX7_group 35 = .ok (.invokevirtual 177, 3) := by decide +kernel
theorem dX7_group_38 : decode cX7_group 38 = .ok (.lstore 4, 2) := by decide +kernel
theorem dX7_group_40 : decode cX7_group 40 = .ok (.iload_n 2, 1) := by decide +kernel
theorem dX7_group_41 : decode cX7_group 41 = .ok (.tableswitch 63 0 3 #[31, 37, 47, 54], 31) := by decide +kernel
theorem dX7_group_72 : decode cX7_group 72 = .ok (.lload 4, 2) := by decide +kernel
theorem dX7_group_74 : decode cX7_group 74 = .ok (.invokestatic 115, 3) := by decide +kernel
theorem dX7_group_77 : decode cX7_group 77 = .ok (.ireturn, 1) := by decide +kernel
theorem dX7_group_78 : decode cX7_group 78 = .ok (.aload_n 0, 1) := by decide +kernel
theorem dX7_group_79 : decode cX7_group 79 = .ok (.lload 4, 2) := by decide +kernel
theorem dX7_group_81 : decode cX7_group 81 = .ok (.invokevirtual 162, 3) := by decide +kernel
theorem dX7_group_84 : decode cX7_group 84 = .ok (.invokestatic 115, 3) := by decide +kernel
theorem dX7_group_87 : decode cX7_group 87 = .ok (.ireturn, 1) := by decide +kernel
theorem dX7_group_88 : decode cX7_group 88 = .ok (.lload 4, 2) := by decide +kernel
theorem dX7_group_90 : decode cX7_group 90 = .ok (.iconst 0, 1) := by decide +kernel
theorem dX7_group_91 : decode cX7_group 91 = .ok (.invokestatic 107, 3) := by decide +kernel
theorem dX7_group_94 : decode cX7_group 94 = .ok (.ireturn, 1) := by decide +kernel
theorem dX7_group_95 : decode cX7_group 95 = .ok (.aload_n 0, 1) := by decide +kernel
theorem dX7_group_96 : decode cX7_group 96 = .ok (.iload_n 3, 1) := by decide +kernel
theorem dX7_group_97 : decode cX7_group 97 = .ok (.lload 4, 2) := by decide +kernel
theorem dX7_group_99 : decode cX7_group 99 = .ok (.lconst 0, 1) := by decide +kernel
theorem dX7_group_100 : decode cX7_group 100 = .ok (.invokevirtual 173, 3) := by decide +kernel
theorem dX7_group_103 : decode cX7_group 103 = .ok (.ireturn, 1) := by decide +kernel
theorem dX7_group_104 : decode cX7_group 104 = .ok (.aload_n 0, 1) := by decide +kernel
theorem dX7_group_105 : decode cX7_group 105 = .ok (.iload_n 3, 1) := by decide +kernel
theorem dX7_group_106 : decode cX7_group 106 = .ok (.invokevirtual 180, 3) := by decide +kernel
theorem dX7_group_109 : decode cX7_group 109 = .ok (.lload 4, 2) := by decide +kernel
theorem dX7_group_111 : decode cX7_group 111 = .ok (.land, 1) := by decide +kernel
theorem dX7_group_112 : decode cX7_group 112 = .ok (.lconst 0, 1) := by decide +kernel
theorem dX7_group_113 : decode cX7_group 113 = .ok (.lcmp, 1) := by decide +kernel
theorem dX7_group_114 : decode cX7_group 114 = .ok (.ifCond .eq 7, 3) := by decide +kernel
theorem dX7_group_117 : decode cX7_group 117 = .ok (.iconst 1, 1) := by decide +kernel
theorem dX7_group_118 : decode cX7_group 118 = .ok (.goto 4, 3) := by decide +kernel
theorem dX7_group_121 : decode cX7_group 121 = .ok (.iconst 0, 1) := by decide +kernel
theorem dX7_group_122 : decode cX7_group 122 = .ok (.ireturn, 1) := by decide +kernel
set_option maxRecDepth 20000 in
theorem ggX7_breath_X7_isCrossing : GoodIn wsX7_breath wsX7_isCrossing := goodIn_r _ [5, 6, 7, 8, 4, 9, 10, 11, 12, 13, 14, 58, 59, 60, 61, 62, 63, 64, 65, 66, 67, 68, 69, 70, 71, 72, 73, 74, 75, 76, 77, 78, 79, 80, 81, 82, 83, 84, 85, 86] (by decide +kernel) (by decide +kernel)
set_option maxRecDepth 20000 in
theorem gX7_breath_X7_isCrossing : GoodIn wsX7_breath (wsV RX7 144 RX7 yX7_isCrossing wsX7_isCrossing) := goodIn_app (goodIn_of _ (by decide +kernel)) ggX7_breath_X7_isCrossing
set_option maxRecDepth 20000 in
theorem ggX7_breath_X7_atOf : GoodIn wsX7_breath wsX7_atOf := goodIn_r _ [18, 19, 20, 21, 58, 59, 60, 61, 62, 63, 64, 65, 66, 67, 68, 69, 70, 71, 72, 73, 74, 75, 76, 77, 78, 79, 80, 81, 82, 83, 84, 85, 86] (by decide +kernel) (by decide +kernel)
set_option maxRecDepth 20000 in
theorem gX7_breath_X7_atOf : GoodIn wsX7_breath (wsV RX7 159 RX7 yX7_atOf wsX7_atOf) := goodIn_app (goodIn_of _ (by decide +kernel)) ggX7_breath_X7_atOf
set_option maxRecDepth 20000 in
theorem ggX7_breath_X7_groupAt : GoodIn wsX7_breath wsX7_groupAt := goodIn_r _ [25, 15, 16, 17, 4, 18, 19, 20, 21, 26, 27, 28, 29, 30, 31, 32, 33, 34, 35, 36, 37, 38, 6, 7, 8, 9, 10, 11, 58, 59, 60, 61, 62, 63, 64, 65, 66, 67, 68, 69, 70, 71, 72, 73, 74, 75, 76, 77, 78, 79, 80, 81, 82, 83, 84, 85, 86] (by decide +kernel) (by decide +kernel)
set_option maxRecDepth 20000 in
theorem gX7_breath_X7_groupAt : GoodIn wsX7_breath (wsV RX7 177 RX7 yX7_groupAt wsX7_groupAt) := goodIn_app (goodIn_of _ (by decide +kernel)) ggX7_breath_X7_groupAt
set_option maxRecDepth 20000 in
theorem ggX7_breath_X7_breaths : GoodIn wsX7_breath wsX7_breaths := goodIn_r _ [42, 19, 20, 21, 34, 35, 36, 4, 37, 38, 6, 7, 8, 9, 10, 11, 43, 44, 45, 46, 47, 48, 49, 50, 51, 58, 59, 60, 61, 62, 63, 64, 65, 66, 67, 68, 69, 70, 71, 72, 73, 74, 75, 76, 77, 78, 79, 80, 81, 82, 83, 84, 85, 86] (by decide +kernel) (by decide +kernel)
set_option maxRecDepth 20000 in
theorem gX7_breath_X7_breaths : GoodIn wsX7_breath (wsV RX7 162 RX7 yX7_breaths wsX7_breaths) := goodIn_app (goodIn_of _ (by decide +kernel)) ggX7_breath_X7_breaths
set_option maxRecDepth 20000 in
theorem ggX7_breath_X7_many : GoodIn wsX7_breath wsX7_many := goodIn_r _ [54] (by decide +kernel) (by decide +kernel)
set_option maxRecDepth 20000 in
theorem gX7_breath_X7_many : GoodIn wsX7_breath (va_wsS RX7 115 yX7_many wsX7_many) := goodIn_app (goodIn_of _ (by decide +kernel)) ggX7_breath_X7_many
set_option maxRecDepth 20000 in
theorem ggX7_breath_X7_in : GoodIn wsX7_breath wsX7_in := goodIn_r _ [14] (by decide +kernel) (by decide +kernel)
set_option maxRecDepth 20000 in
theorem gX7_breath_X7_in : GoodIn wsX7_breath (va_wsS RX7 93 yX7_in wsX7_in) := goodIn_app (goodIn_of _ (by decide +kernel)) ggX7_breath_X7_in
set_option maxRecDepth 20000 in
theorem ggX7_breath_X7_least : GoodIn wsX7_breath wsX7_least := goodIn_r _ [57] (by decide +kernel) (by decide +kernel)
set_option maxRecDepth 20000 in
theorem gX7_breath_X7_least : GoodIn wsX7_breath (va_wsS RX7 107 yX7_least wsX7_least) := goodIn_app (goodIn_of _ (by decide +kernel)) ggX7_breath_X7_least
theorem dX7_breath_0 : decode cX7_breath 0 = .ok (.aload_n 0, 1) := by decide +kernel
theorem dX7_breath_1 : decode cX7_breath 1 = .ok (.iload_n 1, 1) := by decide +kernel
theorem dX7_breath_2 : decode cX7_breath 2 = .ok (.invokevirtual 144, 3) := by decide +kernel
theorem dX7_breath_5 : decode cX7_breath 5 = .ok (.ifCond .ne 6, 3) := by decide +kernel
theorem dX7_breath_8 : decode cX7_breath 8 = .ok (.bipush (-2), 2) := by decide +kernel
theorem dX7_breath_10 : decode cX7_breath 10 = .ok (.ireturn, 1) := by decide +kernel
theorem dX7_breath_11 : decode cX7_breath 11 = .ok (.aload_n 0, 1) := by decide +kernel
theorem dX7_breath_12 : decode cX7_breath 12 = .ok (.iload_n 1, 1) := by decide +kernel
theorem dX7_breath_13 : decode cX7_breath 13 = .ok (.invokevirtual 159, 3) := by decide +kernel
theorem dX7_breath_16 : decode cX7_breath 16 = .ok (.ifCond .ne 6, 3) := by decide +kernel
theorem dX7_breath_19 : decode cX7_breath 19 = .ok (.bipush (-3), 2) := by decide +kernel
theorem dX7_breath_21 : decode cX7_breath 21 = .ok (.ireturn, 1) := by decide +kernel
theorem dX7_breath_22 : decode cX7_breath 22 = .ok (.aload_n 0, 1) := by decide +kernel
theorem dX7_breath_23 : decode cX7_breath 23 = .ok (.aload_n 0, 1) := by decide +kernel
theorem dX7_breath_24 : decode cX7_breath 24 = .ok (.iload_n 1, 1) := by decide +kernel
theorem dX7_breath_25 : decode cX7_breath 25 = .ok (.invokevirtual 177, 3) := by decide +kernel
theorem dX7_breath_28 : decode cX7_breath 28 = .ok (.invokevirtual 162, 3) := by decide +kernel
theorem dX7_breath_31 : decode cX7_breath 31 = .ok (.lstore_n 3, 1) := by decide +kernel
theorem dX7_breath_32 : decode cX7_breath 32 = .ok (.iload_n 2, 1) := by decide +kernel
theorem dX7_breath_33 : decode cX7_breath 33 = .ok (.iconst 0, 1) := by decide +kernel
theorem dX7_breath_34 : decode cX7_breath 34 = .ok (.lload_n 3, 1) := by decide +kernel
theorem dX7_breath_35 : decode cX7_breath 35 = .ok (.invokestatic 115, 3) := by decide +kernel
theorem dX7_breath_38 : decode cX7_breath 38 = .ok (.iconst 1, 1) := by decide +kernel
theorem dX7_breath_39 : decode cX7_breath 39 = .ok (.isub, 1) := by decide +kernel
theorem dX7_breath_40 : decode cX7_breath 40 = .ok (.invokestatic 93, 3) := by decide +kernel
theorem dX7_breath_43 : decode cX7_breath 43 = .ok (.ifCond .ne 5, 3) := by decide +kernel
theorem dX7_breath_46 : decode cX7_breath 46 = .ok (.iconst (-1), 1) := by decide +kernel
theorem dX7_breath_47 : decode cX7_breath 47 = .ok (.ireturn, 1) := by decide +kernel
theorem dX7_breath_48 : decode cX7_breath 48 = .ok (.lload_n 3, 1) := by decide +kernel
theorem dX7_breath_49 : decode cX7_breath 49 = .ok (.iconst 0, 1) := by decide +kernel
theorem dX7_breath_50 : decode cX7_breath 50 = .ok (.invokestatic 107, 3) := by decide +kernel
theorem dX7_breath_53 : decode cX7_breath 53 = .ok (.istore 5, 2) := by decide +kernel
theorem dX7_breath_55 : decode cX7_breath 55 = .ok (.iconst 0, 1) := by decide +kernel
theorem dX7_breath_56 : decode cX7_breath 56 = .ok (.istore 6, 2) := by decide +kernel
theorem dX7_breath_58 : decode cX7_breath 58 = .ok (.iload 6, 2) := by decide +kernel
theorem dX7_breath_60 : decode cX7_breath 60 = .ok (.iload_n 2, 1) := by decide +kernel
theorem dX7_breath_61 : decode cX7_breath 61 = .ok (.if_icmp .ge 19, 3) := by decide +kernel
theorem dX7_breath_64 : decode cX7_breath 64 = .ok (.lload_n 3, 1) := by decide +kernel
theorem dX7_breath_65 : decode cX7_breath 65 = .ok (.iload 5, 2) := by decide +kernel
theorem dX7_breath_67 : decode cX7_breath 67 = .ok (.iconst 1, 1) := by decide +kernel
theorem dX7_breath_68 : decode cX7_breath 68 = .ok (.iadd, 1) := by decide +kernel
theorem dX7_breath_69 : decode cX7_breath 69 = .ok (.invokestatic 107, 3) := by decide +kernel
theorem dX7_breath_72 : decode cX7_breath 72 = .ok (.istore 5, 2) := by decide +kernel
theorem dX7_breath_74 : decode cX7_breath 74 = .ok (.iinc 6 1, 3) := by decide +kernel
theorem dX7_breath_77 : decode cX7_breath 77 = .ok (.goto (-19), 3) := by decide +kernel
theorem dX7_breath_80 : decode cX7_breath 80 = .ok (.iload 5, 2) := by decide +kernel
theorem dX7_breath_82 : decode cX7_breath 82 = .ok (.ireturn, 1) := by decide +kernel
set_option maxRecDepth 20000 in
theorem ggX7_region_X7_in : GoodIn wsX7_region wsX7_in := goodIn_r _ [8] (by decide +kernel) (by decide +kernel)
set_option maxRecDepth 20000 in
theorem gX7_region_X7_in : GoodIn wsX7_region (va_wsS RX7 93 yX7_in wsX7_in) := goodIn_app (goodIn_of _ (by decide +kernel)) ggX7_region_X7_in
set_option maxRecDepth 20000 in
theorem ggX7_region_X7_isCrossing : GoodIn wsX7_region wsX7_isCrossing := goodIn_r _ [12, 13, 14, 15, 7, 16, 17, 18, 5, 6, 8, 58, 59, 60, 61, 62, 63, 64, 65, 66, 67, 68, 69, 70, 71, 72, 73, 74, 75, 76, 77, 78, 79, 80, 81, 82, 83, 84, 85, 86] (by decide +kernel) (by decide +kernel)
set_option maxRecDepth 20000 in
theorem gX7_region_X7_isCrossing : GoodIn wsX7_region (wsV RX7 144 RX7 yX7_isCrossing wsX7_isCrossing) := goodIn_app (goodIn_of _ (by decide +kernel)) ggX7_region_X7_isCrossing
set_option maxRecDepth 20000 in
theorem ggX7_region_X7_atOf : GoodIn wsX7_region wsX7_atOf := goodIn_r _ [22, 2, 3, 4, 58, 59, 60, 61, 62, 63, 64, 65, 66, 67, 68, 69, 70, 71, 72, 73, 74, 75, 76, 77, 78, 79, 80, 81, 82, 83, 84, 85, 86] (by decide +kernel) (by decide +kernel)
set_option maxRecDepth 20000 in
theorem gX7_region_X7_atOf : GoodIn wsX7_region (wsV RX7 159 RX7 yX7_atOf wsX7_atOf) := goodIn_app (goodIn_of _ (by decide +kernel)) ggX7_region_X7_atOf
set_option maxRecDepth 20000 in
theorem ggX7_region_X7_all : GoodIn wsX7_region wsX7_all := goodIn_r _ [26, 13, 14, 15, 7, 16, 17, 18, 58, 59, 60, 61, 62, 63, 64, 65, 66, 67, 68, 69, 70, 71, 72, 73, 74, 75, 76, 77, 78, 79, 80, 81, 82, 83, 84, 85, 86] (by decide +kernel) (by decide +kernel)
set_option maxRecDepth 20000 in
theorem gX7_region_X7_all : GoodIn wsX7_region (wsV RX7 101 RX7 yX7_all wsX7_all) := goodIn_app (goodIn_of _ (by decide +kernel)) ggX7_region_X7_all
set_option maxRecDepth 20000 in
theorem ggX7_region_X7_stones : GoodIn wsX7_region wsX7_stones := goodIn_r _ [30, 2, 3, 4, 58, 59, 60, 61, 62, 63, 64, 65, 66, 67, 68, 69, 70, 71, 72, 73, 74, 75, 76, 77, 78, 79, 80, 81, 82, 83, 84, 85, 86] (by decide +kernel) (by decide +kernel)
set_option maxRecDepth 20000 in
theorem gX7_region_X7_stones : GoodIn wsX7_region (wsV RX7 165 RX7 yX7_stones wsX7_stones) := goodIn_app (goodIn_of _ (by decide +kernel)) ggX7_region_X7_stones
set_option maxRecDepth 20000 in
theorem ggX7_region_X7_spread : GoodIn wsX7_region wsX7_spread := goodIn_r _ [34, 35, 36, 37, 7, 38, 39, 13, 14, 15, 16, 17, 18, 58, 59, 60, 61, 62, 63, 64, 65, 66, 67, 68, 69, 70, 71, 72, 73, 74, 75, 76, 77, 78, 79, 80, 81, 82, 83, 84, 85, 86] (by decide +kernel) (by decide +kernel)
set_option maxRecDepth 20000 in
theorem gX7_region_X7_spread : GoodIn wsX7_region (wsV RX7 111 RX7 yX7_spread wsX7_spread) := goodIn_app (goodIn_of _ (by decide +kernel)) ggX7_region_X7_spread
set_option maxRecDepth 20000 in
theorem ggX7_region_X7_free : GoodIn wsX7_region wsX7_free := goodIn_r _ [43, 1, 23, 24, 25, 7, 26, 13, 14, 15, 16, 17, 18, 58, 59, 60, 61, 62, 63, 64, 65, 66, 67, 68, 69, 70, 71, 72, 73, 74, 75, 76, 77, 78, 79, 80, 81, 82, 83, 84, 85, 86] (by decide +kernel) (by decide +kernel)
set_option maxRecDepth 20000 in
theorem gX7_region_X7_free : GoodIn wsX7_region (wsV RX7 129 RX7 yX7_free wsX7_free) := goodIn_app (goodIn_of _ (by decide +kernel)) ggX7_region_X7_free
set_option maxRecDepth 20000 in
theorem ggX7_region_X7_many : GoodIn wsX7_region wsX7_many := goodIn_r _ [46] (by decide +kernel) (by decide +kernel)
set_option maxRecDepth 20000 in
theorem gX7_region_X7_many : GoodIn wsX7_region (va_wsS RX7 115 yX7_many wsX7_many) := goodIn_app (goodIn_of _ (by decide +kernel)) ggX7_region_X7_many
set_option maxRecDepth 20000 in
theorem ggX7_region_X7_least : GoodIn wsX7_region wsX7_least := goodIn_r _ [49] (by decide +kernel) (by decide +kernel)
set_option maxRecDepth 20000 in
theorem gX7_region_X7_least : GoodIn wsX7_region (va_wsS RX7 107 yX7_least wsX7_least) := goodIn_app (goodIn_of _ (by decide +kernel)) ggX7_region_X7_least
set_option maxRecDepth 20000 in
theorem ggX7_region_X7_around : GoodIn wsX7_region wsX7_around := goodIn_r _ [38, 39, 13, 14, 15, 7, 16, 17, 18, 58, 59, 60, 61, 62, 63, 64, 65, 66, 67, 68, 69, 70, 71, 72, 73, 74, 75, 76, 77, 78, 79, 80, 81, 82, 83, 84, 85, 86] (by decide +kernel) (by decide +kernel)
set_option maxRecDepth 20000 in
theorem gX7_region_X7_around : GoodIn wsX7_region (wsV RX7 97 RX7 yX7_around wsX7_around) := goodIn_app (goodIn_of _ (by decide +kernel)) ggX7_region_X7_around
set_option maxRecDepth 20000 in
theorem ggX7_region_X7_isVital : GoodIn wsX7_region wsX7_isVital := goodIn_r _ [53, 2, 3, 4, 1, 35, 36, 37, 7, 38, 39, 13, 14, 15, 16, 17, 18, 40, 41, 42, 43, 23, 24, 25, 26, 54, 55, 56, 57, 58, 59, 60, 61, 62, 63, 64, 65, 66, 67, 68, 69, 70, 71, 72, 73, 74, 75, 76, 77, 78, 79, 80, 81, 82, 83, 84, 85, 86] (by decide +kernel) (by decide +kernel)
set_option maxRecDepth 20000 in
theorem gX7_region_X7_isVital : GoodIn wsX7_region (wsV RX7 169 RX7 yX7_isVital wsX7_isVital) := goodIn_app (goodIn_of _ (by decide +kernel)) ggX7_region_X7_isVital
theorem dX7_region_0 : decode cX7_region 0 = .ok (.iload_n 1, 1) := by decide +kernel
theorem dX7_region_1 : decode cX7_region 1 = .ok (.iconst 1, 1) := by decide +kernel
theorem dX7_region_2 : decode cX7_region 2 = .ok (.iconst 2, 1) := by decide +kernel
theorem dX7_region_3 : decode cX7_region 3 = .ok (.invokestatic 93, 3) := by decide +kernel
theorem dX7_region_6 : decode cX7_region 6 = .ok (.ifCond .eq 20, 3) := by decide +kernel
theorem dX7_region_9 : decode cX7_region 9 = .ok (.aload_n 0, 1) := by decide +kernel
theorem dX7_region_10 : decode cX7_region 10 = .ok (.iload_n 2, 1) := by decide +kernel
theorem dX7_region_11 : decode cX7_region 11 = .ok (.invokevirtual 144, 3) := by decide +kernel
theorem dX7_region_14 : decode cX7_region 14 = .ok (.ifCond .eq 12, 3) := by decide +kernel
theorem dX7_region_17 : decode cX7_region 17 = .ok (.iload_n 3, 1) := by decide +kernel
theorem dX7_region_18 : decode cX7_region 18 = .ok (.iconst 0, 1) := by decide +kernel
theorem dX7_region_19 : decode cX7_region 19 = .ok (.iconst 4, 1) := by decide +kernel
theorem dX7_region_20 : decode cX7_region 20 = .ok (.invokestatic 93, 3) := by decide +kernel
theorem dX7_region_23 : decode cX7_region 23 = .ok (.ifCond .ne 6, 3) := by decide +kernel
theorem dX7_region_26 : decode cX7_region 26 = .ok (.bipush (-2), 2) := by decide +kernel
theorem dX7_region_28 : decode cX7_region 28 = .ok (.ireturn, 1) := by decide +kernel
theorem dX7_region_29 : decode cX7_region 29 = .ok (.aload_n 0, 1) := by decide +kernel
theorem dX7_region_30 : decode cX7_region 30 = .ok (.iload_n 2, 1) := by decide +kernel
theorem dX7_region_31 : decode cX7_region 31 = .ok (.invokevirtual 159, 3) := by decide +kernel
theorem dX7_region_34 : decode cX7_region 34 = .ok (.iload_n 1, 1) := by decide +kernel
theorem dX7_region_35 : decode cX7_region 35 = .ok (.if_icmp .ne 6, 3) := by decide +kernel
theorem dX7_region_38 : decode cX7_region 38 = .ok (.bipush (-3), 2) := by decide +kernel
theorem dX7_region_40 : decode cX7_region 40 = .ok (.ireturn, 1) := by decide +kernel
theorem dX7_region_41 : decode cX7_region 41 = .ok (.aload_n 0, 1) := by decide +kernel
theorem dX7_region_42 : decode cX7_region 42 = .ok (.lconst 1, 1) := by decide +kernel
theorem dX7_region_43 : decode cX7_region 43 = .ok (.iload_n 2, 1) := by decide +kernel
theorem dX7_region_44 : decode cX7_region 44 = .ok (.lshl, 1) := by decide +kernel
theorem dX7_region_45 : decode cX7_region 45 = .ok (.aload_n 0, 1) := by decide +kernel
theorem dX7_region_46 : decode cX7_region 46 = .ok (.invokevirtual 101, 3) := by decide +kernel
theorem dX7_region_49 : decode cX7_region 49 = .ok (.aload_n 0, 1) := by decide +kernel
theorem dX7_region_50 : decode cX7_region 50 = .ok (.iload_n 1, 1) := by decide +kernel
theorem dX7_region_51 : decode cX7_region 51 = .ok (.invokevirtual 165, 3) := by decide +kernel
theorem dX7_region_54 : decode cX7_region 54 = .ok (.ldc2_w 105, 3) := by decide +kernel
theorem dX7_region_57 : decode cX7_region 57 = .ok (.lxor, 1) := by decide +kernel
theorem dX7_region_58 : decode cX7_region 58 = .ok (.land, 1) := by decide +kernel
theorem dX7_region_59 : decode cX7_region 59 = .ok (.invokevirtual 111, 3) := by decide +kernel
theorem dX7_region_62 : decode cX7_region 62 = .ok (.lstore 4, 2) := by decide +kernel
theorem dX7_region_64 : decode cX7_region 64 = .ok (.iload_n 3, 1) := by decide +kernel
theorem dX7_region_65 : decode cX7_region 65 = .ok (.iconst 2, 1) := by decide +kernel
theorem dX7_region_66 : decode cX7_region 66 = .ok (.if_icmp .ge 41, 3) := by decide +kernel
theorem dX7_region_69 : decode cX7_region 69 = .ok (.iload_n 3, 1) := by decide +kernel
theorem dX7_region_70 : decode cX7_region 70 = .ok (.ifCond .ne 8, 3) := by decide +kernel
theorem dX7_region_73 : decode cX7_region 73 = .ok (.lload 4, 2) := by decide +kernel
theorem dX7_region_75 : decode cX7_region 75 = .ok (.goto 28, 3) := by decide +kernel
theorem dX7_region_78 : decode cX7_region 78 = .ok (.lload 4, 2) := by decide +kernel
theorem dX7_region_80 : decode cX7_region 80 = .ok (.aload_n 0, 1) := by decide +kernel
theorem dX7_region_81 : decode cX7_region 81 = .ok (.aload_n 0, 1) := by decide +kernel
theorem dX7_region_82 : decode cX7_region 82 = .ok (.getfield 24, 3) := by decide +kernel
theorem dX7_region_85 : decode cX7_region 85 = .ok (.aload_n 0, 1) := by decide +kernel
theorem dX7_region_86 : decode cX7_region 86 = .ok (.getfield 86, 3) := by decide +kernel
theorem dX7_region_89 : decode cX7_region 89 = .ok (.laload, 1) := by decide +kernel
theorem dX7_region_90 : decode cX7_region 90 = .ok (.aload_n 0, 1) := by decide +kernel
theorem dX7_region_91 : decode cX7_region 91 = .ok (.getfield 27, 3) := by decide +kernel
theorem dX7_region_94 : decode cX7_region 94 = .ok (.aload_n 0, 1) := by decide +kernel
theorem dX7_region_95 : decode cX7_region 95 = .ok (.getfield 86, 3) := by decide +kernel
theorem dX7_region_98 : decode cX7_region 98 = .ok (.laload, 1) := by decide +kernel
theorem dX7_region_99 : decode cX7_region 99 = .ok (.invokevirtual 129, 3) := by decide +kernel
theorem dX7_region_102 : decode cX7_region 102 = .ok (.land, 1) := by decide +kernel
theorem dX7_region_103 : decode cX7_region 103 = .ok (.invokestatic 115, 3) := by decide +kernel
theorem dX7_region_106 : decode cX7_region 106 = .ok (.ireturn, 1) := by decide +kernel
theorem dX7_region_107 : decode cX7_region 107 = .ok (.iload_n 3, 1) := by decide +kernel
theorem dX7_region_108 : decode cX7_region 108 = .ok (.iconst 4, 1) := by decide +kernel
theorem dX7_region_109 : decode cX7_region 109 = .ok (.if_icmp .ne 10, 3) := by decide +kernel
theorem dX7_region_112 : decode cX7_region 112 = .ok (.lload 4, 2) := by decide +kernel
theorem dX7_region_114 : decode cX7_region 114 = .ok (.iconst 0, 1) := by decide +kernel
theorem dX7_region_115 : decode cX7_region 115 = .ok (.invokestatic 107, 3) := by decide +kernel
theorem dX7_region_118 : decode cX7_region 118 = .ok (.ireturn, 1) := by decide +kernel
theorem dX7_region_119 : decode cX7_region 119 = .ok (.iconst 0, 1) := by decide +kernel
theorem dX7_region_120 : decode cX7_region 120 = .ok (.istore 6, 2) := by decide +kernel
theorem dX7_region_122 : decode cX7_region 122 = .ok (.aload_n 0, 1) := by decide +kernel
theorem dX7_region_123 : decode cX7_region 123 = .ok (.lload 4, 2) := by decide +kernel
theorem dX7_region_125 : decode cX7_region 125 = .ok (.invokevirtual 97, 3) := by decide +kernel
theorem dX7_region_128 : decode cX7_region 128 = .ok (.aload_n 0, 1) := by decide +kernel
theorem dX7_region_129 : decode cX7_region 129 = .ok (.iload_n 1, 1) := by decide +kernel
theorem dX7_region_130 : decode cX7_region 130 = .ok (.invokevirtual 165, 3) := by decide +kernel
theorem dX7_region_133 : decode cX7_region 133 = .ok (.land, 1) := by decide +kernel
theorem dX7_region_134 : decode cX7_region 134 = .ok (.lstore 7, 2) := by decide +kernel
theorem dX7_region_136 : decode cX7_region 136 = .ok (.lload 7, 2) := by decide +kernel
theorem dX7_region_138 : decode cX7_region 138 = .ok (.lconst 0, 1) := by decide +kernel
theorem dX7_region_139 : decode cX7_region 139 = .ok (.lcmp, 1) := by decide +kernel
theorem dX7_region_140 : decode cX7_region 140 = .ok (.ifCond .eq 60, 3) := by decide +kernel
theorem dX7_region_143 : decode cX7_region 143 = .ok (.aload_n 0, 1) := by decide +kernel
theorem dX7_region_144 : decode cX7_region 144 = .ok (.lload 7, 2) := by decide +kernel
theorem dX7_region_146 : decode cX7_region 146 = .ok (.lload 7, 2) := by decide +kernel
theorem dX7_region_148 : decode cX7_region 148 = .ok (.lneg, 1) := by decide +kernel
theorem dX7_region_149 : decode cX7_region 149 = .ok (.land, 1) := by decide +kernel
theorem dX7_region_150 : decode cX7_region 150 = .ok (.aload_n 0, 1) := by decide +kernel
theorem dX7_region_151 : decode cX7_region 151 = .ok (.iload_n 1, 1) := by decide +kernel
theorem dX7_region_152 : decode cX7_region 152 = .ok (.invokevirtual 165, 3) := by decide +kernel
theorem dX7_region_155 : decode cX7_region 155 = .ok (.invokevirtual 111, 3) := by decide +kernel
theorem dX7_region_158 : decode cX7_region 158 = .ok (.lstore 9, 2) := by decide +kernel
theorem dX7_region_160 : decode cX7_region 160 = .ok (.lload 7, 2) := by decide +kernel
theorem dX7_region_162 : decode cX7_region 162 = .ok (.lload 9, 2) := by decide +kernel
theorem dX7_region_164 : decode cX7_region 164 = .ok (.ldc2_w 105, 3) := by decide +kernel
theorem dX7_region_167 : decode cX7_region 167 = .ok (.lxor, 1) := by decide +kernel
theorem dX7_region_168 : decode cX7_region 168 = .ok (.land, 1) := by decide +kernel
theorem dX7_region_169 : decode cX7_region 169 = .ok (.lstore 7, 2) := by decide +kernel
theorem dX7_region_171 : decode cX7_region 171 = .ok (.iload 6, 2) := by decide +kernel
theorem dX7_region_173 : decode cX7_region 173 = .ok (.iload_n 3, 1) := by decide +kernel
theorem dX7_region_174 : decode cX7_region 174 = .ok (.iconst 2, 1) := by decide +kernel
theorem dX7_region_175 : decode cX7_region 175 = .ok (.if_icmp .eq 14, 3) := by decide +kernel
theorem dX7_region_178 : decode cX7_region 178 = .ok (.aload_n 0, 1) := by decide +kernel
theorem dX7_region_179 : decode cX7_region 179 = .ok (.lload 4, 2) := by decide +kernel
theorem dX7_region_181 : decode cX7_region 181 = .ok (.lload 9, 2) := by decide +kernel
theorem dX7_region_183 : decode cX7_region 183 = .ok (.invokevirtual 169, 3) := by decide +kernel
theorem dX7_region_186 : decode cX7_region 186 = .ok (.ifCond .eq 7, 3) := by decide +kernel
theorem dX7_region_189 : decode cX7_region 189 = .ok (.iconst 1, 1) := by decide +kernel
theorem dX7_region_190 : decode cX7_region 190 = .ok (.goto 4, 3) := by decide +kernel
theorem dX7_region_193 : decode cX7_region 193 = .ok (.iconst 0, 1) := by decide +kernel
theorem dX7_region_194 : decode cX7_region 194 = .ok (.iadd, 1) := by decide +kernel
theorem dX7_region_195 : decode cX7_region 195 = .ok (.istore 6, 2) := by decide +kernel
theorem dX7_region_197 : decode cX7_region 197 = .ok (.goto (-61), 3) := by decide +kernel
theorem dX7_region_200 : decode cX7_region 200 = .ok (.iload 6, 2) := by decide +kernel
theorem dX7_region_202 : decode cX7_region 202 = .ok (.ireturn, 1) := by decide +kernel
set_option maxRecDepth 20000 in
theorem ggX7_standing_X7_in : GoodIn wsX7_standing wsX7_in := goodIn_r _ [4] (by decide +kernel) (by decide +kernel)
set_option maxRecDepth 20000 in
theorem gX7_standing_X7_in : GoodIn wsX7_standing (va_wsS RX7 93 yX7_in wsX7_in) := goodIn_app (goodIn_of _ (by decide +kernel)) ggX7_standing_X7_in
set_option maxRecDepth 20000 in
theorem ggX7_standing_X7_stand : GoodIn wsX7_standing wsX7_stand := goodIn_r _ [8, 9, 10, 11, 12, 3, 13, 14, 15, 16, 17, 18, 19, 20, 21, 22, 23, 24, 25, 26, 27, 28, 29, 30, 31, 32, 33, 34, 35, 36, 37, 38, 39, 40, 41, 42, 43, 44, 45, 46, 47, 48, 49, 50, 51, 55, 56, 57, 58, 59, 60, 61, 62, 63, 64, 65, 66, 67, 68, 69, 70, 71, 72, 73, 74, 75, 76, 77, 78, 79, 80, 81, 82, 83] (by decide +kernel) (by decide +kernel)
set_option maxRecDepth 20000 in
theorem gX7_standing_X7_stand : GoodIn wsX7_standing (wsV RX7 180 RX7 yX7_stand wsX7_stand) := goodIn_app (goodIn_of _ (by decide +kernel)) ggX7_standing_X7_stand
set_option maxRecDepth 20000 in
theorem ggX7_standing_X7_many : GoodIn wsX7_standing wsX7_many := goodIn_r _ [54] (by decide +kernel) (by decide +kernel)
set_option maxRecDepth 20000 in
theorem gX7_standing_X7_many : GoodIn wsX7_standing (va_wsS RX7 115 yX7_many wsX7_many) := goodIn_app (goodIn_of _ (by decide +kernel)) ggX7_standing_X7_many
theorem dX7_standing_0 : decode cX7_standing 0 = .ok (.iload_n 1, 1) := by decide +kernel
theorem dX7_standing_1 : decode cX7_standing 1 = .ok (.iconst 1, 1) := by decide +kernel
theorem dX7_standing_2 : decode cX7_standing 2 = .ok (.iconst 2, 1) := by decide +kernel
theorem dX7_standing_3 : decode cX7_standing 3 = .ok (.invokestatic 93, 3) := by decide +kernel
theorem dX7_standing_6 : decode cX7_standing 6 = .ok (.ifCond .eq 14, 3) := by decide +kernel
theorem dX7_standing_9 : decode cX7_standing 9 = .ok (.aload_n 0, 1) := by decide +kernel
theorem dX7_standing_10 : decode cX7_standing 10 = .ok (.iload_n 1, 1) := by decide +kernel
theorem dX7_standing_11 : decode cX7_standing 11 = .ok (.invokevirtual 180, 3) := by decide +kernel
theorem dX7_standing_14 : decode cX7_standing 14 = .ok (.invokestatic 115, 3) := by decide +kernel
theorem dX7_standing_17 : decode cX7_standing 17 = .ok (.goto 5, 3) := by decide +kernel
theorem dX7_standing_20 : decode cX7_standing 20 = .ok (.bipush (-2), 2) := by decide +kernel
theorem dX7_standing_22 : decode cX7_standing 22 = .ok (.ireturn, 1) := by decide +kernel
theorem dX7_counts_0 : decode cX7_counts 0 = .ok (.aload_n 0, 1) := by decide +kernel
theorem dX7_counts_1 : decode cX7_counts 1 = .ok (.getfield 183, 3) := by decide +kernel
theorem dX7_counts_4 : decode cX7_counts 4 = .ok (.sipush 600, 3) := by decide +kernel
theorem dX7_counts_7 : decode cX7_counts 7 = .ok (.if_icmp .ne 11, 3) := by decide +kernel
theorem dX7_counts_10 : decode cX7_counts 10 = .ok (.aload_n 0, 1) := by decide +kernel
theorem dX7_counts_11 : decode cX7_counts 11 = .ok (.iconst 1, 1) := by decide +kernel
theorem dX7_counts_12 : decode cX7_counts 12 = .ok (.putfield 186, 3) := by decide +kernel
theorem dX7_counts_15 : decode cX7_counts 15 = .ok (.goto 13, 3) := by decide +kernel
theorem dX7_counts_18 : decode cX7_counts 18 = .ok (.aload_n 0, 1) := by decide +kernel
theorem dX7_counts_19 : decode cX7_counts 19 = .ok (.dup, 1) := by decide +kernel
theorem dX7_counts_20 : decode cX7_counts 20 = .ok (.getfield 183, 3) := by decide +kernel
theorem dX7_counts_23 : decode cX7_counts 23 = .ok (.iconst 1, 1) := by decide +kernel
theorem dX7_counts_24 : decode cX7_counts 24 = .ok (.iadd, 1) := by decide +kernel
theorem dX7_counts_25 : decode cX7_counts 25 = .ok (.putfield 183, 3) := by decide +kernel
theorem dX7_counts_28 : decode cX7_counts 28 = .ok (.return_, 1) := by decide +kernel
set_option maxRecDepth 20000 in
theorem ggX7_chaseBreaths_X7_spread : GoodIn wsX7_chaseBreaths wsX7_spread := goodIn_r _ [5, 6, 7, 8, 4, 9, 10, 11, 12, 13, 14, 15, 16, 26, 27, 28, 29, 30, 31, 32, 33, 34, 35, 36, 37, 38, 39, 40, 41, 42, 43, 44, 45, 46, 47, 48, 49, 50, 51, 52, 53, 54] (by decide +kernel) (by decide +kernel)
set_option maxRecDepth 20000 in
theorem gX7_chaseBreaths_X7_spread : GoodIn wsX7_chaseBreaths (wsV RX7 111 RX7 yX7_spread wsX7_spread) := goodIn_app (goodIn_of _ (by decide +kernel)) ggX7_chaseBreaths_X7_spread
set_option maxRecDepth 20000 in
theorem ggX7_chaseBreaths_X7_around : GoodIn wsX7_chaseBreaths wsX7_around := goodIn_r _ [9, 10, 11, 12, 13, 4, 14, 15, 16, 26, 27, 28, 29, 30, 31, 32, 33, 34, 35, 36, 37, 38, 39, 40, 41, 42, 43, 44, 45, 46, 47, 48, 49, 50, 51, 52, 53, 54] (by decide +kernel) (by decide +kernel)
set_option maxRecDepth 20000 in
theorem gX7_chaseBreaths_X7_around : GoodIn wsX7_chaseBreaths (wsV RX7 97 RX7 yX7_around wsX7_around) := goodIn_app (goodIn_of _ (by decide +kernel)) ggX7_chaseBreaths_X7_around
set_option maxRecDepth 20000 in
theorem ggX7_chaseBreaths_X7_free : GoodIn wsX7_chaseBreaths wsX7_free := goodIn_r _ [20, 21, 22, 23, 24, 4, 25, 11, 12, 13, 14, 15, 16, 26, 27, 28, 29, 30, 31, 32, 33, 34, 35, 36, 37, 38, 39, 40, 41, 42, 43, 44, 45, 46, 47, 48, 49, 50, 51, 52, 53, 54] (by decide +kernel) (by decide +kernel)
set_option maxRecDepth 20000 in
theorem gX7_chaseBreaths_X7_free : GoodIn wsX7_chaseBreaths (wsV RX7 129 RX7 yX7_free wsX7_free) := goodIn_app (goodIn_of _ (by decide +kernel)) ggX7_chaseBreaths_X7_free
theorem dX7_chaseBreaths_0 : decode cX7_chaseBreaths 0 = .ok (.aload_n 0, 1) := by decide +kernel
theorem dX7_chaseBreaths_1 : decode cX7_chaseBreaths 1 = .ok (.aload_n 0, 1) := by decide +kernel
theorem dX7_chaseBreaths_2 : decode cX7_chaseBreaths 2 = .ok (.lconst 1, 1) := by decide +kernel
theorem dX7_chaseBreaths_3 : decode cX7_chaseBreaths 3 = .ok (.iload 6, 2) := by decide +kernel
theorem dX7_chaseBreaths_5 : decode cX7_chaseBreaths 5 = .ok (.lshl, 1) := by decide +kernel
theorem dX7_chaseBreaths_6 : decode cX7_chaseBreaths 6 = .ok (.iload 5, 2) := by decide +kernel
theorem dX7_chaseBreaths_8 : decode cX7_chaseBreaths 8 = .ok (.iconst 1, 1) := by decide +kernel
theorem dX7_chaseBreaths_9 : decode cX7_chaseBreaths 9 = .ok (.if_icmp .ne 7, 3) := by decide +kernel
theorem dX7_chaseBreaths_12 : decode cX7_chaseBreaths 12 = .ok (.lload_n 1, 1) := by decide +kernel
theorem dX7_chaseBreaths_13 : decode cX7_chaseBreaths 13 = .ok (.goto 4, 3) := by decide +kernel
theorem dX7_chaseBreaths_16 : decode cX7_chaseBreaths 16 = .ok (.lload_n 3, 1) := by decide +kernel
theorem dX7_chaseBreaths_17 : decode cX7_chaseBreaths 17 = .ok (.invokevirtual 111, 3) := by decide +kernel
theorem dX7_chaseBreaths_20 : decode cX7_chaseBreaths 20 = .ok (.invokevirtual 97, 3) := by decide +kernel
theorem dX7_chaseBreaths_23 : decode cX7_chaseBreaths 23 = .ok (.aload_n 0, 1) := by decide +kernel
theorem dX7_chaseBreaths_24 : decode cX7_chaseBreaths 24 = .ok (.lload_n 1, 1) := by decide +kernel
theorem dX7_chaseBreaths_25 : decode cX7_chaseBreaths 25 = .ok (.lload_n 3, 1) := by decide +kernel
theorem dX7_chaseBreaths_26 : decode cX7_chaseBreaths 26 = .ok (.invokevirtual 129, 3) := by decide +kernel
theorem dX7_chaseBreaths_29 : decode cX7_chaseBreaths 29 = .ok (.land, 1) := by decide +kernel
theorem dX7_chaseBreaths_30 : decode cX7_chaseBreaths 30 = .ok (.lreturn, 1) := by decide +kernel
theorem dX7_isAt_0 : decode cX7_isAt 0 = .ok (.aload_n 0, 1) := by decide +kernel
theorem dX7_isAt_1 : decode cX7_isAt 1 = .ok (.getfield 122, 3) := by decide +kernel
theorem dX7_isAt_4 : decode cX7_isAt 4 = .ok (.lload_n 1, 1) := by decide +kernel
theorem dX7_isAt_5 : decode cX7_isAt 5 = .ok (.lcmp, 1) := by decide +kernel
theorem dX7_isAt_6 : decode cX7_isAt 6 = .ok (.ifCond .ne 16, 3) := by decide +kernel
theorem dX7_isAt_9 : decode cX7_isAt 9 = .ok (.aload_n 0, 1) := by decide +kernel
theorem dX7_isAt_10 : decode cX7_isAt 10 = .ok (.getfield 126, 3) := by decide +kernel
theorem dX7_isAt_13 : decode cX7_isAt 13 = .ok (.lload_n 3, 1) := by decide +kernel
theorem dX7_isAt_14 : decode cX7_isAt 14 = .ok (.lcmp, 1) := by decide +kernel
theorem dX7_isAt_15 : decode cX7_isAt 15 = .ok (.ifCond .ne 7, 3) := by decide +kernel
theorem dX7_isAt_18 : decode cX7_isAt 18 = .ok (.iconst 1, 1) := by decide +kernel
theorem dX7_isAt_19 : decode cX7_isAt 19 = .ok (.goto 4, 3) := by decide +kernel
theorem dX7_isAt_22 : decode cX7_isAt 22 = .ok (.iconst 0, 1) := by decide +kernel
theorem dX7_isAt_23 : decode cX7_isAt 23 = .ok (.ireturn, 1) := by decide +kernel
set_option maxRecDepth 20000 in
theorem ggX7_comes_X7_chaseBreaths : GoodIn wsX7_comes wsX7_chaseBreaths := goodIn_r _ [9, 10, 11, 12, 8, 13, 14, 15, 16, 17, 18, 19, 20, 21, 22, 23, 24, 25, 26, 27, 28, 29, 30, 31, 32, 33, 34, 35, 36, 37, 38, 39, 40, 41, 42, 43, 44, 45, 46, 47, 48, 49, 50, 51, 52, 53, 54, 55, 56, 57, 58, 59, 60, 61, 62] (by decide +kernel) (by decide +kernel)
set_option maxRecDepth 20000 in
theorem gX7_comes_X7_chaseBreaths : GoodIn wsX7_comes (wsV RX7 190 RX7 yX7_chaseBreaths wsX7_chaseBreaths) := goodIn_app (goodIn_of _ (by decide +kernel)) ggX7_comes_X7_chaseBreaths
theorem dX7_comes_0 : decode cX7_comes 0 = .ok (.aload_n 0, 1) := by decide +kernel
theorem dX7_comes_1 : decode cX7_comes 1 = .ok (.getfield 39, 3) := by decide +kernel
theorem dX7_comes_4 : decode cX7_comes 4 = .ok (.iload_n 1, 1) := by decide +kernel
theorem dX7_comes_5 : decode cX7_comes 5 = .ok (.lload_n 2, 1) := by decide +kernel
theorem dX7_comes_6 : decode cX7_comes 6 = .ok (.lastore, 1) := by decide +kernel
theorem dX7_comes_7 : decode cX7_comes 7 = .ok (.aload_n 0, 1) := by decide +kernel
theorem dX7_comes_8 : decode cX7_comes 8 = .ok (.getfield 42, 3) := by decide +kernel
theorem dX7_comes_11 : decode cX7_comes 11 = .ok (.iload_n 1, 1) := by decide +kernel
theorem dX7_comes_12 : decode cX7_comes 12 = .ok (.lload 4, 2) := by decide +kernel
theorem dX7_comes_14 : decode cX7_comes 14 = .ok (.lastore, 1) := by decide +kernel
theorem dX7_comes_15 : decode cX7_comes 15 = .ok (.aload_n 0, 1) := by decide +kernel
theorem dX7_comes_16 : decode cX7_comes 16 = .ok (.getfield 55, 3) := by decide +kernel
theorem dX7_comes_19 : decode cX7_comes 19 = .ok (.iload_n 1, 1) := by decide +kernel
theorem dX7_comes_20 : decode cX7_comes 20 = .ok (.aload_n 0, 1) := by decide +kernel
theorem dX7_comes_21 : decode cX7_comes 21 = .ok (.lload_n 2, 1) := by decide +kernel
theorem dX7_comes_22 : decode cX7_comes 22 = .ok (.lload 4, 2) := by decide +kernel
theorem dX7_comes_24 : decode cX7_comes 24 = .ok (.iload 6, 2) := by decide +kernel
theorem dX7_comes_26 : decode cX7_comes 26 = .ok (.iload 7, 2) := by decide +kernel
theorem dX7_comes_28 : decode cX7_comes 28 = .ok (.invokevirtual 190, 3) := by decide +kernel
theorem dX7_comes_31 : decode cX7_comes 31 = .ok (.lastore, 1) := by decide +kernel
theorem dX7_comes_32 : decode cX7_comes 32 = .ok (.aload_n 0, 1) := by decide +kernel
theorem dX7_comes_33 : decode cX7_comes 33 = .ok (.getfield 70, 3) := by decide +kernel
theorem dX7_comes_36 : decode cX7_comes 36 = .ok (.iload_n 1, 1) := by decide +kernel
theorem dX7_comes_37 : decode cX7_comes 37 = .ok (.iconst 0, 1) := by decide +kernel
theorem dX7_comes_38 : decode cX7_comes 38 = .ok (.bastore, 1) := by decide +kernel
theorem dX7_comes_39 : decode cX7_comes 39 = .ok (.return_, 1) := by decide +kernel
set_option maxRecDepth 20000 in
theorem ggX7_mayChase_X7_other : GoodIn wsX7_mayChase wsX7_other := goodIn_r _ [9] (by decide +kernel) (by decide +kernel)
set_option maxRecDepth 20000 in
theorem gX7_mayChase_X7_other : GoodIn wsX7_mayChase (va_wsS RX7 132 yX7_other wsX7_other) := goodIn_app (goodIn_of _ (by decide +kernel)) ggX7_mayChase_X7_other
set_option maxRecDepth 20000 in
theorem ggX7_mayChase_X7_laid : GoodIn wsX7_mayChase wsX7_laid := goodIn_r _ [13, 14, 15, 16, 17, 18, 19, 20, 8, 21, 22, 23, 24, 25, 26, 27, 28, 29, 30, 31, 32, 33, 34, 35, 36, 37, 38, 39, 40, 41, 42, 43, 44, 45, 46, 51, 52, 53, 54, 55, 56, 57, 58, 59, 60, 61, 62, 63, 64, 65, 66, 67, 68, 69, 70, 71, 72, 73, 74, 75, 76, 77, 78, 79] (by decide +kernel) (by decide +kernel)
set_option maxRecDepth 20000 in
theorem gX7_mayChase_X7_laid : GoodIn wsX7_mayChase (wsV RX7 136 RX7 yX7_laid wsX7_laid) := goodIn_app (goodIn_of _ (by decide +kernel)) ggX7_mayChase_X7_laid
set_option maxRecDepth 20000 in
theorem ggX7_mayChase_X7_isAt : GoodIn wsX7_mayChase wsX7_isAt := goodIn_r _ [50, 17, 18, 51, 52, 53, 54, 55, 56, 57, 58, 59, 60, 61, 62, 63, 64, 65, 66, 67, 68, 69, 70, 71, 72, 73, 74, 75, 76, 77, 78, 79] (by decide +kernel) (by decide +kernel)
set_option maxRecDepth 20000 in
theorem gX7_mayChase_X7_isAt : GoodIn wsX7_mayChase (wsV RX7 194 RX7 yX7_isAt wsX7_isAt) := goodIn_app (goodIn_of _ (by decide +kernel)) ggX7_mayChase_X7_isAt
theorem dX7_mayChase_0 : decode cX7_mayChase 0 = .ok (.aload_n 0, 1) := by decide +kernel
theorem dX7_mayChase_1 : decode cX7_mayChase 1 = .ok (.aload_n 0, 1) := by decide +kernel
theorem dX7_mayChase_2 : decode cX7_mayChase 2 = .ok (.getfield 39, 3) := by decide +kernel
theorem dX7_mayChase_5 : decode cX7_mayChase 5 = .ok (.iload_n 1, 1) := by decide +kernel
theorem dX7_mayChase_6 : decode cX7_mayChase 6 = .ok (.laload, 1) := by decide +kernel
theorem dX7_mayChase_7 : decode cX7_mayChase 7 = .ok (.aload_n 0, 1) := by decide +kernel
theorem dX7_mayChase_8 : decode cX7_mayChase 8 = .ok (.getfield 42, 3) := by decide +kernel
theorem dX7_mayChase_11 : decode cX7_mayChase 11 = .ok (.iload_n 1, 1) := by decide +kernel
theorem dX7_mayChase_12 : decode cX7_mayChase 12 = .ok (.laload, 1) := by decide +kernel
theorem dX7_mayChase_13 : decode cX7_mayChase 13 = .ok (.iload_n 2, 1) := by decide +kernel
theorem dX7_mayChase_14 : decode cX7_mayChase 14 = .ok (.invokestatic 132, 3) := by decide +kernel
theorem dX7_mayChase_17 : decode cX7_mayChase 17 = .ok (.iload_n 3, 1) := by decide +kernel
theorem dX7_mayChase_18 : decode cX7_mayChase 18 = .ok (.invokevirtual 136, 3) := by decide +kernel
theorem dX7_mayChase_21 : decode cX7_mayChase 21 = .ok (.ifCond .ne 35, 3) := by decide +kernel
theorem dX7_mayChase_24 : decode cX7_mayChase 24 = .ok (.aload_n 0, 1) := by decide +kernel
theorem dX7_mayChase_25 : decode cX7_mayChase 25 = .ok (.getfield 51, 3) := by decide +kernel
theorem dX7_mayChase_28 : decode cX7_mayChase 28 = .ok (.iload_n 1, 1) := by decide +kernel
theorem dX7_mayChase_29 : decode cX7_mayChase 29 = .ok (.baload, 1) := by decide +kernel
theorem dX7_mayChase_30 : decode cX7_mayChase 30 = .ok (.ifCond .eq 22, 3) := by decide +kernel
theorem dX7_mayChase_33 : decode cX7_mayChase 33 = .ok (.aload_n 0, 1) := by decide +kernel
theorem dX7_mayChase_34 : decode cX7_mayChase 34 = .ok (.aload_n 0, 1) := by decide +kernel
theorem dX7_mayChase_35 : decode cX7_mayChase 35 = .ok (.getfield 45, 3) := by decide +kernel
theorem dX7_mayChase_38 : decode cX7_mayChase 38 = .ok (.iload_n 1, 1) := by decide +kernel
theorem dX7_mayChase_39 : decode cX7_mayChase 39 = .ok (.laload, 1) := by decide +kernel
theorem dX7_mayChase_40 : decode cX7_mayChase 40 = .ok (.aload_n 0, 1) := by decide +kernel
theorem dX7_mayChase_41 : decode cX7_mayChase 41 = .ok (.getfield 48, 3) := by decide +kernel
theorem dX7_mayChase_44 : decode cX7_mayChase 44 = .ok (.iload_n 1, 1) := by decide +kernel
theorem dX7_mayChase_45 : decode cX7_mayChase 45 = .ok (.laload, 1) := by decide +kernel
theorem dX7_mayChase_46 : decode cX7_mayChase 46 = .ok (.invokevirtual 194, 3) := by decide +kernel
theorem dX7_mayChase_49 : decode cX7_mayChase 49 = .ok (.ifCond .ne 7, 3) := by decide +kernel
theorem dX7_mayChase_52 : decode cX7_mayChase 52 = .ok (.iconst 1, 1) := by decide +kernel
theorem dX7_mayChase_53 : decode cX7_mayChase 53 = .ok (.goto 4, 3) := by decide +kernel
theorem dX7_mayChase_56 : decode cX7_mayChase 56 = .ok (.iconst 0, 1) := by decide +kernel
theorem dX7_mayChase_57 : decode cX7_mayChase 57 = .ok (.ireturn, 1) := by decide +kernel
set_option maxRecDepth 20000 in
theorem ggX7_findAnswers_X7_spread : GoodIn wsX7_findAnswers wsX7_spread := goodIn_r _ [11, 12, 13, 14, 10, 15, 16, 17, 18, 19, 20, 21, 22, 37, 38, 39, 40, 41, 42, 43, 44, 45, 46, 47, 48, 49, 50, 51, 52, 53, 54, 55, 56, 57, 58, 59, 60, 61, 62, 63, 64, 65] (by decide +kernel) (by decide +kernel)
set_option maxRecDepth 20000 in
theorem gX7_findAnswers_X7_spread : GoodIn wsX7_findAnswers (wsV RX7 111 RX7 yX7_spread wsX7_spread) := goodIn_app (goodIn_of _ (by decide +kernel)) ggX7_findAnswers_X7_spread
set_option maxRecDepth 20000 in
theorem ggX7_findAnswers_X7_around : GoodIn wsX7_findAnswers wsX7_around := goodIn_r _ [15, 16, 17, 18, 19, 10, 20, 21, 22, 37, 38, 39, 40, 41, 42, 43, 44, 45, 46, 47, 48, 49, 50, 51, 52, 53, 54, 55, 56, 57, 58, 59, 60, 61, 62, 63, 64, 65] (by decide +kernel) (by decide +kernel)
set_option maxRecDepth 20000 in
theorem gX7_findAnswers_X7_around : GoodIn wsX7_findAnswers (wsV RX7 97 RX7 yX7_around wsX7_around) := goodIn_app (goodIn_of _ (by decide +kernel)) ggX7_findAnswers_X7_around
set_option maxRecDepth 20000 in
theorem ggX7_findAnswers_X7_free : GoodIn wsX7_findAnswers wsX7_free := goodIn_r _ [26, 5, 27, 28, 29, 10, 30, 17, 18, 19, 20, 21, 22, 37, 38, 39, 40, 41, 42, 43, 44, 45, 46, 47, 48, 49, 50, 51, 52, 53, 54, 55, 56, 57, 58, 59, 60, 61, 62, 63, 64, 65] (by decide +kernel) (by decide +kernel)
set_option maxRecDepth 20000 in
theorem gX7_findAnswers_X7_free : GoodIn wsX7_findAnswers (wsV RX7 129 RX7 yX7_free wsX7_free) := goodIn_app (goodIn_of _ (by decide +kernel)) ggX7_findAnswers_X7_free
set_option maxRecDepth 20000 in
theorem ggX7_findAnswers_X7_least : GoodIn wsX7_findAnswers wsX7_least := goodIn_r _ [33] (by decide +kernel) (by decide +kernel)
set_option maxRecDepth 20000 in
theorem gX7_findAnswers_X7_least : GoodIn wsX7_findAnswers (va_wsS RX7 107 yX7_least wsX7_least) := goodIn_app (goodIn_of _ (by decide +kernel)) ggX7_findAnswers_X7_least
set_option maxRecDepth 20000 in
theorem ggX7_findAnswers_X7_many : GoodIn wsX7_findAnswers wsX7_many := goodIn_r _ [36] (by decide +kernel) (by decide +kernel)
set_option maxRecDepth 20000 in
theorem gX7_findAnswers_X7_many : GoodIn wsX7_findAnswers (va_wsS RX7 115 yX7_many wsX7_many) := goodIn_app (goodIn_of _ (by decide +kernel)) ggX7_findAnswers_X7_many
theorem dX7_findAnswers_0 : decode cX7_findAnswers 0 = .ok (.aload_n 0, 1) := by decide +kernel
theorem dX7_findAnswers_1 : decode cX7_findAnswers 1 = .ok (.getfield 58, 3) := by decide +kernel
theorem dX7_findAnswers_4 : decode cX7_findAnswers 4 = .ok (.iload_n 1, 1) := by decide +kernel
theorem dX7_findAnswers_5 : decode cX7_findAnswers 5 = .ok (.laload, 1) := by decide +kernel
theorem dX7_findAnswers_6 : decode cX7_findAnswers 6 = .ok (.lstore 4, 2) := by decide +kernel
theorem dX7_findAnswers_8 : decode cX7_findAnswers 8 = .ok (.aload_n 0, 1) := by decide +kernel
theorem dX7_findAnswers_9 : decode cX7_findAnswers 9 = .ok (.getfield 61, 3) := by decide +kernel
theorem dX7_findAnswers_12 : decode cX7_findAnswers 12 = .ok (.iload_n 1, 1) := by decide +kernel
theorem dX7_findAnswers_13 : decode cX7_findAnswers 13 = .ok (.laload, 1) := by decide +kernel
theorem dX7_findAnswers_14 : decode cX7_findAnswers 14 = .ok (.lstore 6, 2) := by decide +kernel
theorem dX7_findAnswers_16 : decode cX7_findAnswers 16 = .ok (.iload_n 2, 1) := by decide +kernel
theorem dX7_findAnswers_17 : decode cX7_findAnswers 17 = .ok (.iconst 1, 1) := by decide +kernel
theorem dX7_findAnswers_18 : decode cX7_findAnswers 18 = .ok (.if_icmp .ne 8, 3) := by decide +kernel
theorem dX7_findAnswers_21 : decode cX7_findAnswers 21 = .ok (.lload 4, 2) := by decide +kernel
theorem dX7_findAnswers_23 : decode cX7_findAnswers 23 = .ok (.goto 5, 3) := by decide +kernel
theorem dX7_findAnswers_26 : decode cX7_findAnswers 26 = .ok (.lload 6, 2) := by decide +kernel
theorem dX7_findAnswers_28 : decode cX7_findAnswers 28 = .ok (.lstore 8, 2) := by decide +kernel
theorem dX7_findAnswers_30 : decode cX7_findAnswers 30 = .ok (.iload_n 2, 1) := by decide +kernel
theorem dX7_findAnswers_31 : decode cX7_findAnswers 31 = .ok (.iconst 1, 1) := by decide +kernel
theorem dX7_findAnswers_32 : decode cX7_findAnswers 32 = .ok (.if_icmp .ne 8, 3) := by decide +kernel
theorem dX7_findAnswers_35 : decode cX7_findAnswers 35 = .ok (.lload 6, 2) := by decide +kernel
theorem dX7_findAnswers_37 : decode cX7_findAnswers 37 = .ok (.goto 5, 3) := by decide +kernel
theorem dX7_findAnswers_40 : decode cX7_findAnswers 40 = .ok (.lload 4, 2) := by decide +kernel
theorem dX7_findAnswers_42 : decode cX7_findAnswers 42 = .ok (.lstore 10, 2) := by decide +kernel
theorem dX7_findAnswers_44 : decode cX7_findAnswers 44 = .ok (.aload_n 0, 1) := by decide +kernel
theorem dX7_findAnswers_45 : decode cX7_findAnswers 45 = .ok (.lconst 1, 1) := by decide +kernel
theorem dX7_findAnswers_46 : decode cX7_findAnswers 46 = .ok (.iload_n 3, 1) := by decide +kernel
theorem dX7_findAnswers_47 : decode cX7_findAnswers 47 = .ok (.lshl, 1) := by decide +kernel
theorem dX7_findAnswers_48 : decode cX7_findAnswers 48 = .ok (.lload 8, 2) := by decide +kernel
theorem dX7_findAnswers_50 : decode cX7_findAnswers 50 = .ok (.invokevirtual 111, 3) := by decide +kernel
theorem dX7_findAnswers_53 : decode cX7_findAnswers 53 = .ok (.lstore 12, 2) := by decide +kernel
theorem dX7_findAnswers_55 : decode cX7_findAnswers 55 = .ok (.aload_n 0, 1) := by decide +kernel
theorem dX7_findAnswers_56 : decode cX7_findAnswers 56 = .ok (.lload 12, 2) := by decide +kernel
theorem dX7_findAnswers_58 : decode cX7_findAnswers 58 = .ok (.invokevirtual 97, 3) := by decide +kernel
theorem dX7_findAnswers_61 : decode cX7_findAnswers 61 = .ok (.aload_n 0, 1) := by decide +kernel
theorem dX7_findAnswers_62 : decode cX7_findAnswers 62 = .ok (.lload 4, 2) := by decide +kernel
theorem dX7_findAnswers_64 : decode cX7_findAnswers 64 = .ok (.lload 6, 2) := by decide +kernel
theorem dX7_findAnswers_66 : decode cX7_findAnswers 66 = .ok (.invokevirtual 129, 3) := by decide +kernel
theorem dX7_findAnswers_69 : decode cX7_findAnswers 69 = .ok (.land, 1) := by decide +kernel
theorem dX7_findAnswers_70 : decode cX7_findAnswers 70 = .ok (.lstore 14, 2) := by decide +kernel
theorem dX7_findAnswers_72 : decode cX7_findAnswers 72 = .ok (.aload_n 0, 1) := by decide +kernel
theorem dX7_findAnswers_73 : decode cX7_findAnswers 73 = .ok (.getfield 67, 3) := by decide +kernel
theorem dX7_findAnswers_76 : decode cX7_findAnswers 76 = .ok (.iload_n 1, 1) := by decide +kernel
theorem dX7_findAnswers_77 : decode cX7_findAnswers 77 = .ok (.lload 14, 2) := by decide +kernel
theorem dX7_findAnswers_79 : decode cX7_findAnswers 79 = .ok (.iconst 0, 1) := by decide +kernel
theorem dX7_findAnswers_80 : decode cX7_findAnswers 80 = .ok (.invokestatic 107, 3) := by decide +kernel
theorem dX7_findAnswers_83 : decode cX7_findAnswers 83 = .ok (.iastore, 1) := by decide +kernel
theorem dX7_findAnswers_84 : decode cX7_findAnswers 84 = .ok (.aload_n 0, 1) := by decide +kernel
theorem dX7_findAnswers_85 : decode cX7_findAnswers 85 = .ok (.getfield 64, 3) := by decide +kernel
theorem dX7_findAnswers_88 : decode cX7_findAnswers 88 = .ok (.iload_n 1, 1) := by decide +kernel
theorem dX7_findAnswers_89 : decode cX7_findAnswers 89 = .ok (.lload 14, 2) := by decide +kernel
theorem dX7_findAnswers_91 : decode cX7_findAnswers 91 = .ok (.lastore, 1) := by decide +kernel
theorem dX7_findAnswers_92 : decode cX7_findAnswers 92 = .ok (.aload_n 0, 1) := by decide +kernel
theorem dX7_findAnswers_93 : decode cX7_findAnswers 93 = .ok (.lload 12, 2) := by decide +kernel
theorem dX7_findAnswers_95 : decode cX7_findAnswers 95 = .ok (.invokevirtual 97, 3) := by decide +kernel
theorem dX7_findAnswers_98 : decode cX7_findAnswers 98 = .ok (.lload 10, 2) := by decide +kernel
theorem dX7_findAnswers_100 : decode cX7_findAnswers 100 = .ok (.land, 1) := by decide +kernel
theorem dX7_findAnswers_101 : decode cX7_findAnswers 101 = .ok (.lstore 16, 2) := by decide +kernel
theorem dX7_findAnswers_103 : decode cX7_findAnswers 103 = .ok (.lload 16, 2) := by decide +kernel
theorem dX7_findAnswers_105 : decode cX7_findAnswers 105 = .ok (.lconst 0, 1) := by decide +kernel
theorem dX7_findAnswers_106 : decode cX7_findAnswers 106 = .ok (.lcmp, 1) := by decide +kernel
theorem dX7_findAnswers_107 : decode cX7_findAnswers 107 = .ok (.ifCond .eq 72, 3) := by decide +kernel
theorem dX7_findAnswers_110 : decode cX7_findAnswers 110 = .ok (.aload_n 0, 1) := by decide +kernel
theorem dX7_findAnswers_111 : decode cX7_findAnswers 111 = .ok (.lload 16, 2) := by decide +kernel
theorem dX7_findAnswers_113 : decode cX7_findAnswers 113 = .ok (.lload 16, 2) := by decide +kernel
theorem dX7_findAnswers_115 : decode cX7_findAnswers 115 = .ok (.lneg, 1) := by decide +kernel
theorem dX7_findAnswers_116 : decode cX7_findAnswers 116 = .ok (.land, 1) := by decide +kernel
theorem dX7_findAnswers_117 : decode cX7_findAnswers 117 = .ok (.lload 10, 2) := by decide +kernel
theorem dX7_findAnswers_119 : decode cX7_findAnswers 119 = .ok (.invokevirtual 111, 3) := by decide +kernel
theorem dX7_findAnswers_122 : decode cX7_findAnswers 122 = .ok (.lstore 18, 2) := by decide +kernel
theorem dX7_findAnswers_124 : decode cX7_findAnswers 124 = .ok (.lload 16, 2) := by decide +kernel
theorem dX7_findAnswers_126 : decode cX7_findAnswers 126 = .ok (.lload 18, 2) := by decide +kernel
theorem dX7_findAnswers_128 : decode cX7_findAnswers 128 = .ok (.ldc2_w 105, 3) := by decide +kernel
theorem dX7_findAnswers_131 : decode cX7_findAnswers 131 = .ok (.lxor, 1) := by decide +kernel
theorem dX7_findAnswers_132 : decode cX7_findAnswers 132 = .ok (.land, 1) := by decide +kernel
theorem dX7_findAnswers_133 : decode cX7_findAnswers 133 = .ok (.lstore 16, 2) := by decide +kernel
theorem dX7_findAnswers_135 : decode cX7_findAnswers 135 = .ok (.aload_n 0, 1) := by decide +kernel
theorem dX7_findAnswers_136 : decode cX7_findAnswers 136 = .ok (.lload 18, 2) := by decide +kernel
theorem dX7_findAnswers_138 : decode cX7_findAnswers 138 = .ok (.invokevirtual 97, 3) := by decide +kernel
theorem dX7_findAnswers_141 : decode cX7_findAnswers 141 = .ok (.aload_n 0, 1) := by decide +kernel
theorem dX7_findAnswers_142 : decode cX7_findAnswers 142 = .ok (.lload 4, 2) := by decide +kernel
theorem dX7_findAnswers_144 : decode cX7_findAnswers 144 = .ok (.lload 6, 2) := by decide +kernel
theorem dX7_findAnswers_146 : decode cX7_findAnswers 146 = .ok (.invokevirtual 129, 3) := by decide +kernel
theorem dX7_findAnswers_149 : decode cX7_findAnswers 149 = .ok (.land, 1) := by decide +kernel
theorem dX7_findAnswers_150 : decode cX7_findAnswers 150 = .ok (.lstore 20, 2) := by decide +kernel
theorem dX7_findAnswers_152 : decode cX7_findAnswers 152 = .ok (.aload_n 0, 1) := by decide +kernel
theorem dX7_findAnswers_153 : decode cX7_findAnswers 153 = .ok (.getfield 64, 3) := by decide +kernel
theorem dX7_findAnswers_156 : decode cX7_findAnswers 156 = .ok (.iload_n 1, 1) := by decide +kernel
theorem dX7_findAnswers_157 : decode cX7_findAnswers 157 = .ok (.dup2, 1) := by decide +kernel
theorem dX7_findAnswers_158 : decode cX7_findAnswers 158 = .ok (.laload, 1) := by decide +kernel
theorem dX7_findAnswers_159 : decode cX7_findAnswers 159 = .ok (.lload 20, 2) := by decide +kernel
theorem dX7_findAnswers_161 : decode cX7_findAnswers 161 = .ok (.invokestatic 115, 3) := by decide +kernel
theorem dX7_findAnswers_164 : decode cX7_findAnswers 164 = .ok (.iconst 1, 1) := by decide +kernel
theorem dX7_findAnswers_165 : decode cX7_findAnswers 165 = .ok (.if_icmp .ne 8, 3) := by decide +kernel
theorem dX7_findAnswers_168 : decode cX7_findAnswers 168 = .ok (.lload 20, 2) := by decide +kernel
theorem dX7_findAnswers_170 : decode cX7_findAnswers 170 = .ok (.goto 4, 3) := by decide +kernel
theorem dX7_findAnswers_173 : decode cX7_findAnswers 173 = .ok (.lconst 0, 1) := by decide +kernel
theorem dX7_findAnswers_174 : decode cX7_findAnswers 174 = .ok (.lor, 1) := by decide +kernel
theorem dX7_findAnswers_175 : decode cX7_findAnswers 175 = .ok (.lastore, 1) := by decide +kernel
theorem dX7_findAnswers_176 : decode cX7_findAnswers 176 = .ok (.goto (-73), 3) := by decide +kernel
theorem dX7_findAnswers_179 : decode cX7_findAnswers 179 = .ok (.aload_n 0, 1) := by decide +kernel
theorem dX7_findAnswers_180 : decode cX7_findAnswers 180 = .ok (.getfield 70, 3) := by decide +kernel
theorem dX7_findAnswers_183 : decode cX7_findAnswers 183 = .ok (.iload_n 1, 1) := by decide +kernel
theorem dX7_findAnswers_184 : decode cX7_findAnswers 184 = .ok (.iconst 1, 1) := by decide +kernel
theorem dX7_findAnswers_185 : decode cX7_findAnswers 185 = .ok (.bastore, 1) := by decide +kernel
theorem dX7_findAnswers_186 : decode cX7_findAnswers 186 = .ok (.return_, 1) := by decide +kernel
set_option maxRecDepth 20000 in
theorem ggX7_isCaught_X7_comes : GoodIn wsX7_isCaught wsX7_comes := goodIn_r _ [19, 20, 21, 6, 7, 22, 23, 24, 18, 25, 26, 27, 28, 29, 30, 31, 32, 33, 34, 35, 36, 37, 38, 39, 40, 41, 42, 43, 44, 14, 45, 46, 47, 48, 90, 91, 92, 93, 94, 95, 96, 97, 98, 99, 100, 101, 102, 103, 104, 105, 106, 107, 108, 109, 110, 111, 112, 113, 114, 115, 116, 117, 118] (by decide +kernel) (by decide +kernel)
set_option maxRecDepth 20000 in
theorem gX7_isCaught_X7_comes : GoodIn wsX7_isCaught (wsV RX7 197 RX7 yX7_comes wsX7_comes) := goodIn_app (goodIn_of _ (by decide +kernel)) ggX7_isCaught_X7_comes
set_option maxRecDepth 20000 in
theorem ggX7_isCaught_X7_many : GoodIn wsX7_isCaught wsX7_many := goodIn_r _ [51] (by decide +kernel) (by decide +kernel)
set_option maxRecDepth 20000 in
theorem gX7_isCaught_X7_many : GoodIn wsX7_isCaught (va_wsS RX7 115 yX7_many wsX7_many) := goodIn_app (goodIn_of _ (by decide +kernel)) ggX7_isCaught_X7_many
set_option maxRecDepth 20000 in
theorem ggX7_isCaught_X7_least : GoodIn wsX7_isCaught wsX7_least := goodIn_r _ [54] (by decide +kernel) (by decide +kernel)
set_option maxRecDepth 20000 in
theorem gX7_isCaught_X7_least : GoodIn wsX7_isCaught (va_wsS RX7 107 yX7_least wsX7_least) := goodIn_app (goodIn_of _ (by decide +kernel)) ggX7_isCaught_X7_least
set_option maxRecDepth 20000 in
theorem ggX7_isCaught_X7_mayChase : GoodIn wsX7_isCaught wsX7_mayChase := goodIn_r _ [58, 20, 21, 1, 8, 10, 59, 60, 18, 61, 62, 63, 64, 65, 34, 14, 66, 12, 13, 52, 53, 54, 26, 27, 28, 29, 30, 31, 32, 33, 35, 36, 37, 38, 39, 40, 45, 46, 47, 48, 49, 50, 51, 41, 42, 43, 44, 67, 68, 69, 70, 90, 91, 92, 93, 94, 95, 96, 97, 98, 99, 100, 101, 102, 103, 104, 105, 106, 107, 108, 109, 110, 111, 112, 113, 114, 115, 116, 117, 118] (by decide +kernel) (by decide +kernel)
set_option maxRecDepth 20000 in
theorem gX7_isCaught_X7_mayChase : GoodIn wsX7_isCaught (wsV RX7 201 RX7 yX7_mayChase wsX7_mayChase) := goodIn_app (goodIn_of _ (by decide +kernel)) ggX7_isCaught_X7_mayChase
set_option maxRecDepth 20000 in
theorem ggX7_isCaught_X7_counts : GoodIn wsX7_isCaught wsX7_counts := goodIn_r _ [74, 75, 5, 90, 91, 92, 93, 94, 95, 96, 97, 98, 99, 100, 101, 102, 103, 104, 105, 106, 107, 108, 109, 110, 111, 112, 113, 114, 115, 116, 117, 118] (by decide +kernel) (by decide +kernel)
set_option maxRecDepth 20000 in
theorem gX7_isCaught_X7_counts : GoodIn wsX7_isCaught (wsV RX7 204 RX7 yX7_counts wsX7_counts) := goodIn_app (goodIn_of _ (by decide +kernel)) ggX7_isCaught_X7_counts
set_option maxRecDepth 20000 in
theorem ggX7_isCaught_X7_nextAnswer : GoodIn wsX7_isCaught wsX7_nextAnswer := goodIn_r _ [79, 80, 81, 14, 52, 53, 18, 54, 90, 91, 92, 93, 94, 95, 96, 97, 98, 99, 100, 101, 102, 103, 104, 105, 106, 107, 108, 109, 110, 111, 112, 113, 114, 115, 116, 117, 118] (by decide +kernel) (by decide +kernel)
set_option maxRecDepth 20000 in
theorem gX7_isCaught_X7_nextAnswer : GoodIn wsX7_isCaught (wsV RX7 207 RX7 yX7_nextAnswer wsX7_nextAnswer) := goodIn_app (goodIn_of _ (by decide +kernel)) ggX7_isCaught_X7_nextAnswer
set_option maxRecDepth 20000 in
theorem ggX7_isCaught_X7_mayAnswer : GoodIn wsX7_isCaught wsX7_mayAnswer := goodIn_r _ [85, 9, 11, 20, 21, 62, 63, 64, 18, 65, 34, 14, 66, 12, 13, 52, 53, 54, 26, 27, 28, 29, 30, 31, 32, 33, 35, 36, 37, 38, 39, 40, 45, 46, 47, 48, 49, 50, 51, 41, 42, 43, 44, 67, 68, 69, 70, 90, 91, 92, 93, 94, 95, 96, 97, 98, 99, 100, 101, 102, 103, 104, 105, 106, 107, 108, 109, 110, 111, 112, 113, 114, 115, 116, 117, 118] (by decide +kernel) (by decide +kernel)
set_option maxRecDepth 20000 in
theorem gX7_isCaught_X7_mayAnswer : GoodIn wsX7_isCaught (wsV RX7 210 RX7 yX7_mayAnswer wsX7_mayAnswer) := goodIn_app (goodIn_of _ (by decide +kernel)) ggX7_isCaught_X7_mayAnswer
set_option maxRecDepth 20000 in
theorem ggX7_isCaught_X7_chaseBreaths : GoodIn wsX7_isCaught wsX7_chaseBreaths := goodIn_r _ [25, 26, 27, 28, 18, 29, 30, 31, 32, 33, 34, 35, 36, 37, 38, 39, 40, 41, 42, 43, 44, 14, 45, 46, 47, 48, 90, 91, 92, 93, 94, 95, 96, 97, 98, 99, 100, 101, 102, 103, 104, 105, 106, 107, 108, 109, 110, 111, 112, 113, 114, 115, 116, 117, 118] (by decide +kernel) (by decide +kernel)
set_option maxRecDepth 20000 in
theorem gX7_isCaught_X7_chaseBreaths : GoodIn wsX7_isCaught (wsV RX7 190 RX7 yX7_chaseBreaths wsX7_chaseBreaths) := goodIn_app (goodIn_of _ (by decide +kernel)) ggX7_isCaught_X7_chaseBreaths
set_option maxRecDepth 20000 in
theorem ggX7_isCaught_X7_findAnswers : GoodIn wsX7_isCaught wsX7_findAnswers := goodIn_r _ [89, 9, 11, 80, 81, 14, 7, 26, 27, 28, 18, 29, 30, 31, 32, 33, 34, 35, 36, 37, 38, 39, 40, 41, 42, 43, 44, 45, 46, 47, 48, 52, 53, 54, 49, 50, 51, 90, 91, 92, 93, 94, 95, 96, 97, 98, 99, 100, 101, 102, 103, 104, 105, 106, 107, 108, 109, 110, 111, 112, 113, 114, 115, 116, 117, 118] (by decide +kernel) (by decide +kernel)
set_option maxRecDepth 20000 in
theorem gX7_isCaught_X7_findAnswers : GoodIn wsX7_isCaught (wsV RX7 213 RX7 yX7_findAnswers wsX7_findAnswers) := goodIn_app (goodIn_of _ (by decide +kernel)) ggX7_isCaught_X7_findAnswers
theorem dX7_isCaught_0 : decode cX7_isCaught 0 = .ok (.iconst 0, 1) := by decide +kernel
theorem dX7_isCaught_1 : decode cX7_isCaught 1 = .ok (.istore 4, 2) := by decide +kernel
theorem dX7_isCaught_3 : decode cX7_isCaught 3 = .ok (.aload_n 0, 1) := by decide +kernel
theorem dX7_isCaught_4 : decode cX7_isCaught 4 = .ok (.getfield 51, 3) := by decide +kernel
theorem dX7_isCaught_7 : decode cX7_isCaught 7 = .ok (.iconst 0, 1) := by decide +kernel
theorem dX7_isCaught_8 : decode cX7_isCaught 8 = .ok (.iconst 0, 1) := by decide +kernel
theorem dX7_isCaught_9 : decode cX7_isCaught 9 = .ok (.bastore, 1) := by decide +kernel
theorem dX7_isCaught_10 : decode cX7_isCaught 10 = .ok (.aload_n 0, 1) := by decide +kernel
theorem dX7_isCaught_11 : decode cX7_isCaught 11 = .ok (.iconst 0, 1) := by decide +kernel
theorem dX7_isCaught_12 : decode cX7_isCaught 12 = .ok (.aload_n 0, 1) := by decide +kernel
theorem dX7_isCaught_13 : decode cX7_isCaught 13 = .ok (.getfield 24, 3) := by decide +kernel
theorem dX7_isCaught_16 : decode cX7_isCaught 16 = .ok (.aload_n 0, 1) := by decide +kernel
theorem dX7_isCaught_17 : decode cX7_isCaught 17 = .ok (.getfield 86, 3) := by decide +kernel
theorem dX7_isCaught_20 : decode cX7_isCaught 20 = .ok (.laload, 1) := by decide +kernel
theorem dX7_isCaught_21 : decode cX7_isCaught 21 = .ok (.aload_n 0, 1) := by decide +kernel
theorem dX7_isCaught_22 : decode cX7_isCaught 22 = .ok (.getfield 27, 3) := by decide +kernel
theorem dX7_isCaught_25 : decode cX7_isCaught 25 = .ok (.aload_n 0, 1) := by decide +kernel
theorem dX7_isCaught_26 : decode cX7_isCaught 26 = .ok (.getfield 86, 3) := by decide +kernel
theorem dX7_isCaught_29 : decode cX7_isCaught 29 = .ok (.laload, 1) := by decide +kernel
theorem dX7_isCaught_30 : decode cX7_isCaught 30 = .ok (.iload_n 1, 1) := by decide +kernel
theorem dX7_isCaught_31 : decode cX7_isCaught 31 = .ok (.iload_n 2, 1) := by decide +kernel
theorem dX7_isCaught_32 : decode cX7_isCaught 32 = .ok (.invokevirtual 197, 3) := by decide +kernel
theorem dX7_isCaught_35 : decode cX7_isCaught 35 = .ok (.iconst 1, 1) := by decide +kernel
theorem dX7_isCaught_36 : decode cX7_isCaught 36 = .ok (.istore 5, 2) := by decide +kernel
theorem dX7_isCaught_38 : decode cX7_isCaught 38 = .ok (.iconst 0, 1) := by decide +kernel
theorem dX7_isCaught_39 : decode cX7_isCaught 39 = .ok (.istore 6, 2) := by decide +kernel
theorem dX7_isCaught_41 : decode cX7_isCaught 41 = .ok (.iload 4, 2) := by decide +kernel
theorem dX7_isCaught_43 : decode cX7_isCaught 43 = .ok (.ifCond .lt 382, 3) := by decide +kernel
theorem dX7_isCaught_46 : decode cX7_isCaught 46 = .ok (.aload_n 0, 1) := by decide +kernel
theorem dX7_isCaught_47 : decode cX7_isCaught 47 = .ok (.getfield 186, 3) := by decide +kernel
theorem dX7_isCaught_50 : decode cX7_isCaught 50 = .ok (.ifCond .ne 375, 3) := by decide +kernel
theorem dX7_isCaught_53 : decode cX7_isCaught 53 = .ok (.iload 5, 2) := by decide +kernel
theorem dX7_isCaught_55 : decode cX7_isCaught 55 = .ok (.ifCond .eq 104, 3) := by decide +kernel
theorem dX7_isCaught_58 : decode cX7_isCaught 58 = .ok (.aload_n 0, 1) := by decide +kernel
theorem dX7_isCaught_59 : decode cX7_isCaught 59 = .ok (.getfield 55, 3) := by decide +kernel
theorem dX7_isCaught_62 : decode cX7_isCaught 62 = .ok (.iload 4, 2) := by decide +kernel
theorem dX7_isCaught_64 : decode cX7_isCaught 64 = .ok (.laload, 1) := by decide +kernel
theorem dX7_isCaught_65 : decode cX7_isCaught 65 = .ok (.invokestatic 115, 3) := by decide +kernel
theorem dX7_isCaught_68 : decode cX7_isCaught 68 = .ok (.istore 7, 2) := by decide +kernel
theorem dX7_isCaught_70 : decode cX7_isCaught 70 = .ok (.iconst 0, 1) := by decide +kernel
theorem dX7_isCaught_71 : decode cX7_isCaught 71 = .ok (.istore 5, 2) := by decide +kernel
theorem dX7_isCaught_73 : decode cX7_isCaught 73 = .ok (.iload 7, 2) := by decide +kernel
theorem dX7_isCaught_75 : decode cX7_isCaught 75 = .ok (.iconst 1, 1) := by decide +kernel
theorem dX7_isCaught_76 : decode cX7_isCaught 76 = .ok (.if_icmp .ne 54, 3) := by decide +kernel
theorem dX7_isCaught_79 : decode cX7_isCaught 79 = .ok (.iload_n 3, 1) := by decide +kernel
theorem dX7_isCaught_80 : decode cX7_isCaught 80 = .ok (.iload 4, 2) := by decide +kernel
theorem dX7_isCaught_82 : decode cX7_isCaught 82 = .ok (.isub, 1) := by decide +kernel
theorem dX7_isCaught_83 : decode cX7_isCaught 83 = .ok (.iconst 1, 1) := by decide +kernel
theorem dX7_isCaught_84 : decode cX7_isCaught 84 = .ok (.if_icmp .lt 28, 3) := by decide +kernel
theorem dX7_isCaught_87 : decode cX7_isCaught 87 = .ok (.aload_n 0, 1) := by decide +kernel
theorem dX7_isCaught_88 : decode cX7_isCaught 88 = .ok (.iload 4, 2) := by decide +kernel
theorem dX7_isCaught_90 : decode cX7_isCaught 90 = .ok (.iload_n 1, 1) := by decide +kernel
theorem dX7_isCaught_91 : decode cX7_isCaught 91 = .ok (.aload_n 0, 1) := by decide +kernel
theorem dX7_isCaught_92 : decode cX7_isCaught 92 = .ok (.getfield 55, 3) := by decide +kernel
theorem dX7_isCaught_95 : decode cX7_isCaught 95 = .ok (.iload 4, 2) := by decide +kernel
theorem dX7_isCaught_97 : decode cX7_isCaught 97 = .ok (.laload, 1) := by decide +kernel
theorem dX7_isCaught_98 : decode cX7_isCaught 98 = .ok (.iconst 0, 1) := by decide +kernel
theorem dX7_isCaught_99 : decode cX7_isCaught 99 = .ok (.invokestatic 107, 3) := by decide +kernel
theorem dX7_isCaught_102 : decode cX7_isCaught 102 = .ok (.invokevirtual 201, 3) := by decide +kernel
theorem dX7_isCaught_105 : decode cX7_isCaught 105 = .ok (.ifCond .eq 7, 3) := by decide +kernel
theorem dX7_isCaught_108 : decode cX7_isCaught 108 = .ok (.iconst 1, 1) := by decide +kernel
theorem dX7_isCaught_109 : decode cX7_isCaught 109 = .ok (.goto 4, 3) := by decide +kernel
theorem dX7_isCaught_112 : decode cX7_isCaught 112 = .ok (.iconst 0, 1) := by decide +kernel
theorem dX7_isCaught_113 : decode cX7_isCaught 113 = .ok (.istore 6, 2) := by decide +kernel
theorem dX7_isCaught_115 : decode cX7_isCaught 115 = .ok (.iload 6, 2) := by decide +kernel
theorem dX7_isCaught_117 : decode cX7_isCaught 117 = .ok (.ifCond .eq 7, 3) := by decide +kernel
theorem dX7_isCaught_120 : decode cX7_isCaught 120 = .ok (.aload_n 0, 1) := by decide +kernel
theorem dX7_isCaught_121 : decode cX7_isCaught 121 = .ok (.invokevirtual 204, 3) := by decide +kernel
theorem dX7_isCaught_124 : decode cX7_isCaught 124 = .ok (.iinc 4 (-1), 3) := by decide +kernel
theorem dX7_isCaught_127 : decode cX7_isCaught 127 = .ok (.goto (-86), 3) := by decide +kernel
theorem dX7_isCaught_130 : decode cX7_isCaught 130 = .ok (.iload 7, 2) := by decide +kernel
theorem dX7_isCaught_132 : decode cX7_isCaught 132 = .ok (.iconst 2, 1) := by decide +kernel
theorem dX7_isCaught_133 : decode cX7_isCaught 133 = .ok (.if_icmp .ne 11, 3) := by decide +kernel
theorem dX7_isCaught_136 : decode cX7_isCaught 136 = .ok (.iload_n 3, 1) := by decide +kernel
theorem dX7_isCaught_137 : decode cX7_isCaught 137 = .ok (.iload 4, 2) := by decide +kernel
theorem dX7_isCaught_139 : decode cX7_isCaught 139 = .ok (.isub, 1) := by decide +kernel
theorem dX7_isCaught_140 : decode cX7_isCaught 140 = .ok (.iconst 2, 1) := by decide +kernel
theorem dX7_isCaught_141 : decode cX7_isCaught 141 = .ok (.if_icmp .ge 12, 3) := by decide +kernel
theorem dX7_isCaught_144 : decode cX7_isCaught 144 = .ok (.iconst 0, 1) := by decide +kernel
theorem dX7_isCaught_145 : decode cX7_isCaught 145 = .ok (.istore 6, 2) := by decide +kernel
theorem dX7_isCaught_147 : decode cX7_isCaught 147 = .ok (.iinc 4 (-1), 3) := by decide +kernel
theorem dX7_isCaught_150 : decode cX7_isCaught 150 = .ok (.goto (-109), 3) := by decide +kernel
theorem dX7_isCaught_153 : decode cX7_isCaught 153 = .ok (.iconst 0, 1) := by decide +kernel
theorem dX7_isCaught_154 : decode cX7_isCaught 154 = .ok (.istore 6, 2) := by decide +kernel
theorem dX7_isCaught_156 : decode cX7_isCaught 156 = .ok (.goto 26, 3) := by decide +kernel
theorem dX7_isCaught_159 : decode cX7_isCaught 159 = .ok (.aload_n 0, 1) := by decide +kernel
theorem dX7_isCaught_160 : decode cX7_isCaught 160 = .ok (.getfield 70, 3) := by decide +kernel
theorem dX7_isCaught_163 : decode cX7_isCaught 163 = .ok (.iload 4, 2) := by decide +kernel
theorem dX7_isCaught_165 : decode cX7_isCaught 165 = .ok (.baload, 1) := by decide +kernel
theorem dX7_isCaught_166 : decode cX7_isCaught 166 = .ok (.ifCond .eq 16, 3) := by decide +kernel
theorem dX7_isCaught_169 : decode cX7_isCaught 169 = .ok (.iload 6, 2) := by decide +kernel
theorem dX7_isCaught_171 : decode cX7_isCaught 171 = .ok (.ifCond .ne 11, 3) := by decide +kernel
theorem dX7_isCaught_174 : decode cX7_isCaught 174 = .ok (.aload_n 0, 1) := by decide +kernel
theorem dX7_isCaught_175 : decode cX7_isCaught 175 = .ok (.getfield 70, 3) := by decide +kernel
theorem dX7_isCaught_178 : decode cX7_isCaught 178 = .ok (.iload 4, 2) := by decide +kernel
theorem dX7_isCaught_180 : decode cX7_isCaught 180 = .ok (.iconst 0, 1) := by decide +kernel
theorem dX7_isCaught_181 : decode cX7_isCaught 181 = .ok (.bastore, 1) := by decide +kernel
theorem dX7_isCaught_182 : decode cX7_isCaught 182 = .ok (.aload_n 0, 1) := by decide +kernel
theorem dX7_isCaught_183 : decode cX7_isCaught 183 = .ok (.getfield 70, 3) := by decide +kernel
theorem dX7_isCaught_186 : decode cX7_isCaught 186 = .ok (.iload 4, 2) := by decide +kernel
theorem dX7_isCaught_188 : decode cX7_isCaught 188 = .ok (.baload, 1) := by decide +kernel
theorem dX7_isCaught_189 : decode cX7_isCaught 189 = .ok (.ifCond .eq 117, 3) := by decide +kernel
theorem dX7_isCaught_192 : decode cX7_isCaught 192 = .ok (.aload_n 0, 1) := by decide +kernel
theorem dX7_isCaught_193 : decode cX7_isCaught 193 = .ok (.iload 4, 2) := by decide +kernel
theorem dX7_isCaught_195 : decode cX7_isCaught 195 = .ok (.invokevirtual 207, 3) := by decide +kernel
theorem dX7_isCaught_198 : decode cX7_isCaught 198 = .ok (.istore 7, 2) := by decide +kernel
theorem dX7_isCaught_200 : decode cX7_isCaught 200 = .ok (.iload 7, 2) := by decide +kernel
theorem dX7_isCaught_202 : decode cX7_isCaught 202 = .ok (.iconst (-1), 1) := by decide +kernel
theorem dX7_isCaught_203 : decode cX7_isCaught 203 = .ok (.if_icmp .ne 12, 3) := by decide +kernel
theorem dX7_isCaught_206 : decode cX7_isCaught 206 = .ok (.iconst 1, 1) := by decide +kernel
theorem dX7_isCaught_207 : decode cX7_isCaught 207 = .ok (.istore 6, 2) := by decide +kernel
theorem dX7_isCaught_209 : decode cX7_isCaught 209 = .ok (.iinc 4 (-1), 3) := by decide +kernel
theorem dX7_isCaught_212 : decode cX7_isCaught 212 = .ok (.goto 91, 3) := by decide +kernel
theorem dX7_isCaught_215 : decode cX7_isCaught 215 = .ok (.aload_n 0, 1) := by decide +kernel
theorem dX7_isCaught_216 : decode cX7_isCaught 216 = .ok (.iload 4, 2) := by decide +kernel
theorem dX7_isCaught_218 : decode cX7_isCaught 218 = .ok (.iload_n 1, 1) := by decide +kernel
theorem dX7_isCaught_219 : decode cX7_isCaught 219 = .ok (.iload 7, 2) := by decide +kernel
theorem dX7_isCaught_221 : decode cX7_isCaught 221 = .ok (.invokevirtual 210, 3) := by decide +kernel
theorem dX7_isCaught_224 : decode cX7_isCaught 224 = .ok (.ifCond .eq 76, 3) := by decide +kernel
theorem dX7_isCaught_227 : decode cX7_isCaught 227 = .ok (.aload_n 0, 1) := by decide +kernel
theorem dX7_isCaught_228 : decode cX7_isCaught 228 = .ok (.invokevirtual 204, 3) := by decide +kernel
theorem dX7_isCaught_231 : decode cX7_isCaught 231 = .ok (.aload_n 0, 1) := by decide +kernel
theorem dX7_isCaught_232 : decode cX7_isCaught 232 = .ok (.getfield 45, 3) := by decide +kernel
theorem dX7_isCaught_235 : decode cX7_isCaught 235 = .ok (.iload 4, 2) := by decide +kernel
theorem dX7_isCaught_237 : decode cX7_isCaught 237 = .ok (.iconst 1, 1) := by decide +kernel
theorem dX7_isCaught_238 : decode cX7_isCaught 238 = .ok (.iadd, 1) := by decide +kernel
theorem dX7_isCaught_239 : decode cX7_isCaught 239 = .ok (.aload_n 0, 1) := by decide +kernel
theorem dX7_isCaught_240 : decode cX7_isCaught 240 = .ok (.getfield 58, 3) := by decide +kernel
theorem dX7_isCaught_243 : decode cX7_isCaught 243 = .ok (.iload 4, 2) := by decide +kernel
theorem dX7_isCaught_245 : decode cX7_isCaught 245 = .ok (.laload, 1) := by decide +kernel
theorem dX7_isCaught_246 : decode cX7_isCaught 246 = .ok (.lastore, 1) := by decide +kernel
theorem dX7_isCaught_247 : decode cX7_isCaught 247 = .ok (.aload_n 0, 1) := by decide +kernel
theorem dX7_isCaught_248 : decode cX7_isCaught 248 = .ok (.getfield 48, 3) := by decide +kernel
theorem dX7_isCaught_251 : decode cX7_isCaught 251 = .ok (.iload 4, 2) := by decide +kernel
theorem dX7_isCaught_253 : decode cX7_isCaught 253 = .ok (.iconst 1, 1) := by decide +kernel
theorem dX7_isCaught_254 : decode cX7_isCaught 254 = .ok (.iadd, 1) := by decide +kernel
theorem dX7_isCaught_255 : decode cX7_isCaught 255 = .ok (.aload_n 0, 1) := by decide +kernel
theorem dX7_isCaught_256 : decode cX7_isCaught 256 = .ok (.getfield 61, 3) := by decide +kernel
theorem dX7_isCaught_259 : decode cX7_isCaught 259 = .ok (.iload 4, 2) := by decide +kernel
theorem dX7_isCaught_261 : decode cX7_isCaught 261 = .ok (.laload, 1) := by decide +kernel
theorem dX7_isCaught_262 : decode cX7_isCaught 262 = .ok (.lastore, 1) := by decide +kernel
theorem dX7_isCaught_263 : decode cX7_isCaught 263 = .ok (.aload_n 0, 1) := by decide +kernel
theorem dX7_isCaught_264 : decode cX7_isCaught 264 = .ok (.getfield 51, 3) := by decide +kernel
theorem dX7_isCaught_267 : decode cX7_isCaught 267 = .ok (.iload 4, 2) := by decide +kernel
theorem dX7_isCaught_269 : decode cX7_isCaught 269 = .ok (.iconst 1, 1) := by decide +kernel
theorem dX7_isCaught_270 : decode cX7_isCaught 270 = .ok (.iadd, 1) := by decide +kernel
theorem dX7_isCaught_271 : decode cX7_isCaught 271 = .ok (.iconst 1, 1) := by decide +kernel
theorem dX7_isCaught_272 : decode cX7_isCaught 272 = .ok (.bastore, 1) := by decide +kernel
theorem dX7_isCaught_273 : decode cX7_isCaught 273 = .ok (.aload_n 0, 1) := by decide +kernel
theorem dX7_isCaught_274 : decode cX7_isCaught 274 = .ok (.iload 4, 2) := by decide +kernel
theorem dX7_isCaught_276 : decode cX7_isCaught 276 = .ok (.iconst 1, 1) := by decide +kernel
theorem dX7_isCaught_277 : decode cX7_isCaught 277 = .ok (.iadd, 1) := by decide +kernel
theorem dX7_isCaught_278 : decode cX7_isCaught 278 = .ok (.aload_n 0, 1) := by decide +kernel
theorem dX7_isCaught_279 : decode cX7_isCaught 279 = .ok (.getfield 122, 3) := by decide +kernel
theorem dX7_isCaught_282 : decode cX7_isCaught 282 = .ok (.aload_n 0, 1) := by decide +kernel
theorem dX7_isCaught_283 : decode cX7_isCaught 283 = .ok (.getfield 126, 3) := by decide +kernel
theorem dX7_isCaught_286 : decode cX7_isCaught 286 = .ok (.iload_n 1, 1) := by decide +kernel
theorem dX7_isCaught_287 : decode cX7_isCaught 287 = .ok (.iload_n 2, 1) := by decide +kernel
theorem dX7_isCaught_288 : decode cX7_isCaught 288 = .ok (.invokevirtual 197, 3) := by decide +kernel
theorem dX7_isCaught_291 : decode cX7_isCaught 291 = .ok (.iinc 4 1, 3) := by decide +kernel
theorem dX7_isCaught_294 : decode cX7_isCaught 294 = .ok (.iconst 1, 1) := by decide +kernel
theorem dX7_isCaught_295 : decode cX7_isCaught 295 = .ok (.istore 5, 2) := by decide +kernel
theorem dX7_isCaught_297 : decode cX7_isCaught 297 = .ok (.goto 6, 3) := by decide +kernel
theorem dX7_isCaught_300 : decode cX7_isCaught 300 = .ok (.iconst 1, 1) := by decide +kernel
theorem dX7_isCaught_301 : decode cX7_isCaught 301 = .ok (.istore 6, 2) := by decide +kernel
theorem dX7_isCaught_303 : decode cX7_isCaught 303 = .ok (.goto (-262), 3) := by decide +kernel
theorem dX7_isCaught_306 : decode cX7_isCaught 306 = .ok (.aload_n 0, 1) := by decide +kernel
theorem dX7_isCaught_307 : decode cX7_isCaught 307 = .ok (.getfield 55, 3) := by decide +kernel
theorem dX7_isCaught_310 : decode cX7_isCaught 310 = .ok (.iload 4, 2) := by decide +kernel
theorem dX7_isCaught_312 : decode cX7_isCaught 312 = .ok (.laload, 1) := by decide +kernel
theorem dX7_isCaught_313 : decode cX7_isCaught 313 = .ok (.iconst 0, 1) := by decide +kernel
theorem dX7_isCaught_314 : decode cX7_isCaught 314 = .ok (.invokestatic 107, 3) := by decide +kernel
theorem dX7_isCaught_317 : decode cX7_isCaught 317 = .ok (.istore 7, 2) := by decide +kernel
theorem dX7_isCaught_319 : decode cX7_isCaught 319 = .ok (.iload 7, 2) := by decide +kernel
theorem dX7_isCaught_321 : decode cX7_isCaught 321 = .ok (.iconst (-1), 1) := by decide +kernel
theorem dX7_isCaught_322 : decode cX7_isCaught 322 = .ok (.if_icmp .ne 12, 3) := by decide +kernel
theorem dX7_isCaught_325 : decode cX7_isCaught 325 = .ok (.iconst 0, 1) := by decide +kernel
theorem dX7_isCaught_326 : decode cX7_isCaught 326 = .ok (.istore 6, 2) := by decide +kernel
theorem dX7_isCaught_328 : decode cX7_isCaught 328 = .ok (.iinc 4 (-1), 3) := by decide +kernel
theorem dX7_isCaught_331 : decode cX7_isCaught 331 = .ok (.goto 91, 3) := by decide +kernel
theorem dX7_isCaught_334 : decode cX7_isCaught 334 = .ok (.aload_n 0, 1) := by decide +kernel
theorem dX7_isCaught_335 : decode cX7_isCaught 335 = .ok (.getfield 55, 3) := by decide +kernel
theorem dX7_isCaught_338 : decode cX7_isCaught 338 = .ok (.iload 4, 2) := by decide +kernel
theorem dX7_isCaught_340 : decode cX7_isCaught 340 = .ok (.dup2, 1) := by decide +kernel
theorem dX7_isCaught_341 : decode cX7_isCaught 341 = .ok (.laload, 1) := by decide +kernel
theorem dX7_isCaught_342 : decode cX7_isCaught 342 = .ok (.lconst 1, 1) := by decide +kernel
theorem dX7_isCaught_343 : decode cX7_isCaught 343 = .ok (.iload 7, 2) := by decide +kernel
theorem dX7_isCaught_345 : decode cX7_isCaught 345 = .ok (.lshl, 1) := by decide +kernel
theorem dX7_isCaught_346 : decode cX7_isCaught 346 = .ok (.ldc2_w 105, 3) := by decide +kernel
theorem dX7_isCaught_349 : decode cX7_isCaught 349 = .ok (.lxor, 1) := by decide +kernel
theorem dX7_isCaught_350 : decode cX7_isCaught 350 = .ok (.land, 1) := by decide +kernel
theorem dX7_isCaught_351 : decode cX7_isCaught 351 = .ok (.lastore, 1) := by decide +kernel
theorem dX7_isCaught_352 : decode cX7_isCaught 352 = .ok (.aload_n 0, 1) := by decide +kernel
theorem dX7_isCaught_353 : decode cX7_isCaught 353 = .ok (.iload 4, 2) := by decide +kernel
theorem dX7_isCaught_355 : decode cX7_isCaught 355 = .ok (.iload_n 1, 1) := by decide +kernel
theorem dX7_isCaught_356 : decode cX7_isCaught 356 = .ok (.iload 7, 2) := by decide +kernel
theorem dX7_isCaught_358 : decode cX7_isCaught 358 = .ok (.invokevirtual 201, 3) := by decide +kernel
theorem dX7_isCaught_361 : decode cX7_isCaught 361 = .ok (.ifCond .eq 61, 3) := by decide +kernel
theorem dX7_isCaught_364 : decode cX7_isCaught 364 = .ok (.aload_n 0, 1) := by decide +kernel
theorem dX7_isCaught_365 : decode cX7_isCaught 365 = .ok (.invokevirtual 204, 3) := by decide +kernel
theorem dX7_isCaught_368 : decode cX7_isCaught 368 = .ok (.aload_n 0, 1) := by decide +kernel
theorem dX7_isCaught_369 : decode cX7_isCaught 369 = .ok (.getfield 58, 3) := by decide +kernel
theorem dX7_isCaught_372 : decode cX7_isCaught 372 = .ok (.iload 4, 2) := by decide +kernel
theorem dX7_isCaught_374 : decode cX7_isCaught 374 = .ok (.aload_n 0, 1) := by decide +kernel
theorem dX7_isCaught_375 : decode cX7_isCaught 375 = .ok (.getfield 122, 3) := by decide +kernel
theorem dX7_isCaught_378 : decode cX7_isCaught 378 = .ok (.lastore, 1) := by decide +kernel
theorem dX7_isCaught_379 : decode cX7_isCaught 379 = .ok (.aload_n 0, 1) := by decide +kernel
theorem dX7_isCaught_380 : decode cX7_isCaught 380 = .ok (.getfield 61, 3) := by decide +kernel
theorem dX7_isCaught_383 : decode cX7_isCaught 383 = .ok (.iload 4, 2) := by decide +kernel
theorem dX7_isCaught_385 : decode cX7_isCaught 385 = .ok (.aload_n 0, 1) := by decide +kernel
theorem dX7_isCaught_386 : decode cX7_isCaught 386 = .ok (.getfield 126, 3) := by decide +kernel
theorem dX7_isCaught_389 : decode cX7_isCaught 389 = .ok (.lastore, 1) := by decide +kernel
theorem dX7_isCaught_390 : decode cX7_isCaught 390 = .ok (.aload_n 0, 1) := by decide +kernel
theorem dX7_isCaught_391 : decode cX7_isCaught 391 = .ok (.aload_n 0, 1) := by decide +kernel
theorem dX7_isCaught_392 : decode cX7_isCaught 392 = .ok (.getfield 122, 3) := by decide +kernel
theorem dX7_isCaught_395 : decode cX7_isCaught 395 = .ok (.aload_n 0, 1) := by decide +kernel
theorem dX7_isCaught_396 : decode cX7_isCaught 396 = .ok (.getfield 126, 3) := by decide +kernel
theorem dX7_isCaught_399 : decode cX7_isCaught 399 = .ok (.iload_n 1, 1) := by decide +kernel
theorem dX7_isCaught_400 : decode cX7_isCaught 400 = .ok (.iload_n 2, 1) := by decide +kernel
theorem dX7_isCaught_401 : decode cX7_isCaught 401 = .ok (.invokevirtual 190, 3) := by decide +kernel
theorem dX7_isCaught_404 : decode cX7_isCaught 404 = .ok (.invokestatic 115, 3) := by decide +kernel
theorem dX7_isCaught_407 : decode cX7_isCaught 407 = .ok (.iconst 1, 1) := by decide +kernel
theorem dX7_isCaught_408 : decode cX7_isCaught 408 = .ok (.if_icmp .ne 14, 3) := by decide +kernel
theorem dX7_isCaught_411 : decode cX7_isCaught 411 = .ok (.aload_n 0, 1) := by decide +kernel
theorem dX7_isCaught_412 : decode cX7_isCaught 412 = .ok (.iload 4, 2) := by decide +kernel
theorem dX7_isCaught_414 : decode cX7_isCaught 414 = .ok (.iload_n 1, 1) := by decide +kernel
theorem dX7_isCaught_415 : decode cX7_isCaught 415 = .ok (.iload_n 2, 1) := by decide +kernel
theorem dX7_isCaught_416 : decode cX7_isCaught 416 = .ok (.invokevirtual 213, 3) := by decide +kernel
theorem dX7_isCaught_419 : decode cX7_isCaught 419 = .ok (.iconst 1, 1) := by decide +kernel
theorem dX7_isCaught_420 : decode cX7_isCaught 420 = .ok (.istore 6, 2) := by decide +kernel
theorem dX7_isCaught_422 : decode cX7_isCaught 422 = .ok (.goto (-381), 3) := by decide +kernel
theorem dX7_isCaught_425 : decode cX7_isCaught 425 = .ok (.iload 6, 2) := by decide +kernel
theorem dX7_isCaught_427 : decode cX7_isCaught 427 = .ok (.ireturn, 1) := by decide +kernel
set_option maxRecDepth 20000 in
theorem ggX7_nextAnswer_X7_least : GoodIn wsX7_nextAnswer wsX7_least := goodIn_r _ [7] (by decide +kernel) (by decide +kernel)
set_option maxRecDepth 20000 in
theorem gX7_nextAnswer_X7_least : GoodIn wsX7_nextAnswer (va_wsS RX7 107 yX7_least wsX7_least) := goodIn_app (goodIn_of _ (by decide +kernel)) ggX7_nextAnswer_X7_least
theorem dX7_nextAnswer_0 : decode cX7_nextAnswer 0 = .ok (.aload_n 0, 1) := by decide +kernel
theorem dX7_nextAnswer_1 : decode cX7_nextAnswer 1 = .ok (.getfield 67, 3) := by decide +kernel
theorem dX7_nextAnswer_4 : decode cX7_nextAnswer 4 = .ok (.iload_n 1, 1) := by decide +kernel
theorem dX7_nextAnswer_5 : decode cX7_nextAnswer 5 = .ok (.iaload, 1) := by decide +kernel
theorem dX7_nextAnswer_6 : decode cX7_nextAnswer 6 = .ok (.iconst (-1), 1) := by decide +kernel
theorem dX7_nextAnswer_7 : decode cX7_nextAnswer 7 = .ok (.if_icmp .eq 12, 3) := by decide +kernel
theorem dX7_nextAnswer_10 : decode cX7_nextAnswer 10 = .ok (.aload_n 0, 1) := by decide +kernel
theorem dX7_nextAnswer_11 : decode cX7_nextAnswer 11 = .ok (.getfield 67, 3) := by decide +kernel
theorem dX7_nextAnswer_14 : decode cX7_nextAnswer 14 = .ok (.iload_n 1, 1) := by decide +kernel
theorem dX7_nextAnswer_15 : decode cX7_nextAnswer 15 = .ok (.iaload, 1) := by decide +kernel
theorem dX7_nextAnswer_16 : decode cX7_nextAnswer 16 = .ok (.goto 13, 3) := by decide +kernel
theorem dX7_nextAnswer_19 : decode cX7_nextAnswer 19 = .ok (.aload_n 0, 1) := by decide +kernel
theorem dX7_nextAnswer_20 : decode cX7_nextAnswer 20 = .ok (.getfield 64, 3) := by decide +kernel
theorem dX7_nextAnswer_23 : decode cX7_nextAnswer 23 = .ok (.iload_n 1, 1) := by decide +kernel
theorem dX7_nextAnswer_24 : decode cX7_nextAnswer 24 = .ok (.laload, 1) := by decide +kernel
theorem dX7_nextAnswer_25 : decode cX7_nextAnswer 25 = .ok (.iconst 0, 1) := by decide +kernel
theorem dX7_nextAnswer_26 : decode cX7_nextAnswer 26 = .ok (.invokestatic 107, 3) := by decide +kernel
theorem dX7_nextAnswer_29 : decode cX7_nextAnswer 29 = .ok (.istore_n 2, 1) := by decide +kernel
theorem dX7_nextAnswer_30 : decode cX7_nextAnswer 30 = .ok (.aload_n 0, 1) := by decide +kernel
theorem dX7_nextAnswer_31 : decode cX7_nextAnswer 31 = .ok (.getfield 67, 3) := by decide +kernel
theorem dX7_nextAnswer_34 : decode cX7_nextAnswer 34 = .ok (.iload_n 1, 1) := by decide +kernel
theorem dX7_nextAnswer_35 : decode cX7_nextAnswer 35 = .ok (.iconst (-1), 1) := by decide +kernel
theorem dX7_nextAnswer_36 : decode cX7_nextAnswer 36 = .ok (.iastore, 1) := by decide +kernel
theorem dX7_nextAnswer_37 : decode cX7_nextAnswer 37 = .ok (.aload_n 0, 1) := by decide +kernel
theorem dX7_nextAnswer_38 : decode cX7_nextAnswer 38 = .ok (.getfield 64, 3) := by decide +kernel
theorem dX7_nextAnswer_41 : decode cX7_nextAnswer 41 = .ok (.iload_n 1, 1) := by decide +kernel
theorem dX7_nextAnswer_42 : decode cX7_nextAnswer 42 = .ok (.dup2, 1) := by decide +kernel
theorem dX7_nextAnswer_43 : decode cX7_nextAnswer 43 = .ok (.laload, 1) := by decide +kernel
theorem dX7_nextAnswer_44 : decode cX7_nextAnswer 44 = .ok (.iload_n 2, 1) := by decide +kernel
theorem dX7_nextAnswer_45 : decode cX7_nextAnswer 45 = .ok (.iconst (-1), 1) := by decide +kernel
theorem dX7_nextAnswer_46 : decode cX7_nextAnswer 46 = .ok (.if_icmp .ne 9, 3) := by decide +kernel
theorem dX7_nextAnswer_49 : decode cX7_nextAnswer 49 = .ok (.ldc2_w 105, 3) := by decide +kernel
theorem dX7_nextAnswer_52 : decode cX7_nextAnswer 52 = .ok (.goto 10, 3) := by decide +kernel
theorem dX7_nextAnswer_55 : decode cX7_nextAnswer 55 = .ok (.lconst 1, 1) := by decide +kernel
theorem dX7_nextAnswer_56 : decode cX7_nextAnswer 56 = .ok (.iload_n 2, 1) := by decide +kernel
theorem dX7_nextAnswer_57 : decode cX7_nextAnswer 57 = .ok (.lshl, 1) := by decide +kernel
theorem dX7_nextAnswer_58 : decode cX7_nextAnswer 58 = .ok (.ldc2_w 105, 3) := by decide +kernel
theorem dX7_nextAnswer_61 : decode cX7_nextAnswer 61 = .ok (.lxor, 1) := by decide +kernel
theorem dX7_nextAnswer_62 : decode cX7_nextAnswer 62 = .ok (.land, 1) := by decide +kernel
theorem dX7_nextAnswer_63 : decode cX7_nextAnswer 63 = .ok (.lastore, 1) := by decide +kernel
theorem dX7_nextAnswer_64 : decode cX7_nextAnswer 64 = .ok (.iload_n 2, 1) := by decide +kernel
theorem dX7_nextAnswer_65 : decode cX7_nextAnswer 65 = .ok (.ireturn, 1) := by decide +kernel
set_option maxRecDepth 20000 in
theorem ggX7_mayAnswer_X7_laid : GoodIn wsX7_mayAnswer wsX7_laid := goodIn_r _ [9, 10, 11, 12, 13, 14, 15, 16, 8, 17, 18, 19, 20, 21, 22, 23, 24, 25, 26, 27, 28, 29, 30, 31, 32, 33, 34, 35, 36, 37, 38, 39, 40, 41, 42, 47, 48, 49, 50, 51, 52, 53, 54, 55, 56, 57, 58, 59, 60, 61, 62, 63, 64, 65, 66, 67, 68, 69, 70, 71, 72, 73, 74, 75] (by decide +kernel) (by decide +kernel)
set_option maxRecDepth 20000 in
theorem gX7_mayAnswer_X7_laid : GoodIn wsX7_mayAnswer (wsV RX7 136 RX7 yX7_laid wsX7_laid) := goodIn_app (goodIn_of _ (by decide +kernel)) ggX7_mayAnswer_X7_laid
set_option maxRecDepth 20000 in
theorem ggX7_mayAnswer_X7_isAt : GoodIn wsX7_mayAnswer wsX7_isAt := goodIn_r _ [46, 13, 14, 47, 48, 49, 50, 51, 52, 53, 54, 55, 56, 57, 58, 59, 60, 61, 62, 63, 64, 65, 66, 67, 68, 69, 70, 71, 72, 73, 74, 75] (by decide +kernel) (by decide +kernel)
set_option maxRecDepth 20000 in
theorem gX7_mayAnswer_X7_isAt : GoodIn wsX7_mayAnswer (wsV RX7 194 RX7 yX7_isAt wsX7_isAt) := goodIn_app (goodIn_of _ (by decide +kernel)) ggX7_mayAnswer_X7_isAt
theorem dX7_mayAnswer_0 : decode cX7_mayAnswer 0 = .ok (.aload_n 0, 1) := by decide +kernel
theorem dX7_mayAnswer_1 : decode cX7_mayAnswer 1 = .ok (.aload_n 0, 1) := by decide +kernel
theorem dX7_mayAnswer_2 : decode cX7_mayAnswer 2 = .ok (.getfield 58, 3) := by decide +kernel
theorem dX7_mayAnswer_5 : decode cX7_mayAnswer 5 = .ok (.iload_n 1, 1) := by decide +kernel
theorem dX7_mayAnswer_6 : decode cX7_mayAnswer 6 = .ok (.laload, 1) := by decide +kernel
theorem dX7_mayAnswer_7 : decode cX7_mayAnswer 7 = .ok (.aload_n 0, 1) := by decide +kernel
theorem dX7_mayAnswer_8 : decode cX7_mayAnswer 8 = .ok (.getfield 61, 3) := by decide +kernel
theorem dX7_mayAnswer_11 : decode cX7_mayAnswer 11 = .ok (.iload_n 1, 1) := by decide +kernel
theorem dX7_mayAnswer_12 : decode cX7_mayAnswer 12 = .ok (.laload, 1) := by decide +kernel
theorem dX7_mayAnswer_13 : decode cX7_mayAnswer 13 = .ok (.iload_n 2, 1) := by decide +kernel
theorem dX7_mayAnswer_14 : decode cX7_mayAnswer 14 = .ok (.iload_n 3, 1) := by decide +kernel
theorem dX7_mayAnswer_15 : decode cX7_mayAnswer 15 = .ok (.invokevirtual 136, 3) := by decide +kernel
theorem dX7_mayAnswer_18 : decode cX7_mayAnswer 18 = .ok (.ifCond .ne 26, 3) := by decide +kernel
theorem dX7_mayAnswer_21 : decode cX7_mayAnswer 21 = .ok (.aload_n 0, 1) := by decide +kernel
theorem dX7_mayAnswer_22 : decode cX7_mayAnswer 22 = .ok (.aload_n 0, 1) := by decide +kernel
theorem dX7_mayAnswer_23 : decode cX7_mayAnswer 23 = .ok (.getfield 39, 3) := by decide +kernel
theorem dX7_mayAnswer_26 : decode cX7_mayAnswer 26 = .ok (.iload_n 1, 1) := by decide +kernel
theorem dX7_mayAnswer_27 : decode cX7_mayAnswer 27 = .ok (.laload, 1) := by decide +kernel
theorem dX7_mayAnswer_28 : decode cX7_mayAnswer 28 = .ok (.aload_n 0, 1) := by decide +kernel
theorem dX7_mayAnswer_29 : decode cX7_mayAnswer 29 = .ok (.getfield 42, 3) := by decide +kernel
