theorem dX6_at_24 : decode cX6_at 24 = .ok (.ireturn, 1) := by decide +kernel
set_option maxRecDepth 20000 in
theorem ggX6_group_X2_has : GoodIn wsX6_group wsX2_has := goodIn_r _ [10, 11, 100, 101, 102, 103, 104, 105] (by decide +kernel) (by decide +kernel)
set_option maxRecDepth 20000 in
theorem gX6_group_X2_has : GoodIn wsX6_group (wsV RX6 76 RX2 yX2_has wsX2_has) := goodIn_app (goodIn_of _ (by decide +kernel)) ggX6_group_X2_has
set_option maxRecDepth 20000 in
theorem ggX6_group_X4_colourAt : GoodIn wsX6_group wsX4_colourAt := goodIn_r _ [16, 17, 18, 19, 15, 20, 21, 22, 23, 24, 25, 26, 27, 28, 29, 9, 30, 106, 107, 108, 109, 110, 111, 112, 113, 114] (by decide +kernel) (by decide +kernel)
set_option maxRecDepth 20000 in
theorem gX6_group_X4_colourAt : GoodIn wsX6_group (wsV RX6 123 RX4 yX4_colourAt wsX4_colourAt) := goodIn_app (goodIn_of _ (by decide +kernel)) ggX6_group_X4_colourAt
set_option maxRecDepth 20000 in
theorem ggX6_group_X4_stonesOf : GoodIn wsX6_group wsX4_stonesOf := goodIn_r _ [20, 21, 22, 23, 24, 15, 25, 26, 27, 106, 107, 108, 109, 110, 111, 112, 113, 114] (by decide +kernel) (by decide +kernel)
set_option maxRecDepth 20000 in
theorem gX6_group_X4_stonesOf : GoodIn wsX6_group (wsV RX6 82 RX4 yX4_stonesOf wsX4_stonesOf) := goodIn_app (goodIn_of _ (by decide +kernel)) ggX6_group_X4_stonesOf
set_option maxRecDepth 20000 in
theorem ggX6_group_X2_spread : GoodIn wsX6_group wsX2_spread := goodIn_r _ [35, 36, 37, 38, 9, 39, 40, 41, 42, 43, 100, 101, 102, 103, 104, 105] (by decide +kernel) (by decide +kernel)
set_option maxRecDepth 20000 in
theorem gX6_group_X2_spread : GoodIn wsX6_group (wsV RX6 126 RX2 yX2_spread wsX2_spread) := goodIn_app (goodIn_of _ (by decide +kernel)) ggX6_group_X2_spread
set_option maxRecDepth 20000 in
theorem ggX6_group_J13_bitCount_95d88 : GoodIn wsX6_group wsJ13_bitCount_95d88 := goodIn_r _ [47, 48, 49, 50] (by decide +kernel) (by decide +kernel)
set_option maxRecDepth 20000 in
theorem gX6_group_J13_bitCount_95d88 : GoodIn wsX6_group (va_wsS RX6 130 yJ13_bitCount_95d88 wsJ13_bitCount_95d88) := goodIn_app (goodIn_of _ (by decide +kernel)) ggX6_group_J13_bitCount_95d88
set_option maxRecDepth 20000 in
theorem ggX6_group_X2_beside : GoodIn wsX6_group wsX2_beside := goodIn_r _ [39, 40, 41, 42, 43, 100, 101, 102, 103, 104, 105] (by decide +kernel) (by decide +kernel)
set_option maxRecDepth 20000 in
theorem gX6_group_X2_beside : GoodIn wsX6_group (wsV RX6 136 RX2 yX2_beside wsX2_beside) := goodIn_app (goodIn_of _ (by decide +kernel)) ggX6_group_X2_beside
set_option maxRecDepth 20000 in
theorem ggX6_group_X4_free : GoodIn wsX6_group wsX4_free := goodIn_r _ [55, 56, 57, 21, 58, 22, 23, 24, 15, 25, 26, 27, 106, 107, 108, 109, 110, 111, 112, 113, 114, 100, 101, 102, 103, 104, 105] (by decide +kernel) (by decide +kernel)
set_option maxRecDepth 20000 in
theorem gX6_group_X4_free : GoodIn wsX6_group (wsV RX6 140 RX4 yX4_free wsX4_free) := goodIn_app (goodIn_of _ (by decide +kernel)) ggX6_group_X4_free
set_option maxRecDepth 20000 in
theorem ggX6_group_X2_nth : GoodIn wsX6_group wsX2_nth := goodIn_r _ [62, 11, 63, 29, 9, 30, 100, 101, 102, 103, 104, 105] (by decide +kernel) (by decide +kernel)
set_option maxRecDepth 20000 in
theorem gX6_group_X2_nth : GoodIn wsX6_group (wsV RX6 144 RX2 yX2_nth wsX2_nth) := goodIn_app (goodIn_of _ (by decide +kernel)) ggX6_group_X2_nth
set_option maxRecDepth 20000 in
theorem ggX6_group_X3_vitalRegions : GoodIn wsX6_group wsX3_vitalRegions := goodIn_r _ [68, 69, 70, 71, 72, 73, 9, 74, 36, 37, 38, 39, 40, 41, 42, 43, 75, 33, 34, 35, 76, 77, 78, 67, 79, 80, 81, 115, 100, 101, 102, 103, 104, 105] (by decide +kernel) (by decide +kernel)
set_option maxRecDepth 20000 in
theorem gX6_group_X3_vitalRegions : GoodIn wsX6_group (wsV RX6 148 RX3 yX3_vitalRegions wsX3_vitalRegions) := goodIn_app (goodIn_of _ (by decide +kernel)) ggX6_group_X3_vitalRegions
set_option maxRecDepth 20000 in
theorem ggX6_group_X3_standingStones : GoodIn wsX6_group wsX3_standingStones := goodIn_r _ [85, 69, 86, 80, 87, 88, 89, 67, 90, 70, 71, 72, 73, 9, 74, 36, 37, 38, 39, 40, 41, 42, 43, 75, 33, 34, 35, 91, 65, 66, 68, 76, 77, 78, 79, 81, 92, 115, 100, 101, 102, 103, 104, 105] (by decide +kernel) (by decide +kernel)
set_option maxRecDepth 20000 in
theorem gX6_group_X3_standingStones : GoodIn wsX6_group (wsV RX6 152 RX3 yX3_standingStones wsX3_standingStones) := goodIn_app (goodIn_of _ (by decide +kernel)) ggX6_group_X3_standingStones
theorem dX6_group_0 : decode cX6_group 0 = .ok (.aload_n 0, 1) := by decide +kernel
theorem dX6_group_1 : decode cX6_group 1 = .ok (.getfield 12, 3) := by decide +kernel
theorem dX6_group_4 : decode cX6_group 4 = .ok (.iload_n 1, 1) := by decide +kernel
theorem dX6_group_5 : decode cX6_group 5 = .ok (.invokevirtual 76, 3) := by decide +kernel
theorem dX6_group_8 : decode cX6_group 8 = .ok (.ifCond .eq 12, 3) := by decide +kernel
theorem dX6_group_11 : decode cX6_group 11 = .ok (.iload_n 2, 1) := by decide +kernel
theorem dX6_group_12 : decode cX6_group 12 = .ok (.ifCond .lt 8, 3) := by decide +kernel
theorem dX6_group_15 : decode cX6_group 15 = .ok (.iload_n 2, 1) := by decide +kernel
theorem dX6_group_16 : decode cX6_group 16 = .ok (.iconst 4, 1) := by decide +kernel
theorem dX6_group_17 : decode cX6_group 17 = .ok (.if_icmp .le 6, 3) := by decide +kernel
theorem dX6_group_20 : decode cX6_group 20 = .ok (.bipush (-2), 2) := by decide +kernel
theorem dX6_group_22 : decode cX6_group 22 = .ok (.ireturn, 1) := by decide +kernel
theorem dX6_group_23 : decode cX6_group 23 = .ok (.aload_n 0, 1) := by decide +kernel
theorem dX6_group_24 : decode cX6_group 24 = .ok (.getfield 25, 3) := by decide +kernel
theorem dX6_group_27 : decode cX6_group 27 = .ok (.iload_n 1, 1) := by decide +kernel
theorem dX6_group_28 : decode cX6_group 28 = .ok (.invokevirtual 123, 3) := by decide +kernel
theorem dX6_group_31 : decode cX6_group 31 = .ok (.istore_n 3, 1) := by decide +kernel
theorem dX6_group_32 : decode cX6_group 32 = .ok (.iload_n 3, 1) := by decide +kernel
theorem dX6_group_33 : decode cX6_group 33 = .ok (.ifCond .ne 6, 3) := by decide +kernel
theorem dX6_group_36 : decode cX6_group 36 = .ok (.bipush (-3), 2) := by decide +kernel
theorem dX6_group_38 : decode cX6_group 38 = .ok (.ireturn, 1) := by decide +kernel
theorem dX6_group_39 : decode cX6_group 39 = .ok (.aload_n 0, 1) := by decide +kernel
theorem dX6_group_40 : decode cX6_group 40 = .ok (.getfield 25, 3) := by decide +kernel
theorem dX6_group_43 : decode cX6_group 43 = .ok (.iload_n 3, 1) := by decide +kernel
theorem dX6_group_44 : decode cX6_group 44 = .ok (.invokevirtual 82, 3) := by decide +kernel
theorem dX6_group_47 : decode cX6_group 47 = .ok (.lstore 4, 2) := by decide +kernel
theorem dX6_group_49 : decode cX6_group 49 = .ok (.aload_n 0, 1) := by decide +kernel
theorem dX6_group_50 : decode cX6_group 50 = .ok (.getfield 12, 3) := by decide +kernel
theorem dX6_group_53 : decode cX6_group 53 = .ok (.lconst 1, 1) := by decide +kernel
theorem dX6_group_54 : decode cX6_group 54 = .ok (.iload_n 1, 1) := by decide +kernel
theorem dX6_group_55 : decode cX6_group 55 = .ok (.lshl, 1) := by decide +kernel
theorem dX6_group_56 : decode cX6_group 56 = .ok (.lload 4, 2) := by decide +kernel
theorem dX6_group_58 : decode cX6_group 58 = .ok (.invokevirtual 126, 3) := by decide +kernel
theorem dX6_group_61 : decode cX6_group 61 = .ok (.lstore 6, 2) := by decide +kernel
theorem dX6_group_63 : decode cX6_group 63 = .ok (.iload_n 2, 1) := by decide +kernel
theorem dX6_group_64 : decode cX6_group 64 = .ok (.tableswitch 101 0 3 #[32, 38, 59, 70], 32) := by decide +kernel
theorem dX6_group_96 : decode cX6_group 96 = .ok (.lload 6, 2) := by decide +kernel
theorem dX6_group_98 : decode cX6_group 98 = .ok (.invokestatic 130, 3) := by decide +kernel
theorem dX6_group_101 : decode cX6_group 101 = .ok (.ireturn, 1) := by decide +kernel
theorem dX6_group_102 : decode cX6_group 102 = .ok (.aload_n 0, 1) := by decide +kernel
theorem dX6_group_103 : decode cX6_group 103 = .ok (.getfield 12, 3) := by decide +kernel
theorem dX6_group_106 : decode cX6_group 106 = .ok (.lload 6, 2) := by decide +kernel
theorem dX6_group_108 : decode cX6_group 108 = .ok (.invokevirtual 136, 3) := by decide +kernel
theorem dX6_group_111 : decode cX6_group 111 = .ok (.aload_n 0, 1) := by decide +kernel
theorem dX6_group_112 : decode cX6_group 112 = .ok (.getfield 25, 3) := by decide +kernel
theorem dX6_group_115 : decode cX6_group 115 = .ok (.invokevirtual 140, 3) := by decide +kernel
theorem dX6_group_118 : decode cX6_group 118 = .ok (.land, 1) := by decide +kernel
theorem dX6_group_119 : decode cX6_group 119 = .ok (.invokestatic 130, 3) := by decide +kernel
theorem dX6_group_122 : decode cX6_group 122 = .ok (.ireturn, 1) := by decide +kernel
theorem dX6_group_123 : decode cX6_group 123 = .ok (.aload_n 0, 1) := by decide +kernel
theorem dX6_group_124 : decode cX6_group 124 = .ok (.getfield 12, 3) := by decide +kernel
theorem dX6_group_127 : decode cX6_group 127 = .ok (.lload 6, 2) := by decide +kernel
theorem dX6_group_129 : decode cX6_group 129 = .ok (.iconst 0, 1) := by decide +kernel
theorem dX6_group_130 : decode cX6_group 130 = .ok (.invokevirtual 144, 3) := by decide +kernel
theorem dX6_group_133 : decode cX6_group 133 = .ok (.ireturn, 1) := by decide +kernel
theorem dX6_group_134 : decode cX6_group 134 = .ok (.aload_n 0, 1) := by decide +kernel
theorem dX6_group_135 : decode cX6_group 135 = .ok (.getfield 38, 3) := by decide +kernel
theorem dX6_group_138 : decode cX6_group 138 = .ok (.lload 6, 2) := by decide +kernel
theorem dX6_group_140 : decode cX6_group 140 = .ok (.aload_n 0, 1) := by decide +kernel
theorem dX6_group_141 : decode cX6_group 141 = .ok (.getfield 12, 3) := by decide +kernel
theorem dX6_group_144 : decode cX6_group 144 = .ok (.getfield 88, 3) := by decide +kernel
theorem dX6_group_147 : decode cX6_group 147 = .ok (.lload 4, 2) := by decide +kernel
theorem dX6_group_149 : decode cX6_group 149 = .ok (.ldc2_w 86, 3) := by decide +kernel
theorem dX6_group_152 : decode cX6_group 152 = .ok (.lxor, 1) := by decide +kernel
theorem dX6_group_153 : decode cX6_group 153 = .ok (.land, 1) := by decide +kernel
theorem dX6_group_154 : decode cX6_group 154 = .ok (.aload_n 0, 1) := by decide +kernel
theorem dX6_group_155 : decode cX6_group 155 = .ok (.getfield 25, 3) := by decide +kernel
theorem dX6_group_158 : decode cX6_group 158 = .ok (.invokevirtual 140, 3) := by decide +kernel
theorem dX6_group_161 : decode cX6_group 161 = .ok (.invokevirtual 148, 3) := by decide +kernel
theorem dX6_group_164 : decode cX6_group 164 = .ok (.ireturn, 1) := by decide +kernel
theorem dX6_group_165 : decode cX6_group 165 = .ok (.lload 6, 2) := by decide +kernel
theorem dX6_group_167 : decode cX6_group 167 = .ok (.aload_n 0, 1) := by decide +kernel
theorem dX6_group_168 : decode cX6_group 168 = .ok (.getfield 38, 3) := by decide +kernel
theorem dX6_group_171 : decode cX6_group 171 = .ok (.lload 4, 2) := by decide +kernel
theorem dX6_group_173 : decode cX6_group 173 = .ok (.aload_n 0, 1) := by decide +kernel
theorem dX6_group_174 : decode cX6_group 174 = .ok (.getfield 25, 3) := by decide +kernel
theorem dX6_group_177 : decode cX6_group 177 = .ok (.invokevirtual 140, 3) := by decide +kernel
theorem dX6_group_180 : decode cX6_group 180 = .ok (.invokevirtual 152, 3) := by decide +kernel
theorem dX6_group_183 : decode cX6_group 183 = .ok (.land, 1) := by decide +kernel
theorem dX6_group_184 : decode cX6_group 184 = .ok (.lconst 0, 1) := by decide +kernel
theorem dX6_group_185 : decode cX6_group 185 = .ok (.lcmp, 1) := by decide +kernel
theorem dX6_group_186 : decode cX6_group 186 = .ok (.ifCond .eq 7, 3) := by decide +kernel
theorem dX6_group_189 : decode cX6_group 189 = .ok (.iconst 1, 1) := by decide +kernel
theorem dX6_group_190 : decode cX6_group 190 = .ok (.goto 4, 3) := by decide +kernel
theorem dX6_group_193 : decode cX6_group 193 = .ok (.iconst 0, 1) := by decide +kernel
theorem dX6_group_194 : decode cX6_group 194 = .ok (.ireturn, 1) := by decide +kernel
set_option maxRecDepth 20000 in
theorem ggX6_breath_X2_has : GoodIn wsX6_breath wsX2_has := goodIn_r _ [7, 8, 61, 62, 63, 64, 65, 66] (by decide +kernel) (by decide +kernel)
set_option maxRecDepth 20000 in
theorem gX6_breath_X2_has : GoodIn wsX6_breath (wsV RX6 76 RX2 yX2_has wsX2_has) := goodIn_app (goodIn_of _ (by decide +kernel)) ggX6_breath_X2_has
set_option maxRecDepth 20000 in
theorem ggX6_breath_X4_colourAt : GoodIn wsX6_breath wsX4_colourAt := goodIn_r _ [13, 14, 15, 16, 12, 17, 18, 19, 20, 21, 22, 23, 24, 25, 26, 6, 27, 67, 68, 69, 70, 71, 72, 73, 74, 75] (by decide +kernel) (by decide +kernel)
set_option maxRecDepth 20000 in
theorem gX6_breath_X4_colourAt : GoodIn wsX6_breath (wsV RX6 123 RX4 yX4_colourAt wsX4_colourAt) := goodIn_app (goodIn_of _ (by decide +kernel)) ggX6_breath_X4_colourAt
set_option maxRecDepth 20000 in
theorem ggX6_breath_X4_stonesOf : GoodIn wsX6_breath wsX4_stonesOf := goodIn_r _ [17, 18, 19, 20, 21, 12, 22, 23, 24, 67, 68, 69, 70, 71, 72, 73, 74, 75] (by decide +kernel) (by decide +kernel)
set_option maxRecDepth 20000 in
theorem gX6_breath_X4_stonesOf : GoodIn wsX6_breath (wsV RX6 82 RX4 yX4_stonesOf wsX4_stonesOf) := goodIn_app (goodIn_of _ (by decide +kernel)) ggX6_breath_X4_stonesOf
set_option maxRecDepth 20000 in
theorem ggX6_breath_X2_spread : GoodIn wsX6_breath wsX2_spread := goodIn_r _ [32, 33, 34, 35, 6, 36, 37, 38, 39, 40, 61, 62, 63, 64, 65, 66] (by decide +kernel) (by decide +kernel)
set_option maxRecDepth 20000 in
theorem gX6_breath_X2_spread : GoodIn wsX6_breath (wsV RX6 126 RX2 yX2_spread wsX2_spread) := goodIn_app (goodIn_of _ (by decide +kernel)) ggX6_breath_X2_spread
set_option maxRecDepth 20000 in
theorem ggX6_breath_X2_beside : GoodIn wsX6_breath wsX2_beside := goodIn_r _ [36, 37, 38, 39, 40, 61, 62, 63, 64, 65, 66] (by decide +kernel) (by decide +kernel)
set_option maxRecDepth 20000 in
theorem gX6_breath_X2_beside : GoodIn wsX6_breath (wsV RX6 136 RX2 yX2_beside wsX2_beside) := goodIn_app (goodIn_of _ (by decide +kernel)) ggX6_breath_X2_beside
set_option maxRecDepth 20000 in
theorem ggX6_breath_X4_free : GoodIn wsX6_breath wsX4_free := goodIn_r _ [45, 46, 47, 18, 48, 19, 20, 21, 12, 22, 23, 24, 67, 68, 69, 70, 71, 72, 73, 74, 75, 61, 62, 63, 64, 65, 66] (by decide +kernel) (by decide +kernel)
set_option maxRecDepth 20000 in
theorem gX6_breath_X4_free : GoodIn wsX6_breath (wsV RX6 140 RX4 yX4_free wsX4_free) := goodIn_app (goodIn_of _ (by decide +kernel)) ggX6_breath_X4_free
set_option maxRecDepth 20000 in
theorem ggX6_breath_X2_nth : GoodIn wsX6_breath wsX2_nth := goodIn_r _ [52, 8, 53, 26, 6, 27, 61, 62, 63, 64, 65, 66] (by decide +kernel) (by decide +kernel)
set_option maxRecDepth 20000 in
theorem gX6_breath_X2_nth : GoodIn wsX6_breath (wsV RX6 144 RX2 yX2_nth wsX2_nth) := goodIn_app (goodIn_of _ (by decide +kernel)) ggX6_breath_X2_nth
theorem dX6_breath_0 : decode cX6_breath 0 = .ok (.aload_n 0, 1) := by decide +kernel
theorem dX6_breath_1 : decode cX6_breath 1 = .ok (.getfield 12, 3) := by decide +kernel
theorem dX6_breath_4 : decode cX6_breath 4 = .ok (.iload_n 1, 1) := by decide +kernel
theorem dX6_breath_5 : decode cX6_breath 5 = .ok (.invokevirtual 76, 3) := by decide +kernel
theorem dX6_breath_8 : decode cX6_breath 8 = .ok (.ifCond .ne 6, 3) := by decide +kernel
theorem dX6_breath_11 : decode cX6_breath 11 = .ok (.bipush (-2), 2) := by decide +kernel
theorem dX6_breath_13 : decode cX6_breath 13 = .ok (.ireturn, 1) := by decide +kernel
theorem dX6_breath_14 : decode cX6_breath 14 = .ok (.aload_n 0, 1) := by decide +kernel
theorem dX6_breath_15 : decode cX6_breath 15 = .ok (.getfield 25, 3) := by decide +kernel
theorem dX6_breath_18 : decode cX6_breath 18 = .ok (.iload_n 1, 1) := by decide +kernel
theorem dX6_breath_19 : decode cX6_breath 19 = .ok (.invokevirtual 123, 3) := by decide +kernel
theorem dX6_breath_22 : decode cX6_breath 22 = .ok (.istore_n 3, 1) := by decide +kernel
theorem dX6_breath_23 : decode cX6_breath 23 = .ok (.iload_n 3, 1) := by decide +kernel
theorem dX6_breath_24 : decode cX6_breath 24 = .ok (.ifCond .ne 6, 3) := by decide +kernel
theorem dX6_breath_27 : decode cX6_breath 27 = .ok (.bipush (-3), 2) := by decide +kernel
theorem dX6_breath_29 : decode cX6_breath 29 = .ok (.ireturn, 1) := by decide +kernel
theorem dX6_breath_30 : decode cX6_breath 30 = .ok (.aload_n 0, 1) := by decide +kernel
theorem dX6_breath_31 : decode cX6_breath 31 = .ok (.getfield 12, 3) := by decide +kernel
theorem dX6_breath_34 : decode cX6_breath 34 = .ok (.lconst 1, 1) := by decide +kernel
theorem dX6_breath_35 : decode cX6_breath 35 = .ok (.iload_n 1, 1) := by decide +kernel
theorem dX6_breath_36 : decode cX6_breath 36 = .ok (.lshl, 1) := by decide +kernel
theorem dX6_breath_37 : decode cX6_breath 37 = .ok (.aload_n 0, 1) := by decide +kernel
theorem dX6_breath_38 : decode cX6_breath 38 = .ok (.getfield 25, 3) := by decide +kernel
theorem dX6_breath_41 : decode cX6_breath 41 = .ok (.iload_n 3, 1) := by decide +kernel
theorem dX6_breath_42 : decode cX6_breath 42 = .ok (.invokevirtual 82, 3) := by decide +kernel
theorem dX6_breath_45 : decode cX6_breath 45 = .ok (.invokevirtual 126, 3) := by decide +kernel
theorem dX6_breath_48 : decode cX6_breath 48 = .ok (.lstore 4, 2) := by decide +kernel
theorem dX6_breath_50 : decode cX6_breath 50 = .ok (.aload_n 0, 1) := by decide +kernel
theorem dX6_breath_51 : decode cX6_breath 51 = .ok (.getfield 12, 3) := by decide +kernel
theorem dX6_breath_54 : decode cX6_breath 54 = .ok (.aload_n 0, 1) := by decide +kernel
theorem dX6_breath_55 : decode cX6_breath 55 = .ok (.getfield 12, 3) := by decide +kernel
theorem dX6_breath_58 : decode cX6_breath 58 = .ok (.lload 4, 2) := by decide +kernel
theorem dX6_breath_60 : decode cX6_breath 60 = .ok (.invokevirtual 136, 3) := by decide +kernel
theorem dX6_breath_63 : decode cX6_breath 63 = .ok (.aload_n 0, 1) := by decide +kernel
theorem dX6_breath_64 : decode cX6_breath 64 = .ok (.getfield 25, 3) := by decide +kernel
theorem dX6_breath_67 : decode cX6_breath 67 = .ok (.invokevirtual 140, 3) := by decide +kernel
theorem dX6_breath_70 : decode cX6_breath 70 = .ok (.land, 1) := by decide +kernel
theorem dX6_breath_71 : decode cX6_breath 71 = .ok (.iload_n 2, 1) := by decide +kernel
theorem dX6_breath_72 : decode cX6_breath 72 = .ok (.invokevirtual 144, 3) := by decide +kernel
theorem dX6_breath_75 : decode cX6_breath 75 = .ok (.ireturn, 1) := by decide +kernel
set_option maxRecDepth 20000 in
theorem ggX6_region_X6_isColour : GoodIn wsX6_region wsX6_isColour := goodIn_r _ [9] (by decide +kernel) (by decide +kernel)
set_option maxRecDepth 20000 in
theorem gX6_region_X6_isColour : GoodIn wsX6_region (va_wsS RX6 79 yX6_isColour wsX6_isColour) := goodIn_app (goodIn_of _ (by decide +kernel)) ggX6_region_X6_isColour
set_option maxRecDepth 20000 in
theorem ggX6_region_X2_has : GoodIn wsX6_region wsX2_has := goodIn_r _ [14, 15, 96, 97, 98, 99, 100, 101] (by decide +kernel) (by decide +kernel)
set_option maxRecDepth 20000 in
theorem gX6_region_X2_has : GoodIn wsX6_region (wsV RX6 76 RX2 yX2_has wsX2_has) := goodIn_app (goodIn_of _ (by decide +kernel)) ggX6_region_X2_has
set_option maxRecDepth 20000 in
theorem ggX6_region_X4_colourAt : GoodIn wsX6_region wsX4_colourAt := goodIn_r _ [20, 21, 22, 23, 19, 24, 25, 26, 27, 28, 29, 30, 31, 32, 33, 13, 34, 102, 103, 104, 105, 106, 107, 108, 109, 110] (by decide +kernel) (by decide +kernel)
set_option maxRecDepth 20000 in
theorem gX6_region_X4_colourAt : GoodIn wsX6_region (wsV RX6 123 RX4 yX4_colourAt wsX4_colourAt) := goodIn_app (goodIn_of _ (by decide +kernel)) ggX6_region_X4_colourAt
set_option maxRecDepth 20000 in
theorem ggX6_region_X4_stonesOf : GoodIn wsX6_region wsX4_stonesOf := goodIn_r _ [24, 25, 26, 27, 28, 19, 29, 30, 31, 102, 103, 104, 105, 106, 107, 108, 109, 110] (by decide +kernel) (by decide +kernel)
set_option maxRecDepth 20000 in
theorem gX6_region_X4_stonesOf : GoodIn wsX6_region (wsV RX6 82 RX4 yX4_stonesOf wsX4_stonesOf) := goodIn_app (goodIn_of _ (by decide +kernel)) ggX6_region_X4_stonesOf
set_option maxRecDepth 20000 in
theorem ggX6_region_X2_spread : GoodIn wsX6_region wsX2_spread := goodIn_r _ [39, 40, 41, 42, 13, 43, 44, 45, 46, 47, 96, 97, 98, 99, 100, 101] (by decide +kernel) (by decide +kernel)
set_option maxRecDepth 20000 in
theorem gX6_region_X2_spread : GoodIn wsX6_region (wsV RX6 126 RX2 yX2_spread wsX2_spread) := goodIn_app (goodIn_of _ (by decide +kernel)) ggX6_region_X2_spread
set_option maxRecDepth 20000 in
theorem ggX6_region_J13_bitCount_95d88 : GoodIn wsX6_region wsJ13_bitCount_95d88 := goodIn_r _ [51, 52, 53, 54] (by decide +kernel) (by decide +kernel)
set_option maxRecDepth 20000 in
theorem gX6_region_J13_bitCount_95d88 : GoodIn wsX6_region (va_wsS RX6 130 yJ13_bitCount_95d88 wsJ13_bitCount_95d88) := goodIn_app (goodIn_of _ (by decide +kernel)) ggX6_region_J13_bitCount_95d88
set_option maxRecDepth 20000 in
theorem ggX6_region_X4_free : GoodIn wsX6_region wsX4_free := goodIn_r _ [58, 59, 60, 25, 61, 26, 27, 28, 19, 29, 30, 31, 102, 103, 104, 105, 106, 107, 108, 109, 110, 96, 97, 98, 99, 100, 101] (by decide +kernel) (by decide +kernel)
set_option maxRecDepth 20000 in
theorem gX6_region_X4_free : GoodIn wsX6_region (wsV RX6 140 RX4 yX4_free wsX4_free) := goodIn_app (goodIn_of _ (by decide +kernel)) ggX6_region_X4_free
set_option maxRecDepth 20000 in
theorem ggX6_region_X3_groupsTouched : GoodIn wsX6_region wsX3_groupsTouched := goodIn_r _ [66, 67, 68, 69, 41, 42, 13, 43, 44, 45, 46, 47, 70, 71, 72, 73, 40, 74, 37, 38, 39, 111, 96, 97, 98, 99, 100, 101] (by decide +kernel) (by decide +kernel)
set_option maxRecDepth 20000 in
theorem gX6_region_X3_groupsTouched : GoodIn wsX6_region (wsV RX6 155 RX3 yX3_groupsTouched wsX3_groupsTouched) := goodIn_app (goodIn_of _ (by decide +kernel)) ggX6_region_X3_groupsTouched
set_option maxRecDepth 20000 in
theorem ggX6_region_X3_groupsItIsVitalTo : GoodIn wsX6_region wsX3_groupsItIsVitalTo := goodIn_r _ [78, 67, 68, 70, 71, 72, 13, 73, 40, 41, 42, 43, 44, 45, 46, 47, 74, 37, 38, 39, 79, 80, 81, 65, 82, 83, 69, 111, 96, 97, 98, 99, 100, 101] (by decide +kernel) (by decide +kernel)
set_option maxRecDepth 20000 in
theorem gX6_region_X3_groupsItIsVitalTo : GoodIn wsX6_region (wsV RX6 159 RX3 yX3_groupsItIsVitalTo wsX3_groupsItIsVitalTo) := goodIn_app (goodIn_of _ (by decide +kernel)) ggX6_region_X3_groupsItIsVitalTo
set_option maxRecDepth 20000 in
theorem ggX6_region_X2_nth : GoodIn wsX6_region wsX2_nth := goodIn_r _ [87, 15, 88, 33, 13, 34, 96, 97, 98, 99, 100, 101] (by decide +kernel) (by decide +kernel)
set_option maxRecDepth 20000 in
theorem gX6_region_X2_nth : GoodIn wsX6_region (wsV RX6 144 RX2 yX2_nth wsX2_nth) := goodIn_app (goodIn_of _ (by decide +kernel)) ggX6_region_X2_nth
theorem dX6_region_0 : decode cX6_region 0 = .ok (.iload_n 1, 1) := by decide +kernel
theorem dX6_region_1 : decode cX6_region 1 = .ok (.invokestatic 79, 3) := by decide +kernel
theorem dX6_region_4 : decode cX6_region 4 = .ok (.ifCond .eq 23, 3) := by decide +kernel
theorem dX6_region_7 : decode cX6_region 7 = .ok (.aload_n 0, 1) := by decide +kernel
theorem dX6_region_8 : decode cX6_region 8 = .ok (.getfield 12, 3) := by decide +kernel
theorem dX6_region_11 : decode cX6_region 11 = .ok (.iload_n 2, 1) := by decide +kernel
theorem dX6_region_12 : decode cX6_region 12 = .ok (.invokevirtual 76, 3) := by decide +kernel
theorem dX6_region_15 : decode cX6_region 15 = .ok (.ifCond .eq 12, 3) := by decide +kernel
theorem dX6_region_18 : decode cX6_region 18 = .ok (.iload_n 3, 1) := by decide +kernel
theorem dX6_region_19 : decode cX6_region 19 = .ok (.ifCond .lt 8, 3) := by decide +kernel
theorem dX6_region_22 : decode cX6_region 22 = .ok (.iload_n 3, 1) := by decide +kernel
theorem dX6_region_23 : decode cX6_region 23 = .ok (.iconst 4, 1) := by decide +kernel
theorem dX6_region_24 : decode cX6_region 24 = .ok (.if_icmp .le 6, 3) := by decide +kernel
theorem dX6_region_27 : decode cX6_region 27 = .ok (.bipush (-2), 2) := by decide +kernel
theorem dX6_region_29 : decode cX6_region 29 = .ok (.ireturn, 1) := by decide +kernel
theorem dX6_region_30 : decode cX6_region 30 = .ok (.aload_n 0, 1) := by decide +kernel
theorem dX6_region_31 : decode cX6_region 31 = .ok (.getfield 25, 3) := by decide +kernel
theorem dX6_region_34 : decode cX6_region 34 = .ok (.iload_n 2, 1) := by decide +kernel
theorem dX6_region_35 : decode cX6_region 35 = .ok (.invokevirtual 123, 3) := by decide +kernel
theorem dX6_region_38 : decode cX6_region 38 = .ok (.iload_n 1, 1) := by decide +kernel
theorem dX6_region_39 : decode cX6_region 39 = .ok (.if_icmp .ne 6, 3) := by decide +kernel
theorem dX6_region_42 : decode cX6_region 42 = .ok (.bipush (-3), 2) := by decide +kernel
theorem dX6_region_44 : decode cX6_region 44 = .ok (.ireturn, 1) := by decide +kernel
theorem dX6_region_45 : decode cX6_region 45 = .ok (.aload_n 0, 1) := by decide +kernel
theorem dX6_region_46 : decode cX6_region 46 = .ok (.getfield 25, 3) := by decide +kernel
theorem dX6_region_49 : decode cX6_region 49 = .ok (.iload_n 1, 1) := by decide +kernel
theorem dX6_region_50 : decode cX6_region 50 = .ok (.invokevirtual 82, 3) := by decide +kernel
theorem dX6_region_53 : decode cX6_region 53 = .ok (.lstore 4, 2) := by decide +kernel
theorem dX6_region_55 : decode cX6_region 55 = .ok (.aload_n 0, 1) := by decide +kernel
theorem dX6_region_56 : decode cX6_region 56 = .ok (.getfield 12, 3) := by decide +kernel
theorem dX6_region_59 : decode cX6_region 59 = .ok (.lconst 1, 1) := by decide +kernel
theorem dX6_region_60 : decode cX6_region 60 = .ok (.iload_n 2, 1) := by decide +kernel
theorem dX6_region_61 : decode cX6_region 61 = .ok (.lshl, 1) := by decide +kernel
theorem dX6_region_62 : decode cX6_region 62 = .ok (.aload_n 0, 1) := by decide +kernel
theorem dX6_region_63 : decode cX6_region 63 = .ok (.getfield 12, 3) := by decide +kernel
theorem dX6_region_66 : decode cX6_region 66 = .ok (.getfield 88, 3) := by decide +kernel
theorem dX6_region_69 : decode cX6_region 69 = .ok (.lload 4, 2) := by decide +kernel
theorem dX6_region_71 : decode cX6_region 71 = .ok (.ldc2_w 86, 3) := by decide +kernel
theorem dX6_region_74 : decode cX6_region 74 = .ok (.lxor, 1) := by decide +kernel
theorem dX6_region_75 : decode cX6_region 75 = .ok (.land, 1) := by decide +kernel
theorem dX6_region_76 : decode cX6_region 76 = .ok (.invokevirtual 126, 3) := by decide +kernel
theorem dX6_region_79 : decode cX6_region 79 = .ok (.lstore 6, 2) := by decide +kernel
theorem dX6_region_81 : decode cX6_region 81 = .ok (.iload_n 3, 1) := by decide +kernel
theorem dX6_region_82 : decode cX6_region 82 = .ok (.tableswitch 81 0 3 #[30, 36, 50, 62], 30) := by decide +kernel
theorem dX6_region_112 : decode cX6_region 112 = .ok (.lload 6, 2) := by decide +kernel
theorem dX6_region_114 : decode cX6_region 114 = .ok (.invokestatic 130, 3) := by decide +kernel
theorem dX6_region_117 : decode cX6_region 117 = .ok (.ireturn, 1) := by decide +kernel
theorem dX6_region_118 : decode cX6_region 118 = .ok (.lload 6, 2) := by decide +kernel
theorem dX6_region_120 : decode cX6_region 120 = .ok (.aload_n 0, 1) := by decide +kernel
theorem dX6_region_121 : decode cX6_region 121 = .ok (.getfield 25, 3) := by decide +kernel
theorem dX6_region_124 : decode cX6_region 124 = .ok (.invokevirtual 140, 3) := by decide +kernel
theorem dX6_region_127 : decode cX6_region 127 = .ok (.land, 1) := by decide +kernel
theorem dX6_region_128 : decode cX6_region 128 = .ok (.invokestatic 130, 3) := by decide +kernel
theorem dX6_region_131 : decode cX6_region 131 = .ok (.ireturn, 1) := by decide +kernel
theorem dX6_region_132 : decode cX6_region 132 = .ok (.aload_n 0, 1) := by decide +kernel
theorem dX6_region_133 : decode cX6_region 133 = .ok (.getfield 38, 3) := by decide +kernel
theorem dX6_region_136 : decode cX6_region 136 = .ok (.lload 6, 2) := by decide +kernel
theorem dX6_region_138 : decode cX6_region 138 = .ok (.lload 4, 2) := by decide +kernel
theorem dX6_region_140 : decode cX6_region 140 = .ok (.invokevirtual 155, 3) := by decide +kernel
theorem dX6_region_143 : decode cX6_region 143 = .ok (.ireturn, 1) := by decide +kernel
theorem dX6_region_144 : decode cX6_region 144 = .ok (.aload_n 0, 1) := by decide +kernel
theorem dX6_region_145 : decode cX6_region 145 = .ok (.getfield 38, 3) := by decide +kernel
theorem dX6_region_148 : decode cX6_region 148 = .ok (.lload 6, 2) := by decide +kernel
theorem dX6_region_150 : decode cX6_region 150 = .ok (.lload 4, 2) := by decide +kernel
theorem dX6_region_152 : decode cX6_region 152 = .ok (.aload_n 0, 1) := by decide +kernel
theorem dX6_region_153 : decode cX6_region 153 = .ok (.getfield 25, 3) := by decide +kernel
theorem dX6_region_156 : decode cX6_region 156 = .ok (.invokevirtual 140, 3) := by decide +kernel
theorem dX6_region_159 : decode cX6_region 159 = .ok (.invokevirtual 159, 3) := by decide +kernel
theorem dX6_region_162 : decode cX6_region 162 = .ok (.ireturn, 1) := by decide +kernel
theorem dX6_region_163 : decode cX6_region 163 = .ok (.aload_n 0, 1) := by decide +kernel
theorem dX6_region_164 : decode cX6_region 164 = .ok (.getfield 12, 3) := by decide +kernel
theorem dX6_region_167 : decode cX6_region 167 = .ok (.lload 6, 2) := by decide +kernel
theorem dX6_region_169 : decode cX6_region 169 = .ok (.iconst 0, 1) := by decide +kernel
theorem dX6_region_170 : decode cX6_region 170 = .ok (.invokevirtual 144, 3) := by decide +kernel
theorem dX6_region_173 : decode cX6_region 173 = .ok (.ireturn, 1) := by decide +kernel
set_option maxRecDepth 20000 in
theorem ggX6_standing_X6_isColour : GoodIn wsX6_standing wsX6_isColour := goodIn_r _ [6] (by decide +kernel) (by decide +kernel)
set_option maxRecDepth 20000 in
theorem gX6_standing_X6_isColour : GoodIn wsX6_standing (va_wsS RX6 79 yX6_isColour wsX6_isColour) := goodIn_app (goodIn_of _ (by decide +kernel)) ggX6_standing_X6_isColour
set_option maxRecDepth 20000 in
theorem ggX6_standing_X4_stonesOf : GoodIn wsX6_standing wsX4_stonesOf := goodIn_r _ [11, 12, 13, 14, 15, 10, 16, 17, 18, 80, 81, 82, 83, 84, 85, 86, 87, 88] (by decide +kernel) (by decide +kernel)
set_option maxRecDepth 20000 in
theorem gX6_standing_X4_stonesOf : GoodIn wsX6_standing (wsV RX6 82 RX4 yX4_stonesOf wsX4_stonesOf) := goodIn_app (goodIn_of _ (by decide +kernel)) ggX6_standing_X4_stonesOf
set_option maxRecDepth 20000 in
theorem ggX6_standing_X4_free : GoodIn wsX6_standing wsX4_free := goodIn_r _ [22, 23, 24, 12, 25, 13, 14, 15, 10, 16, 17, 18, 80, 81, 82, 83, 84, 85, 86, 87, 88, 89, 90, 91, 92, 93, 94] (by decide +kernel) (by decide +kernel)
set_option maxRecDepth 20000 in
theorem gX6_standing_X4_free : GoodIn wsX6_standing (wsV RX6 140 RX4 yX4_free wsX4_free) := goodIn_app (goodIn_of _ (by decide +kernel)) ggX6_standing_X4_free
set_option maxRecDepth 20000 in
theorem ggX6_standing_X3_standingStones : GoodIn wsX6_standing wsX3_standingStones := goodIn_r _ [30, 31, 32, 33, 34, 35, 36, 29, 37, 38, 39, 40, 41, 42, 43, 44, 45, 46, 47, 48, 49, 50, 51, 52, 53, 54, 55, 56, 57, 58, 59, 60, 61, 62, 63, 64, 65, 95, 89, 90, 91, 92, 93, 94] (by decide +kernel) (by decide +kernel)
set_option maxRecDepth 20000 in
theorem gX6_standing_X3_standingStones : GoodIn wsX6_standing (wsV RX6 152 RX3 yX3_standingStones wsX3_standingStones) := goodIn_app (goodIn_of _ (by decide +kernel)) ggX6_standing_X3_standingStones
set_option maxRecDepth 20000 in
theorem ggX6_standing_J13_bitCount_95d88 : GoodIn wsX6_standing wsJ13_bitCount_95d88 := goodIn_r _ [69, 70, 71, 72] (by decide +kernel) (by decide +kernel)
set_option maxRecDepth 20000 in
theorem gX6_standing_J13_bitCount_95d88 : GoodIn wsX6_standing (va_wsS RX6 130 yJ13_bitCount_95d88 wsJ13_bitCount_95d88) := goodIn_app (goodIn_of _ (by decide +kernel)) ggX6_standing_J13_bitCount_95d88
theorem dX6_standing_0 : decode cX6_standing 0 = .ok (.iload_n 1, 1) := by decide +kernel
theorem dX6_standing_1 : decode cX6_standing 1 = .ok (.invokestatic 79, 3) := by decide +kernel
theorem dX6_standing_4 : decode cX6_standing 4 = .ok (.ifCond .eq 31, 3) := by decide +kernel
theorem dX6_standing_7 : decode cX6_standing 7 = .ok (.aload_n 0, 1) := by decide +kernel
theorem dX6_standing_8 : decode cX6_standing 8 = .ok (.getfield 38, 3) := by decide +kernel
theorem dX6_standing_11 : decode cX6_standing 11 = .ok (.aload_n 0, 1) := by decide +kernel
theorem dX6_standing_12 : decode cX6_standing 12 = .ok (.getfield 25, 3) := by decide +kernel
theorem dX6_standing_15 : decode cX6_standing 15 = .ok (.iload_n 1, 1) := by decide +kernel
theorem dX6_standing_16 : decode cX6_standing 16 = .ok (.invokevirtual 82, 3) := by decide +kernel
theorem dX6_standing_19 : decode cX6_standing 19 = .ok (.aload_n 0, 1) := by decide +kernel
theorem dX6_standing_20 : decode cX6_standing 20 = .ok (.getfield 25, 3) := by decide +kernel
theorem dX6_standing_23 : decode cX6_standing 23 = .ok (.invokevirtual 140, 3) := by decide +kernel
theorem dX6_standing_26 : decode cX6_standing 26 = .ok (.invokevirtual 152, 3) := by decide +kernel
theorem dX6_standing_29 : decode cX6_standing 29 = .ok (.invokestatic 130, 3) := by decide +kernel
theorem dX6_standing_32 : decode cX6_standing 32 = .ok (.goto 5, 3) := by decide +kernel
theorem dX6_standing_35 : decode cX6_standing 35 = .ok (.bipush (-2), 2) := by decide +kernel
theorem dX6_standing_37 : decode cX6_standing 37 = .ok (.ireturn, 1) := by decide +kernel
set_option maxRecDepth 20000 in
theorem ggX6_chase_X2_has : GoodIn wsX6_chase wsX2_has := goodIn_r _ [8, 9, 160, 161, 162, 163, 164, 165] (by decide +kernel) (by decide +kernel)
set_option maxRecDepth 20000 in
theorem gX6_chase_X2_has : GoodIn wsX6_chase (wsV RX6 76 RX2 yX2_has wsX2_has) := goodIn_app (goodIn_of _ (by decide +kernel)) ggX6_chase_X2_has
set_option maxRecDepth 20000 in
theorem ggX6_chase_X4_colourAt : GoodIn wsX6_chase wsX4_colourAt := goodIn_r _ [14, 15, 16, 17, 13, 18, 19, 20, 21, 22, 23, 24, 25, 26, 27, 7, 28, 166, 167, 168, 169, 170, 171, 172, 173, 174] (by decide +kernel) (by decide +kernel)
set_option maxRecDepth 20000 in
theorem gX6_chase_X4_colourAt : GoodIn wsX6_chase (wsV RX6 123 RX4 yX4_colourAt wsX4_colourAt) := goodIn_app (goodIn_of _ (by decide +kernel)) ggX6_chase_X4_colourAt
set_option maxRecDepth 20000 in
theorem ggX6_chase_X0_read : GoodIn wsX6_chase wsX0_read := goodIn_r _ [33, 34, 35, 36, 37, 38, 39, 11, 12, 13, 14, 15, 16, 17, 18, 19, 20, 21, 22, 23, 24, 25, 26, 27, 7, 28, 40, 41, 42, 43, 44, 45, 46, 47, 48, 49, 50, 51, 52, 53, 54, 55, 56, 32, 57, 58, 59, 60, 61, 62, 63, 64, 65, 66, 67, 68, 69, 70, 71, 72, 73, 74, 75, 76, 77, 78, 79, 80, 81, 82, 83, 84, 85, 86, 87, 88, 89, 90, 91, 92, 93, 94, 95, 96, 97, 98, 99, 100, 5, 6, 8, 9, 101, 102, 103, 104, 105, 106, 107, 108, 109, 110, 111, 112, 113, 114, 115, 116, 117, 118, 119, 120, 121, 122, 123, 124, 125, 126, 127, 128, 129, 130, 131, 132, 133, 134, 135, 136, 137, 138, 139, 140, 141, 142, 143, 144, 145, 146, 147, 148, 149, 150, 151, 152, 175, 176, 177, 178, 179, 180, 166, 167, 168, 169, 170, 171, 172, 173, 174, 160, 161, 162, 163, 164, 165] (by decide +kernel) (by decide +kernel)
set_option maxRecDepth 20000 in
theorem gX6_chase_X0_read : GoodIn wsX6_chase (wsV RX6 162 RX0 yX0_read wsX0_read) := goodIn_app (goodIn_of _ (by decide +kernel)) ggX6_chase_X0_read
theorem dX6_chase_0 : decode cX6_chase 0 = .ok (.aload_n 0, 1) := by decide +kernel
theorem dX6_chase_1 : decode cX6_chase 1 = .ok (.getfield 12, 3) := by decide +kernel
theorem dX6_chase_4 : decode cX6_chase 4 = .ok (.iload_n 1, 1) := by decide +kernel
theorem dX6_chase_5 : decode cX6_chase 5 = .ok (.invokevirtual 76, 3) := by decide +kernel
theorem dX6_chase_8 : decode cX6_chase 8 = .ok (.ifCond .eq 14, 3) := by decide +kernel
theorem dX6_chase_11 : decode cX6_chase 11 = .ok (.iload_n 2, 1) := by decide +kernel
theorem dX6_chase_12 : decode cX6_chase 12 = .ok (.iconst 1, 1) := by decide +kernel
theorem dX6_chase_13 : decode cX6_chase 13 = .ok (.if_icmp .lt 9, 3) := by decide +kernel
theorem dX6_chase_16 : decode cX6_chase 16 = .ok (.iload_n 2, 1) := by decide +kernel
theorem dX6_chase_17 : decode cX6_chase 17 = .ok (.bipush 20, 2) := by decide +kernel
theorem dX6_chase_19 : decode cX6_chase 19 = .ok (.if_icmp .le 6, 3) := by decide +kernel
theorem dX6_chase_22 : decode cX6_chase 22 = .ok (.bipush (-2), 2) := by decide +kernel
theorem dX6_chase_24 : decode cX6_chase 24 = .ok (.ireturn, 1) := by decide +kernel
theorem dX6_chase_25 : decode cX6_chase 25 = .ok (.aload_n 0, 1) := by decide +kernel
theorem dX6_chase_26 : decode cX6_chase 26 = .ok (.getfield 25, 3) := by decide +kernel
theorem dX6_chase_29 : decode cX6_chase 29 = .ok (.iload_n 1, 1) := by decide +kernel
theorem dX6_chase_30 : decode cX6_chase 30 = .ok (.invokevirtual 123, 3) := by decide +kernel
theorem dX6_chase_33 : decode cX6_chase 33 = .ok (.ifCond .ne 8, 3) := by decide +kernel
theorem dX6_chase_36 : decode cX6_chase 36 = .ok (.bipush (-3), 2) := by decide +kernel
theorem dX6_chase_38 : decode cX6_chase 38 = .ok (.goto 16, 3) := by decide +kernel
theorem dX6_chase_41 : decode cX6_chase 41 = .ok (.aload_n 0, 1) := by decide +kernel
theorem dX6_chase_42 : decode cX6_chase 42 = .ok (.getfield 54, 3) := by decide +kernel
theorem dX6_chase_45 : decode cX6_chase 45 = .ok (.aload_n 0, 1) := by decide +kernel
theorem dX6_chase_46 : decode cX6_chase 46 = .ok (.getfield 25, 3) := by decide +kernel
theorem dX6_chase_49 : decode cX6_chase 49 = .ok (.iload_n 1, 1) := by decide +kernel
theorem dX6_chase_50 : decode cX6_chase 50 = .ok (.iload_n 2, 1) := by decide +kernel
theorem dX6_chase_51 : decode cX6_chase 51 = .ok (.invokevirtual 162, 3) := by decide +kernel
theorem dX6_chase_54 : decode cX6_chase 54 = .ok (.ireturn, 1) := by decide +kernel
set_option maxRecDepth 20000 in
theorem ggX6_fight_X2_has : GoodIn wsX6_fight wsX2_has := goodIn_r _ [10, 11, 136, 137, 138, 139, 140, 141] (by decide +kernel) (by decide +kernel)
set_option maxRecDepth 20000 in
theorem gX6_fight_X2_has : GoodIn wsX6_fight (wsV RX6 76 RX2 yX2_has wsX2_has) := goodIn_app (goodIn_of _ (by decide +kernel)) ggX6_fight_X2_has
set_option maxRecDepth 20000 in
theorem ggX6_fight_X4_colourAt : GoodIn wsX6_fight wsX4_colourAt := goodIn_r _ [16, 17, 18, 19, 15, 20, 21, 22, 23, 24, 25, 26, 27, 28, 29, 9, 30, 142, 143, 144, 145, 146, 147, 148, 149, 150] (by decide +kernel) (by decide +kernel)
set_option maxRecDepth 20000 in
theorem gX6_fight_X4_colourAt : GoodIn wsX6_fight (wsV RX6 123 RX4 yX4_colourAt wsX4_colourAt) := goodIn_app (goodIn_of _ (by decide +kernel)) ggX6_fight_X4_colourAt
set_option maxRecDepth 20000 in
theorem ggX6_fight_X1_read : GoodIn wsX6_fight wsX1_read := goodIn_r _ [35, 36, 37, 38, 39, 40, 41, 42, 13, 14, 15, 16, 17, 18, 19, 20, 21, 22, 23, 24, 25, 26, 27, 28, 29, 9, 30, 43, 44, 45, 34, 46, 47, 48, 49, 50, 51, 52, 53, 54, 55, 56, 57, 58, 59, 60, 61, 62, 63, 64, 65, 66, 67, 68, 69, 70, 71, 7, 8, 10, 11, 72, 73, 74, 75, 76, 77, 78, 79, 80, 81, 82, 83, 84, 85, 86, 87, 88, 89, 90, 91, 92, 93, 94, 95, 96, 97, 98, 99, 100, 101, 102, 103, 104, 105, 106, 107, 108, 109, 110, 111, 112, 113, 114, 115, 116, 117, 118, 119, 120, 121, 130, 131, 132, 133, 134, 135, 151, 142, 143, 144, 145, 146, 147, 148, 149, 150, 136, 137, 138, 139, 140, 141] (by decide +kernel) (by decide +kernel)
set_option maxRecDepth 20000 in
theorem gX6_fight_X1_read : GoodIn wsX6_fight (wsV RX6 166 RX1 yX1_read wsX1_read) := goodIn_app (goodIn_of _ (by decide +kernel)) ggX6_fight_X1_read
set_option maxRecDepth 20000 in
theorem ggX6_fight_X4_mover : GoodIn wsX6_fight wsX4_mover := goodIn_r _ [52, 21, 53, 54, 55, 15, 56, 57, 142, 143, 144, 145, 146, 147, 148, 149, 150] (by decide +kernel) (by decide +kernel)
set_option maxRecDepth 20000 in
theorem gX6_fight_X4_mover : GoodIn wsX6_fight (wsV RX6 106 RX4 yX4_mover wsX4_mover) := goodIn_app (goodIn_of _ (by decide +kernel)) ggX6_fight_X4_mover
theorem dX6_fight_0 : decode cX6_fight 0 = .ok (.aload_n 0, 1) := by decide +kernel
theorem dX6_fight_1 : decode cX6_fight 1 = .ok (.getfield 12, 3) := by decide +kernel
theorem dX6_fight_4 : decode cX6_fight 4 = .ok (.iload_n 1, 1) := by decide +kernel
theorem dX6_fight_5 : decode cX6_fight 5 = .ok (.invokevirtual 76, 3) := by decide +kernel
theorem dX6_fight_8 : decode cX6_fight 8 = .ok (.ifCond .eq 14, 3) := by decide +kernel
theorem dX6_fight_11 : decode cX6_fight 11 = .ok (.iload_n 2, 1) := by decide +kernel
theorem dX6_fight_12 : decode cX6_fight 12 = .ok (.iconst 1, 1) := by decide +kernel
theorem dX6_fight_13 : decode cX6_fight 13 = .ok (.if_icmp .lt 9, 3) := by decide +kernel
theorem dX6_fight_16 : decode cX6_fight 16 = .ok (.iload_n 2, 1) := by decide +kernel
theorem dX6_fight_17 : decode cX6_fight 17 = .ok (.bipush 6, 2) := by decide +kernel
theorem dX6_fight_19 : decode cX6_fight 19 = .ok (.if_icmp .le 6, 3) := by decide +kernel
theorem dX6_fight_22 : decode cX6_fight 22 = .ok (.bipush (-2), 2) := by decide +kernel
theorem dX6_fight_24 : decode cX6_fight 24 = .ok (.ireturn, 1) := by decide +kernel
theorem dX6_fight_25 : decode cX6_fight 25 = .ok (.aload_n 0, 1) := by decide +kernel
theorem dX6_fight_26 : decode cX6_fight 26 = .ok (.getfield 25, 3) := by decide +kernel
theorem dX6_fight_29 : decode cX6_fight 29 = .ok (.iload_n 1, 1) := by decide +kernel
theorem dX6_fight_30 : decode cX6_fight 30 = .ok (.invokevirtual 123, 3) := by decide +kernel
theorem dX6_fight_33 : decode cX6_fight 33 = .ok (.istore_n 3, 1) := by decide +kernel
theorem dX6_fight_34 : decode cX6_fight 34 = .ok (.iload_n 3, 1) := by decide +kernel
theorem dX6_fight_35 : decode cX6_fight 35 = .ok (.ifCond .ne 6, 3) := by decide +kernel
theorem dX6_fight_38 : decode cX6_fight 38 = .ok (.bipush (-3), 2) := by decide +kernel
theorem dX6_fight_40 : decode cX6_fight 40 = .ok (.ireturn, 1) := by decide +kernel
theorem dX6_fight_41 : decode cX6_fight 41 = .ok (.aload_n 0, 1) := by decide +kernel
theorem dX6_fight_42 : decode cX6_fight 42 = .ok (.getfield 61, 3) := by decide +kernel
theorem dX6_fight_45 : decode cX6_fight 45 = .ok (.iload_n 1, 1) := by decide +kernel
theorem dX6_fight_46 : decode cX6_fight 46 = .ok (.iload_n 2, 1) := by decide +kernel
theorem dX6_fight_47 : decode cX6_fight 47 = .ok (.invokevirtual 166, 3) := by decide +kernel
theorem dX6_fight_50 : decode cX6_fight 50 = .ok (.istore 4, 2) := by decide +kernel
theorem dX6_fight_52 : decode cX6_fight 52 = .ok (.iload 4, 2) := by decide +kernel
theorem dX6_fight_54 : decode cX6_fight 54 = .ok (.iconst 1, 1) := by decide +kernel
theorem dX6_fight_55 : decode cX6_fight 55 = .ok (.if_icmp .ne 25, 3) := by decide +kernel
theorem dX6_fight_58 : decode cX6_fight 58 = .ok (.iload_n 3, 1) := by decide +kernel
theorem dX6_fight_59 : decode cX6_fight 59 = .ok (.aload_n 0, 1) := by decide +kernel
theorem dX6_fight_60 : decode cX6_fight 60 = .ok (.getfield 25, 3) := by decide +kernel
theorem dX6_fight_63 : decode cX6_fight 63 = .ok (.invokevirtual 106, 3) := by decide +kernel
theorem dX6_fight_66 : decode cX6_fight 66 = .ok (.if_icmp .eq 14, 3) := by decide +kernel
theorem dX6_fight_69 : decode cX6_fight 69 = .ok (.aload_n 0, 1) := by decide +kernel
theorem dX6_fight_70 : decode cX6_fight 70 = .ok (.aload_n 0, 1) := by decide +kernel
theorem dX6_fight_71 : decode cX6_fight 71 = .ok (.getfield 61, 3) := by decide +kernel
theorem dX6_fight_74 : decode cX6_fight 74 = .ok (.getfield 168, 3) := by decide +kernel
theorem dX6_fight_77 : decode cX6_fight 77 = .ok (.putfield 65, 3) := by decide +kernel
theorem dX6_fight_80 : decode cX6_fight 80 = .ok (.iload 4, 2) := by decide +kernel
theorem dX6_fight_82 : decode cX6_fight 82 = .ok (.ireturn, 1) := by decide +kernel
theorem dX6_tries_0 : decode cX6_tries 0 = .ok (.aload_n 0, 1) := by decide +kernel
theorem dX6_tries_1 : decode cX6_tries 1 = .ok (.getfield 45, 3) := by decide +kernel
theorem dX6_tries_4 : decode cX6_tries 4 = .ok (.getfield 171, 3) := by decide +kernel
theorem dX6_tries_7 : decode cX6_tries 7 = .ok (.ireturn, 1) := by decide +kernel
theorem dX6_first_0 : decode cX6_first 0 = .ok (.aload_n 0, 1) := by decide +kernel
theorem dX6_first_1 : decode cX6_first 1 = .ok (.getfield 65, 3) := by decide +kernel
theorem dX6_first_4 : decode cX6_first 4 = .ok (.ireturn, 1) := by decide +kernel
set_option maxRecDepth 20000 in
theorem ggX6_points_X6_isColour : GoodIn wsX6_points wsX6_isColour := goodIn_r _ [6] (by decide +kernel) (by decide +kernel)
set_option maxRecDepth 20000 in
theorem gX6_points_X6_isColour : GoodIn wsX6_points (va_wsS RX6 79 yX6_isColour wsX6_isColour) := goodIn_app (goodIn_of _ (by decide +kernel)) ggX6_points_X6_isColour
set_option maxRecDepth 20000 in
theorem ggX6_points_X4_stonesOf : GoodIn wsX6_points wsX4_stonesOf := goodIn_r _ [11, 12, 13, 14, 15, 10, 16, 17, 18, 69, 70, 71, 72, 73, 74, 75, 76, 77] (by decide +kernel) (by decide +kernel)
set_option maxRecDepth 20000 in
theorem gX6_points_X4_stonesOf : GoodIn wsX6_points (wsV RX6 82 RX4 yX4_stonesOf wsX4_stonesOf) := goodIn_app (goodIn_of _ (by decide +kernel)) ggX6_points_X4_stonesOf
set_option maxRecDepth 20000 in
theorem ggX6_points_X6_other : GoodIn wsX6_points wsX6_other := goodIn_r _ [21] (by decide +kernel) (by decide +kernel)
set_option maxRecDepth 20000 in
theorem gX6_points_X6_other : GoodIn wsX6_points (va_wsS RX6 174 yX6_other wsX6_other) := goodIn_app (goodIn_of _ (by decide +kernel)) ggX6_points_X6_other
set_option maxRecDepth 20000 in
theorem ggX6_points_X2_freeOf : GoodIn wsX6_points wsX2_freeOf := goodIn_r _ [26, 27, 28, 29, 30, 31, 32, 25, 33, 34, 35, 36, 37, 38, 39, 40, 41, 42, 43, 44, 78, 79, 80, 81, 82, 83] (by decide +kernel) (by decide +kernel)
set_option maxRecDepth 20000 in
theorem gX6_points_X2_freeOf : GoodIn wsX6_points (wsV RX6 177 RX2 yX2_freeOf wsX2_freeOf) := goodIn_app (goodIn_of _ (by decide +kernel)) ggX6_points_X2_freeOf
set_option maxRecDepth 20000 in
theorem ggX6_points_J13_bitCount_95d88 : GoodIn wsX6_points wsJ13_bitCount_95d88 := goodIn_r _ [48, 49, 50, 51] (by decide +kernel) (by decide +kernel)
set_option maxRecDepth 20000 in
theorem gX6_points_J13_bitCount_95d88 : GoodIn wsX6_points (va_wsS RX6 130 yJ13_bitCount_95d88 wsJ13_bitCount_95d88) := goodIn_app (goodIn_of _ (by decide +kernel)) ggX6_points_J13_bitCount_95d88
set_option maxRecDepth 20000 in
theorem ggX6_points_X4_taken : GoodIn wsX6_points wsX4_taken := goodIn_r _ [55, 12, 56, 57, 58, 10, 59, 60, 13, 14, 15, 16, 17, 18, 61, 46, 47, 48, 49, 50, 51, 69, 70, 71, 72, 73, 74, 75, 76, 77] (by decide +kernel) (by decide +kernel)
set_option maxRecDepth 20000 in
theorem gX6_points_X4_taken : GoodIn wsX6_points (wsV RX6 180 RX4 yX4_taken wsX4_taken) := goodIn_app (goodIn_of _ (by decide +kernel)) ggX6_points_X4_taken
theorem dX6_points_0 : decode cX6_points 0 = .ok (.iload_n 1, 1) := by decide +kernel
theorem dX6_points_1 : decode cX6_points 1 = .ok (.invokestatic 79, 3) := by decide +kernel
theorem dX6_points_4 : decode cX6_points 4 = .ok (.ifCond .eq 12, 3) := by decide +kernel
theorem dX6_points_7 : decode cX6_points 7 = .ok (.iload_n 2, 1) := by decide +kernel
theorem dX6_points_8 : decode cX6_points 8 = .ok (.ifCond .lt 8, 3) := by decide +kernel
theorem dX6_points_11 : decode cX6_points 11 = .ok (.iload_n 2, 1) := by decide +kernel
theorem dX6_points_12 : decode cX6_points 12 = .ok (.iconst 1, 1) := by decide +kernel
theorem dX6_points_13 : decode cX6_points 13 = .ok (.if_icmp .le 6, 3) := by decide +kernel
theorem dX6_points_16 : decode cX6_points 16 = .ok (.bipush (-2), 2) := by decide +kernel
theorem dX6_points_18 : decode cX6_points 18 = .ok (.ireturn, 1) := by decide +kernel
theorem dX6_points_19 : decode cX6_points 19 = .ok (.aload_n 0, 1) := by decide +kernel
theorem dX6_points_20 : decode cX6_points 20 = .ok (.getfield 25, 3) := by decide +kernel
theorem dX6_points_23 : decode cX6_points 23 = .ok (.iload_n 1, 1) := by decide +kernel
theorem dX6_points_24 : decode cX6_points 24 = .ok (.invokevirtual 82, 3) := by decide +kernel
theorem dX6_points_27 : decode cX6_points 27 = .ok (.lstore_n 3, 1) := by decide +kernel
theorem dX6_points_28 : decode cX6_points 28 = .ok (.aload_n 0, 1) := by decide +kernel
theorem dX6_points_29 : decode cX6_points 29 = .ok (.getfield 25, 3) := by decide +kernel
theorem dX6_points_32 : decode cX6_points 32 = .ok (.iload_n 1, 1) := by decide +kernel
theorem dX6_points_33 : decode cX6_points 33 = .ok (.invokestatic 174, 3) := by decide +kernel
theorem dX6_points_36 : decode cX6_points 36 = .ok (.invokevirtual 82, 3) := by decide +kernel
theorem dX6_points_39 : decode cX6_points 39 = .ok (.lstore 5, 2) := by decide +kernel
theorem dX6_points_41 : decode cX6_points 41 = .ok (.aload_n 0, 1) := by decide +kernel
theorem dX6_points_42 : decode cX6_points 42 = .ok (.getfield 12, 3) := by decide +kernel
theorem dX6_points_45 : decode cX6_points 45 = .ok (.lload_n 3, 1) := by decide +kernel
theorem dX6_points_46 : decode cX6_points 46 = .ok (.lload 5, 2) := by decide +kernel
theorem dX6_points_48 : decode cX6_points 48 = .ok (.invokevirtual 177, 3) := by decide +kernel
theorem dX6_points_51 : decode cX6_points 51 = .ok (.invokestatic 130, 3) := by decide +kernel
theorem dX6_points_54 : decode cX6_points 54 = .ok (.istore 7, 2) := by decide +kernel
theorem dX6_points_56 : decode cX6_points 56 = .ok (.iload 7, 2) := by decide +kernel
theorem dX6_points_58 : decode cX6_points 58 = .ok (.iload_n 2, 1) := by decide +kernel
theorem dX6_points_59 : decode cX6_points 59 = .ok (.ifCond .ne 17, 3) := by decide +kernel
theorem dX6_points_62 : decode cX6_points 62 = .ok (.aload_n 0, 1) := by decide +kernel
theorem dX6_points_63 : decode cX6_points 63 = .ok (.getfield 25, 3) := by decide +kernel
theorem dX6_points_66 : decode cX6_points 66 = .ok (.iload_n 1, 1) := by decide +kernel
theorem dX6_points_67 : decode cX6_points 67 = .ok (.invokestatic 174, 3) := by decide +kernel
theorem dX6_points_70 : decode cX6_points 70 = .ok (.invokevirtual 180, 3) := by decide +kernel
theorem dX6_points_73 : decode cX6_points 73 = .ok (.goto 7, 3) := by decide +kernel
theorem dX6_points_76 : decode cX6_points 76 = .ok (.lload_n 3, 1) := by decide +kernel
theorem dX6_points_77 : decode cX6_points 77 = .ok (.invokestatic 130, 3) := by decide +kernel
theorem dX6_points_80 : decode cX6_points 80 = .ok (.iadd, 1) := by decide +kernel
theorem dX6_points_81 : decode cX6_points 81 = .ok (.ireturn, 1) := by decide +kernel
set_option maxRecDepth 20000 in
theorem ggX6_count_X4_mover : GoodIn wsX6_count wsX4_mover := goodIn_r _ [11, 12, 13, 14, 15, 10, 16, 17, 63, 64, 65, 66, 67, 68, 69, 70, 71] (by decide +kernel) (by decide +kernel)
set_option maxRecDepth 20000 in
theorem gX6_count_X4_mover : GoodIn wsX6_count (wsV RX6 106 RX4 yX4_mover wsX4_mover) := goodIn_app (goodIn_of _ (by decide +kernel)) ggX6_count_X4_mover
set_option maxRecDepth 20000 in
theorem ggX6_count_X4_stonesOf : GoodIn wsX6_count wsX4_stonesOf := goodIn_r _ [21, 12, 22, 23, 24, 10, 25, 26, 27, 63, 64, 65, 66, 67, 68, 69, 70, 71] (by decide +kernel) (by decide +kernel)
set_option maxRecDepth 20000 in
theorem gX6_count_X4_stonesOf : GoodIn wsX6_count (wsV RX6 82 RX4 yX4_stonesOf wsX4_stonesOf) := goodIn_app (goodIn_of _ (by decide +kernel)) ggX6_count_X4_stonesOf
set_option maxRecDepth 20000 in
theorem ggX6_count_J13_bitCount_95d88 : GoodIn wsX6_count wsJ13_bitCount_95d88 := goodIn_r _ [31, 32, 33, 34] (by decide +kernel) (by decide +kernel)
set_option maxRecDepth 20000 in
theorem gX6_count_J13_bitCount_95d88 : GoodIn wsX6_count (va_wsS RX6 130 yJ13_bitCount_95d88 wsJ13_bitCount_95d88) := goodIn_app (goodIn_of _ (by decide +kernel)) ggX6_count_J13_bitCount_95d88
set_option maxRecDepth 20000 in
theorem ggX6_count_X4_taken : GoodIn wsX6_count wsX4_taken := goodIn_r _ [38, 12, 39, 40, 41, 10, 42, 43, 22, 23, 24, 25, 26, 27, 44, 29, 30, 31, 32, 33, 34, 63, 64, 65, 66, 67, 68, 69, 70, 71] (by decide +kernel) (by decide +kernel)
set_option maxRecDepth 20000 in
theorem gX6_count_X4_taken : GoodIn wsX6_count (wsV RX6 180 RX4 yX4_taken wsX4_taken) := goodIn_app (goodIn_of _ (by decide +kernel)) ggX6_count_X4_taken
set_option maxRecDepth 20000 in
theorem ggX6_count_X4_passesNow : GoodIn wsX6_count wsX4_passesNow := goodIn_r _ [48, 12, 49, 50, 51, 52, 53, 10, 54, 55, 63, 64, 65, 66, 67, 68, 69, 70, 71, 72, 73, 74, 75, 76, 77] (by decide +kernel) (by decide +kernel)
set_option maxRecDepth 20000 in
theorem gX6_count_X4_passesNow : GoodIn wsX6_count (wsV RX6 117 RX4 yX4_passesNow wsX4_passesNow) := goodIn_app (goodIn_of _ (by decide +kernel)) ggX6_count_X4_passesNow
theorem dX6_count_0 : decode cX6_count 0 = .ok (.iload_n 1, 1) := by decide +kernel
theorem dX6_count_1 : decode cX6_count 1 = .ok (.ifCond .lt 9, 3) := by decide +kernel
theorem dX6_count_4 : decode cX6_count 4 = .ok (.iload_n 1, 1) := by decide +kernel
theorem dX6_count_5 : decode cX6_count 5 = .ok (.bipush 9, 2) := by decide +kernel
theorem dX6_count_7 : decode cX6_count 7 = .ok (.if_icmp .le 6, 3) := by decide +kernel
theorem dX6_count_10 : decode cX6_count 10 = .ok (.bipush (-2), 2) := by decide +kernel
theorem dX6_count_12 : decode cX6_count 12 = .ok (.ireturn, 1) := by decide +kernel
theorem dX6_count_13 : decode cX6_count 13 = .ok (.iload_n 1, 1) := by decide +kernel
theorem dX6_count_14 : decode cX6_count 14 = .ok (.tableswitch 132 0 8 #[50, 58, 66, 78, 90, 99, 108, 116, 124], 50) := by decide +kernel
theorem dX6_count_64 : decode cX6_count 64 = .ok (.aload_n 0, 1) := by decide +kernel
theorem dX6_count_65 : decode cX6_count 65 = .ok (.getfield 25, 3) := by decide +kernel
theorem dX6_count_68 : decode cX6_count 68 = .ok (.getfield 73, 3) := by decide +kernel
theorem dX6_count_71 : decode cX6_count 71 = .ok (.ireturn, 1) := by decide +kernel
theorem dX6_count_72 : decode cX6_count 72 = .ok (.aload_n 0, 1) := by decide +kernel
theorem dX6_count_73 : decode cX6_count 73 = .ok (.getfield 25, 3) := by decide +kernel
theorem dX6_count_76 : decode cX6_count 76 = .ok (.invokevirtual 106, 3) := by decide +kernel
theorem dX6_count_79 : decode cX6_count 79 = .ok (.ireturn, 1) := by decide +kernel
theorem dX6_count_80 : decode cX6_count 80 = .ok (.aload_n 0, 1) := by decide +kernel
theorem dX6_count_81 : decode cX6_count 81 = .ok (.getfield 25, 3) := by decide +kernel
theorem dX6_count_84 : decode cX6_count 84 = .ok (.iconst 1, 1) := by decide +kernel
theorem dX6_count_85 : decode cX6_count 85 = .ok (.invokevirtual 82, 3) := by decide +kernel
theorem dX6_count_88 : decode cX6_count 88 = .ok (.invokestatic 130, 3) := by decide +kernel
theorem dX6_count_91 : decode cX6_count 91 = .ok (.ireturn, 1) := by decide +kernel
theorem dX6_count_92 : decode cX6_count 92 = .ok (.aload_n 0, 1) := by decide +kernel
theorem dX6_count_93 : decode cX6_count 93 = .ok (.getfield 25, 3) := by decide +kernel
theorem dX6_count_96 : decode cX6_count 96 = .ok (.iconst 2, 1) := by decide +kernel
theorem dX6_count_97 : decode cX6_count 97 = .ok (.invokevirtual 82, 3) := by decide +kernel
theorem dX6_count_100 : decode cX6_count 100 = .ok (.invokestatic 130, 3) := by decide +kernel
theorem dX6_count_103 : decode cX6_count 103 = .ok (.ireturn, 1) := by decide +kernel
theorem dX6_count_104 : decode cX6_count 104 = .ok (.aload_n 0, 1) := by decide +kernel
theorem dX6_count_105 : decode cX6_count 105 = .ok (.getfield 25, 3) := by decide +kernel
theorem dX6_count_108 : decode cX6_count 108 = .ok (.iconst 1, 1) := by decide +kernel
theorem dX6_count_109 : decode cX6_count 109 = .ok (.invokevirtual 180, 3) := by decide +kernel
theorem dX6_count_112 : decode cX6_count 112 = .ok (.ireturn, 1) := by decide +kernel
theorem dX6_count_113 : decode cX6_count 113 = .ok (.aload_n 0, 1) := by decide +kernel
theorem dX6_count_114 : decode cX6_count 114 = .ok (.getfield 25, 3) := by decide +kernel
theorem dX6_count_117 : decode cX6_count 117 = .ok (.iconst 2, 1) := by decide +kernel
theorem dX6_count_118 : decode cX6_count 118 = .ok (.invokevirtual 180, 3) := by decide +kernel
theorem dX6_count_121 : decode cX6_count 121 = .ok (.ireturn, 1) := by decide +kernel
theorem dX6_count_122 : decode cX6_count 122 = .ok (.aload_n 0, 1) := by decide +kernel
theorem dX6_count_123 : decode cX6_count 123 = .ok (.getfield 25, 3) := by decide +kernel
theorem dX6_count_126 : decode cX6_count 126 = .ok (.invokevirtual 117, 3) := by decide +kernel
theorem dX6_count_129 : decode cX6_count 129 = .ok (.ireturn, 1) := by decide +kernel
theorem dX6_count_130 : decode cX6_count 130 = .ok (.aload_n 0, 1) := by decide +kernel
theorem dX6_count_131 : decode cX6_count 131 = .ok (.getfield 12, 3) := by decide +kernel
theorem dX6_count_134 : decode cX6_count 134 = .ok (.getfield 183, 3) := by decide +kernel
theorem dX6_count_137 : decode cX6_count 137 = .ok (.ireturn, 1) := by decide +kernel
theorem dX6_count_138 : decode cX6_count 138 = .ok (.aload_n 0, 1) := by decide +kernel
theorem dX6_count_139 : decode cX6_count 139 = .ok (.getfield 12, 3) := by decide +kernel
theorem dX6_count_142 : decode cX6_count 142 = .ok (.getfield 186, 3) := by decide +kernel
theorem dX6_count_145 : decode cX6_count 145 = .ok (.ireturn, 1) := by decide +kernel
theorem dX6_count_146 : decode cX6_count 146 = .ok (.aload_n 0, 1) := by decide +kernel
theorem dX6_count_147 : decode cX6_count 147 = .ok (.getfield 25, 3) := by decide +kernel
theorem dX6_count_150 : decode cX6_count 150 = .ok (.getfield 96, 3) := by decide +kernel
theorem dX6_count_153 : decode cX6_count 153 = .ok (.ireturn, 1) := by decide +kernel
set_option maxRecDepth 20000 in
theorem ggX6_act_X4_actAt : GoodIn wsX6_act wsX4_actAt := goodIn_r _ [6, 7, 8, 16, 17, 18, 19, 20, 21, 22, 23, 24] (by decide +kernel) (by decide +kernel)
set_option maxRecDepth 20000 in
theorem gX6_act_X4_actAt : GoodIn wsX6_act (wsV RX6 189 RX4 yX4_actAt wsX4_actAt) := goodIn_app (goodIn_of _ (by decide +kernel)) ggX6_act_X4_actAt
theorem dX6_act_0 : decode cX6_act 0 = .ok (.aload_n 0, 1) := by decide +kernel
theorem dX6_act_1 : decode cX6_act 1 = .ok (.getfield 25, 3) := by decide +kernel
theorem dX6_act_4 : decode cX6_act 4 = .ok (.iload_n 1, 1) := by decide +kernel
theorem dX6_act_5 : decode cX6_act 5 = .ok (.invokevirtual 189, 3) := by decide +kernel
theorem dX6_act_8 : decode cX6_act 8 = .ok (.ireturn, 1) := by decide +kernel
set_option maxRecDepth 20000 in
theorem ggX6_digest_X6_count : GoodIn wsX6_digest wsX6_count := goodIn_r _ [11, 5, 6, 3, 12, 13, 14, 15, 16, 17, 18, 19, 20, 21, 22, 23, 24, 25, 26, 27, 28, 29, 30, 31, 32, 33, 34, 35, 36, 37, 38, 39, 40, 41, 42, 43, 44, 45, 46, 47, 48, 49, 50, 51, 52, 53, 54, 55, 56, 57, 58, 59, 60, 61, 62, 63, 74, 75, 76, 77, 78, 79, 80, 87, 88, 89, 90, 91, 92, 93, 94, 95, 81, 82, 83, 84, 85, 86] (by decide +kernel) (by decide +kernel)
set_option maxRecDepth 20000 in
theorem gX6_digest_X6_count : GoodIn wsX6_digest (wsV RX6 196 RX6 yX6_count wsX6_count) := goodIn_app (goodIn_of _ (by decide +kernel)) ggX6_digest_X6_count
set_option maxRecDepth 20000 in
theorem ggX6_digest_X4_colourAt : GoodIn wsX6_digest wsX4_colourAt := goodIn_r _ [67, 68, 27, 28, 18, 29, 20, 30, 31, 32, 33, 34, 35, 69, 70, 71, 72, 87, 88, 89, 90, 91, 92, 93, 94, 95] (by decide +kernel) (by decide +kernel)
set_option maxRecDepth 20000 in
theorem gX6_digest_X4_colourAt : GoodIn wsX6_digest (wsV RX6 123 RX4 yX4_colourAt wsX4_colourAt) := goodIn_app (goodIn_of _ (by decide +kernel)) ggX6_digest_X4_colourAt
set_option maxRecDepth 20000 in
theorem ggX6_digest_X4_actAt : GoodIn wsX6_digest wsX4_actAt := goodIn_r _ [62, 20, 63, 87, 88, 89, 90, 91, 92, 93, 94, 95] (by decide +kernel) (by decide +kernel)
set_option maxRecDepth 20000 in
theorem gX6_digest_X4_actAt : GoodIn wsX6_digest (wsV RX6 189 RX4 yX4_actAt wsX4_actAt) := goodIn_app (goodIn_of _ (by decide +kernel)) ggX6_digest_X4_actAt
theorem dX6_digest_0 : decode cX6_digest 0 = .ok (.ldc2_w 192, 3) := by decide +kernel
theorem dX6_digest_3 : decode cX6_digest 3 = .ok (.lstore_n 1, 1) := by decide +kernel
theorem dX6_digest_4 : decode cX6_digest 4 = .ok (.iconst 0, 1) := by decide +kernel
theorem dX6_digest_5 : decode cX6_digest 5 = .ok (.istore_n 3, 1) := by decide +kernel
theorem dX6_digest_6 : decode cX6_digest 6 = .ok (.iload_n 3, 1) := by decide +kernel
theorem dX6_digest_7 : decode cX6_digest 7 = .ok (.bipush 9, 2) := by decide +kernel
theorem dX6_digest_9 : decode cX6_digest 9 = .ok (.if_icmp .gt 22, 3) := by decide +kernel
theorem dX6_digest_12 : decode cX6_digest 12 = .ok (.ldc2_w 194, 3) := by decide +kernel
theorem dX6_digest_15 : decode cX6_digest 15 = .ok (.lload_n 1, 1) := by decide +kernel
theorem dX6_digest_16 : decode cX6_digest 16 = .ok (.lmul, 1) := by decide +kernel
theorem dX6_digest_17 : decode cX6_digest 17 = .ok (.aload_n 0, 1) := by decide +kernel
theorem dX6_digest_18 : decode cX6_digest 18 = .ok (.iload_n 3, 1) := by decide +kernel
theorem dX6_digest_19 : decode cX6_digest 19 = .ok (.invokevirtual 196, 3) := by decide +kernel
theorem dX6_digest_22 : decode cX6_digest 22 = .ok (.i2l, 1) := by decide +kernel
theorem dX6_digest_23 : decode cX6_digest 23 = .ok (.ladd, 1) := by decide +kernel
theorem dX6_digest_24 : decode cX6_digest 24 = .ok (.lstore_n 1, 1) := by decide +kernel
theorem dX6_digest_25 : decode cX6_digest 25 = .ok (.iinc 3 1, 3) := by decide +kernel
theorem dX6_digest_28 : decode cX6_digest 28 = .ok (.goto (-22), 3) := by decide +kernel
theorem dX6_digest_31 : decode cX6_digest 31 = .ok (.iconst 0, 1) := by decide +kernel
theorem dX6_digest_32 : decode cX6_digest 32 = .ok (.istore_n 3, 1) := by decide +kernel
theorem dX6_digest_33 : decode cX6_digest 33 = .ok (.iload_n 3, 1) := by decide +kernel
theorem dX6_digest_34 : decode cX6_digest 34 = .ok (.aload_n 0, 1) := by decide +kernel
theorem dX6_digest_35 : decode cX6_digest 35 = .ok (.getfield 12, 3) := by decide +kernel
theorem dX6_digest_38 : decode cX6_digest 38 = .ok (.getfield 114, 3) := by decide +kernel
theorem dX6_digest_41 : decode cX6_digest 41 = .ok (.if_icmp .ge 25, 3) := by decide +kernel
theorem dX6_digest_44 : decode cX6_digest 44 = .ok (.ldc2_w 194, 3) := by decide +kernel
theorem dX6_digest_47 : decode cX6_digest 47 = .ok (.lload_n 1, 1) := by decide +kernel
theorem dX6_digest_48 : decode cX6_digest 48 = .ok (.lmul, 1) := by decide +kernel
theorem dX6_digest_49 : decode cX6_digest 49 = .ok (.aload_n 0, 1) := by decide +kernel
theorem dX6_digest_50 : decode cX6_digest 50 = .ok (.getfield 25, 3) := by decide +kernel
theorem dX6_digest_53 : decode cX6_digest 53 = .ok (.iload_n 3, 1) := by decide +kernel
theorem dX6_digest_54 : decode cX6_digest 54 = .ok (.invokevirtual 123, 3) := by decide +kernel
theorem dX6_digest_57 : decode cX6_digest 57 = .ok (.i2l, 1) := by decide +kernel
theorem dX6_digest_58 : decode cX6_digest 58 = .ok (.ladd, 1) := by decide +kernel
theorem dX6_digest_59 : decode cX6_digest 59 = .ok (.lstore_n 1, 1) := by decide +kernel
theorem dX6_digest_60 : decode cX6_digest 60 = .ok (.iinc 3 1, 3) := by decide +kernel
theorem dX6_digest_63 : decode cX6_digest 63 = .ok (.goto (-30), 3) := by decide +kernel
theorem dX6_digest_66 : decode cX6_digest 66 = .ok (.iconst 0, 1) := by decide +kernel
theorem dX6_digest_67 : decode cX6_digest 67 = .ok (.istore_n 3, 1) := by decide +kernel
theorem dX6_digest_68 : decode cX6_digest 68 = .ok (.iload_n 3, 1) := by decide +kernel
theorem dX6_digest_69 : decode cX6_digest 69 = .ok (.aload_n 0, 1) := by decide +kernel
theorem dX6_digest_70 : decode cX6_digest 70 = .ok (.getfield 25, 3) := by decide +kernel
theorem dX6_digest_73 : decode cX6_digest 73 = .ok (.getfield 73, 3) := by decide +kernel
theorem dX6_digest_76 : decode cX6_digest 76 = .ok (.if_icmp .ge 25, 3) := by decide +kernel
theorem dX6_digest_79 : decode cX6_digest 79 = .ok (.ldc2_w 194, 3) := by decide +kernel
theorem dX6_digest_82 : decode cX6_digest 82 = .ok (.lload_n 1, 1) := by decide +kernel
theorem dX6_digest_83 : decode cX6_digest 83 = .ok (.lmul, 1) := by decide +kernel
theorem dX6_digest_84 : decode cX6_digest 84 = .ok (.aload_n 0, 1) := by decide +kernel
theorem dX6_digest_85 : decode cX6_digest 85 = .ok (.getfield 25, 3) := by decide +kernel
theorem dX6_digest_88 : decode cX6_digest 88 = .ok (.iload_n 3, 1) := by decide +kernel
theorem dX6_digest_89 : decode cX6_digest 89 = .ok (.invokevirtual 189, 3) := by decide +kernel
theorem dX6_digest_92 : decode cX6_digest 92 = .ok (.i2l, 1) := by decide +kernel
theorem dX6_digest_93 : decode cX6_digest 93 = .ok (.ladd, 1) := by decide +kernel
theorem dX6_digest_94 : decode cX6_digest 94 = .ok (.lstore_n 1, 1) := by decide +kernel
theorem dX6_digest_95 : decode cX6_digest 95 = .ok (.iinc 3 1, 3) := by decide +kernel
theorem dX6_digest_98 : decode cX6_digest 98 = .ok (.goto (-30), 3) := by decide +kernel
theorem dX6_digest_101 : decode cX6_digest 101 = .ok (.lload_n 1, 1) := by decide +kernel
theorem dX6_digest_102 : decode cX6_digest 102 = .ok (.lreturn, 1) := by decide +kernel
theorem dX6_isSide_0 : decode cX6_isSide 0 = .ok (.iload_n 0, 1) := by decide +kernel
theorem dX6_isSide_1 : decode cX6_isSide 1 = .ok (.iconst 2, 1) := by decide +kernel
theorem dX6_isSide_2 : decode cX6_isSide 2 = .ok (.if_icmp .lt 13, 3) := by decide +kernel
theorem dX6_isSide_5 : decode cX6_isSide 5 = .ok (.iload_n 0, 1) := by decide +kernel
theorem dX6_isSide_6 : decode cX6_isSide 6 = .ok (.bipush 7, 2) := by decide +kernel
theorem dX6_isSide_8 : decode cX6_isSide 8 = .ok (.if_icmp .gt 7, 3) := by decide +kernel
theorem dX6_isSide_11 : decode cX6_isSide 11 = .ok (.iconst 1, 1) := by decide +kernel
theorem dX6_isSide_12 : decode cX6_isSide 12 = .ok (.goto 4, 3) := by decide +kernel
theorem dX6_isSide_15 : decode cX6_isSide 15 = .ok (.iconst 0, 1) := by decide +kernel
theorem dX6_isSide_16 : decode cX6_isSide 16 = .ok (.ireturn, 1) := by decide +kernel
theorem dX6_isColour_0 : decode cX6_isColour 0 = .ok (.iload_n 0, 1) := by decide +kernel
theorem dX6_isColour_1 : decode cX6_isColour 1 = .ok (.iconst 1, 1) := by decide +kernel
theorem dX6_isColour_2 : decode cX6_isColour 2 = .ok (.if_icmp .eq 8, 3) := by decide +kernel
theorem dX6_isColour_5 : decode cX6_isColour 5 = .ok (.iload_n 0, 1) := by decide +kernel
theorem dX6_isColour_6 : decode cX6_isColour 6 = .ok (.iconst 2, 1) := by decide +kernel
theorem dX6_isColour_7 : decode cX6_isColour 7 = .ok (.if_icmp .ne 7, 3) := by decide +kernel
theorem dX6_isColour_10 : decode cX6_isColour 10 = .ok (.iconst 1, 1) := by decide +kernel
theorem dX6_isColour_11 : decode cX6_isColour 11 = .ok (.goto 4, 3) := by decide +kernel
theorem dX6_isColour_14 : decode cX6_isColour 14 = .ok (.iconst 0, 1) := by decide +kernel
theorem dX6_isColour_15 : decode cX6_isColour 15 = .ok (.ireturn, 1) := by decide +kernel
theorem dX6_other_0 : decode cX6_other 0 = .ok (.iconst 3, 1) := by decide +kernel
theorem dX6_other_1 : decode cX6_other 1 = .ok (.iload_n 0, 1) := by decide +kernel
theorem dX6_other_2 : decode cX6_other 2 = .ok (.isub, 1) := by decide +kernel
theorem dX6_other_3 : decode cX6_other 3 = .ok (.ireturn, 1) := by decide +kernel
theorem dX7_in_0 : decode cX7_in 0 = .ok (.iload_n 0, 1) := by decide +kernel
theorem dX7_in_1 : decode cX7_in 1 = .ok (.iload_n 1, 1) := by decide +kernel
theorem dX7_in_2 : decode cX7_in 2 = .ok (.if_icmp .lt 12, 3) := by decide +kernel
theorem dX7_in_5 : decode cX7_in 5 = .ok (.iload_n 0, 1) := by decide +kernel
theorem dX7_in_6 : decode cX7_in 6 = .ok (.iload_n 2, 1) := by decide +kernel
theorem dX7_in_7 : decode cX7_in 7 = .ok (.if_icmp .gt 7, 3) := by decide +kernel
theorem dX7_in_10 : decode cX7_in 10 = .ok (.iconst 1, 1) := by decide +kernel
theorem dX7_in_11 : decode cX7_in 11 = .ok (.goto 4, 3) := by decide +kernel
theorem dX7_in_14 : decode cX7_in 14 = .ok (.iconst 0, 1) := by decide +kernel
theorem dX7_in_15 : decode cX7_in 15 = .ok (.ireturn, 1) := by decide +kernel
set_option maxRecDepth 20000 in
theorem ggX7_init_X7_lays : GoodIn wsX7_init wsX7_lays := goodIn_r _ [33, 4, 5, 34, 35, 10, 11, 12, 13, 14, 7, 36, 37, 38, 39, 40, 41, 42, 43, 44, 45, 46, 47, 48, 49, 50, 51, 52, 53, 54, 55, 56, 57, 58, 59, 60, 61, 62, 63, 64] (by decide +kernel) (by decide +kernel)
set_option maxRecDepth 20000 in
theorem gX7_init_X7_lays : GoodIn wsX7_init (wsV RX7 79 RX7 yX7_lays wsX7_lays) := goodIn_app (goodIn_of _ (by decide +kernel)) ggX7_init_X7_lays
theorem dX7_init_0 : decode cX7_init 0 = .ok (.aload_n 0, 1) := by decide +kernel
theorem dX7_init_1 : decode cX7_init 1 = .ok (.invokespecial 1, 3) := by decide +kernel
theorem dX7_init_4 : decode cX7_init 4 = .ok (.aload_n 0, 1) := by decide +kernel
theorem dX7_init_5 : decode cX7_init 5 = .ok (.iconst 5, 1) := by decide +kernel
theorem dX7_init_6 : decode cX7_init 6 = .ok (.putfield 7, 3) := by decide +kernel
theorem dX7_init_9 : decode cX7_init 9 = .ok (.aload_n 0, 1) := by decide +kernel
theorem dX7_init_10 : decode cX7_init 10 = .ok (.iconst 5, 1) := by decide +kernel
theorem dX7_init_11 : decode cX7_init 11 = .ok (.putfield 13, 3) := by decide +kernel
theorem dX7_init_14 : decode cX7_init 14 = .ok (.aload_n 0, 1) := by decide +kernel
theorem dX7_init_15 : decode cX7_init 15 = .ok (.bipush 49, 2) := by decide +kernel
theorem dX7_init_17 : decode cX7_init 17 = .ok (.newarray .long, 2) := by decide +kernel
theorem dX7_init_19 : decode cX7_init 19 = .ok (.putfield 16, 3) := by decide +kernel
theorem dX7_init_22 : decode cX7_init 22 = .ok (.aload_n 0, 1) := by decide +kernel
theorem dX7_init_23 : decode cX7_init 23 = .ok (.bipush 120, 2) := by decide +kernel
theorem dX7_init_25 : decode cX7_init 25 = .ok (.newarray .int, 2) := by decide +kernel
theorem dX7_init_27 : decode cX7_init 27 = .ok (.putfield 20, 3) := by decide +kernel
theorem dX7_init_30 : decode cX7_init 30 = .ok (.aload_n 0, 1) := by decide +kernel
theorem dX7_init_31 : decode cX7_init 31 = .ok (.sipush 130, 3) := by decide +kernel
theorem dX7_init_34 : decode cX7_init 34 = .ok (.newarray .long, 2) := by decide +kernel
theorem dX7_init_36 : decode cX7_init 36 = .ok (.putfield 24, 3) := by decide +kernel
theorem dX7_init_39 : decode cX7_init 39 = .ok (.aload_n 0, 1) := by decide +kernel
theorem dX7_init_40 : decode cX7_init 40 = .ok (.sipush 130, 3) := by decide +kernel
theorem dX7_init_43 : decode cX7_init 43 = .ok (.newarray .long, 2) := by decide +kernel
theorem dX7_init_45 : decode cX7_init 45 = .ok (.putfield 27, 3) := by decide +kernel
theorem dX7_init_48 : decode cX7_init 48 = .ok (.aload_n 0, 1) := by decide +kernel
theorem dX7_init_49 : decode cX7_init 49 = .ok (.sipush 130, 3) := by decide +kernel
theorem dX7_init_52 : decode cX7_init 52 = .ok (.newarray .int, 2) := by decide +kernel
theorem dX7_init_54 : decode cX7_init 54 = .ok (.putfield 30, 3) := by decide +kernel
theorem dX7_init_57 : decode cX7_init 57 = .ok (.aload_n 0, 1) := by decide +kernel
theorem dX7_init_58 : decode cX7_init 58 = .ok (.bipush 121, 2) := by decide +kernel
theorem dX7_init_60 : decode cX7_init 60 = .ok (.newarray .int, 2) := by decide +kernel
theorem dX7_init_62 : decode cX7_init 62 = .ok (.putfield 33, 3) := by decide +kernel
theorem dX7_init_65 : decode cX7_init 65 = .ok (.aload_n 0, 1) := by decide +kernel
theorem dX7_init_66 : decode cX7_init 66 = .ok (.bipush 121, 2) := by decide +kernel
theorem dX7_init_68 : decode cX7_init 68 = .ok (.newarray .int, 2) := by decide +kernel
theorem dX7_init_70 : decode cX7_init 70 = .ok (.putfield 36, 3) := by decide +kernel
theorem dX7_init_73 : decode cX7_init 73 = .ok (.aload_n 0, 1) := by decide +kernel
theorem dX7_init_74 : decode cX7_init 74 = .ok (.bipush 21, 2) := by decide +kernel
theorem dX7_init_76 : decode cX7_init 76 = .ok (.newarray .long, 2) := by decide +kernel
theorem dX7_init_78 : decode cX7_init 78 = .ok (.putfield 39, 3) := by decide +kernel
theorem dX7_init_81 : decode cX7_init 81 = .ok (.aload_n 0, 1) := by decide +kernel
theorem dX7_init_82 : decode cX7_init 82 = .ok (.bipush 21, 2) := by decide +kernel
theorem dX7_init_84 : decode cX7_init 84 = .ok (.newarray .long, 2) := by decide +kernel
theorem dX7_init_86 : decode cX7_init 86 = .ok (.putfield 42, 3) := by decide +kernel
theorem dX7_init_89 : decode cX7_init 89 = .ok (.aload_n 0, 1) := by decide +kernel
theorem dX7_init_90 : decode cX7_init 90 = .ok (.bipush 21, 2) := by decide +kernel
theorem dX7_init_92 : decode cX7_init 92 = .ok (.newarray .long, 2) := by decide +kernel
theorem dX7_init_94 : decode cX7_init 94 = .ok (.putfield 45, 3) := by decide +kernel
theorem dX7_init_97 : decode cX7_init 97 = .ok (.aload_n 0, 1) := by decide +kernel
theorem dX7_init_98 : decode cX7_init 98 = .ok (.bipush 21, 2) := by decide +kernel
theorem dX7_init_100 : decode cX7_init 100 = .ok (.newarray .long, 2) := by decide +kernel
theorem dX7_init_102 : decode cX7_init 102 = .ok (.putfield 48, 3) := by decide +kernel
theorem dX7_init_105 : decode cX7_init 105 = .ok (.aload_n 0, 1) := by decide +kernel
theorem dX7_init_106 : decode cX7_init 106 = .ok (.bipush 21, 2) := by decide +kernel
theorem dX7_init_108 : decode cX7_init 108 = .ok (.newarray .boolean, 2) := by decide +kernel
theorem dX7_init_110 : decode cX7_init 110 = .ok (.putfield 51, 3) := by decide +kernel
theorem dX7_init_113 : decode cX7_init 113 = .ok (.aload_n 0, 1) := by decide +kernel
theorem dX7_init_114 : decode cX7_init 114 = .ok (.bipush 21, 2) := by decide +kernel
theorem dX7_init_116 : decode cX7_init 116 = .ok (.newarray .long, 2) := by decide +kernel
theorem dX7_init_118 : decode cX7_init 118 = .ok (.putfield 55, 3) := by decide +kernel
theorem dX7_init_121 : decode cX7_init 121 = .ok (.aload_n 0, 1) := by decide +kernel
theorem dX7_init_122 : decode cX7_init 122 = .ok (.bipush 21, 2) := by decide +kernel
theorem dX7_init_124 : decode cX7_init 124 = .ok (.newarray .long, 2) := by decide +kernel
theorem dX7_init_126 : decode cX7_init 126 = .ok (.putfield 58, 3) := by decide +kernel
theorem dX7_init_129 : decode cX7_init 129 = .ok (.aload_n 0, 1) := by decide +kernel
theorem dX7_init_130 : decode cX7_init 130 = .ok (.bipush 21, 2) := by decide +kernel
theorem dX7_init_132 : decode cX7_init 132 = .ok (.newarray .long, 2) := by decide +kernel
theorem dX7_init_134 : decode cX7_init 134 = .ok (.putfield 61, 3) := by decide +kernel
theorem dX7_init_137 : decode cX7_init 137 = .ok (.aload_n 0, 1) := by decide +kernel
theorem dX7_init_138 : decode cX7_init 138 = .ok (.bipush 21, 2) := by decide +kernel
theorem dX7_init_140 : decode cX7_init 140 = .ok (.newarray .long, 2) := by decide +kernel
theorem dX7_init_142 : decode cX7_init 142 = .ok (.putfield 64, 3) := by decide +kernel
theorem dX7_init_145 : decode cX7_init 145 = .ok (.aload_n 0, 1) := by decide +kernel
theorem dX7_init_146 : decode cX7_init 146 = .ok (.bipush 21, 2) := by decide +kernel
theorem dX7_init_148 : decode cX7_init 148 = .ok (.newarray .int, 2) := by decide +kernel
theorem dX7_init_150 : decode cX7_init 150 = .ok (.putfield 67, 3) := by decide +kernel
theorem dX7_init_153 : decode cX7_init 153 = .ok (.aload_n 0, 1) := by decide +kernel
theorem dX7_init_154 : decode cX7_init 154 = .ok (.bipush 21, 2) := by decide +kernel
theorem dX7_init_156 : decode cX7_init 156 = .ok (.newarray .boolean, 2) := by decide +kernel
theorem dX7_init_158 : decode cX7_init 158 = .ok (.putfield 70, 3) := by decide +kernel
theorem dX7_init_161 : decode cX7_init 161 = .ok (.aload_n 0, 1) := by decide +kernel
theorem dX7_init_162 : decode cX7_init 162 = .ok (.iconst (-1), 1) := by decide +kernel
theorem dX7_init_163 : decode cX7_init 163 = .ok (.putfield 73, 3) := by decide +kernel
theorem dX7_init_166 : decode cX7_init 166 = .ok (.aload_n 0, 1) := by decide +kernel
theorem dX7_init_167 : decode cX7_init 167 = .ok (.bipush 7, 2) := by decide +kernel
theorem dX7_init_169 : decode cX7_init 169 = .ok (.newarray .int, 2) := by decide +kernel
theorem dX7_init_171 : decode cX7_init 171 = .ok (.putfield 76, 3) := by decide +kernel
theorem dX7_init_174 : decode cX7_init 174 = .ok (.aload_n 0, 1) := by decide +kernel
theorem dX7_init_175 : decode cX7_init 175 = .ok (.iconst 5, 1) := by decide +kernel
theorem dX7_init_176 : decode cX7_init 176 = .ok (.iconst 5, 1) := by decide +kernel
theorem dX7_init_177 : decode cX7_init 177 = .ok (.iconst 0, 1) := by decide +kernel
theorem dX7_init_178 : decode cX7_init 178 = .ok (.invokevirtual 79, 3) := by decide +kernel
theorem dX7_init_181 : decode cX7_init 181 = .ok (.return_, 1) := by decide +kernel
theorem dX7_lays_0 : decode cX7_lays 0 = .ok (.aload_n 0, 1) := by decide +kernel
theorem dX7_lays_1 : decode cX7_lays 1 = .ok (.iload_n 1, 1) := by decide +kernel
theorem dX7_lays_2 : decode cX7_lays 2 = .ok (.putfield 7, 3) := by decide +kernel
theorem dX7_lays_5 : decode cX7_lays 5 = .ok (.aload_n 0, 1) := by decide +kernel
theorem dX7_lays_6 : decode cX7_lays 6 = .ok (.iload_n 2, 1) := by decide +kernel
theorem dX7_lays_7 : decode cX7_lays 7 = .ok (.putfield 13, 3) := by decide +kernel
theorem dX7_lays_10 : decode cX7_lays 10 = .ok (.aload_n 0, 1) := by decide +kernel
theorem dX7_lays_11 : decode cX7_lays 11 = .ok (.iload_n 3, 1) := by decide +kernel
theorem dX7_lays_12 : decode cX7_lays 12 = .ok (.putfield 83, 3) := by decide +kernel
theorem dX7_lays_15 : decode cX7_lays 15 = .ok (.aload_n 0, 1) := by decide +kernel
theorem dX7_lays_16 : decode cX7_lays 16 = .ok (.iconst 0, 1) := by decide +kernel
theorem dX7_lays_17 : decode cX7_lays 17 = .ok (.putfield 86, 3) := by decide +kernel
theorem dX7_lays_20 : decode cX7_lays 20 = .ok (.aload_n 0, 1) := by decide +kernel
theorem dX7_lays_21 : decode cX7_lays 21 = .ok (.getfield 24, 3) := by decide +kernel
theorem dX7_lays_24 : decode cX7_lays 24 = .ok (.iconst 0, 1) := by decide +kernel
theorem dX7_lays_25 : decode cX7_lays 25 = .ok (.lconst 0, 1) := by decide +kernel
theorem dX7_lays_26 : decode cX7_lays 26 = .ok (.lastore, 1) := by decide +kernel
theorem dX7_lays_27 : decode cX7_lays 27 = .ok (.aload_n 0, 1) := by decide +kernel
theorem dX7_lays_28 : decode cX7_lays 28 = .ok (.getfield 27, 3) := by decide +kernel
theorem dX7_lays_31 : decode cX7_lays 31 = .ok (.iconst 0, 1) := by decide +kernel
theorem dX7_lays_32 : decode cX7_lays 32 = .ok (.lconst 0, 1) := by decide +kernel
theorem dX7_lays_33 : decode cX7_lays 33 = .ok (.lastore, 1) := by decide +kernel
theorem dX7_lays_34 : decode cX7_lays 34 = .ok (.aload_n 0, 1) := by decide +kernel
theorem dX7_lays_35 : decode cX7_lays 35 = .ok (.getfield 30, 3) := by decide +kernel
theorem dX7_lays_38 : decode cX7_lays 38 = .ok (.iconst 0, 1) := by decide +kernel
theorem dX7_lays_39 : decode cX7_lays 39 = .ok (.iconst 1, 1) := by decide +kernel
theorem dX7_lays_40 : decode cX7_lays 40 = .ok (.iastore, 1) := by decide +kernel
theorem dX7_lays_41 : decode cX7_lays 41 = .ok (.aload_n 0, 1) := by decide +kernel
theorem dX7_lays_42 : decode cX7_lays 42 = .ok (.getfield 33, 3) := by decide +kernel
theorem dX7_lays_45 : decode cX7_lays 45 = .ok (.iconst 0, 1) := by decide +kernel
theorem dX7_lays_46 : decode cX7_lays 46 = .ok (.iconst 0, 1) := by decide +kernel
theorem dX7_lays_47 : decode cX7_lays 47 = .ok (.iastore, 1) := by decide +kernel
theorem dX7_lays_48 : decode cX7_lays 48 = .ok (.aload_n 0, 1) := by decide +kernel
theorem dX7_lays_49 : decode cX7_lays 49 = .ok (.getfield 36, 3) := by decide +kernel
theorem dX7_lays_52 : decode cX7_lays 52 = .ok (.iconst 0, 1) := by decide +kernel
theorem dX7_lays_53 : decode cX7_lays 53 = .ok (.iconst 0, 1) := by decide +kernel
theorem dX7_lays_54 : decode cX7_lays 54 = .ok (.iastore, 1) := by decide +kernel
theorem dX7_lays_55 : decode cX7_lays 55 = .ok (.iconst 0, 1) := by decide +kernel
theorem dX7_lays_56 : decode cX7_lays 56 = .ok (.istore 4, 2) := by decide +kernel
theorem dX7_lays_58 : decode cX7_lays 58 = .ok (.iload 4, 2) := by decide +kernel
theorem dX7_lays_60 : decode cX7_lays 60 = .ok (.iload_n 1, 1) := by decide +kernel
theorem dX7_lays_61 : decode cX7_lays 61 = .ok (.iload_n 2, 1) := by decide +kernel
theorem dX7_lays_62 : decode cX7_lays 62 = .ok (.imul, 1) := by decide +kernel
theorem dX7_lays_63 : decode cX7_lays 63 = .ok (.if_icmp .ge 114, 3) := by decide +kernel
theorem dX7_lays_66 : decode cX7_lays 66 = .ok (.lconst 0, 1) := by decide +kernel
theorem dX7_lays_67 : decode cX7_lays 67 = .ok (.lstore 5, 2) := by decide +kernel
theorem dX7_lays_69 : decode cX7_lays 69 = .ok (.lload 5, 2) := by decide +kernel
theorem dX7_lays_71 : decode cX7_lays 71 = .ok (.iload 4, 2) := by decide +kernel
theorem dX7_lays_73 : decode cX7_lays 73 = .ok (.iload_n 1, 1) := by decide +kernel
theorem dX7_lays_74 : decode cX7_lays 74 = .ok (.irem, 1) := by decide +kernel
theorem dX7_lays_75 : decode cX7_lays 75 = .ok (.ifCond .le 12, 3) := by decide +kernel
theorem dX7_lays_78 : decode cX7_lays 78 = .ok (.lconst 1, 1) := by decide +kernel
theorem dX7_lays_79 : decode cX7_lays 79 = .ok (.iload 4, 2) := by decide +kernel
theorem dX7_lays_81 : decode cX7_lays 81 = .ok (.iconst 1, 1) := by decide +kernel
theorem dX7_lays_82 : decode cX7_lays 82 = .ok (.isub, 1) := by decide +kernel
theorem dX7_lays_83 : decode cX7_lays 83 = .ok (.lshl, 1) := by decide +kernel
theorem dX7_lays_84 : decode cX7_lays 84 = .ok (.goto 4, 3) := by decide +kernel
theorem dX7_lays_87 : decode cX7_lays 87 = .ok (.lconst 0, 1) := by decide +kernel
theorem dX7_lays_88 : decode cX7_lays 88 = .ok (.lor, 1) := by decide +kernel
theorem dX7_lays_89 : decode cX7_lays 89 = .ok (.lstore 5, 2) := by decide +kernel
theorem dX7_lays_91 : decode cX7_lays 91 = .ok (.lload 5, 2) := by decide +kernel
theorem dX7_lays_93 : decode cX7_lays 93 = .ok (.iload 4, 2) := by decide +kernel
theorem dX7_lays_95 : decode cX7_lays 95 = .ok (.iload_n 1, 1) := by decide +kernel
theorem dX7_lays_96 : decode cX7_lays 96 = .ok (.irem, 1) := by decide +kernel
theorem dX7_lays_97 : decode cX7_lays 97 = .ok (.iload_n 1, 1) := by decide +kernel
theorem dX7_lays_98 : decode cX7_lays 98 = .ok (.iconst 1, 1) := by decide +kernel
theorem dX7_lays_99 : decode cX7_lays 99 = .ok (.isub, 1) := by decide +kernel
theorem dX7_lays_100 : decode cX7_lays 100 = .ok (.if_icmp .ge 12, 3) := by decide +kernel
theorem dX7_lays_103 : decode cX7_lays 103 = .ok (.lconst 1, 1) := by decide +kernel
theorem dX7_lays_104 : decode cX7_lays 104 = .ok (.iload 4, 2) := by decide +kernel
theorem dX7_lays_106 : decode cX7_lays 106 = .ok (.iconst 1, 1) := by decide +kernel
theorem dX7_lays_107 : decode cX7_lays 107 = .ok (.iadd, 1) := by decide +kernel
theorem dX7_lays_108 : decode cX7_lays 108 = .ok (.lshl, 1) := by decide +kernel
theorem dX7_lays_109 : decode cX7_lays 109 = .ok (.goto 4, 3) := by decide +kernel
theorem dX7_lays_112 : decode cX7_lays 112 = .ok (.lconst 0, 1) := by decide +kernel
theorem dX7_lays_113 : decode cX7_lays 113 = .ok (.lor, 1) := by decide +kernel
theorem dX7_lays_114 : decode cX7_lays 114 = .ok (.lstore 5, 2) := by decide +kernel
theorem dX7_lays_116 : decode cX7_lays 116 = .ok (.lload 5, 2) := by decide +kernel
theorem dX7_lays_118 : decode cX7_lays 118 = .ok (.iload 4, 2) := by decide +kernel
theorem dX7_lays_120 : decode cX7_lays 120 = .ok (.iload_n 1, 1) := by decide +kernel
theorem dX7_lays_121 : decode cX7_lays 121 = .ok (.if_icmp .lt 12, 3) := by decide +kernel
theorem dX7_lays_124 : decode cX7_lays 124 = .ok (.lconst 1, 1) := by decide +kernel
theorem dX7_lays_125 : decode cX7_lays 125 = .ok (.iload 4, 2) := by decide +kernel
theorem dX7_lays_127 : decode cX7_lays 127 = .ok (.iload_n 1, 1) := by decide +kernel
theorem dX7_lays_128 : decode cX7_lays 128 = .ok (.isub, 1) := by decide +kernel
theorem dX7_lays_129 : decode cX7_lays 129 = .ok (.lshl, 1) := by decide +kernel
theorem dX7_lays_130 : decode cX7_lays 130 = .ok (.goto 4, 3) := by decide +kernel
theorem dX7_lays_133 : decode cX7_lays 133 = .ok (.lconst 0, 1) := by decide +kernel
theorem dX7_lays_134 : decode cX7_lays 134 = .ok (.lor, 1) := by decide +kernel
theorem dX7_lays_135 : decode cX7_lays 135 = .ok (.lstore 5, 2) := by decide +kernel
theorem dX7_lays_137 : decode cX7_lays 137 = .ok (.lload 5, 2) := by decide +kernel
theorem dX7_lays_139 : decode cX7_lays 139 = .ok (.iload 4, 2) := by decide +kernel
theorem dX7_lays_141 : decode cX7_lays 141 = .ok (.iload_n 1, 1) := by decide +kernel
theorem dX7_lays_142 : decode cX7_lays 142 = .ok (.iload_n 2, 1) := by decide +kernel
theorem dX7_lays_143 : decode cX7_lays 143 = .ok (.iconst 1, 1) := by decide +kernel
theorem dX7_lays_144 : decode cX7_lays 144 = .ok (.isub, 1) := by decide +kernel
theorem dX7_lays_145 : decode cX7_lays 145 = .ok (.imul, 1) := by decide +kernel
theorem dX7_lays_146 : decode cX7_lays 146 = .ok (.if_icmp .ge 12, 3) := by decide +kernel
theorem dX7_lays_149 : decode cX7_lays 149 = .ok (.lconst 1, 1) := by decide +kernel
theorem dX7_lays_150 : decode cX7_lays 150 = .ok (.iload 4, 2) := by decide +kernel
theorem dX7_lays_152 : decode cX7_lays 152 = .ok (.iload_n 1, 1) := by decide +kernel
theorem dX7_lays_153 : decode cX7_lays 153 = .ok (.iadd, 1) := by decide +kernel
theorem dX7_lays_154 : decode cX7_lays 154 = .ok (.lshl, 1) := by decide +kernel
theorem dX7_lays_155 : decode cX7_lays 155 = .ok (.goto 4, 3) := by decide +kernel
theorem dX7_lays_158 : decode cX7_lays 158 = .ok (.lconst 0, 1) := by decide +kernel
theorem dX7_lays_159 : decode cX7_lays 159 = .ok (.lor, 1) := by decide +kernel
theorem dX7_lays_160 : decode cX7_lays 160 = .ok (.lstore 5, 2) := by decide +kernel
theorem dX7_lays_162 : decode cX7_lays 162 = .ok (.aload_n 0, 1) := by decide +kernel
theorem dX7_lays_163 : decode cX7_lays 163 = .ok (.getfield 16, 3) := by decide +kernel
theorem dX7_lays_166 : decode cX7_lays 166 = .ok (.iload 4, 2) := by decide +kernel
theorem dX7_lays_168 : decode cX7_lays 168 = .ok (.lload 5, 2) := by decide +kernel
theorem dX7_lays_170 : decode cX7_lays 170 = .ok (.lastore, 1) := by decide +kernel
theorem dX7_lays_171 : decode cX7_lays 171 = .ok (.iinc 4 1, 3) := by decide +kernel
theorem dX7_lays_174 : decode cX7_lays 174 = .ok (.goto (-116), 3) := by decide +kernel
theorem dX7_lays_177 : decode cX7_lays 177 = .ok (.return_, 1) := by decide +kernel
theorem dX7_size_0 : decode cX7_size 0 = .ok (.aload_n 0, 1) := by decide +kernel
theorem dX7_size_1 : decode cX7_size 1 = .ok (.getfield 7, 3) := by decide +kernel
theorem dX7_size_4 : decode cX7_size 4 = .ok (.aload_n 0, 1) := by decide +kernel
theorem dX7_size_5 : decode cX7_size 5 = .ok (.getfield 13, 3) := by decide +kernel
theorem dX7_size_8 : decode cX7_size 8 = .ok (.imul, 1) := by decide +kernel
theorem dX7_size_9 : decode cX7_size 9 = .ok (.ireturn, 1) := by decide +kernel
set_option maxRecDepth 20000 in
theorem ggX7_isCrossing_X7_size : GoodIn wsX7_isCrossing wsX7_size := goodIn_r _ [5, 6, 7, 11, 12, 13, 14, 15, 16, 17, 18, 19, 20, 21, 22, 23, 24, 25, 26, 27, 28, 29, 30, 31, 32, 33, 34, 35, 36, 37, 38, 39] (by decide +kernel) (by decide +kernel)
set_option maxRecDepth 20000 in
theorem gX7_isCrossing_X7_size : GoodIn wsX7_isCrossing (wsV RX7 89 RX7 yX7_size wsX7_size) := goodIn_app (goodIn_of _ (by decide +kernel)) ggX7_isCrossing_X7_size
set_option maxRecDepth 20000 in
theorem ggX7_isCrossing_X7_in : GoodIn wsX7_isCrossing wsX7_in := goodIn_r _ [10] (by decide +kernel) (by decide +kernel)
set_option maxRecDepth 20000 in
theorem gX7_isCrossing_X7_in : GoodIn wsX7_isCrossing (va_wsS RX7 93 yX7_in wsX7_in) := goodIn_app (goodIn_of _ (by decide +kernel)) ggX7_isCrossing_X7_in
theorem dX7_isCrossing_0 : decode cX7_isCrossing 0 = .ok (.iload_n 1, 1) := by decide +kernel
theorem dX7_isCrossing_1 : decode cX7_isCrossing 1 = .ok (.iconst 0, 1) := by decide +kernel
theorem dX7_isCrossing_2 : decode cX7_isCrossing 2 = .ok (.aload_n 0, 1) := by decide +kernel
theorem dX7_isCrossing_3 : decode cX7_isCrossing 3 = .ok (.invokevirtual 89, 3) := by decide +kernel
theorem dX7_isCrossing_6 : decode cX7_isCrossing 6 = .ok (.iconst 1, 1) := by decide +kernel
theorem dX7_isCrossing_7 : decode cX7_isCrossing 7 = .ok (.isub, 1) := by decide +kernel
theorem dX7_isCrossing_8 : decode cX7_isCrossing 8 = .ok (.invokestatic 93, 3) := by decide +kernel
theorem dX7_isCrossing_11 : decode cX7_isCrossing 11 = .ok (.ireturn, 1) := by decide +kernel
theorem dX7_many_0 : decode cX7_many 0 = .ok (.iconst 0, 1) := by decide +kernel
theorem dX7_many_1 : decode cX7_many 1 = .ok (.istore_n 2, 1) := by decide +kernel
theorem dX7_many_2 : decode cX7_many 2 = .ok (.lload_n 0, 1) := by decide +kernel
theorem dX7_many_3 : decode cX7_many 3 = .ok (.lstore_n 3, 1) := by decide +kernel
theorem dX7_many_4 : decode cX7_many 4 = .ok (.lload_n 3, 1) := by decide +kernel
theorem dX7_many_5 : decode cX7_many 5 = .ok (.lconst 0, 1) := by decide +kernel
theorem dX7_many_6 : decode cX7_many 6 = .ok (.lcmp, 1) := by decide +kernel
theorem dX7_many_7 : decode cX7_many 7 = .ok (.ifCond .eq 15, 3) := by decide +kernel
theorem dX7_many_10 : decode cX7_many 10 = .ok (.iinc 2 1, 3) := by decide +kernel
theorem dX7_many_13 : decode cX7_many 13 = .ok (.lload_n 3, 1) := by decide +kernel
theorem dX7_many_14 : decode cX7_many 14 = .ok (.lload_n 3, 1) := by decide +kernel
theorem dX7_many_15 : decode cX7_many 15 = .ok (.lconst 1, 1) := by decide +kernel
theorem dX7_many_16 : decode cX7_many 16 = .ok (.lsub, 1) := by decide +kernel
theorem dX7_many_17 : decode cX7_many 17 = .ok (.land, 1) := by decide +kernel
theorem dX7_many_18 : decode cX7_many 18 = .ok (.lstore_n 3, 1) := by decide +kernel
theorem dX7_many_19 : decode cX7_many 19 = .ok (.goto (-15), 3) := by decide +kernel
theorem dX7_many_22 : decode cX7_many 22 = .ok (.iload_n 2, 1) := by decide +kernel
theorem dX7_many_23 : decode cX7_many 23 = .ok (.ireturn, 1) := by decide +kernel
theorem dX7_least_0 : decode cX7_least 0 = .ok (.iload_n 2, 1) := by decide +kernel
theorem dX7_least_1 : decode cX7_least 1 = .ok (.istore_n 3, 1) := by decide +kernel
theorem dX7_least_2 : decode cX7_least 2 = .ok (.iload_n 3, 1) := by decide +kernel
theorem dX7_least_3 : decode cX7_least 3 = .ok (.bipush 49, 2) := by decide +kernel
theorem dX7_least_5 : decode cX7_least 5 = .ok (.if_icmp .ge 21, 3) := by decide +kernel
theorem dX7_least_8 : decode cX7_least 8 = .ok (.lload_n 0, 1) := by decide +kernel
theorem dX7_least_9 : decode cX7_least 9 = .ok (.iload_n 3, 1) := by decide +kernel
theorem dX7_least_10 : decode cX7_least 10 = .ok (.lshr, 1) := by decide +kernel
theorem dX7_least_11 : decode cX7_least 11 = .ok (.lconst 1, 1) := by decide +kernel
theorem dX7_least_12 : decode cX7_least 12 = .ok (.land, 1) := by decide +kernel
theorem dX7_least_13 : decode cX7_least 13 = .ok (.lconst 1, 1) := by decide +kernel
theorem dX7_least_14 : decode cX7_least 14 = .ok (.lcmp, 1) := by decide +kernel
theorem dX7_least_15 : decode cX7_least 15 = .ok (.ifCond .ne 5, 3) := by decide +kernel
theorem dX7_least_18 : decode cX7_least 18 = .ok (.iload_n 3, 1) := by decide +kernel
theorem dX7_least_19 : decode cX7_least 19 = .ok (.ireturn, 1) := by decide +kernel
theorem dX7_least_20 : decode cX7_least 20 = .ok (.iinc 3 1, 3) := by decide +kernel
theorem dX7_least_23 : decode cX7_least 23 = .ok (.goto (-21), 3) := by decide +kernel
theorem dX7_least_26 : decode cX7_least 26 = .ok (.iconst (-1), 1) := by decide +kernel
theorem dX7_least_27 : decode cX7_least 27 = .ok (.ireturn, 1) := by decide +kernel
set_option maxRecDepth 20000 in
theorem ggX7_around_X7_size : GoodIn wsX7_around wsX7_size := goodIn_r _ [6, 7, 8, 9, 10, 11, 12, 13, 14, 15, 16, 17, 18, 19, 20, 21, 22, 23, 24, 25, 26, 27, 28, 29, 30, 31, 32, 33, 34, 35, 36, 37] (by decide +kernel) (by decide +kernel)
set_option maxRecDepth 20000 in
theorem gX7_around_X7_size : GoodIn wsX7_around (wsV RX7 89 RX7 yX7_size wsX7_size) := goodIn_app (goodIn_of _ (by decide +kernel)) ggX7_around_X7_size
theorem dX7_around_0 : decode cX7_around 0 = .ok (.lconst 0, 1) := by decide +kernel
theorem dX7_around_1 : decode cX7_around 1 = .ok (.lstore_n 3, 1) := by decide +kernel
theorem dX7_around_2 : decode cX7_around 2 = .ok (.iconst 0, 1) := by decide +kernel
theorem dX7_around_3 : decode cX7_around 3 = .ok (.istore 5, 2) := by decide +kernel
theorem dX7_around_5 : decode cX7_around 5 = .ok (.iload 5, 2) := by decide +kernel
theorem dX7_around_7 : decode cX7_around 7 = .ok (.aload_n 0, 1) := by decide +kernel
theorem dX7_around_8 : decode cX7_around 8 = .ok (.invokevirtual 89, 3) := by decide +kernel
theorem dX7_around_11 : decode cX7_around 11 = .ok (.if_icmp .ge 34, 3) := by decide +kernel
theorem dX7_around_14 : decode cX7_around 14 = .ok (.lload_n 3, 1) := by decide +kernel
theorem dX7_around_15 : decode cX7_around 15 = .ok (.lload_n 1, 1) := by decide +kernel
theorem dX7_around_16 : decode cX7_around 16 = .ok (.iload 5, 2) := by decide +kernel
theorem dX7_around_18 : decode cX7_around 18 = .ok (.lshr, 1) := by decide +kernel
theorem dX7_around_19 : decode cX7_around 19 = .ok (.lconst 1, 1) := by decide +kernel
theorem dX7_around_20 : decode cX7_around 20 = .ok (.land, 1) := by decide +kernel
theorem dX7_around_21 : decode cX7_around 21 = .ok (.lconst 1, 1) := by decide +kernel
theorem dX7_around_22 : decode cX7_around 22 = .ok (.lcmp, 1) := by decide +kernel
theorem dX7_around_23 : decode cX7_around 23 = .ok (.ifCond .ne 13, 3) := by decide +kernel
theorem dX7_around_26 : decode cX7_around 26 = .ok (.aload_n 0, 1) := by decide +kernel
theorem dX7_around_27 : decode cX7_around 27 = .ok (.getfield 16, 3) := by decide +kernel
theorem dX7_around_30 : decode cX7_around 30 = .ok (.iload 5, 2) := by decide +kernel
theorem dX7_around_32 : decode cX7_around 32 = .ok (.laload, 1) := by decide +kernel
theorem dX7_around_33 : decode cX7_around 33 = .ok (.goto 4, 3) := by decide +kernel
theorem dX7_around_36 : decode cX7_around 36 = .ok (.lconst 0, 1) := by decide +kernel
theorem dX7_around_37 : decode cX7_around 37 = .ok (.lor, 1) := by decide +kernel
theorem dX7_around_38 : decode cX7_around 38 = .ok (.lstore_n 3, 1) := by decide +kernel
theorem dX7_around_39 : decode cX7_around 39 = .ok (.iinc 5 1, 3) := by decide +kernel
theorem dX7_around_42 : decode cX7_around 42 = .ok (.goto (-37), 3) := by decide +kernel
theorem dX7_around_45 : decode cX7_around 45 = .ok (.lload_n 3, 1) := by decide +kernel
theorem dX7_around_46 : decode cX7_around 46 = .ok (.lreturn, 1) := by decide +kernel
set_option maxRecDepth 20000 in
theorem ggX7_spread_X7_around : GoodIn wsX7_spread wsX7_around := goodIn_r _ [5, 6, 7, 8, 9, 4, 10, 11, 12, 13, 14, 15, 16, 17, 18, 19, 20, 21, 22, 23, 24, 25, 26, 27, 28, 29, 30, 31, 32, 33, 34, 35, 36, 37, 38, 39, 40, 41] (by decide +kernel) (by decide +kernel)
set_option maxRecDepth 20000 in
theorem gX7_spread_X7_around : GoodIn wsX7_spread (wsV RX7 97 RX7 yX7_around wsX7_around) := goodIn_app (goodIn_of _ (by decide +kernel)) ggX7_spread_X7_around
theorem dX7_spread_0 : decode cX7_spread 0 = .ok (.lload_n 1, 1) := by decide +kernel
theorem dX7_spread_1 : decode cX7_spread 1 = .ok (.lload_n 3, 1) := by decide +kernel
theorem dX7_spread_2 : decode cX7_spread 2 = .ok (.land, 1) := by decide +kernel
theorem dX7_spread_3 : decode cX7_spread 3 = .ok (.lstore 5, 2) := by decide +kernel
