theorem dX7_spread_5 : decode cX7_spread 5 = .ok (.lconst 0, 1) := by decide +kernel
theorem dX7_spread_6 : decode cX7_spread 6 = .ok (.lstore 7, 2) := by decide +kernel
theorem dX7_spread_8 : decode cX7_spread 8 = .ok (.lload 7, 2) := by decide +kernel
theorem dX7_spread_10 : decode cX7_spread 10 = .ok (.lload 5, 2) := by decide +kernel
theorem dX7_spread_12 : decode cX7_spread 12 = .ok (.lcmp, 1) := by decide +kernel
theorem dX7_spread_13 : decode cX7_spread 13 = .ok (.ifCond .eq 23, 3) := by decide +kernel
theorem dX7_spread_16 : decode cX7_spread 16 = .ok (.lload 5, 2) := by decide +kernel
theorem dX7_spread_18 : decode cX7_spread 18 = .ok (.lstore 7, 2) := by decide +kernel
theorem dX7_spread_20 : decode cX7_spread 20 = .ok (.lload 5, 2) := by decide +kernel
theorem dX7_spread_22 : decode cX7_spread 22 = .ok (.aload_n 0, 1) := by decide +kernel
theorem dX7_spread_23 : decode cX7_spread 23 = .ok (.lload 5, 2) := by decide +kernel
theorem dX7_spread_25 : decode cX7_spread 25 = .ok (.invokevirtual 97, 3) := by decide +kernel
theorem dX7_spread_28 : decode cX7_spread 28 = .ok (.lload_n 3, 1) := by decide +kernel
theorem dX7_spread_29 : decode cX7_spread 29 = .ok (.land, 1) := by decide +kernel
theorem dX7_spread_30 : decode cX7_spread 30 = .ok (.lor, 1) := by decide +kernel
theorem dX7_spread_31 : decode cX7_spread 31 = .ok (.lstore 5, 2) := by decide +kernel
theorem dX7_spread_33 : decode cX7_spread 33 = .ok (.goto (-25), 3) := by decide +kernel
theorem dX7_spread_36 : decode cX7_spread 36 = .ok (.lload 5, 2) := by decide +kernel
theorem dX7_spread_38 : decode cX7_spread 38 = .ok (.lreturn, 1) := by decide +kernel
set_option maxRecDepth 20000 in
theorem ggX7_all_X7_size : GoodIn wsX7_all wsX7_size := goodIn_r _ [5, 6, 7, 8, 9, 10, 11, 12, 13, 14, 15, 16, 17, 18, 19, 20, 21, 22, 23, 24, 25, 26, 27, 28, 29, 30, 31, 32, 33, 34, 35, 36] (by decide +kernel) (by decide +kernel)
set_option maxRecDepth 20000 in
theorem gX7_all_X7_size : GoodIn wsX7_all (wsV RX7 89 RX7 yX7_size wsX7_size) := goodIn_app (goodIn_of _ (by decide +kernel)) ggX7_all_X7_size
theorem dX7_all_0 : decode cX7_all 0 = .ok (.lconst 1, 1) := by decide +kernel
theorem dX7_all_1 : decode cX7_all 1 = .ok (.aload_n 0, 1) := by decide +kernel
theorem dX7_all_2 : decode cX7_all 2 = .ok (.invokevirtual 89, 3) := by decide +kernel
theorem dX7_all_5 : decode cX7_all 5 = .ok (.lshl, 1) := by decide +kernel
theorem dX7_all_6 : decode cX7_all 6 = .ok (.lconst 1, 1) := by decide +kernel
theorem dX7_all_7 : decode cX7_all 7 = .ok (.lsub, 1) := by decide +kernel
theorem dX7_all_8 : decode cX7_all 8 = .ok (.lreturn, 1) := by decide +kernel
set_option maxRecDepth 20000 in
theorem ggX7_free_X7_all : GoodIn wsX7_free wsX7_all := goodIn_r _ [6, 7, 8, 9, 5, 10, 11, 12, 13, 14, 15, 16, 17, 18, 19, 20, 21, 22, 23, 24, 25, 26, 27, 28, 29, 30, 31, 32, 33, 34, 35, 36, 37, 38, 39, 40, 41] (by decide +kernel) (by decide +kernel)
set_option maxRecDepth 20000 in
theorem gX7_free_X7_all : GoodIn wsX7_free (wsV RX7 101 RX7 yX7_all wsX7_all) := goodIn_app (goodIn_of _ (by decide +kernel)) ggX7_free_X7_all
theorem dX7_free_0 : decode cX7_free 0 = .ok (.aload_n 0, 1) := by decide +kernel
theorem dX7_free_1 : decode cX7_free 1 = .ok (.invokevirtual 101, 3) := by decide +kernel
theorem dX7_free_4 : decode cX7_free 4 = .ok (.lload_n 1, 1) := by decide +kernel
theorem dX7_free_5 : decode cX7_free 5 = .ok (.ldc2_w 105, 3) := by decide +kernel
theorem dX7_free_8 : decode cX7_free 8 = .ok (.lxor, 1) := by decide +kernel
theorem dX7_free_9 : decode cX7_free 9 = .ok (.land, 1) := by decide +kernel
theorem dX7_free_10 : decode cX7_free 10 = .ok (.lload_n 3, 1) := by decide +kernel
theorem dX7_free_11 : decode cX7_free 11 = .ok (.ldc2_w 105, 3) := by decide +kernel
theorem dX7_free_14 : decode cX7_free 14 = .ok (.lxor, 1) := by decide +kernel
theorem dX7_free_15 : decode cX7_free 15 = .ok (.land, 1) := by decide +kernel
theorem dX7_free_16 : decode cX7_free 16 = .ok (.lreturn, 1) := by decide +kernel
theorem dX7_other_0 : decode cX7_other 0 = .ok (.iconst 3, 1) := by decide +kernel
theorem dX7_other_1 : decode cX7_other 1 = .ok (.iload_n 0, 1) := by decide +kernel
theorem dX7_other_2 : decode cX7_other 2 = .ok (.isub, 1) := by decide +kernel
theorem dX7_other_3 : decode cX7_other 3 = .ok (.ireturn, 1) := by decide +kernel
set_option maxRecDepth 20000 in
theorem ggX7_laid_X7_least : GoodIn wsX7_laid wsX7_least := goodIn_r _ [9] (by decide +kernel) (by decide +kernel)
set_option maxRecDepth 20000 in
theorem gX7_laid_X7_least : GoodIn wsX7_laid (va_wsS RX7 107 yX7_least wsX7_least) := goodIn_app (goodIn_of _ (by decide +kernel)) ggX7_laid_X7_least
set_option maxRecDepth 20000 in
theorem ggX7_laid_X7_spread : GoodIn wsX7_laid wsX7_spread := goodIn_r _ [13, 14, 15, 16, 8, 17, 1, 18, 19, 20, 21, 22, 23, 35, 36, 37, 38, 39, 40, 41, 42, 43, 44, 45, 46, 47, 48, 49, 50, 51, 52, 53, 54, 55, 56, 57, 58, 59, 60, 61, 62, 63] (by decide +kernel) (by decide +kernel)
set_option maxRecDepth 20000 in
theorem gX7_laid_X7_spread : GoodIn wsX7_laid (wsV RX7 111 RX7 yX7_spread wsX7_spread) := goodIn_app (goodIn_of _ (by decide +kernel)) ggX7_laid_X7_spread
set_option maxRecDepth 20000 in
theorem ggX7_laid_X7_around : GoodIn wsX7_laid wsX7_around := goodIn_r _ [17, 1, 18, 19, 20, 8, 21, 22, 23, 35, 36, 37, 38, 39, 40, 41, 42, 43, 44, 45, 46, 47, 48, 49, 50, 51, 52, 53, 54, 55, 56, 57, 58, 59, 60, 61, 62, 63] (by decide +kernel) (by decide +kernel)
set_option maxRecDepth 20000 in
theorem gX7_laid_X7_around : GoodIn wsX7_laid (wsV RX7 97 RX7 yX7_around wsX7_around) := goodIn_app (goodIn_of _ (by decide +kernel)) ggX7_laid_X7_around
set_option maxRecDepth 20000 in
theorem ggX7_laid_X7_all : GoodIn wsX7_laid wsX7_all := goodIn_r _ [27, 18, 19, 20, 8, 21, 22, 23, 35, 36, 37, 38, 39, 40, 41, 42, 43, 44, 45, 46, 47, 48, 49, 50, 51, 52, 53, 54, 55, 56, 57, 58, 59, 60, 61, 62, 63] (by decide +kernel) (by decide +kernel)
set_option maxRecDepth 20000 in
theorem gX7_laid_X7_all : GoodIn wsX7_laid (wsV RX7 101 RX7 yX7_all wsX7_all) := goodIn_app (goodIn_of _ (by decide +kernel)) ggX7_laid_X7_all
set_option maxRecDepth 20000 in
theorem ggX7_laid_X7_many : GoodIn wsX7_laid wsX7_many := goodIn_r _ [30] (by decide +kernel) (by decide +kernel)
set_option maxRecDepth 20000 in
theorem gX7_laid_X7_many : GoodIn wsX7_laid (va_wsS RX7 115 yX7_many wsX7_many) := goodIn_app (goodIn_of _ (by decide +kernel)) ggX7_laid_X7_many
set_option maxRecDepth 20000 in
theorem ggX7_laid_X7_free : GoodIn wsX7_laid wsX7_free := goodIn_r _ [34, 2, 24, 25, 26, 8, 27, 18, 19, 20, 21, 22, 23, 35, 36, 37, 38, 39, 40, 41, 42, 43, 44, 45, 46, 47, 48, 49, 50, 51, 52, 53, 54, 55, 56, 57, 58, 59, 60, 61, 62, 63] (by decide +kernel) (by decide +kernel)
set_option maxRecDepth 20000 in
theorem gX7_laid_X7_free : GoodIn wsX7_laid (wsV RX7 129 RX7 yX7_free wsX7_free) := goodIn_app (goodIn_of _ (by decide +kernel)) ggX7_laid_X7_free
theorem dX7_laid_0 : decode cX7_laid 0 = .ok (.lconst 1, 1) := by decide +kernel
theorem dX7_laid_1 : decode cX7_laid 1 = .ok (.iload 6, 2) := by decide +kernel
theorem dX7_laid_3 : decode cX7_laid 3 = .ok (.lshl, 1) := by decide +kernel
theorem dX7_laid_4 : decode cX7_laid 4 = .ok (.lstore 7, 2) := by decide +kernel
theorem dX7_laid_6 : decode cX7_laid 6 = .ok (.lload_n 1, 1) := by decide +kernel
theorem dX7_laid_7 : decode cX7_laid 7 = .ok (.lload_n 3, 1) := by decide +kernel
theorem dX7_laid_8 : decode cX7_laid 8 = .ok (.lor, 1) := by decide +kernel
theorem dX7_laid_9 : decode cX7_laid 9 = .ok (.lload 7, 2) := by decide +kernel
theorem dX7_laid_11 : decode cX7_laid 11 = .ok (.land, 1) := by decide +kernel
theorem dX7_laid_12 : decode cX7_laid 12 = .ok (.lconst 0, 1) := by decide +kernel
theorem dX7_laid_13 : decode cX7_laid 13 = .ok (.lcmp, 1) := by decide +kernel
theorem dX7_laid_14 : decode cX7_laid 14 = .ok (.ifCond .eq 5, 3) := by decide +kernel
theorem dX7_laid_17 : decode cX7_laid 17 = .ok (.iconst 1, 1) := by decide +kernel
theorem dX7_laid_18 : decode cX7_laid 18 = .ok (.ireturn, 1) := by decide +kernel
theorem dX7_laid_19 : decode cX7_laid 19 = .ok (.iload 5, 2) := by decide +kernel
theorem dX7_laid_21 : decode cX7_laid 21 = .ok (.iconst 1, 1) := by decide +kernel
theorem dX7_laid_22 : decode cX7_laid 22 = .ok (.if_icmp .ne 7, 3) := by decide +kernel
theorem dX7_laid_25 : decode cX7_laid 25 = .ok (.lload_n 1, 1) := by decide +kernel
theorem dX7_laid_26 : decode cX7_laid 26 = .ok (.goto 4, 3) := by decide +kernel
theorem dX7_laid_29 : decode cX7_laid 29 = .ok (.lload_n 3, 1) := by decide +kernel
theorem dX7_laid_30 : decode cX7_laid 30 = .ok (.lload 7, 2) := by decide +kernel
theorem dX7_laid_32 : decode cX7_laid 32 = .ok (.lor, 1) := by decide +kernel
theorem dX7_laid_33 : decode cX7_laid 33 = .ok (.lstore 9, 2) := by decide +kernel
theorem dX7_laid_35 : decode cX7_laid 35 = .ok (.iload 5, 2) := by decide +kernel
theorem dX7_laid_37 : decode cX7_laid 37 = .ok (.iconst 1, 1) := by decide +kernel
theorem dX7_laid_38 : decode cX7_laid 38 = .ok (.if_icmp .ne 7, 3) := by decide +kernel
theorem dX7_laid_41 : decode cX7_laid 41 = .ok (.lload_n 3, 1) := by decide +kernel
theorem dX7_laid_42 : decode cX7_laid 42 = .ok (.goto 4, 3) := by decide +kernel
theorem dX7_laid_45 : decode cX7_laid 45 = .ok (.lload_n 1, 1) := by decide +kernel
theorem dX7_laid_46 : decode cX7_laid 46 = .ok (.lstore 11, 2) := by decide +kernel
theorem dX7_laid_48 : decode cX7_laid 48 = .ok (.lconst 0, 1) := by decide +kernel
theorem dX7_laid_49 : decode cX7_laid 49 = .ok (.lstore 13, 2) := by decide +kernel
theorem dX7_laid_51 : decode cX7_laid 51 = .ok (.aload_n 0, 1) := by decide +kernel
theorem dX7_laid_52 : decode cX7_laid 52 = .ok (.getfield 16, 3) := by decide +kernel
theorem dX7_laid_55 : decode cX7_laid 55 = .ok (.iload 6, 2) := by decide +kernel
theorem dX7_laid_57 : decode cX7_laid 57 = .ok (.laload, 1) := by decide +kernel
theorem dX7_laid_58 : decode cX7_laid 58 = .ok (.lload 11, 2) := by decide +kernel
theorem dX7_laid_60 : decode cX7_laid 60 = .ok (.land, 1) := by decide +kernel
theorem dX7_laid_61 : decode cX7_laid 61 = .ok (.iconst 0, 1) := by decide +kernel
theorem dX7_laid_62 : decode cX7_laid 62 = .ok (.invokestatic 107, 3) := by decide +kernel
theorem dX7_laid_65 : decode cX7_laid 65 = .ok (.istore 15, 2) := by decide +kernel
theorem dX7_laid_67 : decode cX7_laid 67 = .ok (.iload 15, 2) := by decide +kernel
theorem dX7_laid_69 : decode cX7_laid 69 = .ok (.iconst (-1), 1) := by decide +kernel
theorem dX7_laid_70 : decode cX7_laid 70 = .ok (.if_icmp .eq 78, 3) := by decide +kernel
theorem dX7_laid_73 : decode cX7_laid 73 = .ok (.aload_n 0, 1) := by decide +kernel
theorem dX7_laid_74 : decode cX7_laid 74 = .ok (.lconst 1, 1) := by decide +kernel
theorem dX7_laid_75 : decode cX7_laid 75 = .ok (.iload 15, 2) := by decide +kernel
theorem dX7_laid_77 : decode cX7_laid 77 = .ok (.lshl, 1) := by decide +kernel
theorem dX7_laid_78 : decode cX7_laid 78 = .ok (.lload 11, 2) := by decide +kernel
theorem dX7_laid_80 : decode cX7_laid 80 = .ok (.invokevirtual 111, 3) := by decide +kernel
theorem dX7_laid_83 : decode cX7_laid 83 = .ok (.lstore 16, 2) := by decide +kernel
theorem dX7_laid_85 : decode cX7_laid 85 = .ok (.lload 13, 2) := by decide +kernel
theorem dX7_laid_87 : decode cX7_laid 87 = .ok (.aload_n 0, 1) := by decide +kernel
theorem dX7_laid_88 : decode cX7_laid 88 = .ok (.lload 16, 2) := by decide +kernel
theorem dX7_laid_90 : decode cX7_laid 90 = .ok (.invokevirtual 97, 3) := by decide +kernel
theorem dX7_laid_93 : decode cX7_laid 93 = .ok (.aload_n 0, 1) := by decide +kernel
theorem dX7_laid_94 : decode cX7_laid 94 = .ok (.invokevirtual 101, 3) := by decide +kernel
theorem dX7_laid_97 : decode cX7_laid 97 = .ok (.land, 1) := by decide +kernel
theorem dX7_laid_98 : decode cX7_laid 98 = .ok (.lload 9, 2) := by decide +kernel
theorem dX7_laid_100 : decode cX7_laid 100 = .ok (.ldc2_w 105, 3) := by decide +kernel
theorem dX7_laid_103 : decode cX7_laid 103 = .ok (.lxor, 1) := by decide +kernel
theorem dX7_laid_104 : decode cX7_laid 104 = .ok (.land, 1) := by decide +kernel
theorem dX7_laid_105 : decode cX7_laid 105 = .ok (.lload 11, 2) := by decide +kernel
theorem dX7_laid_107 : decode cX7_laid 107 = .ok (.ldc2_w 105, 3) := by decide +kernel
theorem dX7_laid_110 : decode cX7_laid 110 = .ok (.lxor, 1) := by decide +kernel
theorem dX7_laid_111 : decode cX7_laid 111 = .ok (.land, 1) := by decide +kernel
theorem dX7_laid_112 : decode cX7_laid 112 = .ok (.lconst 0, 1) := by decide +kernel
theorem dX7_laid_113 : decode cX7_laid 113 = .ok (.lcmp, 1) := by decide +kernel
theorem dX7_laid_114 : decode cX7_laid 114 = .ok (.ifCond .ne 8, 3) := by decide +kernel
theorem dX7_laid_117 : decode cX7_laid 117 = .ok (.lload 16, 2) := by decide +kernel
theorem dX7_laid_119 : decode cX7_laid 119 = .ok (.goto 4, 3) := by decide +kernel
theorem dX7_laid_122 : decode cX7_laid 122 = .ok (.lconst 0, 1) := by decide +kernel
theorem dX7_laid_123 : decode cX7_laid 123 = .ok (.lor, 1) := by decide +kernel
theorem dX7_laid_124 : decode cX7_laid 124 = .ok (.lstore 13, 2) := by decide +kernel
theorem dX7_laid_126 : decode cX7_laid 126 = .ok (.aload_n 0, 1) := by decide +kernel
theorem dX7_laid_127 : decode cX7_laid 127 = .ok (.getfield 16, 3) := by decide +kernel
theorem dX7_laid_130 : decode cX7_laid 130 = .ok (.iload 6, 2) := by decide +kernel
theorem dX7_laid_132 : decode cX7_laid 132 = .ok (.laload, 1) := by decide +kernel
theorem dX7_laid_133 : decode cX7_laid 133 = .ok (.lload 11, 2) := by decide +kernel
theorem dX7_laid_135 : decode cX7_laid 135 = .ok (.land, 1) := by decide +kernel
theorem dX7_laid_136 : decode cX7_laid 136 = .ok (.iload 15, 2) := by decide +kernel
theorem dX7_laid_138 : decode cX7_laid 138 = .ok (.iconst 1, 1) := by decide +kernel
theorem dX7_laid_139 : decode cX7_laid 139 = .ok (.iadd, 1) := by decide +kernel
theorem dX7_laid_140 : decode cX7_laid 140 = .ok (.invokestatic 107, 3) := by decide +kernel
theorem dX7_laid_143 : decode cX7_laid 143 = .ok (.istore 15, 2) := by decide +kernel
theorem dX7_laid_145 : decode cX7_laid 145 = .ok (.goto (-78), 3) := by decide +kernel
theorem dX7_laid_148 : decode cX7_laid 148 = .ok (.lload 11, 2) := by decide +kernel
theorem dX7_laid_150 : decode cX7_laid 150 = .ok (.lload 13, 2) := by decide +kernel
theorem dX7_laid_152 : decode cX7_laid 152 = .ok (.ldc2_w 105, 3) := by decide +kernel
theorem dX7_laid_155 : decode cX7_laid 155 = .ok (.lxor, 1) := by decide +kernel
theorem dX7_laid_156 : decode cX7_laid 156 = .ok (.land, 1) := by decide +kernel
theorem dX7_laid_157 : decode cX7_laid 157 = .ok (.lstore 11, 2) := by decide +kernel
theorem dX7_laid_159 : decode cX7_laid 159 = .ok (.aload_n 0, 1) := by decide +kernel
theorem dX7_laid_160 : decode cX7_laid 160 = .ok (.lload 13, 2) := by decide +kernel
theorem dX7_laid_162 : decode cX7_laid 162 = .ok (.invokestatic 115, 3) := by decide +kernel
theorem dX7_laid_165 : decode cX7_laid 165 = .ok (.putfield 119, 3) := by decide +kernel
theorem dX7_laid_168 : decode cX7_laid 168 = .ok (.aload_n 0, 1) := by decide +kernel
theorem dX7_laid_169 : decode cX7_laid 169 = .ok (.iload 5, 2) := by decide +kernel
theorem dX7_laid_171 : decode cX7_laid 171 = .ok (.iconst 1, 1) := by decide +kernel
theorem dX7_laid_172 : decode cX7_laid 172 = .ok (.if_icmp .ne 8, 3) := by decide +kernel
theorem dX7_laid_175 : decode cX7_laid 175 = .ok (.lload 9, 2) := by decide +kernel
theorem dX7_laid_177 : decode cX7_laid 177 = .ok (.goto 5, 3) := by decide +kernel
theorem dX7_laid_180 : decode cX7_laid 180 = .ok (.lload 11, 2) := by decide +kernel
theorem dX7_laid_182 : decode cX7_laid 182 = .ok (.putfield 122, 3) := by decide +kernel
theorem dX7_laid_185 : decode cX7_laid 185 = .ok (.aload_n 0, 1) := by decide +kernel
theorem dX7_laid_186 : decode cX7_laid 186 = .ok (.iload 5, 2) := by decide +kernel
theorem dX7_laid_188 : decode cX7_laid 188 = .ok (.iconst 1, 1) := by decide +kernel
theorem dX7_laid_189 : decode cX7_laid 189 = .ok (.if_icmp .ne 8, 3) := by decide +kernel
theorem dX7_laid_192 : decode cX7_laid 192 = .ok (.lload 11, 2) := by decide +kernel
theorem dX7_laid_194 : decode cX7_laid 194 = .ok (.goto 5, 3) := by decide +kernel
theorem dX7_laid_197 : decode cX7_laid 197 = .ok (.lload 9, 2) := by decide +kernel
theorem dX7_laid_199 : decode cX7_laid 199 = .ok (.putfield 126, 3) := by decide +kernel
theorem dX7_laid_202 : decode cX7_laid 202 = .ok (.aload_n 0, 1) := by decide +kernel
theorem dX7_laid_203 : decode cX7_laid 203 = .ok (.lload 7, 2) := by decide +kernel
theorem dX7_laid_205 : decode cX7_laid 205 = .ok (.lload 9, 2) := by decide +kernel
theorem dX7_laid_207 : decode cX7_laid 207 = .ok (.invokevirtual 111, 3) := by decide +kernel
theorem dX7_laid_210 : decode cX7_laid 210 = .ok (.lstore 15, 2) := by decide +kernel
theorem dX7_laid_212 : decode cX7_laid 212 = .ok (.aload_n 0, 1) := by decide +kernel
theorem dX7_laid_213 : decode cX7_laid 213 = .ok (.lload 15, 2) := by decide +kernel
theorem dX7_laid_215 : decode cX7_laid 215 = .ok (.invokevirtual 97, 3) := by decide +kernel
theorem dX7_laid_218 : decode cX7_laid 218 = .ok (.aload_n 0, 1) := by decide +kernel
theorem dX7_laid_219 : decode cX7_laid 219 = .ok (.aload_n 0, 1) := by decide +kernel
theorem dX7_laid_220 : decode cX7_laid 220 = .ok (.getfield 122, 3) := by decide +kernel
theorem dX7_laid_223 : decode cX7_laid 223 = .ok (.aload_n 0, 1) := by decide +kernel
theorem dX7_laid_224 : decode cX7_laid 224 = .ok (.getfield 126, 3) := by decide +kernel
theorem dX7_laid_227 : decode cX7_laid 227 = .ok (.invokevirtual 129, 3) := by decide +kernel
theorem dX7_laid_230 : decode cX7_laid 230 = .ok (.land, 1) := by decide +kernel
theorem dX7_laid_231 : decode cX7_laid 231 = .ok (.lconst 0, 1) := by decide +kernel
theorem dX7_laid_232 : decode cX7_laid 232 = .ok (.lcmp, 1) := by decide +kernel
theorem dX7_laid_233 : decode cX7_laid 233 = .ok (.ifCond .ne 7, 3) := by decide +kernel
theorem dX7_laid_236 : decode cX7_laid 236 = .ok (.iconst 2, 1) := by decide +kernel
theorem dX7_laid_237 : decode cX7_laid 237 = .ok (.goto 4, 3) := by decide +kernel
theorem dX7_laid_240 : decode cX7_laid 240 = .ok (.iconst 0, 1) := by decide +kernel
theorem dX7_laid_241 : decode cX7_laid 241 = .ok (.ireturn, 1) := by decide +kernel
set_option maxRecDepth 20000 in
theorem ggX7_isAgainst_X7_other : GoodIn wsX7_isAgainst wsX7_other := goodIn_r _ [10] (by decide +kernel) (by decide +kernel)
set_option maxRecDepth 20000 in
theorem gX7_isAgainst_X7_other : GoodIn wsX7_isAgainst (va_wsS RX7 132 yX7_other wsX7_other) := goodIn_app (goodIn_of _ (by decide +kernel)) ggX7_isAgainst_X7_other
theorem dX7_isAgainst_0 : decode cX7_isAgainst 0 = .ok (.aload_n 0, 1) := by decide +kernel
theorem dX7_isAgainst_1 : decode cX7_isAgainst 1 = .ok (.getfield 83, 3) := by decide +kernel
theorem dX7_isAgainst_4 : decode cX7_isAgainst 4 = .ok (.ifCond .ne 45, 3) := by decide +kernel
theorem dX7_isAgainst_7 : decode cX7_isAgainst 7 = .ok (.iload_n 1, 1) := by decide +kernel
theorem dX7_isAgainst_8 : decode cX7_isAgainst 8 = .ok (.ifCond .le 39, 3) := by decide +kernel
theorem dX7_isAgainst_11 : decode cX7_isAgainst 11 = .ok (.aload_n 0, 1) := by decide +kernel
theorem dX7_isAgainst_12 : decode cX7_isAgainst 12 = .ok (.getfield 24, 3) := by decide +kernel
theorem dX7_isAgainst_15 : decode cX7_isAgainst 15 = .ok (.iload_n 1, 1) := by decide +kernel
theorem dX7_isAgainst_16 : decode cX7_isAgainst 16 = .ok (.iconst 1, 1) := by decide +kernel
theorem dX7_isAgainst_17 : decode cX7_isAgainst 17 = .ok (.isub, 1) := by decide +kernel
theorem dX7_isAgainst_18 : decode cX7_isAgainst 18 = .ok (.laload, 1) := by decide +kernel
theorem dX7_isAgainst_19 : decode cX7_isAgainst 19 = .ok (.aload_n 0, 1) := by decide +kernel
theorem dX7_isAgainst_20 : decode cX7_isAgainst 20 = .ok (.getfield 122, 3) := by decide +kernel
theorem dX7_isAgainst_23 : decode cX7_isAgainst 23 = .ok (.lcmp, 1) := by decide +kernel
theorem dX7_isAgainst_24 : decode cX7_isAgainst 24 = .ok (.ifCond .ne 23, 3) := by decide +kernel
theorem dX7_isAgainst_27 : decode cX7_isAgainst 27 = .ok (.aload_n 0, 1) := by decide +kernel
theorem dX7_isAgainst_28 : decode cX7_isAgainst 28 = .ok (.getfield 27, 3) := by decide +kernel
theorem dX7_isAgainst_31 : decode cX7_isAgainst 31 = .ok (.iload_n 1, 1) := by decide +kernel
theorem dX7_isAgainst_32 : decode cX7_isAgainst 32 = .ok (.iconst 1, 1) := by decide +kernel
theorem dX7_isAgainst_33 : decode cX7_isAgainst 33 = .ok (.isub, 1) := by decide +kernel
theorem dX7_isAgainst_34 : decode cX7_isAgainst 34 = .ok (.laload, 1) := by decide +kernel
theorem dX7_isAgainst_35 : decode cX7_isAgainst 35 = .ok (.aload_n 0, 1) := by decide +kernel
theorem dX7_isAgainst_36 : decode cX7_isAgainst 36 = .ok (.getfield 126, 3) := by decide +kernel
theorem dX7_isAgainst_39 : decode cX7_isAgainst 39 = .ok (.lcmp, 1) := by decide +kernel
theorem dX7_isAgainst_40 : decode cX7_isAgainst 40 = .ok (.ifCond .ne 7, 3) := by decide +kernel
theorem dX7_isAgainst_43 : decode cX7_isAgainst 43 = .ok (.iconst 1, 1) := by decide +kernel
theorem dX7_isAgainst_44 : decode cX7_isAgainst 44 = .ok (.goto 4, 3) := by decide +kernel
theorem dX7_isAgainst_47 : decode cX7_isAgainst 47 = .ok (.iconst 0, 1) := by decide +kernel
theorem dX7_isAgainst_48 : decode cX7_isAgainst 48 = .ok (.ireturn, 1) := by decide +kernel
theorem dX7_isAgainst_49 : decode cX7_isAgainst 49 = .ok (.iconst 0, 1) := by decide +kernel
theorem dX7_isAgainst_50 : decode cX7_isAgainst 50 = .ok (.istore_n 3, 1) := by decide +kernel
theorem dX7_isAgainst_51 : decode cX7_isAgainst 51 = .ok (.iload_n 3, 1) := by decide +kernel
theorem dX7_isAgainst_52 : decode cX7_isAgainst 52 = .ok (.iload_n 1, 1) := by decide +kernel
theorem dX7_isAgainst_53 : decode cX7_isAgainst 53 = .ok (.if_icmp .gt 60, 3) := by decide +kernel
theorem dX7_isAgainst_56 : decode cX7_isAgainst 56 = .ok (.aload_n 0, 1) := by decide +kernel
theorem dX7_isAgainst_57 : decode cX7_isAgainst 57 = .ok (.getfield 24, 3) := by decide +kernel
theorem dX7_isAgainst_60 : decode cX7_isAgainst 60 = .ok (.iload_n 3, 1) := by decide +kernel
theorem dX7_isAgainst_61 : decode cX7_isAgainst 61 = .ok (.laload, 1) := by decide +kernel
theorem dX7_isAgainst_62 : decode cX7_isAgainst 62 = .ok (.aload_n 0, 1) := by decide +kernel
theorem dX7_isAgainst_63 : decode cX7_isAgainst 63 = .ok (.getfield 122, 3) := by decide +kernel
theorem dX7_isAgainst_66 : decode cX7_isAgainst 66 = .ok (.lcmp, 1) := by decide +kernel
theorem dX7_isAgainst_67 : decode cX7_isAgainst 67 = .ok (.ifCond .ne 40, 3) := by decide +kernel
theorem dX7_isAgainst_70 : decode cX7_isAgainst 70 = .ok (.aload_n 0, 1) := by decide +kernel
theorem dX7_isAgainst_71 : decode cX7_isAgainst 71 = .ok (.getfield 27, 3) := by decide +kernel
theorem dX7_isAgainst_74 : decode cX7_isAgainst 74 = .ok (.iload_n 3, 1) := by decide +kernel
theorem dX7_isAgainst_75 : decode cX7_isAgainst 75 = .ok (.laload, 1) := by decide +kernel
theorem dX7_isAgainst_76 : decode cX7_isAgainst 76 = .ok (.aload_n 0, 1) := by decide +kernel
theorem dX7_isAgainst_77 : decode cX7_isAgainst 77 = .ok (.getfield 126, 3) := by decide +kernel
theorem dX7_isAgainst_80 : decode cX7_isAgainst 80 = .ok (.lcmp, 1) := by decide +kernel
theorem dX7_isAgainst_81 : decode cX7_isAgainst 81 = .ok (.ifCond .ne 26, 3) := by decide +kernel
theorem dX7_isAgainst_84 : decode cX7_isAgainst 84 = .ok (.aload_n 0, 1) := by decide +kernel
theorem dX7_isAgainst_85 : decode cX7_isAgainst 85 = .ok (.getfield 83, 3) := by decide +kernel
theorem dX7_isAgainst_88 : decode cX7_isAgainst 88 = .ok (.iconst 1, 1) := by decide +kernel
theorem dX7_isAgainst_89 : decode cX7_isAgainst 89 = .ok (.if_icmp .eq 16, 3) := by decide +kernel
theorem dX7_isAgainst_92 : decode cX7_isAgainst 92 = .ok (.aload_n 0, 1) := by decide +kernel
theorem dX7_isAgainst_93 : decode cX7_isAgainst 93 = .ok (.getfield 30, 3) := by decide +kernel
theorem dX7_isAgainst_96 : decode cX7_isAgainst 96 = .ok (.iload_n 3, 1) := by decide +kernel
theorem dX7_isAgainst_97 : decode cX7_isAgainst 97 = .ok (.iaload, 1) := by decide +kernel
theorem dX7_isAgainst_98 : decode cX7_isAgainst 98 = .ok (.iload_n 2, 1) := by decide +kernel
theorem dX7_isAgainst_99 : decode cX7_isAgainst 99 = .ok (.invokestatic 132, 3) := by decide +kernel
theorem dX7_isAgainst_102 : decode cX7_isAgainst 102 = .ok (.if_icmp .ne 5, 3) := by decide +kernel
theorem dX7_isAgainst_105 : decode cX7_isAgainst 105 = .ok (.iconst 1, 1) := by decide +kernel
theorem dX7_isAgainst_106 : decode cX7_isAgainst 106 = .ok (.ireturn, 1) := by decide +kernel
theorem dX7_isAgainst_107 : decode cX7_isAgainst 107 = .ok (.iinc 3 1, 3) := by decide +kernel
theorem dX7_isAgainst_110 : decode cX7_isAgainst 110 = .ok (.goto (-59), 3) := by decide +kernel
theorem dX7_isAgainst_113 : decode cX7_isAgainst 113 = .ok (.iconst 0, 1) := by decide +kernel
theorem dX7_isAgainst_114 : decode cX7_isAgainst 114 = .ok (.ireturn, 1) := by decide +kernel
set_option maxRecDepth 20000 in
theorem ggX7_reason_X7_laid : GoodIn wsX7_reason wsX7_laid := goodIn_r _ [7, 8, 9, 10, 11, 12, 13, 14, 6, 15, 16, 17, 18, 19, 20, 21, 22, 23, 24, 25, 26, 27, 28, 29, 30, 31, 32, 33, 34, 35, 36, 37, 38, 39, 40, 50, 51, 52, 53, 54, 55, 56, 57, 58, 59, 60, 61, 62, 63, 64, 65, 66, 67, 68, 69, 70, 71, 72, 73, 74, 75, 76, 77, 78] (by decide +kernel) (by decide +kernel)
set_option maxRecDepth 20000 in
theorem gX7_reason_X7_laid : GoodIn wsX7_reason (wsV RX7 136 RX7 yX7_laid wsX7_laid) := goodIn_app (goodIn_of _ (by decide +kernel)) ggX7_reason_X7_laid
set_option maxRecDepth 20000 in
theorem ggX7_reason_X7_isAgainst : GoodIn wsX7_reason wsX7_isAgainst := goodIn_r _ [44, 45, 1, 11, 2, 12, 46, 47, 48, 6, 49, 50, 51, 52, 53, 54, 55, 56, 57, 58, 59, 60, 61, 62, 63, 64, 65, 66, 67, 68, 69, 70, 71, 72, 73, 74, 75, 76, 77, 78] (by decide +kernel) (by decide +kernel)
set_option maxRecDepth 20000 in
theorem gX7_reason_X7_isAgainst : GoodIn wsX7_reason (wsV RX7 140 RX7 yX7_isAgainst wsX7_isAgainst) := goodIn_app (goodIn_of _ (by decide +kernel)) ggX7_reason_X7_isAgainst
theorem dX7_reason_0 : decode cX7_reason 0 = .ok (.aload_n 0, 1) := by decide +kernel
theorem dX7_reason_1 : decode cX7_reason 1 = .ok (.aload_n 0, 1) := by decide +kernel
theorem dX7_reason_2 : decode cX7_reason 2 = .ok (.getfield 24, 3) := by decide +kernel
theorem dX7_reason_5 : decode cX7_reason 5 = .ok (.iload_n 1, 1) := by decide +kernel
theorem dX7_reason_6 : decode cX7_reason 6 = .ok (.laload, 1) := by decide +kernel
theorem dX7_reason_7 : decode cX7_reason 7 = .ok (.aload_n 0, 1) := by decide +kernel
theorem dX7_reason_8 : decode cX7_reason 8 = .ok (.getfield 27, 3) := by decide +kernel
theorem dX7_reason_11 : decode cX7_reason 11 = .ok (.iload_n 1, 1) := by decide +kernel
theorem dX7_reason_12 : decode cX7_reason 12 = .ok (.laload, 1) := by decide +kernel
theorem dX7_reason_13 : decode cX7_reason 13 = .ok (.iload_n 2, 1) := by decide +kernel
theorem dX7_reason_14 : decode cX7_reason 14 = .ok (.iload_n 3, 1) := by decide +kernel
theorem dX7_reason_15 : decode cX7_reason 15 = .ok (.invokevirtual 136, 3) := by decide +kernel
theorem dX7_reason_18 : decode cX7_reason 18 = .ok (.istore 4, 2) := by decide +kernel
theorem dX7_reason_20 : decode cX7_reason 20 = .ok (.iload 4, 2) := by decide +kernel
theorem dX7_reason_22 : decode cX7_reason 22 = .ok (.ifCond .eq 8, 3) := by decide +kernel
theorem dX7_reason_25 : decode cX7_reason 25 = .ok (.iload 4, 2) := by decide +kernel
theorem dX7_reason_27 : decode cX7_reason 27 = .ok (.goto 17, 3) := by decide +kernel
theorem dX7_reason_30 : decode cX7_reason 30 = .ok (.aload_n 0, 1) := by decide +kernel
theorem dX7_reason_31 : decode cX7_reason 31 = .ok (.iload_n 1, 1) := by decide +kernel
theorem dX7_reason_32 : decode cX7_reason 32 = .ok (.iload_n 2, 1) := by decide +kernel
theorem dX7_reason_33 : decode cX7_reason 33 = .ok (.invokevirtual 140, 3) := by decide +kernel
theorem dX7_reason_36 : decode cX7_reason 36 = .ok (.ifCond .eq 7, 3) := by decide +kernel
theorem dX7_reason_39 : decode cX7_reason 39 = .ok (.iconst 3, 1) := by decide +kernel
theorem dX7_reason_40 : decode cX7_reason 40 = .ok (.goto 4, 3) := by decide +kernel
theorem dX7_reason_43 : decode cX7_reason 43 = .ok (.iconst 0, 1) := by decide +kernel
theorem dX7_reason_44 : decode cX7_reason 44 = .ok (.ireturn, 1) := by decide +kernel
set_option maxRecDepth 20000 in
theorem ggX7_board_X7_in : GoodIn wsX7_board wsX7_in := goodIn_r _ [5] (by decide +kernel) (by decide +kernel)
set_option maxRecDepth 20000 in
theorem gX7_board_X7_in : GoodIn wsX7_board (va_wsS RX7 93 yX7_in wsX7_in) := goodIn_app (goodIn_of _ (by decide +kernel)) ggX7_board_X7_in
set_option maxRecDepth 20000 in
theorem ggX7_board_X7_lays : GoodIn wsX7_board wsX7_lays := goodIn_r _ [9, 10, 11, 12, 1, 13, 14, 15, 16, 17, 18, 19, 20, 21, 22, 23, 24, 25, 26, 27, 28, 29, 30, 31, 32, 33, 34, 35, 36, 37, 38, 39, 40, 41, 42, 43, 44, 45, 46, 47] (by decide +kernel) (by decide +kernel)
set_option maxRecDepth 20000 in
theorem gX7_board_X7_lays : GoodIn wsX7_board (wsV RX7 79 RX7 yX7_lays wsX7_lays) := goodIn_app (goodIn_of _ (by decide +kernel)) ggX7_board_X7_lays
theorem dX7_board_0 : decode cX7_board 0 = .ok (.iload_n 1, 1) := by decide +kernel
theorem dX7_board_1 : decode cX7_board 1 = .ok (.iconst 2, 1) := by decide +kernel
theorem dX7_board_2 : decode cX7_board 2 = .ok (.bipush 7, 2) := by decide +kernel
theorem dX7_board_4 : decode cX7_board 4 = .ok (.invokestatic 93, 3) := by decide +kernel
theorem dX7_board_7 : decode cX7_board 7 = .ok (.ifCond .eq 22, 3) := by decide +kernel
theorem dX7_board_10 : decode cX7_board 10 = .ok (.iload_n 2, 1) := by decide +kernel
theorem dX7_board_11 : decode cX7_board 11 = .ok (.iconst 2, 1) := by decide +kernel
theorem dX7_board_12 : decode cX7_board 12 = .ok (.bipush 7, 2) := by decide +kernel
theorem dX7_board_14 : decode cX7_board 14 = .ok (.invokestatic 93, 3) := by decide +kernel
theorem dX7_board_17 : decode cX7_board 17 = .ok (.ifCond .eq 12, 3) := by decide +kernel
theorem dX7_board_20 : decode cX7_board 20 = .ok (.iload_n 3, 1) := by decide +kernel
theorem dX7_board_21 : decode cX7_board 21 = .ok (.iconst 0, 1) := by decide +kernel
theorem dX7_board_22 : decode cX7_board 22 = .ok (.iconst 2, 1) := by decide +kernel
theorem dX7_board_23 : decode cX7_board 23 = .ok (.invokestatic 93, 3) := by decide +kernel
theorem dX7_board_26 : decode cX7_board 26 = .ok (.ifCond .ne 6, 3) := by decide +kernel
theorem dX7_board_29 : decode cX7_board 29 = .ok (.bipush (-2), 2) := by decide +kernel
theorem dX7_board_31 : decode cX7_board 31 = .ok (.ireturn, 1) := by decide +kernel
theorem dX7_board_32 : decode cX7_board 32 = .ok (.aload_n 0, 1) := by decide +kernel
theorem dX7_board_33 : decode cX7_board 33 = .ok (.getfield 86, 3) := by decide +kernel
theorem dX7_board_36 : decode cX7_board 36 = .ok (.istore 4, 2) := by decide +kernel
theorem dX7_board_38 : decode cX7_board 38 = .ok (.aload_n 0, 1) := by decide +kernel
theorem dX7_board_39 : decode cX7_board 39 = .ok (.iload_n 1, 1) := by decide +kernel
theorem dX7_board_40 : decode cX7_board 40 = .ok (.iload_n 2, 1) := by decide +kernel
theorem dX7_board_41 : decode cX7_board 41 = .ok (.iload_n 3, 1) := by decide +kernel
theorem dX7_board_42 : decode cX7_board 42 = .ok (.invokevirtual 79, 3) := by decide +kernel
theorem dX7_board_45 : decode cX7_board 45 = .ok (.iload 4, 2) := by decide +kernel
theorem dX7_board_47 : decode cX7_board 47 = .ok (.ireturn, 1) := by decide +kernel
set_option maxRecDepth 20000 in
theorem ggX7_set_X7_isCrossing : GoodIn wsX7_set wsX7_isCrossing := goodIn_r _ [10, 11, 12, 13, 9, 14, 15, 16, 17, 18, 19, 37, 38, 39, 40, 41, 42, 43, 44, 45, 46, 47, 48, 49, 50, 51, 52, 53, 54, 55, 56, 57, 58, 59, 60, 61, 62, 63, 64, 65] (by decide +kernel) (by decide +kernel)
set_option maxRecDepth 20000 in
theorem gX7_set_X7_isCrossing : GoodIn wsX7_set (wsV RX7 144 RX7 yX7_isCrossing wsX7_isCrossing) := goodIn_app (goodIn_of _ (by decide +kernel)) ggX7_set_X7_isCrossing
set_option maxRecDepth 20000 in
theorem ggX7_set_X7_in : GoodIn wsX7_set wsX7_in := goodIn_r _ [19] (by decide +kernel) (by decide +kernel)
set_option maxRecDepth 20000 in
theorem gX7_set_X7_in : GoodIn wsX7_set (va_wsS RX7 93 yX7_in wsX7_in) := goodIn_app (goodIn_of _ (by decide +kernel)) ggX7_set_X7_in
set_option maxRecDepth 20000 in
theorem ggX7_set_X7_size : GoodIn wsX7_set wsX7_size := goodIn_r _ [14, 15, 16, 37, 38, 39, 40, 41, 42, 43, 44, 45, 46, 47, 48, 49, 50, 51, 52, 53, 54, 55, 56, 57, 58, 59, 60, 61, 62, 63, 64, 65] (by decide +kernel) (by decide +kernel)
set_option maxRecDepth 20000 in
theorem gX7_set_X7_size : GoodIn wsX7_set (wsV RX7 89 RX7 yX7_size wsX7_size) := goodIn_app (goodIn_of _ (by decide +kernel)) ggX7_set_X7_size
set_option maxRecDepth 20000 in
theorem ggX7_set_X7_spread : GoodIn wsX7_set wsX7_spread := goodIn_r _ [23, 24, 25, 26, 9, 27, 28, 11, 12, 13, 14, 15, 16, 37, 38, 39, 40, 41, 42, 43, 44, 45, 46, 47, 48, 49, 50, 51, 52, 53, 54, 55, 56, 57, 58, 59, 60, 61, 62, 63, 64, 65] (by decide +kernel) (by decide +kernel)
set_option maxRecDepth 20000 in
theorem gX7_set_X7_spread : GoodIn wsX7_set (wsV RX7 111 RX7 yX7_spread wsX7_spread) := goodIn_app (goodIn_of _ (by decide +kernel)) ggX7_set_X7_spread
set_option maxRecDepth 20000 in
theorem ggX7_set_X7_around : GoodIn wsX7_set wsX7_around := goodIn_r _ [27, 28, 11, 12, 13, 9, 14, 15, 16, 37, 38, 39, 40, 41, 42, 43, 44, 45, 46, 47, 48, 49, 50, 51, 52, 53, 54, 55, 56, 57, 58, 59, 60, 61, 62, 63, 64, 65] (by decide +kernel) (by decide +kernel)
set_option maxRecDepth 20000 in
theorem gX7_set_X7_around : GoodIn wsX7_set (wsV RX7 97 RX7 yX7_around wsX7_around) := goodIn_app (goodIn_of _ (by decide +kernel)) ggX7_set_X7_around
set_option maxRecDepth 20000 in
theorem ggX7_set_X7_free : GoodIn wsX7_set wsX7_free := goodIn_r _ [32, 2, 33, 34, 35, 9, 36, 11, 12, 13, 14, 15, 16, 37, 38, 39, 40, 41, 42, 43, 44, 45, 46, 47, 48, 49, 50, 51, 52, 53, 54, 55, 56, 57, 58, 59, 60, 61, 62, 63, 64, 65] (by decide +kernel) (by decide +kernel)
set_option maxRecDepth 20000 in
theorem gX7_set_X7_free : GoodIn wsX7_set (wsV RX7 129 RX7 yX7_free wsX7_free) := goodIn_app (goodIn_of _ (by decide +kernel)) ggX7_set_X7_free
theorem dX7_set_0 : decode cX7_set 0 = .ok (.aload_n 0, 1) := by decide +kernel
theorem dX7_set_1 : decode cX7_set 1 = .ok (.iload_n 1, 1) := by decide +kernel
theorem dX7_set_2 : decode cX7_set 2 = .ok (.invokevirtual 144, 3) := by decide +kernel
theorem dX7_set_5 : decode cX7_set 5 = .ok (.ifCond .eq 21, 3) := by decide +kernel
theorem dX7_set_8 : decode cX7_set 8 = .ok (.iload_n 2, 1) := by decide +kernel
theorem dX7_set_9 : decode cX7_set 9 = .ok (.iconst 0, 1) := by decide +kernel
theorem dX7_set_10 : decode cX7_set 10 = .ok (.iconst 2, 1) := by decide +kernel
theorem dX7_set_11 : decode cX7_set 11 = .ok (.invokestatic 93, 3) := by decide +kernel
theorem dX7_set_14 : decode cX7_set 14 = .ok (.ifCond .eq 12, 3) := by decide +kernel
theorem dX7_set_17 : decode cX7_set 17 = .ok (.iload_n 3, 1) := by decide +kernel
theorem dX7_set_18 : decode cX7_set 18 = .ok (.iconst 1, 1) := by decide +kernel
theorem dX7_set_19 : decode cX7_set 19 = .ok (.iconst 2, 1) := by decide +kernel
theorem dX7_set_20 : decode cX7_set 20 = .ok (.invokestatic 93, 3) := by decide +kernel
theorem dX7_set_23 : decode cX7_set 23 = .ok (.ifCond .ne 6, 3) := by decide +kernel
theorem dX7_set_26 : decode cX7_set 26 = .ok (.bipush (-2), 2) := by decide +kernel
theorem dX7_set_28 : decode cX7_set 28 = .ok (.ireturn, 1) := by decide +kernel
theorem dX7_set_29 : decode cX7_set 29 = .ok (.lconst 1, 1) := by decide +kernel
theorem dX7_set_30 : decode cX7_set 30 = .ok (.iload_n 1, 1) := by decide +kernel
theorem dX7_set_31 : decode cX7_set 31 = .ok (.lshl, 1) := by decide +kernel
theorem dX7_set_32 : decode cX7_set 32 = .ok (.lstore 4, 2) := by decide +kernel
theorem dX7_set_34 : decode cX7_set 34 = .ok (.aload_n 0, 1) := by decide +kernel
theorem dX7_set_35 : decode cX7_set 35 = .ok (.getfield 24, 3) := by decide +kernel
theorem dX7_set_38 : decode cX7_set 38 = .ok (.iconst 0, 1) := by decide +kernel
theorem dX7_set_39 : decode cX7_set 39 = .ok (.laload, 1) := by decide +kernel
theorem dX7_set_40 : decode cX7_set 40 = .ok (.lload 4, 2) := by decide +kernel
theorem dX7_set_42 : decode cX7_set 42 = .ok (.ldc2_w 105, 3) := by decide +kernel
theorem dX7_set_45 : decode cX7_set 45 = .ok (.lxor, 1) := by decide +kernel
theorem dX7_set_46 : decode cX7_set 46 = .ok (.land, 1) := by decide +kernel
theorem dX7_set_47 : decode cX7_set 47 = .ok (.iload_n 2, 1) := by decide +kernel
theorem dX7_set_48 : decode cX7_set 48 = .ok (.iconst 1, 1) := by decide +kernel
theorem dX7_set_49 : decode cX7_set 49 = .ok (.if_icmp .ne 8, 3) := by decide +kernel
theorem dX7_set_52 : decode cX7_set 52 = .ok (.lload 4, 2) := by decide +kernel
theorem dX7_set_54 : decode cX7_set 54 = .ok (.goto 4, 3) := by decide +kernel
theorem dX7_set_57 : decode cX7_set 57 = .ok (.lconst 0, 1) := by decide +kernel
theorem dX7_set_58 : decode cX7_set 58 = .ok (.lor, 1) := by decide +kernel
theorem dX7_set_59 : decode cX7_set 59 = .ok (.lstore 6, 2) := by decide +kernel
theorem dX7_set_61 : decode cX7_set 61 = .ok (.aload_n 0, 1) := by decide +kernel
theorem dX7_set_62 : decode cX7_set 62 = .ok (.getfield 27, 3) := by decide +kernel
theorem dX7_set_65 : decode cX7_set 65 = .ok (.iconst 0, 1) := by decide +kernel
theorem dX7_set_66 : decode cX7_set 66 = .ok (.laload, 1) := by decide +kernel
theorem dX7_set_67 : decode cX7_set 67 = .ok (.lload 4, 2) := by decide +kernel
theorem dX7_set_69 : decode cX7_set 69 = .ok (.ldc2_w 105, 3) := by decide +kernel
theorem dX7_set_72 : decode cX7_set 72 = .ok (.lxor, 1) := by decide +kernel
theorem dX7_set_73 : decode cX7_set 73 = .ok (.land, 1) := by decide +kernel
theorem dX7_set_74 : decode cX7_set 74 = .ok (.iload_n 2, 1) := by decide +kernel
theorem dX7_set_75 : decode cX7_set 75 = .ok (.iconst 2, 1) := by decide +kernel
theorem dX7_set_76 : decode cX7_set 76 = .ok (.if_icmp .ne 8, 3) := by decide +kernel
theorem dX7_set_79 : decode cX7_set 79 = .ok (.lload 4, 2) := by decide +kernel
theorem dX7_set_81 : decode cX7_set 81 = .ok (.goto 4, 3) := by decide +kernel
theorem dX7_set_84 : decode cX7_set 84 = .ok (.lconst 0, 1) := by decide +kernel
theorem dX7_set_85 : decode cX7_set 85 = .ok (.lor, 1) := by decide +kernel
theorem dX7_set_86 : decode cX7_set 86 = .ok (.lstore 8, 2) := by decide +kernel
theorem dX7_set_88 : decode cX7_set 88 = .ok (.aload_n 0, 1) := by decide +kernel
theorem dX7_set_89 : decode cX7_set 89 = .ok (.getfield 86, 3) := by decide +kernel
theorem dX7_set_92 : decode cX7_set 92 = .ok (.ifCond .ne 7, 3) := by decide +kernel
theorem dX7_set_95 : decode cX7_set 95 = .ok (.iconst 1, 1) := by decide +kernel
theorem dX7_set_96 : decode cX7_set 96 = .ok (.goto 4, 3) := by decide +kernel
theorem dX7_set_99 : decode cX7_set 99 = .ok (.iconst 0, 1) := by decide +kernel
theorem dX7_set_100 : decode cX7_set 100 = .ok (.istore 10, 2) := by decide +kernel
theorem dX7_set_102 : decode cX7_set 102 = .ok (.iconst 0, 1) := by decide +kernel
theorem dX7_set_103 : decode cX7_set 103 = .ok (.istore 11, 2) := by decide +kernel
theorem dX7_set_105 : decode cX7_set 105 = .ok (.iload 11, 2) := by decide +kernel
theorem dX7_set_107 : decode cX7_set 107 = .ok (.aload_n 0, 1) := by decide +kernel
theorem dX7_set_108 : decode cX7_set 108 = .ok (.invokevirtual 89, 3) := by decide +kernel
theorem dX7_set_111 : decode cX7_set 111 = .ok (.if_icmp .ge 82, 3) := by decide +kernel
theorem dX7_set_114 : decode cX7_set 114 = .ok (.iload 10, 2) := by decide +kernel
theorem dX7_set_116 : decode cX7_set 116 = .ok (.ifCond .eq 77, 3) := by decide +kernel
theorem dX7_set_119 : decode cX7_set 119 = .ok (.lconst 1, 1) := by decide +kernel
theorem dX7_set_120 : decode cX7_set 120 = .ok (.iload 11, 2) := by decide +kernel
theorem dX7_set_122 : decode cX7_set 122 = .ok (.lshl, 1) := by decide +kernel
theorem dX7_set_123 : decode cX7_set 123 = .ok (.lstore 12, 2) := by decide +kernel
theorem dX7_set_125 : decode cX7_set 125 = .ok (.lload 6, 2) := by decide +kernel
theorem dX7_set_127 : decode cX7_set 127 = .ok (.lload 12, 2) := by decide +kernel
theorem dX7_set_129 : decode cX7_set 129 = .ok (.land, 1) := by decide +kernel
theorem dX7_set_130 : decode cX7_set 130 = .ok (.lconst 0, 1) := by decide +kernel
theorem dX7_set_131 : decode cX7_set 131 = .ok (.lcmp, 1) := by decide +kernel
theorem dX7_set_132 : decode cX7_set 132 = .ok (.ifCond .eq 8, 3) := by decide +kernel
theorem dX7_set_135 : decode cX7_set 135 = .ok (.lload 6, 2) := by decide +kernel
theorem dX7_set_137 : decode cX7_set 137 = .ok (.goto 5, 3) := by decide +kernel
theorem dX7_set_140 : decode cX7_set 140 = .ok (.lload 8, 2) := by decide +kernel
theorem dX7_set_142 : decode cX7_set 142 = .ok (.lstore 14, 2) := by decide +kernel
theorem dX7_set_144 : decode cX7_set 144 = .ok (.lload 14, 2) := by decide +kernel
theorem dX7_set_146 : decode cX7_set 146 = .ok (.lload 12, 2) := by decide +kernel
theorem dX7_set_148 : decode cX7_set 148 = .ok (.land, 1) := by decide +kernel
theorem dX7_set_149 : decode cX7_set 149 = .ok (.lconst 0, 1) := by decide +kernel
theorem dX7_set_150 : decode cX7_set 150 = .ok (.lcmp, 1) := by decide +kernel
theorem dX7_set_151 : decode cX7_set 151 = .ok (.ifCond .eq 29, 3) := by decide +kernel
theorem dX7_set_154 : decode cX7_set 154 = .ok (.aload_n 0, 1) := by decide +kernel
theorem dX7_set_155 : decode cX7_set 155 = .ok (.aload_n 0, 1) := by decide +kernel
theorem dX7_set_156 : decode cX7_set 156 = .ok (.lload 12, 2) := by decide +kernel
theorem dX7_set_158 : decode cX7_set 158 = .ok (.lload 14, 2) := by decide +kernel
theorem dX7_set_160 : decode cX7_set 160 = .ok (.invokevirtual 111, 3) := by decide +kernel
theorem dX7_set_163 : decode cX7_set 163 = .ok (.invokevirtual 97, 3) := by decide +kernel
theorem dX7_set_166 : decode cX7_set 166 = .ok (.aload_n 0, 1) := by decide +kernel
theorem dX7_set_167 : decode cX7_set 167 = .ok (.lload 6, 2) := by decide +kernel
theorem dX7_set_169 : decode cX7_set 169 = .ok (.lload 8, 2) := by decide +kernel
theorem dX7_set_171 : decode cX7_set 171 = .ok (.invokevirtual 129, 3) := by decide +kernel
theorem dX7_set_174 : decode cX7_set 174 = .ok (.land, 1) := by decide +kernel
theorem dX7_set_175 : decode cX7_set 175 = .ok (.lconst 0, 1) := by decide +kernel
theorem dX7_set_176 : decode cX7_set 176 = .ok (.lcmp, 1) := by decide +kernel
theorem dX7_set_177 : decode cX7_set 177 = .ok (.ifCond .eq 7, 3) := by decide +kernel
theorem dX7_set_180 : decode cX7_set 180 = .ok (.iconst 1, 1) := by decide +kernel
theorem dX7_set_181 : decode cX7_set 181 = .ok (.goto 4, 3) := by decide +kernel
theorem dX7_set_184 : decode cX7_set 184 = .ok (.iconst 0, 1) := by decide +kernel
theorem dX7_set_185 : decode cX7_set 185 = .ok (.istore 10, 2) := by decide +kernel
theorem dX7_set_187 : decode cX7_set 187 = .ok (.iinc 11 1, 3) := by decide +kernel
theorem dX7_set_190 : decode cX7_set 190 = .ok (.goto (-85), 3) := by decide +kernel
theorem dX7_set_193 : decode cX7_set 193 = .ok (.iload 10, 2) := by decide +kernel
theorem dX7_set_195 : decode cX7_set 195 = .ok (.ifCond .ne 6, 3) := by decide +kernel
theorem dX7_set_198 : decode cX7_set 198 = .ok (.bipush (-3), 2) := by decide +kernel
theorem dX7_set_200 : decode cX7_set 200 = .ok (.ireturn, 1) := by decide +kernel
theorem dX7_set_201 : decode cX7_set 201 = .ok (.aload_n 0, 1) := by decide +kernel
theorem dX7_set_202 : decode cX7_set 202 = .ok (.getfield 24, 3) := by decide +kernel
theorem dX7_set_205 : decode cX7_set 205 = .ok (.iconst 0, 1) := by decide +kernel
theorem dX7_set_206 : decode cX7_set 206 = .ok (.lload 6, 2) := by decide +kernel
theorem dX7_set_208 : decode cX7_set 208 = .ok (.lastore, 1) := by decide +kernel
theorem dX7_set_209 : decode cX7_set 209 = .ok (.aload_n 0, 1) := by decide +kernel
theorem dX7_set_210 : decode cX7_set 210 = .ok (.getfield 27, 3) := by decide +kernel
theorem dX7_set_213 : decode cX7_set 213 = .ok (.iconst 0, 1) := by decide +kernel
theorem dX7_set_214 : decode cX7_set 214 = .ok (.lload 8, 2) := by decide +kernel
theorem dX7_set_216 : decode cX7_set 216 = .ok (.lastore, 1) := by decide +kernel
theorem dX7_set_217 : decode cX7_set 217 = .ok (.aload_n 0, 1) := by decide +kernel
theorem dX7_set_218 : decode cX7_set 218 = .ok (.getfield 30, 3) := by decide +kernel
theorem dX7_set_221 : decode cX7_set 221 = .ok (.iconst 0, 1) := by decide +kernel
theorem dX7_set_222 : decode cX7_set 222 = .ok (.iload_n 3, 1) := by decide +kernel
theorem dX7_set_223 : decode cX7_set 223 = .ok (.iastore, 1) := by decide +kernel
theorem dX7_set_224 : decode cX7_set 224 = .ok (.iconst 1, 1) := by decide +kernel
theorem dX7_set_225 : decode cX7_set 225 = .ok (.ireturn, 1) := by decide +kernel
set_option maxRecDepth 20000 in
theorem ggX7_acted_X7_size : GoodIn wsX7_acted wsX7_size := goodIn_r _ [13, 14, 15, 19, 20, 21, 22, 23, 24, 25, 26, 27, 28, 29, 30, 31, 32, 33, 34, 35, 36, 37, 38, 39, 40, 41, 42, 43, 44, 45, 46, 47] (by decide +kernel) (by decide +kernel)
set_option maxRecDepth 20000 in
theorem gX7_acted_X7_size : GoodIn wsX7_acted (wsV RX7 89 RX7 yX7_size wsX7_size) := goodIn_app (goodIn_of _ (by decide +kernel)) ggX7_acted_X7_size
set_option maxRecDepth 20000 in
theorem ggX7_acted_X7_other : GoodIn wsX7_acted wsX7_other := goodIn_r _ [18] (by decide +kernel) (by decide +kernel)
set_option maxRecDepth 20000 in
theorem gX7_acted_X7_other : GoodIn wsX7_acted (va_wsS RX7 132 yX7_other wsX7_other) := goodIn_app (goodIn_of _ (by decide +kernel)) ggX7_acted_X7_other
theorem dX7_acted_0 : decode cX7_acted 0 = .ok (.aload_n 0, 1) := by decide +kernel
theorem dX7_acted_1 : decode cX7_acted 1 = .ok (.getfield 20, 3) := by decide +kernel
theorem dX7_acted_4 : decode cX7_acted 4 = .ok (.aload_n 0, 1) := by decide +kernel
theorem dX7_acted_5 : decode cX7_acted 5 = .ok (.getfield 86, 3) := by decide +kernel
theorem dX7_acted_8 : decode cX7_acted 8 = .ok (.iload_n 1, 1) := by decide +kernel
theorem dX7_acted_9 : decode cX7_acted 9 = .ok (.iastore, 1) := by decide +kernel
theorem dX7_acted_10 : decode cX7_acted 10 = .ok (.aload_n 0, 1) := by decide +kernel
theorem dX7_acted_11 : decode cX7_acted 11 = .ok (.getfield 30, 3) := by decide +kernel
theorem dX7_acted_14 : decode cX7_acted 14 = .ok (.aload_n 0, 1) := by decide +kernel
theorem dX7_acted_15 : decode cX7_acted 15 = .ok (.getfield 86, 3) := by decide +kernel
theorem dX7_acted_18 : decode cX7_acted 18 = .ok (.iaload, 1) := by decide +kernel
theorem dX7_acted_19 : decode cX7_acted 19 = .ok (.istore 6, 2) := by decide +kernel
theorem dX7_acted_21 : decode cX7_acted 21 = .ok (.aload_n 0, 1) := by decide +kernel
theorem dX7_acted_22 : decode cX7_acted 22 = .ok (.getfield 33, 3) := by decide +kernel
theorem dX7_acted_25 : decode cX7_acted 25 = .ok (.aload_n 0, 1) := by decide +kernel
theorem dX7_acted_26 : decode cX7_acted 26 = .ok (.getfield 86, 3) := by decide +kernel
theorem dX7_acted_29 : decode cX7_acted 29 = .ok (.iconst 1, 1) := by decide +kernel
theorem dX7_acted_30 : decode cX7_acted 30 = .ok (.iadd, 1) := by decide +kernel
theorem dX7_acted_31 : decode cX7_acted 31 = .ok (.aload_n 0, 1) := by decide +kernel
theorem dX7_acted_32 : decode cX7_acted 32 = .ok (.getfield 33, 3) := by decide +kernel
theorem dX7_acted_35 : decode cX7_acted 35 = .ok (.aload_n 0, 1) := by decide +kernel
theorem dX7_acted_36 : decode cX7_acted 36 = .ok (.getfield 86, 3) := by decide +kernel
theorem dX7_acted_39 : decode cX7_acted 39 = .ok (.iaload, 1) := by decide +kernel
theorem dX7_acted_40 : decode cX7_acted 40 = .ok (.iload 6, 2) := by decide +kernel
theorem dX7_acted_42 : decode cX7_acted 42 = .ok (.iconst 1, 1) := by decide +kernel
theorem dX7_acted_43 : decode cX7_acted 43 = .ok (.if_icmp .eq 11, 3) := by decide +kernel
theorem dX7_acted_46 : decode cX7_acted 46 = .ok (.iload_n 1, 1) := by decide +kernel
theorem dX7_acted_47 : decode cX7_acted 47 = .ok (.aload_n 0, 1) := by decide +kernel
theorem dX7_acted_48 : decode cX7_acted 48 = .ok (.invokevirtual 89, 3) := by decide +kernel
theorem dX7_acted_51 : decode cX7_acted 51 = .ok (.if_icmp .ne 7, 3) := by decide +kernel
theorem dX7_acted_54 : decode cX7_acted 54 = .ok (.iconst 0, 1) := by decide +kernel
theorem dX7_acted_55 : decode cX7_acted 55 = .ok (.goto 7, 3) := by decide +kernel
theorem dX7_acted_58 : decode cX7_acted 58 = .ok (.aload_n 0, 1) := by decide +kernel
theorem dX7_acted_59 : decode cX7_acted 59 = .ok (.getfield 119, 3) := by decide +kernel
theorem dX7_acted_62 : decode cX7_acted 62 = .ok (.iadd, 1) := by decide +kernel
theorem dX7_acted_63 : decode cX7_acted 63 = .ok (.iastore, 1) := by decide +kernel
theorem dX7_acted_64 : decode cX7_acted 64 = .ok (.aload_n 0, 1) := by decide +kernel
theorem dX7_acted_65 : decode cX7_acted 65 = .ok (.getfield 36, 3) := by decide +kernel
theorem dX7_acted_68 : decode cX7_acted 68 = .ok (.aload_n 0, 1) := by decide +kernel
theorem dX7_acted_69 : decode cX7_acted 69 = .ok (.getfield 86, 3) := by decide +kernel
theorem dX7_acted_72 : decode cX7_acted 72 = .ok (.iconst 1, 1) := by decide +kernel
theorem dX7_acted_73 : decode cX7_acted 73 = .ok (.iadd, 1) := by decide +kernel
theorem dX7_acted_74 : decode cX7_acted 74 = .ok (.aload_n 0, 1) := by decide +kernel
theorem dX7_acted_75 : decode cX7_acted 75 = .ok (.getfield 36, 3) := by decide +kernel
theorem dX7_acted_78 : decode cX7_acted 78 = .ok (.aload_n 0, 1) := by decide +kernel
theorem dX7_acted_79 : decode cX7_acted 79 = .ok (.getfield 86, 3) := by decide +kernel
theorem dX7_acted_82 : decode cX7_acted 82 = .ok (.iaload, 1) := by decide +kernel
theorem dX7_acted_83 : decode cX7_acted 83 = .ok (.iload 6, 2) := by decide +kernel
theorem dX7_acted_85 : decode cX7_acted 85 = .ok (.iconst 1, 1) := by decide +kernel
theorem dX7_acted_86 : decode cX7_acted 86 = .ok (.if_icmp .ne 18, 3) := by decide +kernel
theorem dX7_acted_89 : decode cX7_acted 89 = .ok (.iload_n 1, 1) := by decide +kernel
theorem dX7_acted_90 : decode cX7_acted 90 = .ok (.aload_n 0, 1) := by decide +kernel
theorem dX7_acted_91 : decode cX7_acted 91 = .ok (.invokevirtual 89, 3) := by decide +kernel
theorem dX7_acted_94 : decode cX7_acted 94 = .ok (.if_icmp .ge 10, 3) := by decide +kernel
theorem dX7_acted_97 : decode cX7_acted 97 = .ok (.aload_n 0, 1) := by decide +kernel
theorem dX7_acted_98 : decode cX7_acted 98 = .ok (.getfield 119, 3) := by decide +kernel
theorem dX7_acted_101 : decode cX7_acted 101 = .ok (.goto 4, 3) := by decide +kernel
theorem dX7_acted_104 : decode cX7_acted 104 = .ok (.iconst 0, 1) := by decide +kernel
theorem dX7_acted_105 : decode cX7_acted 105 = .ok (.iadd, 1) := by decide +kernel
theorem dX7_acted_106 : decode cX7_acted 106 = .ok (.iastore, 1) := by decide +kernel
theorem dX7_acted_107 : decode cX7_acted 107 = .ok (.aload_n 0, 1) := by decide +kernel
theorem dX7_acted_108 : decode cX7_acted 108 = .ok (.dup, 1) := by decide +kernel
theorem dX7_acted_109 : decode cX7_acted 109 = .ok (.getfield 86, 3) := by decide +kernel
theorem dX7_acted_112 : decode cX7_acted 112 = .ok (.iconst 1, 1) := by decide +kernel
theorem dX7_acted_113 : decode cX7_acted 113 = .ok (.iadd, 1) := by decide +kernel
theorem dX7_acted_114 : decode cX7_acted 114 = .ok (.putfield 86, 3) := by decide +kernel
theorem dX7_acted_117 : decode cX7_acted 117 = .ok (.aload_n 0, 1) := by decide +kernel
theorem dX7_acted_118 : decode cX7_acted 118 = .ok (.getfield 24, 3) := by decide +kernel
theorem dX7_acted_121 : decode cX7_acted 121 = .ok (.aload_n 0, 1) := by decide +kernel
theorem dX7_acted_122 : decode cX7_acted 122 = .ok (.getfield 86, 3) := by decide +kernel
theorem dX7_acted_125 : decode cX7_acted 125 = .ok (.lload_n 2, 1) := by decide +kernel
theorem dX7_acted_126 : decode cX7_acted 126 = .ok (.lastore, 1) := by decide +kernel
theorem dX7_acted_127 : decode cX7_acted 127 = .ok (.aload_n 0, 1) := by decide +kernel
theorem dX7_acted_128 : decode cX7_acted 128 = .ok (.getfield 27, 3) := by decide +kernel
theorem dX7_acted_131 : decode cX7_acted 131 = .ok (.aload_n 0, 1) := by decide +kernel
theorem dX7_acted_132 : decode cX7_acted 132 = .ok (.getfield 86, 3) := by decide +kernel
theorem dX7_acted_135 : decode cX7_acted 135 = .ok (.lload 4, 2) := by decide +kernel
theorem dX7_acted_137 : decode cX7_acted 137 = .ok (.lastore, 1) := by decide +kernel
theorem dX7_acted_138 : decode cX7_acted 138 = .ok (.aload_n 0, 1) := by decide +kernel
theorem dX7_acted_139 : decode cX7_acted 139 = .ok (.getfield 30, 3) := by decide +kernel
theorem dX7_acted_142 : decode cX7_acted 142 = .ok (.aload_n 0, 1) := by decide +kernel
theorem dX7_acted_143 : decode cX7_acted 143 = .ok (.getfield 86, 3) := by decide +kernel
theorem dX7_acted_146 : decode cX7_acted 146 = .ok (.iload 6, 2) := by decide +kernel
theorem dX7_acted_148 : decode cX7_acted 148 = .ok (.invokestatic 132, 3) := by decide +kernel
theorem dX7_acted_151 : decode cX7_acted 151 = .ok (.iastore, 1) := by decide +kernel
theorem dX7_acted_152 : decode cX7_acted 152 = .ok (.return_, 1) := by decide +kernel
set_option maxRecDepth 20000 in
theorem ggX7_lay_X7_isCrossing : GoodIn wsX7_lay wsX7_isCrossing := goodIn_r _ [10, 11, 12, 13, 9, 14, 15, 16, 17, 18, 19, 69, 70, 71, 72, 73, 74, 75, 76, 77, 78, 79, 80, 81, 82, 83, 84, 85, 86, 87, 88, 89, 90, 91, 92, 93, 94, 95, 96, 97] (by decide +kernel) (by decide +kernel)
set_option maxRecDepth 20000 in
theorem gX7_lay_X7_isCrossing : GoodIn wsX7_lay (wsV RX7 144 RX7 yX7_isCrossing wsX7_isCrossing) := goodIn_app (goodIn_of _ (by decide +kernel)) ggX7_lay_X7_isCrossing
set_option maxRecDepth 20000 in
theorem ggX7_lay_X7_reason : GoodIn wsX7_lay wsX7_reason := goodIn_r _ [23, 24, 25, 26, 27, 28, 9, 29, 30, 31, 3, 4, 5, 32, 33, 34, 35, 36, 37, 38, 39, 40, 41, 42, 11, 12, 13, 14, 15, 16, 43, 44, 45, 46, 47, 48, 49, 50, 51, 52, 53, 54, 55, 56, 57, 58, 2, 59, 60, 61, 69, 70, 71, 72, 73, 74, 75, 76, 77, 78, 79, 80, 81, 82, 83, 84, 85, 86, 87, 88, 89, 90, 91, 92, 93, 94, 95, 96, 97] (by decide +kernel) (by decide +kernel)
set_option maxRecDepth 20000 in
theorem gX7_lay_X7_reason : GoodIn wsX7_lay (wsV RX7 148 RX7 yX7_reason wsX7_reason) := goodIn_app (goodIn_of _ (by decide +kernel)) ggX7_lay_X7_reason
set_option maxRecDepth 20000 in
theorem ggX7_lay_X7_acted : GoodIn wsX7_lay wsX7_acted := goodIn_r _ [65, 66, 1, 2, 67, 3, 68, 24, 25, 11, 12, 13, 9, 14, 15, 16, 59, 60, 61, 69, 70, 71, 72, 73, 74, 75, 76, 77, 78, 79, 80, 81, 82, 83, 84, 85, 86, 87, 88, 89, 90, 91, 92, 93, 94, 95, 96, 97] (by decide +kernel) (by decide +kernel)
set_option maxRecDepth 20000 in
theorem gX7_lay_X7_acted : GoodIn wsX7_lay (wsV RX7 152 RX7 yX7_acted wsX7_acted) := goodIn_app (goodIn_of _ (by decide +kernel)) ggX7_lay_X7_acted
theorem dX7_lay_0 : decode cX7_lay 0 = .ok (.aload_n 0, 1) := by decide +kernel
theorem dX7_lay_1 : decode cX7_lay 1 = .ok (.iload_n 1, 1) := by decide +kernel
theorem dX7_lay_2 : decode cX7_lay 2 = .ok (.invokevirtual 144, 3) := by decide +kernel
theorem dX7_lay_5 : decode cX7_lay 5 = .ok (.ifCond .ne 6, 3) := by decide +kernel
theorem dX7_lay_8 : decode cX7_lay 8 = .ok (.bipush (-2), 2) := by decide +kernel
theorem dX7_lay_10 : decode cX7_lay 10 = .ok (.ireturn, 1) := by decide +kernel
theorem dX7_lay_11 : decode cX7_lay 11 = .ok (.aload_n 0, 1) := by decide +kernel
theorem dX7_lay_12 : decode cX7_lay 12 = .ok (.aload_n 0, 1) := by decide +kernel
theorem dX7_lay_13 : decode cX7_lay 13 = .ok (.getfield 86, 3) := by decide +kernel
theorem dX7_lay_16 : decode cX7_lay 16 = .ok (.aload_n 0, 1) := by decide +kernel
theorem dX7_lay_17 : decode cX7_lay 17 = .ok (.getfield 30, 3) := by decide +kernel
theorem dX7_lay_20 : decode cX7_lay 20 = .ok (.aload_n 0, 1) := by decide +kernel
theorem dX7_lay_21 : decode cX7_lay 21 = .ok (.getfield 86, 3) := by decide +kernel
theorem dX7_lay_24 : decode cX7_lay 24 = .ok (.iaload, 1) := by decide +kernel
theorem dX7_lay_25 : decode cX7_lay 25 = .ok (.iload_n 1, 1) := by decide +kernel
theorem dX7_lay_26 : decode cX7_lay 26 = .ok (.invokevirtual 148, 3) := by decide +kernel
theorem dX7_lay_29 : decode cX7_lay 29 = .ok (.ifCond .eq 6, 3) := by decide +kernel
theorem dX7_lay_32 : decode cX7_lay 32 = .ok (.bipush (-3), 2) := by decide +kernel
theorem dX7_lay_34 : decode cX7_lay 34 = .ok (.ireturn, 1) := by decide +kernel
theorem dX7_lay_35 : decode cX7_lay 35 = .ok (.aload_n 0, 1) := by decide +kernel
theorem dX7_lay_36 : decode cX7_lay 36 = .ok (.getfield 86, 3) := by decide +kernel
theorem dX7_lay_39 : decode cX7_lay 39 = .ok (.bipush 120, 2) := by decide +kernel
theorem dX7_lay_41 : decode cX7_lay 41 = .ok (.if_icmp .ne 6, 3) := by decide +kernel
theorem dX7_lay_44 : decode cX7_lay 44 = .ok (.bipush (-4), 2) := by decide +kernel
theorem dX7_lay_46 : decode cX7_lay 46 = .ok (.ireturn, 1) := by decide +kernel
theorem dX7_lay_47 : decode cX7_lay 47 = .ok (.aload_n 0, 1) := by decide +kernel
theorem dX7_lay_48 : decode cX7_lay 48 = .ok (.getfield 119, 3) := by decide +kernel
theorem dX7_lay_51 : decode cX7_lay 51 = .ok (.istore_n 2, 1) := by decide +kernel
theorem dX7_lay_52 : decode cX7_lay 52 = .ok (.aload_n 0, 1) := by decide +kernel
theorem dX7_lay_53 : decode cX7_lay 53 = .ok (.iload_n 1, 1) := by decide +kernel
theorem dX7_lay_54 : decode cX7_lay 54 = .ok (.aload_n 0, 1) := by decide +kernel
theorem dX7_lay_55 : decode cX7_lay 55 = .ok (.getfield 122, 3) := by decide +kernel
theorem dX7_lay_58 : decode cX7_lay 58 = .ok (.aload_n 0, 1) := by decide +kernel
theorem dX7_lay_59 : decode cX7_lay 59 = .ok (.getfield 126, 3) := by decide +kernel
theorem dX7_lay_62 : decode cX7_lay 62 = .ok (.invokevirtual 152, 3) := by decide +kernel
theorem dX7_lay_65 : decode cX7_lay 65 = .ok (.iload_n 2, 1) := by decide +kernel
theorem dX7_lay_66 : decode cX7_lay 66 = .ok (.ireturn, 1) := by decide +kernel
set_option maxRecDepth 20000 in
theorem ggX7_passes_X7_size : GoodIn wsX7_passes wsX7_size := goodIn_r _ [7, 8, 9, 10, 11, 12, 13, 14, 15, 16, 17, 18, 19, 20, 21, 22, 23, 24, 25, 26, 27, 28, 29, 30, 31, 32, 33, 34, 35, 36, 37, 38] (by decide +kernel) (by decide +kernel)
set_option maxRecDepth 20000 in
theorem gX7_passes_X7_size : GoodIn wsX7_passes (wsV RX7 89 RX7 yX7_size wsX7_size) := goodIn_app (goodIn_of _ (by decide +kernel)) ggX7_passes_X7_size
theorem dX7_passes_0 : decode cX7_passes 0 = .ok (.iconst 0, 1) := by decide +kernel
theorem dX7_passes_1 : decode cX7_passes 1 = .ok (.istore_n 1, 1) := by decide +kernel
theorem dX7_passes_2 : decode cX7_passes 2 = .ok (.iload_n 1, 1) := by decide +kernel
theorem dX7_passes_3 : decode cX7_passes 3 = .ok (.aload_n 0, 1) := by decide +kernel
theorem dX7_passes_4 : decode cX7_passes 4 = .ok (.getfield 86, 3) := by decide +kernel
theorem dX7_passes_7 : decode cX7_passes 7 = .ok (.if_icmp .ge 29, 3) := by decide +kernel
theorem dX7_passes_10 : decode cX7_passes 10 = .ok (.aload_n 0, 1) := by decide +kernel
theorem dX7_passes_11 : decode cX7_passes 11 = .ok (.getfield 20, 3) := by decide +kernel
theorem dX7_passes_14 : decode cX7_passes 14 = .ok (.aload_n 0, 1) := by decide +kernel
theorem dX7_passes_15 : decode cX7_passes 15 = .ok (.getfield 86, 3) := by decide +kernel
theorem dX7_passes_18 : decode cX7_passes 18 = .ok (.iconst 1, 1) := by decide +kernel
theorem dX7_passes_19 : decode cX7_passes 19 = .ok (.isub, 1) := by decide +kernel
theorem dX7_passes_20 : decode cX7_passes 20 = .ok (.iload_n 1, 1) := by decide +kernel
theorem dX7_passes_21 : decode cX7_passes 21 = .ok (.isub, 1) := by decide +kernel
theorem dX7_passes_22 : decode cX7_passes 22 = .ok (.iaload, 1) := by decide +kernel
theorem dX7_passes_23 : decode cX7_passes 23 = .ok (.aload_n 0, 1) := by decide +kernel
theorem dX7_passes_24 : decode cX7_passes 24 = .ok (.invokevirtual 89, 3) := by decide +kernel
theorem dX7_passes_27 : decode cX7_passes 27 = .ok (.if_icmp .ne 9, 3) := by decide +kernel
theorem dX7_passes_30 : decode cX7_passes 30 = .ok (.iinc 1 1, 3) := by decide +kernel
theorem dX7_passes_33 : decode cX7_passes 33 = .ok (.goto (-31), 3) := by decide +kernel
theorem dX7_passes_36 : decode cX7_passes 36 = .ok (.iload_n 1, 1) := by decide +kernel
theorem dX7_passes_37 : decode cX7_passes 37 = .ok (.ireturn, 1) := by decide +kernel
set_option maxRecDepth 20000 in
theorem ggX7_pass_X7_size : GoodIn wsX7_pass wsX7_size := goodIn_r _ [8, 9, 10, 27, 28, 29, 30, 31, 32, 33, 34, 35, 36, 37, 38, 39, 40, 41, 42, 43, 44, 45, 46, 47, 48, 49, 50, 51, 52, 53, 54, 55] (by decide +kernel) (by decide +kernel)
set_option maxRecDepth 20000 in
theorem gX7_pass_X7_size : GoodIn wsX7_pass (wsV RX7 89 RX7 yX7_size wsX7_size) := goodIn_app (goodIn_of _ (by decide +kernel)) ggX7_pass_X7_size
set_option maxRecDepth 20000 in
theorem ggX7_pass_X7_acted : GoodIn wsX7_pass wsX7_acted := goodIn_r _ [14, 15, 1, 16, 17, 18, 19, 2, 3, 4, 5, 6, 7, 8, 9, 10, 20, 21, 22, 27, 28, 29, 30, 31, 32, 33, 34, 35, 36, 37, 38, 39, 40, 41, 42, 43, 44, 45, 46, 47, 48, 49, 50, 51, 52, 53, 54, 55] (by decide +kernel) (by decide +kernel)
set_option maxRecDepth 20000 in
theorem gX7_pass_X7_acted : GoodIn wsX7_pass (wsV RX7 152 RX7 yX7_acted wsX7_acted) := goodIn_app (goodIn_of _ (by decide +kernel)) ggX7_pass_X7_acted
set_option maxRecDepth 20000 in
theorem ggX7_pass_X7_passes : GoodIn wsX7_pass wsX7_passes := goodIn_r _ [26, 1, 15, 4, 5, 6, 7, 8, 9, 10, 27, 28, 29, 30, 31, 32, 33, 34, 35, 36, 37, 38, 39, 40, 41, 42, 43, 44, 45, 46, 47, 48, 49, 50, 51, 52, 53, 54, 55] (by decide +kernel) (by decide +kernel)
set_option maxRecDepth 20000 in
theorem gX7_pass_X7_passes : GoodIn wsX7_pass (wsV RX7 156 RX7 yX7_passes wsX7_passes) := goodIn_app (goodIn_of _ (by decide +kernel)) ggX7_pass_X7_passes
theorem dX7_pass_0 : decode cX7_pass 0 = .ok (.aload_n 0, 1) := by decide +kernel
theorem dX7_pass_1 : decode cX7_pass 1 = .ok (.getfield 86, 3) := by decide +kernel
theorem dX7_pass_4 : decode cX7_pass 4 = .ok (.bipush 120, 2) := by decide +kernel
theorem dX7_pass_6 : decode cX7_pass 6 = .ok (.if_icmp .ne 6, 3) := by decide +kernel
theorem dX7_pass_9 : decode cX7_pass 9 = .ok (.bipush (-4), 2) := by decide +kernel
theorem dX7_pass_11 : decode cX7_pass 11 = .ok (.ireturn, 1) := by decide +kernel
theorem dX7_pass_12 : decode cX7_pass 12 = .ok (.aload_n 0, 1) := by decide +kernel
theorem dX7_pass_13 : decode cX7_pass 13 = .ok (.aload_n 0, 1) := by decide +kernel
theorem dX7_pass_14 : decode cX7_pass 14 = .ok (.invokevirtual 89, 3) := by decide +kernel
theorem dX7_pass_17 : decode cX7_pass 17 = .ok (.aload_n 0, 1) := by decide +kernel
theorem dX7_pass_18 : decode cX7_pass 18 = .ok (.getfield 24, 3) := by decide +kernel
theorem dX7_pass_21 : decode cX7_pass 21 = .ok (.aload_n 0, 1) := by decide +kernel
theorem dX7_pass_22 : decode cX7_pass 22 = .ok (.getfield 86, 3) := by decide +kernel
theorem dX7_pass_25 : decode cX7_pass 25 = .ok (.laload, 1) := by decide +kernel
theorem dX7_pass_26 : decode cX7_pass 26 = .ok (.aload_n 0, 1) := by decide +kernel
theorem dX7_pass_27 : decode cX7_pass 27 = .ok (.getfield 27, 3) := by decide +kernel
theorem dX7_pass_30 : decode cX7_pass 30 = .ok (.aload_n 0, 1) := by decide +kernel
theorem dX7_pass_31 : decode cX7_pass 31 = .ok (.getfield 86, 3) := by decide +kernel
theorem dX7_pass_34 : decode cX7_pass 34 = .ok (.laload, 1) := by decide +kernel
theorem dX7_pass_35 : decode cX7_pass 35 = .ok (.invokevirtual 152, 3) := by decide +kernel
theorem dX7_pass_38 : decode cX7_pass 38 = .ok (.aload_n 0, 1) := by decide +kernel
theorem dX7_pass_39 : decode cX7_pass 39 = .ok (.invokevirtual 156, 3) := by decide +kernel
theorem dX7_pass_42 : decode cX7_pass 42 = .ok (.ireturn, 1) := by decide +kernel
set_option maxRecDepth 20000 in
theorem ggX7_why_X7_isCrossing : GoodIn wsX7_why wsX7_isCrossing := goodIn_r _ [7, 8, 9, 10, 6, 11, 12, 13, 14, 15, 16, 62, 63, 64, 65, 66, 67, 68, 69, 70, 71, 72, 73, 74, 75, 76, 77, 78, 79, 80, 81, 82, 83, 84, 85, 86, 87, 88, 89, 90] (by decide +kernel) (by decide +kernel)
set_option maxRecDepth 20000 in
theorem gX7_why_X7_isCrossing : GoodIn wsX7_why (wsV RX7 144 RX7 yX7_isCrossing wsX7_isCrossing) := goodIn_app (goodIn_of _ (by decide +kernel)) ggX7_why_X7_isCrossing
set_option maxRecDepth 20000 in
theorem ggX7_why_X7_reason : GoodIn wsX7_why wsX7_reason := goodIn_r _ [20, 21, 22, 23, 24, 25, 6, 26, 27, 28, 29, 30, 31, 32, 33, 34, 35, 36, 37, 38, 39, 40, 41, 42, 8, 9, 10, 11, 12, 13, 43, 44, 45, 46, 47, 48, 49, 50, 51, 52, 53, 54, 55, 56, 57, 58, 2, 59, 60, 61, 62, 63, 64, 65, 66, 67, 68, 69, 70, 71, 72, 73, 74, 75, 76, 77, 78, 79, 80, 81, 82, 83, 84, 85, 86, 87, 88, 89, 90] (by decide +kernel) (by decide +kernel)
set_option maxRecDepth 20000 in
theorem gX7_why_X7_reason : GoodIn wsX7_why (wsV RX7 148 RX7 yX7_reason wsX7_reason) := goodIn_app (goodIn_of _ (by decide +kernel)) ggX7_why_X7_reason
theorem dX7_why_0 : decode cX7_why 0 = .ok (.aload_n 0, 1) := by decide +kernel
theorem dX7_why_1 : decode cX7_why 1 = .ok (.iload_n 1, 1) := by decide +kernel
theorem dX7_why_2 : decode cX7_why 2 = .ok (.invokevirtual 144, 3) := by decide +kernel
theorem dX7_why_5 : decode cX7_why 5 = .ok (.ifCond .eq 24, 3) := by decide +kernel
theorem dX7_why_8 : decode cX7_why 8 = .ok (.aload_n 0, 1) := by decide +kernel
theorem dX7_why_9 : decode cX7_why 9 = .ok (.aload_n 0, 1) := by decide +kernel
theorem dX7_why_10 : decode cX7_why 10 = .ok (.getfield 86, 3) := by decide +kernel
theorem dX7_why_13 : decode cX7_why 13 = .ok (.aload_n 0, 1) := by decide +kernel
theorem dX7_why_14 : decode cX7_why 14 = .ok (.getfield 30, 3) := by decide +kernel
theorem dX7_why_17 : decode cX7_why 17 = .ok (.aload_n 0, 1) := by decide +kernel
theorem dX7_why_18 : decode cX7_why 18 = .ok (.getfield 86, 3) := by decide +kernel
theorem dX7_why_21 : decode cX7_why 21 = .ok (.iaload, 1) := by decide +kernel
theorem dX7_why_22 : decode cX7_why 22 = .ok (.iload_n 1, 1) := by decide +kernel
theorem dX7_why_23 : decode cX7_why 23 = .ok (.invokevirtual 148, 3) := by decide +kernel
theorem dX7_why_26 : decode cX7_why 26 = .ok (.goto 5, 3) := by decide +kernel
theorem dX7_why_29 : decode cX7_why 29 = .ok (.bipush (-2), 2) := by decide +kernel
theorem dX7_why_31 : decode cX7_why 31 = .ok (.ireturn, 1) := by decide +kernel
theorem dX7_undo_0 : decode cX7_undo 0 = .ok (.aload_n 0, 1) := by decide +kernel
theorem dX7_undo_1 : decode cX7_undo 1 = .ok (.getfield 86, 3) := by decide +kernel
theorem dX7_undo_4 : decode cX7_undo 4 = .ok (.ifCond .ne 6, 3) := by decide +kernel
theorem dX7_undo_7 : decode cX7_undo 7 = .ok (.bipush (-3), 2) := by decide +kernel
theorem dX7_undo_9 : decode cX7_undo 9 = .ok (.ireturn, 1) := by decide +kernel
theorem dX7_undo_10 : decode cX7_undo 10 = .ok (.aload_n 0, 1) := by decide +kernel
theorem dX7_undo_11 : decode cX7_undo 11 = .ok (.dup, 1) := by decide +kernel
theorem dX7_undo_12 : decode cX7_undo 12 = .ok (.getfield 86, 3) := by decide +kernel
theorem dX7_undo_15 : decode cX7_undo 15 = .ok (.iconst 1, 1) := by decide +kernel
theorem dX7_undo_16 : decode cX7_undo 16 = .ok (.isub, 1) := by decide +kernel
theorem dX7_undo_17 : decode cX7_undo 17 = .ok (.putfield 86, 3) := by decide +kernel
theorem dX7_undo_20 : decode cX7_undo 20 = .ok (.aload_n 0, 1) := by decide +kernel
theorem dX7_undo_21 : decode cX7_undo 21 = .ok (.getfield 86, 3) := by decide +kernel
theorem dX7_undo_24 : decode cX7_undo 24 = .ok (.ireturn, 1) := by decide +kernel
theorem dX7_atOf_0 : decode cX7_atOf 0 = .ok (.aload_n 0, 1) := by decide +kernel
theorem dX7_atOf_1 : decode cX7_atOf 1 = .ok (.getfield 24, 3) := by decide +kernel
theorem dX7_atOf_4 : decode cX7_atOf 4 = .ok (.aload_n 0, 1) := by decide +kernel
theorem dX7_atOf_5 : decode cX7_atOf 5 = .ok (.getfield 86, 3) := by decide +kernel
theorem dX7_atOf_8 : decode cX7_atOf 8 = .ok (.laload, 1) := by decide +kernel
theorem dX7_atOf_9 : decode cX7_atOf 9 = .ok (.iload_n 1, 1) := by decide +kernel
theorem dX7_atOf_10 : decode cX7_atOf 10 = .ok (.lshr, 1) := by decide +kernel
theorem dX7_atOf_11 : decode cX7_atOf 11 = .ok (.lconst 1, 1) := by decide +kernel
theorem dX7_atOf_12 : decode cX7_atOf 12 = .ok (.land, 1) := by decide +kernel
theorem dX7_atOf_13 : decode cX7_atOf 13 = .ok (.lconst 1, 1) := by decide +kernel
theorem dX7_atOf_14 : decode cX7_atOf 14 = .ok (.lcmp, 1) := by decide +kernel
theorem dX7_atOf_15 : decode cX7_atOf 15 = .ok (.ifCond .ne 7, 3) := by decide +kernel
theorem dX7_atOf_18 : decode cX7_atOf 18 = .ok (.iconst 1, 1) := by decide +kernel
theorem dX7_atOf_19 : decode cX7_atOf 19 = .ok (.goto 26, 3) := by decide +kernel
theorem dX7_atOf_22 : decode cX7_atOf 22 = .ok (.aload_n 0, 1) := by decide +kernel
theorem dX7_atOf_23 : decode cX7_atOf 23 = .ok (.getfield 27, 3) := by decide +kernel
theorem dX7_atOf_26 : decode cX7_atOf 26 = .ok (.aload_n 0, 1) := by decide +kernel
theorem dX7_atOf_27 : decode cX7_atOf 27 = .ok (.getfield 86, 3) := by decide +kernel
theorem dX7_atOf_30 : decode cX7_atOf 30 = .ok (.laload, 1) := by decide +kernel
theorem dX7_atOf_31 : decode cX7_atOf 31 = .ok (.iload_n 1, 1) := by decide +kernel
theorem dX7_atOf_32 : decode cX7_atOf 32 = .ok (.lshr, 1) := by decide +kernel
theorem dX7_atOf_33 : decode cX7_atOf 33 = .ok (.lconst 1, 1) := by decide +kernel
theorem dX7_atOf_34 : decode cX7_atOf 34 = .ok (.land, 1) := by decide +kernel
theorem dX7_atOf_35 : decode cX7_atOf 35 = .ok (.lconst 1, 1) := by decide +kernel
theorem dX7_atOf_36 : decode cX7_atOf 36 = .ok (.lcmp, 1) := by decide +kernel
theorem dX7_atOf_37 : decode cX7_atOf 37 = .ok (.ifCond .ne 7, 3) := by decide +kernel
theorem dX7_atOf_40 : decode cX7_atOf 40 = .ok (.iconst 2, 1) := by decide +kernel
theorem dX7_atOf_41 : decode cX7_atOf 41 = .ok (.goto 4, 3) := by decide +kernel
theorem dX7_atOf_44 : decode cX7_atOf 44 = .ok (.iconst 0, 1) := by decide +kernel
theorem dX7_atOf_45 : decode cX7_atOf 45 = .ok (.ireturn, 1) := by decide +kernel
set_option maxRecDepth 20000 in
theorem ggX7_at_X7_isCrossing : GoodIn wsX7_at wsX7_isCrossing := goodIn_r _ [5, 6, 7, 8, 4, 9, 10, 11, 12, 13, 14, 22, 23, 24, 25, 26, 27, 28, 29, 30, 31, 32, 33, 34, 35, 36, 37, 38, 39, 40, 41, 42, 43, 44, 45, 46, 47, 48, 49, 50] (by decide +kernel) (by decide +kernel)
set_option maxRecDepth 20000 in
theorem gX7_at_X7_isCrossing : GoodIn wsX7_at (wsV RX7 144 RX7 yX7_isCrossing wsX7_isCrossing) := goodIn_app (goodIn_of _ (by decide +kernel)) ggX7_at_X7_isCrossing
set_option maxRecDepth 20000 in
theorem ggX7_at_X7_atOf : GoodIn wsX7_at wsX7_atOf := goodIn_r _ [18, 19, 20, 21, 22, 23, 24, 25, 26, 27, 28, 29, 30, 31, 32, 33, 34, 35, 36, 37, 38, 39, 40, 41, 42, 43, 44, 45, 46, 47, 48, 49, 50] (by decide +kernel) (by decide +kernel)
set_option maxRecDepth 20000 in
theorem gX7_at_X7_atOf : GoodIn wsX7_at (wsV RX7 159 RX7 yX7_atOf wsX7_atOf) := goodIn_app (goodIn_of _ (by decide +kernel)) ggX7_at_X7_atOf
theorem dX7_at_0 : decode cX7_at 0 = .ok (.aload_n 0, 1) := by decide +kernel
theorem dX7_at_1 : decode cX7_at 1 = .ok (.iload_n 1, 1) := by decide +kernel
theorem dX7_at_2 : decode cX7_at 2 = .ok (.invokevirtual 144, 3) := by decide +kernel
theorem dX7_at_5 : decode cX7_at 5 = .ok (.ifCond .eq 11, 3) := by decide +kernel
theorem dX7_at_8 : decode cX7_at 8 = .ok (.aload_n 0, 1) := by decide +kernel
theorem dX7_at_9 : decode cX7_at 9 = .ok (.iload_n 1, 1) := by decide +kernel
theorem dX7_at_10 : decode cX7_at 10 = .ok (.invokevirtual 159, 3) := by decide +kernel
theorem dX7_at_13 : decode cX7_at 13 = .ok (.goto 5, 3) := by decide +kernel
theorem dX7_at_16 : decode cX7_at 16 = .ok (.bipush (-2), 2) := by decide +kernel
theorem dX7_at_18 : decode cX7_at 18 = .ok (.ireturn, 1) := by decide +kernel
theorem dX7_stones_0 : decode cX7_stones 0 = .ok (.iload_n 1, 1) := by decide +kernel
theorem dX7_stones_1 : decode cX7_stones 1 = .ok (.iconst 1, 1) := by decide +kernel
theorem dX7_stones_2 : decode cX7_stones 2 = .ok (.if_icmp .ne 15, 3) := by decide +kernel
theorem dX7_stones_5 : decode cX7_stones 5 = .ok (.aload_n 0, 1) := by decide +kernel
theorem dX7_stones_6 : decode cX7_stones 6 = .ok (.getfield 24, 3) := by decide +kernel
theorem dX7_stones_9 : decode cX7_stones 9 = .ok (.aload_n 0, 1) := by decide +kernel
theorem dX7_stones_10 : decode cX7_stones 10 = .ok (.getfield 86, 3) := by decide +kernel
theorem dX7_stones_13 : decode cX7_stones 13 = .ok (.laload, 1) := by decide +kernel
theorem dX7_stones_14 : decode cX7_stones 14 = .ok (.goto 12, 3) := by decide +kernel
theorem dX7_stones_17 : decode cX7_stones 17 = .ok (.aload_n 0, 1) := by decide +kernel
theorem dX7_stones_18 : decode cX7_stones 18 = .ok (.getfield 27, 3) := by decide +kernel
theorem dX7_stones_21 : decode cX7_stones 21 = .ok (.aload_n 0, 1) := by decide +kernel
theorem dX7_stones_22 : decode cX7_stones 22 = .ok (.getfield 86, 3) := by decide +kernel
theorem dX7_stones_25 : decode cX7_stones 25 = .ok (.laload, 1) := by decide +kernel
theorem dX7_stones_26 : decode cX7_stones 26 = .ok (.lreturn, 1) := by decide +kernel
set_option maxRecDepth 20000 in
theorem ggX7_breaths_X7_around : GoodIn wsX7_breaths wsX7_around := goodIn_r _ [8, 9, 10, 11, 12, 7, 13, 14, 15, 25, 26, 27, 28, 29, 30, 31, 32, 33, 34, 35, 36, 37, 38, 39, 40, 41, 42, 43, 44, 45, 46, 47, 48, 49, 50, 51, 52, 53] (by decide +kernel) (by decide +kernel)
set_option maxRecDepth 20000 in
theorem gX7_breaths_X7_around : GoodIn wsX7_breaths (wsV RX7 97 RX7 yX7_around wsX7_around) := goodIn_app (goodIn_of _ (by decide +kernel)) ggX7_breaths_X7_around
set_option maxRecDepth 20000 in
theorem ggX7_breaths_X7_free : GoodIn wsX7_breaths wsX7_free := goodIn_r _ [19, 20, 21, 22, 23, 7, 24, 10, 11, 12, 13, 14, 15, 25, 26, 27, 28, 29, 30, 31, 32, 33, 34, 35, 36, 37, 38, 39, 40, 41, 42, 43, 44, 45, 46, 47, 48, 49, 50, 51, 52, 53] (by decide +kernel) (by decide +kernel)
set_option maxRecDepth 20000 in
theorem gX7_breaths_X7_free : GoodIn wsX7_breaths (wsV RX7 129 RX7 yX7_free wsX7_free) := goodIn_app (goodIn_of _ (by decide +kernel)) ggX7_breaths_X7_free
theorem dX7_breaths_0 : decode cX7_breaths 0 = .ok (.aload_n 0, 1) := by decide +kernel
theorem dX7_breaths_1 : decode cX7_breaths 1 = .ok (.lload_n 1, 1) := by decide +kernel
theorem dX7_breaths_2 : decode cX7_breaths 2 = .ok (.invokevirtual 97, 3) := by decide +kernel
theorem dX7_breaths_5 : decode cX7_breaths 5 = .ok (.aload_n 0, 1) := by decide +kernel
theorem dX7_breaths_6 : decode cX7_breaths 6 = .ok (.aload_n 0, 1) := by decide +kernel
theorem dX7_breaths_7 : decode cX7_breaths 7 = .ok (.getfield 24, 3) := by decide +kernel
theorem dX7_breaths_10 : decode cX7_breaths 10 = .ok (.aload_n 0, 1) := by decide +kernel
theorem dX7_breaths_11 : decode cX7_breaths 11 = .ok (.getfield 86, 3) := by decide +kernel
theorem dX7_breaths_14 : decode cX7_breaths 14 = .ok (.laload, 1) := by decide +kernel
theorem dX7_breaths_15 : decode cX7_breaths 15 = .ok (.aload_n 0, 1) := by decide +kernel
theorem dX7_breaths_16 : decode cX7_breaths 16 = .ok (.getfield 27, 3) := by decide +kernel
theorem dX7_breaths_19 : decode cX7_breaths 19 = .ok (.aload_n 0, 1) := by decide +kernel
theorem dX7_breaths_20 : decode cX7_breaths 20 = .ok (.getfield 86, 3) := by decide +kernel
theorem dX7_breaths_23 : decode cX7_breaths 23 = .ok (.laload, 1) := by decide +kernel
theorem dX7_breaths_24 : decode cX7_breaths 24 = .ok (.invokevirtual 129, 3) := by decide +kernel
theorem dX7_breaths_27 : decode cX7_breaths 27 = .ok (.land, 1) := by decide +kernel
theorem dX7_breaths_28 : decode cX7_breaths 28 = .ok (.lreturn, 1) := by decide +kernel
set_option maxRecDepth 20000 in
theorem ggX7_isVital_X7_around : GoodIn wsX7_isVital wsX7_around := goodIn_r _ [9, 10, 11, 12, 13, 8, 14, 15, 16, 29, 30, 31, 32, 33, 34, 35, 36, 37, 38, 39, 40, 41, 42, 43, 44, 45, 46, 47, 48, 49, 50, 51, 52, 53, 54, 55, 56, 57] (by decide +kernel) (by decide +kernel)
set_option maxRecDepth 20000 in
theorem gX7_isVital_X7_around : GoodIn wsX7_isVital (wsV RX7 97 RX7 yX7_around wsX7_around) := goodIn_app (goodIn_of _ (by decide +kernel)) ggX7_isVital_X7_around
set_option maxRecDepth 20000 in
theorem ggX7_isVital_X7_free : GoodIn wsX7_isVital wsX7_free := goodIn_r _ [20, 4, 21, 22, 23, 8, 24, 11, 12, 13, 14, 15, 16, 29, 30, 31, 32, 33, 34, 35, 36, 37, 38, 39, 40, 41, 42, 43, 44, 45, 46, 47, 48, 49, 50, 51, 52, 53, 54, 55, 56, 57] (by decide +kernel) (by decide +kernel)
set_option maxRecDepth 20000 in
theorem gX7_isVital_X7_free : GoodIn wsX7_isVital (wsV RX7 129 RX7 yX7_free wsX7_free) := goodIn_app (goodIn_of _ (by decide +kernel)) ggX7_isVital_X7_free
set_option maxRecDepth 20000 in
theorem ggX7_isVital_X7_breaths : GoodIn wsX7_isVital wsX7_breaths := goodIn_r _ [28, 1, 2, 3, 5, 6, 7, 8, 9, 10, 11, 12, 13, 14, 15, 16, 17, 18, 19, 20, 4, 21, 22, 23, 24, 29, 30, 31, 32, 33, 34, 35, 36, 37, 38, 39, 40, 41, 42, 43, 44, 45, 46, 47, 48, 49, 50, 51, 52, 53, 54, 55, 56, 57] (by decide +kernel) (by decide +kernel)
set_option maxRecDepth 20000 in
theorem gX7_isVital_X7_breaths : GoodIn wsX7_isVital (wsV RX7 162 RX7 yX7_breaths wsX7_breaths) := goodIn_app (goodIn_of _ (by decide +kernel)) ggX7_isVital_X7_breaths
theorem dX7_isVital_0 : decode cX7_isVital 0 = .ok (.aload_n 0, 1) := by decide +kernel
theorem dX7_isVital_1 : decode cX7_isVital 1 = .ok (.lload_n 3, 1) := by decide +kernel
theorem dX7_isVital_2 : decode cX7_isVital 2 = .ok (.invokevirtual 97, 3) := by decide +kernel
theorem dX7_isVital_5 : decode cX7_isVital 5 = .ok (.lload_n 1, 1) := by decide +kernel
theorem dX7_isVital_6 : decode cX7_isVital 6 = .ok (.land, 1) := by decide +kernel
theorem dX7_isVital_7 : decode cX7_isVital 7 = .ok (.lconst 0, 1) := by decide +kernel
theorem dX7_isVital_8 : decode cX7_isVital 8 = .ok (.lcmp, 1) := by decide +kernel
theorem dX7_isVital_9 : decode cX7_isVital 9 = .ok (.ifCond .eq 46, 3) := by decide +kernel
theorem dX7_isVital_12 : decode cX7_isVital 12 = .ok (.lload_n 1, 1) := by decide +kernel
theorem dX7_isVital_13 : decode cX7_isVital 13 = .ok (.aload_n 0, 1) := by decide +kernel
theorem dX7_isVital_14 : decode cX7_isVital 14 = .ok (.aload_n 0, 1) := by decide +kernel
theorem dX7_isVital_15 : decode cX7_isVital 15 = .ok (.getfield 24, 3) := by decide +kernel
theorem dX7_isVital_18 : decode cX7_isVital 18 = .ok (.aload_n 0, 1) := by decide +kernel
theorem dX7_isVital_19 : decode cX7_isVital 19 = .ok (.getfield 86, 3) := by decide +kernel
theorem dX7_isVital_22 : decode cX7_isVital 22 = .ok (.laload, 1) := by decide +kernel
theorem dX7_isVital_23 : decode cX7_isVital 23 = .ok (.aload_n 0, 1) := by decide +kernel
theorem dX7_isVital_24 : decode cX7_isVital 24 = .ok (.getfield 27, 3) := by decide +kernel
theorem dX7_isVital_27 : decode cX7_isVital 27 = .ok (.aload_n 0, 1) := by decide +kernel
theorem dX7_isVital_28 : decode cX7_isVital 28 = .ok (.getfield 86, 3) := by decide +kernel
theorem dX7_isVital_31 : decode cX7_isVital 31 = .ok (.laload, 1) := by decide +kernel
theorem dX7_isVital_32 : decode cX7_isVital 32 = .ok (.invokevirtual 129, 3) := by decide +kernel
theorem dX7_isVital_35 : decode cX7_isVital 35 = .ok (.land, 1) := by decide +kernel
theorem dX7_isVital_36 : decode cX7_isVital 36 = .ok (.aload_n 0, 1) := by decide +kernel
theorem dX7_isVital_37 : decode cX7_isVital 37 = .ok (.lload_n 3, 1) := by decide +kernel
theorem dX7_isVital_38 : decode cX7_isVital 38 = .ok (.invokevirtual 162, 3) := by decide +kernel
theorem dX7_isVital_41 : decode cX7_isVital 41 = .ok (.ldc2_w 105, 3) := by decide +kernel
theorem dX7_isVital_44 : decode cX7_isVital 44 = .ok (.lxor, 1) := by decide +kernel
theorem dX7_isVital_45 : decode cX7_isVital 45 = .ok (.land, 1) := by decide +kernel
theorem dX7_isVital_46 : decode cX7_isVital 46 = .ok (.lconst 0, 1) := by decide +kernel
theorem dX7_isVital_47 : decode cX7_isVital 47 = .ok (.lcmp, 1) := by decide +kernel
theorem dX7_isVital_48 : decode cX7_isVital 48 = .ok (.ifCond .ne 7, 3) := by decide +kernel
theorem dX7_isVital_51 : decode cX7_isVital 51 = .ok (.iconst 1, 1) := by decide +kernel
theorem dX7_isVital_52 : decode cX7_isVital 52 = .ok (.goto 4, 3) := by decide +kernel
theorem dX7_isVital_55 : decode cX7_isVital 55 = .ok (.iconst 0, 1) := by decide +kernel
theorem dX7_isVital_56 : decode cX7_isVital 56 = .ok (.ireturn, 1) := by decide +kernel
set_option maxRecDepth 20000 in
theorem ggX7_vital_X7_all : GoodIn wsX7_vital wsX7_all := goodIn_r _ [6, 7, 8, 9, 5, 10, 11, 12, 41, 42, 43, 44, 45, 46, 47, 48, 49, 50, 51, 52, 53, 54, 55, 56, 57, 58, 59, 60, 61, 62, 63, 64, 65, 66, 67, 68, 69] (by decide +kernel) (by decide +kernel)
set_option maxRecDepth 20000 in
theorem gX7_vital_X7_all : GoodIn wsX7_vital (wsV RX7 101 RX7 yX7_all wsX7_all) := goodIn_app (goodIn_of _ (by decide +kernel)) ggX7_vital_X7_all
set_option maxRecDepth 20000 in
theorem ggX7_vital_X7_stones : GoodIn wsX7_vital wsX7_stones := goodIn_r _ [16, 17, 18, 19, 41, 42, 43, 44, 45, 46, 47, 48, 49, 50, 51, 52, 53, 54, 55, 56, 57, 58, 59, 60, 61, 62, 63, 64, 65, 66, 67, 68, 69] (by decide +kernel) (by decide +kernel)
set_option maxRecDepth 20000 in
theorem gX7_vital_X7_stones : GoodIn wsX7_vital (wsV RX7 165 RX7 yX7_stones wsX7_stones) := goodIn_app (goodIn_of _ (by decide +kernel)) ggX7_vital_X7_stones
set_option maxRecDepth 20000 in
theorem ggX7_vital_X7_spread : GoodIn wsX7_vital wsX7_spread := goodIn_r _ [23, 24, 25, 26, 5, 27, 28, 7, 8, 9, 10, 11, 12, 41, 42, 43, 44, 45, 46, 47, 48, 49, 50, 51, 52, 53, 54, 55, 56, 57, 58, 59, 60, 61, 62, 63, 64, 65, 66, 67, 68, 69] (by decide +kernel) (by decide +kernel)
set_option maxRecDepth 20000 in
theorem gX7_vital_X7_spread : GoodIn wsX7_vital (wsV RX7 111 RX7 yX7_spread wsX7_spread) := goodIn_app (goodIn_of _ (by decide +kernel)) ggX7_vital_X7_spread
set_option maxRecDepth 20000 in
theorem ggX7_vital_X7_isVital : GoodIn wsX7_vital wsX7_isVital := goodIn_r _ [32, 17, 18, 19, 1, 24, 25, 26, 5, 27, 28, 7, 8, 9, 10, 11, 12, 33, 34, 35, 36, 2, 3, 4, 6, 37, 38, 39, 40, 41, 42, 43, 44, 45, 46, 47, 48, 49, 50, 51, 52, 53, 54, 55, 56, 57, 58, 59, 60, 61, 62, 63, 64, 65, 66, 67, 68, 69] (by decide +kernel) (by decide +kernel)
set_option maxRecDepth 20000 in
theorem gX7_vital_X7_isVital : GoodIn wsX7_vital (wsV RX7 169 RX7 yX7_isVital wsX7_isVital) := goodIn_app (goodIn_of _ (by decide +kernel)) ggX7_vital_X7_isVital
set_option maxRecDepth 20000 in
theorem ggX7_vital_X7_around : GoodIn wsX7_vital wsX7_around := goodIn_r _ [27, 28, 7, 8, 9, 5, 10, 11, 12, 41, 42, 43, 44, 45, 46, 47, 48, 49, 50, 51, 52, 53, 54, 55, 56, 57, 58, 59, 60, 61, 62, 63, 64, 65, 66, 67, 68, 69] (by decide +kernel) (by decide +kernel)
set_option maxRecDepth 20000 in
theorem gX7_vital_X7_around : GoodIn wsX7_vital (wsV RX7 97 RX7 yX7_around wsX7_around) := goodIn_app (goodIn_of _ (by decide +kernel)) ggX7_vital_X7_around
theorem dX7_vital_0 : decode cX7_vital 0 = .ok (.aload_n 0, 1) := by decide +kernel
theorem dX7_vital_1 : decode cX7_vital 1 = .ok (.invokevirtual 101, 3) := by decide +kernel
theorem dX7_vital_4 : decode cX7_vital 4 = .ok (.aload_n 0, 1) := by decide +kernel
theorem dX7_vital_5 : decode cX7_vital 5 = .ok (.iload_n 1, 1) := by decide +kernel
theorem dX7_vital_6 : decode cX7_vital 6 = .ok (.invokevirtual 165, 3) := by decide +kernel
theorem dX7_vital_9 : decode cX7_vital 9 = .ok (.ldc2_w 105, 3) := by decide +kernel
theorem dX7_vital_12 : decode cX7_vital 12 = .ok (.lxor, 1) := by decide +kernel
theorem dX7_vital_13 : decode cX7_vital 13 = .ok (.land, 1) := by decide +kernel
theorem dX7_vital_14 : decode cX7_vital 14 = .ok (.lstore 6, 2) := by decide +kernel
theorem dX7_vital_16 : decode cX7_vital 16 = .ok (.iconst 0, 1) := by decide +kernel
theorem dX7_vital_17 : decode cX7_vital 17 = .ok (.istore 8, 2) := by decide +kernel
theorem dX7_vital_19 : decode cX7_vital 19 = .ok (.lload 6, 2) := by decide +kernel
theorem dX7_vital_21 : decode cX7_vital 21 = .ok (.lconst 0, 1) := by decide +kernel
theorem dX7_vital_22 : decode cX7_vital 22 = .ok (.lcmp, 1) := by decide +kernel
theorem dX7_vital_23 : decode cX7_vital 23 = .ok (.ifCond .eq 77, 3) := by decide +kernel
theorem dX7_vital_26 : decode cX7_vital 26 = .ok (.aload_n 0, 1) := by decide +kernel
theorem dX7_vital_27 : decode cX7_vital 27 = .ok (.lload 6, 2) := by decide +kernel
theorem dX7_vital_29 : decode cX7_vital 29 = .ok (.lload 6, 2) := by decide +kernel
theorem dX7_vital_31 : decode cX7_vital 31 = .ok (.lneg, 1) := by decide +kernel
theorem dX7_vital_32 : decode cX7_vital 32 = .ok (.land, 1) := by decide +kernel
theorem dX7_vital_33 : decode cX7_vital 33 = .ok (.aload_n 0, 1) := by decide +kernel
theorem dX7_vital_34 : decode cX7_vital 34 = .ok (.invokevirtual 101, 3) := by decide +kernel
theorem dX7_vital_37 : decode cX7_vital 37 = .ok (.aload_n 0, 1) := by decide +kernel
theorem dX7_vital_38 : decode cX7_vital 38 = .ok (.iload_n 1, 1) := by decide +kernel
theorem dX7_vital_39 : decode cX7_vital 39 = .ok (.invokevirtual 165, 3) := by decide +kernel
theorem dX7_vital_42 : decode cX7_vital 42 = .ok (.ldc2_w 105, 3) := by decide +kernel
theorem dX7_vital_45 : decode cX7_vital 45 = .ok (.lxor, 1) := by decide +kernel
theorem dX7_vital_46 : decode cX7_vital 46 = .ok (.land, 1) := by decide +kernel
theorem dX7_vital_47 : decode cX7_vital 47 = .ok (.invokevirtual 111, 3) := by decide +kernel
theorem dX7_vital_50 : decode cX7_vital 50 = .ok (.lstore 9, 2) := by decide +kernel
theorem dX7_vital_52 : decode cX7_vital 52 = .ok (.lload 6, 2) := by decide +kernel
theorem dX7_vital_54 : decode cX7_vital 54 = .ok (.lload 9, 2) := by decide +kernel
theorem dX7_vital_56 : decode cX7_vital 56 = .ok (.ldc2_w 105, 3) := by decide +kernel
theorem dX7_vital_59 : decode cX7_vital 59 = .ok (.lxor, 1) := by decide +kernel
theorem dX7_vital_60 : decode cX7_vital 60 = .ok (.land, 1) := by decide +kernel
theorem dX7_vital_61 : decode cX7_vital 61 = .ok (.lstore 6, 2) := by decide +kernel
theorem dX7_vital_63 : decode cX7_vital 63 = .ok (.iload 8, 2) := by decide +kernel
theorem dX7_vital_65 : decode cX7_vital 65 = .ok (.aload_n 0, 1) := by decide +kernel
theorem dX7_vital_66 : decode cX7_vital 66 = .ok (.lload 9, 2) := by decide +kernel
theorem dX7_vital_68 : decode cX7_vital 68 = .ok (.lload_n 2, 1) := by decide +kernel
theorem dX7_vital_69 : decode cX7_vital 69 = .ok (.invokevirtual 169, 3) := by decide +kernel
theorem dX7_vital_72 : decode cX7_vital 72 = .ok (.ifCond .eq 21, 3) := by decide +kernel
theorem dX7_vital_75 : decode cX7_vital 75 = .ok (.aload_n 0, 1) := by decide +kernel
theorem dX7_vital_76 : decode cX7_vital 76 = .ok (.lload 9, 2) := by decide +kernel
theorem dX7_vital_78 : decode cX7_vital 78 = .ok (.invokevirtual 97, 3) := by decide +kernel
theorem dX7_vital_81 : decode cX7_vital 81 = .ok (.lload 4, 2) := by decide +kernel
theorem dX7_vital_83 : decode cX7_vital 83 = .ok (.land, 1) := by decide +kernel
theorem dX7_vital_84 : decode cX7_vital 84 = .ok (.lconst 0, 1) := by decide +kernel
theorem dX7_vital_85 : decode cX7_vital 85 = .ok (.lcmp, 1) := by decide +kernel
theorem dX7_vital_86 : decode cX7_vital 86 = .ok (.ifCond .ne 7, 3) := by decide +kernel
theorem dX7_vital_89 : decode cX7_vital 89 = .ok (.iconst 1, 1) := by decide +kernel
theorem dX7_vital_90 : decode cX7_vital 90 = .ok (.goto 4, 3) := by decide +kernel
theorem dX7_vital_93 : decode cX7_vital 93 = .ok (.iconst 0, 1) := by decide +kernel
theorem dX7_vital_94 : decode cX7_vital 94 = .ok (.iadd, 1) := by decide +kernel
theorem dX7_vital_95 : decode cX7_vital 95 = .ok (.istore 8, 2) := by decide +kernel
theorem dX7_vital_97 : decode cX7_vital 97 = .ok (.goto (-78), 3) := by decide +kernel
theorem dX7_vital_100 : decode cX7_vital 100 = .ok (.iload 8, 2) := by decide +kernel
theorem dX7_vital_102 : decode cX7_vital 102 = .ok (.ireturn, 1) := by decide +kernel
set_option maxRecDepth 20000 in
theorem ggX7_stand_X7_stones : GoodIn wsX7_stand wsX7_stones := goodIn_r _ [6, 7, 8, 9, 45, 46, 47, 48, 49, 50, 51, 52, 53, 54, 55, 56, 57, 58, 59, 60, 61, 62, 63, 64, 65, 66, 67, 68, 69, 70, 71, 72, 73] (by decide +kernel) (by decide +kernel)
set_option maxRecDepth 20000 in
theorem gX7_stand_X7_stones : GoodIn wsX7_stand (wsV RX7 165 RX7 yX7_stones wsX7_stones) := goodIn_app (goodIn_of _ (by decide +kernel)) ggX7_stand_X7_stones
set_option maxRecDepth 20000 in
theorem ggX7_stand_X7_spread : GoodIn wsX7_stand wsX7_spread := goodIn_r _ [13, 14, 15, 16, 5, 17, 18, 19, 20, 21, 22, 23, 24, 45, 46, 47, 48, 49, 50, 51, 52, 53, 54, 55, 56, 57, 58, 59, 60, 61, 62, 63, 64, 65, 66, 67, 68, 69, 70, 71, 72, 73] (by decide +kernel) (by decide +kernel)
set_option maxRecDepth 20000 in
theorem gX7_stand_X7_spread : GoodIn wsX7_stand (wsV RX7 111 RX7 yX7_spread wsX7_spread) := goodIn_app (goodIn_of _ (by decide +kernel)) ggX7_stand_X7_spread
set_option maxRecDepth 20000 in
theorem ggX7_stand_X7_vital : GoodIn wsX7_stand wsX7_vital := goodIn_r _ [28, 1, 29, 30, 31, 5, 32, 19, 20, 21, 22, 23, 24, 2, 3, 4, 6, 7, 8, 9, 10, 11, 12, 13, 14, 15, 16, 17, 18, 33, 34, 35, 36, 37, 38, 39, 40, 41, 42, 43, 44, 45, 46, 47, 48, 49, 50, 51, 52, 53, 54, 55, 56, 57, 58, 59, 60, 61, 62, 63, 64, 65, 66, 67, 68, 69, 70, 71, 72, 73] (by decide +kernel) (by decide +kernel)
set_option maxRecDepth 20000 in
theorem gX7_stand_X7_vital : GoodIn wsX7_stand (wsV RX7 173 RX7 yX7_vital wsX7_vital) := goodIn_app (goodIn_of _ (by decide +kernel)) ggX7_stand_X7_vital
theorem dX7_stand_0 : decode cX7_stand 0 = .ok (.lconst 0, 1) := by decide +kernel
theorem dX7_stand_1 : decode cX7_stand 1 = .ok (.lstore_n 2, 1) := by decide +kernel
theorem dX7_stand_2 : decode cX7_stand 2 = .ok (.ldc2_w 105, 3) := by decide +kernel
theorem dX7_stand_5 : decode cX7_stand 5 = .ok (.lstore 4, 2) := by decide +kernel
theorem dX7_stand_7 : decode cX7_stand 7 = .ok (.lload 4, 2) := by decide +kernel
theorem dX7_stand_9 : decode cX7_stand 9 = .ok (.lload_n 2, 1) := by decide +kernel
theorem dX7_stand_10 : decode cX7_stand 10 = .ok (.lcmp, 1) := by decide +kernel
theorem dX7_stand_11 : decode cX7_stand 11 = .ok (.ifCond .eq 83, 3) := by decide +kernel
theorem dX7_stand_14 : decode cX7_stand 14 = .ok (.lload_n 2, 1) := by decide +kernel
theorem dX7_stand_15 : decode cX7_stand 15 = .ok (.lstore 4, 2) := by decide +kernel
theorem dX7_stand_17 : decode cX7_stand 17 = .ok (.aload_n 0, 1) := by decide +kernel
theorem dX7_stand_18 : decode cX7_stand 18 = .ok (.iload_n 1, 1) := by decide +kernel
theorem dX7_stand_19 : decode cX7_stand 19 = .ok (.invokevirtual 165, 3) := by decide +kernel
theorem dX7_stand_22 : decode cX7_stand 22 = .ok (.lload 4, 2) := by decide +kernel
theorem dX7_stand_24 : decode cX7_stand 24 = .ok (.ldc2_w 105, 3) := by decide +kernel
theorem dX7_stand_27 : decode cX7_stand 27 = .ok (.lxor, 1) := by decide +kernel
theorem dX7_stand_28 : decode cX7_stand 28 = .ok (.land, 1) := by decide +kernel
theorem dX7_stand_29 : decode cX7_stand 29 = .ok (.lstore 6, 2) := by decide +kernel
theorem dX7_stand_31 : decode cX7_stand 31 = .ok (.lload 6, 2) := by decide +kernel
theorem dX7_stand_33 : decode cX7_stand 33 = .ok (.lconst 0, 1) := by decide +kernel
theorem dX7_stand_34 : decode cX7_stand 34 = .ok (.lcmp, 1) := by decide +kernel
theorem dX7_stand_35 : decode cX7_stand 35 = .ok (.ifCond .eq 56, 3) := by decide +kernel
theorem dX7_stand_38 : decode cX7_stand 38 = .ok (.aload_n 0, 1) := by decide +kernel
