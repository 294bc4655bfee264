set_option maxRecDepth 20000 in
theorem ggL_law_X6_init : GoodIn wsL_law wsX6_init := goodIn_r _ [8, 9, 10, 11, 12, 13, 14, 15, 16, 17, 18, 19, 20, 21, 22, 23, 24, 25, 26, 27, 28, 29, 30, 31, 32, 33, 34, 35, 36, 37, 38, 39, 40, 41, 42, 43, 44, 45, 46, 47, 48, 49, 50, 51, 52, 53, 54, 55, 56, 57, 58, 59, 60, 61, 62, 63, 64, 65, 66, 67, 68, 69, 70, 71, 72, 73, 74, 75, 76, 77, 78, 79, 80, 81, 82, 83, 84, 85, 86, 87, 88, 89, 90, 91, 92, 93, 94, 95, 96, 97, 688, 689, 690, 691, 692, 693, 652, 653, 654, 655, 656, 657, 658, 694, 695, 696, 697, 698, 699, 700, 701, 702, 703, 704, 705, 706, 707, 708, 709, 710, 711, 712, 713, 714, 715] (by decide +kernel) (by decide +kernel)
set_option maxRecDepth 20000 in
theorem gL_law_X6_init : GoodIn wsL_law (wsX6_init) := ggL_law_X6_init
set_option maxRecDepth 20000 in
theorem ggL_law_X7_init : GoodIn wsL_law wsX7_init := goodIn_r _ [100, 101, 10, 11, 102, 103, 60, 104, 63, 105, 106, 107, 108, 109, 110, 111, 112, 113, 114, 115, 116, 117, 118, 119, 120, 121, 122, 123, 124, 125, 126, 127, 5, 128, 129, 130, 659, 660, 661, 662, 663, 664, 665, 666, 667, 668, 669, 670, 671, 672, 673, 674, 675, 676, 677, 678, 679, 680, 681, 682, 683, 684, 685, 686, 687] (by decide +kernel) (by decide +kernel)
set_option maxRecDepth 20000 in
theorem gL_law_X7_init : GoodIn wsL_law (wsX7_init) := ggL_law_X7_init
set_option maxRecDepth 20000 in
theorem ggL_law_X6_board : GoodIn wsL_law wsX6_board := goodIn_r _ [134, 19, 135, 15, 136, 137, 2, 138, 40, 41, 42, 14, 43, 44, 45, 46, 47, 48, 49, 50, 65, 66, 67, 18, 68, 69, 70, 71, 72, 73, 74, 75, 61, 62, 652, 653, 654, 655, 656, 657, 658, 694, 695, 696, 697, 698, 699, 700, 701, 702, 688, 689, 690, 691, 692, 693] (by decide +kernel) (by decide +kernel)
set_option maxRecDepth 20000 in
theorem gL_law_X6_board : GoodIn wsL_law (wsV RL 13 RX6 yX6_board wsX6_board) := goodIn_app (goodIn_of _ (by decide +kernel)) ggL_law_X6_board
set_option maxRecDepth 20000 in
theorem ggL_law_X7_board : GoodIn wsL_law wsX7_board := goodIn_r _ [142, 130, 143, 144, 5, 145, 125, 126, 127, 128, 102, 103, 129, 106, 107, 108, 109, 110, 104, 659, 660, 661, 662, 663, 664, 665, 666, 667, 668, 669, 670, 671, 672, 673, 674, 675, 676, 677, 678, 679, 680, 681, 682, 683, 684, 685, 686, 687] (by decide +kernel) (by decide +kernel)
set_option maxRecDepth 20000 in
theorem gL_law_X7_board : GoodIn wsL_law (wsV RL 17 RX7 yX7_board wsX7_board) := goodIn_app (goodIn_of _ (by decide +kernel)) ggL_law_X7_board
set_option maxRecDepth 20000 in
theorem ggL_law_X6_set : GoodIn wsL_law wsX6_set := goodIn_r _ [149, 15, 19, 150, 151, 135, 152, 153, 154, 155, 14, 156, 46, 157, 158, 2, 159, 160, 161, 162, 18, 163, 70, 164, 165, 166, 167, 61, 62, 168, 169, 170, 171, 172, 173, 174, 175, 50, 49, 44, 47, 176, 177, 178, 179, 65, 66, 67, 68, 69, 71, 72, 73, 74, 75, 652, 653, 654, 655, 656, 657, 658, 688, 689, 690, 691, 692, 693, 694, 695, 696, 697, 698, 699, 700, 701, 702] (by decide +kernel) (by decide +kernel)
set_option maxRecDepth 20000 in
theorem gL_law_X6_set : GoodIn wsL_law (wsV RL 18 RX6 yX6_set wsX6_set) := goodIn_app (goodIn_of _ (by decide +kernel)) ggL_law_X6_set
set_option maxRecDepth 20000 in
theorem ggL_law_X7_set : GoodIn wsL_law wsX7_set := goodIn_r _ [183, 106, 184, 107, 130, 108, 185, 186, 187, 5, 188, 189, 190, 191, 192, 102, 103, 143, 144, 145, 193, 194, 195, 196, 197, 198, 199, 200, 104, 201, 202, 203, 204, 205, 206, 207, 208, 659, 660, 661, 662, 663, 664, 665, 666, 667, 668, 669, 670, 671, 672, 673, 674, 675, 676, 677, 678, 679, 680, 681, 682, 683, 684, 685, 686, 687] (by decide +kernel) (by decide +kernel)
set_option maxRecDepth 20000 in
theorem gL_law_X7_set : GoodIn wsL_law (wsV RL 21 RX7 yX7_set wsX7_set) := goodIn_app (goodIn_of _ (by decide +kernel)) ggL_law_X7_set
set_option maxRecDepth 20000 in
theorem ggL_law_X6_lay : GoodIn wsL_law wsX6_lay := goodIn_r _ [212, 15, 19, 135, 153, 154, 155, 14, 156, 46, 213, 214, 215, 18, 216, 55, 217, 218, 219, 220, 221, 222, 223, 224, 70, 164, 165, 166, 167, 61, 62, 225, 226, 227, 228, 229, 230, 231, 232, 233, 234, 235, 71, 236, 161, 162, 163, 237, 2, 238, 239, 173, 174, 175, 50, 49, 44, 47, 240, 177, 178, 179, 172, 241, 242, 243, 244, 69, 245, 246, 247, 248, 64, 249, 72, 73, 74, 75, 250, 251, 252, 253, 254, 255, 256, 257, 258, 259, 260, 261, 262, 263, 652, 653, 654, 655, 656, 657, 658, 694, 695, 696, 697, 698, 699, 700, 701, 702, 688, 689, 690, 691, 692, 693] (by decide +kernel) (by decide +kernel)
set_option maxRecDepth 20000 in
theorem gL_law_X6_lay : GoodIn wsL_law (wsV RL 22 RX6 yX6_lay wsX6_lay) := goodIn_app (goodIn_of _ (by decide +kernel)) ggL_law_X6_lay
set_option maxRecDepth 20000 in
theorem ggL_law_X7_lay : GoodIn wsL_law wsX7_lay := goodIn_r _ [267, 130, 108, 268, 269, 270, 185, 186, 187, 5, 188, 189, 190, 191, 192, 102, 103, 143, 144, 145, 271, 272, 273, 274, 106, 107, 275, 276, 277, 278, 104, 184, 279, 280, 281, 193, 194, 195, 196, 197, 198, 199, 200, 205, 206, 207, 208, 282, 283, 284, 201, 202, 203, 204, 285, 286, 287, 288, 129, 289, 290, 291, 292, 293, 294, 295, 105, 109, 110, 659, 660, 661, 662, 663, 664, 665, 666, 667, 668, 669, 670, 671, 672, 673, 674, 675, 676, 677, 678, 679, 680, 681, 682, 683, 684, 685, 686, 687] (by decide +kernel) (by decide +kernel)
set_option maxRecDepth 20000 in
theorem gL_law_X7_lay : GoodIn wsL_law (wsV RL 26 RX7 yX7_lay wsX7_lay) := goodIn_app (goodIn_of _ (by decide +kernel)) ggL_law_X7_lay
