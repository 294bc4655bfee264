set_option maxRecDepth 20000 in
theorem ggL_law_X6_pass : GoodIn wsL_law wsX6_pass := goodIn_r _ [299, 19, 135, 15, 300, 245, 246, 247, 18, 248, 70, 61, 64, 55, 249, 219, 220, 236, 161, 162, 163, 164, 165, 166, 167, 62, 72, 73, 74, 75, 250, 154, 155, 14, 156, 46, 251, 214, 215, 216, 217, 218, 221, 222, 223, 224, 225, 226, 227, 228, 229, 230, 231, 232, 233, 234, 235, 71, 237, 2, 238, 239, 173, 174, 175, 50, 49, 44, 47, 240, 177, 178, 179, 172, 241, 242, 243, 244, 69, 301, 302, 303, 304, 305, 306, 307, 308, 652, 653, 654, 655, 656, 657, 658, 694, 695, 696, 697, 698, 699, 700, 701, 702, 688, 689, 690, 691, 692, 693] (by decide +kernel) (by decide +kernel)
set_option maxRecDepth 20000 in
theorem gL_law_X6_pass : GoodIn wsL_law (wsV RL 27 RX6 yX6_pass wsX6_pass) := goodIn_app (goodIn_of _ (by decide +kernel)) ggL_law_X6_pass
set_option maxRecDepth 20000 in
theorem ggL_law_X7_pass : GoodIn wsL_law wsX7_pass := goodIn_r _ [312, 130, 106, 107, 189, 190, 191, 5, 192, 102, 103, 292, 293, 294, 295, 105, 108, 109, 268, 110, 289, 290, 291, 313, 314, 315, 316, 659, 660, 661, 662, 663, 664, 665, 666, 667, 668, 669, 670, 671, 672, 673, 674, 675, 676, 677, 678, 679, 680, 681, 682, 683, 684, 685, 686, 687] (by decide +kernel) (by decide +kernel)
set_option maxRecDepth 20000 in
theorem gL_law_X7_pass : GoodIn wsL_law (wsV RL 31 RX7 yX7_pass wsX7_pass) := goodIn_app (goodIn_of _ (by decide +kernel)) ggL_law_X7_pass
set_option maxRecDepth 20000 in
theorem ggL_law_X6_why : GoodIn wsL_law wsX6_why := goodIn_r _ [320, 15, 19, 153, 154, 155, 14, 156, 46, 213, 214, 215, 18, 216, 55, 217, 218, 219, 220, 221, 222, 223, 224, 70, 164, 165, 166, 167, 61, 62, 225, 226, 227, 228, 229, 230, 231, 232, 233, 234, 235, 71, 236, 161, 162, 163, 237, 2, 238, 239, 173, 174, 175, 50, 49, 44, 47, 240, 177, 178, 179, 172, 241, 242, 243, 244, 69, 652, 653, 654, 655, 656, 657, 658, 688, 689, 690, 691, 692, 693, 694, 695, 696, 697, 698, 699, 700, 701, 702] (by decide +kernel) (by decide +kernel)
set_option maxRecDepth 20000 in
theorem gL_law_X6_why : GoodIn wsL_law (wsV RL 32 RX6 yX6_why wsX6_why) := goodIn_app (goodIn_of _ (by decide +kernel)) ggL_law_X6_why
set_option maxRecDepth 20000 in
theorem ggL_law_X7_why : GoodIn wsL_law wsX7_why := goodIn_r _ [324, 130, 108, 185, 186, 187, 5, 188, 189, 190, 191, 192, 102, 103, 143, 144, 145, 271, 272, 273, 274, 106, 107, 275, 276, 277, 278, 104, 184, 268, 269, 270, 279, 280, 281, 193, 194, 195, 196, 197, 198, 199, 200, 205, 206, 207, 208, 282, 283, 284, 201, 202, 203, 204, 285, 286, 287, 288, 129, 289, 290, 291, 659, 660, 661, 662, 663, 664, 665, 666, 667, 668, 669, 670, 671, 672, 673, 674, 675, 676, 677, 678, 679, 680, 681, 682, 683, 684, 685, 686, 687] (by decide +kernel) (by decide +kernel)
set_option maxRecDepth 20000 in
theorem gL_law_X7_why : GoodIn wsL_law (wsV RL 35 RX7 yX7_why wsX7_why) := goodIn_app (goodIn_of _ (by decide +kernel)) ggL_law_X7_why
set_option maxRecDepth 20000 in
theorem ggL_law_X6_undo : GoodIn wsL_law wsX6_undo := goodIn_r _ [328, 19, 135, 329, 330, 331, 18, 332, 70, 56, 57, 58, 59, 652, 653, 654, 655, 656, 657, 658, 694, 695, 696, 697, 698, 699, 700, 701, 702] (by decide +kernel) (by decide +kernel)
set_option maxRecDepth 20000 in
theorem gL_law_X6_undo : GoodIn wsL_law (wsV RL 36 RX6 yX6_undo wsX6_undo) := goodIn_app (goodIn_of _ (by decide +kernel)) ggL_law_X6_undo
set_option maxRecDepth 20000 in
theorem ggL_law_X7_undo : GoodIn wsL_law wsX7_undo := goodIn_r _ [336, 130, 659, 660, 661, 662, 663, 664, 665, 666, 667, 668, 669, 670, 671, 672, 673, 674, 675, 676, 677, 678, 679, 680, 681, 682, 683, 684, 685, 686, 687] (by decide +kernel) (by decide +kernel)
set_option maxRecDepth 20000 in
theorem gL_law_X7_undo : GoodIn wsL_law (wsV RL 39 RX7 yX7_undo wsX7_undo) := goodIn_app (goodIn_of _ (by decide +kernel)) ggL_law_X7_undo
set_option maxRecDepth 20000 in
theorem ggL_law_X6_at : GoodIn wsL_law wsX6_at := goodIn_r _ [340, 15, 19, 153, 154, 155, 14, 156, 46, 341, 342, 343, 18, 344, 236, 161, 162, 163, 70, 164, 165, 166, 167, 61, 62, 225, 226, 227, 652, 653, 654, 655, 656, 657, 658, 688, 689, 690, 691, 692, 693, 694, 695, 696, 697, 698, 699, 700, 701, 702] (by decide +kernel) (by decide +kernel)
set_option maxRecDepth 20000 in
theorem gL_law_X6_at : GoodIn wsL_law (wsV RL 40 RX6 yX6_at wsX6_at) := goodIn_app (goodIn_of _ (by decide +kernel)) ggL_law_X6_at
set_option maxRecDepth 20000 in
theorem ggL_law_X7_at : GoodIn wsL_law wsX7_at := goodIn_r _ [348, 185, 186, 187, 5, 188, 189, 190, 191, 192, 102, 103, 143, 144, 145, 349, 350, 351, 352, 106, 130, 107, 659, 660, 661, 662, 663, 664, 665, 666, 667, 668, 669, 670, 671, 672, 673, 674, 675, 676, 677, 678, 679, 680, 681, 682, 683, 684, 685, 686, 687] (by decide +kernel) (by decide +kernel)
set_option maxRecDepth 20000 in
theorem gL_law_X7_at : GoodIn wsL_law (wsV RL 43 RX7 yX7_at wsX7_at) := goodIn_app (goodIn_of _ (by decide +kernel)) ggL_law_X7_at
