set_option maxRecDepth 20000 in
theorem ggL_law_X6_points : GoodIn wsL_law wsX6_points := goodIn_r _ [599, 19, 15, 157, 158, 2, 159, 160, 161, 162, 18, 163, 70, 164, 165, 166, 167, 61, 62, 600, 237, 238, 601, 602, 603, 14, 604, 47, 48, 46, 605, 372, 373, 374, 172, 173, 174, 175, 50, 49, 44, 176, 177, 178, 179, 358, 258, 259, 260, 261, 262, 263, 606, 607, 608, 609, 610, 254, 255, 256, 218, 257, 652, 653, 654, 655, 656, 657, 658, 694, 695, 696, 697, 698, 699, 700, 701, 702, 688, 689, 690, 691, 692, 693] (by decide +kernel) (by decide +kernel)
set_option maxRecDepth 20000 in
theorem gL_law_X6_points : GoodIn wsL_law (wsV RL 77 RX6 yX6_points wsX6_points) := goodIn_app (goodIn_of _ (by decide +kernel)) ggL_law_X6_points
set_option maxRecDepth 20000 in
theorem ggL_law_X7_points : GoodIn wsL_law wsX7_points := goodIn_r _ [614, 143, 144, 5, 145, 615, 616, 617, 618, 106, 130, 107, 184, 110, 109, 201, 202, 203, 204, 205, 206, 207, 208, 189, 190, 191, 192, 102, 103, 193, 194, 195, 196, 197, 198, 199, 200, 104, 400, 401, 402, 403, 289, 290, 291, 282, 283, 284, 659, 660, 661, 662, 663, 664, 665, 666, 667, 668, 669, 670, 671, 672, 673, 674, 675, 676, 677, 678, 679, 680, 681, 682, 683, 684, 685, 686, 687] (by decide +kernel) (by decide +kernel)
set_option maxRecDepth 20000 in
theorem gL_law_X7_points : GoodIn wsL_law (wsV RL 80 RX7 yX7_points wsX7_points) := goodIn_app (goodIn_of _ (by decide +kernel)) ggL_law_X7_points
set_option maxRecDepth 20000 in
theorem ggL_law_X6_count : GoodIn wsL_law wsX6_count := goodIn_r _ [622, 19, 135, 15, 623, 624, 152, 252, 229, 230, 18, 231, 70, 232, 233, 234, 235, 71, 160, 161, 162, 163, 164, 165, 166, 167, 61, 62, 358, 258, 259, 260, 261, 262, 263, 606, 607, 608, 609, 610, 254, 255, 256, 218, 257, 301, 302, 303, 304, 55, 249, 305, 306, 307, 308, 64, 652, 653, 654, 655, 656, 657, 658, 694, 695, 696, 697, 698, 699, 700, 701, 702, 688, 689, 690, 691, 692, 693] (by decide +kernel) (by decide +kernel)
set_option maxRecDepth 20000 in
theorem gL_law_X6_count : GoodIn wsL_law (wsV RL 81 RX6 yX6_count wsX6_count) := goodIn_app (goodIn_of _ (by decide +kernel)) ggL_law_X6_count
set_option maxRecDepth 20000 in
theorem ggL_law_X7_count : GoodIn wsL_law wsX7_count := goodIn_r _ [628, 130, 108, 106, 107, 109, 110, 102, 103, 129, 282, 283, 5, 284, 313, 314, 315, 316, 105, 189, 190, 191, 192, 659, 660, 661, 662, 663, 664, 665, 666, 667, 668, 669, 670, 671, 672, 673, 674, 675, 676, 677, 678, 679, 680, 681, 682, 683, 684, 685, 686, 687] (by decide +kernel) (by decide +kernel)
set_option maxRecDepth 20000 in
theorem gL_law_X7_count : GoodIn wsL_law (wsV RL 84 RX7 yX7_count wsX7_count) := goodIn_app (goodIn_of _ (by decide +kernel)) ggL_law_X7_count
set_option maxRecDepth 20000 in
theorem ggL_law_X6_act : GoodIn wsL_law wsX6_act := goodIn_r _ [632, 19, 633, 306, 307, 18, 308, 70, 64, 652, 653, 654, 655, 656, 657, 658, 694, 695, 696, 697, 698, 699, 700, 701, 702] (by decide +kernel) (by decide +kernel)
set_option maxRecDepth 20000 in
theorem gL_law_X6_act : GoodIn wsL_law (wsV RL 85 RX6 yX6_act wsX6_act) := goodIn_app (goodIn_of _ (by decide +kernel)) ggL_law_X6_act
set_option maxRecDepth 20000 in
theorem ggL_law_X7_act : GoodIn wsL_law wsX7_act := goodIn_r _ [637, 130, 105, 143, 144, 5, 145, 659, 660, 661, 662, 663, 664, 665, 666, 667, 668, 669, 670, 671, 672, 673, 674, 675, 676, 677, 678, 679, 680, 681, 682, 683, 684, 685, 686, 687] (by decide +kernel) (by decide +kernel)
set_option maxRecDepth 20000 in
theorem gL_law_X7_act : GoodIn wsL_law (wsV RL 88 RX7 yX7_act wsX7_act) := goodIn_app (goodIn_of _ (by decide +kernel)) ggL_law_X7_act
set_option maxRecDepth 20000 in
theorem ggL_law_X6_digest : GoodIn wsL_law wsX6_digest := goodIn_r _ [641, 642, 643, 15, 300, 19, 135, 644, 620, 621, 2, 622, 623, 624, 152, 252, 229, 230, 18, 231, 70, 232, 233, 234, 235, 71, 160, 161, 162, 163, 164, 165, 166, 167, 61, 62, 358, 258, 259, 260, 261, 262, 263, 606, 607, 608, 609, 610, 254, 255, 256, 218, 257, 301, 302, 303, 304, 55, 249, 305, 306, 307, 308, 64, 341, 342, 343, 344, 236, 225, 226, 14, 227, 633, 652, 653, 654, 655, 656, 657, 658, 688, 689, 690, 691, 692, 693, 694, 695, 696, 697, 698, 699, 700, 701, 702] (by decide +kernel) (by decide +kernel)
set_option maxRecDepth 20000 in
theorem gL_law_X6_digest : GoodIn wsL_law (wsV RL 89 RX6 yX6_digest wsX6_digest) := goodIn_app (goodIn_of _ (by decide +kernel)) ggL_law_X6_digest
set_option maxRecDepth 20000 in
theorem ggL_law_X7_digest : GoodIn wsL_law wsX7_digest := goodIn_r _ [648, 649, 650, 130, 105, 651, 626, 627, 5, 628, 108, 106, 107, 109, 110, 102, 103, 129, 282, 283, 284, 313, 314, 315, 316, 189, 190, 191, 192, 349, 350, 351, 352, 659, 660, 661, 662, 663, 664, 665, 666, 667, 668, 669, 670, 671, 672, 673, 674, 675, 676, 677, 678, 679, 680, 681, 682, 683, 684, 685, 686, 687] (by decide +kernel) (by decide +kernel)
set_option maxRecDepth 20000 in
theorem gL_law_X7_digest : GoodIn wsL_law (wsV RL 93 RX7 yX7_digest wsX7_digest) := goodIn_app (goodIn_of _ (by decide +kernel)) ggL_law_X7_digest
