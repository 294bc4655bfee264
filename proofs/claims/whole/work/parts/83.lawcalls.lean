set_option maxRecDepth 20000 in
theorem ggL_law_X6_group : GoodIn wsL_law wsX6_group := goodIn_r _ [356, 15, 19, 23, 151, 150, 153, 154, 155, 14, 156, 46, 341, 342, 343, 18, 344, 236, 161, 162, 163, 70, 164, 165, 166, 167, 61, 62, 225, 226, 227, 160, 357, 177, 178, 179, 172, 173, 174, 175, 50, 49, 44, 47, 358, 258, 259, 260, 261, 262, 263, 359, 360, 222, 223, 224, 55, 217, 218, 361, 362, 363, 364, 365, 366, 367, 368, 22, 369, 80, 370, 371, 372, 373, 374, 176, 375, 376, 377, 378, 379, 380, 381, 382, 383, 384, 385, 386, 387, 388, 389, 390, 391, 652, 653, 654, 655, 656, 657, 658, 688, 689, 690, 691, 692, 693, 694, 695, 696, 697, 698, 699, 700, 701, 702, 703] (by decide +kernel) (by decide +kernel)
set_option maxRecDepth 20000 in
theorem gL_law_X6_group : GoodIn wsL_law (wsV RL 44 RX6 yX6_group wsX6_group) := goodIn_app (goodIn_of _ (by decide +kernel)) ggL_law_X6_group
set_option maxRecDepth 20000 in
theorem ggL_law_X7_group : GoodIn wsL_law wsX7_group := goodIn_r _ [395, 185, 186, 187, 5, 188, 189, 190, 191, 192, 102, 103, 143, 144, 145, 349, 350, 351, 352, 106, 130, 107, 396, 397, 398, 399, 400, 401, 402, 403, 193, 194, 195, 196, 197, 198, 199, 200, 104, 282, 283, 284, 404, 405, 406, 407, 201, 202, 203, 204, 184, 205, 206, 207, 208, 279, 280, 281, 408, 409, 410, 411, 412, 413, 414, 415, 416, 417, 418, 419, 659, 660, 661, 662, 663, 664, 665, 666, 667, 668, 669, 670, 671, 672, 673, 674, 675, 676, 677, 678, 679, 680, 681, 682, 683, 684, 685, 686, 687] (by decide +kernel) (by decide +kernel)
set_option maxRecDepth 20000 in
theorem gL_law_X7_group : GoodIn wsL_law (wsV RL 48 RX7 yX7_group wsX7_group) := goodIn_app (goodIn_of _ (by decide +kernel)) ggL_law_X7_group
set_option maxRecDepth 20000 in
theorem ggL_law_X6_breath : GoodIn wsL_law wsX6_breath := goodIn_r _ [423, 15, 19, 153, 154, 155, 14, 156, 46, 341, 342, 343, 18, 344, 236, 161, 162, 163, 70, 164, 165, 166, 167, 61, 62, 225, 226, 227, 160, 357, 177, 178, 179, 172, 173, 174, 175, 50, 49, 44, 47, 359, 360, 222, 223, 224, 55, 217, 218, 361, 362, 363, 364, 365, 652, 653, 654, 655, 656, 657, 658, 688, 689, 690, 691, 692, 693, 694, 695, 696, 697, 698, 699, 700, 701, 702] (by decide +kernel) (by decide +kernel)
set_option maxRecDepth 20000 in
theorem gL_law_X6_breath : GoodIn wsL_law (wsV RL 49 RX6 yX6_breath wsX6_breath) := goodIn_app (goodIn_of _ (by decide +kernel)) ggL_law_X6_breath
set_option maxRecDepth 20000 in
theorem ggL_law_X7_breath : GoodIn wsL_law wsX7_breath := goodIn_r _ [427, 185, 186, 187, 5, 188, 189, 190, 191, 192, 102, 103, 143, 144, 145, 349, 350, 351, 352, 106, 130, 107, 396, 397, 398, 399, 400, 401, 402, 403, 193, 194, 195, 196, 197, 198, 199, 200, 104, 404, 405, 406, 407, 201, 202, 203, 204, 184, 205, 206, 207, 208, 282, 283, 284, 279, 280, 281, 659, 660, 661, 662, 663, 664, 665, 666, 667, 668, 669, 670, 671, 672, 673, 674, 675, 676, 677, 678, 679, 680, 681, 682, 683, 684, 685, 686, 687] (by decide +kernel) (by decide +kernel)
set_option maxRecDepth 20000 in
theorem gL_law_X7_breath : GoodIn wsL_law (wsV RL 52 RX7 yX7_breath wsX7_breath) := goodIn_app (goodIn_of _ (by decide +kernel)) ggL_law_X7_breath
set_option maxRecDepth 20000 in
theorem ggL_law_X6_region : GoodIn wsL_law wsX6_region := goodIn_r _ [431, 15, 19, 151, 150, 23, 157, 158, 2, 159, 153, 154, 155, 14, 156, 46, 341, 342, 343, 18, 344, 236, 161, 162, 163, 70, 164, 165, 166, 167, 61, 62, 225, 226, 227, 160, 357, 177, 178, 179, 172, 173, 174, 175, 50, 49, 44, 47, 358, 258, 259, 260, 261, 262, 263, 360, 222, 223, 224, 55, 217, 218, 432, 433, 434, 22, 435, 80, 370, 380, 371, 372, 373, 374, 176, 436, 437, 438, 439, 375, 376, 377, 378, 379, 361, 362, 363, 364, 365, 652, 653, 654, 655, 656, 657, 658, 688, 689, 690, 691, 692, 693, 694, 695, 696, 697, 698, 699, 700, 701, 702, 703] (by decide +kernel) (by decide +kernel)
set_option maxRecDepth 20000 in
theorem gL_law_X6_region : GoodIn wsL_law (wsV RL 53 RX6 yX6_region wsX6_region) := goodIn_app (goodIn_of _ (by decide +kernel)) ggL_law_X6_region
set_option maxRecDepth 20000 in
theorem ggL_law_X7_region : GoodIn wsL_law wsX7_region := goodIn_r _ [443, 184, 106, 130, 107, 143, 144, 5, 145, 185, 186, 187, 188, 189, 190, 191, 192, 102, 103, 349, 350, 351, 352, 205, 206, 207, 208, 400, 401, 402, 403, 193, 194, 195, 196, 197, 198, 199, 200, 104, 201, 202, 203, 204, 282, 283, 284, 279, 280, 281, 412, 413, 414, 415, 404, 405, 406, 407, 659, 660, 661, 662, 663, 664, 665, 666, 667, 668, 669, 670, 671, 672, 673, 674, 675, 676, 677, 678, 679, 680, 681, 682, 683, 684, 685, 686, 687] (by decide +kernel) (by decide +kernel)
set_option maxRecDepth 20000 in
theorem gL_law_X7_region : GoodIn wsL_law (wsV RL 56 RX7 yX7_region wsX7_region) := goodIn_app (goodIn_of _ (by decide +kernel)) ggL_law_X7_region
set_option maxRecDepth 20000 in
theorem ggL_law_X6_standing : GoodIn wsL_law wsX6_standing := goodIn_r _ [447, 23, 19, 157, 158, 2, 159, 160, 161, 162, 18, 163, 70, 164, 165, 166, 167, 61, 62, 360, 222, 223, 224, 55, 217, 218, 381, 382, 383, 22, 384, 80, 385, 379, 386, 387, 388, 389, 370, 371, 372, 373, 14, 374, 172, 173, 174, 175, 50, 49, 44, 47, 176, 177, 178, 179, 390, 367, 368, 369, 375, 376, 377, 378, 380, 391, 358, 258, 259, 260, 261, 262, 263, 652, 653, 654, 655, 656, 657, 658, 694, 695, 696, 697, 698, 699, 700, 701, 702, 688, 689, 690, 691, 692, 693, 703] (by decide +kernel) (by decide +kernel)
set_option maxRecDepth 20000 in
theorem gL_law_X6_standing : GoodIn wsL_law (wsV RL 57 RX6 yX6_standing wsX6_standing) := goodIn_app (goodIn_of _ (by decide +kernel)) ggL_law_X6_standing
set_option maxRecDepth 20000 in
theorem ggL_law_X7_standing : GoodIn wsL_law wsX7_standing := goodIn_r _ [451, 143, 144, 5, 145, 416, 417, 418, 419, 184, 400, 401, 402, 403, 106, 130, 107, 193, 194, 195, 196, 197, 198, 199, 200, 104, 189, 190, 191, 192, 102, 103, 408, 409, 410, 411, 205, 206, 207, 208, 412, 413, 414, 415, 201, 202, 203, 204, 404, 405, 406, 407, 282, 283, 284, 659, 660, 661, 662, 663, 664, 665, 666, 667, 668, 669, 670, 671, 672, 673, 674, 675, 676, 677, 678, 679, 680, 681, 682, 683, 684, 685, 686, 687] (by decide +kernel) (by decide +kernel)
set_option maxRecDepth 20000 in
theorem gL_law_X7_standing : GoodIn wsL_law (wsV RL 60 RX7 yX7_standing wsX7_standing) := goodIn_app (goodIn_of _ (by decide +kernel)) ggL_law_X7_standing
