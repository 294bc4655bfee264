set_option maxRecDepth 20000 in
theorem ggL_law_X6_chase : GoodIn wsL_law wsX6_chase := goodIn_r _ [455, 15, 19, 31, 153, 154, 155, 14, 156, 46, 341, 342, 343, 18, 344, 236, 161, 162, 163, 70, 164, 165, 166, 167, 61, 62, 225, 226, 227, 456, 457, 458, 30, 459, 460, 461, 90, 462, 89, 463, 464, 237, 2, 238, 465, 66, 67, 68, 69, 71, 72, 73, 74, 75, 466, 467, 468, 469, 88, 470, 471, 472, 473, 474, 475, 177, 178, 179, 172, 173, 174, 175, 50, 49, 44, 47, 476, 477, 222, 223, 224, 55, 217, 218, 478, 258, 259, 260, 261, 262, 263, 479, 480, 246, 247, 248, 64, 249, 219, 220, 250, 251, 214, 215, 216, 221, 228, 229, 230, 231, 232, 233, 234, 235, 239, 240, 241, 242, 243, 244, 481, 482, 483, 26, 484, 485, 486, 487, 488, 489, 330, 331, 332, 56, 57, 58, 59, 490, 491, 492, 493, 494, 495, 496, 372, 373, 374, 176, 497, 362, 363, 364, 365, 652, 653, 654, 655, 656, 657, 658, 688, 689, 690, 691, 692, 693, 694, 695, 696, 697, 698, 699, 700, 701, 702, 705, 706, 707, 708, 709, 704] (by decide +kernel) (by decide +kernel)
set_option maxRecDepth 20000 in
theorem gL_law_X6_chase : GoodIn wsL_law (wsV RL 61 RX6 yX6_chase wsX6_chase) := goodIn_app (goodIn_of _ (by decide +kernel)) ggL_law_X6_chase
set_option maxRecDepth 20000 in
theorem ggL_law_X7_chase : GoodIn wsL_law wsX7_chase := goodIn_r _ [501, 502, 503, 185, 186, 187, 5, 188, 189, 190, 191, 192, 102, 103, 143, 144, 145, 349, 350, 351, 352, 106, 130, 107, 504, 505, 506, 507, 116, 117, 122, 113, 118, 114, 119, 269, 270, 184, 508, 509, 510, 511, 111, 112, 512, 513, 514, 515, 193, 194, 195, 196, 197, 198, 199, 200, 104, 201, 202, 203, 204, 205, 206, 207, 208, 282, 283, 284, 279, 280, 281, 516, 517, 518, 519, 289, 290, 291, 275, 276, 277, 278, 268, 520, 521, 522, 523, 524, 525, 526, 527, 528, 529, 530, 531, 121, 120, 532, 533, 534, 535, 536, 537, 538, 539, 659, 660, 661, 662, 663, 664, 665, 666, 667, 668, 669, 670, 671, 672, 673, 674, 675, 676, 677, 678, 679, 680, 681, 682, 683, 684, 685, 686, 687] (by decide +kernel) (by decide +kernel)
set_option maxRecDepth 20000 in
theorem gL_law_X7_chase : GoodIn wsL_law (wsV RL 64 RX7 yX7_chase wsX7_chase) := goodIn_app (goodIn_of _ (by decide +kernel)) ggL_law_X7_chase
set_option maxRecDepth 20000 in
theorem ggL_law_X6_fight : GoodIn wsL_law wsX6_fight := goodIn_r _ [543, 15, 19, 35, 544, 36, 153, 154, 155, 14, 156, 46, 341, 342, 343, 18, 344, 236, 161, 162, 163, 70, 164, 165, 166, 167, 61, 62, 225, 226, 227, 545, 546, 547, 34, 548, 549, 96, 550, 551, 97, 552, 553, 554, 555, 556, 557, 95, 558, 559, 229, 230, 231, 232, 233, 234, 235, 71, 560, 246, 247, 248, 64, 55, 249, 219, 220, 72, 73, 74, 75, 250, 251, 214, 215, 216, 217, 218, 221, 222, 223, 224, 228, 237, 2, 238, 239, 173, 174, 175, 50, 49, 44, 47, 240, 177, 178, 179, 172, 241, 242, 243, 244, 69, 561, 482, 483, 26, 484, 485, 562, 563, 564, 565, 330, 331, 332, 56, 57, 58, 59, 566, 252, 652, 653, 654, 655, 656, 657, 658, 710, 711, 712, 713, 714, 715, 688, 689, 690, 691, 692, 693, 694, 695, 696, 697, 698, 699, 700, 701, 702, 704] (by decide +kernel) (by decide +kernel)
set_option maxRecDepth 20000 in
theorem gL_law_X6_fight : GoodIn wsL_law (wsV RL 65 RX6 yX6_fight wsX6_fight) := goodIn_app (goodIn_of _ (by decide +kernel)) ggL_law_X6_fight
set_option maxRecDepth 20000 in
theorem ggL_law_X7_fight : GoodIn wsL_law wsX7_fight := goodIn_r _ [570, 502, 503, 108, 130, 124, 123, 185, 186, 187, 5, 188, 189, 190, 191, 192, 102, 103, 143, 144, 145, 349, 350, 351, 352, 106, 107, 571, 572, 573, 574, 269, 270, 271, 272, 273, 274, 275, 276, 277, 278, 104, 184, 268, 279, 280, 281, 193, 194, 195, 196, 197, 198, 199, 200, 205, 206, 207, 208, 282, 283, 284, 201, 202, 203, 204, 285, 286, 287, 288, 129, 289, 290, 291, 524, 525, 526, 527, 575, 576, 577, 578, 659, 660, 661, 662, 663, 664, 665, 666, 667, 668, 669, 670, 671, 672, 673, 674, 675, 676, 677, 678, 679, 680, 681, 682, 683, 684, 685, 686, 687] (by decide +kernel) (by decide +kernel)
set_option maxRecDepth 20000 in
theorem gL_law_X7_fight : GoodIn wsL_law (wsV RL 68 RX7 yX7_fight wsX7_fight) := goodIn_app (goodIn_of _ (by decide +kernel)) ggL_law_X7_fight
set_option maxRecDepth 20000 in
theorem ggL_law_X6_tries : GoodIn wsL_law wsX6_tries := goodIn_r _ [582, 27, 583, 652, 653, 654, 655, 656, 657, 658, 704] (by decide +kernel) (by decide +kernel)
set_option maxRecDepth 20000 in
theorem gL_law_X6_tries : GoodIn wsL_law (wsV RL 69 RX6 yX6_tries wsX6_tries) := goodIn_app (goodIn_of _ (by decide +kernel)) ggL_law_X6_tries
set_option maxRecDepth 20000 in
theorem ggL_law_X7_tries : GoodIn wsL_law wsX7_tries := goodIn_r _ [587, 502, 659, 660, 661, 662, 663, 664, 665, 666, 667, 668, 669, 670, 671, 672, 673, 674, 675, 676, 677, 678, 679, 680, 681, 682, 683, 684, 685, 686, 687] (by decide +kernel) (by decide +kernel)
set_option maxRecDepth 20000 in
theorem gL_law_X7_tries : GoodIn wsL_law (wsV RL 72 RX7 yX7_tries wsX7_tries) := goodIn_app (goodIn_of _ (by decide +kernel)) ggL_law_X7_tries
set_option maxRecDepth 20000 in
theorem ggL_law_X6_first : GoodIn wsL_law wsX6_first := goodIn_r _ [591, 36, 652, 653, 654, 655, 656, 657, 658] (by decide +kernel) (by decide +kernel)
set_option maxRecDepth 20000 in
theorem gL_law_X6_first : GoodIn wsL_law (wsV RL 73 RX6 yX6_first wsX6_first) := goodIn_app (goodIn_of _ (by decide +kernel)) ggL_law_X6_first
set_option maxRecDepth 20000 in
theorem ggL_law_X7_first : GoodIn wsL_law wsX7_first := goodIn_r _ [595, 123, 659, 660, 661, 662, 663, 664, 665, 666, 667, 668, 669, 670, 671, 672, 673, 674, 675, 676, 677, 678, 679, 680, 681, 682, 683, 684, 685, 686, 687] (by decide +kernel) (by decide +kernel)
set_option maxRecDepth 20000 in
theorem gL_law_X7_first : GoodIn wsL_law (wsV RL 76 RX7 yX7_first wsX7_first) := goodIn_app (goodIn_of _ (by decide +kernel)) ggL_law_X7_first
