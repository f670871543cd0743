/-! the law: its calls' words -/
set_option maxRecDepth 20000 in
theorem ggL_law_X6_halves : GoodIn wsL_law wsX6_halves := goodIn_r _ [546, 108, 109, 2, 110, 547, 548, 549] (by decide +kernel) (by decide +kernel)
set_option maxRecDepth 20000 in
theorem gL_law_X6_halves : GoodIn wsL_law (wsV RL 96 RX6 yX6_halves wsX6_halves) := goodIn_app (goodIn_of _ (by decide +kernel)) ggL_law_X6_halves
set_option maxRecDepth 20000 in
theorem ggL_law_X7_halves : GoodIn wsL_law wsX7_halves := goodIn_r _ [553, 98, 123, 124, 5, 125, 649, 650, 651, 652, 653, 654, 655, 656, 657, 658, 659, 660, 661, 662, 663, 664, 665, 666, 667, 668] (by decide +kernel) (by decide +kernel)
set_option maxRecDepth 20000 in
theorem gL_law_X7_halves : GoodIn wsL_law (wsV RL 99 RX7 yX7_halves wsX7_halves) := goodIn_app (goodIn_of _ (by decide +kernel)) ggL_law_X7_halves
set_option maxRecDepth 20000 in
theorem ggL_law_X6_knelt : GoodIn wsL_law wsX6_knelt := goodIn_r _ [557, 558, 559, 560, 108, 109, 2, 110, 561, 562, 563, 564, 565, 566, 567, 568, 569, 570, 571, 572] (by decide +kernel) (by decide +kernel)
set_option maxRecDepth 20000 in
theorem gL_law_X6_knelt : GoodIn wsL_law (wsV RL 100 RX6 yX6_knelt wsX6_knelt) := goodIn_app (goodIn_of _ (by decide +kernel)) ggL_law_X6_knelt
set_option maxRecDepth 20000 in
theorem ggL_law_X7_knelt : GoodIn wsL_law wsX7_knelt := goodIn_r _ [576, 577, 578, 100, 123, 124, 5, 125, 579, 580, 581, 649, 650, 651, 652, 653, 654, 655, 656, 657, 658, 659, 660, 661, 662, 663, 664, 665, 666, 667, 668] (by decide +kernel) (by decide +kernel)
set_option maxRecDepth 20000 in
theorem gL_law_X7_knelt : GoodIn wsL_law (wsV RL 104 RX7 yX7_knelt wsX7_knelt) := goodIn_app (goodIn_of _ (by decide +kernel)) ggL_law_X7_knelt
set_option maxRecDepth 20000 in
theorem ggL_law_X6_year : GoodIn wsL_law wsX6_year := goodIn_r _ [585, 27, 15, 372, 155, 108, 109, 2, 110, 586, 587, 588, 26, 589, 61, 590, 70, 238, 239, 240, 14, 241, 36, 37, 38, 39, 40, 42, 242, 243, 244, 245, 43, 44, 591, 592, 593, 69, 594, 595, 596, 597, 257, 258, 259, 260, 261, 262, 263, 264, 265, 266, 267, 268, 269, 270, 271, 272, 273, 274, 275, 166, 167, 276, 277, 278, 279, 280, 281, 282, 283, 284, 285, 286, 287, 288, 289, 290, 291, 292, 293, 294, 295, 296, 297, 298, 299, 300, 301, 302, 303, 111, 112, 113, 114, 598, 599, 600, 601, 602, 603, 604, 115, 116, 117, 118, 644, 645, 646, 647, 648, 682, 683, 684, 685, 686, 687, 688, 669, 670, 671, 672, 673, 674, 675, 676, 692, 693, 694] (by decide +kernel) (by decide +kernel)
set_option maxRecDepth 20000 in
theorem gL_law_X6_year : GoodIn wsL_law (wsV RL 105 RX6 yX6_year wsX6_year) := goodIn_app (goodIn_of _ (by decide +kernel)) ggL_law_X6_year
set_option maxRecDepth 20000 in
theorem ggL_law_X7_year : GoodIn wsL_law wsX7_year := goodIn_r _ [608, 609, 322, 89, 123, 124, 5, 125, 126, 127, 128, 129, 88, 130, 131, 340, 341, 342, 343, 90, 344, 345, 346, 347, 91, 348, 349, 350, 351, 352, 353, 354, 355, 356, 357, 358, 359, 360, 361, 362, 363, 332, 333, 334, 335, 328, 329, 330, 331, 132, 133, 134, 135, 610, 611, 612, 136, 137, 138, 139, 649, 650, 651, 652, 653, 654, 655, 656, 657, 658, 659, 660, 661, 662, 663, 664, 665, 666, 667, 668] (by decide +kernel) (by decide +kernel)
set_option maxRecDepth 20000 in
theorem gL_law_X7_year : GoodIn wsL_law (wsV RL 108 RX7 yX7_year wsX7_year) := goodIn_app (goodIn_of _ (by decide +kernel)) ggL_law_X7_year
set_option maxRecDepth 20000 in
theorem ggL_law_X6_image : GoodIn wsL_law wsX6_image := goodIn_r _ [616, 29, 617, 15, 618, 19, 619, 108, 109, 2, 110, 378, 239, 240, 14, 241, 36, 37, 38, 39, 40, 42, 242, 243, 244, 245, 43, 44, 620, 621, 622, 18, 623, 48, 49, 51, 644, 645, 646, 647, 648, 689, 690, 691, 669, 670, 671, 672, 673, 674, 675, 676, 677, 678, 679] (by decide +kernel) (by decide +kernel)
set_option maxRecDepth 20000 in
theorem gL_law_X6_image : GoodIn wsL_law (wsV RL 109 RX6 yX6_image wsX6_image) := goodIn_app (goodIn_of _ (by decide +kernel)) ggL_law_X6_image
set_option maxRecDepth 20000 in
theorem ggL_law_X7_image : GoodIn wsL_law wsX7_image := goodIn_r _ [627, 101, 88, 92, 90, 91, 493, 102, 123, 124, 5, 125, 649, 650, 651, 652, 653, 654, 655, 656, 657, 658, 659, 660, 661, 662, 663, 664, 665, 666, 667, 668] (by decide +kernel) (by decide +kernel)
set_option maxRecDepth 20000 in
theorem gL_law_X7_image : GoodIn wsL_law (wsV RL 112 RX7 yX7_image wsX7_image) := goodIn_app (goodIn_of _ (by decide +kernel)) ggL_law_X7_image
