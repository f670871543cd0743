/-! the law: its calls' words -/
set_option maxRecDepth 20000 in
theorem ggL_law_X6_init : GoodIn wsL_law wsX6_init := goodIn_r _ [8, 9, 10, 11, 12, 13, 14, 15, 16, 17, 18, 19, 20, 21, 22, 23, 24, 25, 26, 27, 28, 29, 30, 31, 32, 33, 34, 35, 36, 37, 38, 39, 40, 41, 42, 43, 44, 45, 46, 47, 48, 49, 50, 51, 52, 53, 54, 55, 56, 57, 58, 59, 60, 61, 62, 63, 64, 65, 66, 67, 68, 69, 70, 71, 72, 73, 74, 75, 76, 77, 78, 79, 80, 81, 82, 83, 669, 670, 671, 672, 673, 674, 675, 676, 644, 645, 646, 647, 648, 677, 678, 679, 680, 681, 682, 683, 684, 685, 686, 687, 688, 689, 690, 691, 692, 693, 694] (by decide +kernel) (by decide +kernel)
set_option maxRecDepth 20000 in
theorem gL_law_X6_init : GoodIn wsL_law (wsX6_init) := ggL_law_X6_init
set_option maxRecDepth 20000 in
theorem ggL_law_X7_init : GoodIn wsL_law wsX7_init := goodIn_r _ [86, 87, 10, 11, 41, 88, 89, 90, 91, 92, 93, 94, 95, 96, 97, 50, 98, 99, 100, 101, 102, 649, 650, 651, 652, 653, 654, 655, 656, 657, 658, 659, 660, 661, 662, 663, 664, 665, 666, 667, 668] (by decide +kernel) (by decide +kernel)
set_option maxRecDepth 20000 in
theorem gL_law_X7_init : GoodIn wsL_law (wsX7_init) := ggL_law_X7_init
set_option maxRecDepth 20000 in
theorem ggL_law_X6_shift : GoodIn wsL_law wsX6_shift := goodIn_r _ [106, 15, 107, 108, 109, 2, 110, 111, 112, 113, 14, 114, 42, 115, 116, 117, 118, 44, 644, 645, 646, 647, 648, 669, 670, 671, 672, 673, 674, 675, 676] (by decide +kernel) (by decide +kernel)
set_option maxRecDepth 20000 in
theorem gL_law_X6_shift : GoodIn wsL_law (wsV RL 13 RX6 yX6_shift wsX6_shift) := goodIn_app (goodIn_of _ (by decide +kernel)) ggL_law_X6_shift
set_option maxRecDepth 20000 in
theorem ggL_law_X7_shift : GoodIn wsL_law wsX7_shift := goodIn_r _ [122, 90, 123, 124, 5, 125, 126, 127, 128, 129, 89, 88, 130, 131, 132, 133, 134, 135, 136, 137, 138, 139, 649, 650, 651, 652, 653, 654, 655, 656, 657, 658, 659, 660, 661, 662, 663, 664, 665, 666, 667, 668] (by decide +kernel) (by decide +kernel)
set_option maxRecDepth 20000 in
theorem gL_law_X7_shift : GoodIn wsL_law (wsV RL 17 RX7 yX7_shift wsX7_shift) := goodIn_app (goodIn_of _ (by decide +kernel)) ggL_law_X7_shift
set_option maxRecDepth 20000 in
theorem ggL_law_X6_kneel : GoodIn wsL_law wsX6_kneel := goodIn_r _ [143, 15, 144, 108, 109, 2, 110, 644, 645, 646, 647, 648, 669, 670, 671, 672, 673, 674, 675, 676] (by decide +kernel) (by decide +kernel)
set_option maxRecDepth 20000 in
theorem gL_law_X6_kneel : GoodIn wsL_law (wsV RL 18 RX6 yX6_kneel wsX6_kneel) := goodIn_app (goodIn_of _ (by decide +kernel)) ggL_law_X6_kneel
set_option maxRecDepth 20000 in
theorem ggL_law_X7_kneel : GoodIn wsL_law wsX7_kneel := goodIn_r _ [148, 91, 123, 124, 5, 125, 649, 650, 651, 652, 653, 654, 655, 656, 657, 658, 659, 660, 661, 662, 663, 664, 665, 666, 667, 668] (by decide +kernel) (by decide +kernel)
set_option maxRecDepth 20000 in
theorem gL_law_X7_kneel : GoodIn wsL_law (wsV RL 21 RX7 yX7_kneel wsX7_kneel) := goodIn_app (goodIn_of _ (by decide +kernel)) ggL_law_X7_kneel
set_option maxRecDepth 20000 in
theorem ggL_law_X6_clock : GoodIn wsL_law wsX6_clock := goodIn_r _ [152, 15, 153, 154, 155, 108, 109, 2, 110, 644, 645, 646, 647, 648, 669, 670, 671, 672, 673, 674, 675, 676] (by decide +kernel) (by decide +kernel)
set_option maxRecDepth 20000 in
theorem gL_law_X6_clock : GoodIn wsL_law (wsV RL 22 RX6 yX6_clock wsX6_clock) := goodIn_app (goodIn_of _ (by decide +kernel)) ggL_law_X6_clock
set_option maxRecDepth 20000 in
theorem ggL_law_X7_clock : GoodIn wsL_law wsX7_clock := goodIn_r _ [159, 88, 123, 124, 5, 125, 649, 650, 651, 652, 653, 654, 655, 656, 657, 658, 659, 660, 661, 662, 663, 664, 665, 666, 667, 668] (by decide +kernel) (by decide +kernel)
set_option maxRecDepth 20000 in
theorem gL_law_X7_clock : GoodIn wsL_law (wsV RL 26 RX7 yX7_clock wsX7_clock) := goodIn_app (goodIn_of _ (by decide +kernel)) ggL_law_X7_clock
