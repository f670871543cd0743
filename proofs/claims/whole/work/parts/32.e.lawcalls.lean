/-! the law: its calls' words -/
set_option maxRecDepth 20000 in
theorem ggL_law_X6_then : GoodIn wsL_law wsX6_then := goodIn_r _ [408, 27, 372, 153, 154, 155, 409, 410, 108, 109, 2, 110, 374, 375, 376, 377, 23, 15, 231, 198, 199, 200, 22, 201, 55, 202, 203, 204, 205, 206, 207, 208, 209, 56, 210, 211, 212, 213, 214, 215, 233, 234, 235, 26, 236, 61, 62, 63, 64, 65, 66, 237, 70, 238, 239, 240, 14, 241, 36, 37, 38, 39, 40, 42, 242, 243, 244, 245, 43, 44, 246, 247, 248, 249, 250, 251, 252, 253, 254, 255, 256, 257, 258, 259, 260, 261, 262, 263, 264, 265, 266, 267, 268, 269, 270, 271, 272, 273, 274, 275, 166, 167, 276, 277, 278, 279, 280, 281, 282, 283, 284, 285, 286, 287, 288, 289, 290, 291, 292, 293, 294, 295, 296, 297, 298, 299, 300, 301, 302, 303, 304, 305, 306, 307, 308, 309, 310, 311, 312, 313, 314, 315, 316, 317, 411, 412, 413, 414, 111, 112, 113, 114, 115, 116, 117, 118, 644, 645, 646, 647, 648, 682, 683, 684, 685, 686, 687, 688, 669, 670, 671, 672, 673, 674, 675, 676, 680, 681, 692, 693, 694] (by decide +kernel) (by decide +kernel)
set_option maxRecDepth 20000 in
theorem gL_law_X6_then : GoodIn wsL_law (wsV RL 61 RX6 yX6_then wsX6_then) := goodIn_app (goodIn_of _ (by decide +kernel)) ggL_law_X6_then
set_option maxRecDepth 20000 in
theorem ggL_law_X7_then : GoodIn wsL_law wsX7_then := goodIn_r _ [418, 89, 90, 130, 131, 123, 124, 5, 125, 383, 384, 385, 386, 220, 221, 222, 223, 185, 93, 224, 225, 226, 323, 324, 325, 326, 327, 94, 322, 126, 127, 128, 129, 88, 328, 329, 330, 331, 91, 332, 333, 334, 335, 336, 337, 338, 339, 340, 341, 342, 343, 344, 345, 346, 347, 348, 349, 350, 351, 352, 353, 354, 355, 356, 357, 358, 359, 360, 361, 362, 363, 364, 365, 366, 367, 132, 133, 134, 135, 136, 137, 138, 139, 649, 650, 651, 652, 653, 654, 655, 656, 657, 658, 659, 660, 661, 662, 663, 664, 665, 666, 667, 668] (by decide +kernel) (by decide +kernel)
set_option maxRecDepth 20000 in
theorem gL_law_X7_then : GoodIn wsL_law (wsV RL 64 RX7 yX7_then wsX7_then) := goodIn_app (goodIn_of _ (by decide +kernel)) ggL_law_X7_then
set_option maxRecDepth 20000 in
theorem ggL_law_X6_agree : GoodIn wsL_law wsX6_agree := goodIn_r _ [422, 108, 109, 2, 110] (by decide +kernel) (by decide +kernel)
set_option maxRecDepth 20000 in
theorem gL_law_X6_agree : GoodIn wsL_law (wsV RL 65 RX6 yX6_agree wsX6_agree) := goodIn_app (goodIn_of _ (by decide +kernel)) ggL_law_X6_agree
set_option maxRecDepth 20000 in
theorem ggL_law_X7_agree : GoodIn wsL_law wsX7_agree := goodIn_r _ [426, 123, 124, 5, 125] (by decide +kernel) (by decide +kernel)
set_option maxRecDepth 20000 in
theorem gL_law_X7_agree : GoodIn wsL_law (wsV RL 69 RX7 yX7_agree wsX7_agree) := goodIn_app (goodIn_of _ (by decide +kernel)) ggL_law_X7_agree
set_option maxRecDepth 20000 in
theorem ggL_law_X6_style : GoodIn wsL_law wsX6_style := goodIn_r _ [430, 431, 432, 2, 433, 108, 109, 110, 434, 435, 436, 437, 438, 439, 440, 441, 442, 443, 444, 445, 446, 447, 448, 449, 450, 451, 452] (by decide +kernel) (by decide +kernel)
set_option maxRecDepth 20000 in
theorem gL_law_X6_style : GoodIn wsL_law (wsV RL 70 RX6 yX6_style wsX6_style) := goodIn_app (goodIn_of _ (by decide +kernel)) ggL_law_X6_style
set_option maxRecDepth 20000 in
theorem ggL_law_X7_style : GoodIn wsL_law wsX7_style := goodIn_r _ [456, 123, 124, 5, 125, 457, 458, 459, 460, 461, 462] (by decide +kernel) (by decide +kernel)
set_option maxRecDepth 20000 in
theorem gL_law_X7_style : GoodIn wsL_law (wsV RL 73 RX7 yX7_style wsX7_style) := goodIn_app (goodIn_of _ (by decide +kernel)) ggL_law_X7_style
set_option maxRecDepth 20000 in
theorem ggL_law_X6_pack : GoodIn wsL_law wsX6_pack := goodIn_r _ [466, 108, 109, 2, 110, 467, 468, 469, 470, 471, 472] (by decide +kernel) (by decide +kernel)
set_option maxRecDepth 20000 in
theorem gL_law_X6_pack : GoodIn wsL_law (wsV RL 74 RX6 yX6_pack wsX6_pack) := goodIn_app (goodIn_of _ (by decide +kernel)) ggL_law_X6_pack
set_option maxRecDepth 20000 in
theorem ggL_law_X7_pack : GoodIn wsL_law wsX7_pack := goodIn_r _ [476, 95, 96, 123, 124, 5, 125, 477, 478, 479, 649, 650, 651, 652, 653, 654, 655, 656, 657, 658, 659, 660, 661, 662, 663, 664, 665, 666, 667, 668] (by decide +kernel) (by decide +kernel)
set_option maxRecDepth 20000 in
theorem gL_law_X7_pack : GoodIn wsL_law (wsV RL 78 RX7 yX7_pack wsX7_pack) := goodIn_app (goodIn_of _ (by decide +kernel)) ggL_law_X7_pack
