/-! the law: its calls' words -/
set_option maxRecDepth 20000 in
theorem ggL_law_X6_seen : GoodIn wsL_law wsX6_seen := goodIn_r _ [483, 19, 484, 108, 109, 2, 110, 485, 486, 487, 18, 488, 48, 49, 51, 644, 645, 646, 647, 648, 677, 678, 679] (by decide +kernel) (by decide +kernel)
set_option maxRecDepth 20000 in
theorem gL_law_X6_seen : GoodIn wsL_law (wsV RL 79 RX6 yX6_seen wsX6_seen) := goodIn_app (goodIn_of _ (by decide +kernel)) ggL_law_X6_seen
set_option maxRecDepth 20000 in
theorem ggL_law_X7_seen : GoodIn wsL_law wsX7_seen := goodIn_r _ [492, 493, 92, 123, 124, 5, 125, 649, 650, 651, 652, 653, 654, 655, 656, 657, 658, 659, 660, 661, 662, 663, 664, 665, 666, 667, 668] (by decide +kernel) (by decide +kernel)
set_option maxRecDepth 20000 in
theorem gL_law_X7_seen : GoodIn wsL_law (wsV RL 83 RX7 yX7_seen wsX7_seen) := goodIn_app (goodIn_of _ (by decide +kernel)) ggL_law_X7_seen
set_option maxRecDepth 20000 in
theorem ggL_law_X6_forget : GoodIn wsL_law wsX6_forget := goodIn_r _ [497, 19, 484, 644, 645, 646, 647, 648, 677, 678, 679] (by decide +kernel) (by decide +kernel)
set_option maxRecDepth 20000 in
theorem gL_law_X6_forget : GoodIn wsL_law (wsV RL 84 RX6 yX6_forget wsX6_forget) := goodIn_app (goodIn_of _ (by decide +kernel)) ggL_law_X6_forget
set_option maxRecDepth 20000 in
theorem ggL_law_X7_forget : GoodIn wsL_law wsX7_forget := goodIn_r _ [501, 493, 649, 650, 651, 652, 653, 654, 655, 656, 657, 658, 659, 660, 661, 662, 663, 664, 665, 666, 667, 668] (by decide +kernel) (by decide +kernel)
set_option maxRecDepth 20000 in
theorem gL_law_X7_forget : GoodIn wsL_law (wsV RL 87 RX7 yX7_forget wsX7_forget) := goodIn_app (goodIn_of _ (by decide +kernel)) ggL_law_X7_forget
set_option maxRecDepth 20000 in
theorem ggL_law_X6_rounds : GoodIn wsL_law wsX6_rounds := goodIn_r _ [505, 19, 506, 507, 508, 18, 509, 510, 511, 512, 513, 48, 51, 49, 514, 515, 516, 517, 644, 645, 646, 647, 648, 677, 678, 679] (by decide +kernel) (by decide +kernel)
set_option maxRecDepth 20000 in
theorem gL_law_X6_rounds : GoodIn wsL_law (wsV RL 88 RX6 yX6_rounds wsX6_rounds) := goodIn_app (goodIn_of _ (by decide +kernel)) ggL_law_X6_rounds
set_option maxRecDepth 20000 in
theorem ggL_law_X7_rounds : GoodIn wsL_law wsX7_rounds := goodIn_r _ [521, 522, 523, 524, 5, 525, 493, 92, 526, 527, 528, 649, 650, 651, 652, 653, 654, 655, 656, 657, 658, 659, 660, 661, 662, 663, 664, 665, 666, 667, 668] (by decide +kernel) (by decide +kernel)
set_option maxRecDepth 20000 in
theorem gL_law_X7_rounds : GoodIn wsL_law (wsV RL 91 RX7 yX7_rounds wsX7_rounds) := goodIn_app (goodIn_of _ (by decide +kernel)) ggL_law_X7_rounds
set_option maxRecDepth 20000 in
theorem ggL_law_X6_ask : GoodIn wsL_law wsX6_ask := goodIn_r _ [532, 19, 533, 316, 208, 317, 108, 109, 2, 110, 506, 507, 508, 18, 509, 510, 511, 512, 513, 48, 51, 49, 534, 535, 536, 537, 644, 645, 646, 647, 648, 677, 678, 679] (by decide +kernel) (by decide +kernel)
set_option maxRecDepth 20000 in
theorem gL_law_X6_ask : GoodIn wsL_law (wsV RL 92 RX6 yX6_ask wsX6_ask) := goodIn_app (goodIn_of _ (by decide +kernel)) ggL_law_X6_ask
set_option maxRecDepth 20000 in
theorem ggL_law_X7_ask : GoodIn wsL_law wsX7_ask := goodIn_r _ [541, 97, 542, 123, 124, 5, 125, 522, 523, 524, 525, 493, 92, 526, 527, 528, 649, 650, 651, 652, 653, 654, 655, 656, 657, 658, 659, 660, 661, 662, 663, 664, 665, 666, 667, 668] (by decide +kernel) (by decide +kernel)
set_option maxRecDepth 20000 in
theorem gL_law_X7_ask : GoodIn wsL_law (wsV RL 95 RX7 yX7_ask wsX7_ask) := goodIn_app (goodIn_of _ (by decide +kernel)) ggL_law_X7_ask
