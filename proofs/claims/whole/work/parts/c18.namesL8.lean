set_option maxRecDepth 20000 in
theorem ggL_law_X6_line : GoodIn wsL_law wsX6_line := goodIn_r _ [625, 16, 28, 626, 627, 2, 628, 153, 154, 15, 155, 156, 157, 158, 220, 221, 222, 223, 33, 629, 630, 631, 632, 43, 40, 194, 195, 196, 197, 633, 634, 635, 27, 636, 637, 638, 639, 640, 641, 91, 642, 471, 472, 473, 643, 45, 46, 47, 644, 225, 226, 227, 645, 646, 647, 648, 649, 650, 651, 652, 286, 287, 288, 289, 797, 798, 799, 800, 801, 802, 845, 846, 847, 870, 871, 872, 873, 874, 875] (by decide +kernel) (by decide +kernel)
set_option maxRecDepth 20000 in
theorem gL_law_X6_line : GoodIn wsL_law (wsV RL 108 RX6 yX6_line wsX6_line) := goodIn_app (goodIn_of _ (by decide +kernel)) ggL_law_X6_line
set_option maxRecDepth 20000 in
theorem ggL_law_X7_line : GoodIn wsL_law wsX7_line := goodIn_r _ [656, 657, 148, 658, 659, 660, 661, 662, 663, 664, 665, 5, 666, 110, 111, 178, 179, 180, 295, 296, 297, 298, 667, 668, 669, 670, 133, 671, 471, 472, 473, 803, 804, 805, 806, 807, 808, 809, 810, 811, 812, 813, 814, 815, 816, 817, 818, 819, 820, 821, 822, 823, 824, 825, 826, 827, 828, 829, 830, 831, 832, 833, 834, 835, 836, 837, 838, 839, 840, 841, 842, 843, 844] (by decide +kernel) (by decide +kernel)
set_option maxRecDepth 20000 in
theorem gL_law_X7_line : GoodIn wsL_law (wsV RL 112 RX7 yX7_line wsX7_line) := goodIn_app (goodIn_of _ (by decide +kernel)) ggL_law_X7_line
set_option maxRecDepth 20000 in
theorem ggL_law_X6_hands : GoodIn wsL_law wsX6_hands := goodIn_r _ [675, 16, 28, 676, 626, 627, 2, 628, 153, 154, 15, 155, 156, 157, 158, 220, 221, 222, 223, 33, 629, 630, 631, 632, 43, 40, 194, 195, 196, 197, 633, 634, 635, 27, 636, 637, 638, 639, 640, 641, 91, 642, 471, 472, 473, 643, 45, 46, 47, 644, 225, 226, 227, 645, 646, 647, 648, 286, 287, 288, 289, 797, 798, 799, 800, 801, 802, 870, 871, 872, 873, 874, 875, 845, 846, 847] (by decide +kernel) (by decide +kernel)
set_option maxRecDepth 20000 in
theorem gL_law_X6_hands : GoodIn wsL_law (wsV RL 113 RX6 yX6_hands wsX6_hands) := goodIn_app (goodIn_of _ (by decide +kernel)) ggL_law_X6_hands
set_option maxRecDepth 20000 in
theorem ggL_law_X7_hands : GoodIn wsL_law wsX7_hands := goodIn_r _ [680, 657, 148, 658, 663, 664, 665, 5, 666, 110, 111, 178, 179, 180, 295, 296, 297, 298, 667, 668, 669, 670, 659, 660, 661, 662, 133, 671, 471, 472, 473, 803, 804, 805, 806, 807, 808, 809, 810, 811, 812, 813, 814, 815, 816, 817, 818, 819, 820, 821, 822, 823, 824, 825, 826, 827, 828, 829, 830, 831, 832, 833, 834, 835, 836, 837, 838, 839, 840, 841, 842, 843, 844] (by decide +kernel) (by decide +kernel)
set_option maxRecDepth 20000 in
theorem gL_law_X7_hands : GoodIn wsL_law (wsV RL 116 RX7 yX7_hands wsX7_hands) := goodIn_app (goodIn_of _ (by decide +kernel)) ggL_law_X7_hands
set_option maxRecDepth 20000 in
theorem ggL_law_X6_wanted : GoodIn wsL_law wsX6_wanted := goodIn_r _ [684, 16, 32, 153, 154, 15, 155, 156, 2, 157, 159, 160, 161, 162, 33, 629, 630, 631, 632, 43, 40, 194, 195, 196, 197, 685, 686, 687, 31, 688, 98, 689, 690, 225, 226, 227, 170, 171, 172, 173, 797, 798, 799, 800, 801, 802, 845, 846, 847, 876, 877, 878, 879, 880, 881, 882, 883, 884, 885, 886, 887] (by decide +kernel) (by decide +kernel)
set_option maxRecDepth 20000 in
theorem gL_law_X6_wanted : GoodIn wsL_law (wsV RL 117 RX6 yX6_wanted wsX6_wanted) := goodIn_app (goodIn_of _ (by decide +kernel)) ggL_law_X6_wanted
set_option maxRecDepth 20000 in
theorem ggL_law_X7_wanted : GoodIn wsL_law wsX7_wanted := goodIn_r _ [694, 695, 134, 111, 663, 664, 665, 5, 666, 110, 178, 179, 180, 181, 182, 183, 184, 148, 803, 804, 805, 806, 807, 808, 809, 810, 811, 812, 813, 814, 815, 816, 817, 818, 819, 820, 821, 822, 823, 824, 825, 826, 827, 828, 829, 830, 831, 832, 833, 834, 835, 836, 837, 838, 839, 840, 841, 842, 843, 844] (by decide +kernel) (by decide +kernel)
set_option maxRecDepth 20000 in
theorem gL_law_X7_wanted : GoodIn wsL_law (wsV RL 120 RX7 yX7_wanted wsX7_wanted) := goodIn_app (goodIn_of _ (by decide +kernel)) ggL_law_X7_wanted
set_option maxRecDepth 20000 in
theorem ggL_law_X6_have : GoodIn wsL_law wsX6_have := goodIn_r _ [699, 32, 158, 156, 2, 157, 159, 160, 161, 162, 33, 700, 701, 702, 31, 703, 704, 689, 170, 171, 172, 173, 797, 798, 799, 800, 801, 802, 876, 877, 878, 879, 880, 881, 882, 883, 884, 885, 886, 887] (by decide +kernel) (by decide +kernel)
set_option maxRecDepth 20000 in
theorem gL_law_X6_have : GoodIn wsL_law (wsV RL 121 RX6 yX6_have wsX6_have) := goodIn_app (goodIn_of _ (by decide +kernel)) ggL_law_X6_have
