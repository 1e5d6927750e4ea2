set_option maxRecDepth 20000 in
theorem ggL_law_X6_none : GoodIn wsL_law wsX6_none := goodIn_r _ [270, 159, 160, 161, 2, 162, 33, 797, 798, 799, 800, 801, 802] (by decide +kernel) (by decide +kernel)
set_option maxRecDepth 20000 in
theorem gL_law_X6_none : GoodIn wsL_law (wsV RL 45 RX6 yX6_none wsX6_none) := goodIn_app (goodIn_of _ (by decide +kernel)) ggL_law_X6_none
set_option maxRecDepth 20000 in
theorem ggL_law_X7_none : GoodIn wsL_law wsX7_none := goodIn_r _ [274, 181, 182, 183, 5, 184, 148, 803, 804, 805, 806, 807, 808, 809, 810, 811, 812, 813, 814, 815, 816, 817, 818, 819, 820, 821, 822, 823, 824, 825, 826, 827, 828, 829, 830, 831, 832, 833, 834, 835, 836, 837, 838, 839, 840, 841, 842, 843, 844] (by decide +kernel) (by decide +kernel)
set_option maxRecDepth 20000 in
theorem gL_law_X7_none : GoodIn wsL_law (wsV RL 49 RX7 yX7_none wsX7_none) := goodIn_app (goodIn_of _ (by decide +kernel)) ggL_law_X7_none
set_option maxRecDepth 20000 in
theorem ggL_law_X6_machine : GoodIn wsL_law wsX6_machine := goodIn_r _ [278, 20, 279, 158, 156, 2, 157, 220, 221, 222, 223, 33, 280, 281, 282, 19, 283, 284, 52, 53, 285, 286, 287, 288, 289, 797, 798, 799, 800, 801, 802, 848, 849, 850, 851, 852, 853, 854, 855, 856, 857, 858, 859, 860] (by decide +kernel) (by decide +kernel)
set_option maxRecDepth 20000 in
theorem gL_law_X6_machine : GoodIn wsL_law (wsV RL 50 RX6 yX6_machine wsX6_machine) := goodIn_app (goodIn_of _ (by decide +kernel)) ggL_law_X6_machine
set_option maxRecDepth 20000 in
theorem ggL_law_X7_machine : GoodIn wsL_law wsX7_machine := goodIn_r _ [293, 294, 112, 113, 114, 148, 295, 296, 297, 5, 298, 803, 804, 805, 806, 807, 808, 809, 810, 811, 812, 813, 814, 815, 816, 817, 818, 819, 820, 821, 822, 823, 824, 825, 826, 827, 828, 829, 830, 831, 832, 833, 834, 835, 836, 837, 838, 839, 840, 841, 842, 843, 844] (by decide +kernel) (by decide +kernel)
set_option maxRecDepth 20000 in
theorem gL_law_X7_machine : GoodIn wsL_law (wsV RL 54 RX7 yX7_machine wsX7_machine) := goodIn_app (goodIn_of _ (by decide +kernel)) ggL_law_X7_machine
set_option maxRecDepth 20000 in
theorem ggL_law_X6_up : GoodIn wsL_law wsX6_up := goodIn_r _ [302, 20, 303, 304, 305, 19, 306, 284, 156, 2, 157, 159, 160, 161, 162, 33, 307, 308, 309, 310, 285, 311, 312, 313, 314, 315, 316, 317, 170, 171, 172, 173, 797, 798, 799, 800, 801, 802, 848, 849, 850, 851, 852, 853, 854, 855, 856, 857, 858, 859, 860] (by decide +kernel) (by decide +kernel)
set_option maxRecDepth 20000 in
theorem gL_law_X6_up : GoodIn wsL_law (wsV RL 55 RX6 yX6_up wsX6_up) := goodIn_app (goodIn_of _ (by decide +kernel)) ggL_law_X6_up
set_option maxRecDepth 20000 in
theorem ggL_law_X7_up : GoodIn wsL_law wsX7_up := goodIn_r _ [321, 294, 114, 181, 182, 183, 5, 184, 148, 803, 804, 805, 806, 807, 808, 809, 810, 811, 812, 813, 814, 815, 816, 817, 818, 819, 820, 821, 822, 823, 824, 825, 826, 827, 828, 829, 830, 831, 832, 833, 834, 835, 836, 837, 838, 839, 840, 841, 842, 843, 844] (by decide +kernel) (by decide +kernel)
set_option maxRecDepth 20000 in
theorem gL_law_X7_up : GoodIn wsL_law (wsV RL 59 RX7 yX7_up wsX7_up) := goodIn_app (goodIn_of _ (by decide +kernel)) ggL_law_X7_up
set_option maxRecDepth 20000 in
theorem ggL_law_X6_ask : GoodIn wsL_law wsX6_ask := goodIn_r _ [325, 20, 326, 24, 158, 156, 2, 157, 327, 328, 329, 220, 221, 222, 223, 33, 330, 331, 332, 23, 333, 77, 334, 335, 336, 19, 337, 338, 54, 56, 339, 340, 341, 342, 60, 343, 344, 345, 346, 62, 57, 59, 55, 286, 287, 288, 289, 797, 798, 799, 800, 801, 802, 848, 849, 850, 851, 852, 853, 854, 855, 856, 857, 858, 859, 860, 861, 862, 863, 864, 865, 866, 867, 868, 869] (by decide +kernel) (by decide +kernel)
set_option maxRecDepth 20000 in
theorem gL_law_X6_ask : GoodIn wsL_law (wsV RL 60 RX6 yX6_ask wsX6_ask) := goodIn_app (goodIn_of _ (by decide +kernel)) ggL_law_X6_ask
