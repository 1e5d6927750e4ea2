set_option maxRecDepth 20000 in
theorem ggL_law_X7_have : GoodIn wsL_law wsX7_have := goodIn_r _ [708, 709, 181, 182, 183, 5, 184, 148, 803, 804, 805, 806, 807, 808, 809, 810, 811, 812, 813, 814, 815, 816, 817, 818, 819, 820, 821, 822, 823, 824, 825, 826, 827, 828, 829, 830, 831, 832, 833, 834, 835, 836, 837, 838, 839, 840, 841, 842, 843, 844] (by decide +kernel) (by decide +kernel)
set_option maxRecDepth 20000 in
theorem gL_law_X7_have : GoodIn wsL_law (wsV RL 124 RX7 yX7_have wsX7_have) := goodIn_app (goodIn_of _ (by decide +kernel)) ggL_law_X7_have
set_option maxRecDepth 20000 in
theorem ggL_law_X6_type : GoodIn wsL_law wsX6_type := goodIn_r _ [713, 16, 714, 32, 381, 158, 156, 2, 157, 715, 716, 717, 153, 154, 15, 155, 220, 221, 222, 223, 33, 629, 630, 631, 632, 43, 40, 194, 195, 196, 197, 718, 719, 720, 31, 721, 722, 99, 100, 101, 102, 689, 690, 225, 226, 227, 286, 287, 288, 289, 797, 798, 799, 800, 801, 802, 876, 877, 878, 879, 880, 881, 882, 883, 884, 885, 886, 887, 845, 846, 847] (by decide +kernel) (by decide +kernel)
set_option maxRecDepth 20000 in
theorem gL_law_X6_type : GoodIn wsL_law (wsV RL 125 RX6 yX6_type wsX6_type) := goodIn_app (goodIn_of _ (by decide +kernel)) ggL_law_X6_type
set_option maxRecDepth 20000 in
theorem ggL_law_X7_type : GoodIn wsL_law wsX7_type := goodIn_r _ [726, 727, 395, 135, 136, 137, 138, 111, 148, 663, 664, 665, 5, 666, 110, 178, 179, 180, 295, 296, 297, 298, 803, 804, 805, 806, 807, 808, 809, 810, 811, 812, 813, 814, 815, 816, 817, 818, 819, 820, 821, 822, 823, 824, 825, 826, 827, 828, 829, 830, 831, 832, 833, 834, 835, 836, 837, 838, 839, 840, 841, 842, 843, 844] (by decide +kernel) (by decide +kernel)
set_option maxRecDepth 20000 in
theorem gL_law_X7_type : GoodIn wsL_law (wsV RL 128 RX7 yX7_type wsX7_type) := goodIn_app (goodIn_of _ (by decide +kernel)) ggL_law_X7_type
set_option maxRecDepth 20000 in
theorem ggL_law_X6_cheapest : GoodIn wsL_law wsX6_cheapest := goodIn_r _ [731, 32, 732, 733, 734, 735, 31, 736, 689, 103, 104, 98, 737, 722, 100, 704, 738, 739, 45, 46, 47, 740, 168, 169, 741, 742, 743, 744, 745, 746, 747, 748, 749, 750, 102, 101, 99, 751, 569, 472, 570, 752, 753, 754, 755, 756, 757, 758, 759, 760, 761, 762, 97, 763, 764, 765, 766, 767, 286, 287, 288, 2, 289, 33, 220, 221, 222, 223, 797, 798, 799, 800, 801, 802, 876, 877, 878, 879, 880, 881, 882, 883, 884, 885, 886, 887] (by decide +kernel) (by decide +kernel)
set_option maxRecDepth 20000 in
theorem gL_law_X6_cheapest : GoodIn wsL_law (wsV RL 129 RX6 yX6_cheapest wsX6_cheapest) := goodIn_app (goodIn_of _ (by decide +kernel)) ggL_law_X6_cheapest
set_option maxRecDepth 20000 in
theorem ggL_law_X7_cheapest : GoodIn wsL_law wsX7_cheapest := goodIn_r _ [771, 139, 709, 772, 148, 773, 774, 775, 5, 776, 134, 395, 136, 135, 604, 569, 472, 570, 777, 778, 779, 780, 781, 782, 783, 138, 137, 295, 296, 297, 298, 803, 804, 805, 806, 807, 808, 809, 810, 811, 812, 813, 814, 815, 816, 817, 818, 819, 820, 821, 822, 823, 824, 825, 826, 827, 828, 829, 830, 831, 832, 833, 834, 835, 836, 837, 838, 839, 840, 841, 842, 843, 844] (by decide +kernel) (by decide +kernel)
set_option maxRecDepth 20000 in
theorem gL_law_X7_cheapest : GoodIn wsL_law (wsV RL 132 RX7 yX7_cheapest wsX7_cheapest) := goodIn_app (goodIn_of _ (by decide +kernel)) ggL_law_X7_cheapest
set_option maxRecDepth 20000 in
theorem ggL_law_X6_buys : GoodIn wsL_law wsX6_buys := goodIn_r _ [787, 32, 788, 715, 716, 2, 717, 158, 156, 157, 789, 790, 791, 31, 792, 722, 220, 221, 222, 223, 33, 733, 734, 735, 736, 689, 103, 104, 98, 737, 100, 704, 738, 739, 45, 46, 47, 740, 168, 169, 741, 742, 743, 744, 745, 746, 747, 748, 749, 750, 102, 101, 99, 751, 569, 472, 570, 752, 753, 754, 755, 756, 757, 758, 759, 760, 761, 762, 97, 763, 764, 765, 766, 767, 286, 287, 288, 289, 797, 798, 799, 800, 801, 802, 876, 877, 878, 879, 880, 881, 882, 883, 884, 885, 886, 887] (by decide +kernel) (by decide +kernel)
set_option maxRecDepth 20000 in
theorem gL_law_X6_buys : GoodIn wsL_law (wsV RL 133 RX6 yX6_buys wsX6_buys) := goodIn_app (goodIn_of _ (by decide +kernel)) ggL_law_X6_buys
set_option maxRecDepth 20000 in
theorem ggL_law_X7_buys : GoodIn wsL_law wsX7_buys := goodIn_r _ [796, 395, 139, 709, 772, 148, 134, 135, 604, 569, 472, 570, 295, 296, 297, 5, 298, 773, 774, 775, 776, 136, 777, 778, 779, 780, 781, 782, 783, 138, 137, 803, 804, 805, 806, 807, 808, 809, 810, 811, 812, 813, 814, 815, 816, 817, 818, 819, 820, 821, 822, 823, 824, 825, 826, 827, 828, 829, 830, 831, 832, 833, 834, 835, 836, 837, 838, 839, 840, 841, 842, 843, 844] (by decide +kernel) (by decide +kernel)
set_option maxRecDepth 20000 in
theorem gL_law_X7_buys : GoodIn wsL_law (wsV RL 136 RX7 yX7_buys wsX7_buys) := goodIn_app (goodIn_of _ (by decide +kernel)) ggL_law_X7_buys

