set_option maxRecDepth 20000 in
theorem ggL_law_X6_on : GoodIn wsL_law wsX6_on := goodIn_r _ [449, 20, 327, 328, 2, 329, 158, 156, 157, 408, 409, 19, 410, 356, 357, 358, 359, 338, 450, 451, 452, 453, 56, 311, 312, 313, 220, 221, 222, 223, 33, 382, 383, 384, 385, 285, 53, 411, 412, 413, 414, 61, 415, 416, 417, 418, 62, 284, 52, 419, 45, 46, 47, 420, 421, 422, 423, 60, 57, 424, 425, 426, 427, 59, 454, 455, 456, 457, 286, 287, 288, 289, 797, 798, 799, 800, 801, 802, 848, 849, 850, 851, 852, 853, 854, 855, 856, 857, 858, 859, 860] (by decide +kernel) (by decide +kernel)
set_option maxRecDepth 20000 in
theorem gL_law_X6_on : GoodIn wsL_law (wsV RL 79 RX6 yX6_on wsX6_on) := goodIn_app (goodIn_of _ (by decide +kernel)) ggL_law_X6_on
set_option maxRecDepth 20000 in
theorem ggL_law_X7_on : GoodIn wsL_law wsX7_on := goodIn_r _ [461, 121, 148, 294, 120, 119, 112, 432, 433, 5, 434, 435, 436, 437, 372, 373, 374, 375, 351, 442, 443, 444, 445, 116, 117, 295, 296, 297, 298, 438, 439, 440, 441, 115, 118, 400, 401, 402, 403, 114, 113, 803, 804, 805, 806, 807, 808, 809, 810, 811, 812, 813, 814, 815, 816, 817, 818, 819, 820, 821, 822, 823, 824, 825, 826, 827, 828, 829, 830, 831, 832, 833, 834, 835, 836, 837, 838, 839, 840, 841, 842, 843, 844] (by decide +kernel) (by decide +kernel)
set_option maxRecDepth 20000 in
theorem gL_law_X7_on : GoodIn wsL_law (wsV RL 82 RX7 yX7_on wsX7_on) := goodIn_app (goodIn_of _ (by decide +kernel)) ggL_law_X7_on
set_option maxRecDepth 20000 in
theorem ggL_law_X6_lack : GoodIn wsL_law wsX6_lack := goodIn_r _ [465, 20, 327, 328, 2, 329, 158, 156, 157, 408, 409, 19, 410, 220, 221, 222, 223, 33, 382, 383, 384, 385, 285, 53, 466, 467, 468, 469, 56, 61, 57, 470, 471, 472, 473, 415, 416, 417, 418, 62, 284, 52, 419, 45, 46, 47, 311, 312, 313, 420, 421, 422, 423, 338, 60, 424, 425, 426, 427, 59, 286, 287, 288, 289, 797, 798, 799, 800, 801, 802, 848, 849, 850, 851, 852, 853, 854, 855, 856, 857, 858, 859, 860] (by decide +kernel) (by decide +kernel)
set_option maxRecDepth 20000 in
theorem gL_law_X6_lack : GoodIn wsL_law (wsV RL 83 RX6 yX6_lack wsX6_lack) := goodIn_app (goodIn_of _ (by decide +kernel)) ggL_law_X6_lack
set_option maxRecDepth 20000 in
theorem ggL_law_X7_lack : GoodIn wsL_law wsX7_lack := goodIn_r _ [477, 148, 121, 119, 432, 433, 5, 434, 435, 436, 437, 295, 296, 297, 298, 438, 439, 440, 441, 351, 120, 115, 118, 294, 112, 400, 401, 402, 403, 114, 113, 442, 443, 444, 445, 116, 117, 803, 804, 805, 806, 807, 808, 809, 810, 811, 812, 813, 814, 815, 816, 817, 818, 819, 820, 821, 822, 823, 824, 825, 826, 827, 828, 829, 830, 831, 832, 833, 834, 835, 836, 837, 838, 839, 840, 841, 842, 843, 844] (by decide +kernel) (by decide +kernel)
set_option maxRecDepth 20000 in
theorem gL_law_X7_lack : GoodIn wsL_law (wsV RL 86 RX7 yX7_lack wsX7_lack) := goodIn_app (goodIn_of _ (by decide +kernel)) ggL_law_X7_lack
set_option maxRecDepth 20000 in
theorem ggL_law_X6_left : GoodIn wsL_law wsX6_left := goodIn_r _ [481, 20, 327, 328, 2, 329, 158, 156, 157, 408, 409, 19, 410, 220, 221, 222, 223, 33, 382, 383, 384, 385, 285, 53, 482, 483, 484, 485, 56, 61, 57, 415, 416, 417, 418, 62, 284, 52, 419, 45, 46, 47, 311, 312, 313, 420, 421, 422, 423, 338, 60, 424, 425, 426, 427, 59, 486, 387, 388, 389, 286, 287, 288, 289, 797, 798, 799, 800, 801, 802, 848, 849, 850, 851, 852, 853, 854, 855, 856, 857, 858, 859, 860] (by decide +kernel) (by decide +kernel)
set_option maxRecDepth 20000 in
theorem gL_law_X6_left : GoodIn wsL_law (wsV RL 87 RX6 yX6_left wsX6_left) := goodIn_app (goodIn_of _ (by decide +kernel)) ggL_law_X6_left
set_option maxRecDepth 20000 in
theorem ggL_law_X7_left : GoodIn wsL_law wsX7_left := goodIn_r _ [490, 148, 432, 433, 5, 434, 435, 436, 437, 295, 296, 297, 298, 438, 439, 440, 441, 351, 119, 120, 115, 118, 121, 294, 112, 400, 401, 402, 403, 114, 113, 491, 492, 493, 494, 442, 443, 444, 445, 116, 117, 396, 397, 398, 399, 803, 804, 805, 806, 807, 808, 809, 810, 811, 812, 813, 814, 815, 816, 817, 818, 819, 820, 821, 822, 823, 824, 825, 826, 827, 828, 829, 830, 831, 832, 833, 834, 835, 836, 837, 838, 839, 840, 841, 842, 843, 844] (by decide +kernel) (by decide +kernel)
set_option maxRecDepth 20000 in
theorem gL_law_X7_left : GoodIn wsL_law (wsV RL 90 RX7 yX7_left wsX7_left) := goodIn_app (goodIn_of _ (by decide +kernel)) ggL_law_X7_left
set_option maxRecDepth 20000 in
theorem ggL_law_X6_enough : GoodIn wsL_law wsX6_enough := goodIn_r _ [498, 20, 158, 156, 2, 157, 220, 221, 222, 223, 33, 499, 500, 501, 19, 502, 503, 504, 505, 506, 284, 507, 383, 384, 385, 285, 53, 508, 509, 510, 511, 512, 412, 413, 414, 61, 56, 415, 416, 417, 418, 62, 52, 419, 45, 46, 47, 311, 312, 313, 420, 421, 422, 423, 338, 60, 57, 424, 425, 426, 427, 59, 286, 287, 288, 289, 797, 798, 799, 800, 801, 802, 848, 849, 850, 851, 852, 853, 854, 855, 856, 857, 858, 859, 860] (by decide +kernel) (by decide +kernel)
set_option maxRecDepth 20000 in
theorem gL_law_X6_enough : GoodIn wsL_law (wsV RL 91 RX6 yX6_enough wsX6_enough) := goodIn_app (goodIn_of _ (by decide +kernel)) ggL_law_X6_enough
