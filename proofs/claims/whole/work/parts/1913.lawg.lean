/-! the law's callees' words -/
set_option maxRecDepth 20000 in
theorem ggL_law_X8_fades : GoodIn wsL_law wsX8_fades := goodIn_r _ [804, 135, 108, 184, 553, 805, 109, 269, 138, 139, 5, 140, 693, 694, 695, 696, 273, 274, 275, 353, 354, 355, 479, 480, 481, 270, 271, 272, 189, 190, 191, 276, 277, 278, 279, 280, 281, 282, 283, 284, 806, 807, 808, 623, 624, 625, 626, 627, 628, 881, 882, 883, 884, 885, 886, 887, 888, 889, 890, 891, 892, 893, 894, 895, 896, 897, 898, 899, 900, 901] (by decide +kernel) (by decide +kernel)
set_option maxRecDepth 20000 in
theorem gL_law_X8_fades : GoodIn wsL_law (wsV RL 110 RX8 yX8_fades wsX8_fades) := goodIn_app (goodIn_of _ (by decide +kernel)) ggL_law_X8_fades
set_option maxRecDepth 20000 in
theorem ggL_law_X7_seed : GoodIn wsL_law wsX7_seed := goodIn_r _ [812, 43, 871, 872, 873, 874, 875, 876, 877, 878, 879, 880] (by decide +kernel) (by decide +kernel)
set_option maxRecDepth 20000 in
theorem gL_law_X7_seed : GoodIn wsL_law (wsV RL 111 RX7 yX7_seed wsX7_seed) := goodIn_app (goodIn_of _ (by decide +kernel)) ggL_law_X7_seed
set_option maxRecDepth 20000 in
theorem ggL_law_X8_seed : GoodIn wsL_law wsX8_seed := goodIn_r _ [816, 135, 817, 881, 882, 883, 884, 885, 886, 887, 888, 889, 890, 891, 892, 893, 894, 895, 896, 897, 898, 899, 900, 901] (by decide +kernel) (by decide +kernel)
set_option maxRecDepth 20000 in
theorem gL_law_X8_seed : GoodIn wsL_law (wsV RL 115 RX8 yX8_seed wsX8_seed) := goodIn_app (goodIn_of _ (by decide +kernel)) ggL_law_X8_seed
set_option maxRecDepth 20000 in
theorem ggL_law_X7_drawn : GoodIn wsL_law wsX7_drawn := goodIn_r _ [821, 29, 24, 43, 822, 823, 30, 662, 663, 664, 23, 665, 68, 666, 495, 496, 497, 498, 491, 492, 493, 824, 825, 826, 2, 827, 20, 828, 829, 199, 200, 201, 19, 202, 58, 59, 203, 204, 205, 206, 207, 511, 512, 513, 514, 69, 74, 75, 76, 77, 60, 442, 232, 233, 234, 515, 516, 517, 518, 533, 534, 535, 536, 537, 538, 539, 540, 541, 240, 241, 242, 57, 542, 244, 245, 246, 247, 248, 249, 250, 62, 251, 61, 543, 544, 545, 546, 325, 326, 327, 328, 329, 330, 331, 547, 423, 424, 425, 548, 427, 428, 429, 430, 431, 432, 433, 217, 218, 219, 27, 220, 221, 222, 223, 224, 225, 82, 83, 226, 227, 228, 229, 230, 85, 231, 235, 236, 237, 238, 84, 239, 243, 871, 872, 873, 874, 875, 876, 877, 878, 879, 880, 910, 911, 904, 905, 906, 907, 908, 909, 912, 913, 914, 915, 916] (by decide +kernel) (by decide +kernel)
set_option maxRecDepth 20000 in
theorem gL_law_X7_drawn : GoodIn wsL_law (wsV RL 116 RX7 yX7_drawn wsX7_drawn) := goodIn_app (goodIn_of _ (by decide +kernel)) ggL_law_X7_drawn
set_option maxRecDepth 20000 in
theorem ggL_law_X8_drawn : GoodIn wsL_law wsX8_drawn := goodIn_r _ [833, 135, 834, 817, 835, 836, 109, 138, 139, 5, 140, 693, 694, 695, 696, 108, 189, 190, 191, 837, 838, 839, 840, 523, 524, 525, 554, 555, 556, 557, 110, 558, 559, 560, 269, 266, 267, 268, 270, 271, 272, 273, 274, 275, 276, 277, 278, 279, 280, 281, 282, 283, 284, 561, 562, 563, 353, 354, 355, 450, 451, 452, 288, 289, 290, 257, 258, 259, 260, 261, 262, 263, 264, 265, 285, 286, 287, 881, 882, 883, 884, 885, 886, 887, 888, 889, 890, 891, 892, 893, 894, 895, 896, 897, 898, 899, 900, 901] (by decide +kernel) (by decide +kernel)
set_option maxRecDepth 20000 in
theorem gL_law_X8_drawn : GoodIn wsL_law (wsV RL 119 RX8 yX8_drawn wsX8_drawn) := goodIn_app (goodIn_of _ (by decide +kernel)) ggL_law_X8_drawn
set_option maxRecDepth 20000 in
theorem ggL_law_X7_keep : GoodIn wsL_law wsX7_keep := goodIn_r _ [844, 38, 24, 28, 845, 846, 847, 37, 848, 95, 93, 849, 495, 496, 23, 497, 68, 498, 491, 492, 493, 217, 218, 219, 27, 220, 221, 222, 223, 224, 225, 82, 83, 226, 227, 228, 229, 230, 85, 231, 232, 233, 234, 235, 236, 237, 238, 84, 239, 240, 241, 19, 242, 57, 243, 244, 245, 246, 247, 248, 249, 250, 62, 251, 61, 58, 871, 872, 873, 874, 875, 876, 877, 878, 879, 880, 919, 920, 910, 911, 912, 913, 914, 915, 916, 904, 905, 906, 907, 908, 909] (by decide +kernel) (by decide +kernel)
set_option maxRecDepth 20000 in
theorem gL_law_X7_keep : GoodIn wsL_law (wsV RL 120 RX7 yX7_keep wsX7_keep) := goodIn_app (goodIn_of _ (by decide +kernel)) ggL_law_X7_keep
set_option maxRecDepth 20000 in
theorem ggL_law_X8_keep : GoodIn wsL_law wsX8_keep := goodIn_r _ [853, 135, 113, 112, 108, 138, 139, 5, 140, 257, 258, 259, 189, 190, 191, 260, 261, 262, 263, 264, 265, 266, 267, 268, 269, 270, 271, 272, 273, 274, 275, 276, 277, 278, 279, 280, 281, 282, 283, 284, 285, 286, 287, 288, 289, 290, 881, 882, 883, 884, 885, 886, 887, 888, 889, 890, 891, 892, 893, 894, 895, 896, 897, 898, 899, 900, 901] (by decide +kernel) (by decide +kernel)
set_option maxRecDepth 20000 in
theorem gL_law_X8_keep : GoodIn wsL_law (wsV RL 123 RX8 yX8_keep wsX8_keep) := goodIn_app (goodIn_of _ (by decide +kernel)) ggL_law_X8_keep
set_option maxRecDepth 20000 in
theorem ggL_law_X7_again : GoodIn wsL_law wsX7_again := goodIn_r _ [857, 38, 24, 34, 28, 858, 859, 860, 37, 861, 95, 862, 863, 864, 865, 93, 866, 573, 574, 23, 575, 68, 498, 491, 492, 493, 208, 209, 210, 33, 211, 212, 217, 218, 219, 27, 220, 221, 222, 223, 224, 225, 82, 83, 226, 227, 228, 229, 230, 85, 231, 232, 233, 234, 235, 236, 237, 238, 84, 239, 240, 241, 19, 242, 57, 243, 244, 245, 246, 247, 248, 249, 250, 62, 251, 61, 58, 871, 872, 873, 874, 875, 876, 877, 878, 879, 880, 919, 920, 910, 911, 917, 918, 912, 913, 914, 915, 916, 904, 905, 906, 907, 908, 909] (by decide +kernel) (by decide +kernel)
set_option maxRecDepth 20000 in
theorem gL_law_X7_again : GoodIn wsL_law (wsV RL 124 RX7 yX7_again wsX7_again) := goodIn_app (goodIn_of _ (by decide +kernel)) ggL_law_X7_again
set_option maxRecDepth 20000 in
theorem ggL_law_X8_again : GoodIn wsL_law wsX8_again := goodIn_r _ [870, 135, 113, 108, 112, 256, 138, 139, 5, 140, 257, 258, 259, 189, 190, 191, 260, 261, 262, 263, 264, 265, 266, 267, 268, 269, 270, 271, 272, 273, 274, 275, 276, 277, 278, 279, 280, 281, 282, 283, 284, 285, 286, 287, 288, 289, 290, 881, 882, 883, 884, 885, 886, 887, 888, 889, 890, 891, 892, 893, 894, 895, 896, 897, 898, 899, 900, 901] (by decide +kernel) (by decide +kernel)
set_option maxRecDepth 20000 in
theorem gL_law_X8_again : GoodIn wsL_law (wsV RL 127 RX8 yX8_again wsX8_again) := goodIn_app (goodIn_of _ (by decide +kernel)) ggL_law_X8_again
