/-! the law's callees' words -/
set_option maxRecDepth 20000 in
theorem ggL_law_X8_node : GoodIn wsL_law wsX8_node := goodIn_r _ [446, 135, 108, 383, 384, 385, 5, 386, 189, 190, 191, 138, 139, 140, 263, 264, 265, 266, 267, 268, 269, 270, 271, 272, 273, 274, 275, 276, 277, 278, 279, 280, 281, 282, 283, 284, 285, 286, 287, 288, 289, 290, 353, 354, 355, 363, 364, 365, 350, 351, 352, 447, 448, 449, 260, 261, 262, 360, 361, 362, 450, 451, 452, 453, 454, 455, 456, 457, 458, 881, 882, 883, 884, 885, 886, 887, 888, 889, 890, 891, 892, 893, 894, 895, 896, 897, 898, 899, 900, 901] (by decide +kernel) (by decide +kernel)
set_option maxRecDepth 20000 in
theorem gL_law_X8_node : GoodIn wsL_law (wsV RL 43 RX8 yX8_node wsX8_node) := goodIn_app (goodIn_of _ (by decide +kernel)) ggL_law_X8_node
set_option maxRecDepth 20000 in
theorem ggL_law_X7_dots : GoodIn wsL_law wsX7_dots := goodIn_r _ [462, 20, 28, 463, 370, 371, 372, 19, 373, 374, 200, 201, 202, 58, 59, 391, 392, 393, 27, 394, 84, 85, 395, 396, 376, 377, 23, 378, 68, 235, 236, 237, 238, 231, 232, 233, 234, 239, 240, 241, 242, 57, 243, 244, 245, 246, 247, 248, 249, 250, 62, 251, 61, 871, 872, 873, 874, 875, 876, 877, 878, 879, 880, 904, 905, 906, 907, 908, 909, 912, 913, 914, 915, 916, 910, 911] (by decide +kernel) (by decide +kernel)
set_option maxRecDepth 20000 in
theorem gL_law_X7_dots : GoodIn wsL_law (wsV RL 44 RX7 yX7_dots wsX7_dots) := goodIn_app (goodIn_of _ (by decide +kernel)) ggL_law_X7_dots
set_option maxRecDepth 20000 in
theorem ggL_law_X8_dots : GoodIn wsL_law wsX8_dots := goodIn_r _ [467, 135, 269, 108, 383, 384, 385, 5, 386, 189, 190, 191, 138, 139, 140, 263, 264, 265, 266, 267, 268, 270, 271, 272, 273, 274, 275, 276, 277, 278, 279, 280, 281, 282, 283, 284, 881, 882, 883, 884, 885, 886, 887, 888, 889, 890, 891, 892, 893, 894, 895, 896, 897, 898, 899, 900, 901] (by decide +kernel) (by decide +kernel)
set_option maxRecDepth 20000 in
theorem gL_law_X8_dots : GoodIn wsL_law (wsV RL 48 RX8 yX8_dots wsX8_dots) := goodIn_app (goodIn_of _ (by decide +kernel)) ggL_law_X8_dots
set_option maxRecDepth 20000 in
theorem ggL_law_X7_parts : GoodIn wsL_law wsX7_parts := goodIn_r _ [471, 20, 24, 472, 173, 2, 174, 473, 232, 233, 23, 234, 68, 295, 240, 241, 19, 242, 57, 474, 417, 418, 419, 251, 420, 244, 245, 246, 247, 248, 249, 250, 62, 61, 58, 871, 872, 873, 874, 875, 876, 877, 878, 879, 880, 910, 911, 904, 905, 906, 907, 908, 909] (by decide +kernel) (by decide +kernel)
set_option maxRecDepth 20000 in
theorem gL_law_X7_parts : GoodIn wsL_law (wsV RL 49 RX7 yX7_parts wsX7_parts) := goodIn_app (goodIn_of _ (by decide +kernel)) ggL_law_X7_parts
set_option maxRecDepth 20000 in
theorem ggL_law_X8_parts : GoodIn wsL_law wsX8_parts := goodIn_r _ [478, 135, 184, 108, 269, 138, 139, 5, 140, 479, 480, 481, 270, 271, 272, 189, 190, 191, 273, 274, 275, 276, 277, 278, 279, 280, 281, 282, 283, 284, 881, 882, 883, 884, 885, 886, 887, 888, 889, 890, 891, 892, 893, 894, 895, 896, 897, 898, 899, 900, 901] (by decide +kernel) (by decide +kernel)
set_option maxRecDepth 20000 in
theorem gL_law_X8_parts : GoodIn wsL_law (wsV RL 52 RX8 yX8_parts wsX8_parts) := goodIn_app (goodIn_of _ (by decide +kernel)) ggL_law_X8_parts
set_option maxRecDepth 20000 in
theorem ggL_law_X7_paint : GoodIn wsL_law wsX7_paint := goodIn_r _ [485, 20, 24, 34, 370, 371, 372, 19, 373, 374, 200, 201, 202, 58, 59, 472, 173, 2, 174, 375, 376, 377, 23, 378, 68, 486, 487, 488, 33, 489, 212, 89, 490, 491, 492, 493, 494, 495, 496, 497, 498, 203, 204, 205, 206, 207, 871, 872, 873, 874, 875, 876, 877, 878, 879, 880, 904, 905, 906, 907, 908, 909, 910, 911, 917, 918] (by decide +kernel) (by decide +kernel)
set_option maxRecDepth 20000 in
theorem gL_law_X7_paint : GoodIn wsL_law (wsV RL 53 RX7 yX7_paint wsX7_paint) := goodIn_app (goodIn_of _ (by decide +kernel)) ggL_law_X7_paint
set_option maxRecDepth 20000 in
theorem ggL_law_X8_paint : GoodIn wsL_law wsX8_paint := goodIn_r _ [502, 135, 184, 108, 383, 384, 385, 5, 386, 189, 190, 191, 138, 139, 140, 503, 504, 505, 506, 256, 111, 881, 882, 883, 884, 885, 886, 887, 888, 889, 890, 891, 892, 893, 894, 895, 896, 897, 898, 899, 900, 901] (by decide +kernel) (by decide +kernel)
set_option maxRecDepth 20000 in
theorem gL_law_X8_paint : GoodIn wsL_law (wsV RL 56 RX8 yX8_paint wsX8_paint) := goodIn_app (goodIn_of _ (by decide +kernel)) ggL_law_X8_paint
set_option maxRecDepth 20000 in
theorem ggL_law_X7_negative : GoodIn wsL_law wsX7_negative := goodIn_r _ [510, 34, 24, 28, 486, 487, 488, 33, 489, 212, 89, 490, 491, 492, 493, 494, 495, 496, 23, 497, 68, 498, 511, 512, 513, 514, 69, 207, 74, 75, 76, 19, 77, 60, 442, 232, 233, 234, 515, 516, 517, 518, 217, 218, 219, 27, 220, 221, 222, 223, 224, 225, 82, 83, 226, 227, 228, 229, 230, 85, 231, 235, 236, 237, 238, 84, 239, 240, 241, 242, 57, 243, 244, 245, 246, 247, 248, 249, 250, 62, 251, 61, 58, 871, 872, 873, 874, 875, 876, 877, 878, 879, 880, 917, 918, 910, 911, 904, 905, 906, 907, 908, 909, 912, 913, 914, 915, 916] (by decide +kernel) (by decide +kernel)
set_option maxRecDepth 20000 in
theorem gL_law_X7_negative : GoodIn wsL_law (wsV RL 57 RX7 yX7_negative wsX7_negative) := goodIn_app (goodIn_of _ (by decide +kernel)) ggL_law_X7_negative
set_option maxRecDepth 20000 in
theorem ggL_law_X8_negative : GoodIn wsL_law wsX8_negative := goodIn_r _ [522, 135, 108, 503, 504, 505, 5, 506, 256, 111, 523, 524, 525, 189, 190, 191, 257, 258, 259, 260, 261, 262, 263, 264, 265, 266, 267, 268, 269, 270, 271, 272, 273, 274, 275, 276, 277, 278, 279, 280, 281, 282, 283, 284, 285, 286, 287, 288, 289, 290, 881, 882, 883, 884, 885, 886, 887, 888, 889, 890, 891, 892, 893, 894, 895, 896, 897, 898, 899, 900, 901] (by decide +kernel) (by decide +kernel)
set_option maxRecDepth 20000 in
theorem gL_law_X8_negative : GoodIn wsL_law (wsV RL 60 RX8 yX8_negative wsX8_negative) := goodIn_app (goodIn_of _ (by decide +kernel)) ggL_law_X8_negative
set_option maxRecDepth 20000 in
theorem ggL_law_X7_sift : GoodIn wsL_law wsX7_sift := goodIn_r _ [529, 34, 24, 530, 531, 2, 532, 486, 487, 488, 33, 489, 212, 89, 490, 491, 492, 493, 494, 495, 496, 23, 497, 68, 498, 533, 534, 535, 536, 207, 537, 538, 539, 540, 69, 74, 75, 76, 19, 77, 60, 541, 240, 241, 242, 57, 542, 244, 245, 246, 247, 248, 249, 250, 62, 251, 61, 58, 543, 544, 545, 546, 325, 326, 327, 328, 329, 330, 331, 547, 423, 424, 425, 548, 427, 428, 429, 59, 430, 431, 432, 433, 871, 872, 873, 874, 875, 876, 877, 878, 879, 880, 917, 918, 910, 911, 904, 905, 906, 907, 908, 909] (by decide +kernel) (by decide +kernel)
set_option maxRecDepth 20000 in
theorem gL_law_X7_sift : GoodIn wsL_law (wsV RL 61 RX7 yX7_sift wsX7_sift) := goodIn_app (goodIn_of _ (by decide +kernel)) ggL_law_X7_sift
set_option maxRecDepth 20000 in
theorem ggL_law_X8_sift : GoodIn wsL_law wsX8_sift := goodIn_r _ [552, 135, 553, 183, 108, 138, 139, 5, 140, 503, 504, 505, 506, 256, 111, 554, 555, 556, 557, 110, 189, 190, 191, 558, 559, 560, 269, 266, 267, 268, 270, 271, 272, 273, 274, 275, 276, 277, 278, 279, 280, 281, 282, 283, 284, 561, 562, 563, 353, 354, 355, 450, 451, 452, 288, 289, 290, 881, 882, 883, 884, 885, 886, 887, 888, 889, 890, 891, 892, 893, 894, 895, 896, 897, 898, 899, 900, 901] (by decide +kernel) (by decide +kernel)
set_option maxRecDepth 20000 in
theorem gL_law_X8_sift : GoodIn wsL_law (wsV RL 64 RX8 yX8_sift wsX8_sift) := goodIn_app (goodIn_of _ (by decide +kernel)) ggL_law_X8_sift
set_option maxRecDepth 20000 in
theorem ggL_law_X7_undo : GoodIn wsL_law wsX7_undo := goodIn_r _ [567, 34, 24, 568, 569, 570, 33, 571, 212, 89, 572, 573, 574, 23, 575, 68, 498, 491, 492, 493, 332, 333, 334, 335, 871, 872, 873, 874, 875, 876, 877, 878, 879, 880, 917, 918, 910, 911] (by decide +kernel) (by decide +kernel)
set_option maxRecDepth 20000 in
theorem gL_law_X7_undo : GoodIn wsL_law (wsV RL 65 RX7 yX7_undo wsX7_undo) := goodIn_app (goodIn_of _ (by decide +kernel)) ggL_law_X7_undo
set_option maxRecDepth 20000 in
theorem ggL_law_X8_undo : GoodIn wsL_law wsX8_undo := goodIn_r _ [579, 135, 256, 108, 111, 881, 882, 883, 884, 885, 886, 887, 888, 889, 890, 891, 892, 893, 894, 895, 896, 897, 898, 899, 900, 901] (by decide +kernel) (by decide +kernel)
set_option maxRecDepth 20000 in
theorem gL_law_X8_undo : GoodIn wsL_law (wsV RL 68 RX8 yX8_undo wsX8_undo) := goodIn_app (goodIn_of _ (by decide +kernel)) ggL_law_X8_undo
set_option maxRecDepth 20000 in
theorem ggL_law_X7_pass : GoodIn wsL_law wsX7_pass := goodIn_r _ [583, 20, 24, 370, 371, 372, 19, 373, 374, 200, 201, 202, 58, 59, 473, 232, 233, 23, 234, 68, 295, 240, 241, 242, 57, 584, 585, 586, 587, 588, 420, 244, 245, 246, 247, 248, 249, 250, 62, 251, 61, 871, 872, 873, 874, 875, 876, 877, 878, 879, 880, 904, 905, 906, 907, 908, 909, 910, 911] (by decide +kernel) (by decide +kernel)
set_option maxRecDepth 20000 in
theorem gL_law_X7_pass : GoodIn wsL_law (wsV RL 69 RX7 yX7_pass wsX7_pass) := goodIn_app (goodIn_of _ (by decide +kernel)) ggL_law_X7_pass
set_option maxRecDepth 20000 in
theorem ggL_law_X8_pass : GoodIn wsL_law wsX8_pass := goodIn_r _ [592, 135, 108, 383, 384, 385, 5, 386, 189, 190, 191, 138, 139, 140, 266, 267, 268, 269, 270, 271, 272, 273, 274, 275, 276, 277, 278, 279, 280, 281, 282, 283, 284, 881, 882, 883, 884, 885, 886, 887, 888, 889, 890, 891, 892, 893, 894, 895, 896, 897, 898, 899, 900, 901] (by decide +kernel) (by decide +kernel)
set_option maxRecDepth 20000 in
theorem gL_law_X8_pass : GoodIn wsL_law (wsV RL 72 RX8 yX8_pass wsX8_pass) := goodIn_app (goodIn_of _ (by decide +kernel)) ggL_law_X8_pass
