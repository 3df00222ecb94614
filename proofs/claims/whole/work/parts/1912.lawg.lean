/-! the law's callees' words -/
set_option maxRecDepth 20000 in
theorem ggL_law_X7_grows : GoodIn wsL_law wsX7_grows := goodIn_r _ [596, 20, 28, 24, 370, 371, 372, 19, 373, 374, 200, 201, 202, 58, 59, 597, 598, 2, 599, 391, 392, 393, 27, 394, 84, 85, 395, 396, 376, 377, 23, 378, 68, 235, 236, 237, 238, 231, 232, 233, 234, 239, 240, 241, 242, 57, 243, 244, 245, 246, 247, 248, 249, 250, 62, 251, 61, 375, 600, 601, 602, 603, 312, 313, 314, 315, 226, 401, 326, 327, 328, 329, 330, 331, 402, 604, 605, 606, 607, 608, 609, 610, 611, 612, 871, 872, 873, 874, 875, 876, 877, 878, 879, 880, 904, 905, 906, 907, 908, 909, 912, 913, 914, 915, 916, 910, 911] (by decide +kernel) (by decide +kernel)
set_option maxRecDepth 20000 in
theorem gL_law_X7_grows : GoodIn wsL_law (wsV RL 73 RX7 yX7_grows wsX7_grows) := goodIn_app (goodIn_of _ (by decide +kernel)) ggL_law_X7_grows
set_option maxRecDepth 20000 in
theorem ggL_law_X8_grows : GoodIn wsL_law wsX8_grows := goodIn_r _ [616, 135, 184, 108, 617, 618, 383, 384, 385, 5, 386, 189, 190, 191, 138, 139, 140, 263, 264, 265, 266, 267, 268, 269, 270, 271, 272, 273, 274, 275, 276, 277, 278, 279, 280, 281, 282, 283, 284, 619, 620, 621, 622, 288, 289, 290, 285, 286, 287, 353, 354, 355, 623, 624, 625, 626, 627, 628, 881, 882, 883, 884, 885, 886, 887, 888, 889, 890, 891, 892, 893, 894, 895, 896, 897, 898, 899, 900, 901] (by decide +kernel) (by decide +kernel)
set_option maxRecDepth 20000 in
theorem gL_law_X8_grows : GoodIn wsL_law (wsV RL 77 RX8 yX8_grows wsX8_grows) := goodIn_app (goodIn_of _ (by decide +kernel)) ggL_law_X8_grows
set_option maxRecDepth 20000 in
theorem ggL_law_X7_steady : GoodIn wsL_law wsX7_steady := goodIn_r _ [632, 20, 28, 24, 370, 371, 372, 19, 373, 374, 200, 201, 202, 58, 59, 597, 598, 2, 599, 391, 392, 393, 27, 394, 84, 85, 395, 396, 376, 377, 23, 378, 68, 235, 236, 237, 238, 231, 232, 233, 234, 239, 240, 241, 242, 57, 243, 244, 245, 246, 247, 248, 249, 250, 62, 251, 61, 375, 633, 634, 635, 636, 226, 637, 601, 602, 603, 312, 313, 314, 315, 401, 326, 327, 328, 329, 330, 331, 407, 408, 409, 410, 638, 639, 640, 641, 871, 872, 873, 874, 875, 876, 877, 878, 879, 880, 904, 905, 906, 907, 908, 909, 912, 913, 914, 915, 916, 910, 911] (by decide +kernel) (by decide +kernel)
set_option maxRecDepth 20000 in
theorem gL_law_X7_steady : GoodIn wsL_law (wsV RL 78 RX7 yX7_steady wsX7_steady) := goodIn_app (goodIn_of _ (by decide +kernel)) ggL_law_X7_steady
set_option maxRecDepth 20000 in
theorem ggL_law_X8_steady : GoodIn wsL_law wsX8_steady := goodIn_r _ [645, 135, 184, 108, 383, 384, 385, 5, 386, 189, 190, 191, 138, 139, 140, 263, 264, 265, 266, 267, 268, 269, 270, 271, 272, 273, 274, 275, 276, 277, 278, 279, 280, 281, 282, 283, 284, 646, 647, 648, 649, 350, 351, 352, 285, 286, 287, 288, 289, 290, 650, 651, 652, 653, 617, 618, 619, 620, 621, 622, 353, 354, 355, 260, 261, 262, 881, 882, 883, 884, 885, 886, 887, 888, 889, 890, 891, 892, 893, 894, 895, 896, 897, 898, 899, 900, 901] (by decide +kernel) (by decide +kernel)
set_option maxRecDepth 20000 in
theorem gL_law_X8_steady : GoodIn wsL_law (wsV RL 81 RX8 yX8_steady wsX8_steady) := goodIn_app (goodIn_of _ (by decide +kernel)) ggL_law_X8_steady
set_option maxRecDepth 20000 in
theorem ggL_law_X7_judge : GoodIn wsL_law wsX7_judge := goodIn_r _ [657, 29, 24, 658, 659, 660, 2, 661, 662, 663, 664, 23, 665, 68, 666, 495, 496, 497, 498, 491, 492, 493, 667, 668, 669, 670, 20, 30, 671, 672, 673, 674, 370, 371, 372, 19, 373, 374, 200, 201, 202, 58, 59, 203, 204, 205, 206, 207, 675, 676, 677, 678, 511, 512, 513, 514, 69, 74, 75, 76, 77, 60, 442, 232, 233, 234, 515, 516, 517, 518, 679, 680, 681, 682, 530, 531, 532, 533, 534, 535, 536, 537, 538, 539, 540, 541, 240, 241, 242, 57, 542, 244, 245, 246, 247, 248, 249, 250, 62, 251, 61, 543, 544, 545, 546, 325, 326, 327, 328, 329, 330, 331, 547, 423, 424, 425, 548, 427, 428, 429, 430, 431, 432, 433, 391, 392, 393, 27, 394, 84, 85, 395, 396, 376, 377, 378, 235, 236, 237, 238, 231, 239, 243, 375, 683, 408, 409, 410, 473, 295, 474, 417, 418, 419, 420, 434, 435, 436, 437, 438, 439, 440, 441, 871, 872, 873, 874, 875, 876, 877, 878, 879, 880, 910, 911, 904, 905, 906, 907, 908, 909, 912, 913, 914, 915, 916] (by decide +kernel) (by decide +kernel)
set_option maxRecDepth 20000 in
theorem gL_law_X7_judge : GoodIn wsL_law (wsV RL 84 RX7 yX7_judge wsX7_judge) := goodIn_app (goodIn_of _ (by decide +kernel)) ggL_law_X7_judge
set_option maxRecDepth 20000 in
theorem ggL_law_X8_judge : GoodIn wsL_law wsX8_judge := goodIn_r _ [687, 135, 688, 689, 138, 139, 5, 140, 690, 691, 692, 693, 694, 695, 696, 109, 108, 697, 698, 699, 700, 553, 183, 189, 190, 191, 523, 524, 525, 554, 555, 556, 557, 110, 558, 559, 560, 269, 266, 267, 268, 270, 271, 272, 273, 274, 275, 276, 277, 278, 279, 280, 281, 282, 283, 284, 561, 562, 563, 353, 354, 355, 450, 451, 452, 288, 289, 290, 701, 702, 703, 704, 479, 480, 481, 263, 264, 265, 350, 351, 352, 285, 286, 287, 453, 454, 455, 456, 457, 458, 881, 882, 883, 884, 885, 886, 887, 888, 889, 890, 891, 892, 893, 894, 895, 896, 897, 898, 899, 900, 901] (by decide +kernel) (by decide +kernel)
set_option maxRecDepth 20000 in
theorem gL_law_X8_judge : GoodIn wsL_law (wsV RL 88 RX8 yX8_judge wsX8_judge) := goodIn_app (goodIn_of _ (by decide +kernel)) ggL_law_X8_judge
set_option maxRecDepth 20000 in
theorem ggL_law_X7_share : GoodIn wsL_law wsX7_share := goodIn_r _ [708, 20, 24, 709, 710, 711, 19, 712, 59, 472, 173, 2, 174, 473, 232, 233, 23, 234, 68, 713, 714, 715, 716, 300, 301, 302, 303, 717, 718, 719, 720, 721, 722, 723, 724, 725, 726, 727, 728, 729, 730, 731, 732, 733, 734, 430, 431, 432, 433, 58, 295, 240, 241, 242, 57, 474, 417, 418, 419, 251, 420, 244, 245, 246, 247, 248, 249, 250, 62, 61, 604, 605, 606, 607, 608, 314, 609, 610, 611, 612, 871, 872, 873, 874, 875, 876, 877, 878, 879, 880, 904, 905, 906, 907, 908, 909, 910, 911] (by decide +kernel) (by decide +kernel)
set_option maxRecDepth 20000 in
theorem gL_law_X7_share : GoodIn wsL_law (wsV RL 89 RX7 yX7_share wsX7_share) := goodIn_app (goodIn_of _ (by decide +kernel)) ggL_law_X7_share
set_option maxRecDepth 20000 in
theorem ggL_law_X8_share : GoodIn wsL_law wsX8_share := goodIn_r _ [738, 135, 108, 184, 117, 138, 139, 5, 140, 739, 740, 741, 742, 189, 190, 191, 273, 274, 275, 479, 480, 481, 269, 270, 271, 272, 276, 277, 278, 279, 280, 281, 282, 283, 284, 353, 354, 355, 743, 744, 745, 623, 624, 625, 626, 627, 628, 881, 882, 883, 884, 885, 886, 887, 888, 889, 890, 891, 892, 893, 894, 895, 896, 897, 898, 899, 900, 901] (by decide +kernel) (by decide +kernel)
set_option maxRecDepth 20000 in
theorem gL_law_X8_share : GoodIn wsL_law (wsV RL 92 RX8 yX8_share wsX8_share) := goodIn_app (goodIn_of _ (by decide +kernel)) ggL_law_X8_share
set_option maxRecDepth 20000 in
theorem ggL_law_X7_see : GoodIn wsL_law wsX7_see := goodIn_r _ [749, 20, 42, 370, 371, 372, 19, 373, 374, 200, 201, 202, 58, 59, 750, 751, 752, 41, 753, 340, 99, 100, 101, 336, 337, 338, 339, 871, 872, 873, 874, 875, 876, 877, 878, 879, 880, 904, 905, 906, 907, 908, 909, 921, 922, 923, 924] (by decide +kernel) (by decide +kernel)
set_option maxRecDepth 20000 in
theorem gL_law_X7_see : GoodIn wsL_law (wsV RL 93 RX7 yX7_see wsX7_see) := goodIn_app (goodIn_of _ (by decide +kernel)) ggL_law_X7_see
set_option maxRecDepth 20000 in
theorem ggL_law_X8_see : GoodIn wsL_law wsX8_see := goodIn_r _ [757, 135, 345, 114, 115, 116, 383, 384, 385, 5, 386, 108, 189, 190, 191, 138, 139, 140, 881, 882, 883, 884, 885, 886, 887, 888, 889, 890, 891, 892, 893, 894, 895, 896, 897, 898, 899, 900, 901] (by decide +kernel) (by decide +kernel)
set_option maxRecDepth 20000 in
theorem gL_law_X8_see : GoodIn wsL_law (wsV RL 97 RX8 yX8_see wsX8_see) := goodIn_app (goodIn_of _ (by decide +kernel)) ggL_law_X8_see
set_option maxRecDepth 20000 in
theorem ggL_law_X7_unsee : GoodIn wsL_law wsX7_unsee := goodIn_r _ [761, 42, 336, 337, 338, 41, 339, 340, 762, 763, 764, 765, 871, 872, 873, 874, 875, 876, 877, 878, 879, 880, 921, 922, 923, 924] (by decide +kernel) (by decide +kernel)
set_option maxRecDepth 20000 in
theorem gL_law_X7_unsee : GoodIn wsL_law (wsV RL 98 RX7 yX7_unsee wsX7_unsee) := goodIn_app (goodIn_of _ (by decide +kernel)) ggL_law_X7_unsee
set_option maxRecDepth 20000 in
theorem ggL_law_X8_unsee : GoodIn wsL_law wsX8_unsee := goodIn_r _ [769, 135, 345, 881, 882, 883, 884, 885, 886, 887, 888, 889, 890, 891, 892, 893, 894, 895, 896, 897, 898, 899, 900, 901] (by decide +kernel) (by decide +kernel)
set_option maxRecDepth 20000 in
theorem gL_law_X8_unsee : GoodIn wsL_law (wsV RL 101 RX8 yX8_unsee wsX8_unsee) := goodIn_app (goodIn_of _ (by decide +kernel)) ggL_law_X8_unsee
set_option maxRecDepth 20000 in
theorem ggL_law_X7_ways : GoodIn wsL_law wsX7_ways := goodIn_r _ [773, 42, 20, 24, 473, 232, 233, 23, 234, 68, 774, 775, 776, 41, 777, 340, 99, 100, 101, 778, 585, 586, 19, 587, 588, 371, 372, 373, 374, 200, 201, 202, 58, 59, 420, 244, 245, 246, 247, 248, 249, 250, 62, 251, 61, 871, 872, 873, 874, 875, 876, 877, 878, 879, 880, 910, 911, 921, 922, 923, 924, 904, 905, 906, 907, 908, 909] (by decide +kernel) (by decide +kernel)
set_option maxRecDepth 20000 in
theorem gL_law_X7_ways : GoodIn wsL_law (wsV RL 102 RX7 yX7_ways wsX7_ways) := goodIn_app (goodIn_of _ (by decide +kernel)) ggL_law_X7_ways
set_option maxRecDepth 20000 in
theorem ggL_law_X8_ways : GoodIn wsL_law wsX8_ways := goodIn_r _ [782, 135, 783, 784, 138, 139, 5, 140, 785, 786, 787, 788, 108, 269, 345, 114, 115, 116, 270, 271, 272, 189, 190, 191, 273, 274, 275, 276, 277, 278, 279, 280, 281, 282, 283, 284, 881, 882, 883, 884, 885, 886, 887, 888, 889, 890, 891, 892, 893, 894, 895, 896, 897, 898, 899, 900, 901] (by decide +kernel) (by decide +kernel)
set_option maxRecDepth 20000 in
theorem gL_law_X8_ways : GoodIn wsL_law (wsV RL 105 RX8 yX8_ways wsX8_ways) := goodIn_app (goodIn_of _ (by decide +kernel)) ggL_law_X8_ways
set_option maxRecDepth 20000 in
theorem ggL_law_X7_fades : GoodIn wsL_law wsX7_fades := goodIn_r _ [792, 20, 24, 709, 710, 711, 19, 712, 59, 473, 232, 233, 23, 234, 68, 793, 431, 432, 433, 58, 794, 795, 796, 2, 797, 463, 295, 240, 241, 242, 57, 474, 417, 418, 419, 251, 420, 244, 245, 246, 247, 248, 249, 250, 62, 61, 402, 326, 327, 328, 329, 330, 331, 798, 799, 800, 604, 605, 606, 607, 608, 314, 609, 610, 611, 612, 871, 872, 873, 874, 875, 876, 877, 878, 879, 880, 904, 905, 906, 907, 908, 909, 910, 911] (by decide +kernel) (by decide +kernel)
set_option maxRecDepth 20000 in
theorem gL_law_X7_fades : GoodIn wsL_law (wsV RL 106 RX7 yX7_fades wsX7_fades) := goodIn_app (goodIn_of _ (by decide +kernel)) ggL_law_X7_fades
