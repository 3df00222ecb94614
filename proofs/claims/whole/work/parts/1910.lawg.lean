/-! the law's callees' words -/
set_option maxRecDepth 20000 in
theorem ggL_law_X7_init : GoodIn wsL_law wsX7_init := goodIn_r _ [9, 10, 11, 12, 13, 14, 15, 16, 17, 18, 19, 20, 21, 22, 23, 24, 25, 26, 27, 28, 29, 30, 31, 32, 33, 34, 35, 36, 37, 38, 39, 40, 41, 42, 43, 44, 45, 46, 47, 48, 49, 50, 51, 52, 53, 54, 55, 56, 57, 58, 59, 60, 61, 62, 63, 64, 65, 66, 67, 68, 69, 70, 71, 72, 73, 74, 75, 76, 77, 78, 79, 80, 81, 82, 83, 84, 85, 86, 87, 88, 89, 90, 91, 92, 93, 94, 95, 96, 97, 98, 99, 100, 101, 902, 903, 871, 872, 873, 874, 875, 876, 877, 878, 879, 880, 904, 905, 906, 907, 908, 909, 910, 911, 912, 913, 914, 915, 916, 917, 918, 919, 920, 921, 922, 923, 924] (by decide +kernel) (by decide +kernel)
set_option maxRecDepth 20000 in
theorem gL_law_X7_init : GoodIn wsL_law (wsX7_init) := ggL_law_X7_init
set_option maxRecDepth 20000 in
theorem ggL_law_X8_init : GoodIn wsL_law wsX8_init := goodIn_r _ [104, 105, 11, 12, 47, 106, 107, 108, 109, 110, 111, 112, 94, 113, 114, 115, 116, 117, 881, 882, 883, 884, 885, 886, 887, 888, 889, 890, 891, 892, 893, 894, 895, 896, 897, 898, 899, 900, 901] (by decide +kernel) (by decide +kernel)
set_option maxRecDepth 20000 in
theorem gL_law_X8_init : GoodIn wsL_law (wsX8_init) := ggL_law_X8_init
set_option maxRecDepth 20000 in
theorem ggL_law_X7_write : GoodIn wsL_law wsX7_write := goodIn_r _ [121, 16, 122, 123, 124, 15, 125, 126, 48, 127, 128, 129, 130, 871, 872, 873, 874, 875, 876, 877, 878, 879, 880, 902, 903] (by decide +kernel) (by decide +kernel)
set_option maxRecDepth 20000 in
theorem gL_law_X7_write : GoodIn wsL_law (wsV RL 13 RX7 yX7_write wsX7_write) := goodIn_app (goodIn_of _ (by decide +kernel)) ggL_law_X7_write
set_option maxRecDepth 20000 in
theorem ggL_law_X8_write : GoodIn wsL_law wsX8_write := goodIn_r _ [134, 135, 136, 137, 106, 138, 139, 5, 140, 881, 882, 883, 884, 885, 886, 887, 888, 889, 890, 891, 892, 893, 894, 895, 896, 897, 898, 899, 900, 901] (by decide +kernel) (by decide +kernel)
set_option maxRecDepth 20000 in
theorem gL_law_X8_write : GoodIn wsL_law (wsV RL 17 RX8 yX8_write wsX8_write) := goodIn_app (goodIn_of _ (by decide +kernel)) ggL_law_X8_write
set_option maxRecDepth 20000 in
theorem ggL_law_X7_wipe : GoodIn wsL_law wsX7_wipe := goodIn_r _ [144, 16, 127, 128, 129, 15, 130, 126, 145, 146, 147, 148, 871, 872, 873, 874, 875, 876, 877, 878, 879, 880, 902, 903] (by decide +kernel) (by decide +kernel)
set_option maxRecDepth 20000 in
theorem gL_law_X7_wipe : GoodIn wsL_law (wsV RL 18 RX7 yX7_wipe wsX7_wipe) := goodIn_app (goodIn_of _ (by decide +kernel)) ggL_law_X7_wipe
set_option maxRecDepth 20000 in
theorem ggL_law_X8_wipe : GoodIn wsL_law wsX8_wipe := goodIn_r _ [152, 135, 137, 881, 882, 883, 884, 885, 886, 887, 888, 889, 890, 891, 892, 893, 894, 895, 896, 897, 898, 899, 900, 901] (by decide +kernel) (by decide +kernel)
set_option maxRecDepth 20000 in
theorem gL_law_X8_wipe : GoodIn wsL_law (wsV RL 22 RX8 yX8_wipe wsX8_wipe) := goodIn_app (goodIn_of _ (by decide +kernel)) ggL_law_X8_wipe
set_option maxRecDepth 20000 in
theorem ggL_law_X7_fault : GoodIn wsL_law wsX7_fault := goodIn_r _ [156, 16, 157, 158, 159, 15, 160, 126, 161, 162, 163, 164, 165, 166, 167, 168, 48, 169, 170, 171, 172, 173, 2, 174, 871, 872, 873, 874, 875, 876, 877, 878, 879, 880, 902, 903] (by decide +kernel) (by decide +kernel)
set_option maxRecDepth 20000 in
theorem gL_law_X7_fault : GoodIn wsL_law (wsV RL 23 RX7 yX7_fault wsX7_fault) := goodIn_app (goodIn_of _ (by decide +kernel)) ggL_law_X7_fault
set_option maxRecDepth 20000 in
theorem ggL_law_X8_fault : GoodIn wsL_law wsX8_fault := goodIn_r _ [178, 135, 179, 180, 181, 5, 182, 107, 106, 183, 184, 137, 185, 186, 187, 188, 138, 139, 140, 189, 190, 191, 881, 882, 883, 884, 885, 886, 887, 888, 889, 890, 891, 892, 893, 894, 895, 896, 897, 898, 899, 900, 901] (by decide +kernel) (by decide +kernel)
set_option maxRecDepth 20000 in
theorem gL_law_X8_fault : GoodIn wsL_law (wsV RL 26 RX8 yX8_fault wsX8_fault) := goodIn_app (goodIn_of _ (by decide +kernel)) ggL_law_X8_fault
set_option maxRecDepth 20000 in
theorem ggL_law_X7_picture : GoodIn wsL_law wsX7_picture := goodIn_r _ [195, 16, 20, 24, 34, 38, 28, 157, 158, 159, 15, 160, 126, 161, 162, 163, 164, 165, 166, 167, 168, 48, 169, 170, 171, 172, 173, 2, 174, 196, 197, 54, 55, 19, 56, 57, 58, 59, 60, 61, 62, 198, 71, 72, 23, 73, 68, 69, 74, 75, 76, 77, 199, 200, 201, 202, 203, 204, 205, 206, 207, 208, 209, 210, 33, 211, 212, 213, 214, 215, 37, 216, 95, 217, 218, 219, 27, 220, 221, 222, 223, 224, 225, 82, 83, 226, 227, 228, 229, 230, 85, 231, 232, 233, 234, 235, 236, 237, 238, 84, 239, 240, 241, 242, 243, 244, 245, 246, 247, 248, 249, 250, 251, 871, 872, 873, 874, 875, 876, 877, 878, 879, 880, 902, 903, 904, 905, 906, 907, 908, 909, 910, 911, 917, 918, 919, 920, 912, 913, 914, 915, 916] (by decide +kernel) (by decide +kernel)
set_option maxRecDepth 20000 in
theorem gL_law_X7_picture : GoodIn wsL_law (wsV RL 27 RX7 yX7_picture wsX7_picture) := goodIn_app (goodIn_of _ (by decide +kernel)) ggL_law_X7_picture
set_option maxRecDepth 20000 in
theorem ggL_law_X8_picture : GoodIn wsL_law wsX8_picture := goodIn_r _ [255, 135, 108, 107, 256, 113, 179, 180, 181, 5, 182, 106, 183, 184, 137, 185, 186, 187, 188, 138, 139, 140, 189, 190, 191, 257, 258, 259, 260, 261, 262, 263, 264, 265, 266, 267, 268, 269, 270, 271, 272, 273, 274, 275, 276, 277, 278, 279, 280, 281, 282, 283, 284, 285, 286, 287, 288, 289, 290, 881, 882, 883, 884, 885, 886, 887, 888, 889, 890, 891, 892, 893, 894, 895, 896, 897, 898, 899, 900, 901] (by decide +kernel) (by decide +kernel)
set_option maxRecDepth 20000 in
theorem gL_law_X8_picture : GoodIn wsL_law (wsV RL 30 RX8 yX8_picture wsX8_picture) := goodIn_app (goodIn_of _ (by decide +kernel)) ggL_law_X8_picture
set_option maxRecDepth 20000 in
theorem ggL_law_X7_about : GoodIn wsL_law wsX7_about := goodIn_r _ [294, 20, 28, 24, 34, 42, 16, 295, 240, 241, 19, 242, 57, 296, 297, 298, 299, 58, 300, 301, 302, 303, 59, 217, 218, 219, 27, 220, 221, 222, 223, 224, 225, 82, 83, 226, 227, 228, 229, 230, 85, 231, 232, 233, 23, 234, 68, 235, 236, 237, 238, 84, 239, 243, 244, 245, 246, 247, 248, 249, 250, 62, 251, 61, 304, 305, 306, 307, 308, 309, 310, 311, 312, 313, 314, 315, 316, 317, 318, 319, 320, 75, 76, 77, 60, 321, 322, 323, 324, 325, 326, 327, 328, 329, 330, 331, 332, 333, 334, 33, 335, 212, 336, 337, 338, 41, 339, 340, 127, 128, 129, 15, 130, 126, 871, 872, 873, 874, 875, 876, 877, 878, 879, 880, 904, 905, 906, 907, 908, 909, 912, 913, 914, 915, 916, 910, 911, 917, 918, 921, 922, 923, 924, 902, 903] (by decide +kernel) (by decide +kernel)
set_option maxRecDepth 20000 in
theorem gL_law_X7_about : GoodIn wsL_law (wsV RL 31 RX7 yX7_about wsX7_about) := goodIn_app (goodIn_of _ (by decide +kernel)) ggL_law_X7_about
set_option maxRecDepth 20000 in
theorem ggL_law_X8_about : GoodIn wsL_law wsX8_about := goodIn_r _ [344, 135, 108, 269, 256, 345, 137, 257, 258, 5, 259, 189, 190, 191, 260, 261, 262, 263, 264, 265, 266, 267, 268, 270, 271, 272, 273, 274, 275, 276, 277, 278, 279, 280, 281, 282, 283, 284, 285, 286, 287, 288, 289, 290, 346, 347, 348, 349, 350, 351, 352, 353, 354, 355, 356, 357, 358, 359, 360, 361, 362, 363, 364, 365, 881, 882, 883, 884, 885, 886, 887, 888, 889, 890, 891, 892, 893, 894, 895, 896, 897, 898, 899, 900, 901] (by decide +kernel) (by decide +kernel)
set_option maxRecDepth 20000 in
theorem gL_law_X8_about : GoodIn wsL_law (wsV RL 34 RX8 yX8_about wsX8_about) := goodIn_app (goodIn_of _ (by decide +kernel)) ggL_law_X8_about
set_option maxRecDepth 20000 in
theorem ggL_law_X7_shade : GoodIn wsL_law wsX7_shade := goodIn_r _ [369, 20, 24, 370, 371, 372, 19, 373, 374, 200, 201, 202, 58, 59, 375, 376, 377, 23, 378, 68, 871, 872, 873, 874, 875, 876, 877, 878, 879, 880, 904, 905, 906, 907, 908, 909, 910, 911] (by decide +kernel) (by decide +kernel)
set_option maxRecDepth 20000 in
theorem gL_law_X7_shade : GoodIn wsL_law (wsV RL 35 RX7 yX7_shade wsX7_shade) := goodIn_app (goodIn_of _ (by decide +kernel)) ggL_law_X7_shade
set_option maxRecDepth 20000 in
theorem ggL_law_X8_shade : GoodIn wsL_law wsX8_shade := goodIn_r _ [382, 135, 108, 383, 384, 385, 5, 386, 189, 190, 191, 138, 139, 140, 881, 882, 883, 884, 885, 886, 887, 888, 889, 890, 891, 892, 893, 894, 895, 896, 897, 898, 899, 900, 901] (by decide +kernel) (by decide +kernel)
set_option maxRecDepth 20000 in
theorem gL_law_X8_shade : GoodIn wsL_law (wsV RL 38 RX8 yX8_shade wsX8_shade) := goodIn_app (goodIn_of _ (by decide +kernel)) ggL_law_X8_shade
set_option maxRecDepth 20000 in
theorem ggL_law_X7_node : GoodIn wsL_law wsX7_node := goodIn_r _ [390, 20, 24, 28, 370, 371, 372, 19, 373, 374, 200, 201, 202, 58, 59, 375, 376, 377, 23, 378, 68, 391, 392, 393, 27, 394, 84, 85, 395, 396, 235, 236, 237, 238, 231, 232, 233, 234, 239, 240, 241, 242, 57, 243, 244, 245, 246, 247, 248, 249, 250, 62, 251, 61, 397, 398, 399, 400, 227, 228, 229, 230, 226, 401, 326, 327, 328, 329, 330, 331, 402, 321, 322, 323, 324, 325, 403, 404, 405, 406, 407, 408, 409, 410, 411, 412, 413, 414, 415, 416, 417, 418, 419, 420, 421, 317, 318, 319, 422, 423, 424, 425, 426, 427, 428, 429, 430, 431, 432, 433, 434, 435, 436, 437, 438, 439, 440, 441, 442, 871, 872, 873, 874, 875, 876, 877, 878, 879, 880, 904, 905, 906, 907, 908, 909, 910, 911, 912, 913, 914, 915, 916] (by decide +kernel) (by decide +kernel)
set_option maxRecDepth 20000 in
theorem gL_law_X7_node : GoodIn wsL_law (wsV RL 39 RX7 yX7_node wsX7_node) := goodIn_app (goodIn_of _ (by decide +kernel)) ggL_law_X7_node
