set_option maxRecDepth 20000 in
theorem gL_law_X7_join : GoodIn wsL_law (wsV RL 41 RX7 yX7_join wsX7_join) := goodIn_app (goodIn_of _ (by decide +kernel)) ggL_law_X7_join
set_option maxRecDepth 20000 in
theorem ggL_law_X6_part : GoodIn wsL_law wsX6_part := goodIn_r _ [240, 99, 20, 213, 214, 215, 2, 216, 217, 218, 219, 19, 220, 198, 221, 222, 223, 224, 53, 225, 226, 227, 228, 868, 869, 870, 871, 872, 873, 874, 875, 907, 908] (by decide +kernel) (by decide +kernel)
set_option maxRecDepth 20000 in
theorem gL_law_X6_part : GoodIn wsL_law (wsV RL 42 RX6 yX6_part wsX6_part) := goodIn_app (goodIn_of _ (by decide +kernel)) ggL_law_X6_part
set_option maxRecDepth 20000 in
theorem ggL_law_X7_part : GoodIn wsL_law wsX7_part := goodIn_r _ [244, 113, 115, 84, 233, 234, 235, 5, 236, 207, 121, 122, 123, 876, 877, 878, 879, 880, 881, 882, 883, 884, 885, 886, 887, 888, 889, 890, 891, 892, 893, 894, 895, 896, 897, 898, 899, 900, 901, 902, 903] (by decide +kernel) (by decide +kernel)
set_option maxRecDepth 20000 in
theorem gL_law_X7_part : GoodIn wsL_law (wsV RL 45 RX7 yX7_part wsX7_part) := goodIn_app (goodIn_of _ (by decide +kernel)) ggL_law_X7_part
set_option maxRecDepth 20000 in
theorem ggL_law_X6_far : GoodIn wsL_law wsX6_far := goodIn_r _ [248, 20, 99, 217, 218, 219, 19, 220, 198, 249, 250, 251, 252, 253, 254, 255, 256, 257, 53, 868, 869, 870, 871, 872, 873, 874, 875, 907, 908] (by decide +kernel) (by decide +kernel)
set_option maxRecDepth 20000 in
theorem gL_law_X6_far : GoodIn wsL_law (wsV RL 46 RX6 yX6_far wsX6_far) := goodIn_app (goodIn_of _ (by decide +kernel)) ggL_law_X6_far
set_option maxRecDepth 20000 in
theorem ggL_law_X7_far : GoodIn wsL_law wsX7_far := goodIn_r _ [261, 113, 115, 233, 234, 235, 5, 236, 207, 121, 122, 123, 262, 263, 264, 265, 266, 267, 268, 269, 270, 84, 876, 877, 878, 879, 880, 881, 882, 883, 884, 885, 886, 887, 888, 889, 890, 891, 892, 893, 894, 895, 896, 897, 898, 899, 900, 901, 902, 903] (by decide +kernel) (by decide +kernel)
set_option maxRecDepth 20000 in
theorem gL_law_X7_far : GoodIn wsL_law (wsV RL 49 RX7 yX7_far wsX7_far) := goodIn_app (goodIn_of _ (by decide +kernel)) ggL_law_X7_far
set_option maxRecDepth 20000 in
theorem ggL_law_X6_told : GoodIn wsL_law wsX6_told := goodIn_r _ [274, 20, 99, 217, 218, 219, 19, 220, 198, 275, 276, 277, 278, 53, 279, 280, 281, 282, 283, 284, 285, 286, 287, 288, 289, 290, 291, 292, 293, 254, 255, 256, 257, 294, 295, 296, 297, 868, 869, 870, 871, 872, 873, 874, 875, 907, 908] (by decide +kernel) (by decide +kernel)
set_option maxRecDepth 20000 in
theorem gL_law_X6_told : GoodIn wsL_law (wsV RL 50 RX6 yX6_told wsX6_told) := goodIn_app (goodIn_of _ (by decide +kernel)) ggL_law_X6_told
set_option maxRecDepth 20000 in
theorem ggL_law_X7_told : GoodIn wsL_law wsX7_told := goodIn_r _ [301, 113, 302, 115, 84, 233, 234, 235, 5, 236, 207, 121, 122, 123, 303, 304, 305, 306, 307, 308, 309, 262, 263, 264, 265, 266, 267, 268, 269, 270, 310, 311, 312, 313, 876, 877, 878, 879, 880, 881, 882, 883, 884, 885, 886, 887, 888, 889, 890, 891, 892, 893, 894, 895, 896, 897, 898, 899, 900, 901, 902, 903] (by decide +kernel) (by decide +kernel)
set_option maxRecDepth 20000 in
theorem gL_law_X7_told : GoodIn wsL_law (wsV RL 53 RX7 yX7_told wsX7_told) := goodIn_app (goodIn_of _ (by decide +kernel)) ggL_law_X7_told
set_option maxRecDepth 20000 in
theorem ggL_law_X6_hears : GoodIn wsL_law wsX6_hears := goodIn_r _ [317, 20, 99, 318, 319, 2, 320, 321, 322, 323, 19, 324, 325, 326, 327, 328, 198, 329, 330, 331, 332, 53, 868, 869, 870, 871, 872, 873, 874, 875, 907, 908] (by decide +kernel) (by decide +kernel)
set_option maxRecDepth 20000 in
theorem gL_law_X6_hears : GoodIn wsL_law (wsV RL 54 RX6 yX6_hears wsX6_hears) := goodIn_app (goodIn_of _ (by decide +kernel)) ggL_law_X6_hears
set_option maxRecDepth 20000 in
theorem ggL_law_X7_hears : GoodIn wsL_law wsX7_hears := goodIn_r _ [336, 113, 115, 337, 338, 5, 339, 121, 122, 123, 340, 341, 342, 343, 344, 345, 346, 347, 207, 348, 349, 350, 351, 84, 303, 304, 305, 876, 877, 878, 879, 880, 881, 882, 883, 884, 885, 886, 887, 888, 889, 890, 891, 892, 893, 894, 895, 896, 897, 898, 899, 900, 901, 902, 903] (by decide +kernel) (by decide +kernel)
set_option maxRecDepth 20000 in
theorem gL_law_X7_hears : GoodIn wsL_law (wsV RL 57 RX7 yX7_hears wsX7_hears) := goodIn_app (goodIn_of _ (by decide +kernel)) ggL_law_X7_hears
set_option maxRecDepth 20000 in
theorem ggL_law_X6_spreads : GoodIn wsL_law wsX6_spreads := goodIn_r _ [355, 20, 99, 318, 319, 2, 320, 321, 322, 323, 19, 324, 325, 326, 327, 328, 198, 356, 357, 358, 359, 360, 330, 331, 332, 53, 868, 869, 870, 871, 872, 873, 874, 875, 907, 908] (by decide +kernel) (by decide +kernel)
set_option maxRecDepth 20000 in
theorem gL_law_X6_spreads : GoodIn wsL_law (wsV RL 58 RX6 yX6_spreads wsX6_spreads) := goodIn_app (goodIn_of _ (by decide +kernel)) ggL_law_X6_spreads
set_option maxRecDepth 20000 in
theorem ggL_law_X7_spreads : GoodIn wsL_law wsX7_spreads := goodIn_r _ [364, 113, 115, 337, 338, 5, 339, 121, 122, 123, 340, 341, 342, 343, 344, 345, 346, 347, 207, 365, 366, 367, 368, 348, 349, 350, 351, 84, 303, 304, 305, 876, 877, 878, 879, 880, 881, 882, 883, 884, 885, 886, 887, 888, 889, 890, 891, 892, 893, 894, 895, 896, 897, 898, 899, 900, 901, 902, 903] (by decide +kernel) (by decide +kernel)
set_option maxRecDepth 20000 in
theorem gL_law_X7_spreads : GoodIn wsL_law (wsV RL 61 RX7 yX7_spreads wsX7_spreads) := goodIn_app (goodIn_of _ (by decide +kernel)) ggL_law_X7_spreads
set_option maxRecDepth 20000 in
theorem ggL_law_X6_feed : GoodIn wsL_law wsX6_feed := goodIn_r _ [372, 99, 24, 193, 373, 374, 375, 23, 376, 377, 378, 379, 380, 381, 57, 382, 868, 869, 870, 871, 872, 873, 874, 875, 909, 910, 911, 912, 913, 914, 915, 916] (by decide +kernel) (by decide +kernel)
set_option maxRecDepth 20000 in
theorem gL_law_X6_feed : GoodIn wsL_law (wsV RL 64 RX6 yX6_feed wsX6_feed) := goodIn_app (goodIn_of _ (by decide +kernel)) ggL_law_X6_feed
set_option maxRecDepth 20000 in
theorem ggL_law_X7_feed : GoodIn wsL_law wsX7_feed := goodIn_r _ [386, 113, 387, 115, 388, 208, 87, 389, 121, 122, 5, 123, 876, 877, 878, 879, 880, 881, 882, 883, 884, 885, 886, 887, 888, 889, 890, 891, 892, 893, 894, 895, 896, 897, 898, 899, 900, 901, 902, 903] (by decide +kernel) (by decide +kernel)
set_option maxRecDepth 20000 in
theorem gL_law_X7_feed : GoodIn wsL_law (wsV RL 68 RX7 yX7_feed wsX7_feed) := goodIn_app (goodIn_of _ (by decide +kernel)) ggL_law_X7_feed
set_option maxRecDepth 20000 in
theorem ggL_law_X6_schedule : GoodIn wsL_law wsX6_schedule := goodIn_r _ [393, 24, 20, 394, 395, 28, 396, 397, 398, 19, 399, 198, 400, 401, 402, 23, 403, 404, 405, 406, 377, 407, 408, 409, 410, 411, 57, 412, 413, 414, 415, 416, 417, 418, 419, 420, 421, 422, 423, 424, 425, 426, 427, 428, 429, 430, 431, 432, 433, 434, 435, 436, 437, 438, 439, 440, 441, 442, 443, 444, 445, 446, 447, 448, 449, 450, 451, 452, 453, 454, 455, 456, 457, 458, 459, 460, 461, 462, 463, 464, 465, 466, 467, 468, 469, 470, 471, 472, 473, 474, 475, 476, 477, 478, 479, 480, 481, 482, 483, 58, 484, 485, 486, 487, 488, 489, 490, 491, 492, 493, 494, 495, 496, 497, 498, 499, 500, 501, 502, 27, 503, 62, 504, 505, 506, 507, 508, 509, 169, 170, 171, 510, 511, 512, 513, 868, 869, 870, 871, 872, 873, 874, 875, 907, 908, 909, 910, 911, 912, 913, 914, 915, 916, 917, 918] (by decide +kernel) (by decide +kernel)
set_option maxRecDepth 20000 in
theorem gL_law_X6_schedule : GoodIn wsL_law (wsV RL 69 RX6 yX6_schedule wsX6_schedule) := goodIn_app (goodIn_of _ (by decide +kernel)) ggL_law_X6_schedule
