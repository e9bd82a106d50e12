set_option maxRecDepth 20000 in
theorem ggL_law_X7_schedule : GoodIn wsL_law wsX7_schedule := goodIn_r _ [517, 113, 388, 518, 519, 520, 521, 522, 523, 524, 525, 526, 85, 86, 527, 528, 529, 5, 530, 531, 266, 532, 533, 534, 535, 536, 87, 537, 538, 539, 540, 541, 542, 543, 544, 545, 546, 547, 548, 549, 207, 550, 551, 552, 553, 554, 555, 556, 557, 558, 559, 560, 561, 876, 877, 878, 879, 880, 881, 882, 883, 884, 885, 886, 887, 888, 889, 890, 891, 892, 893, 894, 895, 896, 897, 898, 899, 900, 901, 902, 903] (by decide +kernel) (by decide +kernel)
set_option maxRecDepth 20000 in
theorem gL_law_X7_schedule : GoodIn wsL_law (wsV RL 72 RX7 yX7_schedule wsX7_schedule) := goodIn_app (goodIn_of _ (by decide +kernel)) ggL_law_X7_schedule
set_option maxRecDepth 20000 in
theorem ggL_law_X6_fault : GoodIn wsL_law wsX6_fault := goodIn_r _ [565, 394, 868, 869, 870, 871, 872, 873, 874, 875] (by decide +kernel) (by decide +kernel)
set_option maxRecDepth 20000 in
theorem gL_law_X6_fault : GoodIn wsL_law (wsV RL 73 RX6 yX6_fault wsX6_fault) := goodIn_app (goodIn_of _ (by decide +kernel)) ggL_law_X6_fault
set_option maxRecDepth 20000 in
theorem ggL_law_X7_fault : GoodIn wsL_law wsX7_fault := goodIn_r _ [569, 113, 523, 876, 877, 878, 879, 880, 881, 882, 883, 884, 885, 886, 887, 888, 889, 890, 891, 892, 893, 894, 895, 896, 897, 898, 899, 900, 901, 902, 903] (by decide +kernel) (by decide +kernel)
set_option maxRecDepth 20000 in
theorem gL_law_X7_fault : GoodIn wsL_law (wsV RL 76 RX7 yX7_fault wsX7_fault) := goodIn_app (goodIn_of _ (by decide +kernel)) ggL_law_X7_fault
set_option maxRecDepth 20000 in
theorem ggL_law_X6_round : GoodIn wsL_law wsX6_round := goodIn_r _ [573, 28, 20, 574, 575, 576, 577, 27, 578, 504, 579, 326, 327, 19, 328, 198, 580, 581, 582, 583, 62, 868, 869, 870, 871, 872, 873, 874, 875, 917, 918, 907, 908] (by decide +kernel) (by decide +kernel)
set_option maxRecDepth 20000 in
theorem gL_law_X6_round : GoodIn wsL_law (wsV RL 77 RX6 yX6_round wsX6_round) := goodIn_app (goodIn_of _ (by decide +kernel)) ggL_law_X6_round
set_option maxRecDepth 20000 in
theorem ggL_law_X7_round : GoodIn wsL_law wsX7_round := goodIn_r _ [587, 113, 526, 266, 121, 122, 5, 123, 588, 589, 590, 591, 85, 344, 345, 346, 347, 207, 876, 877, 878, 879, 880, 881, 882, 883, 884, 885, 886, 887, 888, 889, 890, 891, 892, 893, 894, 895, 896, 897, 898, 899, 900, 901, 902, 903] (by decide +kernel) (by decide +kernel)
set_option maxRecDepth 20000 in
theorem gL_law_X7_round : GoodIn wsL_law (wsV RL 80 RX7 yX7_round wsX7_round) := goodIn_app (goodIn_of _ (by decide +kernel)) ggL_law_X7_round
set_option maxRecDepth 20000 in
theorem ggL_law_X6_run : GoodIn wsL_law wsX6_run := goodIn_r _ [595, 20, 99, 28, 596, 318, 319, 2, 320, 217, 218, 219, 19, 220, 198, 510, 511, 512, 27, 513, 504, 579, 326, 327, 328, 597, 598, 599, 600, 601, 581, 582, 583, 62, 356, 357, 358, 359, 360, 330, 331, 332, 53, 868, 869, 870, 871, 872, 873, 874, 875, 907, 908, 917, 918] (by decide +kernel) (by decide +kernel)
set_option maxRecDepth 20000 in
theorem gL_law_X6_run : GoodIn wsL_law (wsV RL 81 RX6 yX6_run wsX6_run) := goodIn_app (goodIn_of _ (by decide +kernel)) ggL_law_X6_run
set_option maxRecDepth 20000 in
theorem ggL_law_X7_run : GoodIn wsL_law wsX7_run := goodIn_r _ [605, 113, 606, 115, 526, 607, 337, 338, 5, 339, 121, 122, 123, 233, 234, 235, 236, 207, 588, 589, 590, 591, 85, 344, 345, 346, 347, 365, 366, 367, 368, 348, 349, 350, 351, 84, 303, 304, 305, 876, 877, 878, 879, 880, 881, 882, 883, 884, 885, 886, 887, 888, 889, 890, 891, 892, 893, 894, 895, 896, 897, 898, 899, 900, 901, 902, 903] (by decide +kernel) (by decide +kernel)
set_option maxRecDepth 20000 in
theorem gL_law_X7_run : GoodIn wsL_law (wsV RL 84 RX7 yX7_run wsX7_run) := goodIn_app (goodIn_of _ (by decide +kernel)) ggL_law_X7_run
set_option maxRecDepth 20000 in
theorem ggL_law_X6_least : GoodIn wsL_law wsX6_least := goodIn_r _ [611, 20, 99, 32, 318, 319, 2, 320, 321, 322, 323, 19, 324, 325, 326, 327, 328, 198, 612, 613, 614, 31, 615, 66, 616, 617, 330, 331, 332, 53, 294, 295, 296, 297, 254, 255, 256, 257, 618, 619, 620, 621, 67, 622, 623, 624, 625, 626, 627, 628, 629, 630, 631, 632, 633, 634, 635, 636, 637, 868, 869, 870, 871, 872, 873, 874, 875, 907, 908, 919, 920, 921, 922] (by decide +kernel) (by decide +kernel)
set_option maxRecDepth 20000 in
theorem gL_law_X6_least : GoodIn wsL_law (wsV RL 85 RX6 yX6_least wsX6_least) := goodIn_app (goodIn_of _ (by decide +kernel)) ggL_law_X6_least
set_option maxRecDepth 20000 in
theorem ggL_law_X7_least : GoodIn wsL_law wsX7_least := goodIn_r _ [641, 113, 115, 88, 337, 338, 5, 339, 121, 122, 123, 340, 341, 342, 343, 344, 345, 346, 347, 207, 310, 311, 312, 313, 267, 268, 269, 270, 84, 642, 643, 644, 645, 266, 365, 366, 367, 368, 348, 349, 350, 351, 303, 304, 305, 876, 877, 878, 879, 880, 881, 882, 883, 884, 885, 886, 887, 888, 889, 890, 891, 892, 893, 894, 895, 896, 897, 898, 899, 900, 901, 902, 903] (by decide +kernel) (by decide +kernel)
set_option maxRecDepth 20000 in
theorem gL_law_X7_least : GoodIn wsL_law (wsV RL 88 RX7 yX7_least wsX7_least) := goodIn_app (goodIn_of _ (by decide +kernel)) ggL_law_X7_least
set_option maxRecDepth 20000 in
theorem ggL_law_X6_jammed : GoodIn wsL_law wsX6_jammed := goodIn_r _ [649, 20, 99, 28, 596, 32, 318, 319, 2, 320, 217, 218, 219, 19, 220, 198, 510, 511, 512, 27, 513, 504, 612, 613, 614, 31, 615, 66, 616, 326, 327, 328, 617, 330, 331, 332, 53, 650, 651, 652, 653, 68, 654, 655, 295, 296, 297, 254, 255, 256, 257, 656, 47, 48, 49, 657, 598, 599, 600, 601, 581, 582, 583, 62, 658, 659, 660, 661, 626, 627, 628, 629, 868, 869, 870, 871, 872, 873, 874, 875, 907, 908, 917, 918, 919, 920, 921, 922] (by decide +kernel) (by decide +kernel)
set_option maxRecDepth 20000 in
theorem gL_law_X6_jammed : GoodIn wsL_law (wsV RL 89 RX6 yX6_jammed wsX6_jammed) := goodIn_app (goodIn_of _ (by decide +kernel)) ggL_law_X6_jammed
set_option maxRecDepth 20000 in
theorem ggL_law_X7_jammed : GoodIn wsL_law wsX7_jammed := goodIn_r _ [665, 113, 666, 115, 526, 607, 90, 91, 266, 337, 338, 5, 339, 121, 122, 123, 233, 234, 235, 236, 207, 310, 311, 312, 313, 267, 268, 269, 270, 84, 588, 589, 590, 591, 85, 344, 345, 346, 347, 365, 366, 367, 368, 348, 349, 350, 351, 303, 304, 305, 876, 877, 878, 879, 880, 881, 882, 883, 884, 885, 886, 887, 888, 889, 890, 891, 892, 893, 894, 895, 896, 897, 898, 899, 900, 901, 902, 903] (by decide +kernel) (by decide +kernel)
set_option maxRecDepth 20000 in
theorem gL_law_X7_jammed : GoodIn wsL_law (wsV RL 92 RX7 yX7_jammed wsX7_jammed) := goodIn_app (goodIn_of _ (by decide +kernel)) ggL_law_X7_jammed
set_option maxRecDepth 20000 in
theorem ggL_law_X6_draws : GoodIn wsL_law wsX6_draws := goodIn_r _ [670, 20, 671, 32, 318, 319, 2, 320, 217, 218, 219, 19, 220, 198, 612, 613, 614, 31, 615, 66, 616, 326, 327, 328, 617, 330, 331, 332, 53, 672, 673, 674, 675, 70, 655, 295, 296, 297, 254, 255, 256, 257, 676, 677, 48, 678, 679, 397, 398, 399, 680, 681, 682, 683, 684, 685, 686, 687, 688, 280, 281, 282, 283, 284, 285, 868, 869, 870, 871, 872, 873, 874, 875, 907, 908, 919, 920, 921, 922] (by decide +kernel) (by decide +kernel)
set_option maxRecDepth 20000 in
theorem gL_law_X6_draws : GoodIn wsL_law (wsV RL 93 RX6 yX6_draws wsX6_draws) := goodIn_app (goodIn_of _ (by decide +kernel)) ggL_law_X6_draws
set_option maxRecDepth 20000 in
theorem ggL_law_X7_draws : GoodIn wsL_law wsX7_draws := goodIn_r _ [692, 113, 120, 693, 92, 93, 337, 338, 5, 339, 121, 122, 123, 233, 234, 235, 236, 207, 344, 345, 346, 347, 365, 366, 367, 368, 348, 349, 350, 351, 84, 303, 304, 305, 310, 311, 312, 313, 267, 268, 269, 270, 876, 877, 878, 879, 880, 881, 882, 883, 884, 885, 886, 887, 888, 889, 890, 891, 892, 893, 894, 895, 896, 897, 898, 899, 900, 901, 902, 903] (by decide +kernel) (by decide +kernel)
set_option maxRecDepth 20000 in
theorem gL_law_X7_draws : GoodIn wsL_law (wsV RL 97 RX7 yX7_draws wsX7_draws) := goodIn_app (goodIn_of _ (by decide +kernel)) ggL_law_X7_draws
set_option maxRecDepth 20000 in
theorem ggL_law_X6_picks : GoodIn wsL_law wsX6_picks := goodIn_r _ [697, 99, 16, 100, 101, 574, 102, 103, 2, 104, 133, 134, 135, 15, 136, 137, 138, 139, 140, 42, 141, 142, 143, 144, 43, 698, 699, 700, 701, 20, 579, 326, 327, 19, 328, 198, 702, 280, 281, 282, 283, 284, 285, 703, 704, 705, 706, 45, 707, 868, 869, 870, 871, 872, 873, 874, 875, 904, 905, 906, 907, 908] (by decide +kernel) (by decide +kernel)
