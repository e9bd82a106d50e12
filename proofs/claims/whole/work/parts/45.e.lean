set_option maxRecDepth 20000 in
theorem gL_law_X6_picks : GoodIn wsL_law (wsV RL 98 RX6 yX6_picks wsX6_picks) := goodIn_app (goodIn_of _ (by decide +kernel)) ggL_law_X6_picks
set_option maxRecDepth 20000 in
theorem ggL_law_X7_picks : GoodIn wsL_law wsX7_picks := goodIn_r _ [711, 113, 712, 713, 115, 116, 81, 82, 83, 266, 117, 118, 5, 119, 120, 121, 122, 123, 124, 125, 126, 127, 128, 344, 345, 346, 347, 207, 303, 304, 305, 876, 877, 878, 879, 880, 881, 882, 883, 884, 885, 886, 887, 888, 889, 890, 891, 892, 893, 894, 895, 896, 897, 898, 899, 900, 901, 902, 903] (by decide +kernel) (by decide +kernel)
set_option maxRecDepth 20000 in
theorem gL_law_X7_picks : GoodIn wsL_law (wsV RL 101 RX7 yX7_picks wsX7_picks) := goodIn_app (goodIn_of _ (by decide +kernel)) ggL_law_X7_picks
set_option maxRecDepth 20000 in
theorem ggL_law_X6_kind : GoodIn wsL_law wsX6_kind := goodIn_r _ [717, 20, 99, 217, 218, 219, 19, 220, 198, 718, 719, 720, 721, 722, 276, 277, 278, 53, 279, 280, 281, 282, 283, 284, 285, 723, 724, 725, 726, 727, 728, 628, 729, 868, 869, 870, 871, 872, 873, 874, 875, 907, 908] (by decide +kernel) (by decide +kernel)
set_option maxRecDepth 20000 in
theorem gL_law_X6_kind : GoodIn wsL_law (wsV RL 102 RX6 yX6_kind wsX6_kind) := goodIn_app (goodIn_of _ (by decide +kernel)) ggL_law_X6_kind
set_option maxRecDepth 20000 in
theorem ggL_law_X7_kind : GoodIn wsL_law wsX7_kind := goodIn_r _ [733, 113, 115, 233, 234, 235, 5, 236, 207, 121, 122, 123, 734, 735, 736, 737, 84, 303, 304, 305, 876, 877, 878, 879, 880, 881, 882, 883, 884, 885, 886, 887, 888, 889, 890, 891, 892, 893, 894, 895, 896, 897, 898, 899, 900, 901, 902, 903] (by decide +kernel) (by decide +kernel)
set_option maxRecDepth 20000 in
theorem gL_law_X7_kind : GoodIn wsL_law (wsV RL 105 RX7 yX7_kind wsX7_kind) := goodIn_app (goodIn_of _ (by decide +kernel)) ggL_law_X7_kind
set_option maxRecDepth 20000 in
theorem ggL_law_X6_as : GoodIn wsL_law wsX6_as := goodIn_r _ [741, 20, 99, 100, 101, 217, 218, 219, 19, 220, 198, 742, 743, 744, 745, 746, 719, 720, 721, 722, 276, 277, 278, 53, 279, 280, 281, 282, 283, 284, 285, 723, 724, 725, 726, 727, 728, 628, 729, 275, 868, 869, 870, 871, 872, 873, 874, 875, 907, 908] (by decide +kernel) (by decide +kernel)
set_option maxRecDepth 20000 in
theorem gL_law_X6_as : GoodIn wsL_law (wsV RL 106 RX6 yX6_as wsX6_as) := goodIn_app (goodIn_of _ (by decide +kernel)) ggL_law_X6_as
set_option maxRecDepth 20000 in
theorem ggL_law_X7_as : GoodIn wsL_law wsX7_as := goodIn_r _ [750, 113, 713, 115, 116, 84, 233, 234, 235, 5, 236, 207, 121, 122, 123, 734, 735, 736, 737, 303, 304, 305, 751, 752, 753, 124, 125, 126, 127, 128, 876, 877, 878, 879, 880, 881, 882, 883, 884, 885, 886, 887, 888, 889, 890, 891, 892, 893, 894, 895, 896, 897, 898, 899, 900, 901, 902, 903] (by decide +kernel) (by decide +kernel)
set_option maxRecDepth 20000 in
theorem gL_law_X7_as : GoodIn wsL_law (wsV RL 109 RX7 yX7_as wsX7_as) := goodIn_app (goodIn_of _ (by decide +kernel)) ggL_law_X7_as
set_option maxRecDepth 20000 in
theorem ggL_law_X6_ask : GoodIn wsL_law wsX6_ask := goodIn_r _ [757, 20, 99, 36, 217, 218, 219, 19, 220, 198, 758, 759, 760, 35, 761, 762, 763, 764, 765, 766, 76, 767, 719, 720, 721, 722, 276, 277, 278, 53, 279, 280, 281, 282, 283, 284, 285, 723, 724, 725, 726, 727, 728, 628, 729, 768, 769, 770, 771, 772, 773, 774, 775, 75, 776, 777, 778, 779, 780, 781, 782, 783, 784, 785, 291, 292, 293, 254, 255, 256, 257, 786, 787, 788, 789, 790, 791, 792, 793, 794, 795, 796, 797, 798, 799, 800, 801, 802, 803, 804, 805, 868, 869, 870, 871, 872, 873, 874, 875, 907, 908, 923, 924, 925] (by decide +kernel) (by decide +kernel)
set_option maxRecDepth 20000 in
theorem gL_law_X6_ask : GoodIn wsL_law (wsV RL 110 RX6 yX6_ask wsX6_ask) := goodIn_app (goodIn_of _ (by decide +kernel)) ggL_law_X6_ask
set_option maxRecDepth 20000 in
theorem ggL_law_X7_ask : GoodIn wsL_law wsX7_ask := goodIn_r _ [809, 113, 115, 810, 233, 234, 235, 5, 236, 207, 121, 122, 123, 811, 812, 813, 814, 84, 734, 735, 736, 737, 303, 304, 305, 815, 816, 817, 818, 94, 306, 307, 308, 309, 262, 263, 264, 265, 266, 267, 268, 269, 270, 819, 820, 821, 822, 876, 877, 878, 879, 880, 881, 882, 883, 884, 885, 886, 887, 888, 889, 890, 891, 892, 893, 894, 895, 896, 897, 898, 899, 900, 901, 902, 903] (by decide +kernel) (by decide +kernel)
set_option maxRecDepth 20000 in
theorem gL_law_X7_ask : GoodIn wsL_law (wsV RL 113 RX7 yX7_ask wsX7_ask) := goodIn_app (goodIn_of _ (by decide +kernel)) ggL_law_X7_ask
set_option maxRecDepth 20000 in
theorem ggL_law_X6_trace : GoodIn wsL_law wsX6_trace := goodIn_r _ [826, 36, 827, 828, 829, 35, 830, 762, 75, 831, 868, 869, 870, 871, 872, 873, 874, 875, 923, 924, 925] (by decide +kernel) (by decide +kernel)
set_option maxRecDepth 20000 in
theorem gL_law_X6_trace : GoodIn wsL_law (wsV RL 114 RX6 yX6_trace wsX6_trace) := goodIn_app (goodIn_of _ (by decide +kernel)) ggL_law_X6_trace
set_option maxRecDepth 20000 in
theorem ggL_law_X7_trace : GoodIn wsL_law wsX7_trace := goodIn_r _ [835, 113, 810, 94, 266, 121, 122, 5, 123, 876, 877, 878, 879, 880, 881, 882, 883, 884, 885, 886, 887, 888, 889, 890, 891, 892, 893, 894, 895, 896, 897, 898, 899, 900, 901, 902, 903] (by decide +kernel) (by decide +kernel)
set_option maxRecDepth 20000 in
theorem gL_law_X7_trace : GoodIn wsL_law (wsV RL 117 RX7 yX7_trace wsX7_trace) := goodIn_app (goodIn_of _ (by decide +kernel)) ggL_law_X7_trace
set_option maxRecDepth 20000 in
theorem ggL_law_X6_count : GoodIn wsL_law wsX6_count := goodIn_r _ [839, 16, 20, 28, 24, 99, 840, 841, 842, 15, 843, 137, 138, 139, 140, 42, 396, 397, 398, 19, 399, 198, 844, 845, 846, 847, 722, 276, 277, 278, 53, 279, 280, 281, 282, 283, 284, 285, 510, 511, 512, 27, 513, 504, 848, 849, 850, 851, 746, 719, 720, 721, 723, 724, 725, 726, 727, 728, 628, 729, 852, 853, 854, 23, 855, 377, 868, 869, 870, 871, 872, 873, 874, 875, 904, 905, 906, 907, 908, 917, 918, 909, 910, 911, 912, 913, 914, 915, 916] (by decide +kernel) (by decide +kernel)
set_option maxRecDepth 20000 in
theorem gL_law_X6_count : GoodIn wsL_law (wsV RL 118 RX6 yX6_count wsX6_count) := goodIn_app (goodIn_of _ (by decide +kernel)) ggL_law_X6_count
set_option maxRecDepth 20000 in
theorem ggL_law_X7_count : GoodIn wsL_law wsX7_count := goodIn_r _ [859, 113, 81, 207, 84, 526, 388, 115, 303, 304, 5, 305, 734, 735, 736, 737, 876, 877, 878, 879, 880, 881, 882, 883, 884, 885, 886, 887, 888, 889, 890, 891, 892, 893, 894, 895, 896, 897, 898, 899, 900, 901, 902, 903] (by decide +kernel) (by decide +kernel)
set_option maxRecDepth 20000 in
theorem gL_law_X7_count : GoodIn wsL_law (wsV RL 121 RX7 yX7_count wsX7_count) := goodIn_app (goodIn_of _ (by decide +kernel)) ggL_law_X7_count
set_option maxRecDepth 20000 in
theorem ggL_law_X6_status : GoodIn wsL_law wsX6_status := goodIn_r _ [863, 100, 868, 869, 870, 871, 872, 873, 874, 875] (by decide +kernel) (by decide +kernel)
set_option maxRecDepth 20000 in
theorem gL_law_X6_status : GoodIn wsL_law (wsV RL 122 RX6 yX6_status wsX6_status) := goodIn_app (goodIn_of _ (by decide +kernel)) ggL_law_X6_status
set_option maxRecDepth 20000 in
theorem ggL_law_X7_status : GoodIn wsL_law wsX7_status := goodIn_r _ [867, 113, 116, 876, 877, 878, 879, 880, 881, 882, 883, 884, 885, 886, 887, 888, 889, 890, 891, 892, 893, 894, 895, 896, 897, 898, 899, 900, 901, 902, 903] (by decide +kernel) (by decide +kernel)
set_option maxRecDepth 20000 in
theorem gL_law_X7_status : GoodIn wsL_law (wsV RL 125 RX7 yX7_status wsX7_status) := goodIn_app (goodIn_of _ (by decide +kernel)) ggL_law_X7_status
