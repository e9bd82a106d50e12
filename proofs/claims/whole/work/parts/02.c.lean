theorem mem_r {big : List Cond} (ws : List Cond) (ps : List Nat) (hp : ws = ps.filterMap (fun i => big[i]?)) : ∀ w ∈ ws, w ∈ big := by
  intro w hw
  rw [hp] at hw
  obtain ⟨i, -, hi⟩ := List.mem_filterMap.mp hw
  exact List.mem_of_getElem? hi
theorem mem_ap {big a b : List Cond} (ha : ∀ w ∈ a, w ∈ big) (hb : ∀ w ∈ b, w ∈ big) : ∀ w ∈ a ++ b, w ∈ big := fun w h => (List.mem_append.mp h).elim (ha w) (hb w)
set_option maxRecDepth 20000 in
theorem wl_r1 : ∀ w ∈ wsL_law_r1, w ∈ lw_tbl := mem_r _ [66, 67, 50, 729, 730, 58, 1053, 68, 69, 70, 71, 72, 73, 74, 75, 51, 189, 96, 97, 53, 190, 109, 110, 54] (by decide +kernel)
set_option maxRecDepth 20000 in
theorem wl_r2 : ∀ w ∈ wsL_law_r2, w ∈ lw_tbl := mem_r _ [191, 140, 141, 55, 192, 153, 154, 56, 193, 173, 174, 57, 194, 76, 77, 78, 79, 95, 85, 86, 80, 87, 82, 83] (by decide +kernel)
set_option maxRecDepth 20000 in
theorem wl_r3 : ∀ w ∈ wsL_law_r3, w ∈ lw_tbl := mem_r _ [52, 84, 99, 100, 101, 102, 112, 113, 114, 115, 116, 143, 144, 145, 146, 156, 157, 158, 159, 160, 161, 172, 162, 175] (by decide +kernel)
set_option maxRecDepth 20000 in
theorem wl_r4 : ∀ w ∈ wsL_law_r4, w ∈ lw_tbl := mem_r _ [176, 177, 178, 180, 179, 731, 732, 733, 734, 737, 738, 739, 741, 743, 745, 746, 756, 820, 757, 758, 759, 760, 761, 214] (by decide +kernel)
set_option maxRecDepth 20000 in
theorem wl_r5 : ∀ w ∈ wsL_law_r5, w ∈ lw_tbl := mem_r _ [215, 216, 217, 221, 195, 222, 218, 219, 220, 223, 224, 225, 226, 821, 822, 823, 824, 735, 832, 833, 736, 825, 826, 827] (by decide +kernel)
set_option maxRecDepth 20000 in
theorem wl_r6 : ∀ w ∈ wsL_law_r6, w ∈ lw_tbl := mem_r _ [828, 829, 830, 831, 834, 836, 27, 837, 838, 227, 228, 229, 230, 231, 232, 233, 234, 235, 236, 237, 238, 239, 241, 0] (by decide +kernel)
set_option maxRecDepth 20000 in
theorem wl_r7 : ∀ w ∈ wsL_law_r7, w ∈ lw_tbl := mem_r _ [242, 243, 244, 245, 246, 247, 248, 249, 839, 840, 841, 842, 250, 251, 252, 253, 254, 255, 256, 257, 258, 259, 260, 261] (by decide +kernel)
set_option maxRecDepth 20000 in
theorem wl_r8 : ∀ w ∈ wsL_law_r8, w ∈ lw_tbl := mem_r _ [262, 264, 263, 59, 843, 844, 845, 846, 265, 266, 267, 268, 269, 270, 271, 272, 273, 847, 848, 849, 850, 274, 275, 276] (by decide +kernel)
set_option maxRecDepth 20000 in
theorem wl_r9 : ∀ w ∈ wsL_law_r9, w ∈ lw_tbl := mem_r _ [277, 282, 278, 279, 280, 281, 103, 283, 284, 285, 286, 851, 852, 853, 854, 740, 855, 287, 288, 289, 290, 291, 293, 1] (by decide +kernel)
set_option maxRecDepth 20000 in
theorem wl_r10 : ∀ w ∈ wsL_law_r10, w ∈ lw_tbl := mem_r _ [294, 295, 296, 297, 298, 299, 300, 301, 302, 303, 304, 305, 306, 856, 857, 858, 859, 860, 862, 28, 863, 307, 308, 309] (by decide +kernel)
set_option maxRecDepth 20000 in
theorem wl_r11 : ∀ w ∈ wsL_law_r11, w ∈ lw_tbl := mem_r _ [310, 864, 865, 866, 867, 311, 312, 313, 314, 315, 316, 317, 318, 323, 319, 321, 2, 322, 868, 869, 870, 871, 872, 874] (by decide +kernel)
set_option maxRecDepth 20000 in
theorem wl_r12 : ∀ w ∈ wsL_law_r12, w ∈ lw_tbl := mem_r _ [29, 875, 880, 876, 878, 30, 879, 324, 325, 326, 327, 328, 329, 330, 331, 332, 333, 60, 334, 335, 336, 337, 338, 339] (by decide +kernel)
set_option maxRecDepth 20000 in
theorem wl_r13 : ∀ w ∈ wsL_law_r13, w ∈ lw_tbl := mem_r _ [340, 341, 342, 343, 344, 345, 346, 347, 348, 349, 881, 882, 883, 884, 885, 886, 887, 888, 889, 891, 31, 892, 893, 895] (by decide +kernel)
set_option maxRecDepth 20000 in
theorem wl_r14 : ∀ w ∈ wsL_law_r14, w ∈ lw_tbl := mem_r _ [32, 896, 350, 351, 352, 353, 354, 355, 356, 357, 358, 359, 360, 361, 362, 363, 364, 365, 366, 367, 368, 897, 898, 899] (by decide +kernel)
set_option maxRecDepth 20000 in
theorem wl_r15 : ∀ w ∈ wsL_law_r15, w ∈ lw_tbl := mem_r _ [900, 901, 902, 903, 904, 906, 33, 907, 908, 910, 34, 911, 912, 914, 35, 915, 369, 370, 371, 372, 373, 374, 375, 376] (by decide +kernel)
set_option maxRecDepth 20000 in
theorem wl_r16 : ∀ w ∈ wsL_law_r16, w ∈ lw_tbl := mem_r _ [377, 916, 917, 918, 919, 920, 922, 36, 923, 378, 379, 380, 381, 382, 383, 384, 385, 117, 386, 387, 388, 389, 390, 924] (by decide +kernel)
set_option maxRecDepth 20000 in
theorem wl_r17 : ∀ w ∈ wsL_law_r17, w ∈ lw_tbl := mem_r _ [925, 926, 927, 928, 747, 929, 391, 392, 393, 394, 196, 492, 395, 396, 397, 398, 399, 400, 401, 402, 118, 121, 119, 403] (by decide +kernel)
set_option maxRecDepth 20000 in
theorem wl_r18 : ∀ w ∈ wsL_law_r18, w ∈ lw_tbl := mem_r _ [405, 3, 406, 120, 407, 408, 409, 410, 412, 4, 413, 415, 417, 5, 418, 419, 420, 421, 61, 422, 1054, 423, 424, 425] (by decide +kernel)
set_option maxRecDepth 20000 in
theorem wl_r19 : ∀ w ∈ wsL_law_r19, w ∈ lw_tbl := mem_r _ [426, 427, 1055, 429, 430, 431, 432, 433, 434, 435, 436, 437, 438, 62, 439, 440, 441, 442, 443, 445, 446, 63, 447, 448] (by decide +kernel)
set_option maxRecDepth 20000 in
theorem wl_r20 : ∀ w ∈ wsL_law_r20, w ∈ lw_tbl := mem_r _ [449, 64, 450, 451, 452, 453, 454, 455, 456, 457, 458, 459, 460, 461, 463, 465, 469, 470, 471, 472, 474, 6, 475, 122] (by decide +kernel)
set_option maxRecDepth 20000 in
theorem wl_r21 : ∀ w ∈ wsL_law_r21, w ∈ lw_tbl := mem_r _ [476, 478, 7, 479, 480, 482, 8, 483, 484, 486, 9, 487, 488, 490, 10, 491, 493, 494, 495, 496, 497, 498, 499, 500] (by decide +kernel)
set_option maxRecDepth 20000 in
theorem wl_r22 : ∀ w ∈ wsL_law_r22, w ∈ lw_tbl := mem_r _ [147, 501, 502, 503, 504, 505, 506, 507, 508, 509, 930, 931, 932, 933, 749, 750, 754, 744, 751, 748, 967, 755, 742, 934] (by decide +kernel)
set_option maxRecDepth 20000 in
theorem wl_r23 : ∀ w ∈ wsL_law_r23, w ∈ lw_tbl := mem_r _ [936, 37, 937, 752, 753, 938, 940, 38, 941, 942, 943, 944, 945, 946, 947, 948, 950, 39, 951, 956, 957, 958, 952, 954] (by decide +kernel)
set_option maxRecDepth 20000 in
theorem wl_r24 : ∀ w ∈ wsL_law_r24, w ∈ lw_tbl := mem_r _ [40, 955, 959, 961, 41, 962, 963, 965, 42, 966, 511, 512, 513, 514, 968, 969, 970, 971, 515, 516, 517, 518, 528, 519] (by decide +kernel)
set_option maxRecDepth 20000 in
theorem wl_r25 : ∀ w ∈ wsL_law_r25, w ∈ lw_tbl := mem_r _ [520, 521, 522, 523, 524, 525, 526, 527, 972, 973, 974, 975, 976, 978, 43, 979, 529, 530, 531, 532, 533, 534, 535, 536] (by decide +kernel)
set_option maxRecDepth 20000 in
theorem wl_r26 : ∀ w ∈ wsL_law_r26, w ∈ lw_tbl := mem_r _ [537, 538, 980, 981, 982, 983, 984, 985, 539, 540, 541, 542, 543, 544, 545, 546, 547, 548, 549, 550, 551, 552, 553, 555] (by decide +kernel)
set_option maxRecDepth 20000 in
theorem wl_r27 : ∀ w ∈ wsL_law_r27, w ∈ lw_tbl := mem_r _ [11, 556, 557, 558, 65, 559, 560, 561, 562, 563, 564, 565, 566, 567, 986, 987, 988, 989, 990, 992, 44, 993, 568, 569] (by decide +kernel)
set_option maxRecDepth 20000 in
theorem wl_r28 : ∀ w ∈ wsL_law_r28, w ∈ lw_tbl := mem_r _ [570, 571, 572, 573, 574, 575, 583, 576, 577, 578, 579, 581, 12, 582, 994, 995, 996, 997, 998, 584, 585, 586, 587, 588] (by decide +kernel)
set_option maxRecDepth 20000 in
theorem wl_r29 : ∀ w ∈ wsL_law_r29, w ∈ lw_tbl := mem_r _ [589, 590, 591, 592, 593, 594, 595, 596, 597, 599, 13, 600, 601, 603, 14, 604, 605, 999, 1000, 1001, 1002, 1003, 606, 607] (by decide +kernel)
set_option maxRecDepth 20000 in
theorem wl_r30 : ∀ w ∈ wsL_law_r30, w ∈ lw_tbl := mem_r _ [608, 609, 610, 612, 15, 613, 614, 615, 616, 617, 618, 619, 1004, 1005, 1006, 1007, 1008, 1009, 620, 621, 622, 623, 624, 625] (by decide +kernel)
set_option maxRecDepth 20000 in
theorem wl_r31 : ∀ w ∈ wsL_law_r31, w ∈ lw_tbl := mem_r _ [626, 627, 628, 629, 631, 16, 632, 633, 634, 635, 1010, 1011, 1012, 1013, 1014, 1016, 45, 1017, 636, 637, 638, 639, 640, 641] (by decide +kernel)
set_option maxRecDepth 20000 in
theorem wl_r32 : ∀ w ∈ wsL_law_r32, w ∈ lw_tbl := mem_r _ [642, 643, 644, 1018, 1019, 1020, 1021, 1022, 1023, 1024, 645, 646, 647, 648, 649, 650, 651, 652, 181, 653, 655, 17, 656, 657] (by decide +kernel)
set_option maxRecDepth 20000 in
theorem wl_r33 : ∀ w ∈ wsL_law_r33, w ∈ lw_tbl := mem_r _ [658, 660, 18, 661, 662, 664, 19, 665, 666, 668, 20, 669, 670, 672, 21, 673, 674, 675, 676, 678, 22, 683, 684, 686] (by decide +kernel)
set_option maxRecDepth 20000 in
theorem wl_r34 : ∀ w ∈ wsL_law_r34, w ∈ lw_tbl := mem_r _ [24, 687, 688, 690, 25, 691, 692, 694, 26, 695, 679, 680, 682, 23, 1025, 1026, 1027, 1028, 762, 1029, 1031, 46, 1032, 1033] (by decide +kernel)
set_option maxRecDepth 20000 in
theorem wl_r35 : ∀ w ∈ wsL_law_r35, w ∈ lw_tbl := mem_r _ [1035, 47, 1036, 1037, 1039, 48, 1040, 696, 697, 698, 699, 700, 701, 702, 703, 704, 1041, 1042, 1043, 1044, 705, 706, 707, 708] (by decide +kernel)
set_option maxRecDepth 20000 in
theorem wl_r36 : ∀ w ∈ wsL_law_r36, w ∈ lw_tbl := mem_r _ [709, 710, 711, 712, 713, 714, 715, 716, 717, 718, 719, 720, 721, 722, 723, 724, 1045, 1046, 1047, 1048, 725, 726, 727, 728] (by decide +kernel)
set_option maxRecDepth 20000 in
theorem wl_r37 : ∀ w ∈ wsL_law_r37, w ∈ lw_tbl := mem_r _ [1049, 1050, 1051, 1052] (by decide +kernel)
set_option maxRecDepth 20000 in
theorem wl_X6 : ∀ w ∈ wsX60, w ∈ lw_tbl := mem_r _ [197, 199, 201, 203, 205, 207, 209, 211] (by decide +kernel)
set_option maxRecDepth 20000 in
theorem wl_X7 : ∀ w ∈ wsX70, w ∈ lw_tbl := mem_r _ [763, 765, 767, 769, 771, 773, 775, 777, 779, 781, 783, 785, 787, 789, 791, 793, 795, 797, 799, 801, 803, 805, 807, 809, 811, 813, 815, 817] (by decide +kernel)
set_option maxRecDepth 20000 in
theorem wl_X4 : ∀ w ∈ wsX40, w ∈ lw_tbl := mem_r _ [88, 90, 92] (by decide +kernel)
set_option maxRecDepth 20000 in
theorem wl_X1 : ∀ w ∈ wsX10, w ∈ lw_tbl := mem_r _ [104, 106] (by decide +kernel)
set_option maxRecDepth 20000 in
theorem wl_X2 : ∀ w ∈ wsX20, w ∈ lw_tbl := mem_r _ [123, 125, 127, 129, 131, 133, 135, 137] (by decide +kernel)
set_option maxRecDepth 20000 in
theorem wl_X5 : ∀ w ∈ wsX50, w ∈ lw_tbl := mem_r _ [148, 150] (by decide +kernel)
set_option maxRecDepth 20000 in
theorem wl_X3 : ∀ w ∈ wsX30, w ∈ lw_tbl := mem_r _ [163, 165, 167, 169] (by decide +kernel)
set_option maxRecDepth 20000 in
theorem wl_X0 : ∀ w ∈ wsX00, w ∈ lw_tbl := mem_r _ [182, 184, 186] (by decide +kernel)
theorem wsL_law_in : ∀ w ∈ wsL_law, w ∈ lw_tbl := mem_ap (mem_ap (mem_ap (mem_ap (mem_ap (mem_ap (mem_ap (mem_ap (mem_ap (mem_ap wl_r1 (mem_ap wl_r2 (mem_ap wl_r3 (mem_ap wl_r4 (mem_ap wl_r5 (mem_ap wl_r6 (mem_ap wl_r7 (mem_ap wl_r8 (mem_ap wl_r9 (mem_ap wl_r10 (mem_ap wl_r11 (mem_ap wl_r12 (mem_ap wl_r13 (mem_ap wl_r14 (mem_ap wl_r15 (mem_ap wl_r16 (mem_ap wl_r17 (mem_ap wl_r18 (mem_ap wl_r19 (mem_ap wl_r20 (mem_ap wl_r21 (mem_ap wl_r22 (mem_ap wl_r23 (mem_ap wl_r24 (mem_ap wl_r25 (mem_ap wl_r26 (mem_ap wl_r27 (mem_ap wl_r28 (mem_ap wl_r29 (mem_ap wl_r30 (mem_ap wl_r31 (mem_ap wl_r32 (mem_ap wl_r33 (mem_ap wl_r34 (mem_ap wl_r35 (mem_ap wl_r36 (wl_r37))))))))))))))))))))))))))))))))))))) wl_X6) wl_X7) wl_X4) wl_X1) wl_X2) wl_X5) wl_X3) wl_X0) (fun _ h => absurd h List.not_mem_nil)
theorem inlX0 : ∀ w ∈ wsX00, w ∈ wsL_law := fun _ h => List.mem_append_left _ (List.mem_append_right _ h)
theorem inX0 : ∀ w ∈ wsX00, w ∈ lw_tbl := fun w h => wsL_law_in w (inlX0 w h)
theorem inlX1 : ∀ w ∈ wsX10, w ∈ wsL_law := fun _ h => List.mem_append_left _ (List.mem_append_left _ (List.mem_append_left _ (List.mem_append_left _ (List.mem_append_left _ (List.mem_append_right _ h)))))
theorem inX1 : ∀ w ∈ wsX10, w ∈ lw_tbl := fun w h => wsL_law_in w (inlX1 w h)
theorem inlX2 : ∀ w ∈ wsX20, w ∈ wsL_law := fun _ h => List.mem_append_left _ (List.mem_append_left _ (List.mem_append_left _ (List.mem_append_left _ (List.mem_append_right _ h))))
theorem inX2 : ∀ w ∈ wsX20, w ∈ lw_tbl := fun w h => wsL_law_in w (inlX2 w h)
theorem inlX3 : ∀ w ∈ wsX30, w ∈ wsL_law := fun _ h => List.mem_append_left _ (List.mem_append_left _ (List.mem_append_right _ h))
theorem inX3 : ∀ w ∈ wsX30, w ∈ lw_tbl := fun w h => wsL_law_in w (inlX3 w h)
theorem inlX4 : ∀ w ∈ wsX40, w ∈ wsL_law := fun _ h => List.mem_append_left _ (List.mem_append_left _ (List.mem_append_left _ (List.mem_append_left _ (List.mem_append_left _ (List.mem_append_left _ (List.mem_append_right _ h))))))
theorem inX4 : ∀ w ∈ wsX40, w ∈ lw_tbl := fun w h => wsL_law_in w (inlX4 w h)
theorem inlX5 : ∀ w ∈ wsX50, w ∈ wsL_law := fun _ h => List.mem_append_left _ (List.mem_append_left _ (List.mem_append_left _ (List.mem_append_right _ h)))
theorem inX5 : ∀ w ∈ wsX50, w ∈ lw_tbl := fun w h => wsL_law_in w (inlX5 w h)
theorem inlX6 : ∀ w ∈ wsX60, w ∈ wsL_law := fun _ h => List.mem_append_left _ (List.mem_append_left _ (List.mem_append_left _ (List.mem_append_left _ (List.mem_append_left _ (List.mem_append_left _ (List.mem_append_left _ (List.mem_append_left _ (List.mem_append_right _ h))))))))
theorem inX6 : ∀ w ∈ wsX60, w ∈ lw_tbl := fun w h => wsL_law_in w (inlX6 w h)
theorem inlX7 : ∀ w ∈ wsX70, w ∈ wsL_law := fun _ h => List.mem_append_left _ (List.mem_append_left _ (List.mem_append_left _ (List.mem_append_left _ (List.mem_append_left _ (List.mem_append_left _ (List.mem_append_left _ (List.mem_append_right _ h)))))))
theorem inX7 : ∀ w ∈ wsX70, w ∈ lw_tbl := fun w h => wsL_law_in w (inlX7 w h)
