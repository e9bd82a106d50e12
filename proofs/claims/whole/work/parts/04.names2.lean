theorem dX3_firstSet_39 : decode cX3_firstSet 39 = .ok (.iinc 2 1, 3) := by decide +kernel
theorem dX3_firstSet_42 : decode cX3_firstSet 42 = .ok (.goto (-40), 3) := by decide +kernel
theorem dX3_firstSet_45 : decode cX3_firstSet 45 = .ok (.iconst 0, 1) := by decide +kernel
theorem dX3_firstSet_46 : decode cX3_firstSet 46 = .ok (.ireturn, 1) := by decide +kernel
set_option maxRecDepth 20000 in
theorem ggX3_worstRounds_X1_reachOf : GoodIn wsX3_worstRounds wsX1_reachOf := goodIn_r _ [7, 8, 9, 10, 11, 6, 12, 13, 47, 48] (by decide +kernel) (by decide +kernel)
set_option maxRecDepth 20000 in
theorem gX3_worstRounds_X1_reachOf : GoodIn wsX3_worstRounds (wsV RX3 44 RX1 yX1_reachOf wsX1_reachOf) := goodIn_app (goodIn_of _ (by decide +kernel)) ggX3_worstRounds_X1_reachOf
set_option maxRecDepth 20000 in
theorem ggX3_worstRounds_J7_fill_53178 : GoodIn wsX3_worstRounds wsJ7_fill_53178 := goodIn_r _ [17] (by decide +kernel) (by decide +kernel)
set_option maxRecDepth 20000 in
theorem gX3_worstRounds_J7_fill_53178 : GoodIn wsX3_worstRounds (va_wsS RX3 47 yJ7_fill_53178 wsJ7_fill_53178) := goodIn_app (goodIn_of _ (by decide +kernel)) ggX3_worstRounds_J7_fill_53178
set_option maxRecDepth 20000 in
theorem ggX3_worstRounds_X1_allPosts : GoodIn wsX3_worstRounds wsX1_allPosts := goodIn_r _ [21, 8, 47, 48] (by decide +kernel) (by decide +kernel)
set_option maxRecDepth 20000 in
theorem gX3_worstRounds_X1_allPosts : GoodIn wsX3_worstRounds (wsV RX3 25 RX1 yX1_allPosts wsX1_allPosts) := goodIn_app (goodIn_of _ (by decide +kernel)) ggX3_worstRounds_X1_allPosts
set_option maxRecDepth 20000 in
theorem ggX3_worstRounds_X5_soundsOverAndOver : GoodIn wsX3_worstRounds wsX5_soundsOverAndOver := goodIn_r _ [26, 27, 28, 29, 30, 25, 31, 32, 49, 50] (by decide +kernel) (by decide +kernel)
set_option maxRecDepth 20000 in
theorem gX3_worstRounds_X5_soundsOverAndOver : GoodIn wsX3_worstRounds (wsV RX3 53 RX5 yX5_soundsOverAndOver wsX5_soundsOverAndOver) := goodIn_app (goodIn_of _ (by decide +kernel)) ggX3_worstRounds_X5_soundsOverAndOver
set_option maxRecDepth 20000 in
theorem ggX3_worstRounds_X3_leavesSomeUntold : GoodIn wsX3_worstRounds wsX3_leavesSomeUntold := goodIn_r _ [37, 1, 38, 39, 40, 41, 42, 43, 44, 45, 46] (by decide +kernel) (by decide +kernel)
set_option maxRecDepth 20000 in
theorem gX3_worstRounds_X3_leavesSomeUntold : GoodIn wsX3_worstRounds (wsV RX3 58 RX3 yX3_leavesSomeUntold wsX3_leavesSomeUntold) := goodIn_app (goodIn_of _ (by decide +kernel)) ggX3_worstRounds_X3_leavesSomeUntold
theorem dX3_worstRounds_0 : decode cX3_worstRounds 0 = .ok (.iconst 1, 1) := by decide +kernel
theorem dX3_worstRounds_1 : decode cX3_worstRounds 1 = .ok (.iload_n 3, 1) := by decide +kernel
theorem dX3_worstRounds_2 : decode cX3_worstRounds 2 = .ok (.ishl, 1) := by decide +kernel
theorem dX3_worstRounds_3 : decode cX3_worstRounds 3 = .ok (.istore 5, 2) := by decide +kernel
theorem dX3_worstRounds_5 : decode cX3_worstRounds 5 = .ok (.aload_n 1, 1) := by decide +kernel
theorem dX3_worstRounds_6 : decode cX3_worstRounds 6 = .ok (.iload 5, 2) := by decide +kernel
theorem dX3_worstRounds_8 : decode cX3_worstRounds 8 = .ok (.invokevirtual 44, 3) := by decide +kernel
theorem dX3_worstRounds_11 : decode cX3_worstRounds 11 = .ok (.istore 6, 2) := by decide +kernel
theorem dX3_worstRounds_13 : decode cX3_worstRounds 13 = .ok (.iload 5, 2) := by decide +kernel
theorem dX3_worstRounds_15 : decode cX3_worstRounds 15 = .ok (.iload 6, 2) := by decide +kernel
theorem dX3_worstRounds_17 : decode cX3_worstRounds 17 = .ok (.if_icmp .ne 5, 3) := by decide +kernel
theorem dX3_worstRounds_20 : decode cX3_worstRounds 20 = .ok (.iconst 0, 1) := by decide +kernel
theorem dX3_worstRounds_21 : decode cX3_worstRounds 21 = .ok (.ireturn, 1) := by decide +kernel
theorem dX3_worstRounds_22 : decode cX3_worstRounds 22 = .ok (.aload_n 0, 1) := by decide +kernel
theorem dX3_worstRounds_23 : decode cX3_worstRounds 23 = .ok (.getfield 18, 3) := by decide +kernel
theorem dX3_worstRounds_26 : decode cX3_worstRounds 26 = .ok (.iload 4, 2) := by decide +kernel
theorem dX3_worstRounds_28 : decode cX3_worstRounds 28 = .ok (.iconst 1, 1) := by decide +kernel
theorem dX3_worstRounds_29 : decode cX3_worstRounds 29 = .ok (.iadd, 1) := by decide +kernel
theorem dX3_worstRounds_30 : decode cX3_worstRounds 30 = .ok (.invokestatic 47, 3) := by decide +kernel
theorem dX3_worstRounds_33 : decode cX3_worstRounds 33 = .ok (.aload_n 0, 1) := by decide +kernel
theorem dX3_worstRounds_34 : decode cX3_worstRounds 34 = .ok (.getfield 18, 3) := by decide +kernel
theorem dX3_worstRounds_37 : decode cX3_worstRounds 37 = .ok (.iload 5, 2) := by decide +kernel
theorem dX3_worstRounds_39 : decode cX3_worstRounds 39 = .ok (.iconst 0, 1) := by decide +kernel
theorem dX3_worstRounds_40 : decode cX3_worstRounds 40 = .ok (.iastore, 1) := by decide +kernel
theorem dX3_worstRounds_41 : decode cX3_worstRounds 41 = .ok (.iconst 0, 1) := by decide +kernel
theorem dX3_worstRounds_42 : decode cX3_worstRounds 42 = .ok (.istore 7, 2) := by decide +kernel
theorem dX3_worstRounds_44 : decode cX3_worstRounds 44 = .ok (.iload 7, 2) := by decide +kernel
theorem dX3_worstRounds_46 : decode cX3_worstRounds 46 = .ok (.bipush 60, 2) := by decide +kernel
theorem dX3_worstRounds_48 : decode cX3_worstRounds 48 = .ok (.if_icmp .ge 41, 3) := by decide +kernel
theorem dX3_worstRounds_51 : decode cX3_worstRounds 51 = .ok (.aload_n 2, 1) := by decide +kernel
theorem dX3_worstRounds_52 : decode cX3_worstRounds 52 = .ok (.iload 7, 2) := by decide +kernel
theorem dX3_worstRounds_54 : decode cX3_worstRounds 54 = .ok (.aload_n 1, 1) := by decide +kernel
theorem dX3_worstRounds_55 : decode cX3_worstRounds 55 = .ok (.invokevirtual 25, 3) := by decide +kernel
theorem dX3_worstRounds_58 : decode cX3_worstRounds 58 = .ok (.invokevirtual 53, 3) := by decide +kernel
theorem dX3_worstRounds_61 : decode cX3_worstRounds 61 = .ok (.istore 8, 2) := by decide +kernel
theorem dX3_worstRounds_63 : decode cX3_worstRounds 63 = .ok (.aload_n 0, 1) := by decide +kernel
theorem dX3_worstRounds_64 : decode cX3_worstRounds 64 = .ok (.iload 5, 2) := by decide +kernel
theorem dX3_worstRounds_66 : decode cX3_worstRounds 66 = .ok (.iload 6, 2) := by decide +kernel
theorem dX3_worstRounds_68 : decode cX3_worstRounds 68 = .ok (.iload 8, 2) := by decide +kernel
theorem dX3_worstRounds_70 : decode cX3_worstRounds 70 = .ok (.iload 4, 2) := by decide +kernel
theorem dX3_worstRounds_72 : decode cX3_worstRounds 72 = .ok (.invokevirtual 58, 3) := by decide +kernel
theorem dX3_worstRounds_75 : decode cX3_worstRounds 75 = .ok (.ifCond .ne 8, 3) := by decide +kernel
theorem dX3_worstRounds_78 : decode cX3_worstRounds 78 = .ok (.iload 7, 2) := by decide +kernel
theorem dX3_worstRounds_80 : decode cX3_worstRounds 80 = .ok (.iconst 1, 1) := by decide +kernel
theorem dX3_worstRounds_81 : decode cX3_worstRounds 81 = .ok (.iadd, 1) := by decide +kernel
theorem dX3_worstRounds_82 : decode cX3_worstRounds 82 = .ok (.ireturn, 1) := by decide +kernel
theorem dX3_worstRounds_83 : decode cX3_worstRounds 83 = .ok (.iinc 7 1, 3) := by decide +kernel
theorem dX3_worstRounds_86 : decode cX3_worstRounds 86 = .ok (.goto (-42), 3) := by decide +kernel
theorem dX3_worstRounds_89 : decode cX3_worstRounds 89 = .ok (.ldc 62, 2) := by decide +kernel
theorem dX3_worstRounds_91 : decode cX3_worstRounds 91 = .ok (.ireturn, 1) := by decide +kernel
theorem dX3_leavesSomeUntold_0 : decode cX3_leavesSomeUntold 0 = .ok (.iconst 0, 1) := by decide +kernel
theorem dX3_leavesSomeUntold_1 : decode cX3_leavesSomeUntold 1 = .ok (.istore 5, 2) := by decide +kernel
theorem dX3_leavesSomeUntold_3 : decode cX3_leavesSomeUntold 3 = .ok (.iload_n 2, 1) := by decide +kernel
theorem dX3_leavesSomeUntold_4 : decode cX3_leavesSomeUntold 4 = .ok (.iconst 1, 1) := by decide +kernel
theorem dX3_leavesSomeUntold_5 : decode cX3_leavesSomeUntold 5 = .ok (.isub, 1) := by decide +kernel
theorem dX3_leavesSomeUntold_6 : decode cX3_leavesSomeUntold 6 = .ok (.istore 6, 2) := by decide +kernel
theorem dX3_leavesSomeUntold_8 : decode cX3_leavesSomeUntold 8 = .ok (.iload 6, 2) := by decide +kernel
theorem dX3_leavesSomeUntold_10 : decode cX3_leavesSomeUntold 10 = .ok (.iload_n 1, 1) := by decide +kernel
theorem dX3_leavesSomeUntold_11 : decode cX3_leavesSomeUntold 11 = .ok (.if_icmp .lt 101, 3) := by decide +kernel
theorem dX3_leavesSomeUntold_14 : decode cX3_leavesSomeUntold 14 = .ok (.aload_n 0, 1) := by decide +kernel
theorem dX3_leavesSomeUntold_15 : decode cX3_leavesSomeUntold 15 = .ok (.getfield 18, 3) := by decide +kernel
theorem dX3_leavesSomeUntold_18 : decode cX3_leavesSomeUntold 18 = .ok (.iload 6, 2) := by decide +kernel
theorem dX3_leavesSomeUntold_20 : decode cX3_leavesSomeUntold 20 = .ok (.iaload, 1) := by decide +kernel
theorem dX3_leavesSomeUntold_21 : decode cX3_leavesSomeUntold 21 = .ok (.istore 7, 2) := by decide +kernel
theorem dX3_leavesSomeUntold_23 : decode cX3_leavesSomeUntold 23 = .ok (.iload 7, 2) := by decide +kernel
theorem dX3_leavesSomeUntold_25 : decode cX3_leavesSomeUntold 25 = .ok (.iload 4, 2) := by decide +kernel
theorem dX3_leavesSomeUntold_27 : decode cX3_leavesSomeUntold 27 = .ok (.if_icmp .gt 79, 3) := by decide +kernel
theorem dX3_leavesSomeUntold_30 : decode cX3_leavesSomeUntold 30 = .ok (.iload 6, 2) := by decide +kernel
theorem dX3_leavesSomeUntold_32 : decode cX3_leavesSomeUntold 32 = .ok (.aload_n 0, 1) := by decide +kernel
theorem dX3_leavesSomeUntold_33 : decode cX3_leavesSomeUntold 33 = .ok (.getfield 9, 3) := by decide +kernel
theorem dX3_leavesSomeUntold_36 : decode cX3_leavesSomeUntold 36 = .ok (.iload 6, 2) := by decide +kernel
theorem dX3_leavesSomeUntold_38 : decode cX3_leavesSomeUntold 38 = .ok (.iload_n 3, 1) := by decide +kernel
theorem dX3_leavesSomeUntold_39 : decode cX3_leavesSomeUntold 39 = .ok (.iand, 1) := by decide +kernel
theorem dX3_leavesSomeUntold_40 : decode cX3_leavesSomeUntold 40 = .ok (.iaload, 1) := by decide +kernel
theorem dX3_leavesSomeUntold_41 : decode cX3_leavesSomeUntold 41 = .ok (.ior, 1) := by decide +kernel
theorem dX3_leavesSomeUntold_42 : decode cX3_leavesSomeUntold 42 = .ok (.istore 8, 2) := by decide +kernel
theorem dX3_leavesSomeUntold_44 : decode cX3_leavesSomeUntold 44 = .ok (.iload 8, 2) := by decide +kernel
theorem dX3_leavesSomeUntold_46 : decode cX3_leavesSomeUntold 46 = .ok (.iload 6, 2) := by decide +kernel
theorem dX3_leavesSomeUntold_48 : decode cX3_leavesSomeUntold 48 = .ok (.if_icmp .eq 33, 3) := by decide +kernel
theorem dX3_leavesSomeUntold_51 : decode cX3_leavesSomeUntold 51 = .ok (.aload_n 0, 1) := by decide +kernel
theorem dX3_leavesSomeUntold_52 : decode cX3_leavesSomeUntold 52 = .ok (.getfield 18, 3) := by decide +kernel
theorem dX3_leavesSomeUntold_55 : decode cX3_leavesSomeUntold 55 = .ok (.iload 8, 2) := by decide +kernel
theorem dX3_leavesSomeUntold_57 : decode cX3_leavesSomeUntold 57 = .ok (.aload_n 0, 1) := by decide +kernel
theorem dX3_leavesSomeUntold_58 : decode cX3_leavesSomeUntold 58 = .ok (.getfield 18, 3) := by decide +kernel
theorem dX3_leavesSomeUntold_61 : decode cX3_leavesSomeUntold 61 = .ok (.iload 8, 2) := by decide +kernel
theorem dX3_leavesSomeUntold_63 : decode cX3_leavesSomeUntold 63 = .ok (.iaload, 1) := by decide +kernel
theorem dX3_leavesSomeUntold_64 : decode cX3_leavesSomeUntold 64 = .ok (.iload 7, 2) := by decide +kernel
theorem dX3_leavesSomeUntold_66 : decode cX3_leavesSomeUntold 66 = .ok (.invokestatic 39, 3) := by decide +kernel
theorem dX3_leavesSomeUntold_69 : decode cX3_leavesSomeUntold 69 = .ok (.iastore, 1) := by decide +kernel
theorem dX3_leavesSomeUntold_70 : decode cX3_leavesSomeUntold 70 = .ok (.aload_n 0, 1) := by decide +kernel
theorem dX3_leavesSomeUntold_71 : decode cX3_leavesSomeUntold 71 = .ok (.getfield 18, 3) := by decide +kernel
theorem dX3_leavesSomeUntold_74 : decode cX3_leavesSomeUntold 74 = .ok (.iload 6, 2) := by decide +kernel
theorem dX3_leavesSomeUntold_76 : decode cX3_leavesSomeUntold 76 = .ok (.iload 7, 2) := by decide +kernel
theorem dX3_leavesSomeUntold_78 : decode cX3_leavesSomeUntold 78 = .ok (.iconst 1, 1) := by decide +kernel
theorem dX3_leavesSomeUntold_79 : decode cX3_leavesSomeUntold 79 = .ok (.iadd, 1) := by decide +kernel
theorem dX3_leavesSomeUntold_80 : decode cX3_leavesSomeUntold 80 = .ok (.iastore, 1) := by decide +kernel
theorem dX3_leavesSomeUntold_81 : decode cX3_leavesSomeUntold 81 = .ok (.iload 5, 2) := by decide +kernel
theorem dX3_leavesSomeUntold_83 : decode cX3_leavesSomeUntold 83 = .ok (.ifCond .ne 16, 3) := by decide +kernel
theorem dX3_leavesSomeUntold_86 : decode cX3_leavesSomeUntold 86 = .ok (.iload 8, 2) := by decide +kernel
theorem dX3_leavesSomeUntold_88 : decode cX3_leavesSomeUntold 88 = .ok (.iload_n 2, 1) := by decide +kernel
theorem dX3_leavesSomeUntold_89 : decode cX3_leavesSomeUntold 89 = .ok (.if_icmp .ne 10, 3) := by decide +kernel
theorem dX3_leavesSomeUntold_92 : decode cX3_leavesSomeUntold 92 = .ok (.iload 7, 2) := by decide +kernel
theorem dX3_leavesSomeUntold_94 : decode cX3_leavesSomeUntold 94 = .ok (.iload 4, 2) := by decide +kernel
theorem dX3_leavesSomeUntold_96 : decode cX3_leavesSomeUntold 96 = .ok (.if_icmp .ge 7, 3) := by decide +kernel
theorem dX3_leavesSomeUntold_99 : decode cX3_leavesSomeUntold 99 = .ok (.iconst 1, 1) := by decide +kernel
theorem dX3_leavesSomeUntold_100 : decode cX3_leavesSomeUntold 100 = .ok (.goto 4, 3) := by decide +kernel
theorem dX3_leavesSomeUntold_103 : decode cX3_leavesSomeUntold 103 = .ok (.iconst 0, 1) := by decide +kernel
theorem dX3_leavesSomeUntold_104 : decode cX3_leavesSomeUntold 104 = .ok (.istore 5, 2) := by decide +kernel
theorem dX3_leavesSomeUntold_106 : decode cX3_leavesSomeUntold 106 = .ok (.iinc 6 (-1), 3) := by decide +kernel
theorem dX3_leavesSomeUntold_109 : decode cX3_leavesSomeUntold 109 = .ok (.goto (-101), 3) := by decide +kernel
theorem dX3_leavesSomeUntold_112 : decode cX3_leavesSomeUntold 112 = .ok (.iload 5, 2) := by decide +kernel
theorem dX3_leavesSomeUntold_114 : decode cX3_leavesSomeUntold 114 = .ok (.ireturn, 1) := by decide +kernel
set_option maxRecDepth 20000 in
theorem ggX3_casesThatReachAll_X1_reachOf : GoodIn wsX3_casesThatReachAll wsX1_reachOf := goodIn_r _ [6, 7, 8, 9, 10, 5, 11, 12, 42, 43] (by decide +kernel) (by decide +kernel)
set_option maxRecDepth 20000 in
theorem gX3_casesThatReachAll_X1_reachOf : GoodIn wsX3_casesThatReachAll (wsV RX3 44 RX1 yX1_reachOf wsX1_reachOf) := goodIn_app (goodIn_of _ (by decide +kernel)) ggX3_casesThatReachAll_X1_reachOf
set_option maxRecDepth 20000 in
theorem ggX3_casesThatReachAll_J7_fill_d0a16 : GoodIn wsX3_casesThatReachAll wsJ7_fill_d0a16 := goodIn_r _ [16] (by decide +kernel) (by decide +kernel)
set_option maxRecDepth 20000 in
theorem gX3_casesThatReachAll_J7_fill_d0a16 : GoodIn wsX3_casesThatReachAll (va_wsS RX3 63 yJ7_fill_d0a16 wsJ7_fill_d0a16) := goodIn_app (goodIn_of _ (by decide +kernel)) ggX3_casesThatReachAll_J7_fill_d0a16
set_option maxRecDepth 20000 in
theorem ggX3_casesThatReachAll_X1_size : GoodIn wsX3_casesThatReachAll wsX1_size := goodIn_r _ [20, 7, 42, 43] (by decide +kernel) (by decide +kernel)
set_option maxRecDepth 20000 in
theorem gX3_casesThatReachAll_X1_size : GoodIn wsX3_casesThatReachAll (wsV RX3 66 RX1 yX1_size wsX1_size) := goodIn_app (goodIn_of _ (by decide +kernel)) ggX3_casesThatReachAll_X1_size
set_option maxRecDepth 20000 in
theorem ggX3_casesThatReachAll_X3_drawOneRound : GoodIn wsX3_casesThatReachAll wsX3_drawOneRound := goodIn_r _ [25, 1, 26, 27, 28, 24, 29, 30, 31, 32, 33, 34, 35, 36, 37, 38, 39, 40, 41] (by decide +kernel) (by decide +kernel)
set_option maxRecDepth 20000 in
theorem gX3_casesThatReachAll_X3_drawOneRound : GoodIn wsX3_casesThatReachAll (wsV RX3 69 RX3 yX3_drawOneRound wsX3_drawOneRound) := goodIn_app (goodIn_of _ (by decide +kernel)) ggX3_casesThatReachAll_X3_drawOneRound
theorem dX3_casesThatReachAll_0 : decode cX3_casesThatReachAll 0 = .ok (.iconst 1, 1) := by decide +kernel
theorem dX3_casesThatReachAll_1 : decode cX3_casesThatReachAll 1 = .ok (.iload_n 2, 1) := by decide +kernel
theorem dX3_casesThatReachAll_2 : decode cX3_casesThatReachAll 2 = .ok (.ishl, 1) := by decide +kernel
theorem dX3_casesThatReachAll_3 : decode cX3_casesThatReachAll 3 = .ok (.istore 4, 2) := by decide +kernel
theorem dX3_casesThatReachAll_5 : decode cX3_casesThatReachAll 5 = .ok (.aload_n 1, 1) := by decide +kernel
theorem dX3_casesThatReachAll_6 : decode cX3_casesThatReachAll 6 = .ok (.iload 4, 2) := by decide +kernel
theorem dX3_casesThatReachAll_8 : decode cX3_casesThatReachAll 8 = .ok (.invokevirtual 44, 3) := by decide +kernel
theorem dX3_casesThatReachAll_11 : decode cX3_casesThatReachAll 11 = .ok (.istore 5, 2) := by decide +kernel
theorem dX3_casesThatReachAll_13 : decode cX3_casesThatReachAll 13 = .ok (.aload_n 0, 1) := by decide +kernel
theorem dX3_casesThatReachAll_14 : decode cX3_casesThatReachAll 14 = .ok (.getfield 21, 3) := by decide +kernel
theorem dX3_casesThatReachAll_17 : decode cX3_casesThatReachAll 17 = .ok (.lconst 0, 1) := by decide +kernel
theorem dX3_casesThatReachAll_18 : decode cX3_casesThatReachAll 18 = .ok (.invokestatic 63, 3) := by decide +kernel
theorem dX3_casesThatReachAll_21 : decode cX3_casesThatReachAll 21 = .ok (.aload_n 0, 1) := by decide +kernel
theorem dX3_casesThatReachAll_22 : decode cX3_casesThatReachAll 22 = .ok (.getfield 21, 3) := by decide +kernel
theorem dX3_casesThatReachAll_25 : decode cX3_casesThatReachAll 25 = .ok (.iload 4, 2) := by decide +kernel
theorem dX3_casesThatReachAll_27 : decode cX3_casesThatReachAll 27 = .ok (.lconst 1, 1) := by decide +kernel
theorem dX3_casesThatReachAll_28 : decode cX3_casesThatReachAll 28 = .ok (.lastore, 1) := by decide +kernel
theorem dX3_casesThatReachAll_29 : decode cX3_casesThatReachAll 29 = .ok (.iconst 0, 1) := by decide +kernel
theorem dX3_casesThatReachAll_30 : decode cX3_casesThatReachAll 30 = .ok (.istore 6, 2) := by decide +kernel
theorem dX3_casesThatReachAll_32 : decode cX3_casesThatReachAll 32 = .ok (.iload 6, 2) := by decide +kernel
theorem dX3_casesThatReachAll_34 : decode cX3_casesThatReachAll 34 = .ok (.iload_n 3, 1) := by decide +kernel
theorem dX3_casesThatReachAll_35 : decode cX3_casesThatReachAll 35 = .ok (.if_icmp .ge 21, 3) := by decide +kernel
theorem dX3_casesThatReachAll_38 : decode cX3_casesThatReachAll 38 = .ok (.aload_n 0, 1) := by decide +kernel
theorem dX3_casesThatReachAll_39 : decode cX3_casesThatReachAll 39 = .ok (.aload_n 1, 1) := by decide +kernel
theorem dX3_casesThatReachAll_40 : decode cX3_casesThatReachAll 40 = .ok (.invokevirtual 66, 3) := by decide +kernel
theorem dX3_casesThatReachAll_43 : decode cX3_casesThatReachAll 43 = .ok (.iload 4, 2) := by decide +kernel
theorem dX3_casesThatReachAll_45 : decode cX3_casesThatReachAll 45 = .ok (.iload 5, 2) := by decide +kernel
theorem dX3_casesThatReachAll_47 : decode cX3_casesThatReachAll 47 = .ok (.invokevirtual 69, 3) := by decide +kernel
theorem dX3_casesThatReachAll_50 : decode cX3_casesThatReachAll 50 = .ok (.iinc 6 1, 3) := by decide +kernel
theorem dX3_casesThatReachAll_53 : decode cX3_casesThatReachAll 53 = .ok (.goto (-21), 3) := by decide +kernel
theorem dX3_casesThatReachAll_56 : decode cX3_casesThatReachAll 56 = .ok (.aload_n 0, 1) := by decide +kernel
theorem dX3_casesThatReachAll_57 : decode cX3_casesThatReachAll 57 = .ok (.getfield 21, 3) := by decide +kernel
theorem dX3_casesThatReachAll_60 : decode cX3_casesThatReachAll 60 = .ok (.iload 5, 2) := by decide +kernel
theorem dX3_casesThatReachAll_62 : decode cX3_casesThatReachAll 62 = .ok (.laload, 1) := by decide +kernel
theorem dX3_casesThatReachAll_63 : decode cX3_casesThatReachAll 63 = .ok (.lreturn, 1) := by decide +kernel
set_option maxRecDepth 20000 in
theorem ggX3_drawOneRound_X3_drawFrom : GoodIn wsX3_drawOneRound wsX3_drawFrom := goodIn_r _ [6, 1, 7, 8, 9, 10, 11, 12, 13, 14, 15, 16, 17, 18] (by decide +kernel) (by decide +kernel)
set_option maxRecDepth 20000 in
theorem gX3_drawOneRound_X3_drawFrom : GoodIn wsX3_drawOneRound (wsV RX3 73 RX3 yX3_drawFrom wsX3_drawFrom) := goodIn_app (goodIn_of _ (by decide +kernel)) ggX3_drawOneRound_X3_drawFrom
theorem dX3_drawOneRound_0 : decode cX3_drawOneRound 0 = .ok (.aload_n 0, 1) := by decide +kernel
theorem dX3_drawOneRound_1 : decode cX3_drawOneRound 1 = .ok (.getfield 21, 3) := by decide +kernel
theorem dX3_drawOneRound_4 : decode cX3_drawOneRound 4 = .ok (.iload_n 3, 1) := by decide +kernel
theorem dX3_drawOneRound_5 : decode cX3_drawOneRound 5 = .ok (.dup2, 1) := by decide +kernel
theorem dX3_drawOneRound_6 : decode cX3_drawOneRound 6 = .ok (.laload, 1) := by decide +kernel
theorem dX3_drawOneRound_7 : decode cX3_drawOneRound 7 = .ok (.iload_n 1, 1) := by decide +kernel
theorem dX3_drawOneRound_8 : decode cX3_drawOneRound 8 = .ok (.lshl, 1) := by decide +kernel
theorem dX3_drawOneRound_9 : decode cX3_drawOneRound 9 = .ok (.lastore, 1) := by decide +kernel
theorem dX3_drawOneRound_10 : decode cX3_drawOneRound 10 = .ok (.iload_n 3, 1) := by decide +kernel
theorem dX3_drawOneRound_11 : decode cX3_drawOneRound 11 = .ok (.iconst 1, 1) := by decide +kernel
theorem dX3_drawOneRound_12 : decode cX3_drawOneRound 12 = .ok (.isub, 1) := by decide +kernel
theorem dX3_drawOneRound_13 : decode cX3_drawOneRound 13 = .ok (.istore 4, 2) := by decide +kernel
theorem dX3_drawOneRound_15 : decode cX3_drawOneRound 15 = .ok (.iload 4, 2) := by decide +kernel
theorem dX3_drawOneRound_17 : decode cX3_drawOneRound 17 = .ok (.iload_n 2, 1) := by decide +kernel
theorem dX3_drawOneRound_18 : decode cX3_drawOneRound 18 = .ok (.if_icmp .lt 28, 3) := by decide +kernel
theorem dX3_drawOneRound_21 : decode cX3_drawOneRound 21 = .ok (.aload_n 0, 1) := by decide +kernel
theorem dX3_drawOneRound_22 : decode cX3_drawOneRound 22 = .ok (.getfield 21, 3) := by decide +kernel
theorem dX3_drawOneRound_25 : decode cX3_drawOneRound 25 = .ok (.iload 4, 2) := by decide +kernel
theorem dX3_drawOneRound_27 : decode cX3_drawOneRound 27 = .ok (.laload, 1) := by decide +kernel
theorem dX3_drawOneRound_28 : decode cX3_drawOneRound 28 = .ok (.lconst 0, 1) := by decide +kernel
theorem dX3_drawOneRound_29 : decode cX3_drawOneRound 29 = .ok (.lcmp, 1) := by decide +kernel
theorem dX3_drawOneRound_30 : decode cX3_drawOneRound 30 = .ok (.ifCond .eq 10, 3) := by decide +kernel
theorem dX3_drawOneRound_33 : decode cX3_drawOneRound 33 = .ok (.aload_n 0, 1) := by decide +kernel
theorem dX3_drawOneRound_34 : decode cX3_drawOneRound 34 = .ok (.iload_n 1, 1) := by decide +kernel
theorem dX3_drawOneRound_35 : decode cX3_drawOneRound 35 = .ok (.iload 4, 2) := by decide +kernel
theorem dX3_drawOneRound_37 : decode cX3_drawOneRound 37 = .ok (.invokevirtual 73, 3) := by decide +kernel
theorem dX3_drawOneRound_40 : decode cX3_drawOneRound 40 = .ok (.iinc 4 (-1), 3) := by decide +kernel
theorem dX3_drawOneRound_43 : decode cX3_drawOneRound 43 = .ok (.goto (-28), 3) := by decide +kernel
theorem dX3_drawOneRound_46 : decode cX3_drawOneRound 46 = .ok (.return_, 1) := by decide +kernel
set_option maxRecDepth 20000 in
theorem ggX3_drawFrom_J6_bitCount_0f7a4 : GoodIn wsX3_drawFrom wsJ6_bitCount_0f7a4 := goodIn_r _ [6, 7, 8, 9] (by decide +kernel) (by decide +kernel)
set_option maxRecDepth 20000 in
theorem gX3_drawFrom_J6_bitCount_0f7a4 : GoodIn wsX3_drawFrom (va_wsS RX3 77 yJ6_bitCount_0f7a4 wsJ6_bitCount_0f7a4) := goodIn_app (goodIn_of _ (by decide +kernel)) ggX3_drawFrom_J6_bitCount_0f7a4
theorem dX3_drawFrom_0 : decode cX3_drawFrom 0 = .ok (.aload_n 0, 1) := by decide +kernel
theorem dX3_drawFrom_1 : decode cX3_drawFrom 1 = .ok (.getfield 21, 3) := by decide +kernel
theorem dX3_drawFrom_4 : decode cX3_drawFrom 4 = .ok (.iload_n 2, 1) := by decide +kernel
theorem dX3_drawFrom_5 : decode cX3_drawFrom 5 = .ok (.laload, 1) := by decide +kernel
theorem dX3_drawFrom_6 : decode cX3_drawFrom 6 = .ok (.iload_n 1, 1) := by decide +kernel
theorem dX3_drawFrom_7 : decode cX3_drawFrom 7 = .ok (.iload_n 2, 1) := by decide +kernel
theorem dX3_drawFrom_8 : decode cX3_drawFrom 8 = .ok (.invokestatic 77, 3) := by decide +kernel
theorem dX3_drawFrom_11 : decode cX3_drawFrom 11 = .ok (.isub, 1) := by decide +kernel
theorem dX3_drawFrom_12 : decode cX3_drawFrom 12 = .ok (.lshl, 1) := by decide +kernel
theorem dX3_drawFrom_13 : decode cX3_drawFrom 13 = .ok (.lstore_n 3, 1) := by decide +kernel
theorem dX3_drawFrom_14 : decode cX3_drawFrom 14 = .ok (.aload_n 0, 1) := by decide +kernel
theorem dX3_drawFrom_15 : decode cX3_drawFrom 15 = .ok (.getfield 21, 3) := by decide +kernel
theorem dX3_drawFrom_18 : decode cX3_drawFrom 18 = .ok (.iload_n 2, 1) := by decide +kernel
theorem dX3_drawFrom_19 : decode cX3_drawFrom 19 = .ok (.lload_n 3, 1) := by decide +kernel
theorem dX3_drawFrom_20 : decode cX3_drawFrom 20 = .ok (.lastore, 1) := by decide +kernel
theorem dX3_drawFrom_21 : decode cX3_drawFrom 21 = .ok (.iload_n 2, 1) := by decide +kernel
theorem dX3_drawFrom_22 : decode cX3_drawFrom 22 = .ok (.istore 5, 2) := by decide +kernel
theorem dX3_drawFrom_24 : decode cX3_drawFrom 24 = .ok (.iload 5, 2) := by decide +kernel
theorem dX3_drawFrom_26 : decode cX3_drawFrom 26 = .ok (.ifCond .le 32, 3) := by decide +kernel
theorem dX3_drawFrom_29 : decode cX3_drawFrom 29 = .ok (.aload_n 0, 1) := by decide +kernel
theorem dX3_drawFrom_30 : decode cX3_drawFrom 30 = .ok (.getfield 21, 3) := by decide +kernel
theorem dX3_drawFrom_33 : decode cX3_drawFrom 33 = .ok (.iload_n 2, 1) := by decide +kernel
theorem dX3_drawFrom_34 : decode cX3_drawFrom 34 = .ok (.aload_n 0, 1) := by decide +kernel
theorem dX3_drawFrom_35 : decode cX3_drawFrom 35 = .ok (.getfield 9, 3) := by decide +kernel
theorem dX3_drawFrom_38 : decode cX3_drawFrom 38 = .ok (.iload 5, 2) := by decide +kernel
theorem dX3_drawFrom_40 : decode cX3_drawFrom 40 = .ok (.iaload, 1) := by decide +kernel
theorem dX3_drawFrom_41 : decode cX3_drawFrom 41 = .ok (.ior, 1) := by decide +kernel
theorem dX3_drawFrom_42 : decode cX3_drawFrom 42 = .ok (.dup2, 1) := by decide +kernel
theorem dX3_drawFrom_43 : decode cX3_drawFrom 43 = .ok (.laload, 1) := by decide +kernel
theorem dX3_drawFrom_44 : decode cX3_drawFrom 44 = .ok (.lload_n 3, 1) := by decide +kernel
theorem dX3_drawFrom_45 : decode cX3_drawFrom 45 = .ok (.ladd, 1) := by decide +kernel
theorem dX3_drawFrom_46 : decode cX3_drawFrom 46 = .ok (.lastore, 1) := by decide +kernel
theorem dX3_drawFrom_47 : decode cX3_drawFrom 47 = .ok (.iload 5, 2) := by decide +kernel
theorem dX3_drawFrom_49 : decode cX3_drawFrom 49 = .ok (.iconst 1, 1) := by decide +kernel
theorem dX3_drawFrom_50 : decode cX3_drawFrom 50 = .ok (.isub, 1) := by decide +kernel
theorem dX3_drawFrom_51 : decode cX3_drawFrom 51 = .ok (.iload_n 2, 1) := by decide +kernel
theorem dX3_drawFrom_52 : decode cX3_drawFrom 52 = .ok (.iand, 1) := by decide +kernel
theorem dX3_drawFrom_53 : decode cX3_drawFrom 53 = .ok (.istore 5, 2) := by decide +kernel
theorem dX3_drawFrom_55 : decode cX3_drawFrom 55 = .ok (.goto (-31), 3) := by decide +kernel
theorem dX3_drawFrom_58 : decode cX3_drawFrom 58 = .ok (.return_, 1) := by decide +kernel
set_option maxRecDepth 20000 in
theorem ggX4_init_J7_fill_53178 : GoodIn wsX4_init wsJ7_fill_53178 := goodIn_r _ [12] (by decide +kernel) (by decide +kernel)
set_option maxRecDepth 20000 in
theorem gX4_init_J7_fill_53178 : GoodIn wsX4_init (va_wsS RX4 23 yJ7_fill_53178 wsJ7_fill_53178) := goodIn_app (goodIn_of _ (by decide +kernel)) ggX4_init_J7_fill_53178
theorem dX4_init_0 : decode cX4_init 0 = .ok (.aload_n 0, 1) := by decide +kernel
theorem dX4_init_1 : decode cX4_init 1 = .ok (.invokespecial 3, 3) := by decide +kernel
theorem dX4_init_4 : decode cX4_init 4 = .ok (.aload_n 0, 1) := by decide +kernel
theorem dX4_init_5 : decode cX4_init 5 = .ok (.bipush 8, 2) := by decide +kernel
theorem dX4_init_7 : decode cX4_init 7 = .ok (.newarray .int, 2) := by decide +kernel
theorem dX4_init_9 : decode cX4_init 9 = .ok (.putfield 9, 3) := by decide +kernel
theorem dX4_init_12 : decode cX4_init 12 = .ok (.aload_n 0, 1) := by decide +kernel
theorem dX4_init_13 : decode cX4_init 13 = .ok (.bipush 8, 2) := by decide +kernel
theorem dX4_init_15 : decode cX4_init 15 = .ok (.newarray .int, 2) := by decide +kernel
theorem dX4_init_17 : decode cX4_init 17 = .ok (.putfield 15, 3) := by decide +kernel
theorem dX4_init_20 : decode cX4_init 20 = .ok (.aload_n 0, 1) := by decide +kernel
theorem dX4_init_21 : decode cX4_init 21 = .ok (.bipush 8, 2) := by decide +kernel
theorem dX4_init_23 : decode cX4_init 23 = .ok (.bipush 40, 2) := by decide +kernel
theorem dX4_init_25 : decode cX4_init 25 = .ok (.multianewarray 18 2, 4) := by decide +kernel
theorem dX4_init_29 : decode cX4_init 29 = .ok (.putfield 20, 3) := by decide +kernel
theorem dX4_init_32 : decode cX4_init 32 = .ok (.aload_n 0, 1) := by decide +kernel
theorem dX4_init_33 : decode cX4_init 33 = .ok (.getfield 9, 3) := by decide +kernel
theorem dX4_init_36 : decode cX4_init 36 = .ok (.iconst (-1), 1) := by decide +kernel
theorem dX4_init_37 : decode cX4_init 37 = .ok (.invokestatic 23, 3) := by decide +kernel
theorem dX4_init_40 : decode cX4_init 40 = .ok (.return_, 1) := by decide +kernel
theorem dX4_isMissing_0 : decode cX4_isMissing 0 = .ok (.aload_n 0, 1) := by decide +kernel
theorem dX4_isMissing_1 : decode cX4_isMissing 1 = .ok (.getfield 9, 3) := by decide +kernel
theorem dX4_isMissing_4 : decode cX4_isMissing 4 = .ok (.iload_n 1, 1) := by decide +kernel
theorem dX4_isMissing_5 : decode cX4_isMissing 5 = .ok (.iaload, 1) := by decide +kernel
theorem dX4_isMissing_6 : decode cX4_isMissing 6 = .ok (.iconst (-1), 1) := by decide +kernel
theorem dX4_isMissing_7 : decode cX4_isMissing 7 = .ok (.if_icmp .ne 7, 3) := by decide +kernel
theorem dX4_isMissing_10 : decode cX4_isMissing 10 = .ok (.iconst 1, 1) := by decide +kernel
theorem dX4_isMissing_11 : decode cX4_isMissing 11 = .ok (.goto 4, 3) := by decide +kernel
theorem dX4_isMissing_14 : decode cX4_isMissing 14 = .ok (.iconst 0, 1) := by decide +kernel
theorem dX4_isMissing_15 : decode cX4_isMissing 15 = .ok (.ireturn, 1) := by decide +kernel
set_option maxRecDepth 20000 in
theorem ggX4_size_X4_isMissing : GoodIn wsX4_size wsX4_isMissing := goodIn_r _ [5, 6, 7, 8, 9] (by decide +kernel) (by decide +kernel)
set_option maxRecDepth 20000 in
theorem gX4_size_X4_isMissing : GoodIn wsX4_size (wsV RX4 29 RX4 yX4_isMissing wsX4_isMissing) := goodIn_app (goodIn_of _ (by decide +kernel)) ggX4_size_X4_isMissing
theorem dX4_size_0 : decode cX4_size 0 = .ok (.iconst 0, 1) := by decide +kernel
theorem dX4_size_1 : decode cX4_size 1 = .ok (.istore_n 1, 1) := by decide +kernel
theorem dX4_size_2 : decode cX4_size 2 = .ok (.iconst 0, 1) := by decide +kernel
theorem dX4_size_3 : decode cX4_size 3 = .ok (.istore_n 2, 1) := by decide +kernel
theorem dX4_size_4 : decode cX4_size 4 = .ok (.iload_n 2, 1) := by decide +kernel
theorem dX4_size_5 : decode cX4_size 5 = .ok (.bipush 8, 2) := by decide +kernel
theorem dX4_size_7 : decode cX4_size 7 = .ok (.if_icmp .ge 25, 3) := by decide +kernel
theorem dX4_size_10 : decode cX4_size 10 = .ok (.iload_n 1, 1) := by decide +kernel
theorem dX4_size_11 : decode cX4_size 11 = .ok (.aload_n 0, 1) := by decide +kernel
theorem dX4_size_12 : decode cX4_size 12 = .ok (.iload_n 2, 1) := by decide +kernel
theorem dX4_size_13 : decode cX4_size 13 = .ok (.invokevirtual 29, 3) := by decide +kernel
theorem dX4_size_16 : decode cX4_size 16 = .ok (.ifCond .eq 7, 3) := by decide +kernel
theorem dX4_size_19 : decode cX4_size 19 = .ok (.iconst 0, 1) := by decide +kernel
theorem dX4_size_20 : decode cX4_size 20 = .ok (.goto 4, 3) := by decide +kernel
theorem dX4_size_23 : decode cX4_size 23 = .ok (.iconst 1, 1) := by decide +kernel
theorem dX4_size_24 : decode cX4_size 24 = .ok (.iadd, 1) := by decide +kernel
theorem dX4_size_25 : decode cX4_size 25 = .ok (.istore_n 1, 1) := by decide +kernel
theorem dX4_size_26 : decode cX4_size 26 = .ok (.iinc 2 1, 3) := by decide +kernel
theorem dX4_size_29 : decode cX4_size 29 = .ok (.goto (-25), 3) := by decide +kernel
theorem dX4_size_32 : decode cX4_size 32 = .ok (.iload_n 1, 1) := by decide +kernel
theorem dX4_size_33 : decode cX4_size 33 = .ok (.ireturn, 1) := by decide +kernel
set_option maxRecDepth 20000 in
theorem ggX4_begin_J7_fill_53178 : GoodIn wsX4_begin wsJ7_fill_53178 := goodIn_r _ [7] (by decide +kernel) (by decide +kernel)
set_option maxRecDepth 20000 in
theorem gX4_begin_J7_fill_53178 : GoodIn wsX4_begin (va_wsS RX4 23 yJ7_fill_53178 wsJ7_fill_53178) := goodIn_app (goodIn_of _ (by decide +kernel)) ggX4_begin_J7_fill_53178
theorem dX4_begin_0 : decode cX4_begin 0 = .ok (.aload_n 0, 1) := by decide +kernel
theorem dX4_begin_1 : decode cX4_begin 1 = .ok (.getfield 9, 3) := by decide +kernel
theorem dX4_begin_4 : decode cX4_begin 4 = .ok (.iload_n 1, 1) := by decide +kernel
theorem dX4_begin_5 : decode cX4_begin 5 = .ok (.iload_n 2, 1) := by decide +kernel
theorem dX4_begin_6 : decode cX4_begin 6 = .ok (.iastore, 1) := by decide +kernel
theorem dX4_begin_7 : decode cX4_begin 7 = .ok (.aload_n 0, 1) := by decide +kernel
theorem dX4_begin_8 : decode cX4_begin 8 = .ok (.getfield 15, 3) := by decide +kernel
theorem dX4_begin_11 : decode cX4_begin 11 = .ok (.iload_n 1, 1) := by decide +kernel
theorem dX4_begin_12 : decode cX4_begin 12 = .ok (.iload_n 3, 1) := by decide +kernel
theorem dX4_begin_13 : decode cX4_begin 13 = .ok (.iastore, 1) := by decide +kernel
theorem dX4_begin_14 : decode cX4_begin 14 = .ok (.aload_n 0, 1) := by decide +kernel
theorem dX4_begin_15 : decode cX4_begin 15 = .ok (.getfield 20, 3) := by decide +kernel
theorem dX4_begin_18 : decode cX4_begin 18 = .ok (.iload_n 1, 1) := by decide +kernel
theorem dX4_begin_19 : decode cX4_begin 19 = .ok (.aaload, 1) := by decide +kernel
theorem dX4_begin_20 : decode cX4_begin 20 = .ok (.iconst 0, 1) := by decide +kernel
theorem dX4_begin_21 : decode cX4_begin 21 = .ok (.invokestatic 23, 3) := by decide +kernel
theorem dX4_begin_24 : decode cX4_begin 24 = .ok (.return_, 1) := by decide +kernel
theorem dX4_remove_0 : decode cX4_remove 0 = .ok (.aload_n 0, 1) := by decide +kernel
theorem dX4_remove_1 : decode cX4_remove 1 = .ok (.getfield 9, 3) := by decide +kernel
theorem dX4_remove_4 : decode cX4_remove 4 = .ok (.iload_n 1, 1) := by decide +kernel
theorem dX4_remove_5 : decode cX4_remove 5 = .ok (.iconst (-1), 1) := by decide +kernel
theorem dX4_remove_6 : decode cX4_remove 6 = .ok (.iastore, 1) := by decide +kernel
theorem dX4_remove_7 : decode cX4_remove 7 = .ok (.aload_n 0, 1) := by decide +kernel
theorem dX4_remove_8 : decode cX4_remove 8 = .ok (.getfield 15, 3) := by decide +kernel
theorem dX4_remove_11 : decode cX4_remove 11 = .ok (.iload_n 1, 1) := by decide +kernel
theorem dX4_remove_12 : decode cX4_remove 12 = .ok (.iaload, 1) := by decide +kernel
theorem dX4_remove_13 : decode cX4_remove 13 = .ok (.ireturn, 1) := by decide +kernel
set_option maxRecDepth 20000 in
theorem ggX4_findPlaces_X4_isMissing : GoodIn wsX4_findPlaces wsX4_isMissing := goodIn_r _ [5, 6, 12, 13, 14] (by decide +kernel) (by decide +kernel)
set_option maxRecDepth 20000 in
theorem gX4_findPlaces_X4_isMissing : GoodIn wsX4_findPlaces (wsV RX4 29 RX4 yX4_isMissing wsX4_isMissing) := goodIn_app (goodIn_of _ (by decide +kernel)) ggX4_findPlaces_X4_isMissing
set_option maxRecDepth 20000 in
theorem ggX4_findPlaces_X4_hasPlaces : GoodIn wsX4_findPlaces wsX4_hasPlaces := goodIn_r _ [10, 11, 12, 13, 14] (by decide +kernel) (by decide +kernel)
set_option maxRecDepth 20000 in
theorem gX4_findPlaces_X4_hasPlaces : GoodIn wsX4_findPlaces (wsV RX4 33 RX4 yX4_hasPlaces wsX4_hasPlaces) := goodIn_app (goodIn_of _ (by decide +kernel)) ggX4_findPlaces_X4_hasPlaces
theorem dX4_findPlaces_0 : decode cX4_findPlaces 0 = .ok (.aload_n 0, 1) := by decide +kernel
theorem dX4_findPlaces_1 : decode cX4_findPlaces 1 = .ok (.iload_n 1, 1) := by decide +kernel
theorem dX4_findPlaces_2 : decode cX4_findPlaces 2 = .ok (.invokevirtual 29, 3) := by decide +kernel
theorem dX4_findPlaces_5 : decode cX4_findPlaces 5 = .ok (.ifCond .eq 5, 3) := by decide +kernel
theorem dX4_findPlaces_8 : decode cX4_findPlaces 8 = .ok (.iconst 1, 1) := by decide +kernel
theorem dX4_findPlaces_9 : decode cX4_findPlaces 9 = .ok (.ireturn, 1) := by decide +kernel
theorem dX4_findPlaces_10 : decode cX4_findPlaces 10 = .ok (.aload_n 0, 1) := by decide +kernel
theorem dX4_findPlaces_11 : decode cX4_findPlaces 11 = .ok (.iload_n 1, 1) := by decide +kernel
theorem dX4_findPlaces_12 : decode cX4_findPlaces 12 = .ok (.iload_n 2, 1) := by decide +kernel
theorem dX4_findPlaces_13 : decode cX4_findPlaces 13 = .ok (.iload_n 3, 1) := by decide +kernel
theorem dX4_findPlaces_14 : decode cX4_findPlaces 14 = .ok (.invokevirtual 33, 3) := by decide +kernel
theorem dX4_findPlaces_17 : decode cX4_findPlaces 17 = .ok (.ifCond .eq 7, 3) := by decide +kernel
theorem dX4_findPlaces_20 : decode cX4_findPlaces 20 = .ok (.iconst 0, 1) := by decide +kernel
theorem dX4_findPlaces_21 : decode cX4_findPlaces 21 = .ok (.goto 4, 3) := by decide +kernel
theorem dX4_findPlaces_24 : decode cX4_findPlaces 24 = .ok (.iconst 2, 1) := by decide +kernel
theorem dX4_findPlaces_25 : decode cX4_findPlaces 25 = .ok (.ireturn, 1) := by decide +kernel
set_option maxRecDepth 20000 in
theorem ggX4_findMove_X4_isMissing : GoodIn wsX4_findMove wsX4_isMissing := goodIn_r _ [6, 1, 12, 13, 14] (by decide +kernel) (by decide +kernel)
set_option maxRecDepth 20000 in
theorem gX4_findMove_X4_isMissing : GoodIn wsX4_findMove (wsV RX4 29 RX4 yX4_isMissing wsX4_isMissing) := goodIn_app (goodIn_of _ (by decide +kernel)) ggX4_findMove_X4_isMissing
set_option maxRecDepth 20000 in
theorem ggX4_findMove_X4_hasPlaces : GoodIn wsX4_findMove wsX4_hasPlaces := goodIn_r _ [10, 11, 12, 13, 14] (by decide +kernel) (by decide +kernel)
set_option maxRecDepth 20000 in
theorem gX4_findMove_X4_hasPlaces : GoodIn wsX4_findMove (wsV RX4 33 RX4 yX4_hasPlaces wsX4_hasPlaces) := goodIn_app (goodIn_of _ (by decide +kernel)) ggX4_findMove_X4_hasPlaces
theorem dX4_findMove_0 : decode cX4_findMove 0 = .ok (.aload_n 0, 1) := by decide +kernel
theorem dX4_findMove_1 : decode cX4_findMove 1 = .ok (.iload_n 1, 1) := by decide +kernel
theorem dX4_findMove_2 : decode cX4_findMove 2 = .ok (.invokevirtual 29, 3) := by decide +kernel
theorem dX4_findMove_5 : decode cX4_findMove 5 = .ok (.ifCond .ne 11, 3) := by decide +kernel
theorem dX4_findMove_8 : decode cX4_findMove 8 = .ok (.aload_n 0, 1) := by decide +kernel
theorem dX4_findMove_9 : decode cX4_findMove 9 = .ok (.iload_n 3, 1) := by decide +kernel
theorem dX4_findMove_10 : decode cX4_findMove 10 = .ok (.invokevirtual 29, 3) := by decide +kernel
theorem dX4_findMove_13 : decode cX4_findMove 13 = .ok (.ifCond .eq 5, 3) := by decide +kernel
theorem dX4_findMove_16 : decode cX4_findMove 16 = .ok (.iconst 1, 1) := by decide +kernel
theorem dX4_findMove_17 : decode cX4_findMove 17 = .ok (.ireturn, 1) := by decide +kernel
theorem dX4_findMove_18 : decode cX4_findMove 18 = .ok (.aload_n 0, 1) := by decide +kernel
theorem dX4_findMove_19 : decode cX4_findMove 19 = .ok (.getfield 9, 3) := by decide +kernel
theorem dX4_findMove_22 : decode cX4_findMove 22 = .ok (.iload_n 1, 1) := by decide +kernel
theorem dX4_findMove_23 : decode cX4_findMove 23 = .ok (.iaload, 1) := by decide +kernel
theorem dX4_findMove_24 : decode cX4_findMove 24 = .ok (.aload_n 0, 1) := by decide +kernel
theorem dX4_findMove_25 : decode cX4_findMove 25 = .ok (.getfield 9, 3) := by decide +kernel
theorem dX4_findMove_28 : decode cX4_findMove 28 = .ok (.iload_n 3, 1) := by decide +kernel
theorem dX4_findMove_29 : decode cX4_findMove 29 = .ok (.iaload, 1) := by decide +kernel
theorem dX4_findMove_30 : decode cX4_findMove 30 = .ok (.if_icmp .eq 5, 3) := by decide +kernel
theorem dX4_findMove_33 : decode cX4_findMove 33 = .ok (.iconst 5, 1) := by decide +kernel
theorem dX4_findMove_34 : decode cX4_findMove 34 = .ok (.ireturn, 1) := by decide +kernel
theorem dX4_findMove_35 : decode cX4_findMove 35 = .ok (.aload_n 0, 1) := by decide +kernel
theorem dX4_findMove_36 : decode cX4_findMove 36 = .ok (.iload_n 1, 1) := by decide +kernel
theorem dX4_findMove_37 : decode cX4_findMove 37 = .ok (.iload_n 2, 1) := by decide +kernel
theorem dX4_findMove_38 : decode cX4_findMove 38 = .ok (.iload 5, 2) := by decide +kernel
theorem dX4_findMove_40 : decode cX4_findMove 40 = .ok (.invokevirtual 33, 3) := by decide +kernel
theorem dX4_findMove_43 : decode cX4_findMove 43 = .ok (.ifCond .eq 19, 3) := by decide +kernel
theorem dX4_findMove_46 : decode cX4_findMove 46 = .ok (.aload_n 0, 1) := by decide +kernel
theorem dX4_findMove_47 : decode cX4_findMove 47 = .ok (.iload_n 3, 1) := by decide +kernel
theorem dX4_findMove_48 : decode cX4_findMove 48 = .ok (.iload 4, 2) := by decide +kernel
theorem dX4_findMove_50 : decode cX4_findMove 50 = .ok (.iload 5, 2) := by decide +kernel
theorem dX4_findMove_52 : decode cX4_findMove 52 = .ok (.invokevirtual 33, 3) := by decide +kernel
theorem dX4_findMove_55 : decode cX4_findMove 55 = .ok (.ifCond .eq 7, 3) := by decide +kernel
theorem dX4_findMove_58 : decode cX4_findMove 58 = .ok (.iconst 0, 1) := by decide +kernel
theorem dX4_findMove_59 : decode cX4_findMove 59 = .ok (.goto 4, 3) := by decide +kernel
theorem dX4_findMove_62 : decode cX4_findMove 62 = .ok (.iconst 2, 1) := by decide +kernel
theorem dX4_findMove_63 : decode cX4_findMove 63 = .ok (.ireturn, 1) := by decide +kernel
theorem dX4_hasPlaces_0 : decode cX4_hasPlaces 0 = .ok (.iload_n 2, 1) := by decide +kernel
theorem dX4_hasPlaces_1 : decode cX4_hasPlaces 1 = .ok (.ifCond .lt 33, 3) := by decide +kernel
theorem dX4_hasPlaces_4 : decode cX4_hasPlaces 4 = .ok (.iload_n 3, 1) := by decide +kernel
theorem dX4_hasPlaces_5 : decode cX4_hasPlaces 5 = .ok (.ifCond .lt 29, 3) := by decide +kernel
theorem dX4_hasPlaces_8 : decode cX4_hasPlaces 8 = .ok (.iload_n 2, 1) := by decide +kernel
theorem dX4_hasPlaces_9 : decode cX4_hasPlaces 9 = .ok (.aload_n 0, 1) := by decide +kernel
theorem dX4_hasPlaces_10 : decode cX4_hasPlaces 10 = .ok (.getfield 15, 3) := by decide +kernel
theorem dX4_hasPlaces_13 : decode cX4_hasPlaces 13 = .ok (.iload_n 1, 1) := by decide +kernel
theorem dX4_hasPlaces_14 : decode cX4_hasPlaces 14 = .ok (.iaload, 1) := by decide +kernel
theorem dX4_hasPlaces_15 : decode cX4_hasPlaces 15 = .ok (.if_icmp .gt 19, 3) := by decide +kernel
theorem dX4_hasPlaces_18 : decode cX4_hasPlaces 18 = .ok (.iload_n 3, 1) := by decide +kernel
theorem dX4_hasPlaces_19 : decode cX4_hasPlaces 19 = .ok (.aload_n 0, 1) := by decide +kernel
theorem dX4_hasPlaces_20 : decode cX4_hasPlaces 20 = .ok (.getfield 15, 3) := by decide +kernel
theorem dX4_hasPlaces_23 : decode cX4_hasPlaces 23 = .ok (.iload_n 1, 1) := by decide +kernel
theorem dX4_hasPlaces_24 : decode cX4_hasPlaces 24 = .ok (.iaload, 1) := by decide +kernel
theorem dX4_hasPlaces_25 : decode cX4_hasPlaces 25 = .ok (.iload_n 2, 1) := by decide +kernel
theorem dX4_hasPlaces_26 : decode cX4_hasPlaces 26 = .ok (.isub, 1) := by decide +kernel
theorem dX4_hasPlaces_27 : decode cX4_hasPlaces 27 = .ok (.if_icmp .gt 7, 3) := by decide +kernel
theorem dX4_hasPlaces_30 : decode cX4_hasPlaces 30 = .ok (.iconst 1, 1) := by decide +kernel
theorem dX4_hasPlaces_31 : decode cX4_hasPlaces 31 = .ok (.goto 4, 3) := by decide +kernel
theorem dX4_hasPlaces_34 : decode cX4_hasPlaces 34 = .ok (.iconst 0, 1) := by decide +kernel
theorem dX4_hasPlaces_35 : decode cX4_hasPlaces 35 = .ok (.ireturn, 1) := by decide +kernel
set_option maxRecDepth 20000 in
theorem ggX4_put_X4_narrowed : GoodIn wsX4_put wsX4_narrowed := goodIn_r _ [6] (by decide +kernel) (by decide +kernel)
set_option maxRecDepth 20000 in
theorem gX4_put_X4_narrowed : GoodIn wsX4_put (va_wsS RX4 37 yX4_narrowed wsX4_narrowed) := goodIn_app (goodIn_of _ (by decide +kernel)) ggX4_put_X4_narrowed
theorem dX4_put_0 : decode cX4_put 0 = .ok (.aload_n 0, 1) := by decide +kernel
theorem dX4_put_1 : decode cX4_put 1 = .ok (.getfield 20, 3) := by decide +kernel
theorem dX4_put_4 : decode cX4_put 4 = .ok (.iload_n 1, 1) := by decide +kernel
theorem dX4_put_5 : decode cX4_put 5 = .ok (.aaload, 1) := by decide +kernel
theorem dX4_put_6 : decode cX4_put 6 = .ok (.iload_n 2, 1) := by decide +kernel
theorem dX4_put_7 : decode cX4_put 7 = .ok (.aload_n 0, 1) := by decide +kernel
theorem dX4_put_8 : decode cX4_put 8 = .ok (.getfield 9, 3) := by decide +kernel
theorem dX4_put_11 : decode cX4_put 11 = .ok (.iload_n 1, 1) := by decide +kernel
theorem dX4_put_12 : decode cX4_put 12 = .ok (.iaload, 1) := by decide +kernel
theorem dX4_put_13 : decode cX4_put 13 = .ok (.iload_n 3, 1) := by decide +kernel
theorem dX4_put_14 : decode cX4_put 14 = .ok (.invokestatic 37, 3) := by decide +kernel
theorem dX4_put_17 : decode cX4_put 17 = .ok (.iastore, 1) := by decide +kernel
theorem dX4_put_18 : decode cX4_put 18 = .ok (.aload_n 0, 1) := by decide +kernel
theorem dX4_put_19 : decode cX4_put 19 = .ok (.getfield 20, 3) := by decide +kernel
theorem dX4_put_22 : decode cX4_put 22 = .ok (.iload_n 1, 1) := by decide +kernel
theorem dX4_put_23 : decode cX4_put 23 = .ok (.aaload, 1) := by decide +kernel
theorem dX4_put_24 : decode cX4_put 24 = .ok (.iload_n 2, 1) := by decide +kernel
theorem dX4_put_25 : decode cX4_put 25 = .ok (.iaload, 1) := by decide +kernel
theorem dX4_put_26 : decode cX4_put 26 = .ok (.ireturn, 1) := by decide +kernel
theorem dX4_narrowed_0 : decode cX4_narrowed 0 = .ok (.iload_n 0, 1) := by decide +kernel
theorem dX4_narrowed_1 : decode cX4_narrowed 1 = .ok (.ifCond .ne 6, 3) := by decide +kernel
theorem dX4_narrowed_4 : decode cX4_narrowed 4 = .ok (.iload_n 1, 1) := by decide +kernel
theorem dX4_narrowed_5 : decode cX4_narrowed 5 = .ok (.i2b, 1) := by decide +kernel
theorem dX4_narrowed_6 : decode cX4_narrowed 6 = .ok (.ireturn, 1) := by decide +kernel
theorem dX4_narrowed_7 : decode cX4_narrowed 7 = .ok (.iload_n 0, 1) := by decide +kernel
theorem dX4_narrowed_8 : decode cX4_narrowed 8 = .ok (.iconst 1, 1) := by decide +kernel
theorem dX4_narrowed_9 : decode cX4_narrowed 9 = .ok (.if_icmp .ne 8, 3) := by decide +kernel
theorem dX4_narrowed_12 : decode cX4_narrowed 12 = .ok (.iload_n 1, 1) := by decide +kernel
theorem dX4_narrowed_13 : decode cX4_narrowed 13 = .ok (.i2s, 1) := by decide +kernel
theorem dX4_narrowed_14 : decode cX4_narrowed 14 = .ok (.goto 4, 3) := by decide +kernel
theorem dX4_narrowed_17 : decode cX4_narrowed 17 = .ok (.iload_n 1, 1) := by decide +kernel
theorem dX4_narrowed_18 : decode cX4_narrowed 18 = .ok (.ireturn, 1) := by decide +kernel
theorem dX4_move_0 : decode cX4_move 0 = .ok (.aload_n 0, 1) := by decide +kernel
theorem dX4_move_1 : decode cX4_move 1 = .ok (.getfield 20, 3) := by decide +kernel
theorem dX4_move_4 : decode cX4_move 4 = .ok (.iload_n 1, 1) := by decide +kernel
theorem dX4_move_5 : decode cX4_move 5 = .ok (.aaload, 1) := by decide +kernel
theorem dX4_move_6 : decode cX4_move 6 = .ok (.iload_n 2, 1) := by decide +kernel
theorem dX4_move_7 : decode cX4_move 7 = .ok (.aload_n 0, 1) := by decide +kernel
theorem dX4_move_8 : decode cX4_move 8 = .ok (.getfield 20, 3) := by decide +kernel
theorem dX4_move_11 : decode cX4_move 11 = .ok (.iload_n 3, 1) := by decide +kernel
theorem dX4_move_12 : decode cX4_move 12 = .ok (.aaload, 1) := by decide +kernel
theorem dX4_move_13 : decode cX4_move 13 = .ok (.iload 4, 2) := by decide +kernel
theorem dX4_move_15 : decode cX4_move 15 = .ok (.iload 5, 2) := by decide +kernel
theorem dX4_move_17 : decode cX4_move 17 = .ok (.invokestatic 41, 3) := by decide +kernel
theorem dX4_move_20 : decode cX4_move 20 = .ok (.return_, 1) := by decide +kernel
set_option maxRecDepth 20000 in
theorem ggX4_picksOne_J6_bitCount_0f7a4 : GoodIn wsX4_picksOne wsJ6_bitCount_0f7a4 := goodIn_r _ [5, 6, 7, 8] (by decide +kernel) (by decide +kernel)
set_option maxRecDepth 20000 in
theorem gX4_picksOne_J6_bitCount_0f7a4 : GoodIn wsX4_picksOne (va_wsS RX4 47 yJ6_bitCount_0f7a4 wsJ6_bitCount_0f7a4) := goodIn_app (goodIn_of _ (by decide +kernel)) ggX4_picksOne_J6_bitCount_0f7a4
theorem dX4_picksOne_0 : decode cX4_picksOne 0 = .ok (.iload_n 2, 1) := by decide +kernel
theorem dX4_picksOne_1 : decode cX4_picksOne 1 = .ok (.istore 5, 2) := by decide +kernel
theorem dX4_picksOne_3 : decode cX4_picksOne 3 = .ok (.iload 5, 2) := by decide +kernel
theorem dX4_picksOne_5 : decode cX4_picksOne 5 = .ok (.iload_n 2, 1) := by decide +kernel
theorem dX4_picksOne_6 : decode cX4_picksOne 6 = .ok (.iload_n 3, 1) := by decide +kernel
theorem dX4_picksOne_7 : decode cX4_picksOne 7 = .ok (.iadd, 1) := by decide +kernel
theorem dX4_picksOne_8 : decode cX4_picksOne 8 = .ok (.if_icmp .ge 30, 3) := by decide +kernel
theorem dX4_picksOne_11 : decode cX4_picksOne 11 = .ok (.aload_n 0, 1) := by decide +kernel
theorem dX4_picksOne_12 : decode cX4_picksOne 12 = .ok (.getfield 20, 3) := by decide +kernel
theorem dX4_picksOne_15 : decode cX4_picksOne 15 = .ok (.iload_n 1, 1) := by decide +kernel
theorem dX4_picksOne_16 : decode cX4_picksOne 16 = .ok (.aaload, 1) := by decide +kernel
theorem dX4_picksOne_17 : decode cX4_picksOne 17 = .ok (.iload 5, 2) := by decide +kernel
theorem dX4_picksOne_19 : decode cX4_picksOne 19 = .ok (.iaload, 1) := by decide +kernel
theorem dX4_picksOne_20 : decode cX4_picksOne 20 = .ok (.iload 4, 2) := by decide +kernel
theorem dX4_picksOne_22 : decode cX4_picksOne 22 = .ok (.iand, 1) := by decide +kernel
theorem dX4_picksOne_23 : decode cX4_picksOne 23 = .ok (.invokestatic 47, 3) := by decide +kernel
theorem dX4_picksOne_26 : decode cX4_picksOne 26 = .ok (.iconst 1, 1) := by decide +kernel
theorem dX4_picksOne_27 : decode cX4_picksOne 27 = .ok (.if_icmp .ne 5, 3) := by decide +kernel
theorem dX4_picksOne_30 : decode cX4_picksOne 30 = .ok (.iconst 1, 1) := by decide +kernel
theorem dX4_picksOne_31 : decode cX4_picksOne 31 = .ok (.ireturn, 1) := by decide +kernel
theorem dX4_picksOne_32 : decode cX4_picksOne 32 = .ok (.iinc 5 1, 3) := by decide +kernel
theorem dX4_picksOne_35 : decode cX4_picksOne 35 = .ok (.goto (-32), 3) := by decide +kernel
theorem dX4_picksOne_38 : decode cX4_picksOne 38 = .ok (.iconst 0, 1) := by decide +kernel
theorem dX4_picksOne_39 : decode cX4_picksOne 39 = .ok (.ireturn, 1) := by decide +kernel
theorem dX5_init_0 : decode cX5_init 0 = .ok (.aload_n 0, 1) := by decide +kernel
theorem dX5_init_1 : decode cX5_init 1 = .ok (.invokespecial 3, 3) := by decide +kernel
theorem dX5_init_4 : decode cX5_init 4 = .ok (.aload_n 0, 1) := by decide +kernel
theorem dX5_init_5 : decode cX5_init 5 = .ok (.bipush 20, 2) := by decide +kernel
theorem dX5_init_7 : decode cX5_init 7 = .ok (.newarray .int, 2) := by decide +kernel
theorem dX5_init_9 : decode cX5_init 9 = .ok (.putfield 9, 3) := by decide +kernel
theorem dX5_init_12 : decode cX5_init 12 = .ok (.return_, 1) := by decide +kernel
theorem dX5_size_0 : decode cX5_size 0 = .ok (.aload_n 0, 1) := by decide +kernel
theorem dX5_size_1 : decode cX5_size 1 = .ok (.getfield 15, 3) := by decide +kernel
theorem dX5_size_4 : decode cX5_size 4 = .ok (.ireturn, 1) := by decide +kernel
set_option maxRecDepth 20000 in
theorem ggX5_become_X2_giveRounds : GoodIn wsX5_become wsX2_giveRounds := goodIn_r _ [7, 8, 9, 10, 11, 12, 13, 16, 17, 18, 19, 20, 21, 22, 23] (by decide +kernel) (by decide +kernel)
set_option maxRecDepth 20000 in
theorem gX5_become_X2_giveRounds : GoodIn wsX5_become (wsV RX5 19 RX2 yX2_giveRounds wsX2_giveRounds) := goodIn_app (goodIn_of _ (by decide +kernel)) ggX5_become_X2_giveRounds
theorem dX5_become_0 : decode cX5_become 0 = .ok (.aload_n 0, 1) := by decide +kernel
theorem dX5_become_1 : decode cX5_become 1 = .ok (.aload_n 1, 1) := by decide +kernel
theorem dX5_become_2 : decode cX5_become 2 = .ok (.aload_n 0, 1) := by decide +kernel
theorem dX5_become_3 : decode cX5_become 3 = .ok (.getfield 9, 3) := by decide +kernel
theorem dX5_become_6 : decode cX5_become 6 = .ok (.invokevirtual 19, 3) := by decide +kernel
theorem dX5_become_9 : decode cX5_become 9 = .ok (.putfield 15, 3) := by decide +kernel
theorem dX5_become_12 : decode cX5_become 12 = .ok (.return_, 1) := by decide +kernel
theorem dX5_hasRound_0 : decode cX5_hasRound 0 = .ok (.iload_n 1, 1) := by decide +kernel
theorem dX5_hasRound_1 : decode cX5_hasRound 1 = .ok (.ifCond .lt 15, 3) := by decide +kernel
theorem dX5_hasRound_4 : decode cX5_hasRound 4 = .ok (.iload_n 1, 1) := by decide +kernel
theorem dX5_hasRound_5 : decode cX5_hasRound 5 = .ok (.aload_n 0, 1) := by decide +kernel
theorem dX5_hasRound_6 : decode cX5_hasRound 6 = .ok (.getfield 15, 3) := by decide +kernel
theorem dX5_hasRound_9 : decode cX5_hasRound 9 = .ok (.if_icmp .ge 7, 3) := by decide +kernel
theorem dX5_hasRound_12 : decode cX5_hasRound 12 = .ok (.iconst 1, 1) := by decide +kernel
theorem dX5_hasRound_13 : decode cX5_hasRound 13 = .ok (.goto 4, 3) := by decide +kernel
theorem dX5_hasRound_16 : decode cX5_hasRound 16 = .ok (.iconst 0, 1) := by decide +kernel
theorem dX5_hasRound_17 : decode cX5_hasRound 17 = .ok (.ireturn, 1) := by decide +kernel
theorem dX5_soundsIn_0 : decode cX5_soundsIn 0 = .ok (.aload_n 0, 1) := by decide +kernel
theorem dX5_soundsIn_1 : decode cX5_soundsIn 1 = .ok (.getfield 9, 3) := by decide +kernel
theorem dX5_soundsIn_4 : decode cX5_soundsIn 4 = .ok (.iload_n 1, 1) := by decide +kernel
theorem dX5_soundsIn_5 : decode cX5_soundsIn 5 = .ok (.iaload, 1) := by decide +kernel
theorem dX5_soundsIn_6 : decode cX5_soundsIn 6 = .ok (.iload_n 2, 1) := by decide +kernel
theorem dX5_soundsIn_7 : decode cX5_soundsIn 7 = .ok (.iand, 1) := by decide +kernel
theorem dX5_soundsIn_8 : decode cX5_soundsIn 8 = .ok (.ireturn, 1) := by decide +kernel
set_option maxRecDepth 20000 in
theorem ggX5_soundsOverAndOver_X5_soundsIn : GoodIn wsX5_soundsOverAndOver wsX5_soundsIn := goodIn_r _ [6, 7, 8, 9] (by decide +kernel) (by decide +kernel)
set_option maxRecDepth 20000 in
theorem gX5_soundsOverAndOver_X5_soundsIn : GoodIn wsX5_soundsOverAndOver (wsV RX5 25 RX5 yX5_soundsIn wsX5_soundsIn) := goodIn_app (goodIn_of _ (by decide +kernel)) ggX5_soundsOverAndOver_X5_soundsIn
theorem dX5_soundsOverAndOver_0 : decode cX5_soundsOverAndOver 0 = .ok (.aload_n 0, 1) := by decide +kernel
theorem dX5_soundsOverAndOver_1 : decode cX5_soundsOverAndOver 1 = .ok (.getfield 15, 3) := by decide +kernel
theorem dX5_soundsOverAndOver_4 : decode cX5_soundsOverAndOver 4 = .ok (.ifCond .ne 7, 3) := by decide +kernel
theorem dX5_soundsOverAndOver_7 : decode cX5_soundsOverAndOver 7 = .ok (.iconst 0, 1) := by decide +kernel
theorem dX5_soundsOverAndOver_8 : decode cX5_soundsOverAndOver 8 = .ok (.goto 14, 3) := by decide +kernel
theorem dX5_soundsOverAndOver_11 : decode cX5_soundsOverAndOver 11 = .ok (.aload_n 0, 1) := by decide +kernel
theorem dX5_soundsOverAndOver_12 : decode cX5_soundsOverAndOver 12 = .ok (.iload_n 1, 1) := by decide +kernel
theorem dX5_soundsOverAndOver_13 : decode cX5_soundsOverAndOver 13 = .ok (.aload_n 0, 1) := by decide +kernel
theorem dX5_soundsOverAndOver_14 : decode cX5_soundsOverAndOver 14 = .ok (.getfield 15, 3) := by decide +kernel
theorem dX5_soundsOverAndOver_17 : decode cX5_soundsOverAndOver 17 = .ok (.irem, 1) := by decide +kernel
theorem dX5_soundsOverAndOver_18 : decode cX5_soundsOverAndOver 18 = .ok (.iload_n 2, 1) := by decide +kernel
theorem dX5_soundsOverAndOver_19 : decode cX5_soundsOverAndOver 19 = .ok (.invokevirtual 25, 3) := by decide +kernel
theorem dX5_soundsOverAndOver_22 : decode cX5_soundsOverAndOver 22 = .ok (.ireturn, 1) := by decide +kernel
set_option maxRecDepth 20000 in
theorem ggX6_init_X4_init : GoodIn wsX6_init wsX4_init := goodIn_r _ [30, 31, 2, 3, 32, 33, 34, 35, 36, 37, 38, 39, 40, 68, 69, 70] (by decide +kernel) (by decide +kernel)
set_option maxRecDepth 20000 in
theorem gX6_init_X4_init : GoodIn wsX6_init (wsX4_init) := ggX6_init_X4_init
set_option maxRecDepth 20000 in
theorem ggX6_init_X1_init : GoodIn wsX6_init wsX1_init := goodIn_r _ [42, 43, 2, 3, 32, 44, 79, 80] (by decide +kernel) (by decide +kernel)
set_option maxRecDepth 20000 in
theorem gX6_init_X1_init_n18 : GoodIn wsX6_init (wsX1_init) := ggX6_init_X1_init
set_option maxRecDepth 20000 in
theorem ggX6_init_X2_init : GoodIn wsX6_init wsX2_init := goodIn_r _ [46, 47, 2, 3, 32, 48, 49, 81, 82, 83, 84, 85, 86, 87, 88] (by decide +kernel) (by decide +kernel)
set_option maxRecDepth 20000 in
theorem gX6_init_X2_init_n25 : GoodIn wsX6_init (wsX2_init) := ggX6_init_X2_init
set_option maxRecDepth 20000 in
theorem ggX6_init_X5_init : GoodIn wsX6_init wsX5_init := goodIn_r _ [51, 52, 2, 3, 32, 53, 89, 90] (by decide +kernel) (by decide +kernel)
set_option maxRecDepth 20000 in
theorem gX6_init_X5_init_n32 : GoodIn wsX6_init (wsX5_init) := ggX6_init_X5_init
set_option maxRecDepth 20000 in
theorem ggX6_init_X3_init : GoodIn wsX6_init wsX3_init := goodIn_r _ [55, 56, 2, 3, 32, 57, 58, 59, 60, 61, 91, 92, 93, 94] (by decide +kernel) (by decide +kernel)
set_option maxRecDepth 20000 in
theorem gX6_init_X3_init_n39 : GoodIn wsX6_init (wsX3_init) := ggX6_init_X3_init
set_option maxRecDepth 20000 in
theorem ggX6_init_X0_init : GoodIn wsX6_init wsX0_init := goodIn_r _ [64, 65, 2, 3, 32, 66, 67, 95, 96, 97] (by decide +kernel) (by decide +kernel)
set_option maxRecDepth 20000 in
theorem gX6_init_X0_init : GoodIn wsX6_init (wsX0_init) := ggX6_init_X0_init
theorem dX6_init_0 : decode cX6_init 0 = .ok (.aload_n 0, 1) := by decide +kernel
theorem dX6_init_1 : decode cX6_init 1 = .ok (.invokespecial 1, 3) := by decide +kernel
theorem dX6_init_4 : decode cX6_init 4 = .ok (.aload_n 0, 1) := by decide +kernel
theorem dX6_init_5 : decode cX6_init 5 = .ok (.new 7, 3) := by decide +kernel
theorem dX6_init_8 : decode cX6_init 8 = .ok (.dup, 1) := by decide +kernel
theorem dX6_init_9 : decode cX6_init 9 = .ok (.invokespecial 9, 3) := by decide +kernel
theorem dX6_init_12 : decode cX6_init 12 = .ok (.putfield 10, 3) := by decide +kernel
theorem dX6_init_15 : decode cX6_init 15 = .ok (.aload_n 0, 1) := by decide +kernel
theorem dX6_init_16 : decode cX6_init 16 = .ok (.new 16, 3) := by decide +kernel
theorem dX6_init_19 : decode cX6_init 19 = .ok (.dup, 1) := by decide +kernel
theorem dX6_init_20 : decode cX6_init 20 = .ok (.invokespecial 18, 3) := by decide +kernel
theorem dX6_init_23 : decode cX6_init 23 = .ok (.putfield 19, 3) := by decide +kernel
theorem dX6_init_26 : decode cX6_init 26 = .ok (.aload_n 0, 1) := by decide +kernel
theorem dX6_init_27 : decode cX6_init 27 = .ok (.new 23, 3) := by decide +kernel
theorem dX6_init_30 : decode cX6_init 30 = .ok (.dup, 1) := by decide +kernel
theorem dX6_init_31 : decode cX6_init 31 = .ok (.invokespecial 25, 3) := by decide +kernel
theorem dX6_init_34 : decode cX6_init 34 = .ok (.putfield 26, 3) := by decide +kernel
theorem dX6_init_37 : decode cX6_init 37 = .ok (.aload_n 0, 1) := by decide +kernel
theorem dX6_init_38 : decode cX6_init 38 = .ok (.new 30, 3) := by decide +kernel
theorem dX6_init_41 : decode cX6_init 41 = .ok (.dup, 1) := by decide +kernel
theorem dX6_init_42 : decode cX6_init 42 = .ok (.invokespecial 32, 3) := by decide +kernel
theorem dX6_init_45 : decode cX6_init 45 = .ok (.putfield 33, 3) := by decide +kernel
theorem dX6_init_48 : decode cX6_init 48 = .ok (.aload_n 0, 1) := by decide +kernel
theorem dX6_init_49 : decode cX6_init 49 = .ok (.new 37, 3) := by decide +kernel
theorem dX6_init_52 : decode cX6_init 52 = .ok (.dup, 1) := by decide +kernel
theorem dX6_init_53 : decode cX6_init 53 = .ok (.invokespecial 39, 3) := by decide +kernel
theorem dX6_init_56 : decode cX6_init 56 = .ok (.putfield 40, 3) := by decide +kernel
theorem dX6_init_59 : decode cX6_init 59 = .ok (.aload_n 0, 1) := by decide +kernel
theorem dX6_init_60 : decode cX6_init 60 = .ok (.new 44, 3) := by decide +kernel
theorem dX6_init_63 : decode cX6_init 63 = .ok (.dup, 1) := by decide +kernel
theorem dX6_init_64 : decode cX6_init 64 = .ok (.aload_n 0, 1) := by decide +kernel
theorem dX6_init_65 : decode cX6_init 65 = .ok (.getfield 19, 3) := by decide +kernel
theorem dX6_init_68 : decode cX6_init 68 = .ok (.invokespecial 46, 3) := by decide +kernel
theorem dX6_init_71 : decode cX6_init 71 = .ok (.putfield 49, 3) := by decide +kernel
theorem dX6_init_74 : decode cX6_init 74 = .ok (.return_, 1) := by decide +kernel
set_option maxRecDepth 20000 in
theorem ggX6_sheet_X6_isSheet : GoodIn wsX6_sheet wsX6_isSheet := goodIn_r _ [8] (by decide +kernel) (by decide +kernel)
set_option maxRecDepth 20000 in
theorem gX6_sheet_X6_isSheet : GoodIn wsX6_sheet (va_wsS RX6 53 yX6_isSheet wsX6_isSheet) := goodIn_app (goodIn_of _ (by decide +kernel)) ggX6_sheet_X6_isSheet
set_option maxRecDepth 20000 in
theorem ggX6_sheet_X4_begin : GoodIn wsX6_sheet wsX4_begin := goodIn_r _ [13, 14, 15, 16, 17, 18, 19, 20, 29, 30, 31] (by decide +kernel) (by decide +kernel)
set_option maxRecDepth 20000 in
theorem gX6_sheet_X4_begin : GoodIn wsX6_sheet (wsV RX6 63 RX4 yX4_begin wsX4_begin) := goodIn_app (goodIn_of _ (by decide +kernel)) ggX6_sheet_X4_begin
theorem dX6_sheet_0 : decode cX6_sheet 0 = .ok (.iload_n 1, 1) := by decide +kernel
theorem dX6_sheet_1 : decode cX6_sheet 1 = .ok (.invokestatic 53, 3) := by decide +kernel
theorem dX6_sheet_4 : decode cX6_sheet 4 = .ok (.ifCond .eq 18, 3) := by decide +kernel
theorem dX6_sheet_7 : decode cX6_sheet 7 = .ok (.iload_n 2, 1) := by decide +kernel
theorem dX6_sheet_8 : decode cX6_sheet 8 = .ok (.ifCond .lt 14, 3) := by decide +kernel
theorem dX6_sheet_11 : decode cX6_sheet 11 = .ok (.iload_n 2, 1) := by decide +kernel
theorem dX6_sheet_12 : decode cX6_sheet 12 = .ok (.iconst 3, 1) := by decide +kernel
theorem dX6_sheet_13 : decode cX6_sheet 13 = .ok (.if_icmp .ge 9, 3) := by decide +kernel
theorem dX6_sheet_16 : decode cX6_sheet 16 = .ok (.iload_n 3, 1) := by decide +kernel
theorem dX6_sheet_17 : decode cX6_sheet 17 = .ok (.bipush 40, 2) := by decide +kernel
theorem dX6_sheet_19 : decode cX6_sheet 19 = .ok (.if_icmp .le 6, 3) := by decide +kernel
theorem dX6_sheet_22 : decode cX6_sheet 22 = .ok (.ldc 57, 2) := by decide +kernel
theorem dX6_sheet_24 : decode cX6_sheet 24 = .ok (.ireturn, 1) := by decide +kernel
theorem dX6_sheet_25 : decode cX6_sheet 25 = .ok (.aload_n 0, 1) := by decide +kernel
theorem dX6_sheet_26 : decode cX6_sheet 26 = .ok (.iload_n 3, 1) := by decide +kernel
theorem dX6_sheet_27 : decode cX6_sheet 27 = .ok (.ifCond .ge 7, 3) := by decide +kernel
theorem dX6_sheet_30 : decode cX6_sheet 30 = .ok (.iconst 4, 1) := by decide +kernel
theorem dX6_sheet_31 : decode cX6_sheet 31 = .ok (.goto 4, 3) := by decide +kernel
theorem dX6_sheet_34 : decode cX6_sheet 34 = .ok (.iconst 0, 1) := by decide +kernel
theorem dX6_sheet_35 : decode cX6_sheet 35 = .ok (.putfield 58, 3) := by decide +kernel
theorem dX6_sheet_38 : decode cX6_sheet 38 = .ok (.aload_n 0, 1) := by decide +kernel
theorem dX6_sheet_39 : decode cX6_sheet 39 = .ok (.getfield 58, 3) := by decide +kernel
theorem dX6_sheet_42 : decode cX6_sheet 42 = .ok (.ifCond .eq 11, 3) := by decide +kernel
theorem dX6_sheet_45 : decode cX6_sheet 45 = .ok (.ldc 62, 2) := by decide +kernel
theorem dX6_sheet_47 : decode cX6_sheet 47 = .ok (.aload_n 0, 1) := by decide +kernel
theorem dX6_sheet_48 : decode cX6_sheet 48 = .ok (.getfield 58, 3) := by decide +kernel
theorem dX6_sheet_51 : decode cX6_sheet 51 = .ok (.isub, 1) := by decide +kernel
theorem dX6_sheet_52 : decode cX6_sheet 52 = .ok (.ireturn, 1) := by decide +kernel
theorem dX6_sheet_53 : decode cX6_sheet 53 = .ok (.aload_n 0, 1) := by decide +kernel
theorem dX6_sheet_54 : decode cX6_sheet 54 = .ok (.getfield 10, 3) := by decide +kernel
theorem dX6_sheet_57 : decode cX6_sheet 57 = .ok (.iload_n 1, 1) := by decide +kernel
theorem dX6_sheet_58 : decode cX6_sheet 58 = .ok (.iload_n 2, 1) := by decide +kernel
theorem dX6_sheet_59 : decode cX6_sheet 59 = .ok (.iload_n 3, 1) := by decide +kernel
theorem dX6_sheet_60 : decode cX6_sheet 60 = .ok (.invokevirtual 63, 3) := by decide +kernel
theorem dX6_sheet_63 : decode cX6_sheet 63 = .ok (.iload_n 3, 1) := by decide +kernel
theorem dX6_sheet_64 : decode cX6_sheet 64 = .ok (.ireturn, 1) := by decide +kernel
set_option maxRecDepth 20000 in
theorem ggX6_set_X6_isSheet : GoodIn wsX6_set wsX6_isSheet := goodIn_r _ [8] (by decide +kernel) (by decide +kernel)
set_option maxRecDepth 20000 in
theorem gX6_set_X6_isSheet : GoodIn wsX6_set (va_wsS RX6 53 yX6_isSheet wsX6_isSheet) := goodIn_app (goodIn_of _ (by decide +kernel)) ggX6_set_X6_isSheet
set_option maxRecDepth 20000 in
theorem ggX6_set_X4_findPlaces : GoodIn wsX6_set wsX4_findPlaces := goodIn_r _ [13, 14, 15, 16, 12, 17, 18, 19, 20, 21, 22, 23, 40, 41, 42] (by decide +kernel) (by decide +kernel)
set_option maxRecDepth 20000 in
theorem gX6_set_X4_findPlaces : GoodIn wsX6_set (wsV RX6 67 RX4 yX4_findPlaces wsX4_findPlaces) := goodIn_app (goodIn_of _ (by decide +kernel)) ggX6_set_X4_findPlaces
set_option maxRecDepth 20000 in
theorem ggX6_set_X4_put : GoodIn wsX6_set wsX4_put := goodIn_r _ [27, 28, 18, 29, 30, 12, 31, 40, 41, 42] (by decide +kernel) (by decide +kernel)
set_option maxRecDepth 20000 in
theorem gX6_set_X4_put : GoodIn wsX6_set (wsV RX6 71 RX4 yX4_put wsX4_put) := goodIn_app (goodIn_of _ (by decide +kernel)) ggX6_set_X4_put
theorem dX6_set_0 : decode cX6_set 0 = .ok (.iload_n 1, 1) := by decide +kernel
theorem dX6_set_1 : decode cX6_set 1 = .ok (.invokestatic 53, 3) := by decide +kernel
theorem dX6_set_4 : decode cX6_set 4 = .ok (.ifCond .ne 6, 3) := by decide +kernel
theorem dX6_set_7 : decode cX6_set 7 = .ok (.ldc 57, 2) := by decide +kernel
theorem dX6_set_9 : decode cX6_set 9 = .ok (.ireturn, 1) := by decide +kernel
theorem dX6_set_10 : decode cX6_set 10 = .ok (.aload_n 0, 1) := by decide +kernel
theorem dX6_set_11 : decode cX6_set 11 = .ok (.aload_n 0, 1) := by decide +kernel
theorem dX6_set_12 : decode cX6_set 12 = .ok (.getfield 10, 3) := by decide +kernel
theorem dX6_set_15 : decode cX6_set 15 = .ok (.iload_n 1, 1) := by decide +kernel
theorem dX6_set_16 : decode cX6_set 16 = .ok (.iload_n 2, 1) := by decide +kernel
theorem dX6_set_17 : decode cX6_set 17 = .ok (.iconst 1, 1) := by decide +kernel
theorem dX6_set_18 : decode cX6_set 18 = .ok (.invokevirtual 67, 3) := by decide +kernel
theorem dX6_set_21 : decode cX6_set 21 = .ok (.putfield 58, 3) := by decide +kernel
theorem dX6_set_24 : decode cX6_set 24 = .ok (.aload_n 0, 1) := by decide +kernel
theorem dX6_set_25 : decode cX6_set 25 = .ok (.getfield 58, 3) := by decide +kernel
theorem dX6_set_28 : decode cX6_set 28 = .ok (.ifCond .eq 13, 3) := by decide +kernel
theorem dX6_set_31 : decode cX6_set 31 = .ok (.ldc 62, 2) := by decide +kernel
theorem dX6_set_33 : decode cX6_set 33 = .ok (.aload_n 0, 1) := by decide +kernel
theorem dX6_set_34 : decode cX6_set 34 = .ok (.getfield 58, 3) := by decide +kernel
theorem dX6_set_37 : decode cX6_set 37 = .ok (.isub, 1) := by decide +kernel
theorem dX6_set_38 : decode cX6_set 38 = .ok (.goto 13, 3) := by decide +kernel
theorem dX6_set_41 : decode cX6_set 41 = .ok (.aload_n 0, 1) := by decide +kernel
theorem dX6_set_42 : decode cX6_set 42 = .ok (.getfield 10, 3) := by decide +kernel
theorem dX6_set_45 : decode cX6_set 45 = .ok (.iload_n 1, 1) := by decide +kernel
theorem dX6_set_46 : decode cX6_set 46 = .ok (.iload_n 2, 1) := by decide +kernel
theorem dX6_set_47 : decode cX6_set 47 = .ok (.iload_n 3, 1) := by decide +kernel
theorem dX6_set_48 : decode cX6_set 48 = .ok (.invokevirtual 71, 3) := by decide +kernel
theorem dX6_set_51 : decode cX6_set 51 = .ok (.ireturn, 1) := by decide +kernel
set_option maxRecDepth 20000 in
theorem ggX6_copy_X6_isSheet : GoodIn wsX6_copy wsX6_isSheet := goodIn_r _ [8] (by decide +kernel) (by decide +kernel)
set_option maxRecDepth 20000 in
theorem gX6_copy_X6_isSheet : GoodIn wsX6_copy (va_wsS RX6 53 yX6_isSheet wsX6_isSheet) := goodIn_app (goodIn_of _ (by decide +kernel)) ggX6_copy_X6_isSheet
set_option maxRecDepth 20000 in
theorem ggX6_copy_X4_findMove : GoodIn wsX6_copy wsX4_findMove := goodIn_r _ [13, 14, 15, 16, 17, 12, 18, 19, 20, 21, 22, 23, 41, 42, 43] (by decide +kernel) (by decide +kernel)
set_option maxRecDepth 20000 in
theorem gX6_copy_X4_findMove : GoodIn wsX6_copy (wsV RX6 74 RX4 yX4_findMove wsX4_findMove) := goodIn_app (goodIn_of _ (by decide +kernel)) ggX6_copy_X4_findMove
set_option maxRecDepth 20000 in
theorem ggX6_copy_X4_move : GoodIn wsX6_copy wsX4_move := goodIn_r _ [27, 28, 29, 30, 31, 32, 41, 42, 43] (by decide +kernel) (by decide +kernel)
set_option maxRecDepth 20000 in
theorem gX6_copy_X4_move : GoodIn wsX6_copy (wsV RX6 78 RX4 yX4_move wsX4_move) := goodIn_app (goodIn_of _ (by decide +kernel)) ggX6_copy_X4_move
theorem dX6_copy_0 : decode cX6_copy 0 = .ok (.iload_n 1, 1) := by decide +kernel
theorem dX6_copy_1 : decode cX6_copy 1 = .ok (.invokestatic 53, 3) := by decide +kernel
theorem dX6_copy_4 : decode cX6_copy 4 = .ok (.ifCond .eq 10, 3) := by decide +kernel
theorem dX6_copy_7 : decode cX6_copy 7 = .ok (.iload_n 3, 1) := by decide +kernel
theorem dX6_copy_8 : decode cX6_copy 8 = .ok (.invokestatic 53, 3) := by decide +kernel
theorem dX6_copy_11 : decode cX6_copy 11 = .ok (.ifCond .ne 6, 3) := by decide +kernel
theorem dX6_copy_14 : decode cX6_copy 14 = .ok (.ldc 57, 2) := by decide +kernel
theorem dX6_copy_16 : decode cX6_copy 16 = .ok (.ireturn, 1) := by decide +kernel
theorem dX6_copy_17 : decode cX6_copy 17 = .ok (.aload_n 0, 1) := by decide +kernel
theorem dX6_copy_18 : decode cX6_copy 18 = .ok (.aload_n 0, 1) := by decide +kernel
theorem dX6_copy_19 : decode cX6_copy 19 = .ok (.getfield 10, 3) := by decide +kernel
theorem dX6_copy_22 : decode cX6_copy 22 = .ok (.iload_n 1, 1) := by decide +kernel
theorem dX6_copy_23 : decode cX6_copy 23 = .ok (.iload_n 2, 1) := by decide +kernel
theorem dX6_copy_24 : decode cX6_copy 24 = .ok (.iload_n 3, 1) := by decide +kernel
theorem dX6_copy_25 : decode cX6_copy 25 = .ok (.iload 4, 2) := by decide +kernel
theorem dX6_copy_27 : decode cX6_copy 27 = .ok (.iload 5, 2) := by decide +kernel
theorem dX6_copy_29 : decode cX6_copy 29 = .ok (.invokevirtual 74, 3) := by decide +kernel
theorem dX6_copy_32 : decode cX6_copy 32 = .ok (.putfield 58, 3) := by decide +kernel
theorem dX6_copy_35 : decode cX6_copy 35 = .ok (.aload_n 0, 1) := by decide +kernel
theorem dX6_copy_36 : decode cX6_copy 36 = .ok (.getfield 58, 3) := by decide +kernel
theorem dX6_copy_39 : decode cX6_copy 39 = .ok (.ifCond .eq 11, 3) := by decide +kernel
theorem dX6_copy_42 : decode cX6_copy 42 = .ok (.ldc 62, 2) := by decide +kernel
theorem dX6_copy_44 : decode cX6_copy 44 = .ok (.aload_n 0, 1) := by decide +kernel
theorem dX6_copy_45 : decode cX6_copy 45 = .ok (.getfield 58, 3) := by decide +kernel
theorem dX6_copy_48 : decode cX6_copy 48 = .ok (.isub, 1) := by decide +kernel
theorem dX6_copy_49 : decode cX6_copy 49 = .ok (.ireturn, 1) := by decide +kernel
theorem dX6_copy_50 : decode cX6_copy 50 = .ok (.aload_n 0, 1) := by decide +kernel
theorem dX6_copy_51 : decode cX6_copy 51 = .ok (.getfield 10, 3) := by decide +kernel
theorem dX6_copy_54 : decode cX6_copy 54 = .ok (.iload_n 1, 1) := by decide +kernel
theorem dX6_copy_55 : decode cX6_copy 55 = .ok (.iload_n 2, 1) := by decide +kernel
theorem dX6_copy_56 : decode cX6_copy 56 = .ok (.iload_n 3, 1) := by decide +kernel
theorem dX6_copy_57 : decode cX6_copy 57 = .ok (.iload 4, 2) := by decide +kernel
theorem dX6_copy_59 : decode cX6_copy 59 = .ok (.iload 5, 2) := by decide +kernel
theorem dX6_copy_61 : decode cX6_copy 61 = .ok (.invokevirtual 78, 3) := by decide +kernel
theorem dX6_copy_64 : decode cX6_copy 64 = .ok (.iload 5, 2) := by decide +kernel
theorem dX6_copy_66 : decode cX6_copy 66 = .ok (.ireturn, 1) := by decide +kernel
set_option maxRecDepth 20000 in
theorem ggX6_drop_X6_isSheet : GoodIn wsX6_drop wsX6_isSheet := goodIn_r _ [8] (by decide +kernel) (by decide +kernel)
set_option maxRecDepth 20000 in
theorem gX6_drop_X6_isSheet : GoodIn wsX6_drop (va_wsS RX6 53 yX6_isSheet wsX6_isSheet) := goodIn_app (goodIn_of _ (by decide +kernel)) ggX6_drop_X6_isSheet
set_option maxRecDepth 20000 in
theorem ggX6_drop_X4_isMissing : GoodIn wsX6_drop wsX4_isMissing := goodIn_r _ [13, 14, 28, 29, 30] (by decide +kernel) (by decide +kernel)
set_option maxRecDepth 20000 in
theorem gX6_drop_X4_isMissing : GoodIn wsX6_drop (wsV RX6 82 RX4 yX4_isMissing wsX4_isMissing) := goodIn_app (goodIn_of _ (by decide +kernel)) ggX6_drop_X4_isMissing
set_option maxRecDepth 20000 in
theorem ggX6_drop_X4_remove : GoodIn wsX6_drop wsX4_remove := goodIn_r _ [18, 14, 19, 28, 29, 30] (by decide +kernel) (by decide +kernel)
set_option maxRecDepth 20000 in
theorem gX6_drop_X4_remove : GoodIn wsX6_drop (wsV RX6 85 RX4 yX4_remove wsX4_remove) := goodIn_app (goodIn_of _ (by decide +kernel)) ggX6_drop_X4_remove
theorem dX6_drop_0 : decode cX6_drop 0 = .ok (.iload_n 1, 1) := by decide +kernel
theorem dX6_drop_1 : decode cX6_drop 1 = .ok (.invokestatic 53, 3) := by decide +kernel
theorem dX6_drop_4 : decode cX6_drop 4 = .ok (.ifCond .ne 6, 3) := by decide +kernel
theorem dX6_drop_7 : decode cX6_drop 7 = .ok (.ldc 57, 2) := by decide +kernel
theorem dX6_drop_9 : decode cX6_drop 9 = .ok (.ireturn, 1) := by decide +kernel
theorem dX6_drop_10 : decode cX6_drop 10 = .ok (.aload_n 0, 1) := by decide +kernel
theorem dX6_drop_11 : decode cX6_drop 11 = .ok (.aload_n 0, 1) := by decide +kernel
theorem dX6_drop_12 : decode cX6_drop 12 = .ok (.getfield 10, 3) := by decide +kernel
theorem dX6_drop_15 : decode cX6_drop 15 = .ok (.iload_n 1, 1) := by decide +kernel
theorem dX6_drop_16 : decode cX6_drop 16 = .ok (.invokevirtual 82, 3) := by decide +kernel
theorem dX6_drop_19 : decode cX6_drop 19 = .ok (.ifCond .eq 7, 3) := by decide +kernel
theorem dX6_drop_22 : decode cX6_drop 22 = .ok (.iconst 1, 1) := by decide +kernel
theorem dX6_drop_23 : decode cX6_drop 23 = .ok (.goto 4, 3) := by decide +kernel
theorem dX6_drop_26 : decode cX6_drop 26 = .ok (.iconst 0, 1) := by decide +kernel
theorem dX6_drop_27 : decode cX6_drop 27 = .ok (.putfield 58, 3) := by decide +kernel
theorem dX6_drop_30 : decode cX6_drop 30 = .ok (.aload_n 0, 1) := by decide +kernel
theorem dX6_drop_31 : decode cX6_drop 31 = .ok (.getfield 58, 3) := by decide +kernel
theorem dX6_drop_34 : decode cX6_drop 34 = .ok (.ifCond .eq 13, 3) := by decide +kernel
theorem dX6_drop_37 : decode cX6_drop 37 = .ok (.ldc 62, 2) := by decide +kernel
theorem dX6_drop_39 : decode cX6_drop 39 = .ok (.aload_n 0, 1) := by decide +kernel
theorem dX6_drop_40 : decode cX6_drop 40 = .ok (.getfield 58, 3) := by decide +kernel
theorem dX6_drop_43 : decode cX6_drop 43 = .ok (.isub, 1) := by decide +kernel
theorem dX6_drop_44 : decode cX6_drop 44 = .ok (.goto 11, 3) := by decide +kernel
theorem dX6_drop_47 : decode cX6_drop 47 = .ok (.aload_n 0, 1) := by decide +kernel
theorem dX6_drop_48 : decode cX6_drop 48 = .ok (.getfield 10, 3) := by decide +kernel
theorem dX6_drop_51 : decode cX6_drop 51 = .ok (.iload_n 1, 1) := by decide +kernel
theorem dX6_drop_52 : decode cX6_drop 52 = .ok (.invokevirtual 85, 3) := by decide +kernel
theorem dX6_drop_55 : decode cX6_drop 55 = .ok (.ireturn, 1) := by decide +kernel
set_option maxRecDepth 20000 in
theorem ggX6_post_X1_isFull : GoodIn wsX6_post wsX1_isFull := goodIn_r _ [7, 8, 21, 22] (by decide +kernel) (by decide +kernel)
set_option maxRecDepth 20000 in
theorem gX6_post_X1_isFull : GoodIn wsX6_post (wsV RX6 89 RX1 yX1_isFull wsX1_isFull) := goodIn_app (goodIn_of _ (by decide +kernel)) ggX6_post_X1_isFull
set_option maxRecDepth 20000 in
theorem ggX6_post_X1_add : GoodIn wsX6_post wsX1_add := goodIn_r _ [12, 8, 21, 22] (by decide +kernel) (by decide +kernel)
set_option maxRecDepth 20000 in
theorem gX6_post_X1_add : GoodIn wsX6_post (wsV RX6 94 RX1 yX1_add wsX1_add) := goodIn_app (goodIn_of _ (by decide +kernel)) ggX6_post_X1_add
theorem dX6_post_0 : decode cX6_post 0 = .ok (.aload_n 0, 1) := by decide +kernel
theorem dX6_post_1 : decode cX6_post 1 = .ok (.getfield 19, 3) := by decide +kernel
theorem dX6_post_4 : decode cX6_post 4 = .ok (.invokevirtual 89, 3) := by decide +kernel
theorem dX6_post_7 : decode cX6_post 7 = .ok (.ifCond .eq 8, 3) := by decide +kernel
theorem dX6_post_10 : decode cX6_post 10 = .ok (.ldc 93, 2) := by decide +kernel
theorem dX6_post_12 : decode cX6_post 12 = .ok (.goto 10, 3) := by decide +kernel
theorem dX6_post_15 : decode cX6_post 15 = .ok (.aload_n 0, 1) := by decide +kernel
theorem dX6_post_16 : decode cX6_post 16 = .ok (.getfield 19, 3) := by decide +kernel
theorem dX6_post_19 : decode cX6_post 19 = .ok (.invokevirtual 94, 3) := by decide +kernel
theorem dX6_post_22 : decode cX6_post 22 = .ok (.ireturn, 1) := by decide +kernel
set_option maxRecDepth 20000 in
theorem ggX6_join_X6_isPair : GoodIn wsX6_join wsX6_isPair := goodIn_r _ [7, 2, 8, 9, 10, 11, 12, 13, 23, 24, 25, 26, 27, 28, 29, 30, 31, 32] (by decide +kernel) (by decide +kernel)
set_option maxRecDepth 20000 in
theorem gX6_join_X6_isPair : GoodIn wsX6_join (wsV RX6 98 RX6 yX6_isPair wsX6_isPair) := goodIn_app (goodIn_of _ (by decide +kernel)) ggX6_join_X6_isPair
set_option maxRecDepth 20000 in
theorem ggX6_join_X1_isLinked : GoodIn wsX6_join wsX1_isLinked := goodIn_r _ [17, 18, 31, 32] (by decide +kernel) (by decide +kernel)
set_option maxRecDepth 20000 in
theorem gX6_join_X1_isLinked : GoodIn wsX6_join (wsV RX6 102 RX1 yX1_isLinked wsX1_isLinked) := goodIn_app (goodIn_of _ (by decide +kernel)) ggX6_join_X1_isLinked
set_option maxRecDepth 20000 in
theorem ggX6_join_X1_toggle : GoodIn wsX6_join wsX1_toggle := goodIn_r _ [22, 18, 31, 32] (by decide +kernel) (by decide +kernel)
set_option maxRecDepth 20000 in
theorem gX6_join_X1_toggle : GoodIn wsX6_join (wsV RX6 105 RX1 yX1_toggle wsX1_toggle) := goodIn_app (goodIn_of _ (by decide +kernel)) ggX6_join_X1_toggle
theorem dX6_join_0 : decode cX6_join 0 = .ok (.aload_n 0, 1) := by decide +kernel
theorem dX6_join_1 : decode cX6_join 1 = .ok (.iload_n 1, 1) := by decide +kernel
theorem dX6_join_2 : decode cX6_join 2 = .ok (.iload_n 2, 1) := by decide +kernel
theorem dX6_join_3 : decode cX6_join 3 = .ok (.invokevirtual 98, 3) := by decide +kernel
theorem dX6_join_6 : decode cX6_join 6 = .ok (.ifCond .ne 6, 3) := by decide +kernel
theorem dX6_join_9 : decode cX6_join 9 = .ok (.ldc 57, 2) := by decide +kernel
theorem dX6_join_11 : decode cX6_join 11 = .ok (.ireturn, 1) := by decide +kernel
theorem dX6_join_12 : decode cX6_join 12 = .ok (.aload_n 0, 1) := by decide +kernel
theorem dX6_join_13 : decode cX6_join 13 = .ok (.getfield 19, 3) := by decide +kernel
theorem dX6_join_16 : decode cX6_join 16 = .ok (.iload_n 1, 1) := by decide +kernel
theorem dX6_join_17 : decode cX6_join 17 = .ok (.iload_n 2, 1) := by decide +kernel
theorem dX6_join_18 : decode cX6_join 18 = .ok (.invokevirtual 102, 3) := by decide +kernel
theorem dX6_join_21 : decode cX6_join 21 = .ok (.ifCond .eq 7, 3) := by decide +kernel
theorem dX6_join_24 : decode cX6_join 24 = .ok (.iconst 0, 1) := by decide +kernel
theorem dX6_join_25 : decode cX6_join 25 = .ok (.goto 12, 3) := by decide +kernel
theorem dX6_join_28 : decode cX6_join 28 = .ok (.aload_n 0, 1) := by decide +kernel
theorem dX6_join_29 : decode cX6_join 29 = .ok (.getfield 19, 3) := by decide +kernel
theorem dX6_join_32 : decode cX6_join 32 = .ok (.iload_n 1, 1) := by decide +kernel
theorem dX6_join_33 : decode cX6_join 33 = .ok (.iload_n 2, 1) := by decide +kernel
theorem dX6_join_34 : decode cX6_join 34 = .ok (.invokevirtual 105, 3) := by decide +kernel
theorem dX6_join_37 : decode cX6_join 37 = .ok (.ireturn, 1) := by decide +kernel
set_option maxRecDepth 20000 in
theorem ggX6_part_X6_isPair : GoodIn wsX6_part wsX6_isPair := goodIn_r _ [7, 2, 8, 9, 10, 11, 12, 13, 23, 24, 25, 26, 27, 28, 29, 30, 31, 32] (by decide +kernel) (by decide +kernel)
set_option maxRecDepth 20000 in
theorem gX6_part_X6_isPair : GoodIn wsX6_part (wsV RX6 98 RX6 yX6_isPair wsX6_isPair) := goodIn_app (goodIn_of _ (by decide +kernel)) ggX6_part_X6_isPair
set_option maxRecDepth 20000 in
theorem ggX6_part_X1_isLinked : GoodIn wsX6_part wsX1_isLinked := goodIn_r _ [17, 18, 31, 32] (by decide +kernel) (by decide +kernel)
set_option maxRecDepth 20000 in
theorem gX6_part_X1_isLinked : GoodIn wsX6_part (wsV RX6 102 RX1 yX1_isLinked wsX1_isLinked) := goodIn_app (goodIn_of _ (by decide +kernel)) ggX6_part_X1_isLinked
set_option maxRecDepth 20000 in
theorem ggX6_part_X1_toggle : GoodIn wsX6_part wsX1_toggle := goodIn_r _ [22, 18, 31, 32] (by decide +kernel) (by decide +kernel)
set_option maxRecDepth 20000 in
theorem gX6_part_X1_toggle : GoodIn wsX6_part (wsV RX6 105 RX1 yX1_toggle wsX1_toggle) := goodIn_app (goodIn_of _ (by decide +kernel)) ggX6_part_X1_toggle
theorem dX6_part_0 : decode cX6_part 0 = .ok (.aload_n 0, 1) := by decide +kernel
theorem dX6_part_1 : decode cX6_part 1 = .ok (.iload_n 1, 1) := by decide +kernel
theorem dX6_part_2 : decode cX6_part 2 = .ok (.iload_n 2, 1) := by decide +kernel
theorem dX6_part_3 : decode cX6_part 3 = .ok (.invokevirtual 98, 3) := by decide +kernel
theorem dX6_part_6 : decode cX6_part 6 = .ok (.ifCond .ne 6, 3) := by decide +kernel
theorem dX6_part_9 : decode cX6_part 9 = .ok (.ldc 57, 2) := by decide +kernel
theorem dX6_part_11 : decode cX6_part 11 = .ok (.ireturn, 1) := by decide +kernel
theorem dX6_part_12 : decode cX6_part 12 = .ok (.aload_n 0, 1) := by decide +kernel
theorem dX6_part_13 : decode cX6_part 13 = .ok (.getfield 19, 3) := by decide +kernel
theorem dX6_part_16 : decode cX6_part 16 = .ok (.iload_n 1, 1) := by decide +kernel
theorem dX6_part_17 : decode cX6_part 17 = .ok (.iload_n 2, 1) := by decide +kernel
theorem dX6_part_18 : decode cX6_part 18 = .ok (.invokevirtual 102, 3) := by decide +kernel
theorem dX6_part_21 : decode cX6_part 21 = .ok (.ifCond .eq 15, 3) := by decide +kernel
theorem dX6_part_24 : decode cX6_part 24 = .ok (.aload_n 0, 1) := by decide +kernel
theorem dX6_part_25 : decode cX6_part 25 = .ok (.getfield 19, 3) := by decide +kernel
theorem dX6_part_28 : decode cX6_part 28 = .ok (.iload_n 1, 1) := by decide +kernel
theorem dX6_part_29 : decode cX6_part 29 = .ok (.iload_n 2, 1) := by decide +kernel
theorem dX6_part_30 : decode cX6_part 30 = .ok (.invokevirtual 105, 3) := by decide +kernel
theorem dX6_part_33 : decode cX6_part 33 = .ok (.goto 4, 3) := by decide +kernel
theorem dX6_part_36 : decode cX6_part 36 = .ok (.iconst 0, 1) := by decide +kernel
theorem dX6_part_37 : decode cX6_part 37 = .ok (.ireturn, 1) := by decide +kernel
set_option maxRecDepth 20000 in
theorem ggX6_far_X1_hasPost : GoodIn wsX6_far wsX1_hasPost := goodIn_r _ [7, 8, 27, 28] (by decide +kernel) (by decide +kernel)
set_option maxRecDepth 20000 in
theorem gX6_far_X1_hasPost : GoodIn wsX6_far (wsV RX6 109 RX1 yX1_hasPost wsX1_hasPost) := goodIn_app (goodIn_of _ (by decide +kernel)) ggX6_far_X1_hasPost
set_option maxRecDepth 20000 in
theorem ggX6_far_X1_stepsBetween : GoodIn wsX6_far wsX1_stepsBetween := goodIn_r _ [12, 8, 13, 14, 15, 16, 6, 17, 18, 27, 28] (by decide +kernel) (by decide +kernel)
set_option maxRecDepth 20000 in
theorem gX6_far_X1_stepsBetween : GoodIn wsX6_far (wsV RX6 112 RX1 yX1_stepsBetween wsX1_stepsBetween) := goodIn_app (goodIn_of _ (by decide +kernel)) ggX6_far_X1_stepsBetween
theorem dX6_far_0 : decode cX6_far 0 = .ok (.aload_n 0, 1) := by decide +kernel
theorem dX6_far_1 : decode cX6_far 1 = .ok (.getfield 19, 3) := by decide +kernel
theorem dX6_far_4 : decode cX6_far 4 = .ok (.iload_n 1, 1) := by decide +kernel
theorem dX6_far_5 : decode cX6_far 5 = .ok (.invokevirtual 109, 3) := by decide +kernel
theorem dX6_far_8 : decode cX6_far 8 = .ok (.ifCond .eq 14, 3) := by decide +kernel
theorem dX6_far_11 : decode cX6_far 11 = .ok (.aload_n 0, 1) := by decide +kernel
theorem dX6_far_12 : decode cX6_far 12 = .ok (.getfield 19, 3) := by decide +kernel
theorem dX6_far_15 : decode cX6_far 15 = .ok (.iload_n 2, 1) := by decide +kernel
theorem dX6_far_16 : decode cX6_far 16 = .ok (.invokevirtual 109, 3) := by decide +kernel
theorem dX6_far_19 : decode cX6_far 19 = .ok (.ifCond .ne 6, 3) := by decide +kernel
theorem dX6_far_22 : decode cX6_far 22 = .ok (.ldc 57, 2) := by decide +kernel
theorem dX6_far_24 : decode cX6_far 24 = .ok (.ireturn, 1) := by decide +kernel
theorem dX6_far_25 : decode cX6_far 25 = .ok (.aload_n 0, 1) := by decide +kernel
theorem dX6_far_26 : decode cX6_far 26 = .ok (.getfield 19, 3) := by decide +kernel
theorem dX6_far_29 : decode cX6_far 29 = .ok (.iload_n 1, 1) := by decide +kernel
theorem dX6_far_30 : decode cX6_far 30 = .ok (.iload_n 2, 1) := by decide +kernel
theorem dX6_far_31 : decode cX6_far 31 = .ok (.invokevirtual 112, 3) := by decide +kernel
theorem dX6_far_34 : decode cX6_far 34 = .ok (.ireturn, 1) := by decide +kernel
set_option maxRecDepth 20000 in
theorem ggX6_told_X1_hasPost : GoodIn wsX6_told wsX1_hasPost := goodIn_r _ [7, 8, 45, 46] (by decide +kernel) (by decide +kernel)
set_option maxRecDepth 20000 in
theorem gX6_told_X1_hasPost : GoodIn wsX6_told (wsV RX6 109 RX1 yX1_hasPost wsX1_hasPost) := goodIn_app (goodIn_of _ (by decide +kernel)) ggX6_told_X1_hasPost
set_option maxRecDepth 20000 in
theorem ggX6_told_X1_degree : GoodIn wsX6_told wsX1_degree := goodIn_r _ [12, 13, 14, 15, 16, 17, 18, 19, 20, 45, 46] (by decide +kernel) (by decide +kernel)
set_option maxRecDepth 20000 in
theorem gX6_told_X1_degree : GoodIn wsX6_told (wsV RX6 115 RX1 yX1_degree wsX1_degree) := goodIn_app (goodIn_of _ (by decide +kernel)) ggX6_told_X1_degree
set_option maxRecDepth 20000 in
theorem ggX6_told_X1_neighboursOf : GoodIn wsX6_told wsX1_neighboursOf := goodIn_r _ [24, 13, 45, 46] (by decide +kernel) (by decide +kernel)
set_option maxRecDepth 20000 in
theorem gX6_told_X1_neighboursOf : GoodIn wsX6_told (wsV RX6 118 RX1 yX1_neighboursOf wsX1_neighboursOf) := goodIn_app (goodIn_of _ (by decide +kernel)) ggX6_told_X1_neighboursOf
set_option maxRecDepth 20000 in
theorem ggX6_told_X1_width : GoodIn wsX6_told wsX1_width := goodIn_r _ [28, 8, 29, 30, 31, 6, 32, 13, 45, 46] (by decide +kernel) (by decide +kernel)
set_option maxRecDepth 20000 in
theorem gX6_told_X1_width : GoodIn wsX6_told (wsV RX6 121 RX1 yX1_width wsX1_width) := goodIn_app (goodIn_of _ (by decide +kernel)) ggX6_told_X1_width
set_option maxRecDepth 20000 in
theorem ggX6_told_X1_reachOf : GoodIn wsX6_told wsX1_reachOf := goodIn_r _ [36, 8, 29, 30, 31, 6, 32, 13, 45, 46] (by decide +kernel) (by decide +kernel)
set_option maxRecDepth 20000 in
theorem gX6_told_X1_reachOf : GoodIn wsX6_told (wsV RX6 124 RX1 yX1_reachOf wsX1_reachOf) := goodIn_app (goodIn_of _ (by decide +kernel)) ggX6_told_X1_reachOf
theorem dX6_told_0 : decode cX6_told 0 = .ok (.aload_n 0, 1) := by decide +kernel
theorem dX6_told_1 : decode cX6_told 1 = .ok (.getfield 19, 3) := by decide +kernel
theorem dX6_told_4 : decode cX6_told 4 = .ok (.iload_n 1, 1) := by decide +kernel
theorem dX6_told_5 : decode cX6_told 5 = .ok (.invokevirtual 109, 3) := by decide +kernel
theorem dX6_told_8 : decode cX6_told 8 = .ok (.ifCond .ne 6, 3) := by decide +kernel
theorem dX6_told_11 : decode cX6_told 11 = .ok (.ldc 57, 2) := by decide +kernel
theorem dX6_told_13 : decode cX6_told 13 = .ok (.ireturn, 1) := by decide +kernel
theorem dX6_told_14 : decode cX6_told 14 = .ok (.iload_n 2, 1) := by decide +kernel
theorem dX6_told_15 : decode cX6_told 15 = .ok (.tableswitch 67 0 3 #[29, 38, 47, 56], 29) := by decide +kernel
theorem dX6_told_44 : decode cX6_told 44 = .ok (.aload_n 0, 1) := by decide +kernel
theorem dX6_told_45 : decode cX6_told 45 = .ok (.getfield 19, 3) := by decide +kernel
theorem dX6_told_48 : decode cX6_told 48 = .ok (.iload_n 1, 1) := by decide +kernel
theorem dX6_told_49 : decode cX6_told 49 = .ok (.invokevirtual 115, 3) := by decide +kernel
theorem dX6_told_52 : decode cX6_told 52 = .ok (.ireturn, 1) := by decide +kernel
theorem dX6_told_53 : decode cX6_told 53 = .ok (.aload_n 0, 1) := by decide +kernel
theorem dX6_told_54 : decode cX6_told 54 = .ok (.getfield 19, 3) := by decide +kernel
theorem dX6_told_57 : decode cX6_told 57 = .ok (.iload_n 1, 1) := by decide +kernel
theorem dX6_told_58 : decode cX6_told 58 = .ok (.invokevirtual 118, 3) := by decide +kernel
theorem dX6_told_61 : decode cX6_told 61 = .ok (.ireturn, 1) := by decide +kernel
theorem dX6_told_62 : decode cX6_told 62 = .ok (.aload_n 0, 1) := by decide +kernel
theorem dX6_told_63 : decode cX6_told 63 = .ok (.getfield 19, 3) := by decide +kernel
theorem dX6_told_66 : decode cX6_told 66 = .ok (.iload_n 1, 1) := by decide +kernel
theorem dX6_told_67 : decode cX6_told 67 = .ok (.invokevirtual 121, 3) := by decide +kernel
theorem dX6_told_70 : decode cX6_told 70 = .ok (.ireturn, 1) := by decide +kernel
theorem dX6_told_71 : decode cX6_told 71 = .ok (.aload_n 0, 1) := by decide +kernel
theorem dX6_told_72 : decode cX6_told 72 = .ok (.getfield 19, 3) := by decide +kernel
theorem dX6_told_75 : decode cX6_told 75 = .ok (.iconst 1, 1) := by decide +kernel
theorem dX6_told_76 : decode cX6_told 76 = .ok (.iload_n 1, 1) := by decide +kernel
theorem dX6_told_77 : decode cX6_told 77 = .ok (.ishl, 1) := by decide +kernel
theorem dX6_told_78 : decode cX6_told 78 = .ok (.invokevirtual 124, 3) := by decide +kernel
theorem dX6_told_81 : decode cX6_told 81 = .ok (.ireturn, 1) := by decide +kernel
theorem dX6_told_82 : decode cX6_told 82 = .ok (.ldc 57, 2) := by decide +kernel
theorem dX6_told_84 : decode cX6_told 84 = .ok (.ireturn, 1) := by decide +kernel
set_option maxRecDepth 20000 in
theorem ggX6_hears_X6_isHearing : GoodIn wsX6_hears wsX6_isHearing := goodIn_r _ [6] (by decide +kernel) (by decide +kernel)
set_option maxRecDepth 20000 in
theorem gX6_hears_X6_isHearing : GoodIn wsX6_hears (va_wsS RX6 127 yX6_isHearing wsX6_isHearing) := goodIn_app (goodIn_of _ (by decide +kernel)) ggX6_hears_X6_isHearing
set_option maxRecDepth 20000 in
theorem ggX6_hears_X1_hasSet : GoodIn wsX6_hears wsX1_hasSet := goodIn_r _ [11, 12, 13, 14, 10, 15, 16, 30, 31] (by decide +kernel) (by decide +kernel)
set_option maxRecDepth 20000 in
theorem gX6_hears_X1_hasSet : GoodIn wsX6_hears (wsV RX6 130 RX1 yX1_hasSet wsX1_hasSet) := goodIn_app (goodIn_of _ (by decide +kernel)) ggX6_hears_X1_hasSet
set_option maxRecDepth 20000 in
theorem ggX6_hears_X1_heardBy : GoodIn wsX6_hears wsX1_heardBy := goodIn_r _ [20, 16, 21, 30, 31] (by decide +kernel) (by decide +kernel)
set_option maxRecDepth 20000 in
theorem gX6_hears_X1_heardBy : GoodIn wsX6_hears (wsV RX6 133 RX1 yX1_heardBy wsX1_heardBy) := goodIn_app (goodIn_of _ (by decide +kernel)) ggX6_hears_X1_heardBy
theorem dX6_hears_0 : decode cX6_hears 0 = .ok (.iload_n 1, 1) := by decide +kernel
theorem dX6_hears_1 : decode cX6_hears 1 = .ok (.invokestatic 127, 3) := by decide +kernel
theorem dX6_hears_4 : decode cX6_hears 4 = .ok (.ifCond .eq 14, 3) := by decide +kernel
theorem dX6_hears_7 : decode cX6_hears 7 = .ok (.aload_n 0, 1) := by decide +kernel
theorem dX6_hears_8 : decode cX6_hears 8 = .ok (.getfield 19, 3) := by decide +kernel
theorem dX6_hears_11 : decode cX6_hears 11 = .ok (.iload_n 2, 1) := by decide +kernel
theorem dX6_hears_12 : decode cX6_hears 12 = .ok (.invokevirtual 130, 3) := by decide +kernel
theorem dX6_hears_15 : decode cX6_hears 15 = .ok (.ifCond .ne 6, 3) := by decide +kernel
theorem dX6_hears_18 : decode cX6_hears 18 = .ok (.ldc 57, 2) := by decide +kernel
theorem dX6_hears_20 : decode cX6_hears 20 = .ok (.ireturn, 1) := by decide +kernel
theorem dX6_hears_21 : decode cX6_hears 21 = .ok (.aload_n 0, 1) := by decide +kernel
theorem dX6_hears_22 : decode cX6_hears 22 = .ok (.getfield 19, 3) := by decide +kernel
theorem dX6_hears_25 : decode cX6_hears 25 = .ok (.iload_n 1, 1) := by decide +kernel
theorem dX6_hears_26 : decode cX6_hears 26 = .ok (.iload_n 2, 1) := by decide +kernel
theorem dX6_hears_27 : decode cX6_hears 27 = .ok (.invokevirtual 133, 3) := by decide +kernel
theorem dX6_hears_30 : decode cX6_hears 30 = .ok (.ireturn, 1) := by decide +kernel
set_option maxRecDepth 20000 in
theorem ggX6_spreads_X6_isHearing : GoodIn wsX6_spreads wsX6_isHearing := goodIn_r _ [6] (by decide +kernel) (by decide +kernel)
set_option maxRecDepth 20000 in
theorem gX6_spreads_X6_isHearing : GoodIn wsX6_spreads (va_wsS RX6 127 yX6_isHearing wsX6_isHearing) := goodIn_app (goodIn_of _ (by decide +kernel)) ggX6_spreads_X6_isHearing
set_option maxRecDepth 20000 in
theorem ggX6_spreads_X1_hasSet : GoodIn wsX6_spreads wsX1_hasSet := goodIn_r _ [11, 12, 13, 14, 10, 15, 16, 34, 35] (by decide +kernel) (by decide +kernel)
set_option maxRecDepth 20000 in
theorem gX6_spreads_X1_hasSet : GoodIn wsX6_spreads (wsV RX6 130 RX1 yX1_hasSet wsX1_hasSet) := goodIn_app (goodIn_of _ (by decide +kernel)) ggX6_spreads_X1_hasSet
set_option maxRecDepth 20000 in
theorem ggX6_spreads_X1_knowAfter : GoodIn wsX6_spreads wsX1_knowAfter := goodIn_r _ [20, 21, 22, 23, 10, 24, 16, 25, 34, 35] (by decide +kernel) (by decide +kernel)
set_option maxRecDepth 20000 in
theorem gX6_spreads_X1_knowAfter : GoodIn wsX6_spreads (wsV RX6 136 RX1 yX1_knowAfter wsX1_knowAfter) := goodIn_app (goodIn_of _ (by decide +kernel)) ggX6_spreads_X1_knowAfter
theorem dX6_spreads_0 : decode cX6_spreads 0 = .ok (.iload_n 1, 1) := by decide +kernel
theorem dX6_spreads_1 : decode cX6_spreads 1 = .ok (.invokestatic 127, 3) := by decide +kernel
theorem dX6_spreads_4 : decode cX6_spreads 4 = .ok (.ifCond .eq 25, 3) := by decide +kernel
theorem dX6_spreads_7 : decode cX6_spreads 7 = .ok (.aload_n 0, 1) := by decide +kernel
theorem dX6_spreads_8 : decode cX6_spreads 8 = .ok (.getfield 19, 3) := by decide +kernel
theorem dX6_spreads_11 : decode cX6_spreads 11 = .ok (.iload_n 2, 1) := by decide +kernel
theorem dX6_spreads_12 : decode cX6_spreads 12 = .ok (.invokevirtual 130, 3) := by decide +kernel
theorem dX6_spreads_15 : decode cX6_spreads 15 = .ok (.ifCond .eq 14, 3) := by decide +kernel
theorem dX6_spreads_18 : decode cX6_spreads 18 = .ok (.aload_n 0, 1) := by decide +kernel
theorem dX6_spreads_19 : decode cX6_spreads 19 = .ok (.getfield 19, 3) := by decide +kernel
theorem dX6_spreads_22 : decode cX6_spreads 22 = .ok (.iload_n 3, 1) := by decide +kernel
theorem dX6_spreads_23 : decode cX6_spreads 23 = .ok (.invokevirtual 130, 3) := by decide +kernel
theorem dX6_spreads_26 : decode cX6_spreads 26 = .ok (.ifCond .ne 6, 3) := by decide +kernel
theorem dX6_spreads_29 : decode cX6_spreads 29 = .ok (.ldc 57, 2) := by decide +kernel
theorem dX6_spreads_31 : decode cX6_spreads 31 = .ok (.ireturn, 1) := by decide +kernel
theorem dX6_spreads_32 : decode cX6_spreads 32 = .ok (.aload_n 0, 1) := by decide +kernel
theorem dX6_spreads_33 : decode cX6_spreads 33 = .ok (.getfield 19, 3) := by decide +kernel
theorem dX6_spreads_36 : decode cX6_spreads 36 = .ok (.iload_n 1, 1) := by decide +kernel
theorem dX6_spreads_37 : decode cX6_spreads 37 = .ok (.iload_n 2, 1) := by decide +kernel
theorem dX6_spreads_38 : decode cX6_spreads 38 = .ok (.iload_n 3, 1) := by decide +kernel
theorem dX6_spreads_39 : decode cX6_spreads 39 = .ok (.invokevirtual 136, 3) := by decide +kernel
theorem dX6_spreads_42 : decode cX6_spreads 42 = .ok (.ireturn, 1) := by decide +kernel
set_option maxRecDepth 20000 in
theorem ggX6_feed_X2_hasRoom : GoodIn wsX6_feed wsX2_hasRoom := goodIn_r _ [8, 9, 24, 25, 26, 27, 28, 29, 30, 31] (by decide +kernel) (by decide +kernel)
set_option maxRecDepth 20000 in
theorem gX6_feed_X2_hasRoom : GoodIn wsX6_feed (wsV RX6 139 RX2 yX2_hasRoom wsX2_hasRoom) := goodIn_app (goodIn_of _ (by decide +kernel)) ggX6_feed_X2_hasRoom
set_option maxRecDepth 20000 in
theorem ggX6_feed_X2_take : GoodIn wsX6_feed wsX2_take := goodIn_r _ [13, 14, 9, 15, 24, 25, 26, 27, 28, 29, 30, 31] (by decide +kernel) (by decide +kernel)
set_option maxRecDepth 20000 in
theorem gX6_feed_X2_take : GoodIn wsX6_feed (wsV RX6 142 RX2 yX2_take wsX2_take) := goodIn_app (goodIn_of _ (by decide +kernel)) ggX6_feed_X2_take
theorem dX6_feed_0 : decode cX6_feed 0 = .ok (.iload_n 3, 1) := by decide +kernel
theorem dX6_feed_1 : decode cX6_feed 1 = .ok (.iconst 1, 1) := by decide +kernel
theorem dX6_feed_2 : decode cX6_feed 2 = .ok (.if_icmp .lt 9, 3) := by decide +kernel
theorem dX6_feed_5 : decode cX6_feed 5 = .ok (.iload_n 3, 1) := by decide +kernel
theorem dX6_feed_6 : decode cX6_feed 6 = .ok (.bipush 8, 2) := by decide +kernel
theorem dX6_feed_8 : decode cX6_feed 8 = .ok (.if_icmp .le 6, 3) := by decide +kernel
theorem dX6_feed_11 : decode cX6_feed 11 = .ok (.ldc 57, 2) := by decide +kernel
theorem dX6_feed_13 : decode cX6_feed 13 = .ok (.ireturn, 1) := by decide +kernel
theorem dX6_feed_14 : decode cX6_feed 14 = .ok (.aload_n 0, 1) := by decide +kernel
theorem dX6_feed_15 : decode cX6_feed 15 = .ok (.getfield 26, 3) := by decide +kernel
theorem dX6_feed_18 : decode cX6_feed 18 = .ok (.iload_n 3, 1) := by decide +kernel
theorem dX6_feed_19 : decode cX6_feed 19 = .ok (.invokevirtual 139, 3) := by decide +kernel
theorem dX6_feed_22 : decode cX6_feed 22 = .ok (.ifCond .eq 15, 3) := by decide +kernel
theorem dX6_feed_25 : decode cX6_feed 25 = .ok (.aload_n 0, 1) := by decide +kernel
theorem dX6_feed_26 : decode cX6_feed 26 = .ok (.getfield 26, 3) := by decide +kernel
theorem dX6_feed_29 : decode cX6_feed 29 = .ok (.lload_n 1, 1) := by decide +kernel
theorem dX6_feed_30 : decode cX6_feed 30 = .ok (.iload_n 3, 1) := by decide +kernel
theorem dX6_feed_31 : decode cX6_feed 31 = .ok (.invokevirtual 142, 3) := by decide +kernel
theorem dX6_feed_34 : decode cX6_feed 34 = .ok (.goto 5, 3) := by decide +kernel
theorem dX6_feed_37 : decode cX6_feed 37 = .ok (.ldc 93, 2) := by decide +kernel
theorem dX6_feed_39 : decode cX6_feed 39 = .ok (.ireturn, 1) := by decide +kernel
set_option maxRecDepth 20000 in
theorem ggX6_schedule_X1_size : GoodIn wsX6_schedule wsX1_size := goodIn_r _ [10, 11, 143, 144] (by decide +kernel) (by decide +kernel)
set_option maxRecDepth 20000 in
theorem gX6_schedule_X1_size : GoodIn wsX6_schedule (wsV RX6 146 RX1 yX1_size wsX1_size) := goodIn_app (goodIn_of _ (by decide +kernel)) ggX6_schedule_X1_size
set_option maxRecDepth 20000 in
theorem ggX6_schedule_X2_read : GoodIn wsX6_schedule wsX2_read := goodIn_r _ [16, 17, 18, 19, 20, 21, 22, 23, 15, 24, 25, 26, 27, 28, 29, 30, 31, 32, 33, 34, 35, 36, 37, 38, 39, 40, 41, 42, 43, 44, 45, 46, 47, 48, 49, 50, 51, 52, 53, 54, 55, 56, 57, 58, 59, 60, 61, 62, 63, 64, 65, 66, 67, 68, 69, 70, 71, 72, 73, 74, 75, 76, 77, 78, 79, 80, 81, 82, 83, 84, 85, 86, 87, 88, 89, 90, 91, 92, 93, 94, 95, 96, 97, 98, 99, 100, 101, 102, 103, 104, 105, 106, 107, 108, 109, 110, 111, 145, 146, 147, 148, 149, 150, 151, 152] (by decide +kernel) (by decide +kernel)
set_option maxRecDepth 20000 in
theorem gX6_schedule_X2_read : GoodIn wsX6_schedule (wsV RX6 149 RX2 yX2_read wsX2_read) := goodIn_app (goodIn_of _ (by decide +kernel)) ggX6_schedule_X2_read
set_option maxRecDepth 20000 in
theorem ggX6_schedule_X2_tokenPlace : GoodIn wsX6_schedule wsX2_tokenPlace := goodIn_r _ [115, 25, 145, 146, 147, 148, 149, 150, 151, 152] (by decide +kernel) (by decide +kernel)
set_option maxRecDepth 20000 in
theorem gX6_schedule_X2_tokenPlace : GoodIn wsX6_schedule (wsV RX6 156 RX2 yX2_tokenPlace wsX2_tokenPlace) := goodIn_app (goodIn_of _ (by decide +kernel)) ggX6_schedule_X2_tokenPlace
set_option maxRecDepth 20000 in
theorem ggX6_schedule_X5_become : GoodIn wsX6_schedule wsX5_become := goodIn_r _ [120, 121, 122, 123, 124, 125, 15, 126, 99, 17, 127, 128, 129, 130, 153, 154, 145, 146, 147, 148, 149, 150, 151, 152] (by decide +kernel) (by decide +kernel)
set_option maxRecDepth 20000 in
theorem gX6_schedule_X5_become : GoodIn wsX6_schedule (wsV RX6 159 RX5 yX5_become wsX5_become) := goodIn_app (goodIn_of _ (by decide +kernel)) ggX6_schedule_X5_become
set_option maxRecDepth 20000 in
theorem ggX6_schedule_X5_size : GoodIn wsX6_schedule wsX5_size := goodIn_r _ [134, 122, 153, 154] (by decide +kernel) (by decide +kernel)
set_option maxRecDepth 20000 in
theorem gX6_schedule_X5_size : GoodIn wsX6_schedule (wsV RX6 163 RX5 yX5_size wsX5_size) := goodIn_app (goodIn_of _ (by decide +kernel)) ggX6_schedule_X5_size
theorem dX6_schedule_0 : decode cX6_schedule 0 = .ok (.aload_n 0, 1) := by decide +kernel
theorem dX6_schedule_1 : decode cX6_schedule 1 = .ok (.getfield 26, 3) := by decide +kernel
theorem dX6_schedule_4 : decode cX6_schedule 4 = .ok (.aload_n 0, 1) := by decide +kernel
theorem dX6_schedule_5 : decode cX6_schedule 5 = .ok (.getfield 19, 3) := by decide +kernel
theorem dX6_schedule_8 : decode cX6_schedule 8 = .ok (.invokevirtual 146, 3) := by decide +kernel
theorem dX6_schedule_11 : decode cX6_schedule 11 = .ok (.invokevirtual 149, 3) := by decide +kernel
theorem dX6_schedule_14 : decode cX6_schedule 14 = .ok (.istore_n 1, 1) := by decide +kernel
theorem dX6_schedule_15 : decode cX6_schedule 15 = .ok (.iload_n 1, 1) := by decide +kernel
theorem dX6_schedule_16 : decode cX6_schedule 16 = .ok (.ifCond .eq 19, 3) := by decide +kernel
theorem dX6_schedule_19 : decode cX6_schedule 19 = .ok (.aload_n 0, 1) := by decide +kernel
theorem dX6_schedule_20 : decode cX6_schedule 20 = .ok (.iload_n 1, 1) := by decide +kernel
theorem dX6_schedule_21 : decode cX6_schedule 21 = .ok (.putfield 152, 3) := by decide +kernel
theorem dX6_schedule_24 : decode cX6_schedule 24 = .ok (.ldc 155, 2) := by decide +kernel
theorem dX6_schedule_26 : decode cX6_schedule 26 = .ok (.aload_n 0, 1) := by decide +kernel
theorem dX6_schedule_27 : decode cX6_schedule 27 = .ok (.getfield 26, 3) := by decide +kernel
theorem dX6_schedule_30 : decode cX6_schedule 30 = .ok (.invokevirtual 156, 3) := by decide +kernel
theorem dX6_schedule_33 : decode cX6_schedule 33 = .ok (.isub, 1) := by decide +kernel
theorem dX6_schedule_34 : decode cX6_schedule 34 = .ok (.ireturn, 1) := by decide +kernel
theorem dX6_schedule_35 : decode cX6_schedule 35 = .ok (.aload_n 0, 1) := by decide +kernel
theorem dX6_schedule_36 : decode cX6_schedule 36 = .ok (.getfield 33, 3) := by decide +kernel
theorem dX6_schedule_39 : decode cX6_schedule 39 = .ok (.aload_n 0, 1) := by decide +kernel
theorem dX6_schedule_40 : decode cX6_schedule 40 = .ok (.getfield 26, 3) := by decide +kernel
theorem dX6_schedule_43 : decode cX6_schedule 43 = .ok (.invokevirtual 159, 3) := by decide +kernel
theorem dX6_schedule_46 : decode cX6_schedule 46 = .ok (.aload_n 0, 1) := by decide +kernel
theorem dX6_schedule_47 : decode cX6_schedule 47 = .ok (.getfield 33, 3) := by decide +kernel
theorem dX6_schedule_50 : decode cX6_schedule 50 = .ok (.invokevirtual 163, 3) := by decide +kernel
theorem dX6_schedule_53 : decode cX6_schedule 53 = .ok (.ireturn, 1) := by decide +kernel
theorem dX6_fault_0 : decode cX6_fault 0 = .ok (.aload_n 0, 1) := by decide +kernel
theorem dX6_fault_1 : decode cX6_fault 1 = .ok (.getfield 152, 3) := by decide +kernel
theorem dX6_fault_4 : decode cX6_fault 4 = .ok (.ireturn, 1) := by decide +kernel
set_option maxRecDepth 20000 in
theorem ggX6_round_X5_hasRound : GoodIn wsX6_round wsX5_hasRound := goodIn_r _ [8, 9, 29, 30] (by decide +kernel) (by decide +kernel)
set_option maxRecDepth 20000 in
theorem gX6_round_X5_hasRound : GoodIn wsX6_round (wsV RX6 164 RX5 yX5_hasRound wsX5_hasRound) := goodIn_app (goodIn_of _ (by decide +kernel)) ggX6_round_X5_hasRound
set_option maxRecDepth 20000 in
theorem ggX6_round_X1_allPosts : GoodIn wsX6_round wsX1_allPosts := goodIn_r _ [14, 15, 31, 32] (by decide +kernel) (by decide +kernel)
set_option maxRecDepth 20000 in
theorem gX6_round_X1_allPosts : GoodIn wsX6_round (wsV RX6 167 RX1 yX1_allPosts wsX1_allPosts) := goodIn_app (goodIn_of _ (by decide +kernel)) ggX6_round_X1_allPosts
set_option maxRecDepth 20000 in
theorem ggX6_round_X5_soundsIn : GoodIn wsX6_round wsX5_soundsIn := goodIn_r _ [19, 20, 29, 30] (by decide +kernel) (by decide +kernel)
set_option maxRecDepth 20000 in
theorem gX6_round_X5_soundsIn : GoodIn wsX6_round (wsV RX6 170 RX5 yX5_soundsIn wsX5_soundsIn) := goodIn_app (goodIn_of _ (by decide +kernel)) ggX6_round_X5_soundsIn
theorem dX6_round_0 : decode cX6_round 0 = .ok (.aload_n 0, 1) := by decide +kernel
theorem dX6_round_1 : decode cX6_round 1 = .ok (.getfield 33, 3) := by decide +kernel
theorem dX6_round_4 : decode cX6_round 4 = .ok (.iload_n 1, 1) := by decide +kernel
theorem dX6_round_5 : decode cX6_round 5 = .ok (.invokevirtual 164, 3) := by decide +kernel
theorem dX6_round_8 : decode cX6_round 8 = .ok (.ifCond .eq 21, 3) := by decide +kernel
theorem dX6_round_11 : decode cX6_round 11 = .ok (.aload_n 0, 1) := by decide +kernel
theorem dX6_round_12 : decode cX6_round 12 = .ok (.getfield 33, 3) := by decide +kernel
theorem dX6_round_15 : decode cX6_round 15 = .ok (.iload_n 1, 1) := by decide +kernel
theorem dX6_round_16 : decode cX6_round 16 = .ok (.aload_n 0, 1) := by decide +kernel
theorem dX6_round_17 : decode cX6_round 17 = .ok (.getfield 19, 3) := by decide +kernel
theorem dX6_round_20 : decode cX6_round 20 = .ok (.invokevirtual 167, 3) := by decide +kernel
theorem dX6_round_23 : decode cX6_round 23 = .ok (.invokevirtual 170, 3) := by decide +kernel
theorem dX6_round_26 : decode cX6_round 26 = .ok (.goto 5, 3) := by decide +kernel
theorem dX6_round_29 : decode cX6_round 29 = .ok (.ldc 173, 2) := by decide +kernel
theorem dX6_round_31 : decode cX6_round 31 = .ok (.ireturn, 1) := by decide +kernel
set_option maxRecDepth 20000 in
theorem ggX6_run_X6_isHearing : GoodIn wsX6_run wsX6_isHearing := goodIn_r _ [8] (by decide +kernel) (by decide +kernel)
set_option maxRecDepth 20000 in
theorem gX6_run_X6_isHearing : GoodIn wsX6_run (va_wsS RX6 127 yX6_isHearing wsX6_isHearing) := goodIn_app (goodIn_of _ (by decide +kernel)) ggX6_run_X6_isHearing
set_option maxRecDepth 20000 in
theorem ggX6_run_X1_hasPost : GoodIn wsX6_run wsX1_hasPost := goodIn_r _ [13, 14, 51, 52] (by decide +kernel) (by decide +kernel)
set_option maxRecDepth 20000 in
theorem gX6_run_X1_hasPost : GoodIn wsX6_run (wsV RX6 109 RX1 yX1_hasPost wsX1_hasPost) := goodIn_app (goodIn_of _ (by decide +kernel)) ggX6_run_X1_hasPost
set_option maxRecDepth 20000 in
theorem ggX6_run_X5_size : GoodIn wsX6_run wsX5_size := goodIn_r _ [19, 20, 53, 54] (by decide +kernel) (by decide +kernel)
set_option maxRecDepth 20000 in
theorem gX6_run_X5_size : GoodIn wsX6_run (wsV RX6 163 RX5 yX5_size wsX5_size) := goodIn_app (goodIn_of _ (by decide +kernel)) ggX6_run_X5_size
set_option maxRecDepth 20000 in
theorem ggX6_run_X1_allPosts : GoodIn wsX6_run wsX1_allPosts := goodIn_r _ [24, 14, 51, 52] (by decide +kernel) (by decide +kernel)
set_option maxRecDepth 20000 in
theorem gX6_run_X1_allPosts : GoodIn wsX6_run (wsV RX6 167 RX1 yX1_allPosts wsX1_allPosts) := goodIn_app (goodIn_of _ (by decide +kernel)) ggX6_run_X1_allPosts
set_option maxRecDepth 20000 in
theorem ggX6_run_X5_soundsOverAndOver : GoodIn wsX6_run wsX5_soundsOverAndOver := goodIn_r _ [28, 20, 29, 30, 31, 18, 32, 33, 53, 54] (by decide +kernel) (by decide +kernel)
set_option maxRecDepth 20000 in
theorem gX6_run_X5_soundsOverAndOver : GoodIn wsX6_run (wsV RX6 175 RX5 yX5_soundsOverAndOver wsX5_soundsOverAndOver) := goodIn_app (goodIn_of _ (by decide +kernel)) ggX6_run_X5_soundsOverAndOver
set_option maxRecDepth 20000 in
theorem ggX6_run_X1_knowAfter : GoodIn wsX6_run wsX1_knowAfter := goodIn_r _ [37, 38, 39, 40, 12, 41, 14, 42, 51, 52] (by decide +kernel) (by decide +kernel)
set_option maxRecDepth 20000 in
theorem gX6_run_X1_knowAfter : GoodIn wsX6_run (wsV RX6 136 RX1 yX1_knowAfter wsX1_knowAfter) := goodIn_app (goodIn_of _ (by decide +kernel)) ggX6_run_X1_knowAfter
theorem dX6_run_0 : decode cX6_run 0 = .ok (.iload_n 1, 1) := by decide +kernel
theorem dX6_run_1 : decode cX6_run 1 = .ok (.invokestatic 127, 3) := by decide +kernel
theorem dX6_run_4 : decode cX6_run 4 = .ok (.ifCond .eq 24, 3) := by decide +kernel
theorem dX6_run_7 : decode cX6_run 7 = .ok (.aload_n 0, 1) := by decide +kernel
theorem dX6_run_8 : decode cX6_run 8 = .ok (.getfield 19, 3) := by decide +kernel
theorem dX6_run_11 : decode cX6_run 11 = .ok (.iload_n 2, 1) := by decide +kernel
theorem dX6_run_12 : decode cX6_run 12 = .ok (.invokevirtual 109, 3) := by decide +kernel
theorem dX6_run_15 : decode cX6_run 15 = .ok (.ifCond .eq 13, 3) := by decide +kernel
theorem dX6_run_18 : decode cX6_run 18 = .ok (.iload_n 3, 1) := by decide +kernel
theorem dX6_run_19 : decode cX6_run 19 = .ok (.ifCond .lt 9, 3) := by decide +kernel
theorem dX6_run_22 : decode cX6_run 22 = .ok (.iload_n 3, 1) := by decide +kernel
theorem dX6_run_23 : decode cX6_run 23 = .ok (.bipush 60, 2) := by decide +kernel
theorem dX6_run_25 : decode cX6_run 25 = .ok (.if_icmp .le 6, 3) := by decide +kernel
theorem dX6_run_28 : decode cX6_run 28 = .ok (.ldc 57, 2) := by decide +kernel
theorem dX6_run_30 : decode cX6_run 30 = .ok (.ireturn, 1) := by decide +kernel
theorem dX6_run_31 : decode cX6_run 31 = .ok (.aload_n 0, 1) := by decide +kernel
theorem dX6_run_32 : decode cX6_run 32 = .ok (.getfield 33, 3) := by decide +kernel
theorem dX6_run_35 : decode cX6_run 35 = .ok (.invokevirtual 163, 3) := by decide +kernel
theorem dX6_run_38 : decode cX6_run 38 = .ok (.ifCond .ne 6, 3) := by decide +kernel
theorem dX6_run_41 : decode cX6_run 41 = .ok (.ldc 174, 2) := by decide +kernel
theorem dX6_run_43 : decode cX6_run 43 = .ok (.ireturn, 1) := by decide +kernel
theorem dX6_run_44 : decode cX6_run 44 = .ok (.iconst 1, 1) := by decide +kernel
theorem dX6_run_45 : decode cX6_run 45 = .ok (.iload_n 2, 1) := by decide +kernel
theorem dX6_run_46 : decode cX6_run 46 = .ok (.ishl, 1) := by decide +kernel
theorem dX6_run_47 : decode cX6_run 47 = .ok (.istore 4, 2) := by decide +kernel
theorem dX6_run_49 : decode cX6_run 49 = .ok (.iconst 0, 1) := by decide +kernel
theorem dX6_run_50 : decode cX6_run 50 = .ok (.istore 5, 2) := by decide +kernel
theorem dX6_run_52 : decode cX6_run 52 = .ok (.iload 5, 2) := by decide +kernel
theorem dX6_run_54 : decode cX6_run 54 = .ok (.iload_n 3, 1) := by decide +kernel
theorem dX6_run_55 : decode cX6_run 55 = .ok (.if_icmp .ge 37, 3) := by decide +kernel
theorem dX6_run_58 : decode cX6_run 58 = .ok (.aload_n 0, 1) := by decide +kernel
theorem dX6_run_59 : decode cX6_run 59 = .ok (.getfield 19, 3) := by decide +kernel
theorem dX6_run_62 : decode cX6_run 62 = .ok (.iload_n 1, 1) := by decide +kernel
theorem dX6_run_63 : decode cX6_run 63 = .ok (.iload 4, 2) := by decide +kernel
theorem dX6_run_65 : decode cX6_run 65 = .ok (.aload_n 0, 1) := by decide +kernel
theorem dX6_run_66 : decode cX6_run 66 = .ok (.getfield 33, 3) := by decide +kernel
theorem dX6_run_69 : decode cX6_run 69 = .ok (.iload 5, 2) := by decide +kernel
theorem dX6_run_71 : decode cX6_run 71 = .ok (.aload_n 0, 1) := by decide +kernel
theorem dX6_run_72 : decode cX6_run 72 = .ok (.getfield 19, 3) := by decide +kernel
theorem dX6_run_75 : decode cX6_run 75 = .ok (.invokevirtual 167, 3) := by decide +kernel
theorem dX6_run_78 : decode cX6_run 78 = .ok (.invokevirtual 175, 3) := by decide +kernel
theorem dX6_run_81 : decode cX6_run 81 = .ok (.invokevirtual 136, 3) := by decide +kernel
theorem dX6_run_84 : decode cX6_run 84 = .ok (.istore 4, 2) := by decide +kernel
theorem dX6_run_86 : decode cX6_run 86 = .ok (.iinc 5 1, 3) := by decide +kernel
theorem dX6_run_89 : decode cX6_run 89 = .ok (.goto (-37), 3) := by decide +kernel
theorem dX6_run_92 : decode cX6_run 92 = .ok (.iload 4, 2) := by decide +kernel
theorem dX6_run_94 : decode cX6_run 94 = .ok (.ireturn, 1) := by decide +kernel
set_option maxRecDepth 20000 in
theorem ggX6_least_X6_isHearing : GoodIn wsX6_least wsX6_isHearing := goodIn_r _ [7] (by decide +kernel) (by decide +kernel)
set_option maxRecDepth 20000 in
theorem gX6_least_X6_isHearing : GoodIn wsX6_least (va_wsS RX6 127 yX6_isHearing wsX6_isHearing) := goodIn_app (goodIn_of _ (by decide +kernel)) ggX6_least_X6_isHearing
set_option maxRecDepth 20000 in
theorem ggX6_least_X1_hasSet : GoodIn wsX6_least wsX1_hasSet := goodIn_r _ [12, 13, 14, 15, 11, 16, 17, 67, 68] (by decide +kernel) (by decide +kernel)
set_option maxRecDepth 20000 in
theorem gX6_least_X1_hasSet : GoodIn wsX6_least (wsV RX6 130 RX1 yX1_hasSet wsX1_hasSet) := goodIn_app (goodIn_of _ (by decide +kernel)) ggX6_least_X1_hasSet
set_option maxRecDepth 20000 in
theorem ggX6_least_X3_listen : GoodIn wsX6_least wsX3_listen := goodIn_r _ [22, 23, 24, 14, 15, 11, 16, 17, 25, 26, 27, 28, 29, 69, 70, 71, 72, 67, 68] (by decide +kernel) (by decide +kernel)
set_option maxRecDepth 20000 in
theorem gX6_least_X3_listen : GoodIn wsX6_least (wsV RX6 178 RX3 yX3_listen wsX3_listen) := goodIn_app (goodIn_of _ (by decide +kernel)) ggX6_least_X3_listen
set_option maxRecDepth 20000 in
theorem ggX6_least_X1_reachOf : GoodIn wsX6_least wsX1_reachOf := goodIn_r _ [33, 17, 34, 35, 36, 11, 37, 29, 67, 68] (by decide +kernel) (by decide +kernel)
set_option maxRecDepth 20000 in
theorem gX6_least_X1_reachOf : GoodIn wsX6_least (wsV RX6 124 RX1 yX1_reachOf wsX1_reachOf) := goodIn_app (goodIn_of _ (by decide +kernel)) ggX6_least_X1_reachOf
set_option maxRecDepth 20000 in
theorem ggX6_least_X3_findFewest : GoodIn wsX6_least wsX3_findFewest := goodIn_r _ [41, 42, 43, 44, 45, 21, 46, 23, 47, 48, 49, 50, 69, 70, 71, 72] (by decide +kernel) (by decide +kernel)
set_option maxRecDepth 20000 in
theorem gX6_least_X3_findFewest : GoodIn wsX6_least (wsV RX6 182 RX3 yX3_findFewest wsX3_findFewest) := goodIn_app (goodIn_of _ (by decide +kernel)) ggX6_least_X3_findFewest
set_option maxRecDepth 20000 in
theorem ggX6_least_X3_fewestFrom : GoodIn wsX6_least wsX3_fewestFrom := goodIn_r _ [54, 42, 69, 70, 71, 72] (by decide +kernel) (by decide +kernel)
set_option maxRecDepth 20000 in
theorem gX6_least_X3_fewestFrom : GoodIn wsX6_least (wsV RX6 186 RX3 yX3_fewestFrom wsX3_fewestFrom) := goodIn_app (goodIn_of _ (by decide +kernel)) ggX6_least_X3_fewestFrom
set_option maxRecDepth 20000 in
theorem ggX6_least_X3_firstSet : GoodIn wsX6_least wsX3_firstSet := goodIn_r _ [58, 42, 23, 69, 70, 71, 72] (by decide +kernel) (by decide +kernel)
set_option maxRecDepth 20000 in
theorem gX6_least_X3_firstSet : GoodIn wsX6_least (wsV RX6 189 RX3 yX3_firstSet wsX3_firstSet) := goodIn_app (goodIn_of _ (by decide +kernel)) ggX6_least_X3_firstSet
theorem dX6_least_0 : decode cX6_least 0 = .ok (.iload_n 1, 1) := by decide +kernel
theorem dX6_least_1 : decode cX6_least 1 = .ok (.invokestatic 127, 3) := by decide +kernel
theorem dX6_least_4 : decode cX6_least 4 = .ok (.ifCond .eq 27, 3) := by decide +kernel
theorem dX6_least_7 : decode cX6_least 7 = .ok (.iload_n 2, 1) := by decide +kernel
theorem dX6_least_8 : decode cX6_least 8 = .ok (.ifCond .eq 23, 3) := by decide +kernel
theorem dX6_least_11 : decode cX6_least 11 = .ok (.aload_n 0, 1) := by decide +kernel
theorem dX6_least_12 : decode cX6_least 12 = .ok (.getfield 19, 3) := by decide +kernel
theorem dX6_least_15 : decode cX6_least 15 = .ok (.iload_n 2, 1) := by decide +kernel
theorem dX6_least_16 : decode cX6_least 16 = .ok (.invokevirtual 130, 3) := by decide +kernel
theorem dX6_least_19 : decode cX6_least 19 = .ok (.ifCond .eq 12, 3) := by decide +kernel
theorem dX6_least_22 : decode cX6_least 22 = .ok (.iload_n 3, 1) := by decide +kernel
theorem dX6_least_23 : decode cX6_least 23 = .ok (.ifCond .lt 8, 3) := by decide +kernel
theorem dX6_least_26 : decode cX6_least 26 = .ok (.iload_n 3, 1) := by decide +kernel
theorem dX6_least_27 : decode cX6_least 27 = .ok (.iconst 1, 1) := by decide +kernel
theorem dX6_least_28 : decode cX6_least 28 = .ok (.if_icmp .le 6, 3) := by decide +kernel
theorem dX6_least_31 : decode cX6_least 31 = .ok (.ldc 57, 2) := by decide +kernel
theorem dX6_least_33 : decode cX6_least 33 = .ok (.ireturn, 1) := by decide +kernel
theorem dX6_least_34 : decode cX6_least 34 = .ok (.aload_n 0, 1) := by decide +kernel
theorem dX6_least_35 : decode cX6_least 35 = .ok (.getfield 40, 3) := by decide +kernel
theorem dX6_least_38 : decode cX6_least 38 = .ok (.aload_n 0, 1) := by decide +kernel
theorem dX6_least_39 : decode cX6_least 39 = .ok (.getfield 19, 3) := by decide +kernel
theorem dX6_least_42 : decode cX6_least 42 = .ok (.iload_n 1, 1) := by decide +kernel
theorem dX6_least_43 : decode cX6_least 43 = .ok (.invokevirtual 178, 3) := by decide +kernel
theorem dX6_least_46 : decode cX6_least 46 = .ok (.aload_n 0, 1) := by decide +kernel
theorem dX6_least_47 : decode cX6_least 47 = .ok (.getfield 40, 3) := by decide +kernel
theorem dX6_least_50 : decode cX6_least 50 = .ok (.iload_n 2, 1) := by decide +kernel
theorem dX6_least_51 : decode cX6_least 51 = .ok (.aload_n 0, 1) := by decide +kernel
theorem dX6_least_52 : decode cX6_least 52 = .ok (.getfield 19, 3) := by decide +kernel
theorem dX6_least_55 : decode cX6_least 55 = .ok (.iload_n 2, 1) := by decide +kernel
theorem dX6_least_56 : decode cX6_least 56 = .ok (.invokevirtual 124, 3) := by decide +kernel
theorem dX6_least_59 : decode cX6_least 59 = .ok (.invokevirtual 182, 3) := by decide +kernel
theorem dX6_least_62 : decode cX6_least 62 = .ok (.iload_n 3, 1) := by decide +kernel
theorem dX6_least_63 : decode cX6_least 63 = .ok (.ifCond .ne 14, 3) := by decide +kernel
theorem dX6_least_66 : decode cX6_least 66 = .ok (.aload_n 0, 1) := by decide +kernel
theorem dX6_least_67 : decode cX6_least 67 = .ok (.getfield 40, 3) := by decide +kernel
theorem dX6_least_70 : decode cX6_least 70 = .ok (.iload_n 2, 1) := by decide +kernel
theorem dX6_least_71 : decode cX6_least 71 = .ok (.invokevirtual 186, 3) := by decide +kernel
theorem dX6_least_74 : decode cX6_least 74 = .ok (.goto 11, 3) := by decide +kernel
theorem dX6_least_77 : decode cX6_least 77 = .ok (.aload_n 0, 1) := by decide +kernel
theorem dX6_least_78 : decode cX6_least 78 = .ok (.getfield 40, 3) := by decide +kernel
theorem dX6_least_81 : decode cX6_least 81 = .ok (.iload_n 2, 1) := by decide +kernel
theorem dX6_least_82 : decode cX6_least 82 = .ok (.invokevirtual 189, 3) := by decide +kernel
theorem dX6_least_85 : decode cX6_least 85 = .ok (.ireturn, 1) := by decide +kernel
set_option maxRecDepth 20000 in
theorem ggX6_jammed_X6_isHearing : GoodIn wsX6_jammed wsX6_isHearing := goodIn_r _ [9] (by decide +kernel) (by decide +kernel)
set_option maxRecDepth 20000 in
theorem gX6_jammed_X6_isHearing : GoodIn wsX6_jammed (va_wsS RX6 127 yX6_isHearing wsX6_isHearing) := goodIn_app (goodIn_of _ (by decide +kernel)) ggX6_jammed_X6_isHearing
set_option maxRecDepth 20000 in
theorem ggX6_jammed_X1_hasPost : GoodIn wsX6_jammed wsX1_hasPost := goodIn_r _ [14, 15, 80, 81] (by decide +kernel) (by decide +kernel)
set_option maxRecDepth 20000 in
theorem gX6_jammed_X1_hasPost : GoodIn wsX6_jammed (wsV RX6 109 RX1 yX1_hasPost wsX1_hasPost) := goodIn_app (goodIn_of _ (by decide +kernel)) ggX6_jammed_X1_hasPost
set_option maxRecDepth 20000 in
theorem ggX6_jammed_X5_size : GoodIn wsX6_jammed wsX5_size := goodIn_r _ [20, 21, 82, 83] (by decide +kernel) (by decide +kernel)
set_option maxRecDepth 20000 in
theorem gX6_jammed_X5_size : GoodIn wsX6_jammed (wsV RX6 163 RX5 yX5_size wsX5_size) := goodIn_app (goodIn_of _ (by decide +kernel)) ggX6_jammed_X5_size
set_option maxRecDepth 20000 in
theorem ggX6_jammed_X3_listen : GoodIn wsX6_jammed wsX3_listen := goodIn_r _ [26, 27, 28, 29, 30, 13, 31, 15, 32, 33, 34, 35, 36, 84, 85, 86, 87, 80, 81] (by decide +kernel) (by decide +kernel)
set_option maxRecDepth 20000 in
theorem gX6_jammed_X3_listen : GoodIn wsX6_jammed (wsV RX6 178 RX3 yX3_listen wsX3_listen) := goodIn_app (goodIn_of _ (by decide +kernel)) ggX6_jammed_X3_listen
set_option maxRecDepth 20000 in
theorem ggX6_jammed_X3_worstRounds : GoodIn wsX6_jammed wsX3_worstRounds := goodIn_r _ [40, 41, 42, 43, 44, 45, 13, 46, 15, 47, 48, 49, 50, 36, 51, 52, 53, 54, 28, 29, 30, 31, 55, 56, 57, 19, 58, 21, 59, 60, 61, 62, 63, 64, 65, 66, 25, 67, 27, 68, 69, 70, 71, 84, 85, 86, 87, 80, 81, 82, 83] (by decide +kernel) (by decide +kernel)
set_option maxRecDepth 20000 in
theorem gX6_jammed_X3_worstRounds : GoodIn wsX6_jammed (wsV RX6 192 RX3 yX3_worstRounds wsX3_worstRounds) := goodIn_app (goodIn_of _ (by decide +kernel)) ggX6_jammed_X3_worstRounds
theorem dX6_jammed_0 : decode cX6_jammed 0 = .ok (.iload_n 1, 1) := by decide +kernel
theorem dX6_jammed_1 : decode cX6_jammed 1 = .ok (.invokestatic 127, 3) := by decide +kernel
theorem dX6_jammed_4 : decode cX6_jammed 4 = .ok (.ifCond .eq 23, 3) := by decide +kernel
theorem dX6_jammed_7 : decode cX6_jammed 7 = .ok (.aload_n 0, 1) := by decide +kernel
theorem dX6_jammed_8 : decode cX6_jammed 8 = .ok (.getfield 19, 3) := by decide +kernel
theorem dX6_jammed_11 : decode cX6_jammed 11 = .ok (.iload_n 2, 1) := by decide +kernel
theorem dX6_jammed_12 : decode cX6_jammed 12 = .ok (.invokevirtual 109, 3) := by decide +kernel
theorem dX6_jammed_15 : decode cX6_jammed 15 = .ok (.ifCond .eq 12, 3) := by decide +kernel
theorem dX6_jammed_18 : decode cX6_jammed 18 = .ok (.iload_n 3, 1) := by decide +kernel
theorem dX6_jammed_19 : decode cX6_jammed 19 = .ok (.ifCond .lt 8, 3) := by decide +kernel
theorem dX6_jammed_22 : decode cX6_jammed 22 = .ok (.iload_n 3, 1) := by decide +kernel
theorem dX6_jammed_23 : decode cX6_jammed 23 = .ok (.iconst 5, 1) := by decide +kernel
theorem dX6_jammed_24 : decode cX6_jammed 24 = .ok (.if_icmp .le 6, 3) := by decide +kernel
theorem dX6_jammed_27 : decode cX6_jammed 27 = .ok (.ldc 57, 2) := by decide +kernel
theorem dX6_jammed_29 : decode cX6_jammed 29 = .ok (.ireturn, 1) := by decide +kernel
theorem dX6_jammed_30 : decode cX6_jammed 30 = .ok (.aload_n 0, 1) := by decide +kernel
theorem dX6_jammed_31 : decode cX6_jammed 31 = .ok (.getfield 33, 3) := by decide +kernel
theorem dX6_jammed_34 : decode cX6_jammed 34 = .ok (.invokevirtual 163, 3) := by decide +kernel
theorem dX6_jammed_37 : decode cX6_jammed 37 = .ok (.ifCond .ne 6, 3) := by decide +kernel
theorem dX6_jammed_40 : decode cX6_jammed 40 = .ok (.ldc 174, 2) := by decide +kernel
theorem dX6_jammed_42 : decode cX6_jammed 42 = .ok (.ireturn, 1) := by decide +kernel
theorem dX6_jammed_43 : decode cX6_jammed 43 = .ok (.aload_n 0, 1) := by decide +kernel
theorem dX6_jammed_44 : decode cX6_jammed 44 = .ok (.getfield 40, 3) := by decide +kernel
theorem dX6_jammed_47 : decode cX6_jammed 47 = .ok (.aload_n 0, 1) := by decide +kernel
theorem dX6_jammed_48 : decode cX6_jammed 48 = .ok (.getfield 19, 3) := by decide +kernel
theorem dX6_jammed_51 : decode cX6_jammed 51 = .ok (.iload_n 1, 1) := by decide +kernel
theorem dX6_jammed_52 : decode cX6_jammed 52 = .ok (.invokevirtual 178, 3) := by decide +kernel
theorem dX6_jammed_55 : decode cX6_jammed 55 = .ok (.aload_n 0, 1) := by decide +kernel
theorem dX6_jammed_56 : decode cX6_jammed 56 = .ok (.getfield 40, 3) := by decide +kernel
theorem dX6_jammed_59 : decode cX6_jammed 59 = .ok (.aload_n 0, 1) := by decide +kernel
theorem dX6_jammed_60 : decode cX6_jammed 60 = .ok (.getfield 19, 3) := by decide +kernel
theorem dX6_jammed_63 : decode cX6_jammed 63 = .ok (.aload_n 0, 1) := by decide +kernel
theorem dX6_jammed_64 : decode cX6_jammed 64 = .ok (.getfield 33, 3) := by decide +kernel
theorem dX6_jammed_67 : decode cX6_jammed 67 = .ok (.iload_n 2, 1) := by decide +kernel
theorem dX6_jammed_68 : decode cX6_jammed 68 = .ok (.iload_n 3, 1) := by decide +kernel
theorem dX6_jammed_69 : decode cX6_jammed 69 = .ok (.invokevirtual 192, 3) := by decide +kernel
theorem dX6_jammed_72 : decode cX6_jammed 72 = .ok (.ireturn, 1) := by decide +kernel
set_option maxRecDepth 20000 in
theorem ggX6_draws_X6_isHearing : GoodIn wsX6_draws wsX6_isHearing := goodIn_r _ [7] (by decide +kernel) (by decide +kernel)
set_option maxRecDepth 20000 in
theorem gX6_draws_X6_isHearing : GoodIn wsX6_draws (va_wsS RX6 127 yX6_isHearing wsX6_isHearing) := goodIn_app (goodIn_of _ (by decide +kernel)) ggX6_draws_X6_isHearing
set_option maxRecDepth 20000 in
theorem ggX6_draws_X1_hasPost : GoodIn wsX6_draws wsX1_hasPost := goodIn_r _ [12, 13, 73, 74] (by decide +kernel) (by decide +kernel)
set_option maxRecDepth 20000 in
theorem gX6_draws_X1_hasPost : GoodIn wsX6_draws (wsV RX6 109 RX1 yX1_hasPost wsX1_hasPost) := goodIn_app (goodIn_of _ (by decide +kernel)) ggX6_draws_X1_hasPost
set_option maxRecDepth 20000 in
theorem ggX6_draws_X3_listen : GoodIn wsX6_draws wsX3_listen := goodIn_r _ [18, 19, 20, 21, 22, 11, 23, 13, 24, 25, 26, 27, 28, 75, 76, 77, 78, 73, 74] (by decide +kernel) (by decide +kernel)
set_option maxRecDepth 20000 in
theorem gX6_draws_X3_listen : GoodIn wsX6_draws (wsV RX6 178 RX3 yX3_listen wsX3_listen) := goodIn_app (goodIn_of _ (by decide +kernel)) ggX6_draws_X3_listen
set_option maxRecDepth 20000 in
theorem ggX6_draws_X3_casesThatReachAll : GoodIn wsX6_draws wsX3_casesThatReachAll := goodIn_r _ [32, 33, 34, 35, 36, 11, 37, 13, 38, 39, 40, 41, 28, 42, 43, 44, 45, 46, 47, 48, 49, 50, 51, 52, 17, 53, 54, 55, 56, 57, 19, 58, 59, 60, 61, 62, 63, 64, 75, 76, 77, 78, 73, 74] (by decide +kernel) (by decide +kernel)
set_option maxRecDepth 20000 in
theorem gX6_draws_X3_casesThatReachAll : GoodIn wsX6_draws (wsV RX6 198 RX3 yX3_casesThatReachAll wsX3_casesThatReachAll) := goodIn_app (goodIn_of _ (by decide +kernel)) ggX6_draws_X3_casesThatReachAll
theorem dX6_draws_0 : decode cX6_draws 0 = .ok (.iload_n 1, 1) := by decide +kernel
theorem dX6_draws_1 : decode cX6_draws 1 = .ok (.invokestatic 127, 3) := by decide +kernel
theorem dX6_draws_4 : decode cX6_draws 4 = .ok (.ifCond .eq 24, 3) := by decide +kernel
theorem dX6_draws_7 : decode cX6_draws 7 = .ok (.aload_n 0, 1) := by decide +kernel
theorem dX6_draws_8 : decode cX6_draws 8 = .ok (.getfield 19, 3) := by decide +kernel
theorem dX6_draws_11 : decode cX6_draws 11 = .ok (.iload_n 2, 1) := by decide +kernel
theorem dX6_draws_12 : decode cX6_draws 12 = .ok (.invokevirtual 109, 3) := by decide +kernel
theorem dX6_draws_15 : decode cX6_draws 15 = .ok (.ifCond .eq 13, 3) := by decide +kernel
theorem dX6_draws_18 : decode cX6_draws 18 = .ok (.iload_n 3, 1) := by decide +kernel
theorem dX6_draws_19 : decode cX6_draws 19 = .ok (.ifCond .lt 9, 3) := by decide +kernel
theorem dX6_draws_22 : decode cX6_draws 22 = .ok (.iload_n 3, 1) := by decide +kernel
theorem dX6_draws_23 : decode cX6_draws 23 = .ok (.bipush 7, 2) := by decide +kernel
theorem dX6_draws_25 : decode cX6_draws 25 = .ok (.if_icmp .le 7, 3) := by decide +kernel
theorem dX6_draws_28 : decode cX6_draws 28 = .ok (.ldc2_w 196, 3) := by decide +kernel
theorem dX6_draws_31 : decode cX6_draws 31 = .ok (.lreturn, 1) := by decide +kernel
theorem dX6_draws_32 : decode cX6_draws 32 = .ok (.aload_n 0, 1) := by decide +kernel
theorem dX6_draws_33 : decode cX6_draws 33 = .ok (.getfield 40, 3) := by decide +kernel
theorem dX6_draws_36 : decode cX6_draws 36 = .ok (.aload_n 0, 1) := by decide +kernel
theorem dX6_draws_37 : decode cX6_draws 37 = .ok (.getfield 19, 3) := by decide +kernel
theorem dX6_draws_40 : decode cX6_draws 40 = .ok (.iload_n 1, 1) := by decide +kernel
theorem dX6_draws_41 : decode cX6_draws 41 = .ok (.invokevirtual 178, 3) := by decide +kernel
theorem dX6_draws_44 : decode cX6_draws 44 = .ok (.aload_n 0, 1) := by decide +kernel
theorem dX6_draws_45 : decode cX6_draws 45 = .ok (.getfield 40, 3) := by decide +kernel
theorem dX6_draws_48 : decode cX6_draws 48 = .ok (.aload_n 0, 1) := by decide +kernel
theorem dX6_draws_49 : decode cX6_draws 49 = .ok (.getfield 19, 3) := by decide +kernel
theorem dX6_draws_52 : decode cX6_draws 52 = .ok (.iload_n 2, 1) := by decide +kernel
theorem dX6_draws_53 : decode cX6_draws 53 = .ok (.iload_n 3, 1) := by decide +kernel
theorem dX6_draws_54 : decode cX6_draws 54 = .ok (.invokevirtual 198, 3) := by decide +kernel
theorem dX6_draws_57 : decode cX6_draws 57 = .ok (.lreturn, 1) := by decide +kernel
set_option maxRecDepth 20000 in
theorem ggX6_picks_X6_isSheet : GoodIn wsX6_picks wsX6_isSheet := goodIn_r _ [9] (by decide +kernel) (by decide +kernel)
set_option maxRecDepth 20000 in
theorem gX6_picks_X6_isSheet : GoodIn wsX6_picks (va_wsS RX6 53 yX6_isSheet wsX6_isSheet) := goodIn_app (goodIn_of _ (by decide +kernel)) ggX6_picks_X6_isSheet
set_option maxRecDepth 20000 in
theorem ggX6_picks_X4_findPlaces : GoodIn wsX6_picks wsX4_findPlaces := goodIn_r _ [14, 15, 16, 17, 13, 18, 19, 20, 21, 22, 23, 24, 57, 58, 59] (by decide +kernel) (by decide +kernel)
set_option maxRecDepth 20000 in
theorem gX6_picks_X4_findPlaces : GoodIn wsX6_picks (wsV RX6 67 RX4 yX4_findPlaces wsX4_findPlaces) := goodIn_app (goodIn_of _ (by decide +kernel)) ggX6_picks_X4_findPlaces
set_option maxRecDepth 20000 in
theorem ggX6_picks_X6_firstUnpicked : GoodIn wsX6_picks wsX6_firstUnpicked := goodIn_r _ [28, 29, 2, 5, 30, 31, 32, 33, 34, 35, 36, 37, 38, 39, 40, 41, 42, 43, 44, 45, 13, 46, 47, 48, 49, 50, 51, 52, 53, 54, 55, 56, 60, 61, 57, 58, 59] (by decide +kernel) (by decide +kernel)
set_option maxRecDepth 20000 in
theorem gX6_picks_X6_firstUnpicked : GoodIn wsX6_picks (wsV RX6 202 RX6 yX6_firstUnpicked wsX6_firstUnpicked) := goodIn_app (goodIn_of _ (by decide +kernel)) ggX6_picks_X6_firstUnpicked
theorem dX6_picks_0 : decode cX6_picks 0 = .ok (.iload_n 1, 1) := by decide +kernel
