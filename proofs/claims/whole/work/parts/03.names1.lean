theorem dX0_init_0 : decode cX0_init 0 = .ok (.aload_n 0, 1) := by decide +kernel
theorem dX0_init_1 : decode cX0_init 1 = .ok (.invokespecial 3, 3) := by decide +kernel
theorem dX0_init_4 : decode cX0_init 4 = .ok (.aload_n 0, 1) := by decide +kernel
theorem dX0_init_5 : decode cX0_init 5 = .ok (.bipush 16, 2) := by decide +kernel
theorem dX0_init_7 : decode cX0_init 7 = .ok (.newarray .int, 2) := by decide +kernel
theorem dX0_init_9 : decode cX0_init 9 = .ok (.putfield 9, 3) := by decide +kernel
theorem dX0_init_12 : decode cX0_init 12 = .ok (.aload_n 0, 1) := by decide +kernel
theorem dX0_init_13 : decode cX0_init 13 = .ok (.aload_n 1, 1) := by decide +kernel
theorem dX0_init_14 : decode cX0_init 14 = .ok (.putfield 15, 3) := by decide +kernel
theorem dX0_init_17 : decode cX0_init 17 = .ok (.return_, 1) := by decide +kernel
theorem dX0_begunBody_0 : decode cX0_begunBody 0 = .ok (.iload_n 1, 1) := by decide +kernel
theorem dX0_begunBody_1 : decode cX0_begunBody 1 = .ok (.ifCond .lt 20, 3) := by decide +kernel
theorem dX0_begunBody_4 : decode cX0_begunBody 4 = .ok (.iload_n 1, 1) := by decide +kernel
theorem dX0_begunBody_5 : decode cX0_begunBody 5 = .ok (.aload_n 0, 1) := by decide +kernel
theorem dX0_begunBody_6 : decode cX0_begunBody 6 = .ok (.getfield 19, 3) := by decide +kernel
theorem dX0_begunBody_9 : decode cX0_begunBody 9 = .ok (.if_icmp .ge 12, 3) := by decide +kernel
theorem dX0_begunBody_12 : decode cX0_begunBody 12 = .ok (.aload_n 0, 1) := by decide +kernel
theorem dX0_begunBody_13 : decode cX0_begunBody 13 = .ok (.getfield 9, 3) := by decide +kernel
theorem dX0_begunBody_16 : decode cX0_begunBody 16 = .ok (.iload_n 1, 1) := by decide +kernel
theorem dX0_begunBody_17 : decode cX0_begunBody 17 = .ok (.iaload, 1) := by decide +kernel
theorem dX0_begunBody_18 : decode cX0_begunBody 18 = .ok (.goto 5, 3) := by decide +kernel
theorem dX0_begunBody_21 : decode cX0_begunBody 21 = .ok (.ldc 23, 2) := by decide +kernel
theorem dX0_begunBody_23 : decode cX0_begunBody 23 = .ok (.ireturn, 1) := by decide +kernel
set_option maxRecDepth 20000 in
theorem ggX0_answer_X0_sizeOf : GoodIn wsX0_answer wsX0_sizeOf := goodIn_r _ [6, 7, 8, 9, 10, 11, 12, 13, 14, 15, 16, 17, 18, 19, 20, 21, 22, 23, 24, 25, 26, 27, 28, 29, 30, 31, 32, 33, 34, 35, 36, 5, 37, 38, 39, 40, 41, 1, 42, 43, 44, 45, 46, 47, 48, 49, 50, 51, 52, 53, 54, 55, 56, 57, 58, 59, 60, 61, 62, 63, 64, 65, 66, 67, 68, 69, 70, 71, 72, 73, 74, 75, 2, 3, 4, 76, 77, 78, 79, 80, 81, 82, 83, 84] (by decide +kernel) (by decide +kernel)
set_option maxRecDepth 20000 in
theorem gX0_answer_X0_sizeOf : GoodIn wsX0_answer (wsV RX0 24 RX0 yX0_sizeOf wsX0_sizeOf) := goodIn_app (goodIn_of _ (by decide +kernel)) ggX0_answer_X0_sizeOf
set_option maxRecDepth 20000 in
theorem ggX0_answer_X0_markOf : GoodIn wsX0_answer wsX0_markOf := goodIn_r _ [63, 7, 8, 9, 10, 11, 12, 13, 14, 15, 16, 17, 18, 19, 20, 21, 22, 23, 24, 25, 26, 27, 28, 29, 30, 31, 32, 33, 64, 65, 66, 5, 67, 38, 39, 40, 41, 1, 42, 68, 69, 70, 71, 72, 73, 74, 75, 2, 3, 4, 6, 34, 35, 36, 37, 43, 44, 45, 46, 47, 48, 49, 50, 51, 52, 53, 54, 55, 56, 57, 58, 59, 60, 61, 62, 76, 77, 78, 79, 80, 81, 82, 83, 84] (by decide +kernel) (by decide +kernel)
set_option maxRecDepth 20000 in
theorem gX0_answer_X0_markOf : GoodIn wsX0_answer (wsV RX0 28 RX0 yX0_markOf wsX0_markOf) := goodIn_app (goodIn_of _ (by decide +kernel)) ggX0_answer_X0_markOf
theorem dX0_answer_0 : decode cX0_answer 0 = .ok (.aload_n 0, 1) := by decide +kernel
theorem dX0_answer_1 : decode cX0_answer 1 = .ok (.iconst 0, 1) := by decide +kernel
theorem dX0_answer_2 : decode cX0_answer 2 = .ok (.putfield 19, 3) := by decide +kernel
theorem dX0_answer_5 : decode cX0_answer 5 = .ok (.iload_n 2, 1) := by decide +kernel
theorem dX0_answer_6 : decode cX0_answer 6 = .ok (.ifCond .ne 12, 3) := by decide +kernel
theorem dX0_answer_9 : decode cX0_answer 9 = .ok (.aload_n 0, 1) := by decide +kernel
theorem dX0_answer_10 : decode cX0_answer 10 = .ok (.iload_n 1, 1) := by decide +kernel
theorem dX0_answer_11 : decode cX0_answer 11 = .ok (.iconst 0, 1) := by decide +kernel
theorem dX0_answer_12 : decode cX0_answer 12 = .ok (.invokevirtual 24, 3) := by decide +kernel
theorem dX0_answer_15 : decode cX0_answer 15 = .ok (.goto 9, 3) := by decide +kernel
theorem dX0_answer_18 : decode cX0_answer 18 = .ok (.aload_n 0, 1) := by decide +kernel
theorem dX0_answer_19 : decode cX0_answer 19 = .ok (.iload_n 1, 1) := by decide +kernel
theorem dX0_answer_20 : decode cX0_answer 20 = .ok (.iconst 0, 1) := by decide +kernel
theorem dX0_answer_21 : decode cX0_answer 21 = .ok (.invokevirtual 28, 3) := by decide +kernel
theorem dX0_answer_24 : decode cX0_answer 24 = .ok (.ireturn, 1) := by decide +kernel
theorem dX0_leave_0 : decode cX0_leave 0 = .ok (.aload_n 0, 1) := by decide +kernel
theorem dX0_leave_1 : decode cX0_leave 1 = .ok (.getfield 19, 3) := by decide +kernel
theorem dX0_leave_4 : decode cX0_leave 4 = .ok (.bipush 16, 2) := by decide +kernel
theorem dX0_leave_6 : decode cX0_leave 6 = .ok (.if_icmp .ge 23, 3) := by decide +kernel
theorem dX0_leave_9 : decode cX0_leave 9 = .ok (.aload_n 0, 1) := by decide +kernel
theorem dX0_leave_10 : decode cX0_leave 10 = .ok (.getfield 9, 3) := by decide +kernel
theorem dX0_leave_13 : decode cX0_leave 13 = .ok (.aload_n 0, 1) := by decide +kernel
theorem dX0_leave_14 : decode cX0_leave 14 = .ok (.getfield 19, 3) := by decide +kernel
theorem dX0_leave_17 : decode cX0_leave 17 = .ok (.iload_n 1, 1) := by decide +kernel
theorem dX0_leave_18 : decode cX0_leave 18 = .ok (.iastore, 1) := by decide +kernel
theorem dX0_leave_19 : decode cX0_leave 19 = .ok (.aload_n 0, 1) := by decide +kernel
theorem dX0_leave_20 : decode cX0_leave 20 = .ok (.dup, 1) := by decide +kernel
theorem dX0_leave_21 : decode cX0_leave 21 = .ok (.getfield 19, 3) := by decide +kernel
theorem dX0_leave_24 : decode cX0_leave 24 = .ok (.iconst 1, 1) := by decide +kernel
theorem dX0_leave_25 : decode cX0_leave 25 = .ok (.iadd, 1) := by decide +kernel
theorem dX0_leave_26 : decode cX0_leave 26 = .ok (.putfield 19, 3) := by decide +kernel
theorem dX0_leave_29 : decode cX0_leave 29 = .ok (.return_, 1) := by decide +kernel
set_option maxRecDepth 20000 in
theorem ggX0_sizeOf_X1_kindOf : GoodIn wsX0_sizeOf wsX1_kindOf := goodIn_r _ [6, 7, 8, 9, 5, 10, 11, 12, 13, 14, 15, 16, 17, 18, 19, 20, 21, 22, 23, 24, 25, 26, 27, 82, 83] (by decide +kernel) (by decide +kernel)
set_option maxRecDepth 20000 in
theorem gX0_sizeOf_X1_kindOf : GoodIn wsX0_sizeOf (wsV RX0 31 RX1 yX1_kindOf wsX1_kindOf) := goodIn_app (goodIn_of _ (by decide +kernel)) ggX0_sizeOf_X1_kindOf
set_option maxRecDepth 20000 in
theorem ggX0_sizeOf_X0_sizeOfLeaf : GoodIn wsX0_sizeOf wsX0_sizeOfLeaf := goodIn_r _ [32, 33, 34, 35, 31, 36, 37, 38, 39, 40, 41, 42, 1, 43, 44, 45, 46, 47, 8, 9, 5, 10, 11, 12, 13, 14, 15, 16, 17, 18, 48, 49, 50, 51, 23, 52, 53, 54, 55, 79, 80, 81, 82, 83] (by decide +kernel) (by decide +kernel)
set_option maxRecDepth 20000 in
theorem gX0_sizeOf_X0_sizeOfLeaf : GoodIn wsX0_sizeOf (wsV RX0 37 RX0 yX0_sizeOfLeaf wsX0_sizeOfLeaf) := goodIn_app (goodIn_of _ (by decide +kernel)) ggX0_sizeOf_X0_sizeOfLeaf
set_option maxRecDepth 20000 in
theorem ggX0_sizeOf_X0_sizeOfHub : GoodIn wsX0_sizeOf wsX0_sizeOfHub := goodIn_r _ [75, 33, 34, 35, 31, 36, 37, 38, 39, 40, 41, 42, 1, 43, 44, 45, 46, 47, 8, 9, 5, 10, 11, 12, 13, 14, 15, 16, 17, 18, 48, 49, 50, 51, 23, 52, 53, 54, 55, 76, 77, 78, 59, 2, 3, 4, 6, 7, 19, 20, 21, 22, 24, 25, 26, 27, 60, 61, 62, 63, 64, 65, 66, 67, 68, 69, 70, 71, 72, 73, 74, 0, 28, 29, 30, 32, 56, 57, 58, 79, 80, 81, 82, 83] (by decide +kernel) (by decide +kernel)
set_option maxRecDepth 20000 in
theorem gX0_sizeOf_X0_sizeOfHub : GoodIn wsX0_sizeOf (wsV RX0 40 RX0 yX0_sizeOfHub wsX0_sizeOfHub) := goodIn_app (goodIn_of _ (by decide +kernel)) ggX0_sizeOf_X0_sizeOfHub
set_option maxRecDepth 20000 in
theorem ggX0_sizeOf_X0_sizeOfLinked : GoodIn wsX0_sizeOf wsX0_sizeOfLinked := goodIn_r _ [42, 1, 33, 34, 35, 31, 36, 37, 38, 43, 44, 45, 46, 47, 8, 9, 5, 10, 11, 12, 13, 14, 15, 16, 17, 18, 48, 49, 50, 51, 23, 52, 53, 54, 55, 79, 80, 81, 82, 83] (by decide +kernel) (by decide +kernel)
set_option maxRecDepth 20000 in
theorem gX0_sizeOf_X0_sizeOfLinked : GoodIn wsX0_sizeOf (wsV RX0 43 RX0 yX0_sizeOfLinked wsX0_sizeOfLinked) := goodIn_app (goodIn_of _ (by decide +kernel)) ggX0_sizeOf_X0_sizeOfLinked
set_option maxRecDepth 20000 in
theorem ggX0_sizeOf_X0_sizeLent : GoodIn wsX0_sizeOf wsX0_sizeLent := goodIn_r _ [46, 1, 33, 34, 35, 31, 36, 37, 38, 47, 8, 9, 5, 10, 11, 12, 13, 14, 15, 16, 17, 18, 79, 80, 81, 82, 83] (by decide +kernel) (by decide +kernel)
set_option maxRecDepth 20000 in
theorem gX0_sizeOf_X0_sizeLent : GoodIn wsX0_sizeOf (wsV RX0 46 RX0 yX0_sizeLent wsX0_sizeLent) := goodIn_app (goodIn_of _ (by decide +kernel)) ggX0_sizeOf_X0_sizeLent
theorem dX0_sizeOf_0 : decode cX0_sizeOf 0 = .ok (.iload_n 2, 1) := by decide +kernel
theorem dX0_sizeOf_1 : decode cX0_sizeOf 1 = .ok (.iconst 3, 1) := by decide +kernel
theorem dX0_sizeOf_2 : decode cX0_sizeOf 2 = .ok (.if_icmp .le 5, 3) := by decide +kernel
theorem dX0_sizeOf_5 : decode cX0_sizeOf 5 = .ok (.iconst 0, 1) := by decide +kernel
theorem dX0_sizeOf_6 : decode cX0_sizeOf 6 = .ok (.ireturn, 1) := by decide +kernel
theorem dX0_sizeOf_7 : decode cX0_sizeOf 7 = .ok (.aload_n 0, 1) := by decide +kernel
theorem dX0_sizeOf_8 : decode cX0_sizeOf 8 = .ok (.getfield 15, 3) := by decide +kernel
theorem dX0_sizeOf_11 : decode cX0_sizeOf 11 = .ok (.iload_n 1, 1) := by decide +kernel
theorem dX0_sizeOf_12 : decode cX0_sizeOf 12 = .ok (.invokevirtual 31, 3) := by decide +kernel
theorem dX0_sizeOf_15 : decode cX0_sizeOf 15 = .ok (.tableswitch 44 1 3 #[38, 25, 31], 25) := by decide +kernel
theorem dX0_sizeOf_40 : decode cX0_sizeOf 40 = .ok (.aload_n 0, 1) := by decide +kernel
theorem dX0_sizeOf_41 : decode cX0_sizeOf 41 = .ok (.iload_n 1, 1) := by decide +kernel
theorem dX0_sizeOf_42 : decode cX0_sizeOf 42 = .ok (.invokevirtual 37, 3) := by decide +kernel
theorem dX0_sizeOf_45 : decode cX0_sizeOf 45 = .ok (.ireturn, 1) := by decide +kernel
theorem dX0_sizeOf_46 : decode cX0_sizeOf 46 = .ok (.aload_n 0, 1) := by decide +kernel
theorem dX0_sizeOf_47 : decode cX0_sizeOf 47 = .ok (.iload_n 1, 1) := by decide +kernel
theorem dX0_sizeOf_48 : decode cX0_sizeOf 48 = .ok (.iload_n 2, 1) := by decide +kernel
theorem dX0_sizeOf_49 : decode cX0_sizeOf 49 = .ok (.invokevirtual 40, 3) := by decide +kernel
theorem dX0_sizeOf_52 : decode cX0_sizeOf 52 = .ok (.ireturn, 1) := by decide +kernel
theorem dX0_sizeOf_53 : decode cX0_sizeOf 53 = .ok (.aload_n 0, 1) := by decide +kernel
theorem dX0_sizeOf_54 : decode cX0_sizeOf 54 = .ok (.iload_n 1, 1) := by decide +kernel
theorem dX0_sizeOf_55 : decode cX0_sizeOf 55 = .ok (.invokevirtual 43, 3) := by decide +kernel
theorem dX0_sizeOf_58 : decode cX0_sizeOf 58 = .ok (.ireturn, 1) := by decide +kernel
theorem dX0_sizeOf_59 : decode cX0_sizeOf 59 = .ok (.aload_n 0, 1) := by decide +kernel
theorem dX0_sizeOf_60 : decode cX0_sizeOf 60 = .ok (.iload_n 1, 1) := by decide +kernel
theorem dX0_sizeOf_61 : decode cX0_sizeOf 61 = .ok (.invokevirtual 46, 3) := by decide +kernel
theorem dX0_sizeOf_64 : decode cX0_sizeOf 64 = .ok (.ireturn, 1) := by decide +kernel
set_option maxRecDepth 20000 in
theorem ggX0_sizeLent_X0_leave : GoodIn wsX0_sizeLent wsX0_leave := goodIn_r _ [6, 7, 8, 22, 23, 24] (by decide +kernel) (by decide +kernel)
set_option maxRecDepth 20000 in
theorem gX0_sizeLent_X0_leave : GoodIn wsX0_sizeLent (wsV RX0 49 RX0 yX0_leave wsX0_leave) := goodIn_app (goodIn_of _ (by decide +kernel)) ggX0_sizeLent_X0_leave
set_option maxRecDepth 20000 in
theorem ggX0_sizeLent_X1_degree : GoodIn wsX0_sizeLent wsX1_degree := goodIn_r _ [13, 14, 15, 16, 17, 18, 19, 20, 21, 25, 26] (by decide +kernel) (by decide +kernel)
set_option maxRecDepth 20000 in
theorem gX0_sizeLent_X1_degree : GoodIn wsX0_sizeLent (wsV RX0 53 RX1 yX1_degree wsX1_degree) := goodIn_app (goodIn_of _ (by decide +kernel)) ggX0_sizeLent_X1_degree
theorem dX0_sizeLent_0 : decode cX0_sizeLent 0 = .ok (.aload_n 0, 1) := by decide +kernel
theorem dX0_sizeLent_1 : decode cX0_sizeLent 1 = .ok (.bipush 10, 2) := by decide +kernel
theorem dX0_sizeLent_3 : decode cX0_sizeLent 3 = .ok (.invokevirtual 49, 3) := by decide +kernel
theorem dX0_sizeLent_6 : decode cX0_sizeLent 6 = .ok (.aload_n 0, 1) := by decide +kernel
theorem dX0_sizeLent_7 : decode cX0_sizeLent 7 = .ok (.getfield 15, 3) := by decide +kernel
theorem dX0_sizeLent_10 : decode cX0_sizeLent 10 = .ok (.iload_n 1, 1) := by decide +kernel
theorem dX0_sizeLent_11 : decode cX0_sizeLent 11 = .ok (.invokevirtual 53, 3) := by decide +kernel
theorem dX0_sizeLent_14 : decode cX0_sizeLent 14 = .ok (.ireturn, 1) := by decide +kernel
set_option maxRecDepth 20000 in
theorem ggX0_sizeOfLinked_X0_leave : GoodIn wsX0_sizeOfLinked wsX0_leave := goodIn_r _ [6, 7, 8, 35, 36, 37] (by decide +kernel) (by decide +kernel)
set_option maxRecDepth 20000 in
theorem gX0_sizeOfLinked_X0_leave : GoodIn wsX0_sizeOfLinked (wsV RX0 49 RX0 yX0_leave wsX0_leave) := goodIn_app (goodIn_of _ (by decide +kernel)) ggX0_sizeOfLinked_X0_leave
set_option maxRecDepth 20000 in
theorem ggX0_sizeOfLinked_X0_sizeLent : GoodIn wsX0_sizeOfLinked wsX0_sizeLent := goodIn_r _ [12, 1, 2, 3, 4, 5, 6, 7, 8, 13, 14, 15, 16, 17, 18, 19, 20, 21, 22, 23, 24, 25, 35, 36, 37, 38, 39] (by decide +kernel) (by decide +kernel)
set_option maxRecDepth 20000 in
theorem gX0_sizeOfLinked_X0_sizeLent : GoodIn wsX0_sizeOfLinked (wsV RX0 46 RX0 yX0_sizeLent wsX0_sizeLent) := goodIn_app (goodIn_of _ (by decide +kernel)) ggX0_sizeOfLinked_X0_sizeLent
set_option maxRecDepth 20000 in
theorem ggX0_sizeOfLinked_X1_width : GoodIn wsX0_sizeOfLinked wsX1_width := goodIn_r _ [29, 30, 31, 32, 33, 16, 34, 18, 38, 39] (by decide +kernel) (by decide +kernel)
set_option maxRecDepth 20000 in
theorem gX0_sizeOfLinked_X1_width : GoodIn wsX0_sizeOfLinked (wsV RX0 56 RX1 yX1_width wsX1_width) := goodIn_app (goodIn_of _ (by decide +kernel)) ggX0_sizeOfLinked_X1_width
theorem dX0_sizeOfLinked_0 : decode cX0_sizeOfLinked 0 = .ok (.aload_n 0, 1) := by decide +kernel
theorem dX0_sizeOfLinked_1 : decode cX0_sizeOfLinked 1 = .ok (.bipush 11, 2) := by decide +kernel
theorem dX0_sizeOfLinked_3 : decode cX0_sizeOfLinked 3 = .ok (.invokevirtual 49, 3) := by decide +kernel
theorem dX0_sizeOfLinked_6 : decode cX0_sizeOfLinked 6 = .ok (.aload_n 0, 1) := by decide +kernel
theorem dX0_sizeOfLinked_7 : decode cX0_sizeOfLinked 7 = .ok (.iload_n 1, 1) := by decide +kernel
theorem dX0_sizeOfLinked_8 : decode cX0_sizeOfLinked 8 = .ok (.invokevirtual 46, 3) := by decide +kernel
theorem dX0_sizeOfLinked_11 : decode cX0_sizeOfLinked 11 = .ok (.aload_n 0, 1) := by decide +kernel
theorem dX0_sizeOfLinked_12 : decode cX0_sizeOfLinked 12 = .ok (.getfield 15, 3) := by decide +kernel
theorem dX0_sizeOfLinked_15 : decode cX0_sizeOfLinked 15 = .ok (.iload_n 1, 1) := by decide +kernel
theorem dX0_sizeOfLinked_16 : decode cX0_sizeOfLinked 16 = .ok (.invokevirtual 56, 3) := by decide +kernel
theorem dX0_sizeOfLinked_19 : decode cX0_sizeOfLinked 19 = .ok (.iadd, 1) := by decide +kernel
theorem dX0_sizeOfLinked_20 : decode cX0_sizeOfLinked 20 = .ok (.ireturn, 1) := by decide +kernel
set_option maxRecDepth 20000 in
theorem ggX0_sizeOfLeaf_X0_leave : GoodIn wsX0_sizeOfLeaf wsX0_leave := goodIn_r _ [5, 6, 7, 39, 40, 41] (by decide +kernel) (by decide +kernel)
set_option maxRecDepth 20000 in
theorem gX0_sizeOfLeaf_X0_leave : GoodIn wsX0_sizeOfLeaf (wsV RX0 49 RX0 yX0_leave wsX0_leave) := goodIn_app (goodIn_of _ (by decide +kernel)) ggX0_sizeOfLeaf_X0_leave
set_option maxRecDepth 20000 in
theorem ggX0_sizeOfLeaf_X0_sizeOfLinked : GoodIn wsX0_sizeOfLeaf wsX0_sizeOfLinked := goodIn_r _ [11, 12, 1, 2, 3, 4, 5, 6, 7, 13, 14, 15, 16, 17, 18, 19, 20, 21, 22, 23, 24, 25, 26, 27, 28, 29, 30, 31, 32, 33, 34, 35, 36, 37, 38, 39, 40, 41, 42, 43] (by decide +kernel) (by decide +kernel)
set_option maxRecDepth 20000 in
theorem gX0_sizeOfLeaf_X0_sizeOfLinked : GoodIn wsX0_sizeOfLeaf (wsV RX0 43 RX0 yX0_sizeOfLinked wsX0_sizeOfLinked) := goodIn_app (goodIn_of _ (by decide +kernel)) ggX0_sizeOfLeaf_X0_sizeOfLinked
theorem dX0_sizeOfLeaf_0 : decode cX0_sizeOfLeaf 0 = .ok (.aload_n 0, 1) := by decide +kernel
theorem dX0_sizeOfLeaf_1 : decode cX0_sizeOfLeaf 1 = .ok (.bipush 12, 2) := by decide +kernel
theorem dX0_sizeOfLeaf_3 : decode cX0_sizeOfLeaf 3 = .ok (.invokevirtual 49, 3) := by decide +kernel
theorem dX0_sizeOfLeaf_6 : decode cX0_sizeOfLeaf 6 = .ok (.iconst 2, 1) := by decide +kernel
theorem dX0_sizeOfLeaf_7 : decode cX0_sizeOfLeaf 7 = .ok (.aload_n 0, 1) := by decide +kernel
theorem dX0_sizeOfLeaf_8 : decode cX0_sizeOfLeaf 8 = .ok (.iload_n 1, 1) := by decide +kernel
theorem dX0_sizeOfLeaf_9 : decode cX0_sizeOfLeaf 9 = .ok (.invokevirtual 43, 3) := by decide +kernel
theorem dX0_sizeOfLeaf_12 : decode cX0_sizeOfLeaf 12 = .ok (.imul, 1) := by decide +kernel
theorem dX0_sizeOfLeaf_13 : decode cX0_sizeOfLeaf 13 = .ok (.ireturn, 1) := by decide +kernel
set_option maxRecDepth 20000 in
theorem ggX0_sizeOfHub_X0_leave : GoodIn wsX0_sizeOfHub wsX0_leave := goodIn_r _ [5, 6, 7, 79, 80, 81] (by decide +kernel) (by decide +kernel)
set_option maxRecDepth 20000 in
theorem gX0_sizeOfHub_X0_leave : GoodIn wsX0_sizeOfHub (wsV RX0 49 RX0 yX0_leave wsX0_leave) := goodIn_app (goodIn_of _ (by decide +kernel)) ggX0_sizeOfHub_X0_leave
set_option maxRecDepth 20000 in
theorem ggX0_sizeOfHub_X0_sizeOfLinked : GoodIn wsX0_sizeOfHub wsX0_sizeOfLinked := goodIn_r _ [11, 12, 1, 2, 3, 4, 5, 6, 7, 13, 14, 15, 16, 17, 18, 19, 20, 21, 22, 23, 24, 25, 26, 27, 28, 29, 30, 31, 32, 33, 34, 35, 36, 37, 38, 79, 80, 81, 82, 83] (by decide +kernel) (by decide +kernel)
set_option maxRecDepth 20000 in
theorem gX0_sizeOfHub_X0_sizeOfLinked : GoodIn wsX0_sizeOfHub (wsV RX0 43 RX0 yX0_sizeOfLinked wsX0_sizeOfLinked) := goodIn_app (goodIn_of _ (by decide +kernel)) ggX0_sizeOfHub_X0_sizeOfLinked
set_option maxRecDepth 20000 in
theorem ggX0_sizeOfHub_X0_markOf : GoodIn wsX0_sizeOfHub wsX0_markOf := goodIn_r _ [42, 12, 43, 44, 45, 20, 46, 47, 18, 19, 21, 22, 23, 24, 25, 26, 27, 28, 29, 48, 49, 50, 51, 34, 52, 53, 54, 55, 56, 57, 58, 4, 59, 1, 2, 3, 5, 6, 7, 60, 61, 62, 63, 64, 65, 66, 67, 68, 69, 70, 71, 72, 73, 74, 75, 8, 9, 10, 11, 13, 14, 15, 16, 17, 30, 31, 32, 33, 35, 36, 37, 38, 76, 77, 78, 0, 39, 40, 41, 79, 80, 81, 82, 83] (by decide +kernel) (by decide +kernel)
set_option maxRecDepth 20000 in
theorem gX0_sizeOfHub_X0_markOf : GoodIn wsX0_sizeOfHub (wsV RX0 28 RX0 yX0_markOf wsX0_markOf) := goodIn_app (goodIn_of _ (by decide +kernel)) ggX0_sizeOfHub_X0_markOf
theorem dX0_sizeOfHub_0 : decode cX0_sizeOfHub 0 = .ok (.aload_n 0, 1) := by decide +kernel
theorem dX0_sizeOfHub_1 : decode cX0_sizeOfHub 1 = .ok (.bipush 13, 2) := by decide +kernel
theorem dX0_sizeOfHub_3 : decode cX0_sizeOfHub 3 = .ok (.invokevirtual 49, 3) := by decide +kernel
theorem dX0_sizeOfHub_6 : decode cX0_sizeOfHub 6 = .ok (.aload_n 0, 1) := by decide +kernel
theorem dX0_sizeOfHub_7 : decode cX0_sizeOfHub 7 = .ok (.iload_n 1, 1) := by decide +kernel
theorem dX0_sizeOfHub_8 : decode cX0_sizeOfHub 8 = .ok (.invokevirtual 43, 3) := by decide +kernel
theorem dX0_sizeOfHub_11 : decode cX0_sizeOfHub 11 = .ok (.istore_n 3, 1) := by decide +kernel
theorem dX0_sizeOfHub_12 : decode cX0_sizeOfHub 12 = .ok (.iload_n 3, 1) := by decide +kernel
theorem dX0_sizeOfHub_13 : decode cX0_sizeOfHub 13 = .ok (.aload_n 0, 1) := by decide +kernel
theorem dX0_sizeOfHub_14 : decode cX0_sizeOfHub 14 = .ok (.iload_n 1, 1) := by decide +kernel
theorem dX0_sizeOfHub_15 : decode cX0_sizeOfHub 15 = .ok (.iload_n 2, 1) := by decide +kernel
theorem dX0_sizeOfHub_16 : decode cX0_sizeOfHub 16 = .ok (.iconst 1, 1) := by decide +kernel
theorem dX0_sizeOfHub_17 : decode cX0_sizeOfHub 17 = .ok (.iadd, 1) := by decide +kernel
theorem dX0_sizeOfHub_18 : decode cX0_sizeOfHub 18 = .ok (.invokevirtual 28, 3) := by decide +kernel
theorem dX0_sizeOfHub_21 : decode cX0_sizeOfHub 21 = .ok (.iadd, 1) := by decide +kernel
theorem dX0_sizeOfHub_22 : decode cX0_sizeOfHub 22 = .ok (.ireturn, 1) := by decide +kernel
set_option maxRecDepth 20000 in
theorem ggX0_markOf_X1_kindOf : GoodIn wsX0_markOf wsX1_kindOf := goodIn_r _ [6, 7, 8, 9, 5, 10, 11, 12, 13, 14, 15, 16, 17, 18, 19, 20, 21, 22, 23, 24, 25, 26, 27, 82, 83] (by decide +kernel) (by decide +kernel)
set_option maxRecDepth 20000 in
theorem gX0_markOf_X1_kindOf : GoodIn wsX0_markOf (wsV RX0 31 RX1 yX1_kindOf wsX1_kindOf) := goodIn_app (goodIn_of _ (by decide +kernel)) ggX0_markOf_X1_kindOf
set_option maxRecDepth 20000 in
theorem ggX0_markOf_X0_markOfHub : GoodIn wsX0_markOf wsX0_markOfHub := goodIn_r _ [32, 33, 34, 35, 31, 36, 37, 38, 39, 40, 41, 42, 79, 80, 81] (by decide +kernel) (by decide +kernel)
set_option maxRecDepth 20000 in
theorem gX0_markOf_X0_markOfHub : GoodIn wsX0_markOf (wsV RX0 59 RX0 yX0_markOfHub wsX0_markOfHub) := goodIn_app (goodIn_of _ (by decide +kernel)) ggX0_markOf_X0_markOfHub
set_option maxRecDepth 20000 in
theorem ggX0_markOf_X0_markOfLone : GoodIn wsX0_markOf wsX0_markOfLone := goodIn_r _ [46, 33, 34, 35, 31, 36, 37, 38, 39, 40, 41, 42, 47, 48, 49, 0, 1, 2, 3, 4, 5, 6, 7, 8, 9, 10, 11, 12, 13, 14, 15, 16, 17, 18, 19, 20, 21, 22, 23, 24, 25, 26, 27, 28, 29, 30, 32, 43, 44, 45, 50, 51, 52, 53, 54, 55, 56, 57, 58, 59, 60, 61, 62, 63, 64, 65, 66, 67, 68, 69, 70, 71, 72, 73, 74, 75, 76, 77, 78, 79, 80, 81, 82, 83] (by decide +kernel) (by decide +kernel)
set_option maxRecDepth 20000 in
theorem gX0_markOf_X0_markOfLone : GoodIn wsX0_markOf (wsV RX0 62 RX0 yX0_markOfLone wsX0_markOfLone) := goodIn_app (goodIn_of _ (by decide +kernel)) ggX0_markOf_X0_markOfLone
set_option maxRecDepth 20000 in
theorem ggX0_markOf_X0_markLent : GoodIn wsX0_markOf wsX0_markLent := goodIn_r _ [42, 33, 34, 35, 31, 36, 37, 38, 79, 80, 81] (by decide +kernel) (by decide +kernel)
set_option maxRecDepth 20000 in
theorem gX0_markOf_X0_markLent : GoodIn wsX0_markOf (wsV RX0 65 RX0 yX0_markLent wsX0_markLent) := goodIn_app (goodIn_of _ (by decide +kernel)) ggX0_markOf_X0_markLent
theorem dX0_markOf_0 : decode cX0_markOf 0 = .ok (.iload_n 2, 1) := by decide +kernel
theorem dX0_markOf_1 : decode cX0_markOf 1 = .ok (.iconst 3, 1) := by decide +kernel
theorem dX0_markOf_2 : decode cX0_markOf 2 = .ok (.if_icmp .le 5, 3) := by decide +kernel
theorem dX0_markOf_5 : decode cX0_markOf 5 = .ok (.iconst 0, 1) := by decide +kernel
theorem dX0_markOf_6 : decode cX0_markOf 6 = .ok (.ireturn, 1) := by decide +kernel
theorem dX0_markOf_7 : decode cX0_markOf 7 = .ok (.aload_n 0, 1) := by decide +kernel
theorem dX0_markOf_8 : decode cX0_markOf 8 = .ok (.getfield 15, 3) := by decide +kernel
theorem dX0_markOf_11 : decode cX0_markOf 11 = .ok (.iload_n 1, 1) := by decide +kernel
theorem dX0_markOf_12 : decode cX0_markOf 12 = .ok (.invokevirtual 31, 3) := by decide +kernel
theorem dX0_markOf_15 : decode cX0_markOf 15 = .ok (.lookupswitch 38 #[(3, 25), (4, 31)], 25) := by decide +kernel
theorem dX0_markOf_40 : decode cX0_markOf 40 = .ok (.aload_n 0, 1) := by decide +kernel
theorem dX0_markOf_41 : decode cX0_markOf 41 = .ok (.iload_n 1, 1) := by decide +kernel
theorem dX0_markOf_42 : decode cX0_markOf 42 = .ok (.invokevirtual 59, 3) := by decide +kernel
theorem dX0_markOf_45 : decode cX0_markOf 45 = .ok (.ireturn, 1) := by decide +kernel
theorem dX0_markOf_46 : decode cX0_markOf 46 = .ok (.aload_n 0, 1) := by decide +kernel
theorem dX0_markOf_47 : decode cX0_markOf 47 = .ok (.iload_n 1, 1) := by decide +kernel
theorem dX0_markOf_48 : decode cX0_markOf 48 = .ok (.iload_n 2, 1) := by decide +kernel
theorem dX0_markOf_49 : decode cX0_markOf 49 = .ok (.invokevirtual 62, 3) := by decide +kernel
theorem dX0_markOf_52 : decode cX0_markOf 52 = .ok (.ireturn, 1) := by decide +kernel
theorem dX0_markOf_53 : decode cX0_markOf 53 = .ok (.aload_n 0, 1) := by decide +kernel
theorem dX0_markOf_54 : decode cX0_markOf 54 = .ok (.iload_n 1, 1) := by decide +kernel
theorem dX0_markOf_55 : decode cX0_markOf 55 = .ok (.invokevirtual 65, 3) := by decide +kernel
theorem dX0_markOf_58 : decode cX0_markOf 58 = .ok (.ireturn, 1) := by decide +kernel
set_option maxRecDepth 20000 in
theorem ggX0_markLent_X0_leave : GoodIn wsX0_markLent wsX0_leave := goodIn_r _ [5, 6, 7, 8, 9, 10] (by decide +kernel) (by decide +kernel)
set_option maxRecDepth 20000 in
theorem gX0_markLent_X0_leave : GoodIn wsX0_markLent (wsV RX0 49 RX0 yX0_leave wsX0_leave) := goodIn_app (goodIn_of _ (by decide +kernel)) ggX0_markLent_X0_leave
theorem dX0_markLent_0 : decode cX0_markLent 0 = .ok (.aload_n 0, 1) := by decide +kernel
theorem dX0_markLent_1 : decode cX0_markLent 1 = .ok (.bipush 20, 2) := by decide +kernel
theorem dX0_markLent_3 : decode cX0_markLent 3 = .ok (.invokevirtual 49, 3) := by decide +kernel
theorem dX0_markLent_6 : decode cX0_markLent 6 = .ok (.iload_n 1, 1) := by decide +kernel
theorem dX0_markLent_7 : decode cX0_markLent 7 = .ok (.ireturn, 1) := by decide +kernel
set_option maxRecDepth 20000 in
theorem ggX0_markOfHub_X0_leave : GoodIn wsX0_markOfHub wsX0_leave := goodIn_r _ [5, 6, 7, 12, 13, 14] (by decide +kernel) (by decide +kernel)
set_option maxRecDepth 20000 in
theorem gX0_markOfHub_X0_leave : GoodIn wsX0_markOfHub (wsV RX0 49 RX0 yX0_leave wsX0_leave) := goodIn_app (goodIn_of _ (by decide +kernel)) ggX0_markOfHub_X0_leave
set_option maxRecDepth 20000 in
theorem ggX0_markOfHub_X0_markLent : GoodIn wsX0_markOfHub wsX0_markLent := goodIn_r _ [11, 1, 2, 3, 4, 5, 6, 7, 12, 13, 14] (by decide +kernel) (by decide +kernel)
set_option maxRecDepth 20000 in
theorem gX0_markOfHub_X0_markLent : GoodIn wsX0_markOfHub (wsV RX0 65 RX0 yX0_markLent wsX0_markLent) := goodIn_app (goodIn_of _ (by decide +kernel)) ggX0_markOfHub_X0_markLent
theorem dX0_markOfHub_0 : decode cX0_markOfHub 0 = .ok (.aload_n 0, 1) := by decide +kernel
theorem dX0_markOfHub_1 : decode cX0_markOfHub 1 = .ok (.bipush 21, 2) := by decide +kernel
theorem dX0_markOfHub_3 : decode cX0_markOfHub 3 = .ok (.invokevirtual 49, 3) := by decide +kernel
theorem dX0_markOfHub_6 : decode cX0_markOfHub 6 = .ok (.aload_n 0, 1) := by decide +kernel
theorem dX0_markOfHub_7 : decode cX0_markOfHub 7 = .ok (.iload_n 1, 1) := by decide +kernel
theorem dX0_markOfHub_8 : decode cX0_markOfHub 8 = .ok (.invokevirtual 65, 3) := by decide +kernel
theorem dX0_markOfHub_11 : decode cX0_markOfHub 11 = .ok (.bipush 100, 2) := by decide +kernel
theorem dX0_markOfHub_13 : decode cX0_markOfHub 13 = .ok (.iadd, 1) := by decide +kernel
theorem dX0_markOfHub_14 : decode cX0_markOfHub 14 = .ok (.ireturn, 1) := by decide +kernel
set_option maxRecDepth 20000 in
theorem ggX0_markOfLone_X0_leave : GoodIn wsX0_markOfLone wsX0_leave := goodIn_r _ [5, 6, 7, 79, 80, 81] (by decide +kernel) (by decide +kernel)
set_option maxRecDepth 20000 in
theorem gX0_markOfLone_X0_leave : GoodIn wsX0_markOfLone (wsV RX0 49 RX0 yX0_leave wsX0_leave) := goodIn_app (goodIn_of _ (by decide +kernel)) ggX0_markOfLone_X0_leave
set_option maxRecDepth 20000 in
theorem ggX0_markOfLone_X0_markLent : GoodIn wsX0_markOfLone wsX0_markLent := goodIn_r _ [11, 1, 2, 3, 4, 5, 6, 7, 79, 80, 81] (by decide +kernel) (by decide +kernel)
set_option maxRecDepth 20000 in
theorem gX0_markOfLone_X0_markLent : GoodIn wsX0_markOfLone (wsV RX0 65 RX0 yX0_markLent wsX0_markLent) := goodIn_app (goodIn_of _ (by decide +kernel)) ggX0_markOfLone_X0_markLent
set_option maxRecDepth 20000 in
theorem ggX0_markOfLone_X0_sizeOf : GoodIn wsX0_markOfLone wsX0_sizeOf := goodIn_r _ [50, 16, 17, 18, 19, 20, 21, 22, 23, 24, 25, 26, 27, 28, 29, 30, 31, 32, 33, 34, 35, 36, 37, 38, 39, 40, 41, 42, 51, 52, 53, 4, 54, 1, 2, 3, 5, 6, 7, 55, 56, 57, 58, 59, 60, 61, 62, 63, 64, 65, 66, 67, 68, 69, 70, 71, 72, 73, 74, 15, 43, 44, 45, 46, 8, 9, 10, 11, 47, 48, 49, 0, 12, 13, 14, 75, 76, 77, 78, 79, 80, 81, 82, 83] (by decide +kernel) (by decide +kernel)
set_option maxRecDepth 20000 in
theorem gX0_markOfLone_X0_sizeOf : GoodIn wsX0_markOfLone (wsV RX0 24 RX0 yX0_sizeOf wsX0_sizeOf) := goodIn_app (goodIn_of _ (by decide +kernel)) ggX0_markOfLone_X0_sizeOf
theorem dX0_markOfLone_0 : decode cX0_markOfLone 0 = .ok (.aload_n 0, 1) := by decide +kernel
theorem dX0_markOfLone_1 : decode cX0_markOfLone 1 = .ok (.bipush 22, 2) := by decide +kernel
theorem dX0_markOfLone_3 : decode cX0_markOfLone 3 = .ok (.invokevirtual 49, 3) := by decide +kernel
theorem dX0_markOfLone_6 : decode cX0_markOfLone 6 = .ok (.aload_n 0, 1) := by decide +kernel
theorem dX0_markOfLone_7 : decode cX0_markOfLone 7 = .ok (.iload_n 1, 1) := by decide +kernel
theorem dX0_markOfLone_8 : decode cX0_markOfLone 8 = .ok (.invokevirtual 65, 3) := by decide +kernel
theorem dX0_markOfLone_11 : decode cX0_markOfLone 11 = .ok (.istore_n 3, 1) := by decide +kernel
theorem dX0_markOfLone_12 : decode cX0_markOfLone 12 = .ok (.iload_n 3, 1) := by decide +kernel
theorem dX0_markOfLone_13 : decode cX0_markOfLone 13 = .ok (.aload_n 0, 1) := by decide +kernel
theorem dX0_markOfLone_14 : decode cX0_markOfLone 14 = .ok (.iload_n 1, 1) := by decide +kernel
theorem dX0_markOfLone_15 : decode cX0_markOfLone 15 = .ok (.iload_n 2, 1) := by decide +kernel
theorem dX0_markOfLone_16 : decode cX0_markOfLone 16 = .ok (.iconst 1, 1) := by decide +kernel
theorem dX0_markOfLone_17 : decode cX0_markOfLone 17 = .ok (.iadd, 1) := by decide +kernel
theorem dX0_markOfLone_18 : decode cX0_markOfLone 18 = .ok (.invokevirtual 24, 3) := by decide +kernel
theorem dX0_markOfLone_21 : decode cX0_markOfLone 21 = .ok (.iadd, 1) := by decide +kernel
theorem dX0_markOfLone_22 : decode cX0_markOfLone 22 = .ok (.ireturn, 1) := by decide +kernel
theorem dX1_init_0 : decode cX1_init 0 = .ok (.aload_n 0, 1) := by decide +kernel
theorem dX1_init_1 : decode cX1_init 1 = .ok (.invokespecial 3, 3) := by decide +kernel
theorem dX1_init_4 : decode cX1_init 4 = .ok (.aload_n 0, 1) := by decide +kernel
theorem dX1_init_5 : decode cX1_init 5 = .ok (.bipush 8, 2) := by decide +kernel
theorem dX1_init_7 : decode cX1_init 7 = .ok (.newarray .int, 2) := by decide +kernel
theorem dX1_init_9 : decode cX1_init 9 = .ok (.putfield 9, 3) := by decide +kernel
theorem dX1_init_12 : decode cX1_init 12 = .ok (.return_, 1) := by decide +kernel
theorem dX1_size_0 : decode cX1_size 0 = .ok (.aload_n 0, 1) := by decide +kernel
theorem dX1_size_1 : decode cX1_size 1 = .ok (.getfield 15, 3) := by decide +kernel
theorem dX1_size_4 : decode cX1_size 4 = .ok (.ireturn, 1) := by decide +kernel
theorem dX1_isFull_0 : decode cX1_isFull 0 = .ok (.aload_n 0, 1) := by decide +kernel
theorem dX1_isFull_1 : decode cX1_isFull 1 = .ok (.getfield 15, 3) := by decide +kernel
theorem dX1_isFull_4 : decode cX1_isFull 4 = .ok (.bipush 8, 2) := by decide +kernel
theorem dX1_isFull_6 : decode cX1_isFull 6 = .ok (.if_icmp .lt 7, 3) := by decide +kernel
theorem dX1_isFull_9 : decode cX1_isFull 9 = .ok (.iconst 1, 1) := by decide +kernel
theorem dX1_isFull_10 : decode cX1_isFull 10 = .ok (.goto 4, 3) := by decide +kernel
theorem dX1_isFull_13 : decode cX1_isFull 13 = .ok (.iconst 0, 1) := by decide +kernel
theorem dX1_isFull_14 : decode cX1_isFull 14 = .ok (.ireturn, 1) := by decide +kernel
theorem dX1_add_0 : decode cX1_add 0 = .ok (.aload_n 0, 1) := by decide +kernel
theorem dX1_add_1 : decode cX1_add 1 = .ok (.dup, 1) := by decide +kernel
theorem dX1_add_2 : decode cX1_add 2 = .ok (.getfield 15, 3) := by decide +kernel
theorem dX1_add_5 : decode cX1_add 5 = .ok (.iconst 1, 1) := by decide +kernel
theorem dX1_add_6 : decode cX1_add 6 = .ok (.iadd, 1) := by decide +kernel
theorem dX1_add_7 : decode cX1_add 7 = .ok (.putfield 15, 3) := by decide +kernel
theorem dX1_add_10 : decode cX1_add 10 = .ok (.aload_n 0, 1) := by decide +kernel
theorem dX1_add_11 : decode cX1_add 11 = .ok (.getfield 15, 3) := by decide +kernel
theorem dX1_add_14 : decode cX1_add 14 = .ok (.iconst 1, 1) := by decide +kernel
theorem dX1_add_15 : decode cX1_add 15 = .ok (.isub, 1) := by decide +kernel
theorem dX1_add_16 : decode cX1_add 16 = .ok (.ireturn, 1) := by decide +kernel
theorem dX1_hasPost_0 : decode cX1_hasPost 0 = .ok (.iload_n 1, 1) := by decide +kernel
theorem dX1_hasPost_1 : decode cX1_hasPost 1 = .ok (.ifCond .lt 15, 3) := by decide +kernel
theorem dX1_hasPost_4 : decode cX1_hasPost 4 = .ok (.iload_n 1, 1) := by decide +kernel
theorem dX1_hasPost_5 : decode cX1_hasPost 5 = .ok (.aload_n 0, 1) := by decide +kernel
theorem dX1_hasPost_6 : decode cX1_hasPost 6 = .ok (.getfield 15, 3) := by decide +kernel
theorem dX1_hasPost_9 : decode cX1_hasPost 9 = .ok (.if_icmp .ge 7, 3) := by decide +kernel
theorem dX1_hasPost_12 : decode cX1_hasPost 12 = .ok (.iconst 1, 1) := by decide +kernel
theorem dX1_hasPost_13 : decode cX1_hasPost 13 = .ok (.goto 4, 3) := by decide +kernel
theorem dX1_hasPost_16 : decode cX1_hasPost 16 = .ok (.iconst 0, 1) := by decide +kernel
theorem dX1_hasPost_17 : decode cX1_hasPost 17 = .ok (.ireturn, 1) := by decide +kernel
theorem dX1_allPosts_0 : decode cX1_allPosts 0 = .ok (.iconst 1, 1) := by decide +kernel
theorem dX1_allPosts_1 : decode cX1_allPosts 1 = .ok (.aload_n 0, 1) := by decide +kernel
theorem dX1_allPosts_2 : decode cX1_allPosts 2 = .ok (.getfield 15, 3) := by decide +kernel
theorem dX1_allPosts_5 : decode cX1_allPosts 5 = .ok (.ishl, 1) := by decide +kernel
theorem dX1_allPosts_6 : decode cX1_allPosts 6 = .ok (.iconst 1, 1) := by decide +kernel
theorem dX1_allPosts_7 : decode cX1_allPosts 7 = .ok (.isub, 1) := by decide +kernel
theorem dX1_allPosts_8 : decode cX1_allPosts 8 = .ok (.ireturn, 1) := by decide +kernel
set_option maxRecDepth 20000 in
theorem ggX1_hasSet_X1_allPosts : GoodIn wsX1_hasSet wsX1_allPosts := goodIn_r _ [5, 6, 7, 8] (by decide +kernel) (by decide +kernel)
set_option maxRecDepth 20000 in
theorem gX1_hasSet_X1_allPosts : GoodIn wsX1_hasSet (wsV RX1 19 RX1 yX1_allPosts wsX1_allPosts) := goodIn_app (goodIn_of _ (by decide +kernel)) ggX1_hasSet_X1_allPosts
theorem dX1_hasSet_0 : decode cX1_hasSet 0 = .ok (.iload_n 1, 1) := by decide +kernel
theorem dX1_hasSet_1 : decode cX1_hasSet 1 = .ok (.aload_n 0, 1) := by decide +kernel
theorem dX1_hasSet_2 : decode cX1_hasSet 2 = .ok (.invokevirtual 19, 3) := by decide +kernel
theorem dX1_hasSet_5 : decode cX1_hasSet 5 = .ok (.iconst (-1), 1) := by decide +kernel
theorem dX1_hasSet_6 : decode cX1_hasSet 6 = .ok (.ixor, 1) := by decide +kernel
theorem dX1_hasSet_7 : decode cX1_hasSet 7 = .ok (.iand, 1) := by decide +kernel
theorem dX1_hasSet_8 : decode cX1_hasSet 8 = .ok (.ifCond .ne 7, 3) := by decide +kernel
theorem dX1_hasSet_11 : decode cX1_hasSet 11 = .ok (.iconst 1, 1) := by decide +kernel
theorem dX1_hasSet_12 : decode cX1_hasSet 12 = .ok (.goto 4, 3) := by decide +kernel
theorem dX1_hasSet_15 : decode cX1_hasSet 15 = .ok (.iconst 0, 1) := by decide +kernel
theorem dX1_hasSet_16 : decode cX1_hasSet 16 = .ok (.ireturn, 1) := by decide +kernel
theorem dX1_isLinked_0 : decode cX1_isLinked 0 = .ok (.aload_n 0, 1) := by decide +kernel
theorem dX1_isLinked_1 : decode cX1_isLinked 1 = .ok (.getfield 9, 3) := by decide +kernel
theorem dX1_isLinked_4 : decode cX1_isLinked 4 = .ok (.iload_n 1, 1) := by decide +kernel
theorem dX1_isLinked_5 : decode cX1_isLinked 5 = .ok (.iaload, 1) := by decide +kernel
theorem dX1_isLinked_6 : decode cX1_isLinked 6 = .ok (.iload_n 2, 1) := by decide +kernel
theorem dX1_isLinked_7 : decode cX1_isLinked 7 = .ok (.ishr, 1) := by decide +kernel
theorem dX1_isLinked_8 : decode cX1_isLinked 8 = .ok (.iconst 1, 1) := by decide +kernel
theorem dX1_isLinked_9 : decode cX1_isLinked 9 = .ok (.iand, 1) := by decide +kernel
theorem dX1_isLinked_10 : decode cX1_isLinked 10 = .ok (.iconst 1, 1) := by decide +kernel
theorem dX1_isLinked_11 : decode cX1_isLinked 11 = .ok (.if_icmp .ne 7, 3) := by decide +kernel
theorem dX1_isLinked_14 : decode cX1_isLinked 14 = .ok (.iconst 1, 1) := by decide +kernel
theorem dX1_isLinked_15 : decode cX1_isLinked 15 = .ok (.goto 4, 3) := by decide +kernel
theorem dX1_isLinked_18 : decode cX1_isLinked 18 = .ok (.iconst 0, 1) := by decide +kernel
theorem dX1_isLinked_19 : decode cX1_isLinked 19 = .ok (.ireturn, 1) := by decide +kernel
theorem dX1_toggle_0 : decode cX1_toggle 0 = .ok (.aload_n 0, 1) := by decide +kernel
theorem dX1_toggle_1 : decode cX1_toggle 1 = .ok (.getfield 9, 3) := by decide +kernel
theorem dX1_toggle_4 : decode cX1_toggle 4 = .ok (.iload_n 1, 1) := by decide +kernel
theorem dX1_toggle_5 : decode cX1_toggle 5 = .ok (.dup2, 1) := by decide +kernel
theorem dX1_toggle_6 : decode cX1_toggle 6 = .ok (.iaload, 1) := by decide +kernel
theorem dX1_toggle_7 : decode cX1_toggle 7 = .ok (.iconst 1, 1) := by decide +kernel
theorem dX1_toggle_8 : decode cX1_toggle 8 = .ok (.iload_n 2, 1) := by decide +kernel
theorem dX1_toggle_9 : decode cX1_toggle 9 = .ok (.ishl, 1) := by decide +kernel
theorem dX1_toggle_10 : decode cX1_toggle 10 = .ok (.ixor, 1) := by decide +kernel
theorem dX1_toggle_11 : decode cX1_toggle 11 = .ok (.iastore, 1) := by decide +kernel
theorem dX1_toggle_12 : decode cX1_toggle 12 = .ok (.aload_n 0, 1) := by decide +kernel
theorem dX1_toggle_13 : decode cX1_toggle 13 = .ok (.getfield 9, 3) := by decide +kernel
theorem dX1_toggle_16 : decode cX1_toggle 16 = .ok (.iload_n 2, 1) := by decide +kernel
theorem dX1_toggle_17 : decode cX1_toggle 17 = .ok (.dup2, 1) := by decide +kernel
theorem dX1_toggle_18 : decode cX1_toggle 18 = .ok (.iaload, 1) := by decide +kernel
theorem dX1_toggle_19 : decode cX1_toggle 19 = .ok (.iconst 1, 1) := by decide +kernel
theorem dX1_toggle_20 : decode cX1_toggle 20 = .ok (.iload_n 1, 1) := by decide +kernel
theorem dX1_toggle_21 : decode cX1_toggle 21 = .ok (.ishl, 1) := by decide +kernel
theorem dX1_toggle_22 : decode cX1_toggle 22 = .ok (.ixor, 1) := by decide +kernel
theorem dX1_toggle_23 : decode cX1_toggle 23 = .ok (.iastore, 1) := by decide +kernel
theorem dX1_toggle_24 : decode cX1_toggle 24 = .ok (.iconst 1, 1) := by decide +kernel
theorem dX1_toggle_25 : decode cX1_toggle 25 = .ok (.ireturn, 1) := by decide +kernel
theorem dX1_neighboursOf_0 : decode cX1_neighboursOf 0 = .ok (.aload_n 0, 1) := by decide +kernel
theorem dX1_neighboursOf_1 : decode cX1_neighboursOf 1 = .ok (.getfield 9, 3) := by decide +kernel
theorem dX1_neighboursOf_4 : decode cX1_neighboursOf 4 = .ok (.iload_n 1, 1) := by decide +kernel
theorem dX1_neighboursOf_5 : decode cX1_neighboursOf 5 = .ok (.iaload, 1) := by decide +kernel
theorem dX1_neighboursOf_6 : decode cX1_neighboursOf 6 = .ok (.ireturn, 1) := by decide +kernel
set_option maxRecDepth 20000 in
theorem ggX1_degree_J6_bitCount_0f7a4 : GoodIn wsX1_degree wsJ6_bitCount_0f7a4 := goodIn_r _ [5, 6, 7, 8] (by decide +kernel) (by decide +kernel)
set_option maxRecDepth 20000 in
theorem gX1_degree_J6_bitCount_0f7a4 : GoodIn wsX1_degree (va_wsS RX1 23 yJ6_bitCount_0f7a4 wsJ6_bitCount_0f7a4) := goodIn_app (goodIn_of _ (by decide +kernel)) ggX1_degree_J6_bitCount_0f7a4
theorem dX1_degree_0 : decode cX1_degree 0 = .ok (.aload_n 0, 1) := by decide +kernel
theorem dX1_degree_1 : decode cX1_degree 1 = .ok (.getfield 9, 3) := by decide +kernel
theorem dX1_degree_4 : decode cX1_degree 4 = .ok (.iload_n 1, 1) := by decide +kernel
theorem dX1_degree_5 : decode cX1_degree 5 = .ok (.iaload, 1) := by decide +kernel
theorem dX1_degree_6 : decode cX1_degree 6 = .ok (.invokestatic 23, 3) := by decide +kernel
theorem dX1_degree_9 : decode cX1_degree 9 = .ok (.ireturn, 1) := by decide +kernel
set_option maxRecDepth 20000 in
theorem ggX1_pairs_X1_degree : GoodIn wsX1_pairs wsX1_degree := goodIn_r _ [6, 7, 8, 9, 10, 11, 12, 13, 14, 15, 16] (by decide +kernel) (by decide +kernel)
set_option maxRecDepth 20000 in
theorem gX1_pairs_X1_degree : GoodIn wsX1_pairs (wsV RX1 29 RX1 yX1_degree wsX1_degree) := goodIn_app (goodIn_of _ (by decide +kernel)) ggX1_pairs_X1_degree
theorem dX1_pairs_0 : decode cX1_pairs 0 = .ok (.iconst 0, 1) := by decide +kernel
theorem dX1_pairs_1 : decode cX1_pairs 1 = .ok (.istore_n 1, 1) := by decide +kernel
theorem dX1_pairs_2 : decode cX1_pairs 2 = .ok (.iconst 0, 1) := by decide +kernel
theorem dX1_pairs_3 : decode cX1_pairs 3 = .ok (.istore_n 2, 1) := by decide +kernel
theorem dX1_pairs_4 : decode cX1_pairs 4 = .ok (.iload_n 2, 1) := by decide +kernel
theorem dX1_pairs_5 : decode cX1_pairs 5 = .ok (.aload_n 0, 1) := by decide +kernel
theorem dX1_pairs_6 : decode cX1_pairs 6 = .ok (.getfield 15, 3) := by decide +kernel
theorem dX1_pairs_9 : decode cX1_pairs 9 = .ok (.if_icmp .ge 17, 3) := by decide +kernel
theorem dX1_pairs_12 : decode cX1_pairs 12 = .ok (.iload_n 1, 1) := by decide +kernel
theorem dX1_pairs_13 : decode cX1_pairs 13 = .ok (.aload_n 0, 1) := by decide +kernel
theorem dX1_pairs_14 : decode cX1_pairs 14 = .ok (.iload_n 2, 1) := by decide +kernel
theorem dX1_pairs_15 : decode cX1_pairs 15 = .ok (.invokevirtual 29, 3) := by decide +kernel
theorem dX1_pairs_18 : decode cX1_pairs 18 = .ok (.iadd, 1) := by decide +kernel
theorem dX1_pairs_19 : decode cX1_pairs 19 = .ok (.istore_n 1, 1) := by decide +kernel
theorem dX1_pairs_20 : decode cX1_pairs 20 = .ok (.iinc 2 1, 3) := by decide +kernel
theorem dX1_pairs_23 : decode cX1_pairs 23 = .ok (.goto (-19), 3) := by decide +kernel
theorem dX1_pairs_26 : decode cX1_pairs 26 = .ok (.iload_n 1, 1) := by decide +kernel
theorem dX1_pairs_27 : decode cX1_pairs 27 = .ok (.iconst 2, 1) := by decide +kernel
theorem dX1_pairs_28 : decode cX1_pairs 28 = .ok (.idiv, 1) := by decide +kernel
theorem dX1_pairs_29 : decode cX1_pairs 29 = .ok (.ireturn, 1) := by decide +kernel
theorem dX1_oneStepFrom_0 : decode cX1_oneStepFrom 0 = .ok (.iload_n 1, 1) := by decide +kernel
theorem dX1_oneStepFrom_1 : decode cX1_oneStepFrom 1 = .ok (.istore_n 2, 1) := by decide +kernel
theorem dX1_oneStepFrom_2 : decode cX1_oneStepFrom 2 = .ok (.iconst 0, 1) := by decide +kernel
theorem dX1_oneStepFrom_3 : decode cX1_oneStepFrom 3 = .ok (.istore_n 3, 1) := by decide +kernel
theorem dX1_oneStepFrom_4 : decode cX1_oneStepFrom 4 = .ok (.iload_n 3, 1) := by decide +kernel
theorem dX1_oneStepFrom_5 : decode cX1_oneStepFrom 5 = .ok (.aload_n 0, 1) := by decide +kernel
theorem dX1_oneStepFrom_6 : decode cX1_oneStepFrom 6 = .ok (.getfield 15, 3) := by decide +kernel
theorem dX1_oneStepFrom_9 : decode cX1_oneStepFrom 9 = .ok (.if_icmp .ge 27, 3) := by decide +kernel
theorem dX1_oneStepFrom_12 : decode cX1_oneStepFrom 12 = .ok (.iload_n 1, 1) := by decide +kernel
theorem dX1_oneStepFrom_13 : decode cX1_oneStepFrom 13 = .ok (.iload_n 3, 1) := by decide +kernel
theorem dX1_oneStepFrom_14 : decode cX1_oneStepFrom 14 = .ok (.ishr, 1) := by decide +kernel
theorem dX1_oneStepFrom_15 : decode cX1_oneStepFrom 15 = .ok (.iconst 1, 1) := by decide +kernel
theorem dX1_oneStepFrom_16 : decode cX1_oneStepFrom 16 = .ok (.iand, 1) := by decide +kernel
theorem dX1_oneStepFrom_17 : decode cX1_oneStepFrom 17 = .ok (.iconst 1, 1) := by decide +kernel
theorem dX1_oneStepFrom_18 : decode cX1_oneStepFrom 18 = .ok (.if_icmp .ne 12, 3) := by decide +kernel
theorem dX1_oneStepFrom_21 : decode cX1_oneStepFrom 21 = .ok (.iload_n 2, 1) := by decide +kernel
theorem dX1_oneStepFrom_22 : decode cX1_oneStepFrom 22 = .ok (.aload_n 0, 1) := by decide +kernel
theorem dX1_oneStepFrom_23 : decode cX1_oneStepFrom 23 = .ok (.getfield 9, 3) := by decide +kernel
theorem dX1_oneStepFrom_26 : decode cX1_oneStepFrom 26 = .ok (.iload_n 3, 1) := by decide +kernel
theorem dX1_oneStepFrom_27 : decode cX1_oneStepFrom 27 = .ok (.iaload, 1) := by decide +kernel
theorem dX1_oneStepFrom_28 : decode cX1_oneStepFrom 28 = .ok (.ior, 1) := by decide +kernel
theorem dX1_oneStepFrom_29 : decode cX1_oneStepFrom 29 = .ok (.istore_n 2, 1) := by decide +kernel
theorem dX1_oneStepFrom_30 : decode cX1_oneStepFrom 30 = .ok (.iinc 3 1, 3) := by decide +kernel
theorem dX1_oneStepFrom_33 : decode cX1_oneStepFrom 33 = .ok (.goto (-29), 3) := by decide +kernel
theorem dX1_oneStepFrom_36 : decode cX1_oneStepFrom 36 = .ok (.iload_n 2, 1) := by decide +kernel
theorem dX1_oneStepFrom_37 : decode cX1_oneStepFrom 37 = .ok (.ireturn, 1) := by decide +kernel
set_option maxRecDepth 20000 in
theorem ggX1_reachOf_X1_oneStepFrom : GoodIn wsX1_reachOf wsX1_oneStepFrom := goodIn_r _ [6, 1, 7, 8, 9] (by decide +kernel) (by decide +kernel)
set_option maxRecDepth 20000 in
theorem gX1_reachOf_X1_oneStepFrom : GoodIn wsX1_reachOf (wsV RX1 32 RX1 yX1_oneStepFrom wsX1_oneStepFrom) := goodIn_app (goodIn_of _ (by decide +kernel)) ggX1_reachOf_X1_oneStepFrom
theorem dX1_reachOf_0 : decode cX1_reachOf 0 = .ok (.iload_n 1, 1) := by decide +kernel
theorem dX1_reachOf_1 : decode cX1_reachOf 1 = .ok (.istore_n 2, 1) := by decide +kernel
theorem dX1_reachOf_2 : decode cX1_reachOf 2 = .ok (.iconst 1, 1) := by decide +kernel
theorem dX1_reachOf_3 : decode cX1_reachOf 3 = .ok (.istore_n 3, 1) := by decide +kernel
theorem dX1_reachOf_4 : decode cX1_reachOf 4 = .ok (.iload_n 3, 1) := by decide +kernel
theorem dX1_reachOf_5 : decode cX1_reachOf 5 = .ok (.aload_n 0, 1) := by decide +kernel
theorem dX1_reachOf_6 : decode cX1_reachOf 6 = .ok (.getfield 15, 3) := by decide +kernel
theorem dX1_reachOf_9 : decode cX1_reachOf 9 = .ok (.if_icmp .ge 15, 3) := by decide +kernel
theorem dX1_reachOf_12 : decode cX1_reachOf 12 = .ok (.aload_n 0, 1) := by decide +kernel
theorem dX1_reachOf_13 : decode cX1_reachOf 13 = .ok (.iload_n 2, 1) := by decide +kernel
theorem dX1_reachOf_14 : decode cX1_reachOf 14 = .ok (.invokevirtual 32, 3) := by decide +kernel
theorem dX1_reachOf_17 : decode cX1_reachOf 17 = .ok (.istore_n 2, 1) := by decide +kernel
theorem dX1_reachOf_18 : decode cX1_reachOf 18 = .ok (.iinc 3 1, 3) := by decide +kernel
theorem dX1_reachOf_21 : decode cX1_reachOf 21 = .ok (.goto (-17), 3) := by decide +kernel
theorem dX1_reachOf_24 : decode cX1_reachOf 24 = .ok (.iload_n 2, 1) := by decide +kernel
theorem dX1_reachOf_25 : decode cX1_reachOf 25 = .ok (.ireturn, 1) := by decide +kernel
set_option maxRecDepth 20000 in
theorem ggX1_stepsBetween_X1_oneStepFrom : GoodIn wsX1_stepsBetween wsX1_oneStepFrom := goodIn_r _ [7, 1, 8, 9, 10] (by decide +kernel) (by decide +kernel)
set_option maxRecDepth 20000 in
theorem gX1_stepsBetween_X1_oneStepFrom : GoodIn wsX1_stepsBetween (wsV RX1 32 RX1 yX1_oneStepFrom wsX1_oneStepFrom) := goodIn_app (goodIn_of _ (by decide +kernel)) ggX1_stepsBetween_X1_oneStepFrom
theorem dX1_stepsBetween_0 : decode cX1_stepsBetween 0 = .ok (.iconst 1, 1) := by decide +kernel
theorem dX1_stepsBetween_1 : decode cX1_stepsBetween 1 = .ok (.iload_n 1, 1) := by decide +kernel
theorem dX1_stepsBetween_2 : decode cX1_stepsBetween 2 = .ok (.ishl, 1) := by decide +kernel
theorem dX1_stepsBetween_3 : decode cX1_stepsBetween 3 = .ok (.istore_n 3, 1) := by decide +kernel
theorem dX1_stepsBetween_4 : decode cX1_stepsBetween 4 = .ok (.iconst 0, 1) := by decide +kernel
theorem dX1_stepsBetween_5 : decode cX1_stepsBetween 5 = .ok (.istore 4, 2) := by decide +kernel
theorem dX1_stepsBetween_7 : decode cX1_stepsBetween 7 = .ok (.iload 4, 2) := by decide +kernel
theorem dX1_stepsBetween_9 : decode cX1_stepsBetween 9 = .ok (.aload_n 0, 1) := by decide +kernel
theorem dX1_stepsBetween_10 : decode cX1_stepsBetween 10 = .ok (.getfield 15, 3) := by decide +kernel
theorem dX1_stepsBetween_13 : decode cX1_stepsBetween 13 = .ok (.if_icmp .ge 27, 3) := by decide +kernel
theorem dX1_stepsBetween_16 : decode cX1_stepsBetween 16 = .ok (.iload_n 3, 1) := by decide +kernel
theorem dX1_stepsBetween_17 : decode cX1_stepsBetween 17 = .ok (.iload_n 2, 1) := by decide +kernel
theorem dX1_stepsBetween_18 : decode cX1_stepsBetween 18 = .ok (.ishr, 1) := by decide +kernel
theorem dX1_stepsBetween_19 : decode cX1_stepsBetween 19 = .ok (.iconst 1, 1) := by decide +kernel
theorem dX1_stepsBetween_20 : decode cX1_stepsBetween 20 = .ok (.iand, 1) := by decide +kernel
theorem dX1_stepsBetween_21 : decode cX1_stepsBetween 21 = .ok (.iconst 1, 1) := by decide +kernel
theorem dX1_stepsBetween_22 : decode cX1_stepsBetween 22 = .ok (.if_icmp .ne 6, 3) := by decide +kernel
theorem dX1_stepsBetween_25 : decode cX1_stepsBetween 25 = .ok (.iload 4, 2) := by decide +kernel
theorem dX1_stepsBetween_27 : decode cX1_stepsBetween 27 = .ok (.ireturn, 1) := by decide +kernel
theorem dX1_stepsBetween_28 : decode cX1_stepsBetween 28 = .ok (.aload_n 0, 1) := by decide +kernel
theorem dX1_stepsBetween_29 : decode cX1_stepsBetween 29 = .ok (.iload_n 3, 1) := by decide +kernel
theorem dX1_stepsBetween_30 : decode cX1_stepsBetween 30 = .ok (.invokevirtual 32, 3) := by decide +kernel
theorem dX1_stepsBetween_33 : decode cX1_stepsBetween 33 = .ok (.istore_n 3, 1) := by decide +kernel
theorem dX1_stepsBetween_34 : decode cX1_stepsBetween 34 = .ok (.iinc 4 1, 3) := by decide +kernel
theorem dX1_stepsBetween_37 : decode cX1_stepsBetween 37 = .ok (.goto (-30), 3) := by decide +kernel
theorem dX1_stepsBetween_40 : decode cX1_stepsBetween 40 = .ok (.ldc 35, 2) := by decide +kernel
theorem dX1_stepsBetween_42 : decode cX1_stepsBetween 42 = .ok (.ireturn, 1) := by decide +kernel
set_option maxRecDepth 20000 in
theorem ggX1_width_X1_oneStepFrom : GoodIn wsX1_width wsX1_oneStepFrom := goodIn_r _ [6, 1, 7, 8, 9] (by decide +kernel) (by decide +kernel)
set_option maxRecDepth 20000 in
theorem gX1_width_X1_oneStepFrom : GoodIn wsX1_width (wsV RX1 32 RX1 yX1_oneStepFrom wsX1_oneStepFrom) := goodIn_app (goodIn_of _ (by decide +kernel)) ggX1_width_X1_oneStepFrom
theorem dX1_width_0 : decode cX1_width 0 = .ok (.iconst 1, 1) := by decide +kernel
theorem dX1_width_1 : decode cX1_width 1 = .ok (.iload_n 1, 1) := by decide +kernel
theorem dX1_width_2 : decode cX1_width 2 = .ok (.ishl, 1) := by decide +kernel
theorem dX1_width_3 : decode cX1_width 3 = .ok (.istore_n 2, 1) := by decide +kernel
theorem dX1_width_4 : decode cX1_width 4 = .ok (.iconst 0, 1) := by decide +kernel
theorem dX1_width_5 : decode cX1_width 5 = .ok (.istore_n 3, 1) := by decide +kernel
theorem dX1_width_6 : decode cX1_width 6 = .ok (.iconst 1, 1) := by decide +kernel
theorem dX1_width_7 : decode cX1_width 7 = .ok (.istore 4, 2) := by decide +kernel
theorem dX1_width_9 : decode cX1_width 9 = .ok (.iload 4, 2) := by decide +kernel
theorem dX1_width_11 : decode cX1_width 11 = .ok (.aload_n 0, 1) := by decide +kernel
theorem dX1_width_12 : decode cX1_width 12 = .ok (.getfield 15, 3) := by decide +kernel
theorem dX1_width_15 : decode cX1_width 15 = .ok (.if_icmp .ge 32, 3) := by decide +kernel
theorem dX1_width_18 : decode cX1_width 18 = .ok (.aload_n 0, 1) := by decide +kernel
theorem dX1_width_19 : decode cX1_width 19 = .ok (.iload_n 2, 1) := by decide +kernel
theorem dX1_width_20 : decode cX1_width 20 = .ok (.invokevirtual 32, 3) := by decide +kernel
theorem dX1_width_23 : decode cX1_width 23 = .ok (.istore 5, 2) := by decide +kernel
theorem dX1_width_25 : decode cX1_width 25 = .ok (.iload 5, 2) := by decide +kernel
theorem dX1_width_27 : decode cX1_width 27 = .ok (.iload_n 2, 1) := by decide +kernel
theorem dX1_width_28 : decode cX1_width 28 = .ok (.if_icmp .ne 7, 3) := by decide +kernel
theorem dX1_width_31 : decode cX1_width 31 = .ok (.iload_n 3, 1) := by decide +kernel
theorem dX1_width_32 : decode cX1_width 32 = .ok (.goto 5, 3) := by decide +kernel
theorem dX1_width_35 : decode cX1_width 35 = .ok (.iload 4, 2) := by decide +kernel
theorem dX1_width_37 : decode cX1_width 37 = .ok (.istore_n 3, 1) := by decide +kernel
theorem dX1_width_38 : decode cX1_width 38 = .ok (.iload 5, 2) := by decide +kernel
theorem dX1_width_40 : decode cX1_width 40 = .ok (.istore_n 2, 1) := by decide +kernel
theorem dX1_width_41 : decode cX1_width 41 = .ok (.iinc 4 1, 3) := by decide +kernel
theorem dX1_width_44 : decode cX1_width 44 = .ok (.goto (-35), 3) := by decide +kernel
theorem dX1_width_47 : decode cX1_width 47 = .ok (.iload_n 3, 1) := by decide +kernel
theorem dX1_width_48 : decode cX1_width 48 = .ok (.ireturn, 1) := by decide +kernel
theorem dX1_heardBy_0 : decode cX1_heardBy 0 = .ok (.iconst 0, 1) := by decide +kernel
theorem dX1_heardBy_1 : decode cX1_heardBy 1 = .ok (.istore_n 3, 1) := by decide +kernel
theorem dX1_heardBy_2 : decode cX1_heardBy 2 = .ok (.iconst 0, 1) := by decide +kernel
theorem dX1_heardBy_3 : decode cX1_heardBy 3 = .ok (.istore 4, 2) := by decide +kernel
theorem dX1_heardBy_5 : decode cX1_heardBy 5 = .ok (.iconst 0, 1) := by decide +kernel
theorem dX1_heardBy_6 : decode cX1_heardBy 6 = .ok (.istore 5, 2) := by decide +kernel
theorem dX1_heardBy_8 : decode cX1_heardBy 8 = .ok (.iload 5, 2) := by decide +kernel
theorem dX1_heardBy_10 : decode cX1_heardBy 10 = .ok (.aload_n 0, 1) := by decide +kernel
theorem dX1_heardBy_11 : decode cX1_heardBy 11 = .ok (.getfield 15, 3) := by decide +kernel
theorem dX1_heardBy_14 : decode cX1_heardBy 14 = .ok (.if_icmp .ge 43, 3) := by decide +kernel
theorem dX1_heardBy_17 : decode cX1_heardBy 17 = .ok (.iload_n 2, 1) := by decide +kernel
theorem dX1_heardBy_18 : decode cX1_heardBy 18 = .ok (.iload 5, 2) := by decide +kernel
theorem dX1_heardBy_20 : decode cX1_heardBy 20 = .ok (.ishr, 1) := by decide +kernel
theorem dX1_heardBy_21 : decode cX1_heardBy 21 = .ok (.iconst 1, 1) := by decide +kernel
theorem dX1_heardBy_22 : decode cX1_heardBy 22 = .ok (.iand, 1) := by decide +kernel
theorem dX1_heardBy_23 : decode cX1_heardBy 23 = .ok (.iconst 1, 1) := by decide +kernel
theorem dX1_heardBy_24 : decode cX1_heardBy 24 = .ok (.if_icmp .ne 27, 3) := by decide +kernel
theorem dX1_heardBy_27 : decode cX1_heardBy 27 = .ok (.iload 4, 2) := by decide +kernel
theorem dX1_heardBy_29 : decode cX1_heardBy 29 = .ok (.iload_n 3, 1) := by decide +kernel
theorem dX1_heardBy_30 : decode cX1_heardBy 30 = .ok (.aload_n 0, 1) := by decide +kernel
theorem dX1_heardBy_31 : decode cX1_heardBy 31 = .ok (.getfield 9, 3) := by decide +kernel
theorem dX1_heardBy_34 : decode cX1_heardBy 34 = .ok (.iload 5, 2) := by decide +kernel
theorem dX1_heardBy_36 : decode cX1_heardBy 36 = .ok (.iaload, 1) := by decide +kernel
theorem dX1_heardBy_37 : decode cX1_heardBy 37 = .ok (.iand, 1) := by decide +kernel
theorem dX1_heardBy_38 : decode cX1_heardBy 38 = .ok (.ior, 1) := by decide +kernel
theorem dX1_heardBy_39 : decode cX1_heardBy 39 = .ok (.istore 4, 2) := by decide +kernel
theorem dX1_heardBy_41 : decode cX1_heardBy 41 = .ok (.iload_n 3, 1) := by decide +kernel
theorem dX1_heardBy_42 : decode cX1_heardBy 42 = .ok (.aload_n 0, 1) := by decide +kernel
theorem dX1_heardBy_43 : decode cX1_heardBy 43 = .ok (.getfield 9, 3) := by decide +kernel
theorem dX1_heardBy_46 : decode cX1_heardBy 46 = .ok (.iload 5, 2) := by decide +kernel
theorem dX1_heardBy_48 : decode cX1_heardBy 48 = .ok (.iaload, 1) := by decide +kernel
theorem dX1_heardBy_49 : decode cX1_heardBy 49 = .ok (.ior, 1) := by decide +kernel
theorem dX1_heardBy_50 : decode cX1_heardBy 50 = .ok (.istore_n 3, 1) := by decide +kernel
theorem dX1_heardBy_51 : decode cX1_heardBy 51 = .ok (.iinc 5 1, 3) := by decide +kernel
theorem dX1_heardBy_54 : decode cX1_heardBy 54 = .ok (.goto (-46), 3) := by decide +kernel
theorem dX1_heardBy_57 : decode cX1_heardBy 57 = .ok (.iload_n 1, 1) := by decide +kernel
theorem dX1_heardBy_58 : decode cX1_heardBy 58 = .ok (.iconst 1, 1) := by decide +kernel
theorem dX1_heardBy_59 : decode cX1_heardBy 59 = .ok (.if_icmp .ne 12, 3) := by decide +kernel
theorem dX1_heardBy_62 : decode cX1_heardBy 62 = .ok (.iload_n 3, 1) := by decide +kernel
theorem dX1_heardBy_63 : decode cX1_heardBy 63 = .ok (.iload 4, 2) := by decide +kernel
theorem dX1_heardBy_65 : decode cX1_heardBy 65 = .ok (.iconst (-1), 1) := by decide +kernel
theorem dX1_heardBy_66 : decode cX1_heardBy 66 = .ok (.ixor, 1) := by decide +kernel
theorem dX1_heardBy_67 : decode cX1_heardBy 67 = .ok (.iand, 1) := by decide +kernel
theorem dX1_heardBy_68 : decode cX1_heardBy 68 = .ok (.goto 4, 3) := by decide +kernel
theorem dX1_heardBy_71 : decode cX1_heardBy 71 = .ok (.iload_n 3, 1) := by decide +kernel
theorem dX1_heardBy_72 : decode cX1_heardBy 72 = .ok (.istore 5, 2) := by decide +kernel
theorem dX1_heardBy_74 : decode cX1_heardBy 74 = .ok (.iload 5, 2) := by decide +kernel
theorem dX1_heardBy_76 : decode cX1_heardBy 76 = .ok (.iload_n 2, 1) := by decide +kernel
theorem dX1_heardBy_77 : decode cX1_heardBy 77 = .ok (.iconst (-1), 1) := by decide +kernel
theorem dX1_heardBy_78 : decode cX1_heardBy 78 = .ok (.ixor, 1) := by decide +kernel
theorem dX1_heardBy_79 : decode cX1_heardBy 79 = .ok (.iand, 1) := by decide +kernel
theorem dX1_heardBy_80 : decode cX1_heardBy 80 = .ok (.ireturn, 1) := by decide +kernel
set_option maxRecDepth 20000 in
theorem ggX1_knowAfter_X1_heardBy : GoodIn wsX1_knowAfter wsX1_heardBy := goodIn_r _ [5, 6, 7, 8, 9] (by decide +kernel) (by decide +kernel)
set_option maxRecDepth 20000 in
theorem gX1_knowAfter_X1_heardBy : GoodIn wsX1_knowAfter (wsV RX1 36 RX1 yX1_heardBy wsX1_heardBy) := goodIn_app (goodIn_of _ (by decide +kernel)) ggX1_knowAfter_X1_heardBy
theorem dX1_knowAfter_0 : decode cX1_knowAfter 0 = .ok (.iload_n 2, 1) := by decide +kernel
theorem dX1_knowAfter_1 : decode cX1_knowAfter 1 = .ok (.aload_n 0, 1) := by decide +kernel
theorem dX1_knowAfter_2 : decode cX1_knowAfter 2 = .ok (.iload_n 1, 1) := by decide +kernel
theorem dX1_knowAfter_3 : decode cX1_knowAfter 3 = .ok (.iload_n 2, 1) := by decide +kernel
theorem dX1_knowAfter_4 : decode cX1_knowAfter 4 = .ok (.iload_n 3, 1) := by decide +kernel
theorem dX1_knowAfter_5 : decode cX1_knowAfter 5 = .ok (.iand, 1) := by decide +kernel
theorem dX1_knowAfter_6 : decode cX1_knowAfter 6 = .ok (.invokevirtual 36, 3) := by decide +kernel
theorem dX1_knowAfter_9 : decode cX1_knowAfter 9 = .ok (.ior, 1) := by decide +kernel
theorem dX1_knowAfter_10 : decode cX1_knowAfter 10 = .ok (.ireturn, 1) := by decide +kernel
set_option maxRecDepth 20000 in
theorem ggX1_kindOf_X1_degree : GoodIn wsX1_kindOf wsX1_degree := goodIn_r _ [5, 6, 7, 8, 9, 10, 11, 12, 13, 23, 24] (by decide +kernel) (by decide +kernel)
set_option maxRecDepth 20000 in
theorem gX1_kindOf_X1_degree : GoodIn wsX1_kindOf (wsV RX1 29 RX1 yX1_degree wsX1_degree) := goodIn_app (goodIn_of _ (by decide +kernel)) ggX1_kindOf_X1_degree
set_option maxRecDepth 20000 in
theorem ggX1_kindOf_X1_mostNeighbours : GoodIn wsX1_kindOf wsX1_mostNeighbours := goodIn_r _ [17, 18, 19, 20, 21, 22, 1, 2, 3, 4, 5, 6, 7, 8, 9, 10, 11, 12, 13, 23, 24] (by decide +kernel) (by decide +kernel)
set_option maxRecDepth 20000 in
theorem gX1_kindOf_X1_mostNeighbours : GoodIn wsX1_kindOf (wsV RX1 40 RX1 yX1_mostNeighbours wsX1_mostNeighbours) := goodIn_app (goodIn_of _ (by decide +kernel)) ggX1_kindOf_X1_mostNeighbours
theorem dX1_kindOf_0 : decode cX1_kindOf 0 = .ok (.aload_n 0, 1) := by decide +kernel
theorem dX1_kindOf_1 : decode cX1_kindOf 1 = .ok (.iload_n 1, 1) := by decide +kernel
theorem dX1_kindOf_2 : decode cX1_kindOf 2 = .ok (.invokevirtual 29, 3) := by decide +kernel
theorem dX1_kindOf_5 : decode cX1_kindOf 5 = .ok (.istore_n 2, 1) := by decide +kernel
theorem dX1_kindOf_6 : decode cX1_kindOf 6 = .ok (.iload_n 2, 1) := by decide +kernel
theorem dX1_kindOf_7 : decode cX1_kindOf 7 = .ok (.ifCond .ne 5, 3) := by decide +kernel
theorem dX1_kindOf_10 : decode cX1_kindOf 10 = .ok (.iconst 4, 1) := by decide +kernel
theorem dX1_kindOf_11 : decode cX1_kindOf 11 = .ok (.ireturn, 1) := by decide +kernel
theorem dX1_kindOf_12 : decode cX1_kindOf 12 = .ok (.iload_n 2, 1) := by decide +kernel
theorem dX1_kindOf_13 : decode cX1_kindOf 13 = .ok (.iconst 1, 1) := by decide +kernel
theorem dX1_kindOf_14 : decode cX1_kindOf 14 = .ok (.if_icmp .ne 5, 3) := by decide +kernel
theorem dX1_kindOf_17 : decode cX1_kindOf 17 = .ok (.iconst 2, 1) := by decide +kernel
theorem dX1_kindOf_18 : decode cX1_kindOf 18 = .ok (.ireturn, 1) := by decide +kernel
theorem dX1_kindOf_19 : decode cX1_kindOf 19 = .ok (.iload_n 2, 1) := by decide +kernel
theorem dX1_kindOf_20 : decode cX1_kindOf 20 = .ok (.aload_n 0, 1) := by decide +kernel
theorem dX1_kindOf_21 : decode cX1_kindOf 21 = .ok (.invokevirtual 40, 3) := by decide +kernel
theorem dX1_kindOf_24 : decode cX1_kindOf 24 = .ok (.if_icmp .ne 7, 3) := by decide +kernel
theorem dX1_kindOf_27 : decode cX1_kindOf 27 = .ok (.iconst 3, 1) := by decide +kernel
theorem dX1_kindOf_28 : decode cX1_kindOf 28 = .ok (.goto 4, 3) := by decide +kernel
theorem dX1_kindOf_31 : decode cX1_kindOf 31 = .ok (.iconst 1, 1) := by decide +kernel
theorem dX1_kindOf_32 : decode cX1_kindOf 32 = .ok (.ireturn, 1) := by decide +kernel
set_option maxRecDepth 20000 in
theorem ggX1_mostNeighbours_X1_degree : GoodIn wsX1_mostNeighbours wsX1_degree := goodIn_r _ [10, 11, 12, 13, 14, 15, 16, 17, 18, 19, 20] (by decide +kernel) (by decide +kernel)
set_option maxRecDepth 20000 in
theorem gX1_mostNeighbours_X1_degree : GoodIn wsX1_mostNeighbours (wsV RX1 29 RX1 yX1_degree wsX1_degree) := goodIn_app (goodIn_of _ (by decide +kernel)) ggX1_mostNeighbours_X1_degree
theorem dX1_mostNeighbours_0 : decode cX1_mostNeighbours 0 = .ok (.iconst 0, 1) := by decide +kernel
theorem dX1_mostNeighbours_1 : decode cX1_mostNeighbours 1 = .ok (.istore_n 1, 1) := by decide +kernel
theorem dX1_mostNeighbours_2 : decode cX1_mostNeighbours 2 = .ok (.iconst 0, 1) := by decide +kernel
theorem dX1_mostNeighbours_3 : decode cX1_mostNeighbours 3 = .ok (.istore_n 2, 1) := by decide +kernel
theorem dX1_mostNeighbours_4 : decode cX1_mostNeighbours 4 = .ok (.iload_n 2, 1) := by decide +kernel
theorem dX1_mostNeighbours_5 : decode cX1_mostNeighbours 5 = .ok (.aload_n 0, 1) := by decide +kernel
theorem dX1_mostNeighbours_6 : decode cX1_mostNeighbours 6 = .ok (.getfield 15, 3) := by decide +kernel
theorem dX1_mostNeighbours_9 : decode cX1_mostNeighbours 9 = .ok (.if_icmp .ge 19, 3) := by decide +kernel
theorem dX1_mostNeighbours_12 : decode cX1_mostNeighbours 12 = .ok (.iload_n 1, 1) := by decide +kernel
theorem dX1_mostNeighbours_13 : decode cX1_mostNeighbours 13 = .ok (.aload_n 0, 1) := by decide +kernel
theorem dX1_mostNeighbours_14 : decode cX1_mostNeighbours 14 = .ok (.iload_n 2, 1) := by decide +kernel
theorem dX1_mostNeighbours_15 : decode cX1_mostNeighbours 15 = .ok (.invokevirtual 29, 3) := by decide +kernel
theorem dX1_mostNeighbours_18 : decode cX1_mostNeighbours 18 = .ok (.invokestatic 43, 3) := by decide +kernel
theorem dX1_mostNeighbours_21 : decode cX1_mostNeighbours 21 = .ok (.istore_n 1, 1) := by decide +kernel
theorem dX1_mostNeighbours_22 : decode cX1_mostNeighbours 22 = .ok (.iinc 2 1, 3) := by decide +kernel
theorem dX1_mostNeighbours_25 : decode cX1_mostNeighbours 25 = .ok (.goto (-21), 3) := by decide +kernel
theorem dX1_mostNeighbours_28 : decode cX1_mostNeighbours 28 = .ok (.iload_n 1, 1) := by decide +kernel
theorem dX1_mostNeighbours_29 : decode cX1_mostNeighbours 29 = .ok (.ireturn, 1) := by decide +kernel
set_option maxRecDepth 20000 in
theorem ggX1_isOfKind_X1_kindOf : GoodIn wsX1_isOfKind wsX1_kindOf := goodIn_r _ [5, 6, 7, 8, 4, 9, 10, 11, 12, 13, 14, 15, 16, 17, 18, 19, 20, 21, 22, 23, 24, 25, 26, 27, 28] (by decide +kernel) (by decide +kernel)
set_option maxRecDepth 20000 in
theorem gX1_isOfKind_X1_kindOf : GoodIn wsX1_isOfKind (wsV RX1 48 RX1 yX1_kindOf wsX1_kindOf) := goodIn_app (goodIn_of _ (by decide +kernel)) ggX1_isOfKind_X1_kindOf
theorem dX1_isOfKind_0 : decode cX1_isOfKind 0 = .ok (.aload_n 0, 1) := by decide +kernel
theorem dX1_isOfKind_1 : decode cX1_isOfKind 1 = .ok (.iload_n 1, 1) := by decide +kernel
theorem dX1_isOfKind_2 : decode cX1_isOfKind 2 = .ok (.invokevirtual 48, 3) := by decide +kernel
theorem dX1_isOfKind_5 : decode cX1_isOfKind 5 = .ok (.istore_n 3, 1) := by decide +kernel
theorem dX1_isOfKind_6 : decode cX1_isOfKind 6 = .ok (.iload_n 2, 1) := by decide +kernel
theorem dX1_isOfKind_7 : decode cX1_isOfKind 7 = .ok (.ifCond .eq 18, 3) := by decide +kernel
theorem dX1_isOfKind_10 : decode cX1_isOfKind 10 = .ok (.iload_n 2, 1) := by decide +kernel
theorem dX1_isOfKind_11 : decode cX1_isOfKind 11 = .ok (.iload_n 3, 1) := by decide +kernel
theorem dX1_isOfKind_12 : decode cX1_isOfKind 12 = .ok (.if_icmp .eq 13, 3) := by decide +kernel
theorem dX1_isOfKind_15 : decode cX1_isOfKind 15 = .ok (.iload_n 2, 1) := by decide +kernel
theorem dX1_isOfKind_16 : decode cX1_isOfKind 16 = .ok (.iconst 1, 1) := by decide +kernel
theorem dX1_isOfKind_17 : decode cX1_isOfKind 17 = .ok (.if_icmp .ne 12, 3) := by decide +kernel
theorem dX1_isOfKind_20 : decode cX1_isOfKind 20 = .ok (.iload_n 3, 1) := by decide +kernel
theorem dX1_isOfKind_21 : decode cX1_isOfKind 21 = .ok (.iconst 4, 1) := by decide +kernel
theorem dX1_isOfKind_22 : decode cX1_isOfKind 22 = .ok (.if_icmp .eq 7, 3) := by decide +kernel
theorem dX1_isOfKind_25 : decode cX1_isOfKind 25 = .ok (.iconst 1, 1) := by decide +kernel
theorem dX1_isOfKind_26 : decode cX1_isOfKind 26 = .ok (.goto 4, 3) := by decide +kernel
theorem dX1_isOfKind_29 : decode cX1_isOfKind 29 = .ok (.iconst 0, 1) := by decide +kernel
theorem dX1_isOfKind_30 : decode cX1_isOfKind 30 = .ok (.ireturn, 1) := by decide +kernel
set_option maxRecDepth 20000 in
theorem ggX1_countOf_X1_kindOf : GoodIn wsX1_countOf wsX1_kindOf := goodIn_r _ [6, 7, 8, 9, 5, 10, 11, 12, 13, 14, 15, 16, 17, 18, 19, 20, 21, 22, 1, 23, 24, 25, 26, 27, 28] (by decide +kernel) (by decide +kernel)
set_option maxRecDepth 20000 in
theorem gX1_countOf_X1_kindOf : GoodIn wsX1_countOf (wsV RX1 48 RX1 yX1_kindOf wsX1_kindOf) := goodIn_app (goodIn_of _ (by decide +kernel)) ggX1_countOf_X1_kindOf
theorem dX1_countOf_0 : decode cX1_countOf 0 = .ok (.iconst 0, 1) := by decide +kernel
theorem dX1_countOf_1 : decode cX1_countOf 1 = .ok (.istore_n 2, 1) := by decide +kernel
theorem dX1_countOf_2 : decode cX1_countOf 2 = .ok (.iconst 0, 1) := by decide +kernel
theorem dX1_countOf_3 : decode cX1_countOf 3 = .ok (.istore_n 3, 1) := by decide +kernel
theorem dX1_countOf_4 : decode cX1_countOf 4 = .ok (.iload_n 3, 1) := by decide +kernel
theorem dX1_countOf_5 : decode cX1_countOf 5 = .ok (.aload_n 0, 1) := by decide +kernel
theorem dX1_countOf_6 : decode cX1_countOf 6 = .ok (.getfield 15, 3) := by decide +kernel
theorem dX1_countOf_9 : decode cX1_countOf 9 = .ok (.if_icmp .ge 26, 3) := by decide +kernel
theorem dX1_countOf_12 : decode cX1_countOf 12 = .ok (.iload_n 2, 1) := by decide +kernel
theorem dX1_countOf_13 : decode cX1_countOf 13 = .ok (.aload_n 0, 1) := by decide +kernel
theorem dX1_countOf_14 : decode cX1_countOf 14 = .ok (.iload_n 3, 1) := by decide +kernel
theorem dX1_countOf_15 : decode cX1_countOf 15 = .ok (.invokevirtual 48, 3) := by decide +kernel
theorem dX1_countOf_18 : decode cX1_countOf 18 = .ok (.iload_n 1, 1) := by decide +kernel
theorem dX1_countOf_19 : decode cX1_countOf 19 = .ok (.if_icmp .ne 7, 3) := by decide +kernel
theorem dX1_countOf_22 : decode cX1_countOf 22 = .ok (.iconst 1, 1) := by decide +kernel
theorem dX1_countOf_23 : decode cX1_countOf 23 = .ok (.goto 4, 3) := by decide +kernel
theorem dX1_countOf_26 : decode cX1_countOf 26 = .ok (.iconst 0, 1) := by decide +kernel
theorem dX1_countOf_27 : decode cX1_countOf 27 = .ok (.iadd, 1) := by decide +kernel
theorem dX1_countOf_28 : decode cX1_countOf 28 = .ok (.istore_n 2, 1) := by decide +kernel
theorem dX1_countOf_29 : decode cX1_countOf 29 = .ok (.iinc 3 1, 3) := by decide +kernel
theorem dX1_countOf_32 : decode cX1_countOf 32 = .ok (.goto (-28), 3) := by decide +kernel
theorem dX1_countOf_35 : decode cX1_countOf 35 = .ok (.iload_n 2, 1) := by decide +kernel
theorem dX1_countOf_36 : decode cX1_countOf 36 = .ok (.ireturn, 1) := by decide +kernel
theorem dX2_init_0 : decode cX2_init 0 = .ok (.aload_n 0, 1) := by decide +kernel
theorem dX2_init_1 : decode cX2_init 1 = .ok (.invokespecial 3, 3) := by decide +kernel
theorem dX2_init_4 : decode cX2_init 4 = .ok (.aload_n 0, 1) := by decide +kernel
theorem dX2_init_5 : decode cX2_init 5 = .ok (.sipush 300, 3) := by decide +kernel
theorem dX2_init_8 : decode cX2_init 8 = .ok (.newarray .int, 2) := by decide +kernel
theorem dX2_init_10 : decode cX2_init 10 = .ok (.putfield 9, 3) := by decide +kernel
theorem dX2_init_13 : decode cX2_init 13 = .ok (.aload_n 0, 1) := by decide +kernel
theorem dX2_init_14 : decode cX2_init 14 = .ok (.bipush 20, 2) := by decide +kernel
theorem dX2_init_16 : decode cX2_init 16 = .ok (.newarray .int, 2) := by decide +kernel
theorem dX2_init_18 : decode cX2_init 18 = .ok (.putfield 15, 3) := by decide +kernel
theorem dX2_init_21 : decode cX2_init 21 = .ok (.return_, 1) := by decide +kernel
theorem dX2_size_0 : decode cX2_size 0 = .ok (.aload_n 0, 1) := by decide +kernel
theorem dX2_size_1 : decode cX2_size 1 = .ok (.getfield 18, 3) := by decide +kernel
theorem dX2_size_4 : decode cX2_size 4 = .ok (.ireturn, 1) := by decide +kernel
theorem dX2_hasRoom_0 : decode cX2_hasRoom 0 = .ok (.iload_n 1, 1) := by decide +kernel
theorem dX2_hasRoom_1 : decode cX2_hasRoom 1 = .ok (.sipush 300, 3) := by decide +kernel
theorem dX2_hasRoom_4 : decode cX2_hasRoom 4 = .ok (.aload_n 0, 1) := by decide +kernel
theorem dX2_hasRoom_5 : decode cX2_hasRoom 5 = .ok (.getfield 18, 3) := by decide +kernel
theorem dX2_hasRoom_8 : decode cX2_hasRoom 8 = .ok (.isub, 1) := by decide +kernel
theorem dX2_hasRoom_9 : decode cX2_hasRoom 9 = .ok (.if_icmp .gt 7, 3) := by decide +kernel
theorem dX2_hasRoom_12 : decode cX2_hasRoom 12 = .ok (.iconst 1, 1) := by decide +kernel
theorem dX2_hasRoom_13 : decode cX2_hasRoom 13 = .ok (.goto 4, 3) := by decide +kernel
theorem dX2_hasRoom_16 : decode cX2_hasRoom 16 = .ok (.iconst 0, 1) := by decide +kernel
theorem dX2_hasRoom_17 : decode cX2_hasRoom 17 = .ok (.ireturn, 1) := by decide +kernel
theorem dX2_take_0 : decode cX2_take 0 = .ok (.iload_n 3, 1) := by decide +kernel
theorem dX2_take_1 : decode cX2_take 1 = .ok (.iconst 1, 1) := by decide +kernel
theorem dX2_take_2 : decode cX2_take 2 = .ok (.isub, 1) := by decide +kernel
theorem dX2_take_3 : decode cX2_take 3 = .ok (.istore 4, 2) := by decide +kernel
theorem dX2_take_5 : decode cX2_take 5 = .ok (.iload 4, 2) := by decide +kernel
theorem dX2_take_7 : decode cX2_take 7 = .ok (.ifCond .lt 40, 3) := by decide +kernel
theorem dX2_take_10 : decode cX2_take 10 = .ok (.aload_n 0, 1) := by decide +kernel
theorem dX2_take_11 : decode cX2_take 11 = .ok (.getfield 9, 3) := by decide +kernel
theorem dX2_take_14 : decode cX2_take 14 = .ok (.aload_n 0, 1) := by decide +kernel
theorem dX2_take_15 : decode cX2_take 15 = .ok (.getfield 18, 3) := by decide +kernel
theorem dX2_take_18 : decode cX2_take 18 = .ok (.lload_n 1, 1) := by decide +kernel
theorem dX2_take_19 : decode cX2_take 19 = .ok (.bipush 8, 2) := by decide +kernel
theorem dX2_take_21 : decode cX2_take 21 = .ok (.iload 4, 2) := by decide +kernel
theorem dX2_take_23 : decode cX2_take 23 = .ok (.imul, 1) := by decide +kernel
theorem dX2_take_24 : decode cX2_take 24 = .ok (.lushr, 1) := by decide +kernel
theorem dX2_take_25 : decode cX2_take 25 = .ok (.ldc2_w 22, 3) := by decide +kernel
theorem dX2_take_28 : decode cX2_take 28 = .ok (.land, 1) := by decide +kernel
theorem dX2_take_29 : decode cX2_take 29 = .ok (.l2i, 1) := by decide +kernel
theorem dX2_take_30 : decode cX2_take 30 = .ok (.iastore, 1) := by decide +kernel
theorem dX2_take_31 : decode cX2_take 31 = .ok (.aload_n 0, 1) := by decide +kernel
theorem dX2_take_32 : decode cX2_take 32 = .ok (.dup, 1) := by decide +kernel
theorem dX2_take_33 : decode cX2_take 33 = .ok (.getfield 18, 3) := by decide +kernel
theorem dX2_take_36 : decode cX2_take 36 = .ok (.iconst 1, 1) := by decide +kernel
theorem dX2_take_37 : decode cX2_take 37 = .ok (.iadd, 1) := by decide +kernel
theorem dX2_take_38 : decode cX2_take 38 = .ok (.putfield 18, 3) := by decide +kernel
theorem dX2_take_41 : decode cX2_take 41 = .ok (.iinc 4 (-1), 3) := by decide +kernel
theorem dX2_take_44 : decode cX2_take 44 = .ok (.goto (-39), 3) := by decide +kernel
theorem dX2_take_47 : decode cX2_take 47 = .ok (.aload_n 0, 1) := by decide +kernel
theorem dX2_take_48 : decode cX2_take 48 = .ok (.getfield 18, 3) := by decide +kernel
theorem dX2_take_51 : decode cX2_take 51 = .ok (.ireturn, 1) := by decide +kernel
theorem dX2_giveRounds_0 : decode cX2_giveRounds 0 = .ok (.aload_n 0, 1) := by decide +kernel
theorem dX2_giveRounds_1 : decode cX2_giveRounds 1 = .ok (.getfield 15, 3) := by decide +kernel
theorem dX2_giveRounds_4 : decode cX2_giveRounds 4 = .ok (.iconst 0, 1) := by decide +kernel
theorem dX2_giveRounds_5 : decode cX2_giveRounds 5 = .ok (.aload_n 1, 1) := by decide +kernel
theorem dX2_giveRounds_6 : decode cX2_giveRounds 6 = .ok (.iconst 0, 1) := by decide +kernel
theorem dX2_giveRounds_7 : decode cX2_giveRounds 7 = .ok (.aload_n 0, 1) := by decide +kernel
theorem dX2_giveRounds_8 : decode cX2_giveRounds 8 = .ok (.getfield 24, 3) := by decide +kernel
theorem dX2_giveRounds_11 : decode cX2_giveRounds 11 = .ok (.invokestatic 27, 3) := by decide +kernel
theorem dX2_giveRounds_14 : decode cX2_giveRounds 14 = .ok (.aload_n 0, 1) := by decide +kernel
theorem dX2_giveRounds_15 : decode cX2_giveRounds 15 = .ok (.getfield 24, 3) := by decide +kernel
theorem dX2_giveRounds_18 : decode cX2_giveRounds 18 = .ok (.ireturn, 1) := by decide +kernel
theorem dX2_tokenPlace_0 : decode cX2_tokenPlace 0 = .ok (.aload_n 0, 1) := by decide +kernel
theorem dX2_tokenPlace_1 : decode cX2_tokenPlace 1 = .ok (.getfield 33, 3) := by decide +kernel
theorem dX2_tokenPlace_4 : decode cX2_tokenPlace 4 = .ok (.ireturn, 1) := by decide +kernel
set_option maxRecDepth 20000 in
theorem ggX2_read_X2_advance : GoodIn wsX2_read wsX2_advance := goodIn_r _ [9, 2, 10, 4, 11, 3, 12, 13, 8, 14, 15, 16, 17, 18, 19, 20, 21, 22, 23, 24, 25, 26, 27, 28, 29, 30, 31, 32, 33, 34, 35, 36, 37, 38, 39, 40, 41, 42, 43, 44, 45, 46, 47, 48, 49, 50, 51, 52, 53, 54, 55, 56, 57, 58, 59, 60, 61, 62, 63, 64, 65, 66, 67, 68, 69, 70, 71, 72, 73, 74, 75, 76, 77, 78, 79, 97, 98, 99, 100, 101, 102, 103, 104] (by decide +kernel) (by decide +kernel)
set_option maxRecDepth 20000 in
theorem gX2_read_X2_advance : GoodIn wsX2_read (wsV RX2 39 RX2 yX2_advance wsX2_advance) := goodIn_app (goodIn_of _ (by decide +kernel)) ggX2_read_X2_advance
set_option maxRecDepth 20000 in
theorem ggX2_read_X2_readRound : GoodIn wsX2_read wsX2_readRound := goodIn_r _ [83, 3, 84, 1, 85, 86, 87, 8, 88, 89, 90, 91, 92, 5, 6, 7, 9, 2, 10, 4, 11, 12, 13, 14, 15, 16, 17, 18, 19, 20, 21, 22, 23, 24, 25, 26, 27, 28, 29, 30, 31, 32, 33, 34, 35, 36, 37, 38, 39, 40, 41, 42, 43, 44, 45, 46, 47, 48, 49, 50, 51, 52, 53, 54, 55, 56, 57, 58, 59, 60, 61, 62, 63, 64, 65, 66, 67, 68, 69, 70, 71, 72, 73, 74, 75, 76, 77, 78, 79, 93, 94, 95, 96, 97, 98, 99, 100, 101, 102, 103, 104] (by decide +kernel) (by decide +kernel)
set_option maxRecDepth 20000 in
theorem gX2_read_X2_readRound : GoodIn wsX2_read (wsV RX2 45 RX2 yX2_readRound wsX2_readRound) := goodIn_app (goodIn_of _ (by decide +kernel)) ggX2_read_X2_readRound
theorem dX2_read_0 : decode cX2_read 0 = .ok (.iconst 0, 1) := by decide +kernel
theorem dX2_read_1 : decode cX2_read 1 = .ok (.istore_n 2, 1) := by decide +kernel
theorem dX2_read_2 : decode cX2_read 2 = .ok (.aload_n 0, 1) := by decide +kernel
theorem dX2_read_3 : decode cX2_read 3 = .ok (.iconst 0, 1) := by decide +kernel
theorem dX2_read_4 : decode cX2_read 4 = .ok (.putfield 24, 3) := by decide +kernel
theorem dX2_read_7 : decode cX2_read 7 = .ok (.aload_n 0, 1) := by decide +kernel
theorem dX2_read_8 : decode cX2_read 8 = .ok (.iconst 0, 1) := by decide +kernel
theorem dX2_read_9 : decode cX2_read 9 = .ok (.putfield 36, 3) := by decide +kernel
theorem dX2_read_12 : decode cX2_read 12 = .ok (.aload_n 0, 1) := by decide +kernel
theorem dX2_read_13 : decode cX2_read 13 = .ok (.invokevirtual 39, 3) := by decide +kernel
theorem dX2_read_16 : decode cX2_read 16 = .ok (.iconst 0, 1) := by decide +kernel
theorem dX2_read_17 : decode cX2_read 17 = .ok (.istore_n 3, 1) := by decide +kernel
theorem dX2_read_18 : decode cX2_read 18 = .ok (.iload_n 3, 1) := by decide +kernel
theorem dX2_read_19 : decode cX2_read 19 = .ok (.bipush 20, 2) := by decide +kernel
theorem dX2_read_21 : decode cX2_read 21 = .ok (.if_icmp .gt 26, 3) := by decide +kernel
theorem dX2_read_24 : decode cX2_read 24 = .ok (.iload_n 2, 1) := by decide +kernel
theorem dX2_read_25 : decode cX2_read 25 = .ok (.ifCond .ne 22, 3) := by decide +kernel
theorem dX2_read_28 : decode cX2_read 28 = .ok (.aload_n 0, 1) := by decide +kernel
theorem dX2_read_29 : decode cX2_read 29 = .ok (.getfield 42, 3) := by decide +kernel
theorem dX2_read_32 : decode cX2_read 32 = .ok (.ifCond .eq 15, 3) := by decide +kernel
theorem dX2_read_35 : decode cX2_read 35 = .ok (.aload_n 0, 1) := by decide +kernel
theorem dX2_read_36 : decode cX2_read 36 = .ok (.iload_n 1, 1) := by decide +kernel
theorem dX2_read_37 : decode cX2_read 37 = .ok (.invokevirtual 45, 3) := by decide +kernel
theorem dX2_read_40 : decode cX2_read 40 = .ok (.istore_n 2, 1) := by decide +kernel
theorem dX2_read_41 : decode cX2_read 41 = .ok (.iinc 3 1, 3) := by decide +kernel
theorem dX2_read_44 : decode cX2_read 44 = .ok (.goto (-26), 3) := by decide +kernel
theorem dX2_read_47 : decode cX2_read 47 = .ok (.aload_n 0, 1) := by decide +kernel
theorem dX2_read_48 : decode cX2_read 48 = .ok (.iconst 0, 1) := by decide +kernel
theorem dX2_read_49 : decode cX2_read 49 = .ok (.putfield 18, 3) := by decide +kernel
theorem dX2_read_52 : decode cX2_read 52 = .ok (.iload_n 2, 1) := by decide +kernel
theorem dX2_read_53 : decode cX2_read 53 = .ok (.ireturn, 1) := by decide +kernel
set_option maxRecDepth 20000 in
theorem ggX2_readRound_X2_faultOfWord : GoodIn wsX2_readRound wsX2_faultOfWord := goodIn_r _ [8, 1, 3, 93, 94, 95, 96, 97, 98, 99, 100] (by decide +kernel) (by decide +kernel)
set_option maxRecDepth 20000 in
theorem gX2_readRound_X2_faultOfWord : GoodIn wsX2_readRound (wsV RX2 49 RX2 yX2_faultOfWord wsX2_faultOfWord) := goodIn_app (goodIn_of _ (by decide +kernel)) ggX2_readRound_X2_faultOfWord
set_option maxRecDepth 20000 in
theorem ggX2_readRound_X2_soundsAtWord : GoodIn wsX2_readRound wsX2_soundsAtWord := goodIn_r _ [12, 3, 2, 93, 94, 95, 96, 97, 98, 99, 100] (by decide +kernel) (by decide +kernel)
set_option maxRecDepth 20000 in
theorem gX2_readRound_X2_soundsAtWord : GoodIn wsX2_readRound (wsV RX2 53 RX2 yX2_soundsAtWord wsX2_soundsAtWord) := goodIn_app (goodIn_of _ (by decide +kernel)) ggX2_readRound_X2_soundsAtWord
set_option maxRecDepth 20000 in
theorem ggX2_readRound_X2_advance : GoodIn wsX2_readRound wsX2_advance := goodIn_r _ [16, 17, 18, 19, 20, 1, 21, 22, 7, 23, 24, 25, 26, 27, 28, 29, 30, 31, 32, 33, 34, 35, 36, 37, 38, 39, 40, 41, 42, 43, 44, 45, 46, 47, 48, 49, 50, 51, 52, 53, 54, 55, 56, 57, 58, 59, 60, 61, 62, 63, 64, 65, 66, 67, 68, 69, 70, 71, 72, 73, 74, 75, 76, 77, 78, 79, 80, 81, 82, 83, 84, 85, 86, 87, 88, 93, 94, 95, 96, 97, 98, 99, 100] (by decide +kernel) (by decide +kernel)
set_option maxRecDepth 20000 in
theorem gX2_readRound_X2_advance : GoodIn wsX2_readRound (wsV RX2 39 RX2 yX2_advance wsX2_advance) := goodIn_app (goodIn_of _ (by decide +kernel)) ggX2_readRound_X2_advance
set_option maxRecDepth 20000 in
theorem ggX2_readRound_X2_readNumbers : GoodIn wsX2_readRound wsX2_readNumbers := goodIn_r _ [92, 1, 88, 2, 3, 13, 14, 15, 7, 16, 17, 18, 19, 20, 21, 22, 23, 24, 25, 26, 27, 28, 29, 30, 31, 32, 33, 34, 35, 36, 37, 38, 39, 40, 41, 42, 43, 44, 45, 46, 47, 48, 49, 50, 51, 52, 53, 54, 55, 56, 57, 58, 59, 60, 61, 62, 63, 64, 65, 66, 67, 68, 69, 70, 71, 72, 73, 74, 75, 76, 77, 78, 79, 80, 81, 82, 83, 84, 85, 86, 87, 93, 94, 95, 96, 97, 98, 99, 100] (by decide +kernel) (by decide +kernel)
set_option maxRecDepth 20000 in
theorem gX2_readRound_X2_readNumbers : GoodIn wsX2_readRound (wsV RX2 56 RX2 yX2_readNumbers wsX2_readNumbers) := goodIn_app (goodIn_of _ (by decide +kernel)) ggX2_readRound_X2_readNumbers
theorem dX2_readRound_0 : decode cX2_readRound 0 = .ok (.aload_n 0, 1) := by decide +kernel
theorem dX2_readRound_1 : decode cX2_readRound 1 = .ok (.getfield 42, 3) := by decide +kernel
theorem dX2_readRound_4 : decode cX2_readRound 4 = .ok (.istore_n 2, 1) := by decide +kernel
theorem dX2_readRound_5 : decode cX2_readRound 5 = .ok (.aload_n 0, 1) := by decide +kernel
theorem dX2_readRound_6 : decode cX2_readRound 6 = .ok (.invokevirtual 49, 3) := by decide +kernel
theorem dX2_readRound_9 : decode cX2_readRound 9 = .ok (.istore_n 3, 1) := by decide +kernel
theorem dX2_readRound_10 : decode cX2_readRound 10 = .ok (.iload_n 3, 1) := by decide +kernel
theorem dX2_readRound_11 : decode cX2_readRound 11 = .ok (.ifCond .eq 5, 3) := by decide +kernel
theorem dX2_readRound_14 : decode cX2_readRound 14 = .ok (.iload_n 3, 1) := by decide +kernel
theorem dX2_readRound_15 : decode cX2_readRound 15 = .ok (.ireturn, 1) := by decide +kernel
theorem dX2_readRound_16 : decode cX2_readRound 16 = .ok (.aload_n 0, 1) := by decide +kernel
theorem dX2_readRound_17 : decode cX2_readRound 17 = .ok (.getfield 15, 3) := by decide +kernel
theorem dX2_readRound_20 : decode cX2_readRound 20 = .ok (.aload_n 0, 1) := by decide +kernel
theorem dX2_readRound_21 : decode cX2_readRound 21 = .ok (.getfield 24, 3) := by decide +kernel
theorem dX2_readRound_24 : decode cX2_readRound 24 = .ok (.aload_n 0, 1) := by decide +kernel
theorem dX2_readRound_25 : decode cX2_readRound 25 = .ok (.iload_n 2, 1) := by decide +kernel
theorem dX2_readRound_26 : decode cX2_readRound 26 = .ok (.invokevirtual 53, 3) := by decide +kernel
theorem dX2_readRound_29 : decode cX2_readRound 29 = .ok (.iastore, 1) := by decide +kernel
theorem dX2_readRound_30 : decode cX2_readRound 30 = .ok (.aload_n 0, 1) := by decide +kernel
theorem dX2_readRound_31 : decode cX2_readRound 31 = .ok (.invokevirtual 39, 3) := by decide +kernel
theorem dX2_readRound_34 : decode cX2_readRound 34 = .ok (.iload_n 2, 1) := by decide +kernel
theorem dX2_readRound_35 : decode cX2_readRound 35 = .ok (.iconst 2, 1) := by decide +kernel
theorem dX2_readRound_36 : decode cX2_readRound 36 = .ok (.if_icmp .ne 9, 3) := by decide +kernel
theorem dX2_readRound_39 : decode cX2_readRound 39 = .ok (.aload_n 0, 1) := by decide +kernel
theorem dX2_readRound_40 : decode cX2_readRound 40 = .ok (.iload_n 1, 1) := by decide +kernel
theorem dX2_readRound_41 : decode cX2_readRound 41 = .ok (.invokevirtual 56, 3) := by decide +kernel
theorem dX2_readRound_44 : decode cX2_readRound 44 = .ok (.istore_n 3, 1) := by decide +kernel
theorem dX2_readRound_45 : decode cX2_readRound 45 = .ok (.iload_n 3, 1) := by decide +kernel
theorem dX2_readRound_46 : decode cX2_readRound 46 = .ok (.ifCond .ne 14, 3) := by decide +kernel
theorem dX2_readRound_49 : decode cX2_readRound 49 = .ok (.aload_n 0, 1) := by decide +kernel
theorem dX2_readRound_50 : decode cX2_readRound 50 = .ok (.getfield 42, 3) := by decide +kernel
theorem dX2_readRound_53 : decode cX2_readRound 53 = .ok (.bipush 6, 2) := by decide +kernel
theorem dX2_readRound_55 : decode cX2_readRound 55 = .ok (.if_icmp .eq 5, 3) := by decide +kernel
theorem dX2_readRound_58 : decode cX2_readRound 58 = .ok (.iconst 1, 1) := by decide +kernel
theorem dX2_readRound_59 : decode cX2_readRound 59 = .ok (.istore_n 3, 1) := by decide +kernel
theorem dX2_readRound_60 : decode cX2_readRound 60 = .ok (.iload_n 3, 1) := by decide +kernel
theorem dX2_readRound_61 : decode cX2_readRound 61 = .ok (.ifCond .ne 17, 3) := by decide +kernel
theorem dX2_readRound_64 : decode cX2_readRound 64 = .ok (.aload_n 0, 1) := by decide +kernel
theorem dX2_readRound_65 : decode cX2_readRound 65 = .ok (.dup, 1) := by decide +kernel
theorem dX2_readRound_66 : decode cX2_readRound 66 = .ok (.getfield 24, 3) := by decide +kernel
theorem dX2_readRound_69 : decode cX2_readRound 69 = .ok (.iconst 1, 1) := by decide +kernel
theorem dX2_readRound_70 : decode cX2_readRound 70 = .ok (.iadd, 1) := by decide +kernel
theorem dX2_readRound_71 : decode cX2_readRound 71 = .ok (.putfield 24, 3) := by decide +kernel
theorem dX2_readRound_74 : decode cX2_readRound 74 = .ok (.aload_n 0, 1) := by decide +kernel
theorem dX2_readRound_75 : decode cX2_readRound 75 = .ok (.invokevirtual 39, 3) := by decide +kernel
theorem dX2_readRound_78 : decode cX2_readRound 78 = .ok (.iload_n 3, 1) := by decide +kernel
theorem dX2_readRound_79 : decode cX2_readRound 79 = .ok (.ireturn, 1) := by decide +kernel
theorem dX2_faultOfWord_0 : decode cX2_faultOfWord 0 = .ok (.aload_n 0, 1) := by decide +kernel
theorem dX2_faultOfWord_1 : decode cX2_faultOfWord 1 = .ok (.getfield 42, 3) := by decide +kernel
theorem dX2_faultOfWord_4 : decode cX2_faultOfWord 4 = .ok (.iconst 2, 1) := by decide +kernel
theorem dX2_faultOfWord_5 : decode cX2_faultOfWord 5 = .ok (.if_icmp .eq 21, 3) := by decide +kernel
theorem dX2_faultOfWord_8 : decode cX2_faultOfWord 8 = .ok (.aload_n 0, 1) := by decide +kernel
theorem dX2_faultOfWord_9 : decode cX2_faultOfWord 9 = .ok (.getfield 42, 3) := by decide +kernel
theorem dX2_faultOfWord_12 : decode cX2_faultOfWord 12 = .ok (.iconst 3, 1) := by decide +kernel
theorem dX2_faultOfWord_13 : decode cX2_faultOfWord 13 = .ok (.if_icmp .eq 13, 3) := by decide +kernel
theorem dX2_faultOfWord_16 : decode cX2_faultOfWord 16 = .ok (.aload_n 0, 1) := by decide +kernel
theorem dX2_faultOfWord_17 : decode cX2_faultOfWord 17 = .ok (.getfield 42, 3) := by decide +kernel
theorem dX2_faultOfWord_20 : decode cX2_faultOfWord 20 = .ok (.iconst 4, 1) := by decide +kernel
theorem dX2_faultOfWord_21 : decode cX2_faultOfWord 21 = .ok (.if_icmp .eq 5, 3) := by decide +kernel
theorem dX2_faultOfWord_24 : decode cX2_faultOfWord 24 = .ok (.iconst 1, 1) := by decide +kernel
theorem dX2_faultOfWord_25 : decode cX2_faultOfWord 25 = .ok (.ireturn, 1) := by decide +kernel
theorem dX2_faultOfWord_26 : decode cX2_faultOfWord 26 = .ok (.aload_n 0, 1) := by decide +kernel
theorem dX2_faultOfWord_27 : decode cX2_faultOfWord 27 = .ok (.getfield 42, 3) := by decide +kernel
theorem dX2_faultOfWord_30 : decode cX2_faultOfWord 30 = .ok (.iconst 4, 1) := by decide +kernel
theorem dX2_faultOfWord_31 : decode cX2_faultOfWord 31 = .ok (.if_icmp .ne 12, 3) := by decide +kernel
theorem dX2_faultOfWord_34 : decode cX2_faultOfWord 34 = .ok (.aload_n 0, 1) := by decide +kernel
theorem dX2_faultOfWord_35 : decode cX2_faultOfWord 35 = .ok (.getfield 24, 3) := by decide +kernel
theorem dX2_faultOfWord_38 : decode cX2_faultOfWord 38 = .ok (.ifCond .ne 5, 3) := by decide +kernel
theorem dX2_faultOfWord_41 : decode cX2_faultOfWord 41 = .ok (.iconst 2, 1) := by decide +kernel
theorem dX2_faultOfWord_42 : decode cX2_faultOfWord 42 = .ok (.ireturn, 1) := by decide +kernel
theorem dX2_faultOfWord_43 : decode cX2_faultOfWord 43 = .ok (.aload_n 0, 1) := by decide +kernel
theorem dX2_faultOfWord_44 : decode cX2_faultOfWord 44 = .ok (.getfield 24, 3) := by decide +kernel
theorem dX2_faultOfWord_47 : decode cX2_faultOfWord 47 = .ok (.bipush 20, 2) := by decide +kernel
theorem dX2_faultOfWord_49 : decode cX2_faultOfWord 49 = .ok (.if_icmp .lt 7, 3) := by decide +kernel
theorem dX2_faultOfWord_52 : decode cX2_faultOfWord 52 = .ok (.iconst 3, 1) := by decide +kernel
theorem dX2_faultOfWord_53 : decode cX2_faultOfWord 53 = .ok (.goto 4, 3) := by decide +kernel
theorem dX2_faultOfWord_56 : decode cX2_faultOfWord 56 = .ok (.iconst 0, 1) := by decide +kernel
theorem dX2_faultOfWord_57 : decode cX2_faultOfWord 57 = .ok (.ireturn, 1) := by decide +kernel
theorem dX2_soundsAtWord_0 : decode cX2_soundsAtWord 0 = .ok (.iload_n 1, 1) := by decide +kernel
theorem dX2_soundsAtWord_1 : decode cX2_soundsAtWord 1 = .ok (.iconst 3, 1) := by decide +kernel
theorem dX2_soundsAtWord_2 : decode cX2_soundsAtWord 2 = .ok (.if_icmp .ne 5, 3) := by decide +kernel
theorem dX2_soundsAtWord_5 : decode cX2_soundsAtWord 5 = .ok (.iconst (-1), 1) := by decide +kernel
theorem dX2_soundsAtWord_6 : decode cX2_soundsAtWord 6 = .ok (.ireturn, 1) := by decide +kernel
theorem dX2_soundsAtWord_7 : decode cX2_soundsAtWord 7 = .ok (.iload_n 1, 1) := by decide +kernel
theorem dX2_soundsAtWord_8 : decode cX2_soundsAtWord 8 = .ok (.iconst 4, 1) := by decide +kernel
theorem dX2_soundsAtWord_9 : decode cX2_soundsAtWord 9 = .ok (.if_icmp .ne 24, 3) := by decide +kernel
theorem dX2_soundsAtWord_12 : decode cX2_soundsAtWord 12 = .ok (.aload_n 0, 1) := by decide +kernel
theorem dX2_soundsAtWord_13 : decode cX2_soundsAtWord 13 = .ok (.getfield 24, 3) := by decide +kernel
theorem dX2_soundsAtWord_16 : decode cX2_soundsAtWord 16 = .ok (.ifCond .le 17, 3) := by decide +kernel
theorem dX2_soundsAtWord_19 : decode cX2_soundsAtWord 19 = .ok (.aload_n 0, 1) := by decide +kernel
theorem dX2_soundsAtWord_20 : decode cX2_soundsAtWord 20 = .ok (.getfield 15, 3) := by decide +kernel
theorem dX2_soundsAtWord_23 : decode cX2_soundsAtWord 23 = .ok (.aload_n 0, 1) := by decide +kernel
theorem dX2_soundsAtWord_24 : decode cX2_soundsAtWord 24 = .ok (.getfield 24, 3) := by decide +kernel
theorem dX2_soundsAtWord_27 : decode cX2_soundsAtWord 27 = .ok (.iconst 1, 1) := by decide +kernel
theorem dX2_soundsAtWord_28 : decode cX2_soundsAtWord 28 = .ok (.isub, 1) := by decide +kernel
theorem dX2_soundsAtWord_29 : decode cX2_soundsAtWord 29 = .ok (.iaload, 1) := by decide +kernel
theorem dX2_soundsAtWord_30 : decode cX2_soundsAtWord 30 = .ok (.goto 4, 3) := by decide +kernel
theorem dX2_soundsAtWord_33 : decode cX2_soundsAtWord 33 = .ok (.iconst 0, 1) := by decide +kernel
theorem dX2_soundsAtWord_34 : decode cX2_soundsAtWord 34 = .ok (.ireturn, 1) := by decide +kernel
set_option maxRecDepth 20000 in
theorem ggX2_readNumbers_X2_advance : GoodIn wsX2_readNumbers wsX2_advance := goodIn_r _ [9, 10, 11, 12, 13, 1, 14, 15, 8, 16, 17, 18, 19, 20, 21, 22, 23, 24, 25, 26, 27, 28, 29, 30, 31, 32, 33, 34, 35, 36, 37, 38, 39, 40, 41, 42, 43, 44, 45, 46, 47, 48, 49, 50, 51, 52, 53, 54, 55, 56, 57, 58, 59, 60, 61, 62, 63, 64, 65, 66, 67, 68, 69, 70, 71, 72, 73, 74, 75, 76, 77, 78, 79, 80, 2, 81, 82, 83, 84, 85, 86, 87, 88] (by decide +kernel) (by decide +kernel)
set_option maxRecDepth 20000 in
theorem gX2_readNumbers_X2_advance : GoodIn wsX2_readNumbers (wsV RX2 39 RX2 yX2_advance wsX2_advance) := goodIn_app (goodIn_of _ (by decide +kernel)) ggX2_readNumbers_X2_advance
theorem dX2_readNumbers_0 : decode cX2_readNumbers 0 = .ok (.iconst 0, 1) := by decide +kernel
theorem dX2_readNumbers_1 : decode cX2_readNumbers 1 = .ok (.istore_n 2, 1) := by decide +kernel
theorem dX2_readNumbers_2 : decode cX2_readNumbers 2 = .ok (.iload_n 2, 1) := by decide +kernel
theorem dX2_readNumbers_3 : decode cX2_readNumbers 3 = .ok (.bipush 8, 2) := by decide +kernel
theorem dX2_readNumbers_5 : decode cX2_readNumbers 5 = .ok (.if_icmp .gt 69, 3) := by decide +kernel
theorem dX2_readNumbers_8 : decode cX2_readNumbers 8 = .ok (.aload_n 0, 1) := by decide +kernel
theorem dX2_readNumbers_9 : decode cX2_readNumbers 9 = .ok (.getfield 42, 3) := by decide +kernel
theorem dX2_readNumbers_12 : decode cX2_readNumbers 12 = .ok (.iconst 5, 1) := by decide +kernel
theorem dX2_readNumbers_13 : decode cX2_readNumbers 13 = .ok (.if_icmp .ne 61, 3) := by decide +kernel
theorem dX2_readNumbers_16 : decode cX2_readNumbers 16 = .ok (.aload_n 0, 1) := by decide +kernel
theorem dX2_readNumbers_17 : decode cX2_readNumbers 17 = .ok (.getfield 59, 3) := by decide +kernel
theorem dX2_readNumbers_20 : decode cX2_readNumbers 20 = .ok (.iload_n 1, 1) := by decide +kernel
theorem dX2_readNumbers_21 : decode cX2_readNumbers 21 = .ok (.if_icmp .ge 23, 3) := by decide +kernel
theorem dX2_readNumbers_24 : decode cX2_readNumbers 24 = .ok (.aload_n 0, 1) := by decide +kernel
theorem dX2_readNumbers_25 : decode cX2_readNumbers 25 = .ok (.getfield 15, 3) := by decide +kernel
theorem dX2_readNumbers_28 : decode cX2_readNumbers 28 = .ok (.aload_n 0, 1) := by decide +kernel
theorem dX2_readNumbers_29 : decode cX2_readNumbers 29 = .ok (.getfield 24, 3) := by decide +kernel
theorem dX2_readNumbers_32 : decode cX2_readNumbers 32 = .ok (.iaload, 1) := by decide +kernel
theorem dX2_readNumbers_33 : decode cX2_readNumbers 33 = .ok (.aload_n 0, 1) := by decide +kernel
theorem dX2_readNumbers_34 : decode cX2_readNumbers 34 = .ok (.getfield 59, 3) := by decide +kernel
theorem dX2_readNumbers_37 : decode cX2_readNumbers 37 = .ok (.ishr, 1) := by decide +kernel
theorem dX2_readNumbers_38 : decode cX2_readNumbers 38 = .ok (.iconst 1, 1) := by decide +kernel
theorem dX2_readNumbers_39 : decode cX2_readNumbers 39 = .ok (.iand, 1) := by decide +kernel
theorem dX2_readNumbers_40 : decode cX2_readNumbers 40 = .ok (.iconst 1, 1) := by decide +kernel
theorem dX2_readNumbers_41 : decode cX2_readNumbers 41 = .ok (.if_icmp .ne 5, 3) := by decide +kernel
theorem dX2_readNumbers_44 : decode cX2_readNumbers 44 = .ok (.iconst 2, 1) := by decide +kernel
theorem dX2_readNumbers_45 : decode cX2_readNumbers 45 = .ok (.ireturn, 1) := by decide +kernel
theorem dX2_readNumbers_46 : decode cX2_readNumbers 46 = .ok (.aload_n 0, 1) := by decide +kernel
theorem dX2_readNumbers_47 : decode cX2_readNumbers 47 = .ok (.getfield 15, 3) := by decide +kernel
theorem dX2_readNumbers_50 : decode cX2_readNumbers 50 = .ok (.aload_n 0, 1) := by decide +kernel
theorem dX2_readNumbers_51 : decode cX2_readNumbers 51 = .ok (.getfield 24, 3) := by decide +kernel
theorem dX2_readNumbers_54 : decode cX2_readNumbers 54 = .ok (.dup2, 1) := by decide +kernel
theorem dX2_readNumbers_55 : decode cX2_readNumbers 55 = .ok (.iaload, 1) := by decide +kernel
theorem dX2_readNumbers_56 : decode cX2_readNumbers 56 = .ok (.iconst 1, 1) := by decide +kernel
theorem dX2_readNumbers_57 : decode cX2_readNumbers 57 = .ok (.aload_n 0, 1) := by decide +kernel
theorem dX2_readNumbers_58 : decode cX2_readNumbers 58 = .ok (.getfield 59, 3) := by decide +kernel
theorem dX2_readNumbers_61 : decode cX2_readNumbers 61 = .ok (.ishl, 1) := by decide +kernel
theorem dX2_readNumbers_62 : decode cX2_readNumbers 62 = .ok (.ior, 1) := by decide +kernel
theorem dX2_readNumbers_63 : decode cX2_readNumbers 63 = .ok (.iastore, 1) := by decide +kernel
theorem dX2_readNumbers_64 : decode cX2_readNumbers 64 = .ok (.aload_n 0, 1) := by decide +kernel
theorem dX2_readNumbers_65 : decode cX2_readNumbers 65 = .ok (.invokevirtual 39, 3) := by decide +kernel
theorem dX2_readNumbers_68 : decode cX2_readNumbers 68 = .ok (.iinc 2 1, 3) := by decide +kernel
theorem dX2_readNumbers_71 : decode cX2_readNumbers 71 = .ok (.goto (-69), 3) := by decide +kernel
theorem dX2_readNumbers_74 : decode cX2_readNumbers 74 = .ok (.iconst 0, 1) := by decide +kernel
theorem dX2_readNumbers_75 : decode cX2_readNumbers 75 = .ok (.ireturn, 1) := by decide +kernel
set_option maxRecDepth 20000 in
theorem ggX2_advance_X2_isLetter : GoodIn wsX2_advance wsX2_isLetter := goodIn_r _ [9] (by decide +kernel) (by decide +kernel)
set_option maxRecDepth 20000 in
theorem gX2_advance_X2_isLetter : GoodIn wsX2_advance (va_wsS RX2 62 yX2_isLetter wsX2_isLetter) := goodIn_app (goodIn_of _ (by decide +kernel)) ggX2_advance_X2_isLetter
set_option maxRecDepth 20000 in
theorem ggX2_advance_X2_advanceName : GoodIn wsX2_advance wsX2_advanceName := goodIn_r _ [13, 1, 3, 4, 5, 6, 7, 8, 9, 14, 15, 16, 17, 2, 18, 19, 20, 21, 22, 23, 24, 25, 26, 27, 28, 29, 30, 31, 32, 33, 34, 35, 36, 37, 38, 39, 40, 41, 42, 43, 44, 45, 46, 47, 48, 49, 50, 51, 52, 53, 54, 55, 56, 57, 58, 59, 60, 61, 62, 63, 64, 65, 66, 75, 76, 77, 78, 79, 80, 81, 82] (by decide +kernel) (by decide +kernel)
set_option maxRecDepth 20000 in
theorem gX2_advance_X2_advanceName : GoodIn wsX2_advance (wsV RX2 66 RX2 yX2_advanceName wsX2_advanceName) := goodIn_app (goodIn_of _ (by decide +kernel)) ggX2_advance_X2_advanceName
set_option maxRecDepth 20000 in
theorem ggX2_advance_X2_isFigure : GoodIn wsX2_advance wsX2_isFigure := goodIn_r _ [69] (by decide +kernel) (by decide +kernel)
set_option maxRecDepth 20000 in
theorem gX2_advance_X2_isFigure : GoodIn wsX2_advance (va_wsS RX2 69 yX2_isFigure wsX2_isFigure) := goodIn_app (goodIn_of _ (by decide +kernel)) ggX2_advance_X2_isFigure
set_option maxRecDepth 20000 in
theorem ggX2_advance_X2_advanceNumber : GoodIn wsX2_advance wsX2_advanceNumber := goodIn_r _ [73, 74, 1, 3, 4, 2, 5, 67, 68, 8, 69, 75, 76, 77, 78, 79, 80, 81, 82] (by decide +kernel) (by decide +kernel)
set_option maxRecDepth 20000 in
theorem gX2_advance_X2_advanceNumber : GoodIn wsX2_advance (wsV RX2 72 RX2 yX2_advanceNumber wsX2_advanceNumber) := goodIn_app (goodIn_of _ (by decide +kernel)) ggX2_advance_X2_advanceNumber
theorem dX2_advance_0 : decode cX2_advance 0 = .ok (.aload_n 0, 1) := by decide +kernel
theorem dX2_advance_1 : decode cX2_advance 1 = .ok (.aload_n 0, 1) := by decide +kernel
theorem dX2_advance_2 : decode cX2_advance 2 = .ok (.getfield 36, 3) := by decide +kernel
theorem dX2_advance_5 : decode cX2_advance 5 = .ok (.putfield 33, 3) := by decide +kernel
theorem dX2_advance_8 : decode cX2_advance 8 = .ok (.aload_n 0, 1) := by decide +kernel
theorem dX2_advance_9 : decode cX2_advance 9 = .ok (.getfield 33, 3) := by decide +kernel
theorem dX2_advance_12 : decode cX2_advance 12 = .ok (.aload_n 0, 1) := by decide +kernel
theorem dX2_advance_13 : decode cX2_advance 13 = .ok (.getfield 18, 3) := by decide +kernel
theorem dX2_advance_16 : decode cX2_advance 16 = .ok (.if_icmp .ge 44, 3) := by decide +kernel
theorem dX2_advance_19 : decode cX2_advance 19 = .ok (.aload_n 0, 1) := by decide +kernel
theorem dX2_advance_20 : decode cX2_advance 20 = .ok (.getfield 9, 3) := by decide +kernel
theorem dX2_advance_23 : decode cX2_advance 23 = .ok (.aload_n 0, 1) := by decide +kernel
theorem dX2_advance_24 : decode cX2_advance 24 = .ok (.getfield 33, 3) := by decide +kernel
theorem dX2_advance_27 : decode cX2_advance 27 = .ok (.iaload, 1) := by decide +kernel
theorem dX2_advance_28 : decode cX2_advance 28 = .ok (.bipush 32, 2) := by decide +kernel
theorem dX2_advance_30 : decode cX2_advance 30 = .ok (.if_icmp .eq 17, 3) := by decide +kernel
theorem dX2_advance_33 : decode cX2_advance 33 = .ok (.aload_n 0, 1) := by decide +kernel
theorem dX2_advance_34 : decode cX2_advance 34 = .ok (.getfield 9, 3) := by decide +kernel
theorem dX2_advance_37 : decode cX2_advance 37 = .ok (.aload_n 0, 1) := by decide +kernel
theorem dX2_advance_38 : decode cX2_advance 38 = .ok (.getfield 33, 3) := by decide +kernel
theorem dX2_advance_41 : decode cX2_advance 41 = .ok (.iaload, 1) := by decide +kernel
theorem dX2_advance_42 : decode cX2_advance 42 = .ok (.bipush 10, 2) := by decide +kernel
theorem dX2_advance_44 : decode cX2_advance 44 = .ok (.if_icmp .ne 16, 3) := by decide +kernel
theorem dX2_advance_47 : decode cX2_advance 47 = .ok (.aload_n 0, 1) := by decide +kernel
theorem dX2_advance_48 : decode cX2_advance 48 = .ok (.dup, 1) := by decide +kernel
theorem dX2_advance_49 : decode cX2_advance 49 = .ok (.getfield 33, 3) := by decide +kernel
theorem dX2_advance_52 : decode cX2_advance 52 = .ok (.iconst 1, 1) := by decide +kernel
theorem dX2_advance_53 : decode cX2_advance 53 = .ok (.iadd, 1) := by decide +kernel
theorem dX2_advance_54 : decode cX2_advance 54 = .ok (.putfield 33, 3) := by decide +kernel
theorem dX2_advance_57 : decode cX2_advance 57 = .ok (.goto (-49), 3) := by decide +kernel
theorem dX2_advance_60 : decode cX2_advance 60 = .ok (.aload_n 0, 1) := by decide +kernel
theorem dX2_advance_61 : decode cX2_advance 61 = .ok (.aload_n 0, 1) := by decide +kernel
theorem dX2_advance_62 : decode cX2_advance 62 = .ok (.getfield 33, 3) := by decide +kernel
theorem dX2_advance_65 : decode cX2_advance 65 = .ok (.putfield 36, 3) := by decide +kernel
theorem dX2_advance_68 : decode cX2_advance 68 = .ok (.aload_n 0, 1) := by decide +kernel
theorem dX2_advance_69 : decode cX2_advance 69 = .ok (.getfield 33, 3) := by decide +kernel
theorem dX2_advance_72 : decode cX2_advance 72 = .ok (.aload_n 0, 1) := by decide +kernel
theorem dX2_advance_73 : decode cX2_advance 73 = .ok (.getfield 18, 3) := by decide +kernel
theorem dX2_advance_76 : decode cX2_advance 76 = .ok (.if_icmp .lt 11, 3) := by decide +kernel
theorem dX2_advance_79 : decode cX2_advance 79 = .ok (.aload_n 0, 1) := by decide +kernel
theorem dX2_advance_80 : decode cX2_advance 80 = .ok (.iconst 0, 1) := by decide +kernel
theorem dX2_advance_81 : decode cX2_advance 81 = .ok (.putfield 42, 3) := by decide +kernel
theorem dX2_advance_84 : decode cX2_advance 84 = .ok (.goto 81, 3) := by decide +kernel
theorem dX2_advance_87 : decode cX2_advance 87 = .ok (.aload_n 0, 1) := by decide +kernel
theorem dX2_advance_88 : decode cX2_advance 88 = .ok (.getfield 9, 3) := by decide +kernel
theorem dX2_advance_91 : decode cX2_advance 91 = .ok (.aload_n 0, 1) := by decide +kernel
theorem dX2_advance_92 : decode cX2_advance 92 = .ok (.getfield 33, 3) := by decide +kernel
theorem dX2_advance_95 : decode cX2_advance 95 = .ok (.iaload, 1) := by decide +kernel
theorem dX2_advance_96 : decode cX2_advance 96 = .ok (.invokestatic 62, 3) := by decide +kernel
theorem dX2_advance_99 : decode cX2_advance 99 = .ok (.ifCond .eq 10, 3) := by decide +kernel
theorem dX2_advance_102 : decode cX2_advance 102 = .ok (.aload_n 0, 1) := by decide +kernel
theorem dX2_advance_103 : decode cX2_advance 103 = .ok (.invokevirtual 66, 3) := by decide +kernel
theorem dX2_advance_106 : decode cX2_advance 106 = .ok (.goto 59, 3) := by decide +kernel
theorem dX2_advance_109 : decode cX2_advance 109 = .ok (.aload_n 0, 1) := by decide +kernel
theorem dX2_advance_110 : decode cX2_advance 110 = .ok (.getfield 9, 3) := by decide +kernel
theorem dX2_advance_113 : decode cX2_advance 113 = .ok (.aload_n 0, 1) := by decide +kernel
theorem dX2_advance_114 : decode cX2_advance 114 = .ok (.getfield 33, 3) := by decide +kernel
theorem dX2_advance_117 : decode cX2_advance 117 = .ok (.iaload, 1) := by decide +kernel
theorem dX2_advance_118 : decode cX2_advance 118 = .ok (.invokestatic 69, 3) := by decide +kernel
theorem dX2_advance_121 : decode cX2_advance 121 = .ok (.ifCond .eq 10, 3) := by decide +kernel
theorem dX2_advance_124 : decode cX2_advance 124 = .ok (.aload_n 0, 1) := by decide +kernel
theorem dX2_advance_125 : decode cX2_advance 125 = .ok (.invokevirtual 72, 3) := by decide +kernel
theorem dX2_advance_128 : decode cX2_advance 128 = .ok (.goto 37, 3) := by decide +kernel
theorem dX2_advance_131 : decode cX2_advance 131 = .ok (.aload_n 0, 1) := by decide +kernel
theorem dX2_advance_132 : decode cX2_advance 132 = .ok (.aload_n 0, 1) := by decide +kernel
theorem dX2_advance_133 : decode cX2_advance 133 = .ok (.getfield 33, 3) := by decide +kernel
theorem dX2_advance_136 : decode cX2_advance 136 = .ok (.iconst 1, 1) := by decide +kernel
theorem dX2_advance_137 : decode cX2_advance 137 = .ok (.iadd, 1) := by decide +kernel
theorem dX2_advance_138 : decode cX2_advance 138 = .ok (.putfield 36, 3) := by decide +kernel
theorem dX2_advance_141 : decode cX2_advance 141 = .ok (.aload_n 0, 1) := by decide +kernel
theorem dX2_advance_142 : decode cX2_advance 142 = .ok (.aload_n 0, 1) := by decide +kernel
theorem dX2_advance_143 : decode cX2_advance 143 = .ok (.getfield 9, 3) := by decide +kernel
theorem dX2_advance_146 : decode cX2_advance 146 = .ok (.aload_n 0, 1) := by decide +kernel
theorem dX2_advance_147 : decode cX2_advance 147 = .ok (.getfield 33, 3) := by decide +kernel
theorem dX2_advance_150 : decode cX2_advance 150 = .ok (.iaload, 1) := by decide +kernel
theorem dX2_advance_151 : decode cX2_advance 151 = .ok (.bipush 59, 2) := by decide +kernel
theorem dX2_advance_153 : decode cX2_advance 153 = .ok (.if_icmp .ne 8, 3) := by decide +kernel
theorem dX2_advance_156 : decode cX2_advance 156 = .ok (.bipush 6, 2) := by decide +kernel
theorem dX2_advance_158 : decode cX2_advance 158 = .ok (.goto 4, 3) := by decide +kernel
theorem dX2_advance_161 : decode cX2_advance 161 = .ok (.iconst 1, 1) := by decide +kernel
theorem dX2_advance_162 : decode cX2_advance 162 = .ok (.putfield 42, 3) := by decide +kernel
theorem dX2_advance_165 : decode cX2_advance 165 = .ok (.return_, 1) := by decide +kernel
set_option maxRecDepth 20000 in
theorem ggX2_advanceName_X2_isLetter : GoodIn wsX2_advanceName wsX2_isLetter := goodIn_r _ [8] (by decide +kernel) (by decide +kernel)
set_option maxRecDepth 20000 in
theorem gX2_advanceName_X2_isLetter : GoodIn wsX2_advanceName (va_wsS RX2 62 yX2_isLetter wsX2_isLetter) := goodIn_app (goodIn_of _ (by decide +kernel)) ggX2_advanceName_X2_isLetter
set_option maxRecDepth 20000 in
theorem ggX2_advanceName_X2_isWord : GoodIn wsX2_advanceName wsX2_isWord := goodIn_r _ [12, 1, 13, 3, 14, 15, 16, 17, 18, 19, 20, 21, 22, 23, 24, 25, 26, 27, 28, 29, 30, 31, 32, 33, 34, 35, 36, 37, 38, 39, 40, 41, 42, 43, 44, 45, 46, 47, 48, 49, 50, 51, 52, 53, 54, 55, 56, 57, 58, 59, 60, 61, 62, 63, 64, 65, 66, 67, 68, 69, 70] (by decide +kernel) (by decide +kernel)
set_option maxRecDepth 20000 in
theorem gX2_advanceName_X2_isWord : GoodIn wsX2_advanceName (wsV RX2 77 RX2 yX2_isWord wsX2_isWord) := goodIn_app (goodIn_of _ (by decide +kernel)) ggX2_advanceName_X2_isWord
theorem dX2_advanceName_0 : decode cX2_advanceName 0 = .ok (.aload_n 0, 1) := by decide +kernel
theorem dX2_advanceName_1 : decode cX2_advanceName 1 = .ok (.getfield 36, 3) := by decide +kernel
theorem dX2_advanceName_4 : decode cX2_advanceName 4 = .ok (.aload_n 0, 1) := by decide +kernel
theorem dX2_advanceName_5 : decode cX2_advanceName 5 = .ok (.getfield 18, 3) := by decide +kernel
theorem dX2_advanceName_8 : decode cX2_advanceName 8 = .ok (.if_icmp .ge 31, 3) := by decide +kernel
theorem dX2_advanceName_11 : decode cX2_advanceName 11 = .ok (.aload_n 0, 1) := by decide +kernel
theorem dX2_advanceName_12 : decode cX2_advanceName 12 = .ok (.getfield 9, 3) := by decide +kernel
theorem dX2_advanceName_15 : decode cX2_advanceName 15 = .ok (.aload_n 0, 1) := by decide +kernel
theorem dX2_advanceName_16 : decode cX2_advanceName 16 = .ok (.getfield 36, 3) := by decide +kernel
theorem dX2_advanceName_19 : decode cX2_advanceName 19 = .ok (.iaload, 1) := by decide +kernel
theorem dX2_advanceName_20 : decode cX2_advanceName 20 = .ok (.invokestatic 62, 3) := by decide +kernel
theorem dX2_advanceName_23 : decode cX2_advanceName 23 = .ok (.ifCond .eq 16, 3) := by decide +kernel
theorem dX2_advanceName_26 : decode cX2_advanceName 26 = .ok (.aload_n 0, 1) := by decide +kernel
theorem dX2_advanceName_27 : decode cX2_advanceName 27 = .ok (.dup, 1) := by decide +kernel
theorem dX2_advanceName_28 : decode cX2_advanceName 28 = .ok (.getfield 36, 3) := by decide +kernel
theorem dX2_advanceName_31 : decode cX2_advanceName 31 = .ok (.iconst 1, 1) := by decide +kernel
theorem dX2_advanceName_32 : decode cX2_advanceName 32 = .ok (.iadd, 1) := by decide +kernel
theorem dX2_advanceName_33 : decode cX2_advanceName 33 = .ok (.putfield 36, 3) := by decide +kernel
theorem dX2_advanceName_36 : decode cX2_advanceName 36 = .ok (.goto (-36), 3) := by decide +kernel
theorem dX2_advanceName_39 : decode cX2_advanceName 39 = .ok (.aload_n 0, 1) := by decide +kernel
theorem dX2_advanceName_40 : decode cX2_advanceName 40 = .ok (.iconst 1, 1) := by decide +kernel
theorem dX2_advanceName_41 : decode cX2_advanceName 41 = .ok (.putfield 42, 3) := by decide +kernel
theorem dX2_advanceName_44 : decode cX2_advanceName 44 = .ok (.aload_n 0, 1) := by decide +kernel
theorem dX2_advanceName_45 : decode cX2_advanceName 45 = .ok (.ldc 75, 2) := by decide +kernel
theorem dX2_advanceName_47 : decode cX2_advanceName 47 = .ok (.invokevirtual 77, 3) := by decide +kernel
theorem dX2_advanceName_50 : decode cX2_advanceName 50 = .ok (.ifCond .eq 11, 3) := by decide +kernel
theorem dX2_advanceName_53 : decode cX2_advanceName 53 = .ok (.aload_n 0, 1) := by decide +kernel
theorem dX2_advanceName_54 : decode cX2_advanceName 54 = .ok (.iconst 2, 1) := by decide +kernel
theorem dX2_advanceName_55 : decode cX2_advanceName 55 = .ok (.putfield 42, 3) := by decide +kernel
theorem dX2_advanceName_58 : decode cX2_advanceName 58 = .ok (.goto 34, 3) := by decide +kernel
theorem dX2_advanceName_61 : decode cX2_advanceName 61 = .ok (.aload_n 0, 1) := by decide +kernel
theorem dX2_advanceName_62 : decode cX2_advanceName 62 = .ok (.ldc 81, 2) := by decide +kernel
theorem dX2_advanceName_64 : decode cX2_advanceName 64 = .ok (.invokevirtual 77, 3) := by decide +kernel
theorem dX2_advanceName_67 : decode cX2_advanceName 67 = .ok (.ifCond .eq 11, 3) := by decide +kernel
theorem dX2_advanceName_70 : decode cX2_advanceName 70 = .ok (.aload_n 0, 1) := by decide +kernel
theorem dX2_advanceName_71 : decode cX2_advanceName 71 = .ok (.iconst 3, 1) := by decide +kernel
theorem dX2_advanceName_72 : decode cX2_advanceName 72 = .ok (.putfield 42, 3) := by decide +kernel
theorem dX2_advanceName_75 : decode cX2_advanceName 75 = .ok (.goto 17, 3) := by decide +kernel
theorem dX2_advanceName_78 : decode cX2_advanceName 78 = .ok (.aload_n 0, 1) := by decide +kernel
theorem dX2_advanceName_79 : decode cX2_advanceName 79 = .ok (.ldc 83, 2) := by decide +kernel
theorem dX2_advanceName_81 : decode cX2_advanceName 81 = .ok (.invokevirtual 77, 3) := by decide +kernel
theorem dX2_advanceName_84 : decode cX2_advanceName 84 = .ok (.ifCond .eq 8, 3) := by decide +kernel
theorem dX2_advanceName_87 : decode cX2_advanceName 87 = .ok (.aload_n 0, 1) := by decide +kernel
theorem dX2_advanceName_88 : decode cX2_advanceName 88 = .ok (.iconst 4, 1) := by decide +kernel
theorem dX2_advanceName_89 : decode cX2_advanceName 89 = .ok (.putfield 42, 3) := by decide +kernel
theorem dX2_advanceName_92 : decode cX2_advanceName 92 = .ok (.return_, 1) := by decide +kernel
set_option maxRecDepth 20000 in
theorem ggX2_isWord_J0_length_8abf5 : GoodIn wsX2_isWord wsJ0_length_8abf5 := goodIn_r _ [8, 9, 10, 11, 12, 7, 13, 14, 15] (by decide +kernel) (by decide +kernel)
set_option maxRecDepth 20000 in
theorem gX2_isWord_J0_length_8abf5 : GoodIn wsX2_isWord (wsV RX2 85 RJ0 yJ0_length_8abf5 wsJ0_length_8abf5) := goodIn_app (goodIn_of _ (by decide +kernel)) ggX2_isWord_J0_length_8abf5
set_option maxRecDepth 20000 in
theorem ggX2_isWord_J0_charAt_5068e : GoodIn wsX2_isWord wsJ0_charAt_5068e := goodIn_r _ [19, 9, 20, 21, 22, 7, 23, 14, 15, 24, 25, 26, 27, 28, 29, 30, 31, 32, 33, 34, 35, 36, 37, 38, 39, 40, 41, 42, 43, 44, 45, 46, 47, 48, 49, 50, 51, 52] (by decide +kernel) (by decide +kernel)
set_option maxRecDepth 20000 in
theorem gX2_isWord_J0_charAt_5068e : GoodIn wsX2_isWord (wsV RX2 89 RJ0 yJ0_charAt_5068e wsJ0_charAt_5068e) := goodIn_app (goodIn_of _ (by decide +kernel)) ggX2_isWord_J0_charAt_5068e
theorem dX2_isWord_0 : decode cX2_isWord 0 = .ok (.aload_n 0, 1) := by decide +kernel
theorem dX2_isWord_1 : decode cX2_isWord 1 = .ok (.getfield 36, 3) := by decide +kernel
theorem dX2_isWord_4 : decode cX2_isWord 4 = .ok (.aload_n 0, 1) := by decide +kernel
theorem dX2_isWord_5 : decode cX2_isWord 5 = .ok (.getfield 33, 3) := by decide +kernel
theorem dX2_isWord_8 : decode cX2_isWord 8 = .ok (.isub, 1) := by decide +kernel
theorem dX2_isWord_9 : decode cX2_isWord 9 = .ok (.aload_n 1, 1) := by decide +kernel
theorem dX2_isWord_10 : decode cX2_isWord 10 = .ok (.invokevirtual 85, 3) := by decide +kernel
theorem dX2_isWord_13 : decode cX2_isWord 13 = .ok (.if_icmp .eq 5, 3) := by decide +kernel
theorem dX2_isWord_16 : decode cX2_isWord 16 = .ok (.iconst 0, 1) := by decide +kernel
theorem dX2_isWord_17 : decode cX2_isWord 17 = .ok (.ireturn, 1) := by decide +kernel
theorem dX2_isWord_18 : decode cX2_isWord 18 = .ok (.iconst 0, 1) := by decide +kernel
theorem dX2_isWord_19 : decode cX2_isWord 19 = .ok (.istore_n 2, 1) := by decide +kernel
theorem dX2_isWord_20 : decode cX2_isWord 20 = .ok (.iload_n 2, 1) := by decide +kernel
theorem dX2_isWord_21 : decode cX2_isWord 21 = .ok (.aload_n 1, 1) := by decide +kernel
theorem dX2_isWord_22 : decode cX2_isWord 22 = .ok (.invokevirtual 85, 3) := by decide +kernel
theorem dX2_isWord_25 : decode cX2_isWord 25 = .ok (.if_icmp .ge 30, 3) := by decide +kernel
theorem dX2_isWord_28 : decode cX2_isWord 28 = .ok (.aload_n 0, 1) := by decide +kernel
theorem dX2_isWord_29 : decode cX2_isWord 29 = .ok (.getfield 9, 3) := by decide +kernel
theorem dX2_isWord_32 : decode cX2_isWord 32 = .ok (.aload_n 0, 1) := by decide +kernel
theorem dX2_isWord_33 : decode cX2_isWord 33 = .ok (.getfield 33, 3) := by decide +kernel
theorem dX2_isWord_36 : decode cX2_isWord 36 = .ok (.iload_n 2, 1) := by decide +kernel
theorem dX2_isWord_37 : decode cX2_isWord 37 = .ok (.iadd, 1) := by decide +kernel
theorem dX2_isWord_38 : decode cX2_isWord 38 = .ok (.iaload, 1) := by decide +kernel
theorem dX2_isWord_39 : decode cX2_isWord 39 = .ok (.aload_n 1, 1) := by decide +kernel
theorem dX2_isWord_40 : decode cX2_isWord 40 = .ok (.iload_n 2, 1) := by decide +kernel
theorem dX2_isWord_41 : decode cX2_isWord 41 = .ok (.invokevirtual 89, 3) := by decide +kernel
theorem dX2_isWord_44 : decode cX2_isWord 44 = .ok (.if_icmp .eq 5, 3) := by decide +kernel
theorem dX2_isWord_47 : decode cX2_isWord 47 = .ok (.iconst 0, 1) := by decide +kernel
theorem dX2_isWord_48 : decode cX2_isWord 48 = .ok (.ireturn, 1) := by decide +kernel
theorem dX2_isWord_49 : decode cX2_isWord 49 = .ok (.iinc 2 1, 3) := by decide +kernel
theorem dX2_isWord_52 : decode cX2_isWord 52 = .ok (.goto (-32), 3) := by decide +kernel
theorem dX2_isWord_55 : decode cX2_isWord 55 = .ok (.iconst 1, 1) := by decide +kernel
theorem dX2_isWord_56 : decode cX2_isWord 56 = .ok (.ireturn, 1) := by decide +kernel
set_option maxRecDepth 20000 in
theorem ggX2_advanceNumber_X2_isFigure : GoodIn wsX2_advanceNumber wsX2_isFigure := goodIn_r _ [10] (by decide +kernel) (by decide +kernel)
set_option maxRecDepth 20000 in
theorem gX2_advanceNumber_X2_isFigure : GoodIn wsX2_advanceNumber (va_wsS RX2 69 yX2_isFigure wsX2_isFigure) := goodIn_app (goodIn_of _ (by decide +kernel)) ggX2_advanceNumber_X2_isFigure
theorem dX2_advanceNumber_0 : decode cX2_advanceNumber 0 = .ok (.aload_n 0, 1) := by decide +kernel
theorem dX2_advanceNumber_1 : decode cX2_advanceNumber 1 = .ok (.iconst 0, 1) := by decide +kernel
theorem dX2_advanceNumber_2 : decode cX2_advanceNumber 2 = .ok (.putfield 59, 3) := by decide +kernel
theorem dX2_advanceNumber_5 : decode cX2_advanceNumber 5 = .ok (.aload_n 0, 1) := by decide +kernel
theorem dX2_advanceNumber_6 : decode cX2_advanceNumber 6 = .ok (.getfield 36, 3) := by decide +kernel
theorem dX2_advanceNumber_9 : decode cX2_advanceNumber 9 = .ok (.aload_n 0, 1) := by decide +kernel
theorem dX2_advanceNumber_10 : decode cX2_advanceNumber 10 = .ok (.getfield 18, 3) := by decide +kernel
theorem dX2_advanceNumber_13 : decode cX2_advanceNumber 13 = .ok (.if_icmp .ge 75, 3) := by decide +kernel
theorem dX2_advanceNumber_16 : decode cX2_advanceNumber 16 = .ok (.aload_n 0, 1) := by decide +kernel
theorem dX2_advanceNumber_17 : decode cX2_advanceNumber 17 = .ok (.getfield 9, 3) := by decide +kernel
theorem dX2_advanceNumber_20 : decode cX2_advanceNumber 20 = .ok (.aload_n 0, 1) := by decide +kernel
theorem dX2_advanceNumber_21 : decode cX2_advanceNumber 21 = .ok (.getfield 36, 3) := by decide +kernel
theorem dX2_advanceNumber_24 : decode cX2_advanceNumber 24 = .ok (.iaload, 1) := by decide +kernel
theorem dX2_advanceNumber_25 : decode cX2_advanceNumber 25 = .ok (.invokestatic 69, 3) := by decide +kernel
theorem dX2_advanceNumber_28 : decode cX2_advanceNumber 28 = .ok (.ifCond .eq 60, 3) := by decide +kernel
theorem dX2_advanceNumber_31 : decode cX2_advanceNumber 31 = .ok (.aload_n 0, 1) := by decide +kernel
theorem dX2_advanceNumber_32 : decode cX2_advanceNumber 32 = .ok (.aload_n 0, 1) := by decide +kernel
theorem dX2_advanceNumber_33 : decode cX2_advanceNumber 33 = .ok (.getfield 36, 3) := by decide +kernel
theorem dX2_advanceNumber_36 : decode cX2_advanceNumber 36 = .ok (.aload_n 0, 1) := by decide +kernel
theorem dX2_advanceNumber_37 : decode cX2_advanceNumber 37 = .ok (.getfield 33, 3) := by decide +kernel
theorem dX2_advanceNumber_40 : decode cX2_advanceNumber 40 = .ok (.isub, 1) := by decide +kernel
theorem dX2_advanceNumber_41 : decode cX2_advanceNumber 41 = .ok (.iconst 2, 1) := by decide +kernel
theorem dX2_advanceNumber_42 : decode cX2_advanceNumber 42 = .ok (.if_icmp .ge 26, 3) := by decide +kernel
theorem dX2_advanceNumber_45 : decode cX2_advanceNumber 45 = .ok (.aload_n 0, 1) := by decide +kernel
theorem dX2_advanceNumber_46 : decode cX2_advanceNumber 46 = .ok (.getfield 59, 3) := by decide +kernel
theorem dX2_advanceNumber_49 : decode cX2_advanceNumber 49 = .ok (.bipush 10, 2) := by decide +kernel
theorem dX2_advanceNumber_51 : decode cX2_advanceNumber 51 = .ok (.imul, 1) := by decide +kernel
theorem dX2_advanceNumber_52 : decode cX2_advanceNumber 52 = .ok (.aload_n 0, 1) := by decide +kernel
theorem dX2_advanceNumber_53 : decode cX2_advanceNumber 53 = .ok (.getfield 9, 3) := by decide +kernel
theorem dX2_advanceNumber_56 : decode cX2_advanceNumber 56 = .ok (.aload_n 0, 1) := by decide +kernel
theorem dX2_advanceNumber_57 : decode cX2_advanceNumber 57 = .ok (.getfield 36, 3) := by decide +kernel
theorem dX2_advanceNumber_60 : decode cX2_advanceNumber 60 = .ok (.iaload, 1) := by decide +kernel
theorem dX2_advanceNumber_61 : decode cX2_advanceNumber 61 = .ok (.iadd, 1) := by decide +kernel
theorem dX2_advanceNumber_62 : decode cX2_advanceNumber 62 = .ok (.bipush 48, 2) := by decide +kernel
theorem dX2_advanceNumber_64 : decode cX2_advanceNumber 64 = .ok (.isub, 1) := by decide +kernel
theorem dX2_advanceNumber_65 : decode cX2_advanceNumber 65 = .ok (.goto 7, 3) := by decide +kernel
theorem dX2_advanceNumber_68 : decode cX2_advanceNumber 68 = .ok (.aload_n 0, 1) := by decide +kernel
theorem dX2_advanceNumber_69 : decode cX2_advanceNumber 69 = .ok (.getfield 59, 3) := by decide +kernel
theorem dX2_advanceNumber_72 : decode cX2_advanceNumber 72 = .ok (.putfield 59, 3) := by decide +kernel
theorem dX2_advanceNumber_75 : decode cX2_advanceNumber 75 = .ok (.aload_n 0, 1) := by decide +kernel
theorem dX2_advanceNumber_76 : decode cX2_advanceNumber 76 = .ok (.dup, 1) := by decide +kernel
theorem dX2_advanceNumber_77 : decode cX2_advanceNumber 77 = .ok (.getfield 36, 3) := by decide +kernel
theorem dX2_advanceNumber_80 : decode cX2_advanceNumber 80 = .ok (.iconst 1, 1) := by decide +kernel
theorem dX2_advanceNumber_81 : decode cX2_advanceNumber 81 = .ok (.iadd, 1) := by decide +kernel
theorem dX2_advanceNumber_82 : decode cX2_advanceNumber 82 = .ok (.putfield 36, 3) := by decide +kernel
theorem dX2_advanceNumber_85 : decode cX2_advanceNumber 85 = .ok (.goto (-80), 3) := by decide +kernel
theorem dX2_advanceNumber_88 : decode cX2_advanceNumber 88 = .ok (.aload_n 0, 1) := by decide +kernel
theorem dX2_advanceNumber_89 : decode cX2_advanceNumber 89 = .ok (.aload_n 0, 1) := by decide +kernel
theorem dX2_advanceNumber_90 : decode cX2_advanceNumber 90 = .ok (.getfield 36, 3) := by decide +kernel
theorem dX2_advanceNumber_93 : decode cX2_advanceNumber 93 = .ok (.aload_n 0, 1) := by decide +kernel
theorem dX2_advanceNumber_94 : decode cX2_advanceNumber 94 = .ok (.getfield 33, 3) := by decide +kernel
theorem dX2_advanceNumber_97 : decode cX2_advanceNumber 97 = .ok (.isub, 1) := by decide +kernel
theorem dX2_advanceNumber_98 : decode cX2_advanceNumber 98 = .ok (.iconst 2, 1) := by decide +kernel
theorem dX2_advanceNumber_99 : decode cX2_advanceNumber 99 = .ok (.if_icmp .gt 7, 3) := by decide +kernel
theorem dX2_advanceNumber_102 : decode cX2_advanceNumber 102 = .ok (.iconst 5, 1) := by decide +kernel
theorem dX2_advanceNumber_103 : decode cX2_advanceNumber 103 = .ok (.goto 4, 3) := by decide +kernel
theorem dX2_advanceNumber_106 : decode cX2_advanceNumber 106 = .ok (.iconst 1, 1) := by decide +kernel
theorem dX2_advanceNumber_107 : decode cX2_advanceNumber 107 = .ok (.putfield 42, 3) := by decide +kernel
theorem dX2_advanceNumber_110 : decode cX2_advanceNumber 110 = .ok (.return_, 1) := by decide +kernel
theorem dX2_isLetter_0 : decode cX2_isLetter 0 = .ok (.iload_n 0, 1) := by decide +kernel
theorem dX2_isLetter_1 : decode cX2_isLetter 1 = .ok (.bipush 97, 2) := by decide +kernel
theorem dX2_isLetter_3 : decode cX2_isLetter 3 = .ok (.if_icmp .lt 13, 3) := by decide +kernel
theorem dX2_isLetter_6 : decode cX2_isLetter 6 = .ok (.iload_n 0, 1) := by decide +kernel
theorem dX2_isLetter_7 : decode cX2_isLetter 7 = .ok (.bipush 122, 2) := by decide +kernel
theorem dX2_isLetter_9 : decode cX2_isLetter 9 = .ok (.if_icmp .gt 7, 3) := by decide +kernel
theorem dX2_isLetter_12 : decode cX2_isLetter 12 = .ok (.iconst 1, 1) := by decide +kernel
theorem dX2_isLetter_13 : decode cX2_isLetter 13 = .ok (.goto 4, 3) := by decide +kernel
theorem dX2_isLetter_16 : decode cX2_isLetter 16 = .ok (.iconst 0, 1) := by decide +kernel
theorem dX2_isLetter_17 : decode cX2_isLetter 17 = .ok (.ireturn, 1) := by decide +kernel
theorem dX2_isFigure_0 : decode cX2_isFigure 0 = .ok (.iload_n 0, 1) := by decide +kernel
theorem dX2_isFigure_1 : decode cX2_isFigure 1 = .ok (.bipush 48, 2) := by decide +kernel
theorem dX2_isFigure_3 : decode cX2_isFigure 3 = .ok (.if_icmp .lt 13, 3) := by decide +kernel
theorem dX2_isFigure_6 : decode cX2_isFigure 6 = .ok (.iload_n 0, 1) := by decide +kernel
theorem dX2_isFigure_7 : decode cX2_isFigure 7 = .ok (.bipush 57, 2) := by decide +kernel
theorem dX2_isFigure_9 : decode cX2_isFigure 9 = .ok (.if_icmp .gt 7, 3) := by decide +kernel
theorem dX2_isFigure_12 : decode cX2_isFigure 12 = .ok (.iconst 1, 1) := by decide +kernel
theorem dX2_isFigure_13 : decode cX2_isFigure 13 = .ok (.goto 4, 3) := by decide +kernel
theorem dX2_isFigure_16 : decode cX2_isFigure 16 = .ok (.iconst 0, 1) := by decide +kernel
theorem dX2_isFigure_17 : decode cX2_isFigure 17 = .ok (.ireturn, 1) := by decide +kernel
theorem dX3_init_0 : decode cX3_init 0 = .ok (.aload_n 0, 1) := by decide +kernel
theorem dX3_init_1 : decode cX3_init 1 = .ok (.invokespecial 3, 3) := by decide +kernel
theorem dX3_init_4 : decode cX3_init 4 = .ok (.aload_n 0, 1) := by decide +kernel
theorem dX3_init_5 : decode cX3_init 5 = .ok (.sipush 256, 3) := by decide +kernel
theorem dX3_init_8 : decode cX3_init 8 = .ok (.newarray .int, 2) := by decide +kernel
theorem dX3_init_10 : decode cX3_init 10 = .ok (.putfield 9, 3) := by decide +kernel
theorem dX3_init_13 : decode cX3_init 13 = .ok (.aload_n 0, 1) := by decide +kernel
theorem dX3_init_14 : decode cX3_init 14 = .ok (.sipush 256, 3) := by decide +kernel
theorem dX3_init_17 : decode cX3_init 17 = .ok (.newarray .int, 2) := by decide +kernel
theorem dX3_init_19 : decode cX3_init 19 = .ok (.putfield 15, 3) := by decide +kernel
theorem dX3_init_22 : decode cX3_init 22 = .ok (.aload_n 0, 1) := by decide +kernel
theorem dX3_init_23 : decode cX3_init 23 = .ok (.sipush 256, 3) := by decide +kernel
theorem dX3_init_26 : decode cX3_init 26 = .ok (.newarray .int, 2) := by decide +kernel
theorem dX3_init_28 : decode cX3_init 28 = .ok (.putfield 18, 3) := by decide +kernel
theorem dX3_init_31 : decode cX3_init 31 = .ok (.aload_n 0, 1) := by decide +kernel
theorem dX3_init_32 : decode cX3_init 32 = .ok (.sipush 256, 3) := by decide +kernel
theorem dX3_init_35 : decode cX3_init 35 = .ok (.newarray .long, 2) := by decide +kernel
theorem dX3_init_37 : decode cX3_init 37 = .ok (.putfield 21, 3) := by decide +kernel
theorem dX3_init_40 : decode cX3_init 40 = .ok (.return_, 1) := by decide +kernel
set_option maxRecDepth 20000 in
theorem ggX3_listen_X1_allPosts : GoodIn wsX3_listen wsX1_allPosts := goodIn_r _ [6, 7, 17, 18] (by decide +kernel) (by decide +kernel)
set_option maxRecDepth 20000 in
theorem gX3_listen_X1_allPosts : GoodIn wsX3_listen (wsV RX3 25 RX1 yX1_allPosts wsX1_allPosts) := goodIn_app (goodIn_of _ (by decide +kernel)) ggX3_listen_X1_allPosts
set_option maxRecDepth 20000 in
theorem ggX3_listen_X1_heardBy : GoodIn wsX3_listen wsX1_heardBy := goodIn_r _ [11, 7, 12, 17, 18] (by decide +kernel) (by decide +kernel)
set_option maxRecDepth 20000 in
theorem gX3_listen_X1_heardBy : GoodIn wsX3_listen (wsV RX3 31 RX1 yX1_heardBy wsX1_heardBy) := goodIn_app (goodIn_of _ (by decide +kernel)) ggX3_listen_X1_heardBy
theorem dX3_listen_0 : decode cX3_listen 0 = .ok (.iconst 0, 1) := by decide +kernel
theorem dX3_listen_1 : decode cX3_listen 1 = .ok (.istore_n 3, 1) := by decide +kernel
theorem dX3_listen_2 : decode cX3_listen 2 = .ok (.iload_n 3, 1) := by decide +kernel
theorem dX3_listen_3 : decode cX3_listen 3 = .ok (.aload_n 1, 1) := by decide +kernel
theorem dX3_listen_4 : decode cX3_listen 4 = .ok (.invokevirtual 25, 3) := by decide +kernel
theorem dX3_listen_7 : decode cX3_listen 7 = .ok (.if_icmp .gt 21, 3) := by decide +kernel
theorem dX3_listen_10 : decode cX3_listen 10 = .ok (.aload_n 0, 1) := by decide +kernel
theorem dX3_listen_11 : decode cX3_listen 11 = .ok (.getfield 9, 3) := by decide +kernel
theorem dX3_listen_14 : decode cX3_listen 14 = .ok (.iload_n 3, 1) := by decide +kernel
theorem dX3_listen_15 : decode cX3_listen 15 = .ok (.aload_n 1, 1) := by decide +kernel
theorem dX3_listen_16 : decode cX3_listen 16 = .ok (.iload_n 2, 1) := by decide +kernel
theorem dX3_listen_17 : decode cX3_listen 17 = .ok (.iload_n 3, 1) := by decide +kernel
theorem dX3_listen_18 : decode cX3_listen 18 = .ok (.invokevirtual 31, 3) := by decide +kernel
theorem dX3_listen_21 : decode cX3_listen 21 = .ok (.iastore, 1) := by decide +kernel
theorem dX3_listen_22 : decode cX3_listen 22 = .ok (.iinc 3 1, 3) := by decide +kernel
theorem dX3_listen_25 : decode cX3_listen 25 = .ok (.goto (-23), 3) := by decide +kernel
theorem dX3_listen_28 : decode cX3_listen 28 = .ok (.return_, 1) := by decide +kernel
set_option maxRecDepth 20000 in
theorem ggX3_findFewest_X3_fewestBehindOneRound : GoodIn wsX3_findFewest wsX3_fewestBehindOneRound := goodIn_r _ [6, 7, 1, 8, 9, 10, 11, 12, 13, 14, 15] (by decide +kernel) (by decide +kernel)
set_option maxRecDepth 20000 in
theorem gX3_findFewest_X3_fewestBehindOneRound : GoodIn wsX3_findFewest (wsV RX3 35 RX3 yX3_fewestBehindOneRound wsX3_fewestBehindOneRound) := goodIn_app (goodIn_of _ (by decide +kernel)) ggX3_findFewest_X3_fewestBehindOneRound
theorem dX3_findFewest_0 : decode cX3_findFewest 0 = .ok (.aload_n 0, 1) := by decide +kernel
theorem dX3_findFewest_1 : decode cX3_findFewest 1 = .ok (.getfield 15, 3) := by decide +kernel
theorem dX3_findFewest_4 : decode cX3_findFewest 4 = .ok (.iload_n 2, 1) := by decide +kernel
theorem dX3_findFewest_5 : decode cX3_findFewest 5 = .ok (.iconst 0, 1) := by decide +kernel
theorem dX3_findFewest_6 : decode cX3_findFewest 6 = .ok (.iastore, 1) := by decide +kernel
theorem dX3_findFewest_7 : decode cX3_findFewest 7 = .ok (.iload_n 2, 1) := by decide +kernel
theorem dX3_findFewest_8 : decode cX3_findFewest 8 = .ok (.iconst 1, 1) := by decide +kernel
theorem dX3_findFewest_9 : decode cX3_findFewest 9 = .ok (.isub, 1) := by decide +kernel
theorem dX3_findFewest_10 : decode cX3_findFewest 10 = .ok (.istore_n 3, 1) := by decide +kernel
theorem dX3_findFewest_11 : decode cX3_findFewest 11 = .ok (.iload_n 3, 1) := by decide +kernel
theorem dX3_findFewest_12 : decode cX3_findFewest 12 = .ok (.iload_n 1, 1) := by decide +kernel
theorem dX3_findFewest_13 : decode cX3_findFewest 13 = .ok (.if_icmp .lt 37, 3) := by decide +kernel
theorem dX3_findFewest_16 : decode cX3_findFewest 16 = .ok (.iload_n 3, 1) := by decide +kernel
theorem dX3_findFewest_17 : decode cX3_findFewest 17 = .ok (.iload_n 1, 1) := by decide +kernel
theorem dX3_findFewest_18 : decode cX3_findFewest 18 = .ok (.iand, 1) := by decide +kernel
theorem dX3_findFewest_19 : decode cX3_findFewest 19 = .ok (.iload_n 1, 1) := by decide +kernel
theorem dX3_findFewest_20 : decode cX3_findFewest 20 = .ok (.if_icmp .ne 24, 3) := by decide +kernel
theorem dX3_findFewest_23 : decode cX3_findFewest 23 = .ok (.iload_n 3, 1) := by decide +kernel
theorem dX3_findFewest_24 : decode cX3_findFewest 24 = .ok (.iload_n 2, 1) := by decide +kernel
theorem dX3_findFewest_25 : decode cX3_findFewest 25 = .ok (.iconst (-1), 1) := by decide +kernel
theorem dX3_findFewest_26 : decode cX3_findFewest 26 = .ok (.ixor, 1) := by decide +kernel
theorem dX3_findFewest_27 : decode cX3_findFewest 27 = .ok (.iand, 1) := by decide +kernel
theorem dX3_findFewest_28 : decode cX3_findFewest 28 = .ok (.ifCond .ne 16, 3) := by decide +kernel
theorem dX3_findFewest_31 : decode cX3_findFewest 31 = .ok (.aload_n 0, 1) := by decide +kernel
theorem dX3_findFewest_32 : decode cX3_findFewest 32 = .ok (.getfield 15, 3) := by decide +kernel
theorem dX3_findFewest_35 : decode cX3_findFewest 35 = .ok (.iload_n 3, 1) := by decide +kernel
theorem dX3_findFewest_36 : decode cX3_findFewest 36 = .ok (.iconst 1, 1) := by decide +kernel
theorem dX3_findFewest_37 : decode cX3_findFewest 37 = .ok (.aload_n 0, 1) := by decide +kernel
theorem dX3_findFewest_38 : decode cX3_findFewest 38 = .ok (.iload_n 3, 1) := by decide +kernel
theorem dX3_findFewest_39 : decode cX3_findFewest 39 = .ok (.invokevirtual 35, 3) := by decide +kernel
theorem dX3_findFewest_42 : decode cX3_findFewest 42 = .ok (.iadd, 1) := by decide +kernel
theorem dX3_findFewest_43 : decode cX3_findFewest 43 = .ok (.iastore, 1) := by decide +kernel
theorem dX3_findFewest_44 : decode cX3_findFewest 44 = .ok (.iinc 3 (-1), 3) := by decide +kernel
theorem dX3_findFewest_47 : decode cX3_findFewest 47 = .ok (.goto (-36), 3) := by decide +kernel
theorem dX3_findFewest_50 : decode cX3_findFewest 50 = .ok (.return_, 1) := by decide +kernel
theorem dX3_fewestBehindOneRound_0 : decode cX3_fewestBehindOneRound 0 = .ok (.bipush 8, 2) := by decide +kernel
theorem dX3_fewestBehindOneRound_2 : decode cX3_fewestBehindOneRound 2 = .ok (.istore_n 2, 1) := by decide +kernel
theorem dX3_fewestBehindOneRound_3 : decode cX3_fewestBehindOneRound 3 = .ok (.iload_n 1, 1) := by decide +kernel
theorem dX3_fewestBehindOneRound_4 : decode cX3_fewestBehindOneRound 4 = .ok (.istore_n 3, 1) := by decide +kernel
theorem dX3_fewestBehindOneRound_5 : decode cX3_fewestBehindOneRound 5 = .ok (.iload_n 3, 1) := by decide +kernel
theorem dX3_fewestBehindOneRound_6 : decode cX3_fewestBehindOneRound 6 = .ok (.ifCond .le 40, 3) := by decide +kernel
theorem dX3_fewestBehindOneRound_9 : decode cX3_fewestBehindOneRound 9 = .ok (.iload_n 1, 1) := by decide +kernel
theorem dX3_fewestBehindOneRound_10 : decode cX3_fewestBehindOneRound 10 = .ok (.aload_n 0, 1) := by decide +kernel
theorem dX3_fewestBehindOneRound_11 : decode cX3_fewestBehindOneRound 11 = .ok (.getfield 9, 3) := by decide +kernel
theorem dX3_fewestBehindOneRound_14 : decode cX3_fewestBehindOneRound 14 = .ok (.iload_n 3, 1) := by decide +kernel
theorem dX3_fewestBehindOneRound_15 : decode cX3_fewestBehindOneRound 15 = .ok (.iaload, 1) := by decide +kernel
theorem dX3_fewestBehindOneRound_16 : decode cX3_fewestBehindOneRound 16 = .ok (.ior, 1) := by decide +kernel
theorem dX3_fewestBehindOneRound_17 : decode cX3_fewestBehindOneRound 17 = .ok (.istore 4, 2) := by decide +kernel
theorem dX3_fewestBehindOneRound_19 : decode cX3_fewestBehindOneRound 19 = .ok (.iload 4, 2) := by decide +kernel
theorem dX3_fewestBehindOneRound_21 : decode cX3_fewestBehindOneRound 21 = .ok (.iload_n 1, 1) := by decide +kernel
theorem dX3_fewestBehindOneRound_22 : decode cX3_fewestBehindOneRound 22 = .ok (.if_icmp .eq 15, 3) := by decide +kernel
theorem dX3_fewestBehindOneRound_25 : decode cX3_fewestBehindOneRound 25 = .ok (.iload_n 2, 1) := by decide +kernel
theorem dX3_fewestBehindOneRound_26 : decode cX3_fewestBehindOneRound 26 = .ok (.aload_n 0, 1) := by decide +kernel
theorem dX3_fewestBehindOneRound_27 : decode cX3_fewestBehindOneRound 27 = .ok (.getfield 15, 3) := by decide +kernel
theorem dX3_fewestBehindOneRound_30 : decode cX3_fewestBehindOneRound 30 = .ok (.iload 4, 2) := by decide +kernel
theorem dX3_fewestBehindOneRound_32 : decode cX3_fewestBehindOneRound 32 = .ok (.iaload, 1) := by decide +kernel
theorem dX3_fewestBehindOneRound_33 : decode cX3_fewestBehindOneRound 33 = .ok (.invokestatic 39, 3) := by decide +kernel
theorem dX3_fewestBehindOneRound_36 : decode cX3_fewestBehindOneRound 36 = .ok (.istore_n 2, 1) := by decide +kernel
theorem dX3_fewestBehindOneRound_37 : decode cX3_fewestBehindOneRound 37 = .ok (.iload_n 3, 1) := by decide +kernel
theorem dX3_fewestBehindOneRound_38 : decode cX3_fewestBehindOneRound 38 = .ok (.iconst 1, 1) := by decide +kernel
theorem dX3_fewestBehindOneRound_39 : decode cX3_fewestBehindOneRound 39 = .ok (.isub, 1) := by decide +kernel
theorem dX3_fewestBehindOneRound_40 : decode cX3_fewestBehindOneRound 40 = .ok (.iload_n 1, 1) := by decide +kernel
theorem dX3_fewestBehindOneRound_41 : decode cX3_fewestBehindOneRound 41 = .ok (.iand, 1) := by decide +kernel
theorem dX3_fewestBehindOneRound_42 : decode cX3_fewestBehindOneRound 42 = .ok (.istore_n 3, 1) := by decide +kernel
theorem dX3_fewestBehindOneRound_43 : decode cX3_fewestBehindOneRound 43 = .ok (.goto (-38), 3) := by decide +kernel
theorem dX3_fewestBehindOneRound_46 : decode cX3_fewestBehindOneRound 46 = .ok (.iload_n 2, 1) := by decide +kernel
theorem dX3_fewestBehindOneRound_47 : decode cX3_fewestBehindOneRound 47 = .ok (.ireturn, 1) := by decide +kernel
theorem dX3_fewestFrom_0 : decode cX3_fewestFrom 0 = .ok (.aload_n 0, 1) := by decide +kernel
theorem dX3_fewestFrom_1 : decode cX3_fewestFrom 1 = .ok (.getfield 15, 3) := by decide +kernel
theorem dX3_fewestFrom_4 : decode cX3_fewestFrom 4 = .ok (.iload_n 1, 1) := by decide +kernel
theorem dX3_fewestFrom_5 : decode cX3_fewestFrom 5 = .ok (.iaload, 1) := by decide +kernel
theorem dX3_fewestFrom_6 : decode cX3_fewestFrom 6 = .ok (.ireturn, 1) := by decide +kernel
theorem dX3_firstSet_0 : decode cX3_firstSet 0 = .ok (.iconst 1, 1) := by decide +kernel
theorem dX3_firstSet_1 : decode cX3_firstSet 1 = .ok (.istore_n 2, 1) := by decide +kernel
theorem dX3_firstSet_2 : decode cX3_firstSet 2 = .ok (.iload_n 2, 1) := by decide +kernel
theorem dX3_firstSet_3 : decode cX3_firstSet 3 = .ok (.iload_n 1, 1) := by decide +kernel
theorem dX3_firstSet_4 : decode cX3_firstSet 4 = .ok (.if_icmp .gt 41, 3) := by decide +kernel
theorem dX3_firstSet_7 : decode cX3_firstSet 7 = .ok (.iload_n 2, 1) := by decide +kernel
theorem dX3_firstSet_8 : decode cX3_firstSet 8 = .ok (.iload_n 1, 1) := by decide +kernel
theorem dX3_firstSet_9 : decode cX3_firstSet 9 = .ok (.iconst (-1), 1) := by decide +kernel
theorem dX3_firstSet_10 : decode cX3_firstSet 10 = .ok (.ixor, 1) := by decide +kernel
theorem dX3_firstSet_11 : decode cX3_firstSet 11 = .ok (.iand, 1) := by decide +kernel
theorem dX3_firstSet_12 : decode cX3_firstSet 12 = .ok (.ifCond .ne 27, 3) := by decide +kernel
theorem dX3_firstSet_15 : decode cX3_firstSet 15 = .ok (.aload_n 0, 1) := by decide +kernel
theorem dX3_firstSet_16 : decode cX3_firstSet 16 = .ok (.getfield 15, 3) := by decide +kernel
theorem dX3_firstSet_19 : decode cX3_firstSet 19 = .ok (.iload_n 1, 1) := by decide +kernel
theorem dX3_firstSet_20 : decode cX3_firstSet 20 = .ok (.aload_n 0, 1) := by decide +kernel
theorem dX3_firstSet_21 : decode cX3_firstSet 21 = .ok (.getfield 9, 3) := by decide +kernel
theorem dX3_firstSet_24 : decode cX3_firstSet 24 = .ok (.iload_n 2, 1) := by decide +kernel
theorem dX3_firstSet_25 : decode cX3_firstSet 25 = .ok (.iaload, 1) := by decide +kernel
theorem dX3_firstSet_26 : decode cX3_firstSet 26 = .ok (.ior, 1) := by decide +kernel
theorem dX3_firstSet_27 : decode cX3_firstSet 27 = .ok (.iaload, 1) := by decide +kernel
theorem dX3_firstSet_28 : decode cX3_firstSet 28 = .ok (.aload_n 0, 1) := by decide +kernel
theorem dX3_firstSet_29 : decode cX3_firstSet 29 = .ok (.getfield 15, 3) := by decide +kernel
theorem dX3_firstSet_32 : decode cX3_firstSet 32 = .ok (.iload_n 1, 1) := by decide +kernel
theorem dX3_firstSet_33 : decode cX3_firstSet 33 = .ok (.iaload, 1) := by decide +kernel
theorem dX3_firstSet_34 : decode cX3_firstSet 34 = .ok (.if_icmp .ge 5, 3) := by decide +kernel
theorem dX3_firstSet_37 : decode cX3_firstSet 37 = .ok (.iload_n 2, 1) := by decide +kernel
theorem dX3_firstSet_38 : decode cX3_firstSet 38 = .ok (.ireturn, 1) := by decide +kernel
