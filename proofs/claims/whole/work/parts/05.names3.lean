theorem dX6_picks_1 : decode cX6_picks 1 = .ok (.invokestatic 53, 3) := by decide +kernel
theorem dX6_picks_4 : decode cX6_picks 4 = .ok (.ifCond .eq 37, 3) := by decide +kernel
theorem dX6_picks_7 : decode cX6_picks 7 = .ok (.iload_n 3, 1) := by decide +kernel
theorem dX6_picks_8 : decode cX6_picks 8 = .ok (.iconst 1, 1) := by decide +kernel
theorem dX6_picks_9 : decode cX6_picks 9 = .ok (.if_icmp .lt 32, 3) := by decide +kernel
theorem dX6_picks_12 : decode cX6_picks 12 = .ok (.iload_n 3, 1) := by decide +kernel
theorem dX6_picks_13 : decode cX6_picks 13 = .ok (.bipush 40, 2) := by decide +kernel
theorem dX6_picks_15 : decode cX6_picks 15 = .ok (.if_icmp .gt 26, 3) := by decide +kernel
theorem dX6_picks_18 : decode cX6_picks 18 = .ok (.iload 4, 2) := by decide +kernel
theorem dX6_picks_20 : decode cX6_picks 20 = .ok (.iconst 1, 1) := by decide +kernel
theorem dX6_picks_21 : decode cX6_picks 21 = .ok (.if_icmp .lt 20, 3) := by decide +kernel
theorem dX6_picks_24 : decode cX6_picks 24 = .ok (.iload 4, 2) := by decide +kernel
theorem dX6_picks_26 : decode cX6_picks 26 = .ok (.iconst 4, 1) := by decide +kernel
theorem dX6_picks_27 : decode cX6_picks 27 = .ok (.if_icmp .gt 14, 3) := by decide +kernel
theorem dX6_picks_30 : decode cX6_picks 30 = .ok (.iload 5, 2) := by decide +kernel
theorem dX6_picks_32 : decode cX6_picks 32 = .ok (.ifCond .lt 9, 3) := by decide +kernel
theorem dX6_picks_35 : decode cX6_picks 35 = .ok (.iload 5, 2) := by decide +kernel
theorem dX6_picks_37 : decode cX6_picks 37 = .ok (.iconst 1, 1) := by decide +kernel
theorem dX6_picks_38 : decode cX6_picks 38 = .ok (.if_icmp .le 6, 3) := by decide +kernel
theorem dX6_picks_41 : decode cX6_picks 41 = .ok (.ldc 57, 2) := by decide +kernel
theorem dX6_picks_43 : decode cX6_picks 43 = .ok (.ireturn, 1) := by decide +kernel
theorem dX6_picks_44 : decode cX6_picks 44 = .ok (.aload_n 0, 1) := by decide +kernel
theorem dX6_picks_45 : decode cX6_picks 45 = .ok (.aload_n 0, 1) := by decide +kernel
theorem dX6_picks_46 : decode cX6_picks 46 = .ok (.getfield 10, 3) := by decide +kernel
theorem dX6_picks_49 : decode cX6_picks 49 = .ok (.iload_n 1, 1) := by decide +kernel
theorem dX6_picks_50 : decode cX6_picks 50 = .ok (.iload_n 2, 1) := by decide +kernel
theorem dX6_picks_51 : decode cX6_picks 51 = .ok (.iload_n 3, 1) := by decide +kernel
theorem dX6_picks_52 : decode cX6_picks 52 = .ok (.invokevirtual 67, 3) := by decide +kernel
theorem dX6_picks_55 : decode cX6_picks 55 = .ok (.putfield 58, 3) := by decide +kernel
theorem dX6_picks_58 : decode cX6_picks 58 = .ok (.aload_n 0, 1) := by decide +kernel
theorem dX6_picks_59 : decode cX6_picks 59 = .ok (.getfield 58, 3) := by decide +kernel
theorem dX6_picks_62 : decode cX6_picks 62 = .ok (.ifCond .eq 11, 3) := by decide +kernel
theorem dX6_picks_65 : decode cX6_picks 65 = .ok (.ldc 62, 2) := by decide +kernel
theorem dX6_picks_67 : decode cX6_picks 67 = .ok (.aload_n 0, 1) := by decide +kernel
theorem dX6_picks_68 : decode cX6_picks 68 = .ok (.getfield 58, 3) := by decide +kernel
theorem dX6_picks_71 : decode cX6_picks 71 = .ok (.isub, 1) := by decide +kernel
theorem dX6_picks_72 : decode cX6_picks 72 = .ok (.ireturn, 1) := by decide +kernel
theorem dX6_picks_73 : decode cX6_picks 73 = .ok (.aload_n 0, 1) := by decide +kernel
theorem dX6_picks_74 : decode cX6_picks 74 = .ok (.iload_n 1, 1) := by decide +kernel
theorem dX6_picks_75 : decode cX6_picks 75 = .ok (.iload_n 2, 1) := by decide +kernel
theorem dX6_picks_76 : decode cX6_picks 76 = .ok (.iload_n 3, 1) := by decide +kernel
theorem dX6_picks_77 : decode cX6_picks 77 = .ok (.iload 4, 2) := by decide +kernel
theorem dX6_picks_79 : decode cX6_picks 79 = .ok (.invokevirtual 202, 3) := by decide +kernel
theorem dX6_picks_82 : decode cX6_picks 82 = .ok (.istore 6, 2) := by decide +kernel
theorem dX6_picks_84 : decode cX6_picks 84 = .ok (.iload 5, 2) := by decide +kernel
theorem dX6_picks_86 : decode cX6_picks 86 = .ok (.iconst 1, 1) := by decide +kernel
theorem dX6_picks_87 : decode cX6_picks 87 = .ok (.if_icmp .ne 6, 3) := by decide +kernel
theorem dX6_picks_90 : decode cX6_picks 90 = .ok (.iload 6, 2) := by decide +kernel
theorem dX6_picks_92 : decode cX6_picks 92 = .ok (.ireturn, 1) := by decide +kernel
theorem dX6_picks_93 : decode cX6_picks 93 = .ok (.iload 6, 2) := by decide +kernel
theorem dX6_picks_95 : decode cX6_picks 95 = .ok (.ldc 173, 2) := by decide +kernel
theorem dX6_picks_97 : decode cX6_picks 97 = .ok (.if_icmp .ne 7, 3) := by decide +kernel
theorem dX6_picks_100 : decode cX6_picks 100 = .ok (.iconst 1, 1) := by decide +kernel
theorem dX6_picks_101 : decode cX6_picks 101 = .ok (.goto 4, 3) := by decide +kernel
theorem dX6_picks_104 : decode cX6_picks 104 = .ok (.iconst 0, 1) := by decide +kernel
theorem dX6_picks_105 : decode cX6_picks 105 = .ok (.ireturn, 1) := by decide +kernel
set_option maxRecDepth 20000 in
theorem ggX6_kind_X1_hasPost : GoodIn wsX6_kind wsX1_hasPost := goodIn_r _ [7, 8, 41, 42] (by decide +kernel) (by decide +kernel)
set_option maxRecDepth 20000 in
theorem gX6_kind_X1_hasPost : GoodIn wsX6_kind (wsV RX6 109 RX1 yX1_hasPost wsX1_hasPost) := goodIn_app (goodIn_of _ (by decide +kernel)) ggX6_kind_X1_hasPost
set_option maxRecDepth 20000 in
theorem ggX6_kind_X1_kindOf : GoodIn wsX6_kind wsX1_kindOf := goodIn_r _ [12, 13, 14, 15, 6, 16, 17, 18, 19, 20, 21, 22, 23, 24, 25, 26, 27, 28, 8, 29, 30, 31, 32, 41, 42] (by decide +kernel) (by decide +kernel)
set_option maxRecDepth 20000 in
theorem gX6_kind_X1_kindOf : GoodIn wsX6_kind (wsV RX6 206 RX1 yX1_kindOf wsX1_kindOf) := goodIn_app (goodIn_of _ (by decide +kernel)) ggX6_kind_X1_kindOf
theorem dX6_kind_0 : decode cX6_kind 0 = .ok (.aload_n 0, 1) := by decide +kernel
theorem dX6_kind_1 : decode cX6_kind 1 = .ok (.getfield 19, 3) := by decide +kernel
theorem dX6_kind_4 : decode cX6_kind 4 = .ok (.iload_n 1, 1) := by decide +kernel
theorem dX6_kind_5 : decode cX6_kind 5 = .ok (.invokevirtual 109, 3) := by decide +kernel
theorem dX6_kind_8 : decode cX6_kind 8 = .ok (.ifCond .eq 14, 3) := by decide +kernel
theorem dX6_kind_11 : decode cX6_kind 11 = .ok (.aload_n 0, 1) := by decide +kernel
theorem dX6_kind_12 : decode cX6_kind 12 = .ok (.getfield 19, 3) := by decide +kernel
theorem dX6_kind_15 : decode cX6_kind 15 = .ok (.iload_n 1, 1) := by decide +kernel
theorem dX6_kind_16 : decode cX6_kind 16 = .ok (.invokevirtual 206, 3) := by decide +kernel
theorem dX6_kind_19 : decode cX6_kind 19 = .ok (.goto 5, 3) := by decide +kernel
theorem dX6_kind_22 : decode cX6_kind 22 = .ok (.ldc 57, 2) := by decide +kernel
theorem dX6_kind_24 : decode cX6_kind 24 = .ok (.ireturn, 1) := by decide +kernel
set_option maxRecDepth 20000 in
theorem ggX6_as_X1_hasPost : GoodIn wsX6_as wsX1_hasPost := goodIn_r _ [9, 10, 48, 49] (by decide +kernel) (by decide +kernel)
set_option maxRecDepth 20000 in
theorem gX6_as_X1_hasPost : GoodIn wsX6_as (wsV RX6 109 RX1 yX1_hasPost wsX1_hasPost) := goodIn_app (goodIn_of _ (by decide +kernel)) ggX6_as_X1_hasPost
set_option maxRecDepth 20000 in
theorem ggX6_as_X1_isOfKind : GoodIn wsX6_as wsX1_isOfKind := goodIn_r _ [14, 15, 16, 17, 8, 18, 19, 20, 21, 22, 23, 24, 25, 26, 27, 28, 29, 30, 31, 32, 33, 34, 10, 35, 36, 37, 38, 48, 49] (by decide +kernel) (by decide +kernel)
set_option maxRecDepth 20000 in
theorem gX6_as_X1_isOfKind : GoodIn wsX6_as (wsV RX6 209 RX1 yX1_isOfKind wsX1_isOfKind) := goodIn_app (goodIn_of _ (by decide +kernel)) ggX6_as_X1_isOfKind
set_option maxRecDepth 20000 in
theorem ggX6_as_X1_degree : GoodIn wsX6_as wsX1_degree := goodIn_r _ [22, 23, 24, 25, 26, 27, 28, 29, 30, 48, 49] (by decide +kernel) (by decide +kernel)
set_option maxRecDepth 20000 in
theorem gX6_as_X1_degree : GoodIn wsX6_as (wsV RX6 115 RX1 yX1_degree wsX1_degree) := goodIn_app (goodIn_of _ (by decide +kernel)) ggX6_as_X1_degree
theorem dX6_as_0 : decode cX6_as 0 = .ok (.aload_n 0, 1) := by decide +kernel
theorem dX6_as_1 : decode cX6_as 1 = .ok (.getfield 19, 3) := by decide +kernel
theorem dX6_as_4 : decode cX6_as 4 = .ok (.iload_n 1, 1) := by decide +kernel
theorem dX6_as_5 : decode cX6_as 5 = .ok (.invokevirtual 109, 3) := by decide +kernel
theorem dX6_as_8 : decode cX6_as 8 = .ok (.ifCond .eq 12, 3) := by decide +kernel
theorem dX6_as_11 : decode cX6_as 11 = .ok (.iload_n 2, 1) := by decide +kernel
theorem dX6_as_12 : decode cX6_as 12 = .ok (.ifCond .lt 8, 3) := by decide +kernel
theorem dX6_as_15 : decode cX6_as 15 = .ok (.iload_n 2, 1) := by decide +kernel
theorem dX6_as_16 : decode cX6_as 16 = .ok (.iconst 4, 1) := by decide +kernel
theorem dX6_as_17 : decode cX6_as 17 = .ok (.if_icmp .le 6, 3) := by decide +kernel
theorem dX6_as_20 : decode cX6_as 20 = .ok (.ldc 57, 2) := by decide +kernel
theorem dX6_as_22 : decode cX6_as 22 = .ok (.ireturn, 1) := by decide +kernel
theorem dX6_as_23 : decode cX6_as 23 = .ok (.aload_n 0, 1) := by decide +kernel
theorem dX6_as_24 : decode cX6_as 24 = .ok (.aload_n 0, 1) := by decide +kernel
theorem dX6_as_25 : decode cX6_as 25 = .ok (.getfield 19, 3) := by decide +kernel
theorem dX6_as_28 : decode cX6_as 28 = .ok (.iload_n 1, 1) := by decide +kernel
theorem dX6_as_29 : decode cX6_as 29 = .ok (.iload_n 2, 1) := by decide +kernel
theorem dX6_as_30 : decode cX6_as 30 = .ok (.invokevirtual 209, 3) := by decide +kernel
theorem dX6_as_33 : decode cX6_as 33 = .ok (.ifCond .eq 7, 3) := by decide +kernel
theorem dX6_as_36 : decode cX6_as 36 = .ok (.iconst 0, 1) := by decide +kernel
theorem dX6_as_37 : decode cX6_as 37 = .ok (.goto 4, 3) := by decide +kernel
theorem dX6_as_40 : decode cX6_as 40 = .ok (.iconst 3, 1) := by decide +kernel
theorem dX6_as_41 : decode cX6_as 41 = .ok (.putfield 58, 3) := by decide +kernel
theorem dX6_as_44 : decode cX6_as 44 = .ok (.aload_n 0, 1) := by decide +kernel
theorem dX6_as_45 : decode cX6_as 45 = .ok (.getfield 58, 3) := by decide +kernel
theorem dX6_as_48 : decode cX6_as 48 = .ok (.ifCond .eq 13, 3) := by decide +kernel
theorem dX6_as_51 : decode cX6_as 51 = .ok (.ldc 62, 2) := by decide +kernel
theorem dX6_as_53 : decode cX6_as 53 = .ok (.aload_n 0, 1) := by decide +kernel
theorem dX6_as_54 : decode cX6_as 54 = .ok (.getfield 58, 3) := by decide +kernel
theorem dX6_as_57 : decode cX6_as 57 = .ok (.isub, 1) := by decide +kernel
theorem dX6_as_58 : decode cX6_as 58 = .ok (.goto 11, 3) := by decide +kernel
theorem dX6_as_61 : decode cX6_as 61 = .ok (.aload_n 0, 1) := by decide +kernel
theorem dX6_as_62 : decode cX6_as 62 = .ok (.getfield 19, 3) := by decide +kernel
theorem dX6_as_65 : decode cX6_as 65 = .ok (.iload_n 1, 1) := by decide +kernel
theorem dX6_as_66 : decode cX6_as 66 = .ok (.invokevirtual 115, 3) := by decide +kernel
theorem dX6_as_69 : decode cX6_as 69 = .ok (.ireturn, 1) := by decide +kernel
set_option maxRecDepth 20000 in
theorem ggX6_ask_X1_hasPost : GoodIn wsX6_ask wsX1_hasPost := goodIn_r _ [8, 9, 99, 100] (by decide +kernel) (by decide +kernel)
set_option maxRecDepth 20000 in
theorem gX6_ask_X1_hasPost : GoodIn wsX6_ask (wsV RX6 109 RX1 yX1_hasPost wsX1_hasPost) := goodIn_app (goodIn_of _ (by decide +kernel)) ggX6_ask_X1_hasPost
set_option maxRecDepth 20000 in
theorem ggX6_ask_X0_answer : GoodIn wsX6_ask wsX0_answer := goodIn_r _ [14, 15, 16, 17, 18, 13, 19, 20, 21, 22, 23, 7, 24, 25, 26, 27, 28, 29, 30, 31, 32, 33, 34, 35, 36, 37, 38, 39, 40, 9, 41, 42, 43, 44, 45, 46, 47, 48, 49, 50, 51, 52, 53, 54, 55, 56, 57, 58, 59, 60, 61, 62, 63, 64, 65, 66, 67, 68, 69, 70, 71, 72, 73, 74, 75, 76, 77, 78, 79, 80, 81, 82, 83, 84, 85, 86, 87, 88, 89, 90, 101, 102, 103, 99, 100] (by decide +kernel) (by decide +kernel)
set_option maxRecDepth 20000 in
theorem gX6_ask_X0_answer : GoodIn wsX6_ask (wsV RX6 212 RX0 yX0_answer wsX0_answer) := goodIn_app (goodIn_of _ (by decide +kernel)) ggX6_ask_X0_answer
theorem dX6_ask_0 : decode cX6_ask 0 = .ok (.aload_n 0, 1) := by decide +kernel
theorem dX6_ask_1 : decode cX6_ask 1 = .ok (.getfield 19, 3) := by decide +kernel
theorem dX6_ask_4 : decode cX6_ask 4 = .ok (.iload_n 1, 1) := by decide +kernel
theorem dX6_ask_5 : decode cX6_ask 5 = .ok (.invokevirtual 109, 3) := by decide +kernel
theorem dX6_ask_8 : decode cX6_ask 8 = .ok (.ifCond .eq 12, 3) := by decide +kernel
theorem dX6_ask_11 : decode cX6_ask 11 = .ok (.iload_n 2, 1) := by decide +kernel
theorem dX6_ask_12 : decode cX6_ask 12 = .ok (.ifCond .lt 8, 3) := by decide +kernel
theorem dX6_ask_15 : decode cX6_ask 15 = .ok (.iload_n 2, 1) := by decide +kernel
theorem dX6_ask_16 : decode cX6_ask 16 = .ok (.iconst 1, 1) := by decide +kernel
theorem dX6_ask_17 : decode cX6_ask 17 = .ok (.if_icmp .le 6, 3) := by decide +kernel
theorem dX6_ask_20 : decode cX6_ask 20 = .ok (.ldc 57, 2) := by decide +kernel
theorem dX6_ask_22 : decode cX6_ask 22 = .ok (.ireturn, 1) := by decide +kernel
theorem dX6_ask_23 : decode cX6_ask 23 = .ok (.aload_n 0, 1) := by decide +kernel
theorem dX6_ask_24 : decode cX6_ask 24 = .ok (.getfield 49, 3) := by decide +kernel
theorem dX6_ask_27 : decode cX6_ask 27 = .ok (.iload_n 1, 1) := by decide +kernel
theorem dX6_ask_28 : decode cX6_ask 28 = .ok (.iload_n 2, 1) := by decide +kernel
theorem dX6_ask_29 : decode cX6_ask 29 = .ok (.invokevirtual 212, 3) := by decide +kernel
theorem dX6_ask_32 : decode cX6_ask 32 = .ok (.ireturn, 1) := by decide +kernel
set_option maxRecDepth 20000 in
theorem ggX6_trace_X0_begunBody : GoodIn wsX6_trace wsX0_begunBody := goodIn_r _ [6, 7, 8, 9, 18, 19, 20] (by decide +kernel) (by decide +kernel)
set_option maxRecDepth 20000 in
theorem gX6_trace_X0_begunBody : GoodIn wsX6_trace (wsV RX6 215 RX0 yX0_begunBody wsX0_begunBody) := goodIn_app (goodIn_of _ (by decide +kernel)) ggX6_trace_X0_begunBody
theorem dX6_trace_0 : decode cX6_trace 0 = .ok (.aload_n 0, 1) := by decide +kernel
theorem dX6_trace_1 : decode cX6_trace 1 = .ok (.getfield 49, 3) := by decide +kernel
theorem dX6_trace_4 : decode cX6_trace 4 = .ok (.iload_n 1, 1) := by decide +kernel
theorem dX6_trace_5 : decode cX6_trace 5 = .ok (.invokevirtual 215, 3) := by decide +kernel
theorem dX6_trace_8 : decode cX6_trace 8 = .ok (.ireturn, 1) := by decide +kernel
set_option maxRecDepth 20000 in
theorem ggX6_count_X4_size : GoodIn wsX6_count wsX4_size := goodIn_r _ [10, 11, 12, 13, 9, 14, 15, 74, 75, 76] (by decide +kernel) (by decide +kernel)
set_option maxRecDepth 20000 in
theorem gX6_count_X4_size : GoodIn wsX6_count (wsV RX6 218 RX4 yX4_size wsX4_size) := goodIn_app (goodIn_of _ (by decide +kernel)) ggX6_count_X4_size
set_option maxRecDepth 20000 in
theorem ggX6_count_X1_size : GoodIn wsX6_count wsX1_size := goodIn_r _ [20, 21, 77, 78] (by decide +kernel) (by decide +kernel)
set_option maxRecDepth 20000 in
theorem gX6_count_X1_size : GoodIn wsX6_count (wsV RX6 146 RX1 yX1_size wsX1_size) := goodIn_app (goodIn_of _ (by decide +kernel)) ggX6_count_X1_size
set_option maxRecDepth 20000 in
theorem ggX6_count_X1_pairs : GoodIn wsX6_count wsX1_pairs := goodIn_r _ [25, 21, 26, 27, 28, 19, 29, 30, 31, 32, 33, 34, 35, 36, 37, 77, 78] (by decide +kernel) (by decide +kernel)
set_option maxRecDepth 20000 in
theorem gX6_count_X1_pairs : GoodIn wsX6_count (wsV RX6 219 RX1 yX1_pairs wsX1_pairs) := goodIn_app (goodIn_of _ (by decide +kernel)) ggX6_count_X1_pairs
set_option maxRecDepth 20000 in
theorem ggX6_count_X5_size : GoodIn wsX6_count wsX5_size := goodIn_r _ [42, 43, 79, 80] (by decide +kernel) (by decide +kernel)
set_option maxRecDepth 20000 in
theorem gX6_count_X5_size : GoodIn wsX6_count (wsV RX6 163 RX5 yX5_size wsX5_size) := goodIn_app (goodIn_of _ (by decide +kernel)) ggX6_count_X5_size
set_option maxRecDepth 20000 in
theorem ggX6_count_X1_countOf : GoodIn wsX6_count wsX1_countOf := goodIn_r _ [47, 21, 48, 49, 50, 19, 51, 26, 27, 28, 29, 30, 31, 32, 33, 34, 35, 36, 37, 52, 53, 54, 55, 56, 57, 58, 59, 77, 78] (by decide +kernel) (by decide +kernel)
set_option maxRecDepth 20000 in
theorem gX6_count_X1_countOf : GoodIn wsX6_count (wsV RX6 222 RX1 yX1_countOf wsX1_countOf) := goodIn_app (goodIn_of _ (by decide +kernel)) ggX6_count_X1_countOf
set_option maxRecDepth 20000 in
theorem ggX6_count_X2_size : GoodIn wsX6_count wsX2_size := goodIn_r _ [64, 65, 81, 82, 83, 84, 85, 86, 87, 88] (by decide +kernel) (by decide +kernel)
set_option maxRecDepth 20000 in
theorem gX6_count_X2_size : GoodIn wsX6_count (wsV RX6 225 RX2 yX2_size wsX2_size) := goodIn_app (goodIn_of _ (by decide +kernel)) ggX6_count_X2_size
theorem dX6_count_0 : decode cX6_count 0 = .ok (.iload_n 1, 1) := by decide +kernel
theorem dX6_count_1 : decode cX6_count 1 = .ok (.tableswitch 114 0 7 #[47, 55, 63, 71, 79, 88, 97, 106], 47) := by decide +kernel
theorem dX6_count_48 : decode cX6_count 48 = .ok (.aload_n 0, 1) := by decide +kernel
theorem dX6_count_49 : decode cX6_count 49 = .ok (.getfield 10, 3) := by decide +kernel
theorem dX6_count_52 : decode cX6_count 52 = .ok (.invokevirtual 218, 3) := by decide +kernel
theorem dX6_count_55 : decode cX6_count 55 = .ok (.ireturn, 1) := by decide +kernel
theorem dX6_count_56 : decode cX6_count 56 = .ok (.aload_n 0, 1) := by decide +kernel
theorem dX6_count_57 : decode cX6_count 57 = .ok (.getfield 19, 3) := by decide +kernel
theorem dX6_count_60 : decode cX6_count 60 = .ok (.invokevirtual 146, 3) := by decide +kernel
theorem dX6_count_63 : decode cX6_count 63 = .ok (.ireturn, 1) := by decide +kernel
theorem dX6_count_64 : decode cX6_count 64 = .ok (.aload_n 0, 1) := by decide +kernel
theorem dX6_count_65 : decode cX6_count 65 = .ok (.getfield 19, 3) := by decide +kernel
theorem dX6_count_68 : decode cX6_count 68 = .ok (.invokevirtual 219, 3) := by decide +kernel
theorem dX6_count_71 : decode cX6_count 71 = .ok (.ireturn, 1) := by decide +kernel
theorem dX6_count_72 : decode cX6_count 72 = .ok (.aload_n 0, 1) := by decide +kernel
theorem dX6_count_73 : decode cX6_count 73 = .ok (.getfield 33, 3) := by decide +kernel
theorem dX6_count_76 : decode cX6_count 76 = .ok (.invokevirtual 163, 3) := by decide +kernel
theorem dX6_count_79 : decode cX6_count 79 = .ok (.ireturn, 1) := by decide +kernel
theorem dX6_count_80 : decode cX6_count 80 = .ok (.aload_n 0, 1) := by decide +kernel
theorem dX6_count_81 : decode cX6_count 81 = .ok (.getfield 19, 3) := by decide +kernel
theorem dX6_count_84 : decode cX6_count 84 = .ok (.iconst 2, 1) := by decide +kernel
theorem dX6_count_85 : decode cX6_count 85 = .ok (.invokevirtual 222, 3) := by decide +kernel
theorem dX6_count_88 : decode cX6_count 88 = .ok (.ireturn, 1) := by decide +kernel
theorem dX6_count_89 : decode cX6_count 89 = .ok (.aload_n 0, 1) := by decide +kernel
theorem dX6_count_90 : decode cX6_count 90 = .ok (.getfield 19, 3) := by decide +kernel
theorem dX6_count_93 : decode cX6_count 93 = .ok (.iconst 3, 1) := by decide +kernel
theorem dX6_count_94 : decode cX6_count 94 = .ok (.invokevirtual 222, 3) := by decide +kernel
theorem dX6_count_97 : decode cX6_count 97 = .ok (.ireturn, 1) := by decide +kernel
theorem dX6_count_98 : decode cX6_count 98 = .ok (.aload_n 0, 1) := by decide +kernel
theorem dX6_count_99 : decode cX6_count 99 = .ok (.getfield 19, 3) := by decide +kernel
theorem dX6_count_102 : decode cX6_count 102 = .ok (.iconst 4, 1) := by decide +kernel
theorem dX6_count_103 : decode cX6_count 103 = .ok (.invokevirtual 222, 3) := by decide +kernel
theorem dX6_count_106 : decode cX6_count 106 = .ok (.ireturn, 1) := by decide +kernel
theorem dX6_count_107 : decode cX6_count 107 = .ok (.aload_n 0, 1) := by decide +kernel
theorem dX6_count_108 : decode cX6_count 108 = .ok (.getfield 26, 3) := by decide +kernel
theorem dX6_count_111 : decode cX6_count 111 = .ok (.invokevirtual 225, 3) := by decide +kernel
theorem dX6_count_114 : decode cX6_count 114 = .ok (.ireturn, 1) := by decide +kernel
theorem dX6_count_115 : decode cX6_count 115 = .ok (.ldc 57, 2) := by decide +kernel
theorem dX6_count_117 : decode cX6_count 117 = .ok (.ireturn, 1) := by decide +kernel
theorem dX6_status_0 : decode cX6_status 0 = .ok (.aload_n 0, 1) := by decide +kernel
theorem dX6_status_1 : decode cX6_status 1 = .ok (.getfield 58, 3) := by decide +kernel
theorem dX6_status_4 : decode cX6_status 4 = .ok (.ireturn, 1) := by decide +kernel
theorem dX6_isSheet_0 : decode cX6_isSheet 0 = .ok (.iload_n 0, 1) := by decide +kernel
theorem dX6_isSheet_1 : decode cX6_isSheet 1 = .ok (.ifCond .lt 13, 3) := by decide +kernel
theorem dX6_isSheet_4 : decode cX6_isSheet 4 = .ok (.iload_n 0, 1) := by decide +kernel
theorem dX6_isSheet_5 : decode cX6_isSheet 5 = .ok (.bipush 8, 2) := by decide +kernel
theorem dX6_isSheet_7 : decode cX6_isSheet 7 = .ok (.if_icmp .ge 7, 3) := by decide +kernel
theorem dX6_isSheet_10 : decode cX6_isSheet 10 = .ok (.iconst 1, 1) := by decide +kernel
theorem dX6_isSheet_11 : decode cX6_isSheet 11 = .ok (.goto 4, 3) := by decide +kernel
theorem dX6_isSheet_14 : decode cX6_isSheet 14 = .ok (.iconst 0, 1) := by decide +kernel
theorem dX6_isSheet_15 : decode cX6_isSheet 15 = .ok (.ireturn, 1) := by decide +kernel
theorem dX6_isHearing_0 : decode cX6_isHearing 0 = .ok (.iload_n 0, 1) := by decide +kernel
theorem dX6_isHearing_1 : decode cX6_isHearing 1 = .ok (.ifCond .eq 8, 3) := by decide +kernel
theorem dX6_isHearing_4 : decode cX6_isHearing 4 = .ok (.iload_n 0, 1) := by decide +kernel
theorem dX6_isHearing_5 : decode cX6_isHearing 5 = .ok (.iconst 1, 1) := by decide +kernel
theorem dX6_isHearing_6 : decode cX6_isHearing 6 = .ok (.if_icmp .ne 7, 3) := by decide +kernel
theorem dX6_isHearing_9 : decode cX6_isHearing 9 = .ok (.iconst 1, 1) := by decide +kernel
theorem dX6_isHearing_10 : decode cX6_isHearing 10 = .ok (.goto 4, 3) := by decide +kernel
theorem dX6_isHearing_13 : decode cX6_isHearing 13 = .ok (.iconst 0, 1) := by decide +kernel
theorem dX6_isHearing_14 : decode cX6_isHearing 14 = .ok (.ireturn, 1) := by decide +kernel
set_option maxRecDepth 20000 in
theorem ggX6_isPair_X1_hasPost : GoodIn wsX6_isPair wsX1_hasPost := goodIn_r _ [6, 7, 16, 17] (by decide +kernel) (by decide +kernel)
set_option maxRecDepth 20000 in
theorem gX6_isPair_X1_hasPost : GoodIn wsX6_isPair (wsV RX6 109 RX1 yX1_hasPost wsX1_hasPost) := goodIn_app (goodIn_of _ (by decide +kernel)) ggX6_isPair_X1_hasPost
theorem dX6_isPair_0 : decode cX6_isPair 0 = .ok (.aload_n 0, 1) := by decide +kernel
theorem dX6_isPair_1 : decode cX6_isPair 1 = .ok (.getfield 19, 3) := by decide +kernel
theorem dX6_isPair_4 : decode cX6_isPair 4 = .ok (.iload_n 1, 1) := by decide +kernel
theorem dX6_isPair_5 : decode cX6_isPair 5 = .ok (.invokevirtual 109, 3) := by decide +kernel
theorem dX6_isPair_8 : decode cX6_isPair 8 = .ok (.ifCond .eq 23, 3) := by decide +kernel
theorem dX6_isPair_11 : decode cX6_isPair 11 = .ok (.aload_n 0, 1) := by decide +kernel
theorem dX6_isPair_12 : decode cX6_isPair 12 = .ok (.getfield 19, 3) := by decide +kernel
theorem dX6_isPair_15 : decode cX6_isPair 15 = .ok (.iload_n 2, 1) := by decide +kernel
theorem dX6_isPair_16 : decode cX6_isPair 16 = .ok (.invokevirtual 109, 3) := by decide +kernel
theorem dX6_isPair_19 : decode cX6_isPair 19 = .ok (.ifCond .eq 12, 3) := by decide +kernel
theorem dX6_isPair_22 : decode cX6_isPair 22 = .ok (.iload_n 1, 1) := by decide +kernel
theorem dX6_isPair_23 : decode cX6_isPair 23 = .ok (.iload_n 2, 1) := by decide +kernel
theorem dX6_isPair_24 : decode cX6_isPair 24 = .ok (.if_icmp .eq 7, 3) := by decide +kernel
theorem dX6_isPair_27 : decode cX6_isPair 27 = .ok (.iconst 1, 1) := by decide +kernel
theorem dX6_isPair_28 : decode cX6_isPair 28 = .ok (.goto 4, 3) := by decide +kernel
theorem dX6_isPair_31 : decode cX6_isPair 31 = .ok (.iconst 0, 1) := by decide +kernel
theorem dX6_isPair_32 : decode cX6_isPair 32 = .ok (.ireturn, 1) := by decide +kernel
set_option maxRecDepth 20000 in
theorem ggX6_firstUnpicked_X1_allPosts : GoodIn wsX6_firstUnpicked wsX1_allPosts := goodIn_r _ [8, 9, 32, 33] (by decide +kernel) (by decide +kernel)
set_option maxRecDepth 20000 in
theorem gX6_firstUnpicked_X1_allPosts : GoodIn wsX6_firstUnpicked (wsV RX6 167 RX1 yX1_allPosts wsX1_allPosts) := goodIn_app (goodIn_of _ (by decide +kernel)) ggX6_firstUnpicked_X1_allPosts
set_option maxRecDepth 20000 in
theorem ggX6_firstUnpicked_J6_bitCount_0f7a4 : GoodIn wsX6_firstUnpicked wsJ6_bitCount_0f7a4 := goodIn_r _ [13, 14, 15, 16] (by decide +kernel) (by decide +kernel)
set_option maxRecDepth 20000 in
theorem gX6_firstUnpicked_J6_bitCount_0f7a4 : GoodIn wsX6_firstUnpicked (va_wsS RX6 226 yJ6_bitCount_0f7a4 wsJ6_bitCount_0f7a4) := goodIn_app (goodIn_of _ (by decide +kernel)) ggX6_firstUnpicked_J6_bitCount_0f7a4
set_option maxRecDepth 20000 in
theorem ggX6_firstUnpicked_X4_picksOne : GoodIn wsX6_firstUnpicked wsX4_picksOne := goodIn_r _ [21, 22, 23, 11, 12, 13, 14, 15, 16, 34, 35, 36] (by decide +kernel) (by decide +kernel)
set_option maxRecDepth 20000 in
theorem gX6_firstUnpicked_X4_picksOne : GoodIn wsX6_firstUnpicked (wsV RX6 231 RX4 yX4_picksOne wsX4_picksOne) := goodIn_app (goodIn_of _ (by decide +kernel)) ggX6_firstUnpicked_X4_picksOne
theorem dX6_firstUnpicked_0 : decode cX6_firstUnpicked 0 = .ok (.iconst 1, 1) := by decide +kernel
theorem dX6_firstUnpicked_1 : decode cX6_firstUnpicked 1 = .ok (.istore 5, 2) := by decide +kernel
theorem dX6_firstUnpicked_3 : decode cX6_firstUnpicked 3 = .ok (.iload 5, 2) := by decide +kernel
theorem dX6_firstUnpicked_5 : decode cX6_firstUnpicked 5 = .ok (.aload_n 0, 1) := by decide +kernel
theorem dX6_firstUnpicked_6 : decode cX6_firstUnpicked 6 = .ok (.getfield 19, 3) := by decide +kernel
theorem dX6_firstUnpicked_9 : decode cX6_firstUnpicked 9 = .ok (.invokevirtual 167, 3) := by decide +kernel
theorem dX6_firstUnpicked_12 : decode cX6_firstUnpicked 12 = .ok (.if_icmp .gt 37, 3) := by decide +kernel
theorem dX6_firstUnpicked_15 : decode cX6_firstUnpicked 15 = .ok (.iload 5, 2) := by decide +kernel
theorem dX6_firstUnpicked_17 : decode cX6_firstUnpicked 17 = .ok (.invokestatic 226, 3) := by decide +kernel
theorem dX6_firstUnpicked_20 : decode cX6_firstUnpicked 20 = .ok (.iload 4, 2) := by decide +kernel
theorem dX6_firstUnpicked_22 : decode cX6_firstUnpicked 22 = .ok (.if_icmp .gt 21, 3) := by decide +kernel
theorem dX6_firstUnpicked_25 : decode cX6_firstUnpicked 25 = .ok (.aload_n 0, 1) := by decide +kernel
theorem dX6_firstUnpicked_26 : decode cX6_firstUnpicked 26 = .ok (.getfield 10, 3) := by decide +kernel
theorem dX6_firstUnpicked_29 : decode cX6_firstUnpicked 29 = .ok (.iload_n 1, 1) := by decide +kernel
theorem dX6_firstUnpicked_30 : decode cX6_firstUnpicked 30 = .ok (.iload_n 2, 1) := by decide +kernel
theorem dX6_firstUnpicked_31 : decode cX6_firstUnpicked 31 = .ok (.iload_n 3, 1) := by decide +kernel
theorem dX6_firstUnpicked_32 : decode cX6_firstUnpicked 32 = .ok (.iload 5, 2) := by decide +kernel
theorem dX6_firstUnpicked_34 : decode cX6_firstUnpicked 34 = .ok (.invokevirtual 231, 3) := by decide +kernel
theorem dX6_firstUnpicked_37 : decode cX6_firstUnpicked 37 = .ok (.ifCond .ne 6, 3) := by decide +kernel
theorem dX6_firstUnpicked_40 : decode cX6_firstUnpicked 40 = .ok (.iload 5, 2) := by decide +kernel
theorem dX6_firstUnpicked_42 : decode cX6_firstUnpicked 42 = .ok (.ireturn, 1) := by decide +kernel
theorem dX6_firstUnpicked_43 : decode cX6_firstUnpicked 43 = .ok (.iinc 5 1, 3) := by decide +kernel
theorem dX6_firstUnpicked_46 : decode cX6_firstUnpicked 46 = .ok (.goto (-43), 3) := by decide +kernel
theorem dX6_firstUnpicked_49 : decode cX6_firstUnpicked 49 = .ok (.ldc 173, 2) := by decide +kernel
theorem dX6_firstUnpicked_51 : decode cX6_firstUnpicked 51 = .ok (.ireturn, 1) := by decide +kernel
theorem dX7_init_0 : decode cX7_init 0 = .ok (.aload_n 0, 1) := by decide +kernel
theorem dX7_init_1 : decode cX7_init 1 = .ok (.invokespecial 1, 3) := by decide +kernel
theorem dX7_init_4 : decode cX7_init 4 = .ok (.aload_n 0, 1) := by decide +kernel
theorem dX7_init_5 : decode cX7_init 5 = .ok (.bipush 8, 2) := by decide +kernel
theorem dX7_init_7 : decode cX7_init 7 = .ok (.newarray .int, 2) := by decide +kernel
theorem dX7_init_9 : decode cX7_init 9 = .ok (.dup, 1) := by decide +kernel
theorem dX7_init_10 : decode cX7_init 10 = .ok (.iconst 0, 1) := by decide +kernel
theorem dX7_init_11 : decode cX7_init 11 = .ok (.iconst (-1), 1) := by decide +kernel
theorem dX7_init_12 : decode cX7_init 12 = .ok (.iastore, 1) := by decide +kernel
theorem dX7_init_13 : decode cX7_init 13 = .ok (.dup, 1) := by decide +kernel
theorem dX7_init_14 : decode cX7_init 14 = .ok (.iconst 1, 1) := by decide +kernel
theorem dX7_init_15 : decode cX7_init 15 = .ok (.iconst (-1), 1) := by decide +kernel
theorem dX7_init_16 : decode cX7_init 16 = .ok (.iastore, 1) := by decide +kernel
theorem dX7_init_17 : decode cX7_init 17 = .ok (.dup, 1) := by decide +kernel
theorem dX7_init_18 : decode cX7_init 18 = .ok (.iconst 2, 1) := by decide +kernel
theorem dX7_init_19 : decode cX7_init 19 = .ok (.iconst (-1), 1) := by decide +kernel
theorem dX7_init_20 : decode cX7_init 20 = .ok (.iastore, 1) := by decide +kernel
theorem dX7_init_21 : decode cX7_init 21 = .ok (.dup, 1) := by decide +kernel
theorem dX7_init_22 : decode cX7_init 22 = .ok (.iconst 3, 1) := by decide +kernel
theorem dX7_init_23 : decode cX7_init 23 = .ok (.iconst (-1), 1) := by decide +kernel
theorem dX7_init_24 : decode cX7_init 24 = .ok (.iastore, 1) := by decide +kernel
theorem dX7_init_25 : decode cX7_init 25 = .ok (.dup, 1) := by decide +kernel
theorem dX7_init_26 : decode cX7_init 26 = .ok (.iconst 4, 1) := by decide +kernel
theorem dX7_init_27 : decode cX7_init 27 = .ok (.iconst (-1), 1) := by decide +kernel
theorem dX7_init_28 : decode cX7_init 28 = .ok (.iastore, 1) := by decide +kernel
theorem dX7_init_29 : decode cX7_init 29 = .ok (.dup, 1) := by decide +kernel
theorem dX7_init_30 : decode cX7_init 30 = .ok (.iconst 5, 1) := by decide +kernel
theorem dX7_init_31 : decode cX7_init 31 = .ok (.iconst (-1), 1) := by decide +kernel
theorem dX7_init_32 : decode cX7_init 32 = .ok (.iastore, 1) := by decide +kernel
theorem dX7_init_33 : decode cX7_init 33 = .ok (.dup, 1) := by decide +kernel
theorem dX7_init_34 : decode cX7_init 34 = .ok (.bipush 6, 2) := by decide +kernel
theorem dX7_init_36 : decode cX7_init 36 = .ok (.iconst (-1), 1) := by decide +kernel
theorem dX7_init_37 : decode cX7_init 37 = .ok (.iastore, 1) := by decide +kernel
theorem dX7_init_38 : decode cX7_init 38 = .ok (.dup, 1) := by decide +kernel
theorem dX7_init_39 : decode cX7_init 39 = .ok (.bipush 7, 2) := by decide +kernel
theorem dX7_init_41 : decode cX7_init 41 = .ok (.iconst (-1), 1) := by decide +kernel
theorem dX7_init_42 : decode cX7_init 42 = .ok (.iastore, 1) := by decide +kernel
theorem dX7_init_43 : decode cX7_init 43 = .ok (.putfield 7, 3) := by decide +kernel
theorem dX7_init_46 : decode cX7_init 46 = .ok (.aload_n 0, 1) := by decide +kernel
theorem dX7_init_47 : decode cX7_init 47 = .ok (.bipush 8, 2) := by decide +kernel
theorem dX7_init_49 : decode cX7_init 49 = .ok (.newarray .int, 2) := by decide +kernel
theorem dX7_init_51 : decode cX7_init 51 = .ok (.putfield 13, 3) := by decide +kernel
theorem dX7_init_54 : decode cX7_init 54 = .ok (.aload_n 0, 1) := by decide +kernel
theorem dX7_init_55 : decode cX7_init 55 = .ok (.sipush 320, 3) := by decide +kernel
theorem dX7_init_58 : decode cX7_init 58 = .ok (.newarray .int, 2) := by decide +kernel
theorem dX7_init_60 : decode cX7_init 60 = .ok (.putfield 16, 3) := by decide +kernel
theorem dX7_init_63 : decode cX7_init 63 = .ok (.aload_n 0, 1) := by decide +kernel
theorem dX7_init_64 : decode cX7_init 64 = .ok (.bipush 8, 2) := by decide +kernel
theorem dX7_init_66 : decode cX7_init 66 = .ok (.newarray .int, 2) := by decide +kernel
theorem dX7_init_68 : decode cX7_init 68 = .ok (.putfield 19, 3) := by decide +kernel
theorem dX7_init_71 : decode cX7_init 71 = .ok (.aload_n 0, 1) := by decide +kernel
theorem dX7_init_72 : decode cX7_init 72 = .ok (.bipush 20, 2) := by decide +kernel
theorem dX7_init_74 : decode cX7_init 74 = .ok (.newarray .int, 2) := by decide +kernel
theorem dX7_init_76 : decode cX7_init 76 = .ok (.putfield 22, 3) := by decide +kernel
theorem dX7_init_79 : decode cX7_init 79 = .ok (.aload_n 0, 1) := by decide +kernel
theorem dX7_init_80 : decode cX7_init 80 = .ok (.bipush 20, 2) := by decide +kernel
theorem dX7_init_82 : decode cX7_init 82 = .ok (.newarray .int, 2) := by decide +kernel
theorem dX7_init_84 : decode cX7_init 84 = .ok (.putfield 25, 3) := by decide +kernel
theorem dX7_init_87 : decode cX7_init 87 = .ok (.aload_n 0, 1) := by decide +kernel
theorem dX7_init_88 : decode cX7_init 88 = .ok (.sipush 300, 3) := by decide +kernel
theorem dX7_init_91 : decode cX7_init 91 = .ok (.newarray .int, 2) := by decide +kernel
theorem dX7_init_93 : decode cX7_init 93 = .ok (.putfield 28, 3) := by decide +kernel
theorem dX7_init_96 : decode cX7_init 96 = .ok (.aload_n 0, 1) := by decide +kernel
theorem dX7_init_97 : decode cX7_init 97 = .ok (.sipush 256, 3) := by decide +kernel
theorem dX7_init_100 : decode cX7_init 100 = .ok (.newarray .int, 2) := by decide +kernel
theorem dX7_init_102 : decode cX7_init 102 = .ok (.putfield 31, 3) := by decide +kernel
theorem dX7_init_105 : decode cX7_init 105 = .ok (.aload_n 0, 1) := by decide +kernel
theorem dX7_init_106 : decode cX7_init 106 = .ok (.sipush 1536, 3) := by decide +kernel
theorem dX7_init_109 : decode cX7_init 109 = .ok (.newarray .boolean, 2) := by decide +kernel
theorem dX7_init_111 : decode cX7_init 111 = .ok (.putfield 34, 3) := by decide +kernel
theorem dX7_init_114 : decode cX7_init 114 = .ok (.aload_n 0, 1) := by decide +kernel
theorem dX7_init_115 : decode cX7_init 115 = .ok (.sipush 1536, 3) := by decide +kernel
theorem dX7_init_118 : decode cX7_init 118 = .ok (.newarray .boolean, 2) := by decide +kernel
theorem dX7_init_120 : decode cX7_init 120 = .ok (.putfield 38, 3) := by decide +kernel
theorem dX7_init_123 : decode cX7_init 123 = .ok (.aload_n 0, 1) := by decide +kernel
theorem dX7_init_124 : decode cX7_init 124 = .ok (.sipush 256, 3) := by decide +kernel
theorem dX7_init_127 : decode cX7_init 127 = .ok (.newarray .long, 2) := by decide +kernel
theorem dX7_init_129 : decode cX7_init 129 = .ok (.putfield 41, 3) := by decide +kernel
theorem dX7_init_132 : decode cX7_init 132 = .ok (.aload_n 0, 1) := by decide +kernel
theorem dX7_init_133 : decode cX7_init 133 = .ok (.sipush 256, 3) := by decide +kernel
theorem dX7_init_136 : decode cX7_init 136 = .ok (.newarray .long, 2) := by decide +kernel
theorem dX7_init_138 : decode cX7_init 138 = .ok (.putfield 45, 3) := by decide +kernel
theorem dX7_init_141 : decode cX7_init 141 = .ok (.aload_n 0, 1) := by decide +kernel
theorem dX7_init_142 : decode cX7_init 142 = .ok (.bipush 16, 2) := by decide +kernel
theorem dX7_init_144 : decode cX7_init 144 = .ok (.newarray .int, 2) := by decide +kernel
theorem dX7_init_146 : decode cX7_init 146 = .ok (.putfield 48, 3) := by decide +kernel
theorem dX7_init_149 : decode cX7_init 149 = .ok (.return_, 1) := by decide +kernel
theorem dX7_in_0 : decode cX7_in 0 = .ok (.lload_n 0, 1) := by decide +kernel
theorem dX7_in_1 : decode cX7_in 1 = .ok (.lload_n 2, 1) := by decide +kernel
theorem dX7_in_2 : decode cX7_in 2 = .ok (.lcmp, 1) := by decide +kernel
theorem dX7_in_3 : decode cX7_in 3 = .ok (.ifCond .lt 14, 3) := by decide +kernel
theorem dX7_in_6 : decode cX7_in 6 = .ok (.lload_n 0, 1) := by decide +kernel
theorem dX7_in_7 : decode cX7_in 7 = .ok (.lload 4, 2) := by decide +kernel
theorem dX7_in_9 : decode cX7_in 9 = .ok (.lcmp, 1) := by decide +kernel
theorem dX7_in_10 : decode cX7_in 10 = .ok (.ifCond .gt 7, 3) := by decide +kernel
theorem dX7_in_13 : decode cX7_in 13 = .ok (.iconst 1, 1) := by decide +kernel
theorem dX7_in_14 : decode cX7_in 14 = .ok (.goto 4, 3) := by decide +kernel
theorem dX7_in_17 : decode cX7_in 17 = .ok (.iconst 0, 1) := by decide +kernel
theorem dX7_in_18 : decode cX7_in 18 = .ok (.ireturn, 1) := by decide +kernel
theorem dX7_found_0 : decode cX7_found 0 = .ok (.aload_n 0, 1) := by decide +kernel
theorem dX7_found_1 : decode cX7_found 1 = .ok (.iload_n 1, 1) := by decide +kernel
theorem dX7_found_2 : decode cX7_found 2 = .ok (.putfield 55, 3) := by decide +kernel
theorem dX7_found_5 : decode cX7_found 5 = .ok (.ldc 58, 2) := by decide +kernel
theorem dX7_found_7 : decode cX7_found 7 = .ok (.iload_n 1, 1) := by decide +kernel
theorem dX7_found_8 : decode cX7_found 8 = .ok (.isub, 1) := by decide +kernel
theorem dX7_found_9 : decode cX7_found 9 = .ok (.ireturn, 1) := by decide +kernel
set_option maxRecDepth 20000 in
theorem ggX7_isSheet_X7_in : GoodIn wsX7_isSheet wsX7_in := goodIn_r _ [5] (by decide +kernel) (by decide +kernel)
set_option maxRecDepth 20000 in
theorem gX7_isSheet_X7_in : GoodIn wsX7_isSheet (va_wsS RX7 61 yX7_in wsX7_in) := goodIn_app (goodIn_of _ (by decide +kernel)) ggX7_isSheet_X7_in
theorem dX7_isSheet_0 : decode cX7_isSheet 0 = .ok (.iload_n 0, 1) := by decide +kernel
theorem dX7_isSheet_1 : decode cX7_isSheet 1 = .ok (.i2l, 1) := by decide +kernel
theorem dX7_isSheet_2 : decode cX7_isSheet 2 = .ok (.lconst 0, 1) := by decide +kernel
theorem dX7_isSheet_3 : decode cX7_isSheet 3 = .ok (.ldc2_w 59, 3) := by decide +kernel
theorem dX7_isSheet_6 : decode cX7_isSheet 6 = .ok (.invokestatic 61, 3) := by decide +kernel
theorem dX7_isSheet_9 : decode cX7_isSheet 9 = .ok (.ireturn, 1) := by decide +kernel
set_option maxRecDepth 20000 in
theorem ggX7_sheet_X7_isSheet : GoodIn wsX7_sheet wsX7_isSheet := goodIn_r _ [11, 12, 13, 14, 10, 15] (by decide +kernel) (by decide +kernel)
set_option maxRecDepth 20000 in
theorem gX7_sheet_X7_isSheet : GoodIn wsX7_sheet (va_wsS RX7 65 yX7_isSheet wsX7_isSheet) := goodIn_app (goodIn_of _ (by decide +kernel)) ggX7_sheet_X7_isSheet
set_option maxRecDepth 20000 in
theorem ggX7_sheet_X7_in : GoodIn wsX7_sheet wsX7_in := goodIn_r _ [15] (by decide +kernel) (by decide +kernel)
set_option maxRecDepth 20000 in
theorem gX7_sheet_X7_in : GoodIn wsX7_sheet (va_wsS RX7 61 yX7_in wsX7_in) := goodIn_app (goodIn_of _ (by decide +kernel)) ggX7_sheet_X7_in
set_option maxRecDepth 20000 in
theorem ggX7_sheet_X7_found : GoodIn wsX7_sheet wsX7_found := goodIn_r _ [19, 4, 20, 21, 22, 23, 24, 25, 26, 27, 28, 29, 30, 31, 32, 33, 34, 35, 36, 37, 38, 39, 40, 41, 42, 43, 44, 45, 46, 47, 48] (by decide +kernel) (by decide +kernel)
set_option maxRecDepth 20000 in
theorem gX7_sheet_X7_found : GoodIn wsX7_sheet (wsV RX7 72 RX7 yX7_found wsX7_found) := goodIn_app (goodIn_of _ (by decide +kernel)) ggX7_sheet_X7_found
theorem dX7_sheet_0 : decode cX7_sheet 0 = .ok (.aload_n 0, 1) := by decide +kernel
theorem dX7_sheet_1 : decode cX7_sheet 1 = .ok (.iconst 0, 1) := by decide +kernel
theorem dX7_sheet_2 : decode cX7_sheet 2 = .ok (.putfield 51, 3) := by decide +kernel
theorem dX7_sheet_5 : decode cX7_sheet 5 = .ok (.iload_n 1, 1) := by decide +kernel
theorem dX7_sheet_6 : decode cX7_sheet 6 = .ok (.invokestatic 65, 3) := by decide +kernel
theorem dX7_sheet_9 : decode cX7_sheet 9 = .ok (.ifCond .eq 21, 3) := by decide +kernel
theorem dX7_sheet_12 : decode cX7_sheet 12 = .ok (.iload_n 2, 1) := by decide +kernel
theorem dX7_sheet_13 : decode cX7_sheet 13 = .ok (.i2l, 1) := by decide +kernel
theorem dX7_sheet_14 : decode cX7_sheet 14 = .ok (.lconst 0, 1) := by decide +kernel
theorem dX7_sheet_15 : decode cX7_sheet 15 = .ok (.ldc2_w 69, 3) := by decide +kernel
theorem dX7_sheet_18 : decode cX7_sheet 18 = .ok (.invokestatic 61, 3) := by decide +kernel
theorem dX7_sheet_21 : decode cX7_sheet 21 = .ok (.ifCond .eq 9, 3) := by decide +kernel
theorem dX7_sheet_24 : decode cX7_sheet 24 = .ok (.iload_n 3, 1) := by decide +kernel
theorem dX7_sheet_25 : decode cX7_sheet 25 = .ok (.bipush 40, 2) := by decide +kernel
theorem dX7_sheet_27 : decode cX7_sheet 27 = .ok (.if_icmp .le 6, 3) := by decide +kernel
theorem dX7_sheet_30 : decode cX7_sheet 30 = .ok (.ldc 71, 2) := by decide +kernel
theorem dX7_sheet_32 : decode cX7_sheet 32 = .ok (.ireturn, 1) := by decide +kernel
theorem dX7_sheet_33 : decode cX7_sheet 33 = .ok (.aload_n 0, 1) := by decide +kernel
theorem dX7_sheet_34 : decode cX7_sheet 34 = .ok (.iconst 0, 1) := by decide +kernel
theorem dX7_sheet_35 : decode cX7_sheet 35 = .ok (.putfield 55, 3) := by decide +kernel
theorem dX7_sheet_38 : decode cX7_sheet 38 = .ok (.iload_n 3, 1) := by decide +kernel
theorem dX7_sheet_39 : decode cX7_sheet 39 = .ok (.ifCond .ge 9, 3) := by decide +kernel
theorem dX7_sheet_42 : decode cX7_sheet 42 = .ok (.aload_n 0, 1) := by decide +kernel
theorem dX7_sheet_43 : decode cX7_sheet 43 = .ok (.iconst 4, 1) := by decide +kernel
theorem dX7_sheet_44 : decode cX7_sheet 44 = .ok (.invokevirtual 72, 3) := by decide +kernel
theorem dX7_sheet_47 : decode cX7_sheet 47 = .ok (.ireturn, 1) := by decide +kernel
theorem dX7_sheet_48 : decode cX7_sheet 48 = .ok (.aload_n 0, 1) := by decide +kernel
theorem dX7_sheet_49 : decode cX7_sheet 49 = .ok (.getfield 7, 3) := by decide +kernel
theorem dX7_sheet_52 : decode cX7_sheet 52 = .ok (.iload_n 1, 1) := by decide +kernel
theorem dX7_sheet_53 : decode cX7_sheet 53 = .ok (.iload_n 2, 1) := by decide +kernel
theorem dX7_sheet_54 : decode cX7_sheet 54 = .ok (.iastore, 1) := by decide +kernel
theorem dX7_sheet_55 : decode cX7_sheet 55 = .ok (.aload_n 0, 1) := by decide +kernel
theorem dX7_sheet_56 : decode cX7_sheet 56 = .ok (.getfield 13, 3) := by decide +kernel
theorem dX7_sheet_59 : decode cX7_sheet 59 = .ok (.iload_n 1, 1) := by decide +kernel
theorem dX7_sheet_60 : decode cX7_sheet 60 = .ok (.iload_n 3, 1) := by decide +kernel
theorem dX7_sheet_61 : decode cX7_sheet 61 = .ok (.iastore, 1) := by decide +kernel
theorem dX7_sheet_62 : decode cX7_sheet 62 = .ok (.iconst 0, 1) := by decide +kernel
theorem dX7_sheet_63 : decode cX7_sheet 63 = .ok (.istore 4, 2) := by decide +kernel
theorem dX7_sheet_65 : decode cX7_sheet 65 = .ok (.iload 4, 2) := by decide +kernel
theorem dX7_sheet_67 : decode cX7_sheet 67 = .ok (.bipush 40, 2) := by decide +kernel
theorem dX7_sheet_69 : decode cX7_sheet 69 = .ok (.if_icmp .ge 22, 3) := by decide +kernel
theorem dX7_sheet_72 : decode cX7_sheet 72 = .ok (.aload_n 0, 1) := by decide +kernel
theorem dX7_sheet_73 : decode cX7_sheet 73 = .ok (.getfield 16, 3) := by decide +kernel
theorem dX7_sheet_76 : decode cX7_sheet 76 = .ok (.bipush 40, 2) := by decide +kernel
theorem dX7_sheet_78 : decode cX7_sheet 78 = .ok (.iload_n 1, 1) := by decide +kernel
theorem dX7_sheet_79 : decode cX7_sheet 79 = .ok (.imul, 1) := by decide +kernel
theorem dX7_sheet_80 : decode cX7_sheet 80 = .ok (.iload 4, 2) := by decide +kernel
theorem dX7_sheet_82 : decode cX7_sheet 82 = .ok (.iadd, 1) := by decide +kernel
theorem dX7_sheet_83 : decode cX7_sheet 83 = .ok (.iconst 0, 1) := by decide +kernel
theorem dX7_sheet_84 : decode cX7_sheet 84 = .ok (.iastore, 1) := by decide +kernel
theorem dX7_sheet_85 : decode cX7_sheet 85 = .ok (.iinc 4 1, 3) := by decide +kernel
theorem dX7_sheet_88 : decode cX7_sheet 88 = .ok (.goto (-23), 3) := by decide +kernel
theorem dX7_sheet_91 : decode cX7_sheet 91 = .ok (.iload_n 3, 1) := by decide +kernel
theorem dX7_sheet_92 : decode cX7_sheet 92 = .ok (.ireturn, 1) := by decide +kernel
set_option maxRecDepth 20000 in
theorem ggX7_set_X7_isSheet : GoodIn wsX7_set wsX7_isSheet := goodIn_r _ [10, 11, 12, 13, 9, 14] (by decide +kernel) (by decide +kernel)
set_option maxRecDepth 20000 in
theorem gX7_set_X7_isSheet : GoodIn wsX7_set (va_wsS RX7 65 yX7_isSheet wsX7_isSheet) := goodIn_app (goodIn_of _ (by decide +kernel)) ggX7_set_X7_isSheet
set_option maxRecDepth 20000 in
theorem ggX7_set_X7_found : GoodIn wsX7_set wsX7_found := goodIn_r _ [18, 3, 19, 20, 21, 22, 23, 24, 25, 26, 27, 28, 29, 30, 31, 32, 33, 34, 35, 36, 37, 38, 39, 40, 41, 42, 43, 44, 45, 46, 47] (by decide +kernel) (by decide +kernel)
set_option maxRecDepth 20000 in
theorem gX7_set_X7_found : GoodIn wsX7_set (wsV RX7 72 RX7 yX7_found wsX7_found) := goodIn_app (goodIn_of _ (by decide +kernel)) ggX7_set_X7_found
set_option maxRecDepth 20000 in
theorem ggX7_set_X7_in : GoodIn wsX7_set wsX7_in := goodIn_r _ [14] (by decide +kernel) (by decide +kernel)
set_option maxRecDepth 20000 in
theorem gX7_set_X7_in : GoodIn wsX7_set (va_wsS RX7 61 yX7_in wsX7_in) := goodIn_app (goodIn_of _ (by decide +kernel)) ggX7_set_X7_in
theorem dX7_set_0 : decode cX7_set 0 = .ok (.aload_n 0, 1) := by decide +kernel
theorem dX7_set_1 : decode cX7_set 1 = .ok (.iconst 0, 1) := by decide +kernel
theorem dX7_set_2 : decode cX7_set 2 = .ok (.putfield 51, 3) := by decide +kernel
theorem dX7_set_5 : decode cX7_set 5 = .ok (.iload_n 1, 1) := by decide +kernel
theorem dX7_set_6 : decode cX7_set 6 = .ok (.invokestatic 65, 3) := by decide +kernel
theorem dX7_set_9 : decode cX7_set 9 = .ok (.ifCond .ne 6, 3) := by decide +kernel
theorem dX7_set_12 : decode cX7_set 12 = .ok (.ldc 71, 2) := by decide +kernel
theorem dX7_set_14 : decode cX7_set 14 = .ok (.ireturn, 1) := by decide +kernel
theorem dX7_set_15 : decode cX7_set 15 = .ok (.aload_n 0, 1) := by decide +kernel
theorem dX7_set_16 : decode cX7_set 16 = .ok (.iconst 0, 1) := by decide +kernel
theorem dX7_set_17 : decode cX7_set 17 = .ok (.putfield 55, 3) := by decide +kernel
theorem dX7_set_20 : decode cX7_set 20 = .ok (.aload_n 0, 1) := by decide +kernel
theorem dX7_set_21 : decode cX7_set 21 = .ok (.getfield 7, 3) := by decide +kernel
theorem dX7_set_24 : decode cX7_set 24 = .ok (.iload_n 1, 1) := by decide +kernel
theorem dX7_set_25 : decode cX7_set 25 = .ok (.iaload, 1) := by decide +kernel
theorem dX7_set_26 : decode cX7_set 26 = .ok (.ifCond .ge 9, 3) := by decide +kernel
theorem dX7_set_29 : decode cX7_set 29 = .ok (.aload_n 0, 1) := by decide +kernel
theorem dX7_set_30 : decode cX7_set 30 = .ok (.iconst 1, 1) := by decide +kernel
theorem dX7_set_31 : decode cX7_set 31 = .ok (.invokevirtual 72, 3) := by decide +kernel
theorem dX7_set_34 : decode cX7_set 34 = .ok (.ireturn, 1) := by decide +kernel
theorem dX7_set_35 : decode cX7_set 35 = .ok (.iload_n 2, 1) := by decide +kernel
theorem dX7_set_36 : decode cX7_set 36 = .ok (.i2l, 1) := by decide +kernel
theorem dX7_set_37 : decode cX7_set 37 = .ok (.lconst 0, 1) := by decide +kernel
theorem dX7_set_38 : decode cX7_set 38 = .ok (.aload_n 0, 1) := by decide +kernel
theorem dX7_set_39 : decode cX7_set 39 = .ok (.getfield 13, 3) := by decide +kernel
theorem dX7_set_42 : decode cX7_set 42 = .ok (.iload_n 1, 1) := by decide +kernel
theorem dX7_set_43 : decode cX7_set 43 = .ok (.iaload, 1) := by decide +kernel
theorem dX7_set_44 : decode cX7_set 44 = .ok (.iconst 1, 1) := by decide +kernel
theorem dX7_set_45 : decode cX7_set 45 = .ok (.isub, 1) := by decide +kernel
theorem dX7_set_46 : decode cX7_set 46 = .ok (.i2l, 1) := by decide +kernel
theorem dX7_set_47 : decode cX7_set 47 = .ok (.invokestatic 61, 3) := by decide +kernel
theorem dX7_set_50 : decode cX7_set 50 = .ok (.ifCond .ne 9, 3) := by decide +kernel
theorem dX7_set_53 : decode cX7_set 53 = .ok (.aload_n 0, 1) := by decide +kernel
theorem dX7_set_54 : decode cX7_set 54 = .ok (.iconst 2, 1) := by decide +kernel
theorem dX7_set_55 : decode cX7_set 55 = .ok (.invokevirtual 72, 3) := by decide +kernel
theorem dX7_set_58 : decode cX7_set 58 = .ok (.ireturn, 1) := by decide +kernel
theorem dX7_set_59 : decode cX7_set 59 = .ok (.aload_n 0, 1) := by decide +kernel
theorem dX7_set_60 : decode cX7_set 60 = .ok (.getfield 16, 3) := by decide +kernel
theorem dX7_set_63 : decode cX7_set 63 = .ok (.bipush 40, 2) := by decide +kernel
theorem dX7_set_65 : decode cX7_set 65 = .ok (.iload_n 1, 1) := by decide +kernel
theorem dX7_set_66 : decode cX7_set 66 = .ok (.imul, 1) := by decide +kernel
theorem dX7_set_67 : decode cX7_set 67 = .ok (.iload_n 2, 1) := by decide +kernel
theorem dX7_set_68 : decode cX7_set 68 = .ok (.iadd, 1) := by decide +kernel
theorem dX7_set_69 : decode cX7_set 69 = .ok (.aload_n 0, 1) := by decide +kernel
theorem dX7_set_70 : decode cX7_set 70 = .ok (.getfield 7, 3) := by decide +kernel
theorem dX7_set_73 : decode cX7_set 73 = .ok (.iload_n 1, 1) := by decide +kernel
theorem dX7_set_74 : decode cX7_set 74 = .ok (.iaload, 1) := by decide +kernel
theorem dX7_set_75 : decode cX7_set 75 = .ok (.ifCond .ne 8, 3) := by decide +kernel
theorem dX7_set_78 : decode cX7_set 78 = .ok (.iload_n 3, 1) := by decide +kernel
theorem dX7_set_79 : decode cX7_set 79 = .ok (.i2b, 1) := by decide +kernel
theorem dX7_set_80 : decode cX7_set 80 = .ok (.goto 19, 3) := by decide +kernel
theorem dX7_set_83 : decode cX7_set 83 = .ok (.aload_n 0, 1) := by decide +kernel
theorem dX7_set_84 : decode cX7_set 84 = .ok (.getfield 7, 3) := by decide +kernel
theorem dX7_set_87 : decode cX7_set 87 = .ok (.iload_n 1, 1) := by decide +kernel
theorem dX7_set_88 : decode cX7_set 88 = .ok (.iaload, 1) := by decide +kernel
theorem dX7_set_89 : decode cX7_set 89 = .ok (.iconst 1, 1) := by decide +kernel
theorem dX7_set_90 : decode cX7_set 90 = .ok (.if_icmp .ne 8, 3) := by decide +kernel
theorem dX7_set_93 : decode cX7_set 93 = .ok (.iload_n 3, 1) := by decide +kernel
theorem dX7_set_94 : decode cX7_set 94 = .ok (.i2s, 1) := by decide +kernel
theorem dX7_set_95 : decode cX7_set 95 = .ok (.goto 4, 3) := by decide +kernel
theorem dX7_set_98 : decode cX7_set 98 = .ok (.iload_n 3, 1) := by decide +kernel
theorem dX7_set_99 : decode cX7_set 99 = .ok (.iastore, 1) := by decide +kernel
theorem dX7_set_100 : decode cX7_set 100 = .ok (.aload_n 0, 1) := by decide +kernel
theorem dX7_set_101 : decode cX7_set 101 = .ok (.getfield 16, 3) := by decide +kernel
theorem dX7_set_104 : decode cX7_set 104 = .ok (.bipush 40, 2) := by decide +kernel
theorem dX7_set_106 : decode cX7_set 106 = .ok (.iload_n 1, 1) := by decide +kernel
theorem dX7_set_107 : decode cX7_set 107 = .ok (.imul, 1) := by decide +kernel
theorem dX7_set_108 : decode cX7_set 108 = .ok (.iload_n 2, 1) := by decide +kernel
theorem dX7_set_109 : decode cX7_set 109 = .ok (.iadd, 1) := by decide +kernel
theorem dX7_set_110 : decode cX7_set 110 = .ok (.iaload, 1) := by decide +kernel
theorem dX7_set_111 : decode cX7_set 111 = .ok (.ireturn, 1) := by decide +kernel
set_option maxRecDepth 20000 in
theorem ggX7_copy_X7_isSheet : GoodIn wsX7_copy wsX7_isSheet := goodIn_r _ [10, 11, 12, 13, 9, 14] (by decide +kernel) (by decide +kernel)
set_option maxRecDepth 20000 in
theorem gX7_copy_X7_isSheet : GoodIn wsX7_copy (va_wsS RX7 65 yX7_isSheet wsX7_isSheet) := goodIn_app (goodIn_of _ (by decide +kernel)) ggX7_copy_X7_isSheet
set_option maxRecDepth 20000 in
theorem ggX7_copy_X7_found : GoodIn wsX7_copy wsX7_found := goodIn_r _ [18, 3, 19, 20, 21, 22, 23, 24, 25, 26, 27, 28, 29, 30, 31, 32, 33, 34, 35, 36, 37, 38, 39, 40, 41, 42, 43, 44, 45, 46, 47] (by decide +kernel) (by decide +kernel)
set_option maxRecDepth 20000 in
theorem gX7_copy_X7_found : GoodIn wsX7_copy (wsV RX7 72 RX7 yX7_found wsX7_found) := goodIn_app (goodIn_of _ (by decide +kernel)) ggX7_copy_X7_found
theorem dX7_copy_0 : decode cX7_copy 0 = .ok (.aload_n 0, 1) := by decide +kernel
theorem dX7_copy_1 : decode cX7_copy 1 = .ok (.iconst 0, 1) := by decide +kernel
theorem dX7_copy_2 : decode cX7_copy 2 = .ok (.putfield 51, 3) := by decide +kernel
theorem dX7_copy_5 : decode cX7_copy 5 = .ok (.iload_n 1, 1) := by decide +kernel
theorem dX7_copy_6 : decode cX7_copy 6 = .ok (.invokestatic 65, 3) := by decide +kernel
theorem dX7_copy_9 : decode cX7_copy 9 = .ok (.ifCond .eq 10, 3) := by decide +kernel
theorem dX7_copy_12 : decode cX7_copy 12 = .ok (.iload_n 3, 1) := by decide +kernel
theorem dX7_copy_13 : decode cX7_copy 13 = .ok (.invokestatic 65, 3) := by decide +kernel
theorem dX7_copy_16 : decode cX7_copy 16 = .ok (.ifCond .ne 6, 3) := by decide +kernel
theorem dX7_copy_19 : decode cX7_copy 19 = .ok (.ldc 71, 2) := by decide +kernel
theorem dX7_copy_21 : decode cX7_copy 21 = .ok (.ireturn, 1) := by decide +kernel
theorem dX7_copy_22 : decode cX7_copy 22 = .ok (.aload_n 0, 1) := by decide +kernel
theorem dX7_copy_23 : decode cX7_copy 23 = .ok (.iconst 0, 1) := by decide +kernel
theorem dX7_copy_24 : decode cX7_copy 24 = .ok (.putfield 55, 3) := by decide +kernel
theorem dX7_copy_27 : decode cX7_copy 27 = .ok (.aload_n 0, 1) := by decide +kernel
theorem dX7_copy_28 : decode cX7_copy 28 = .ok (.getfield 7, 3) := by decide +kernel
theorem dX7_copy_31 : decode cX7_copy 31 = .ok (.iload_n 1, 1) := by decide +kernel
theorem dX7_copy_32 : decode cX7_copy 32 = .ok (.iaload, 1) := by decide +kernel
theorem dX7_copy_33 : decode cX7_copy 33 = .ok (.ifCond .lt 12, 3) := by decide +kernel
theorem dX7_copy_36 : decode cX7_copy 36 = .ok (.aload_n 0, 1) := by decide +kernel
theorem dX7_copy_37 : decode cX7_copy 37 = .ok (.getfield 7, 3) := by decide +kernel
theorem dX7_copy_40 : decode cX7_copy 40 = .ok (.iload_n 3, 1) := by decide +kernel
theorem dX7_copy_41 : decode cX7_copy 41 = .ok (.iaload, 1) := by decide +kernel
theorem dX7_copy_42 : decode cX7_copy 42 = .ok (.ifCond .ge 9, 3) := by decide +kernel
theorem dX7_copy_45 : decode cX7_copy 45 = .ok (.aload_n 0, 1) := by decide +kernel
theorem dX7_copy_46 : decode cX7_copy 46 = .ok (.iconst 1, 1) := by decide +kernel
theorem dX7_copy_47 : decode cX7_copy 47 = .ok (.invokevirtual 72, 3) := by decide +kernel
theorem dX7_copy_50 : decode cX7_copy 50 = .ok (.ireturn, 1) := by decide +kernel
theorem dX7_copy_51 : decode cX7_copy 51 = .ok (.aload_n 0, 1) := by decide +kernel
theorem dX7_copy_52 : decode cX7_copy 52 = .ok (.getfield 7, 3) := by decide +kernel
theorem dX7_copy_55 : decode cX7_copy 55 = .ok (.iload_n 1, 1) := by decide +kernel
theorem dX7_copy_56 : decode cX7_copy 56 = .ok (.iaload, 1) := by decide +kernel
theorem dX7_copy_57 : decode cX7_copy 57 = .ok (.aload_n 0, 1) := by decide +kernel
theorem dX7_copy_58 : decode cX7_copy 58 = .ok (.getfield 7, 3) := by decide +kernel
theorem dX7_copy_61 : decode cX7_copy 61 = .ok (.iload_n 3, 1) := by decide +kernel
theorem dX7_copy_62 : decode cX7_copy 62 = .ok (.iaload, 1) := by decide +kernel
theorem dX7_copy_63 : decode cX7_copy 63 = .ok (.if_icmp .eq 9, 3) := by decide +kernel
theorem dX7_copy_66 : decode cX7_copy 66 = .ok (.aload_n 0, 1) := by decide +kernel
theorem dX7_copy_67 : decode cX7_copy 67 = .ok (.iconst 5, 1) := by decide +kernel
theorem dX7_copy_68 : decode cX7_copy 68 = .ok (.invokevirtual 72, 3) := by decide +kernel
theorem dX7_copy_71 : decode cX7_copy 71 = .ok (.ireturn, 1) := by decide +kernel
theorem dX7_copy_72 : decode cX7_copy 72 = .ok (.iload_n 2, 1) := by decide +kernel
theorem dX7_copy_73 : decode cX7_copy 73 = .ok (.ifCond .lt 48, 3) := by decide +kernel
theorem dX7_copy_76 : decode cX7_copy 76 = .ok (.iload 4, 2) := by decide +kernel
theorem dX7_copy_78 : decode cX7_copy 78 = .ok (.ifCond .lt 43, 3) := by decide +kernel
theorem dX7_copy_81 : decode cX7_copy 81 = .ok (.iload 5, 2) := by decide +kernel
theorem dX7_copy_83 : decode cX7_copy 83 = .ok (.ifCond .lt 38, 3) := by decide +kernel
theorem dX7_copy_86 : decode cX7_copy 86 = .ok (.iload_n 2, 1) := by decide +kernel
theorem dX7_copy_87 : decode cX7_copy 87 = .ok (.i2l, 1) := by decide +kernel
theorem dX7_copy_88 : decode cX7_copy 88 = .ok (.iload 5, 2) := by decide +kernel
theorem dX7_copy_90 : decode cX7_copy 90 = .ok (.i2l, 1) := by decide +kernel
theorem dX7_copy_91 : decode cX7_copy 91 = .ok (.ladd, 1) := by decide +kernel
theorem dX7_copy_92 : decode cX7_copy 92 = .ok (.aload_n 0, 1) := by decide +kernel
theorem dX7_copy_93 : decode cX7_copy 93 = .ok (.getfield 13, 3) := by decide +kernel
theorem dX7_copy_96 : decode cX7_copy 96 = .ok (.iload_n 1, 1) := by decide +kernel
theorem dX7_copy_97 : decode cX7_copy 97 = .ok (.iaload, 1) := by decide +kernel
theorem dX7_copy_98 : decode cX7_copy 98 = .ok (.i2l, 1) := by decide +kernel
theorem dX7_copy_99 : decode cX7_copy 99 = .ok (.lcmp, 1) := by decide +kernel
theorem dX7_copy_100 : decode cX7_copy 100 = .ok (.ifCond .gt 21, 3) := by decide +kernel
theorem dX7_copy_103 : decode cX7_copy 103 = .ok (.iload 4, 2) := by decide +kernel
theorem dX7_copy_105 : decode cX7_copy 105 = .ok (.i2l, 1) := by decide +kernel
theorem dX7_copy_106 : decode cX7_copy 106 = .ok (.iload 5, 2) := by decide +kernel
theorem dX7_copy_108 : decode cX7_copy 108 = .ok (.i2l, 1) := by decide +kernel
theorem dX7_copy_109 : decode cX7_copy 109 = .ok (.ladd, 1) := by decide +kernel
theorem dX7_copy_110 : decode cX7_copy 110 = .ok (.aload_n 0, 1) := by decide +kernel
theorem dX7_copy_111 : decode cX7_copy 111 = .ok (.getfield 13, 3) := by decide +kernel
theorem dX7_copy_114 : decode cX7_copy 114 = .ok (.iload_n 3, 1) := by decide +kernel
theorem dX7_copy_115 : decode cX7_copy 115 = .ok (.iaload, 1) := by decide +kernel
theorem dX7_copy_116 : decode cX7_copy 116 = .ok (.i2l, 1) := by decide +kernel
theorem dX7_copy_117 : decode cX7_copy 117 = .ok (.lcmp, 1) := by decide +kernel
theorem dX7_copy_118 : decode cX7_copy 118 = .ok (.ifCond .le 9, 3) := by decide +kernel
theorem dX7_copy_121 : decode cX7_copy 121 = .ok (.aload_n 0, 1) := by decide +kernel
theorem dX7_copy_122 : decode cX7_copy 122 = .ok (.iconst 2, 1) := by decide +kernel
theorem dX7_copy_123 : decode cX7_copy 123 = .ok (.invokevirtual 72, 3) := by decide +kernel
theorem dX7_copy_126 : decode cX7_copy 126 = .ok (.ireturn, 1) := by decide +kernel
theorem dX7_copy_127 : decode cX7_copy 127 = .ok (.iload_n 2, 1) := by decide +kernel
theorem dX7_copy_128 : decode cX7_copy 128 = .ok (.iload 4, 2) := by decide +kernel
theorem dX7_copy_130 : decode cX7_copy 130 = .ok (.if_icmp .lt 7, 3) := by decide +kernel
theorem dX7_copy_133 : decode cX7_copy 133 = .ok (.iconst 1, 1) := by decide +kernel
theorem dX7_copy_134 : decode cX7_copy 134 = .ok (.goto 4, 3) := by decide +kernel
theorem dX7_copy_137 : decode cX7_copy 137 = .ok (.iconst 0, 1) := by decide +kernel
theorem dX7_copy_138 : decode cX7_copy 138 = .ok (.istore 6, 2) := by decide +kernel
theorem dX7_copy_140 : decode cX7_copy 140 = .ok (.iconst 0, 1) := by decide +kernel
theorem dX7_copy_141 : decode cX7_copy 141 = .ok (.istore 7, 2) := by decide +kernel
theorem dX7_copy_143 : decode cX7_copy 143 = .ok (.iload 7, 2) := by decide +kernel
theorem dX7_copy_145 : decode cX7_copy 145 = .ok (.iload 5, 2) := by decide +kernel
theorem dX7_copy_147 : decode cX7_copy 147 = .ok (.if_icmp .ge 57, 3) := by decide +kernel
theorem dX7_copy_150 : decode cX7_copy 150 = .ok (.iload 6, 2) := by decide +kernel
theorem dX7_copy_152 : decode cX7_copy 152 = .ok (.ifCond .eq 8, 3) := by decide +kernel
theorem dX7_copy_155 : decode cX7_copy 155 = .ok (.iload 7, 2) := by decide +kernel
theorem dX7_copy_157 : decode cX7_copy 157 = .ok (.goto 10, 3) := by decide +kernel
theorem dX7_copy_160 : decode cX7_copy 160 = .ok (.iload 5, 2) := by decide +kernel
theorem dX7_copy_162 : decode cX7_copy 162 = .ok (.iconst 1, 1) := by decide +kernel
theorem dX7_copy_163 : decode cX7_copy 163 = .ok (.isub, 1) := by decide +kernel
theorem dX7_copy_164 : decode cX7_copy 164 = .ok (.iload 7, 2) := by decide +kernel
theorem dX7_copy_166 : decode cX7_copy 166 = .ok (.isub, 1) := by decide +kernel
theorem dX7_copy_167 : decode cX7_copy 167 = .ok (.istore 8, 2) := by decide +kernel
theorem dX7_copy_169 : decode cX7_copy 169 = .ok (.aload_n 0, 1) := by decide +kernel
theorem dX7_copy_170 : decode cX7_copy 170 = .ok (.getfield 16, 3) := by decide +kernel
theorem dX7_copy_173 : decode cX7_copy 173 = .ok (.bipush 40, 2) := by decide +kernel
theorem dX7_copy_175 : decode cX7_copy 175 = .ok (.iload_n 3, 1) := by decide +kernel
theorem dX7_copy_176 : decode cX7_copy 176 = .ok (.imul, 1) := by decide +kernel
theorem dX7_copy_177 : decode cX7_copy 177 = .ok (.iload 4, 2) := by decide +kernel
theorem dX7_copy_179 : decode cX7_copy 179 = .ok (.iadd, 1) := by decide +kernel
theorem dX7_copy_180 : decode cX7_copy 180 = .ok (.iload 8, 2) := by decide +kernel
theorem dX7_copy_182 : decode cX7_copy 182 = .ok (.iadd, 1) := by decide +kernel
theorem dX7_copy_183 : decode cX7_copy 183 = .ok (.aload_n 0, 1) := by decide +kernel
theorem dX7_copy_184 : decode cX7_copy 184 = .ok (.getfield 16, 3) := by decide +kernel
theorem dX7_copy_187 : decode cX7_copy 187 = .ok (.bipush 40, 2) := by decide +kernel
theorem dX7_copy_189 : decode cX7_copy 189 = .ok (.iload_n 1, 1) := by decide +kernel
theorem dX7_copy_190 : decode cX7_copy 190 = .ok (.imul, 1) := by decide +kernel
theorem dX7_copy_191 : decode cX7_copy 191 = .ok (.iload_n 2, 1) := by decide +kernel
theorem dX7_copy_192 : decode cX7_copy 192 = .ok (.iadd, 1) := by decide +kernel
theorem dX7_copy_193 : decode cX7_copy 193 = .ok (.iload 8, 2) := by decide +kernel
theorem dX7_copy_195 : decode cX7_copy 195 = .ok (.iadd, 1) := by decide +kernel
theorem dX7_copy_196 : decode cX7_copy 196 = .ok (.iaload, 1) := by decide +kernel
theorem dX7_copy_197 : decode cX7_copy 197 = .ok (.iastore, 1) := by decide +kernel
theorem dX7_copy_198 : decode cX7_copy 198 = .ok (.iinc 7 1, 3) := by decide +kernel
theorem dX7_copy_201 : decode cX7_copy 201 = .ok (.goto (-58), 3) := by decide +kernel
theorem dX7_copy_204 : decode cX7_copy 204 = .ok (.iload 5, 2) := by decide +kernel
theorem dX7_copy_206 : decode cX7_copy 206 = .ok (.ireturn, 1) := by decide +kernel
set_option maxRecDepth 20000 in
theorem ggX7_drop_X7_isSheet : GoodIn wsX7_drop wsX7_isSheet := goodIn_r _ [9, 10, 11, 12, 8, 13] (by decide +kernel) (by decide +kernel)
set_option maxRecDepth 20000 in
theorem gX7_drop_X7_isSheet : GoodIn wsX7_drop (va_wsS RX7 65 yX7_isSheet wsX7_isSheet) := goodIn_app (goodIn_of _ (by decide +kernel)) ggX7_drop_X7_isSheet
set_option maxRecDepth 20000 in
theorem ggX7_drop_X7_found : GoodIn wsX7_drop wsX7_found := goodIn_r _ [17, 3, 18, 19, 20, 21, 22, 23, 24, 25, 26, 27, 28, 29, 30, 31, 32, 33, 34, 35, 36, 37, 38, 39, 40, 41, 42, 43, 44, 45, 46] (by decide +kernel) (by decide +kernel)
set_option maxRecDepth 20000 in
theorem gX7_drop_X7_found : GoodIn wsX7_drop (wsV RX7 72 RX7 yX7_found wsX7_found) := goodIn_app (goodIn_of _ (by decide +kernel)) ggX7_drop_X7_found
theorem dX7_drop_0 : decode cX7_drop 0 = .ok (.aload_n 0, 1) := by decide +kernel
theorem dX7_drop_1 : decode cX7_drop 1 = .ok (.iconst 0, 1) := by decide +kernel
theorem dX7_drop_2 : decode cX7_drop 2 = .ok (.putfield 51, 3) := by decide +kernel
theorem dX7_drop_5 : decode cX7_drop 5 = .ok (.iload_n 1, 1) := by decide +kernel
theorem dX7_drop_6 : decode cX7_drop 6 = .ok (.invokestatic 65, 3) := by decide +kernel
theorem dX7_drop_9 : decode cX7_drop 9 = .ok (.ifCond .ne 6, 3) := by decide +kernel
theorem dX7_drop_12 : decode cX7_drop 12 = .ok (.ldc 71, 2) := by decide +kernel
theorem dX7_drop_14 : decode cX7_drop 14 = .ok (.ireturn, 1) := by decide +kernel
theorem dX7_drop_15 : decode cX7_drop 15 = .ok (.aload_n 0, 1) := by decide +kernel
theorem dX7_drop_16 : decode cX7_drop 16 = .ok (.iconst 0, 1) := by decide +kernel
theorem dX7_drop_17 : decode cX7_drop 17 = .ok (.putfield 55, 3) := by decide +kernel
theorem dX7_drop_20 : decode cX7_drop 20 = .ok (.aload_n 0, 1) := by decide +kernel
theorem dX7_drop_21 : decode cX7_drop 21 = .ok (.getfield 7, 3) := by decide +kernel
theorem dX7_drop_24 : decode cX7_drop 24 = .ok (.iload_n 1, 1) := by decide +kernel
theorem dX7_drop_25 : decode cX7_drop 25 = .ok (.iaload, 1) := by decide +kernel
theorem dX7_drop_26 : decode cX7_drop 26 = .ok (.ifCond .ge 9, 3) := by decide +kernel
theorem dX7_drop_29 : decode cX7_drop 29 = .ok (.aload_n 0, 1) := by decide +kernel
theorem dX7_drop_30 : decode cX7_drop 30 = .ok (.iconst 1, 1) := by decide +kernel
theorem dX7_drop_31 : decode cX7_drop 31 = .ok (.invokevirtual 72, 3) := by decide +kernel
theorem dX7_drop_34 : decode cX7_drop 34 = .ok (.ireturn, 1) := by decide +kernel
theorem dX7_drop_35 : decode cX7_drop 35 = .ok (.aload_n 0, 1) := by decide +kernel
theorem dX7_drop_36 : decode cX7_drop 36 = .ok (.getfield 7, 3) := by decide +kernel
theorem dX7_drop_39 : decode cX7_drop 39 = .ok (.iload_n 1, 1) := by decide +kernel
theorem dX7_drop_40 : decode cX7_drop 40 = .ok (.iconst (-1), 1) := by decide +kernel
theorem dX7_drop_41 : decode cX7_drop 41 = .ok (.iastore, 1) := by decide +kernel
theorem dX7_drop_42 : decode cX7_drop 42 = .ok (.aload_n 0, 1) := by decide +kernel
theorem dX7_drop_43 : decode cX7_drop 43 = .ok (.getfield 13, 3) := by decide +kernel
theorem dX7_drop_46 : decode cX7_drop 46 = .ok (.iload_n 1, 1) := by decide +kernel
theorem dX7_drop_47 : decode cX7_drop 47 = .ok (.iaload, 1) := by decide +kernel
theorem dX7_drop_48 : decode cX7_drop 48 = .ok (.ireturn, 1) := by decide +kernel
set_option maxRecDepth 20000 in
theorem ggX7_isPost_X7_in : GoodIn wsX7_isPost wsX7_in := goodIn_r _ [5] (by decide +kernel) (by decide +kernel)
set_option maxRecDepth 20000 in
theorem gX7_isPost_X7_in : GoodIn wsX7_isPost (va_wsS RX7 61 yX7_in wsX7_in) := goodIn_app (goodIn_of _ (by decide +kernel)) ggX7_isPost_X7_in
theorem dX7_isPost_0 : decode cX7_isPost 0 = .ok (.iload_n 1, 1) := by decide +kernel
theorem dX7_isPost_1 : decode cX7_isPost 1 = .ok (.i2l, 1) := by decide +kernel
theorem dX7_isPost_2 : decode cX7_isPost 2 = .ok (.lconst 0, 1) := by decide +kernel
theorem dX7_isPost_3 : decode cX7_isPost 3 = .ok (.aload_n 0, 1) := by decide +kernel
theorem dX7_isPost_4 : decode cX7_isPost 4 = .ok (.getfield 76, 3) := by decide +kernel
theorem dX7_isPost_7 : decode cX7_isPost 7 = .ok (.iconst 1, 1) := by decide +kernel
theorem dX7_isPost_8 : decode cX7_isPost 8 = .ok (.isub, 1) := by decide +kernel
theorem dX7_isPost_9 : decode cX7_isPost 9 = .ok (.i2l, 1) := by decide +kernel
theorem dX7_isPost_10 : decode cX7_isPost 10 = .ok (.invokestatic 61, 3) := by decide +kernel
theorem dX7_isPost_13 : decode cX7_isPost 13 = .ok (.ireturn, 1) := by decide +kernel
theorem dX7_size_0 : decode cX7_size 0 = .ok (.iconst 0, 1) := by decide +kernel
theorem dX7_size_1 : decode cX7_size 1 = .ok (.istore_n 1, 1) := by decide +kernel
theorem dX7_size_2 : decode cX7_size 2 = .ok (.iconst 0, 1) := by decide +kernel
theorem dX7_size_3 : decode cX7_size 3 = .ok (.istore_n 2, 1) := by decide +kernel
theorem dX7_size_4 : decode cX7_size 4 = .ok (.iload_n 2, 1) := by decide +kernel
theorem dX7_size_5 : decode cX7_size 5 = .ok (.bipush 8, 2) := by decide +kernel
theorem dX7_size_7 : decode cX7_size 7 = .ok (.if_icmp .ge 17, 3) := by decide +kernel
theorem dX7_size_10 : decode cX7_size 10 = .ok (.iload_n 1, 1) := by decide +kernel
theorem dX7_size_11 : decode cX7_size 11 = .ok (.iload_n 0, 1) := by decide +kernel
theorem dX7_size_12 : decode cX7_size 12 = .ok (.iload_n 2, 1) := by decide +kernel
theorem dX7_size_13 : decode cX7_size 13 = .ok (.ishr, 1) := by decide +kernel
theorem dX7_size_14 : decode cX7_size 14 = .ok (.iconst 1, 1) := by decide +kernel
theorem dX7_size_15 : decode cX7_size 15 = .ok (.iand, 1) := by decide +kernel
theorem dX7_size_16 : decode cX7_size 16 = .ok (.iadd, 1) := by decide +kernel
theorem dX7_size_17 : decode cX7_size 17 = .ok (.istore_n 1, 1) := by decide +kernel
theorem dX7_size_18 : decode cX7_size 18 = .ok (.iinc 2 1, 3) := by decide +kernel
theorem dX7_size_21 : decode cX7_size 21 = .ok (.goto (-17), 3) := by decide +kernel
theorem dX7_size_24 : decode cX7_size 24 = .ok (.iload_n 1, 1) := by decide +kernel
theorem dX7_size_25 : decode cX7_size 25 = .ok (.ireturn, 1) := by decide +kernel
theorem dX7_all_0 : decode cX7_all 0 = .ok (.iconst 1, 1) := by decide +kernel
theorem dX7_all_1 : decode cX7_all 1 = .ok (.aload_n 0, 1) := by decide +kernel
theorem dX7_all_2 : decode cX7_all 2 = .ok (.getfield 76, 3) := by decide +kernel
theorem dX7_all_5 : decode cX7_all 5 = .ok (.ishl, 1) := by decide +kernel
theorem dX7_all_6 : decode cX7_all 6 = .ok (.iconst 1, 1) := by decide +kernel
theorem dX7_all_7 : decode cX7_all 7 = .ok (.isub, 1) := by decide +kernel
theorem dX7_all_8 : decode cX7_all 8 = .ok (.ireturn, 1) := by decide +kernel
theorem dX7_post_0 : decode cX7_post 0 = .ok (.aload_n 0, 1) := by decide +kernel
theorem dX7_post_1 : decode cX7_post 1 = .ok (.iconst 0, 1) := by decide +kernel
theorem dX7_post_2 : decode cX7_post 2 = .ok (.putfield 51, 3) := by decide +kernel
theorem dX7_post_5 : decode cX7_post 5 = .ok (.aload_n 0, 1) := by decide +kernel
theorem dX7_post_6 : decode cX7_post 6 = .ok (.getfield 76, 3) := by decide +kernel
theorem dX7_post_9 : decode cX7_post 9 = .ok (.bipush 8, 2) := by decide +kernel
theorem dX7_post_11 : decode cX7_post 11 = .ok (.if_icmp .ne 6, 3) := by decide +kernel
theorem dX7_post_14 : decode cX7_post 14 = .ok (.ldc 79, 2) := by decide +kernel
theorem dX7_post_16 : decode cX7_post 16 = .ok (.ireturn, 1) := by decide +kernel
theorem dX7_post_17 : decode cX7_post 17 = .ok (.aload_n 0, 1) := by decide +kernel
theorem dX7_post_18 : decode cX7_post 18 = .ok (.dup, 1) := by decide +kernel
theorem dX7_post_19 : decode cX7_post 19 = .ok (.getfield 76, 3) := by decide +kernel
theorem dX7_post_22 : decode cX7_post 22 = .ok (.iconst 1, 1) := by decide +kernel
theorem dX7_post_23 : decode cX7_post 23 = .ok (.iadd, 1) := by decide +kernel
theorem dX7_post_24 : decode cX7_post 24 = .ok (.putfield 76, 3) := by decide +kernel
theorem dX7_post_27 : decode cX7_post 27 = .ok (.aload_n 0, 1) := by decide +kernel
theorem dX7_post_28 : decode cX7_post 28 = .ok (.getfield 76, 3) := by decide +kernel
theorem dX7_post_31 : decode cX7_post 31 = .ok (.iconst 1, 1) := by decide +kernel
theorem dX7_post_32 : decode cX7_post 32 = .ok (.isub, 1) := by decide +kernel
theorem dX7_post_33 : decode cX7_post 33 = .ok (.ireturn, 1) := by decide +kernel
set_option maxRecDepth 20000 in
theorem ggX7_join_X7_isPost : GoodIn wsX7_join wsX7_isPost := goodIn_r _ [8, 9, 10, 11, 7, 12, 13, 14, 15, 16, 17, 18, 19, 20, 21, 22, 23, 24, 25, 26, 27, 28, 29, 30, 31, 32, 33, 34, 35, 36, 37, 38, 39, 40] (by decide +kernel) (by decide +kernel)
set_option maxRecDepth 20000 in
theorem gX7_join_X7_isPost : GoodIn wsX7_join (wsV RX7 80 RX7 yX7_isPost wsX7_isPost) := goodIn_app (goodIn_of _ (by decide +kernel)) ggX7_join_X7_isPost
theorem dX7_join_0 : decode cX7_join 0 = .ok (.aload_n 0, 1) := by decide +kernel
theorem dX7_join_1 : decode cX7_join 1 = .ok (.iconst 0, 1) := by decide +kernel
theorem dX7_join_2 : decode cX7_join 2 = .ok (.putfield 51, 3) := by decide +kernel
theorem dX7_join_5 : decode cX7_join 5 = .ok (.aload_n 0, 1) := by decide +kernel
theorem dX7_join_6 : decode cX7_join 6 = .ok (.iload_n 1, 1) := by decide +kernel
theorem dX7_join_7 : decode cX7_join 7 = .ok (.invokevirtual 80, 3) := by decide +kernel
theorem dX7_join_10 : decode cX7_join 10 = .ok (.ifCond .eq 16, 3) := by decide +kernel
theorem dX7_join_13 : decode cX7_join 13 = .ok (.aload_n 0, 1) := by decide +kernel
theorem dX7_join_14 : decode cX7_join 14 = .ok (.iload_n 2, 1) := by decide +kernel
theorem dX7_join_15 : decode cX7_join 15 = .ok (.invokevirtual 80, 3) := by decide +kernel
theorem dX7_join_18 : decode cX7_join 18 = .ok (.ifCond .eq 8, 3) := by decide +kernel
theorem dX7_join_21 : decode cX7_join 21 = .ok (.iload_n 1, 1) := by decide +kernel
theorem dX7_join_22 : decode cX7_join 22 = .ok (.iload_n 2, 1) := by decide +kernel
theorem dX7_join_23 : decode cX7_join 23 = .ok (.if_icmp .ne 6, 3) := by decide +kernel
theorem dX7_join_26 : decode cX7_join 26 = .ok (.ldc 71, 2) := by decide +kernel
theorem dX7_join_28 : decode cX7_join 28 = .ok (.ireturn, 1) := by decide +kernel
theorem dX7_join_29 : decode cX7_join 29 = .ok (.aload_n 0, 1) := by decide +kernel
theorem dX7_join_30 : decode cX7_join 30 = .ok (.getfield 19, 3) := by decide +kernel
theorem dX7_join_33 : decode cX7_join 33 = .ok (.iload_n 1, 1) := by decide +kernel
theorem dX7_join_34 : decode cX7_join 34 = .ok (.iaload, 1) := by decide +kernel
theorem dX7_join_35 : decode cX7_join 35 = .ok (.iload_n 2, 1) := by decide +kernel
theorem dX7_join_36 : decode cX7_join 36 = .ok (.ishr, 1) := by decide +kernel
theorem dX7_join_37 : decode cX7_join 37 = .ok (.iconst 1, 1) := by decide +kernel
theorem dX7_join_38 : decode cX7_join 38 = .ok (.iand, 1) := by decide +kernel
theorem dX7_join_39 : decode cX7_join 39 = .ok (.iconst 1, 1) := by decide +kernel
theorem dX7_join_40 : decode cX7_join 40 = .ok (.if_icmp .ne 7, 3) := by decide +kernel
theorem dX7_join_43 : decode cX7_join 43 = .ok (.iconst 1, 1) := by decide +kernel
theorem dX7_join_44 : decode cX7_join 44 = .ok (.goto 4, 3) := by decide +kernel
theorem dX7_join_47 : decode cX7_join 47 = .ok (.iconst 0, 1) := by decide +kernel
theorem dX7_join_48 : decode cX7_join 48 = .ok (.istore_n 3, 1) := by decide +kernel
theorem dX7_join_49 : decode cX7_join 49 = .ok (.aload_n 0, 1) := by decide +kernel
theorem dX7_join_50 : decode cX7_join 50 = .ok (.getfield 19, 3) := by decide +kernel
theorem dX7_join_53 : decode cX7_join 53 = .ok (.iload_n 1, 1) := by decide +kernel
theorem dX7_join_54 : decode cX7_join 54 = .ok (.dup2, 1) := by decide +kernel
theorem dX7_join_55 : decode cX7_join 55 = .ok (.iaload, 1) := by decide +kernel
theorem dX7_join_56 : decode cX7_join 56 = .ok (.iconst 1, 1) := by decide +kernel
theorem dX7_join_57 : decode cX7_join 57 = .ok (.iload_n 2, 1) := by decide +kernel
theorem dX7_join_58 : decode cX7_join 58 = .ok (.ishl, 1) := by decide +kernel
theorem dX7_join_59 : decode cX7_join 59 = .ok (.ior, 1) := by decide +kernel
theorem dX7_join_60 : decode cX7_join 60 = .ok (.iastore, 1) := by decide +kernel
theorem dX7_join_61 : decode cX7_join 61 = .ok (.aload_n 0, 1) := by decide +kernel
theorem dX7_join_62 : decode cX7_join 62 = .ok (.getfield 19, 3) := by decide +kernel
theorem dX7_join_65 : decode cX7_join 65 = .ok (.iload_n 2, 1) := by decide +kernel
theorem dX7_join_66 : decode cX7_join 66 = .ok (.dup2, 1) := by decide +kernel
theorem dX7_join_67 : decode cX7_join 67 = .ok (.iaload, 1) := by decide +kernel
theorem dX7_join_68 : decode cX7_join 68 = .ok (.iconst 1, 1) := by decide +kernel
theorem dX7_join_69 : decode cX7_join 69 = .ok (.iload_n 1, 1) := by decide +kernel
theorem dX7_join_70 : decode cX7_join 70 = .ok (.ishl, 1) := by decide +kernel
theorem dX7_join_71 : decode cX7_join 71 = .ok (.ior, 1) := by decide +kernel
theorem dX7_join_72 : decode cX7_join 72 = .ok (.iastore, 1) := by decide +kernel
theorem dX7_join_73 : decode cX7_join 73 = .ok (.iload_n 3, 1) := by decide +kernel
theorem dX7_join_74 : decode cX7_join 74 = .ok (.ifCond .eq 7, 3) := by decide +kernel
theorem dX7_join_77 : decode cX7_join 77 = .ok (.iconst 0, 1) := by decide +kernel
theorem dX7_join_78 : decode cX7_join 78 = .ok (.goto 4, 3) := by decide +kernel
theorem dX7_join_81 : decode cX7_join 81 = .ok (.iconst 1, 1) := by decide +kernel
theorem dX7_join_82 : decode cX7_join 82 = .ok (.ireturn, 1) := by decide +kernel
set_option maxRecDepth 20000 in
theorem ggX7_part_X7_isPost : GoodIn wsX7_part wsX7_isPost := goodIn_r _ [8, 9, 10, 11, 7, 12, 13, 14, 15, 16, 17, 18, 19, 20, 21, 22, 23, 24, 25, 26, 27, 28, 29, 30, 31, 32, 33, 34, 35, 36, 37, 38, 39, 40] (by decide +kernel) (by decide +kernel)
set_option maxRecDepth 20000 in
theorem gX7_part_X7_isPost : GoodIn wsX7_part (wsV RX7 80 RX7 yX7_isPost wsX7_isPost) := goodIn_app (goodIn_of _ (by decide +kernel)) ggX7_part_X7_isPost
theorem dX7_part_0 : decode cX7_part 0 = .ok (.aload_n 0, 1) := by decide +kernel
theorem dX7_part_1 : decode cX7_part 1 = .ok (.iconst 0, 1) := by decide +kernel
theorem dX7_part_2 : decode cX7_part 2 = .ok (.putfield 51, 3) := by decide +kernel
theorem dX7_part_5 : decode cX7_part 5 = .ok (.aload_n 0, 1) := by decide +kernel
theorem dX7_part_6 : decode cX7_part 6 = .ok (.iload_n 1, 1) := by decide +kernel
theorem dX7_part_7 : decode cX7_part 7 = .ok (.invokevirtual 80, 3) := by decide +kernel
theorem dX7_part_10 : decode cX7_part 10 = .ok (.ifCond .eq 16, 3) := by decide +kernel
theorem dX7_part_13 : decode cX7_part 13 = .ok (.aload_n 0, 1) := by decide +kernel
theorem dX7_part_14 : decode cX7_part 14 = .ok (.iload_n 2, 1) := by decide +kernel
theorem dX7_part_15 : decode cX7_part 15 = .ok (.invokevirtual 80, 3) := by decide +kernel
theorem dX7_part_18 : decode cX7_part 18 = .ok (.ifCond .eq 8, 3) := by decide +kernel
theorem dX7_part_21 : decode cX7_part 21 = .ok (.iload_n 1, 1) := by decide +kernel
theorem dX7_part_22 : decode cX7_part 22 = .ok (.iload_n 2, 1) := by decide +kernel
theorem dX7_part_23 : decode cX7_part 23 = .ok (.if_icmp .ne 6, 3) := by decide +kernel
theorem dX7_part_26 : decode cX7_part 26 = .ok (.ldc 71, 2) := by decide +kernel
theorem dX7_part_28 : decode cX7_part 28 = .ok (.ireturn, 1) := by decide +kernel
theorem dX7_part_29 : decode cX7_part 29 = .ok (.aload_n 0, 1) := by decide +kernel
theorem dX7_part_30 : decode cX7_part 30 = .ok (.getfield 19, 3) := by decide +kernel
theorem dX7_part_33 : decode cX7_part 33 = .ok (.iload_n 1, 1) := by decide +kernel
theorem dX7_part_34 : decode cX7_part 34 = .ok (.iaload, 1) := by decide +kernel
theorem dX7_part_35 : decode cX7_part 35 = .ok (.iload_n 2, 1) := by decide +kernel
theorem dX7_part_36 : decode cX7_part 36 = .ok (.ishr, 1) := by decide +kernel
theorem dX7_part_37 : decode cX7_part 37 = .ok (.iconst 1, 1) := by decide +kernel
theorem dX7_part_38 : decode cX7_part 38 = .ok (.iand, 1) := by decide +kernel
theorem dX7_part_39 : decode cX7_part 39 = .ok (.iconst 1, 1) := by decide +kernel
theorem dX7_part_40 : decode cX7_part 40 = .ok (.if_icmp .ne 7, 3) := by decide +kernel
theorem dX7_part_43 : decode cX7_part 43 = .ok (.iconst 1, 1) := by decide +kernel
theorem dX7_part_44 : decode cX7_part 44 = .ok (.goto 4, 3) := by decide +kernel
theorem dX7_part_47 : decode cX7_part 47 = .ok (.iconst 0, 1) := by decide +kernel
theorem dX7_part_48 : decode cX7_part 48 = .ok (.istore_n 3, 1) := by decide +kernel
theorem dX7_part_49 : decode cX7_part 49 = .ok (.aload_n 0, 1) := by decide +kernel
theorem dX7_part_50 : decode cX7_part 50 = .ok (.getfield 19, 3) := by decide +kernel
theorem dX7_part_53 : decode cX7_part 53 = .ok (.iload_n 1, 1) := by decide +kernel
theorem dX7_part_54 : decode cX7_part 54 = .ok (.dup2, 1) := by decide +kernel
theorem dX7_part_55 : decode cX7_part 55 = .ok (.iaload, 1) := by decide +kernel
theorem dX7_part_56 : decode cX7_part 56 = .ok (.iconst 1, 1) := by decide +kernel
theorem dX7_part_57 : decode cX7_part 57 = .ok (.iload_n 2, 1) := by decide +kernel
theorem dX7_part_58 : decode cX7_part 58 = .ok (.ishl, 1) := by decide +kernel
theorem dX7_part_59 : decode cX7_part 59 = .ok (.iconst (-1), 1) := by decide +kernel
theorem dX7_part_60 : decode cX7_part 60 = .ok (.ixor, 1) := by decide +kernel
theorem dX7_part_61 : decode cX7_part 61 = .ok (.iand, 1) := by decide +kernel
theorem dX7_part_62 : decode cX7_part 62 = .ok (.iastore, 1) := by decide +kernel
theorem dX7_part_63 : decode cX7_part 63 = .ok (.aload_n 0, 1) := by decide +kernel
theorem dX7_part_64 : decode cX7_part 64 = .ok (.getfield 19, 3) := by decide +kernel
theorem dX7_part_67 : decode cX7_part 67 = .ok (.iload_n 2, 1) := by decide +kernel
theorem dX7_part_68 : decode cX7_part 68 = .ok (.dup2, 1) := by decide +kernel
theorem dX7_part_69 : decode cX7_part 69 = .ok (.iaload, 1) := by decide +kernel
theorem dX7_part_70 : decode cX7_part 70 = .ok (.iconst 1, 1) := by decide +kernel
theorem dX7_part_71 : decode cX7_part 71 = .ok (.iload_n 1, 1) := by decide +kernel
theorem dX7_part_72 : decode cX7_part 72 = .ok (.ishl, 1) := by decide +kernel
theorem dX7_part_73 : decode cX7_part 73 = .ok (.iconst (-1), 1) := by decide +kernel
theorem dX7_part_74 : decode cX7_part 74 = .ok (.ixor, 1) := by decide +kernel
theorem dX7_part_75 : decode cX7_part 75 = .ok (.iand, 1) := by decide +kernel
theorem dX7_part_76 : decode cX7_part 76 = .ok (.iastore, 1) := by decide +kernel
theorem dX7_part_77 : decode cX7_part 77 = .ok (.iload_n 3, 1) := by decide +kernel
theorem dX7_part_78 : decode cX7_part 78 = .ok (.ifCond .eq 7, 3) := by decide +kernel
theorem dX7_part_81 : decode cX7_part 81 = .ok (.iconst 1, 1) := by decide +kernel
theorem dX7_part_82 : decode cX7_part 82 = .ok (.goto 4, 3) := by decide +kernel
theorem dX7_part_85 : decode cX7_part 85 = .ok (.iconst 0, 1) := by decide +kernel
theorem dX7_part_86 : decode cX7_part 86 = .ok (.ireturn, 1) := by decide +kernel
theorem dX7_around_0 : decode cX7_around 0 = .ok (.iconst 0, 1) := by decide +kernel
theorem dX7_around_1 : decode cX7_around 1 = .ok (.istore_n 2, 1) := by decide +kernel
theorem dX7_around_2 : decode cX7_around 2 = .ok (.iconst 0, 1) := by decide +kernel
theorem dX7_around_3 : decode cX7_around 3 = .ok (.istore_n 3, 1) := by decide +kernel
theorem dX7_around_4 : decode cX7_around 4 = .ok (.iload_n 3, 1) := by decide +kernel
theorem dX7_around_5 : decode cX7_around 5 = .ok (.aload_n 0, 1) := by decide +kernel
theorem dX7_around_6 : decode cX7_around 6 = .ok (.getfield 76, 3) := by decide +kernel
theorem dX7_around_9 : decode cX7_around 9 = .ok (.if_icmp .ge 31, 3) := by decide +kernel
theorem dX7_around_12 : decode cX7_around 12 = .ok (.iload_n 2, 1) := by decide +kernel
theorem dX7_around_13 : decode cX7_around 13 = .ok (.iload_n 1, 1) := by decide +kernel
theorem dX7_around_14 : decode cX7_around 14 = .ok (.iload_n 3, 1) := by decide +kernel
theorem dX7_around_15 : decode cX7_around 15 = .ok (.ishr, 1) := by decide +kernel
theorem dX7_around_16 : decode cX7_around 16 = .ok (.iconst 1, 1) := by decide +kernel
theorem dX7_around_17 : decode cX7_around 17 = .ok (.iand, 1) := by decide +kernel
theorem dX7_around_18 : decode cX7_around 18 = .ok (.iconst 1, 1) := by decide +kernel
theorem dX7_around_19 : decode cX7_around 19 = .ok (.if_icmp .ne 12, 3) := by decide +kernel
theorem dX7_around_22 : decode cX7_around 22 = .ok (.aload_n 0, 1) := by decide +kernel
theorem dX7_around_23 : decode cX7_around 23 = .ok (.getfield 19, 3) := by decide +kernel
theorem dX7_around_26 : decode cX7_around 26 = .ok (.iload_n 3, 1) := by decide +kernel
theorem dX7_around_27 : decode cX7_around 27 = .ok (.iaload, 1) := by decide +kernel
theorem dX7_around_28 : decode cX7_around 28 = .ok (.goto 4, 3) := by decide +kernel
theorem dX7_around_31 : decode cX7_around 31 = .ok (.iconst 0, 1) := by decide +kernel
theorem dX7_around_32 : decode cX7_around 32 = .ok (.ior, 1) := by decide +kernel
theorem dX7_around_33 : decode cX7_around 33 = .ok (.istore_n 2, 1) := by decide +kernel
theorem dX7_around_34 : decode cX7_around 34 = .ok (.iinc 3 1, 3) := by decide +kernel
theorem dX7_around_37 : decode cX7_around 37 = .ok (.goto (-33), 3) := by decide +kernel
theorem dX7_around_40 : decode cX7_around 40 = .ok (.iload_n 2, 1) := by decide +kernel
theorem dX7_around_41 : decode cX7_around 41 = .ok (.ireturn, 1) := by decide +kernel
set_option maxRecDepth 20000 in
theorem ggX7_reach_X7_around : GoodIn wsX7_reach wsX7_around := goodIn_r _ [5, 6, 7, 8, 9, 10, 11, 12, 13, 14, 15, 16, 17, 18, 19, 20, 21, 22, 23, 24, 25, 26, 27, 28, 29, 30, 31, 32, 33, 34, 35] (by decide +kernel) (by decide +kernel)
set_option maxRecDepth 20000 in
theorem gX7_reach_X7_around : GoodIn wsX7_reach (wsV RX7 83 RX7 yX7_around wsX7_around) := goodIn_app (goodIn_of _ (by decide +kernel)) ggX7_reach_X7_around
theorem dX7_reach_0 : decode cX7_reach 0 = .ok (.iload_n 1, 1) := by decide +kernel
theorem dX7_reach_1 : decode cX7_reach 1 = .ok (.istore_n 2, 1) := by decide +kernel
theorem dX7_reach_2 : decode cX7_reach 2 = .ok (.iconst 0, 1) := by decide +kernel
theorem dX7_reach_3 : decode cX7_reach 3 = .ok (.istore_n 3, 1) := by decide +kernel
theorem dX7_reach_4 : decode cX7_reach 4 = .ok (.iload_n 3, 1) := by decide +kernel
theorem dX7_reach_5 : decode cX7_reach 5 = .ok (.bipush 8, 2) := by decide +kernel
theorem dX7_reach_7 : decode cX7_reach 7 = .ok (.if_icmp .ge 17, 3) := by decide +kernel
theorem dX7_reach_10 : decode cX7_reach 10 = .ok (.iload_n 2, 1) := by decide +kernel
theorem dX7_reach_11 : decode cX7_reach 11 = .ok (.aload_n 0, 1) := by decide +kernel
theorem dX7_reach_12 : decode cX7_reach 12 = .ok (.iload_n 2, 1) := by decide +kernel
theorem dX7_reach_13 : decode cX7_reach 13 = .ok (.invokevirtual 83, 3) := by decide +kernel
theorem dX7_reach_16 : decode cX7_reach 16 = .ok (.ior, 1) := by decide +kernel
theorem dX7_reach_17 : decode cX7_reach 17 = .ok (.istore_n 2, 1) := by decide +kernel
theorem dX7_reach_18 : decode cX7_reach 18 = .ok (.iinc 3 1, 3) := by decide +kernel
theorem dX7_reach_21 : decode cX7_reach 21 = .ok (.goto (-17), 3) := by decide +kernel
theorem dX7_reach_24 : decode cX7_reach 24 = .ok (.iload_n 2, 1) := by decide +kernel
theorem dX7_reach_25 : decode cX7_reach 25 = .ok (.ireturn, 1) := by decide +kernel
set_option maxRecDepth 20000 in
theorem ggX7_farOf_X7_around : GoodIn wsX7_farOf wsX7_around := goodIn_r _ [6, 7, 8, 9, 10, 11, 12, 13, 14, 15, 16, 17, 18, 19, 20, 21, 22, 23, 24, 25, 26, 27, 28, 29, 30, 31, 32, 33, 34, 35, 36] (by decide +kernel) (by decide +kernel)
set_option maxRecDepth 20000 in
theorem gX7_farOf_X7_around : GoodIn wsX7_farOf (wsV RX7 83 RX7 yX7_around wsX7_around) := goodIn_app (goodIn_of _ (by decide +kernel)) ggX7_farOf_X7_around
theorem dX7_farOf_0 : decode cX7_farOf 0 = .ok (.iconst 1, 1) := by decide +kernel
theorem dX7_farOf_1 : decode cX7_farOf 1 = .ok (.iload_n 1, 1) := by decide +kernel
theorem dX7_farOf_2 : decode cX7_farOf 2 = .ok (.ishl, 1) := by decide +kernel
theorem dX7_farOf_3 : decode cX7_farOf 3 = .ok (.istore_n 3, 1) := by decide +kernel
theorem dX7_farOf_4 : decode cX7_farOf 4 = .ok (.iconst 0, 1) := by decide +kernel
theorem dX7_farOf_5 : decode cX7_farOf 5 = .ok (.istore 4, 2) := by decide +kernel
theorem dX7_farOf_7 : decode cX7_farOf 7 = .ok (.iload 4, 2) := by decide +kernel
theorem dX7_farOf_9 : decode cX7_farOf 9 = .ok (.bipush 8, 2) := by decide +kernel
theorem dX7_farOf_11 : decode cX7_farOf 11 = .ok (.if_icmp .ge 29, 3) := by decide +kernel
theorem dX7_farOf_14 : decode cX7_farOf 14 = .ok (.iload_n 3, 1) := by decide +kernel
theorem dX7_farOf_15 : decode cX7_farOf 15 = .ok (.iload_n 2, 1) := by decide +kernel
theorem dX7_farOf_16 : decode cX7_farOf 16 = .ok (.ishr, 1) := by decide +kernel
theorem dX7_farOf_17 : decode cX7_farOf 17 = .ok (.iconst 1, 1) := by decide +kernel
theorem dX7_farOf_18 : decode cX7_farOf 18 = .ok (.iand, 1) := by decide +kernel
theorem dX7_farOf_19 : decode cX7_farOf 19 = .ok (.iconst 1, 1) := by decide +kernel
theorem dX7_farOf_20 : decode cX7_farOf 20 = .ok (.if_icmp .ne 6, 3) := by decide +kernel
theorem dX7_farOf_23 : decode cX7_farOf 23 = .ok (.iload 4, 2) := by decide +kernel
theorem dX7_farOf_25 : decode cX7_farOf 25 = .ok (.ireturn, 1) := by decide +kernel
theorem dX7_farOf_26 : decode cX7_farOf 26 = .ok (.iload_n 3, 1) := by decide +kernel
theorem dX7_farOf_27 : decode cX7_farOf 27 = .ok (.aload_n 0, 1) := by decide +kernel
theorem dX7_farOf_28 : decode cX7_farOf 28 = .ok (.iload_n 3, 1) := by decide +kernel
theorem dX7_farOf_29 : decode cX7_farOf 29 = .ok (.invokevirtual 83, 3) := by decide +kernel
theorem dX7_farOf_32 : decode cX7_farOf 32 = .ok (.ior, 1) := by decide +kernel
theorem dX7_farOf_33 : decode cX7_farOf 33 = .ok (.istore_n 3, 1) := by decide +kernel
theorem dX7_farOf_34 : decode cX7_farOf 34 = .ok (.iinc 4 1, 3) := by decide +kernel
theorem dX7_farOf_37 : decode cX7_farOf 37 = .ok (.goto (-30), 3) := by decide +kernel
theorem dX7_farOf_40 : decode cX7_farOf 40 = .ok (.ldc 86, 2) := by decide +kernel
theorem dX7_farOf_42 : decode cX7_farOf 42 = .ok (.ireturn, 1) := by decide +kernel
set_option maxRecDepth 20000 in
theorem ggX7_widthOf_X7_farOf : GoodIn wsX7_widthOf wsX7_farOf := goodIn_r _ [6, 7, 8, 9, 10, 5, 11, 1, 12, 13, 14, 15, 16, 17, 18, 19, 20, 21, 22, 23, 24, 25, 26, 27, 28, 29, 30, 31, 32, 33, 34, 35, 36, 37, 38, 39, 40] (by decide +kernel) (by decide +kernel)
set_option maxRecDepth 20000 in
theorem gX7_widthOf_X7_farOf : GoodIn wsX7_widthOf (wsV RX7 87 RX7 yX7_farOf wsX7_farOf) := goodIn_app (goodIn_of _ (by decide +kernel)) ggX7_widthOf_X7_farOf
theorem dX7_widthOf_0 : decode cX7_widthOf 0 = .ok (.iconst 0, 1) := by decide +kernel
theorem dX7_widthOf_1 : decode cX7_widthOf 1 = .ok (.istore_n 2, 1) := by decide +kernel
theorem dX7_widthOf_2 : decode cX7_widthOf 2 = .ok (.iconst 0, 1) := by decide +kernel
theorem dX7_widthOf_3 : decode cX7_widthOf 3 = .ok (.istore_n 3, 1) := by decide +kernel
theorem dX7_widthOf_4 : decode cX7_widthOf 4 = .ok (.iload_n 3, 1) := by decide +kernel
theorem dX7_widthOf_5 : decode cX7_widthOf 5 = .ok (.aload_n 0, 1) := by decide +kernel
theorem dX7_widthOf_6 : decode cX7_widthOf 6 = .ok (.getfield 76, 3) := by decide +kernel
theorem dX7_widthOf_9 : decode cX7_widthOf 9 = .ok (.if_icmp .ge 30, 3) := by decide +kernel
theorem dX7_widthOf_12 : decode cX7_widthOf 12 = .ok (.aload_n 0, 1) := by decide +kernel
theorem dX7_widthOf_13 : decode cX7_widthOf 13 = .ok (.iload_n 1, 1) := by decide +kernel
theorem dX7_widthOf_14 : decode cX7_widthOf 14 = .ok (.iload_n 3, 1) := by decide +kernel
theorem dX7_widthOf_15 : decode cX7_widthOf 15 = .ok (.invokevirtual 87, 3) := by decide +kernel
theorem dX7_widthOf_18 : decode cX7_widthOf 18 = .ok (.iload_n 2, 1) := by decide +kernel
theorem dX7_widthOf_19 : decode cX7_widthOf 19 = .ok (.if_icmp .le 12, 3) := by decide +kernel
theorem dX7_widthOf_22 : decode cX7_widthOf 22 = .ok (.aload_n 0, 1) := by decide +kernel
theorem dX7_widthOf_23 : decode cX7_widthOf 23 = .ok (.iload_n 1, 1) := by decide +kernel
theorem dX7_widthOf_24 : decode cX7_widthOf 24 = .ok (.iload_n 3, 1) := by decide +kernel
theorem dX7_widthOf_25 : decode cX7_widthOf 25 = .ok (.invokevirtual 87, 3) := by decide +kernel
theorem dX7_widthOf_28 : decode cX7_widthOf 28 = .ok (.goto 4, 3) := by decide +kernel
theorem dX7_widthOf_31 : decode cX7_widthOf 31 = .ok (.iload_n 2, 1) := by decide +kernel
theorem dX7_widthOf_32 : decode cX7_widthOf 32 = .ok (.istore_n 2, 1) := by decide +kernel
theorem dX7_widthOf_33 : decode cX7_widthOf 33 = .ok (.iinc 3 1, 3) := by decide +kernel
theorem dX7_widthOf_36 : decode cX7_widthOf 36 = .ok (.goto (-32), 3) := by decide +kernel
theorem dX7_widthOf_39 : decode cX7_widthOf 39 = .ok (.iload_n 2, 1) := by decide +kernel
theorem dX7_widthOf_40 : decode cX7_widthOf 40 = .ok (.ireturn, 1) := by decide +kernel
set_option maxRecDepth 20000 in
theorem ggX7_far_X7_isPost : GoodIn wsX7_far wsX7_isPost := goodIn_r _ [7, 8, 9, 10, 6, 11, 22, 23, 24, 25, 26, 27, 28, 29, 30, 31, 32, 33, 34, 35, 36, 37, 38, 39, 40, 41, 42, 43, 44, 45, 46, 47, 48, 49] (by decide +kernel) (by decide +kernel)
set_option maxRecDepth 20000 in
theorem gX7_far_X7_isPost : GoodIn wsX7_far (wsV RX7 80 RX7 yX7_isPost wsX7_isPost) := goodIn_app (goodIn_of _ (by decide +kernel)) ggX7_far_X7_isPost
set_option maxRecDepth 20000 in
theorem ggX7_far_X7_farOf : GoodIn wsX7_far wsX7_farOf := goodIn_r _ [15, 16, 17, 18, 19, 6, 20, 8, 21, 22, 23, 24, 25, 26, 27, 28, 29, 30, 31, 32, 33, 34, 35, 36, 37, 38, 39, 40, 41, 42, 43, 44, 45, 46, 47, 48, 49] (by decide +kernel) (by decide +kernel)
set_option maxRecDepth 20000 in
theorem gX7_far_X7_farOf : GoodIn wsX7_far (wsV RX7 87 RX7 yX7_farOf wsX7_farOf) := goodIn_app (goodIn_of _ (by decide +kernel)) ggX7_far_X7_farOf
theorem dX7_far_0 : decode cX7_far 0 = .ok (.aload_n 0, 1) := by decide +kernel
theorem dX7_far_1 : decode cX7_far 1 = .ok (.iconst 0, 1) := by decide +kernel
theorem dX7_far_2 : decode cX7_far 2 = .ok (.putfield 51, 3) := by decide +kernel
theorem dX7_far_5 : decode cX7_far 5 = .ok (.aload_n 0, 1) := by decide +kernel
theorem dX7_far_6 : decode cX7_far 6 = .ok (.iload_n 1, 1) := by decide +kernel
theorem dX7_far_7 : decode cX7_far 7 = .ok (.invokevirtual 80, 3) := by decide +kernel
theorem dX7_far_10 : decode cX7_far 10 = .ok (.ifCond .eq 11, 3) := by decide +kernel
theorem dX7_far_13 : decode cX7_far 13 = .ok (.aload_n 0, 1) := by decide +kernel
theorem dX7_far_14 : decode cX7_far 14 = .ok (.iload_n 2, 1) := by decide +kernel
theorem dX7_far_15 : decode cX7_far 15 = .ok (.invokevirtual 80, 3) := by decide +kernel
theorem dX7_far_18 : decode cX7_far 18 = .ok (.ifCond .ne 8, 3) := by decide +kernel
theorem dX7_far_21 : decode cX7_far 21 = .ok (.ldc 71, 2) := by decide +kernel
theorem dX7_far_23 : decode cX7_far 23 = .ok (.goto 9, 3) := by decide +kernel
theorem dX7_far_26 : decode cX7_far 26 = .ok (.aload_n 0, 1) := by decide +kernel
theorem dX7_far_27 : decode cX7_far 27 = .ok (.iload_n 1, 1) := by decide +kernel
theorem dX7_far_28 : decode cX7_far 28 = .ok (.iload_n 2, 1) := by decide +kernel
theorem dX7_far_29 : decode cX7_far 29 = .ok (.invokevirtual 87, 3) := by decide +kernel
theorem dX7_far_32 : decode cX7_far 32 = .ok (.ireturn, 1) := by decide +kernel
set_option maxRecDepth 20000 in
theorem ggX7_told_X7_isPost : GoodIn wsX7_told wsX7_isPost := goodIn_r _ [9, 10, 11, 12, 8, 13, 34, 35, 36, 37, 38, 39, 40, 41, 42, 43, 44, 45, 46, 47, 48, 49, 50, 51, 52, 53, 54, 55, 56, 57, 58, 59, 60, 61] (by decide +kernel) (by decide +kernel)
set_option maxRecDepth 20000 in
theorem gX7_told_X7_isPost : GoodIn wsX7_told (wsV RX7 80 RX7 yX7_isPost wsX7_isPost) := goodIn_app (goodIn_of _ (by decide +kernel)) ggX7_told_X7_isPost
set_option maxRecDepth 20000 in
theorem ggX7_told_X7_in : GoodIn wsX7_told wsX7_in := goodIn_r _ [13] (by decide +kernel) (by decide +kernel)
set_option maxRecDepth 20000 in
theorem gX7_told_X7_in : GoodIn wsX7_told (va_wsS RX7 61 yX7_in wsX7_in) := goodIn_app (goodIn_of _ (by decide +kernel)) ggX7_told_X7_in
set_option maxRecDepth 20000 in
theorem ggX7_told_X7_size : GoodIn wsX7_told wsX7_size := goodIn_r _ [16] (by decide +kernel) (by decide +kernel)
set_option maxRecDepth 20000 in
theorem gX7_told_X7_size : GoodIn wsX7_told (va_wsS RX7 93 yX7_size wsX7_size) := goodIn_app (goodIn_of _ (by decide +kernel)) ggX7_told_X7_size
set_option maxRecDepth 20000 in
theorem ggX7_told_X7_widthOf : GoodIn wsX7_told wsX7_widthOf := goodIn_r _ [20, 10, 21, 22, 23, 8, 24, 25, 26, 27, 28, 29, 4, 34, 35, 36, 37, 38, 39, 40, 41, 42, 43, 44, 45, 46, 47, 48, 49, 50, 51, 52, 53, 54, 55, 56, 57, 58, 59, 60, 61] (by decide +kernel) (by decide +kernel)
set_option maxRecDepth 20000 in
theorem gX7_told_X7_widthOf : GoodIn wsX7_told (wsV RX7 96 RX7 yX7_widthOf wsX7_widthOf) := goodIn_app (goodIn_of _ (by decide +kernel)) ggX7_told_X7_widthOf
set_option maxRecDepth 20000 in
theorem ggX7_told_X7_reach : GoodIn wsX7_told wsX7_reach := goodIn_r _ [33, 26, 27, 28, 8, 29, 10, 4, 34, 35, 36, 37, 38, 39, 40, 41, 42, 43, 44, 45, 46, 47, 48, 49, 50, 51, 52, 53, 54, 55, 56, 57, 58, 59, 60, 61] (by decide +kernel) (by decide +kernel)
set_option maxRecDepth 20000 in
theorem gX7_told_X7_reach : GoodIn wsX7_told (wsV RX7 99 RX7 yX7_reach wsX7_reach) := goodIn_app (goodIn_of _ (by decide +kernel)) ggX7_told_X7_reach
theorem dX7_told_0 : decode cX7_told 0 = .ok (.aload_n 0, 1) := by decide +kernel
theorem dX7_told_1 : decode cX7_told 1 = .ok (.iconst 0, 1) := by decide +kernel
theorem dX7_told_2 : decode cX7_told 2 = .ok (.putfield 51, 3) := by decide +kernel
theorem dX7_told_5 : decode cX7_told 5 = .ok (.aload_n 0, 1) := by decide +kernel
theorem dX7_told_6 : decode cX7_told 6 = .ok (.iload_n 1, 1) := by decide +kernel
theorem dX7_told_7 : decode cX7_told 7 = .ok (.invokevirtual 80, 3) := by decide +kernel
theorem dX7_told_10 : decode cX7_told 10 = .ok (.ifCond .eq 15, 3) := by decide +kernel
theorem dX7_told_13 : decode cX7_told 13 = .ok (.iload_n 2, 1) := by decide +kernel
theorem dX7_told_14 : decode cX7_told 14 = .ok (.i2l, 1) := by decide +kernel
theorem dX7_told_15 : decode cX7_told 15 = .ok (.lconst 0, 1) := by decide +kernel
theorem dX7_told_16 : decode cX7_told 16 = .ok (.ldc2_w 91, 3) := by decide +kernel
theorem dX7_told_19 : decode cX7_told 19 = .ok (.invokestatic 61, 3) := by decide +kernel
theorem dX7_told_22 : decode cX7_told 22 = .ok (.ifCond .ne 6, 3) := by decide +kernel
theorem dX7_told_25 : decode cX7_told 25 = .ok (.ldc 71, 2) := by decide +kernel
theorem dX7_told_27 : decode cX7_told 27 = .ok (.ireturn, 1) := by decide +kernel
theorem dX7_told_28 : decode cX7_told 28 = .ok (.iload_n 2, 1) := by decide +kernel
theorem dX7_told_29 : decode cX7_told 29 = .ok (.ifCond .ne 15, 3) := by decide +kernel
theorem dX7_told_32 : decode cX7_told 32 = .ok (.aload_n 0, 1) := by decide +kernel
theorem dX7_told_33 : decode cX7_told 33 = .ok (.getfield 19, 3) := by decide +kernel
theorem dX7_told_36 : decode cX7_told 36 = .ok (.iload_n 1, 1) := by decide +kernel
theorem dX7_told_37 : decode cX7_told 37 = .ok (.iaload, 1) := by decide +kernel
theorem dX7_told_38 : decode cX7_told 38 = .ok (.invokestatic 93, 3) := by decide +kernel
theorem dX7_told_41 : decode cX7_told 41 = .ok (.goto 37, 3) := by decide +kernel
theorem dX7_told_44 : decode cX7_told 44 = .ok (.iload_n 2, 1) := by decide +kernel
theorem dX7_told_45 : decode cX7_told 45 = .ok (.iconst 1, 1) := by decide +kernel
theorem dX7_told_46 : decode cX7_told 46 = .ok (.if_icmp .ne 12, 3) := by decide +kernel
theorem dX7_told_49 : decode cX7_told 49 = .ok (.aload_n 0, 1) := by decide +kernel
theorem dX7_told_50 : decode cX7_told 50 = .ok (.getfield 19, 3) := by decide +kernel
theorem dX7_told_53 : decode cX7_told 53 = .ok (.iload_n 1, 1) := by decide +kernel
theorem dX7_told_54 : decode cX7_told 54 = .ok (.iaload, 1) := by decide +kernel
theorem dX7_told_55 : decode cX7_told 55 = .ok (.goto 23, 3) := by decide +kernel
theorem dX7_told_58 : decode cX7_told 58 = .ok (.iload_n 2, 1) := by decide +kernel
theorem dX7_told_59 : decode cX7_told 59 = .ok (.iconst 2, 1) := by decide +kernel
theorem dX7_told_60 : decode cX7_told 60 = .ok (.if_icmp .ne 11, 3) := by decide +kernel
theorem dX7_told_63 : decode cX7_told 63 = .ok (.aload_n 0, 1) := by decide +kernel
theorem dX7_told_64 : decode cX7_told 64 = .ok (.iload_n 1, 1) := by decide +kernel
theorem dX7_told_65 : decode cX7_told 65 = .ok (.invokevirtual 96, 3) := by decide +kernel
theorem dX7_told_68 : decode cX7_told 68 = .ok (.goto 10, 3) := by decide +kernel
theorem dX7_told_71 : decode cX7_told 71 = .ok (.aload_n 0, 1) := by decide +kernel
theorem dX7_told_72 : decode cX7_told 72 = .ok (.iconst 1, 1) := by decide +kernel
theorem dX7_told_73 : decode cX7_told 73 = .ok (.iload_n 1, 1) := by decide +kernel
theorem dX7_told_74 : decode cX7_told 74 = .ok (.ishl, 1) := by decide +kernel
theorem dX7_told_75 : decode cX7_told 75 = .ok (.invokevirtual 99, 3) := by decide +kernel
theorem dX7_told_78 : decode cX7_told 78 = .ok (.ireturn, 1) := by decide +kernel
set_option maxRecDepth 20000 in
theorem ggX7_isHearing_X7_in : GoodIn wsX7_isHearing wsX7_in := goodIn_r _ [4] (by decide +kernel) (by decide +kernel)
set_option maxRecDepth 20000 in
theorem gX7_isHearing_X7_in : GoodIn wsX7_isHearing (va_wsS RX7 61 yX7_in wsX7_in) := goodIn_app (goodIn_of _ (by decide +kernel)) ggX7_isHearing_X7_in
theorem dX7_isHearing_0 : decode cX7_isHearing 0 = .ok (.iload_n 0, 1) := by decide +kernel
theorem dX7_isHearing_1 : decode cX7_isHearing 1 = .ok (.i2l, 1) := by decide +kernel
theorem dX7_isHearing_2 : decode cX7_isHearing 2 = .ok (.lconst 0, 1) := by decide +kernel
theorem dX7_isHearing_3 : decode cX7_isHearing 3 = .ok (.lconst 1, 1) := by decide +kernel
theorem dX7_isHearing_4 : decode cX7_isHearing 4 = .ok (.invokestatic 61, 3) := by decide +kernel
theorem dX7_isHearing_7 : decode cX7_isHearing 7 = .ok (.ireturn, 1) := by decide +kernel
set_option maxRecDepth 20000 in
theorem ggX7_isSet_X7_all : GoodIn wsX7_isSet wsX7_all := goodIn_r _ [5, 6, 10, 11, 12, 13, 14, 15, 16, 17, 18, 19, 20, 21, 22, 23, 24, 25, 26, 27, 28, 29, 30, 31, 32, 33, 34, 35, 36, 37] (by decide +kernel) (by decide +kernel)
set_option maxRecDepth 20000 in
theorem gX7_isSet_X7_all : GoodIn wsX7_isSet (wsV RX7 102 RX7 yX7_all wsX7_all) := goodIn_app (goodIn_of _ (by decide +kernel)) ggX7_isSet_X7_all
set_option maxRecDepth 20000 in
theorem ggX7_isSet_X7_in : GoodIn wsX7_isSet wsX7_in := goodIn_r _ [9] (by decide +kernel) (by decide +kernel)
set_option maxRecDepth 20000 in
theorem gX7_isSet_X7_in : GoodIn wsX7_isSet (va_wsS RX7 61 yX7_in wsX7_in) := goodIn_app (goodIn_of _ (by decide +kernel)) ggX7_isSet_X7_in
theorem dX7_isSet_0 : decode cX7_isSet 0 = .ok (.iload_n 1, 1) := by decide +kernel
theorem dX7_isSet_1 : decode cX7_isSet 1 = .ok (.i2l, 1) := by decide +kernel
theorem dX7_isSet_2 : decode cX7_isSet 2 = .ok (.lconst 0, 1) := by decide +kernel
theorem dX7_isSet_3 : decode cX7_isSet 3 = .ok (.aload_n 0, 1) := by decide +kernel
theorem dX7_isSet_4 : decode cX7_isSet 4 = .ok (.invokevirtual 102, 3) := by decide +kernel
theorem dX7_isSet_7 : decode cX7_isSet 7 = .ok (.i2l, 1) := by decide +kernel
theorem dX7_isSet_8 : decode cX7_isSet 8 = .ok (.invokestatic 61, 3) := by decide +kernel
theorem dX7_isSet_11 : decode cX7_isSet 11 = .ok (.ireturn, 1) := by decide +kernel
set_option maxRecDepth 20000 in
theorem ggX7_hearing_X7_size : GoodIn wsX7_hearing wsX7_size := goodIn_r _ [6] (by decide +kernel) (by decide +kernel)
set_option maxRecDepth 20000 in
theorem gX7_hearing_X7_size : GoodIn wsX7_hearing (va_wsS RX7 93 yX7_size wsX7_size) := goodIn_app (goodIn_of _ (by decide +kernel)) ggX7_hearing_X7_size
theorem dX7_hearing_0 : decode cX7_hearing 0 = .ok (.iconst 0, 1) := by decide +kernel
theorem dX7_hearing_1 : decode cX7_hearing 1 = .ok (.istore_n 3, 1) := by decide +kernel
theorem dX7_hearing_2 : decode cX7_hearing 2 = .ok (.iconst 0, 1) := by decide +kernel
theorem dX7_hearing_3 : decode cX7_hearing 3 = .ok (.istore 4, 2) := by decide +kernel
theorem dX7_hearing_5 : decode cX7_hearing 5 = .ok (.iload 4, 2) := by decide +kernel
theorem dX7_hearing_7 : decode cX7_hearing 7 = .ok (.aload_n 0, 1) := by decide +kernel
theorem dX7_hearing_8 : decode cX7_hearing 8 = .ok (.getfield 76, 3) := by decide +kernel
theorem dX7_hearing_11 : decode cX7_hearing 11 = .ok (.if_icmp .ge 61, 3) := by decide +kernel
theorem dX7_hearing_14 : decode cX7_hearing 14 = .ok (.aload_n 0, 1) := by decide +kernel
theorem dX7_hearing_15 : decode cX7_hearing 15 = .ok (.getfield 19, 3) := by decide +kernel
theorem dX7_hearing_18 : decode cX7_hearing 18 = .ok (.iload 4, 2) := by decide +kernel
theorem dX7_hearing_20 : decode cX7_hearing 20 = .ok (.iaload, 1) := by decide +kernel
theorem dX7_hearing_21 : decode cX7_hearing 21 = .ok (.iload_n 2, 1) := by decide +kernel
theorem dX7_hearing_22 : decode cX7_hearing 22 = .ok (.iand, 1) := by decide +kernel
theorem dX7_hearing_23 : decode cX7_hearing 23 = .ok (.invokestatic 93, 3) := by decide +kernel
theorem dX7_hearing_26 : decode cX7_hearing 26 = .ok (.istore 5, 2) := by decide +kernel
theorem dX7_hearing_28 : decode cX7_hearing 28 = .ok (.iload_n 3, 1) := by decide +kernel
theorem dX7_hearing_29 : decode cX7_hearing 29 = .ok (.iload_n 2, 1) := by decide +kernel
theorem dX7_hearing_30 : decode cX7_hearing 30 = .ok (.iload 4, 2) := by decide +kernel
theorem dX7_hearing_32 : decode cX7_hearing 32 = .ok (.ishr, 1) := by decide +kernel
theorem dX7_hearing_33 : decode cX7_hearing 33 = .ok (.iconst 1, 1) := by decide +kernel
theorem dX7_hearing_34 : decode cX7_hearing 34 = .ok (.iand, 1) := by decide +kernel
theorem dX7_hearing_35 : decode cX7_hearing 35 = .ok (.ifCond .ne 28, 3) := by decide +kernel
theorem dX7_hearing_38 : decode cX7_hearing 38 = .ok (.iload_n 1, 1) := by decide +kernel
theorem dX7_hearing_39 : decode cX7_hearing 39 = .ok (.ifCond .ne 11, 3) := by decide +kernel
theorem dX7_hearing_42 : decode cX7_hearing 42 = .ok (.iload 5, 2) := by decide +kernel
theorem dX7_hearing_44 : decode cX7_hearing 44 = .ok (.ifCond .le 19, 3) := by decide +kernel
theorem dX7_hearing_47 : decode cX7_hearing 47 = .ok (.goto 9, 3) := by decide +kernel
theorem dX7_hearing_50 : decode cX7_hearing 50 = .ok (.iload 5, 2) := by decide +kernel
theorem dX7_hearing_52 : decode cX7_hearing 52 = .ok (.iconst 1, 1) := by decide +kernel
theorem dX7_hearing_53 : decode cX7_hearing 53 = .ok (.if_icmp .ne 10, 3) := by decide +kernel
theorem dX7_hearing_56 : decode cX7_hearing 56 = .ok (.iconst 1, 1) := by decide +kernel
theorem dX7_hearing_57 : decode cX7_hearing 57 = .ok (.iload 4, 2) := by decide +kernel
theorem dX7_hearing_59 : decode cX7_hearing 59 = .ok (.ishl, 1) := by decide +kernel
theorem dX7_hearing_60 : decode cX7_hearing 60 = .ok (.goto 4, 3) := by decide +kernel
theorem dX7_hearing_63 : decode cX7_hearing 63 = .ok (.iconst 0, 1) := by decide +kernel
theorem dX7_hearing_64 : decode cX7_hearing 64 = .ok (.ior, 1) := by decide +kernel
theorem dX7_hearing_65 : decode cX7_hearing 65 = .ok (.istore_n 3, 1) := by decide +kernel
theorem dX7_hearing_66 : decode cX7_hearing 66 = .ok (.iinc 4 1, 3) := by decide +kernel
theorem dX7_hearing_69 : decode cX7_hearing 69 = .ok (.goto (-64), 3) := by decide +kernel
theorem dX7_hearing_72 : decode cX7_hearing 72 = .ok (.iload_n 3, 1) := by decide +kernel
theorem dX7_hearing_73 : decode cX7_hearing 73 = .ok (.ireturn, 1) := by decide +kernel
set_option maxRecDepth 20000 in
theorem ggX7_spread_X7_hearing : GoodIn wsX7_spread wsX7_hearing := goodIn_r _ [5, 6, 7, 8, 9, 4, 10, 11, 12, 13, 14, 15, 16, 17, 18, 19, 20, 21, 22, 23, 24, 25, 26, 27, 28, 29, 30, 31, 32, 33, 34, 35, 36, 37, 38] (by decide +kernel) (by decide +kernel)
set_option maxRecDepth 20000 in
theorem gX7_spread_X7_hearing : GoodIn wsX7_spread (wsV RX7 106 RX7 yX7_hearing wsX7_hearing) := goodIn_app (goodIn_of _ (by decide +kernel)) ggX7_spread_X7_hearing
theorem dX7_spread_0 : decode cX7_spread 0 = .ok (.iload_n 2, 1) := by decide +kernel
theorem dX7_spread_1 : decode cX7_spread 1 = .ok (.aload_n 0, 1) := by decide +kernel
theorem dX7_spread_2 : decode cX7_spread 2 = .ok (.iload_n 1, 1) := by decide +kernel
theorem dX7_spread_3 : decode cX7_spread 3 = .ok (.iload_n 2, 1) := by decide +kernel
theorem dX7_spread_4 : decode cX7_spread 4 = .ok (.iload_n 3, 1) := by decide +kernel
theorem dX7_spread_5 : decode cX7_spread 5 = .ok (.iand, 1) := by decide +kernel
theorem dX7_spread_6 : decode cX7_spread 6 = .ok (.invokevirtual 106, 3) := by decide +kernel
theorem dX7_spread_9 : decode cX7_spread 9 = .ok (.ior, 1) := by decide +kernel
theorem dX7_spread_10 : decode cX7_spread 10 = .ok (.ireturn, 1) := by decide +kernel
set_option maxRecDepth 20000 in
theorem ggX7_hears_X7_isHearing : GoodIn wsX7_hears wsX7_isHearing := goodIn_r _ [6, 7, 8, 5, 9] (by decide +kernel) (by decide +kernel)
set_option maxRecDepth 20000 in
theorem gX7_hears_X7_isHearing : GoodIn wsX7_hears (va_wsS RX7 109 yX7_isHearing wsX7_isHearing) := goodIn_app (goodIn_of _ (by decide +kernel)) ggX7_hears_X7_isHearing
set_option maxRecDepth 20000 in
theorem ggX7_hears_X7_isSet : GoodIn wsX7_hears wsX7_isSet := goodIn_r _ [13, 14, 15, 16, 5, 17, 18, 7, 8, 9, 27, 28, 29, 30, 31, 32, 33, 34, 35, 36, 37, 38, 39, 40, 41, 42, 43, 44, 45, 46, 47, 48, 49, 50, 51, 52, 53, 54] (by decide +kernel) (by decide +kernel)
set_option maxRecDepth 20000 in
theorem gX7_hears_X7_isSet : GoodIn wsX7_hears (wsV RX7 112 RX7 yX7_isSet wsX7_isSet) := goodIn_app (goodIn_of _ (by decide +kernel)) ggX7_hears_X7_isSet
set_option maxRecDepth 20000 in
theorem ggX7_hears_X7_hearing : GoodIn wsX7_hears wsX7_hearing := goodIn_r _ [22, 18, 23, 24, 25, 5, 26, 27, 28, 29, 30, 31, 32, 33, 34, 35, 36, 37, 38, 39, 40, 41, 42, 43, 44, 45, 46, 47, 48, 49, 50, 51, 52, 53, 54] (by decide +kernel) (by decide +kernel)
set_option maxRecDepth 20000 in
theorem gX7_hears_X7_hearing : GoodIn wsX7_hears (wsV RX7 106 RX7 yX7_hearing wsX7_hearing) := goodIn_app (goodIn_of _ (by decide +kernel)) ggX7_hears_X7_hearing
theorem dX7_hears_0 : decode cX7_hears 0 = .ok (.aload_n 0, 1) := by decide +kernel
theorem dX7_hears_1 : decode cX7_hears 1 = .ok (.iconst 0, 1) := by decide +kernel
theorem dX7_hears_2 : decode cX7_hears 2 = .ok (.putfield 51, 3) := by decide +kernel
theorem dX7_hears_5 : decode cX7_hears 5 = .ok (.iload_n 1, 1) := by decide +kernel
theorem dX7_hears_6 : decode cX7_hears 6 = .ok (.invokestatic 109, 3) := by decide +kernel
theorem dX7_hears_9 : decode cX7_hears 9 = .ok (.ifCond .eq 11, 3) := by decide +kernel
theorem dX7_hears_12 : decode cX7_hears 12 = .ok (.aload_n 0, 1) := by decide +kernel
theorem dX7_hears_13 : decode cX7_hears 13 = .ok (.iload_n 2, 1) := by decide +kernel
theorem dX7_hears_14 : decode cX7_hears 14 = .ok (.invokevirtual 112, 3) := by decide +kernel
theorem dX7_hears_17 : decode cX7_hears 17 = .ok (.ifCond .ne 8, 3) := by decide +kernel
theorem dX7_hears_20 : decode cX7_hears 20 = .ok (.ldc 71, 2) := by decide +kernel
theorem dX7_hears_22 : decode cX7_hears 22 = .ok (.goto 9, 3) := by decide +kernel
theorem dX7_hears_25 : decode cX7_hears 25 = .ok (.aload_n 0, 1) := by decide +kernel
theorem dX7_hears_26 : decode cX7_hears 26 = .ok (.iload_n 1, 1) := by decide +kernel
theorem dX7_hears_27 : decode cX7_hears 27 = .ok (.iload_n 2, 1) := by decide +kernel
theorem dX7_hears_28 : decode cX7_hears 28 = .ok (.invokevirtual 106, 3) := by decide +kernel
theorem dX7_hears_31 : decode cX7_hears 31 = .ok (.ireturn, 1) := by decide +kernel
set_option maxRecDepth 20000 in
theorem ggX7_spreads_X7_isHearing : GoodIn wsX7_spreads wsX7_isHearing := goodIn_r _ [6, 7, 8, 5, 9] (by decide +kernel) (by decide +kernel)
set_option maxRecDepth 20000 in
theorem gX7_spreads_X7_isHearing : GoodIn wsX7_spreads (va_wsS RX7 109 yX7_isHearing wsX7_isHearing) := goodIn_app (goodIn_of _ (by decide +kernel)) ggX7_spreads_X7_isHearing
set_option maxRecDepth 20000 in
theorem ggX7_spreads_X7_isSet : GoodIn wsX7_spreads wsX7_isSet := goodIn_r _ [13, 14, 15, 16, 5, 17, 18, 7, 8, 9, 31, 32, 33, 34, 35, 36, 37, 38, 39, 40, 41, 42, 43, 44, 45, 46, 47, 48, 49, 50, 51, 52, 53, 54, 55, 56, 57, 58] (by decide +kernel) (by decide +kernel)
set_option maxRecDepth 20000 in
theorem gX7_spreads_X7_isSet : GoodIn wsX7_spreads (wsV RX7 112 RX7 yX7_isSet wsX7_isSet) := goodIn_app (goodIn_of _ (by decide +kernel)) ggX7_spreads_X7_isSet
set_option maxRecDepth 20000 in
theorem ggX7_spreads_X7_spread : GoodIn wsX7_spreads wsX7_spread := goodIn_r _ [22, 23, 24, 25, 5, 26, 18, 27, 28, 29, 30, 31, 32, 33, 34, 35, 36, 37, 38, 39, 40, 41, 42, 43, 44, 45, 46, 47, 48, 49, 50, 51, 52, 53, 54, 55, 56, 57, 58] (by decide +kernel) (by decide +kernel)
set_option maxRecDepth 20000 in
theorem gX7_spreads_X7_spread : GoodIn wsX7_spreads (wsV RX7 115 RX7 yX7_spread wsX7_spread) := goodIn_app (goodIn_of _ (by decide +kernel)) ggX7_spreads_X7_spread
theorem dX7_spreads_0 : decode cX7_spreads 0 = .ok (.aload_n 0, 1) := by decide +kernel
theorem dX7_spreads_1 : decode cX7_spreads 1 = .ok (.iconst 0, 1) := by decide +kernel
theorem dX7_spreads_2 : decode cX7_spreads 2 = .ok (.putfield 51, 3) := by decide +kernel
theorem dX7_spreads_5 : decode cX7_spreads 5 = .ok (.iload_n 1, 1) := by decide +kernel
theorem dX7_spreads_6 : decode cX7_spreads 6 = .ok (.invokestatic 109, 3) := by decide +kernel
theorem dX7_spreads_9 : decode cX7_spreads 9 = .ok (.ifCond .eq 19, 3) := by decide +kernel
theorem dX7_spreads_12 : decode cX7_spreads 12 = .ok (.aload_n 0, 1) := by decide +kernel
theorem dX7_spreads_13 : decode cX7_spreads 13 = .ok (.iload_n 2, 1) := by decide +kernel
theorem dX7_spreads_14 : decode cX7_spreads 14 = .ok (.invokevirtual 112, 3) := by decide +kernel
theorem dX7_spreads_17 : decode cX7_spreads 17 = .ok (.ifCond .eq 11, 3) := by decide +kernel
theorem dX7_spreads_20 : decode cX7_spreads 20 = .ok (.aload_n 0, 1) := by decide +kernel
theorem dX7_spreads_21 : decode cX7_spreads 21 = .ok (.iload_n 3, 1) := by decide +kernel
theorem dX7_spreads_22 : decode cX7_spreads 22 = .ok (.invokevirtual 112, 3) := by decide +kernel
theorem dX7_spreads_25 : decode cX7_spreads 25 = .ok (.ifCond .ne 8, 3) := by decide +kernel
theorem dX7_spreads_28 : decode cX7_spreads 28 = .ok (.ldc 71, 2) := by decide +kernel
theorem dX7_spreads_30 : decode cX7_spreads 30 = .ok (.goto 10, 3) := by decide +kernel
theorem dX7_spreads_33 : decode cX7_spreads 33 = .ok (.aload_n 0, 1) := by decide +kernel
theorem dX7_spreads_34 : decode cX7_spreads 34 = .ok (.iload_n 1, 1) := by decide +kernel
theorem dX7_spreads_35 : decode cX7_spreads 35 = .ok (.iload_n 2, 1) := by decide +kernel
theorem dX7_spreads_36 : decode cX7_spreads 36 = .ok (.iload_n 3, 1) := by decide +kernel
theorem dX7_spreads_37 : decode cX7_spreads 37 = .ok (.invokevirtual 115, 3) := by decide +kernel
theorem dX7_spreads_40 : decode cX7_spreads 40 = .ok (.ireturn, 1) := by decide +kernel
set_option maxRecDepth 20000 in
theorem ggX7_feed_X7_in : GoodIn wsX7_feed wsX7_in := goodIn_r _ [11] (by decide +kernel) (by decide +kernel)
set_option maxRecDepth 20000 in
theorem gX7_feed_X7_in : GoodIn wsX7_feed (va_wsS RX7 61 yX7_in wsX7_in) := goodIn_app (goodIn_of _ (by decide +kernel)) ggX7_feed_X7_in
theorem dX7_feed_0 : decode cX7_feed 0 = .ok (.aload_n 0, 1) := by decide +kernel
theorem dX7_feed_1 : decode cX7_feed 1 = .ok (.iconst 0, 1) := by decide +kernel
theorem dX7_feed_2 : decode cX7_feed 2 = .ok (.putfield 51, 3) := by decide +kernel
theorem dX7_feed_5 : decode cX7_feed 5 = .ok (.iload_n 3, 1) := by decide +kernel
theorem dX7_feed_6 : decode cX7_feed 6 = .ok (.i2l, 1) := by decide +kernel
theorem dX7_feed_7 : decode cX7_feed 7 = .ok (.lconst 1, 1) := by decide +kernel
theorem dX7_feed_8 : decode cX7_feed 8 = .ok (.ldc2_w 119, 3) := by decide +kernel
theorem dX7_feed_11 : decode cX7_feed 11 = .ok (.invokestatic 61, 3) := by decide +kernel
theorem dX7_feed_14 : decode cX7_feed 14 = .ok (.ifCond .ne 6, 3) := by decide +kernel
theorem dX7_feed_17 : decode cX7_feed 17 = .ok (.ldc 71, 2) := by decide +kernel
theorem dX7_feed_19 : decode cX7_feed 19 = .ok (.ireturn, 1) := by decide +kernel
theorem dX7_feed_20 : decode cX7_feed 20 = .ok (.aload_n 0, 1) := by decide +kernel
theorem dX7_feed_21 : decode cX7_feed 21 = .ok (.getfield 121, 3) := by decide +kernel
theorem dX7_feed_24 : decode cX7_feed 24 = .ok (.iload_n 3, 1) := by decide +kernel
theorem dX7_feed_25 : decode cX7_feed 25 = .ok (.iadd, 1) := by decide +kernel
theorem dX7_feed_26 : decode cX7_feed 26 = .ok (.sipush 300, 3) := by decide +kernel
theorem dX7_feed_29 : decode cX7_feed 29 = .ok (.if_icmp .le 6, 3) := by decide +kernel
theorem dX7_feed_32 : decode cX7_feed 32 = .ok (.ldc 79, 2) := by decide +kernel
theorem dX7_feed_34 : decode cX7_feed 34 = .ok (.ireturn, 1) := by decide +kernel
theorem dX7_feed_35 : decode cX7_feed 35 = .ok (.iload_n 3, 1) := by decide +kernel
theorem dX7_feed_36 : decode cX7_feed 36 = .ok (.iconst 1, 1) := by decide +kernel
theorem dX7_feed_37 : decode cX7_feed 37 = .ok (.isub, 1) := by decide +kernel
theorem dX7_feed_38 : decode cX7_feed 38 = .ok (.istore 4, 2) := by decide +kernel
theorem dX7_feed_40 : decode cX7_feed 40 = .ok (.iload 4, 2) := by decide +kernel
theorem dX7_feed_42 : decode cX7_feed 42 = .ok (.ifCond .lt 40, 3) := by decide +kernel
theorem dX7_feed_45 : decode cX7_feed 45 = .ok (.aload_n 0, 1) := by decide +kernel
theorem dX7_feed_46 : decode cX7_feed 46 = .ok (.getfield 28, 3) := by decide +kernel
theorem dX7_feed_49 : decode cX7_feed 49 = .ok (.aload_n 0, 1) := by decide +kernel
theorem dX7_feed_50 : decode cX7_feed 50 = .ok (.getfield 121, 3) := by decide +kernel
theorem dX7_feed_53 : decode cX7_feed 53 = .ok (.lload_n 1, 1) := by decide +kernel
theorem dX7_feed_54 : decode cX7_feed 54 = .ok (.bipush 8, 2) := by decide +kernel
theorem dX7_feed_56 : decode cX7_feed 56 = .ok (.iload 4, 2) := by decide +kernel
theorem dX7_feed_58 : decode cX7_feed 58 = .ok (.imul, 1) := by decide +kernel
theorem dX7_feed_59 : decode cX7_feed 59 = .ok (.lshr, 1) := by decide +kernel
theorem dX7_feed_60 : decode cX7_feed 60 = .ok (.ldc2_w 124, 3) := by decide +kernel
theorem dX7_feed_63 : decode cX7_feed 63 = .ok (.land, 1) := by decide +kernel
theorem dX7_feed_64 : decode cX7_feed 64 = .ok (.l2i, 1) := by decide +kernel
theorem dX7_feed_65 : decode cX7_feed 65 = .ok (.iastore, 1) := by decide +kernel
theorem dX7_feed_66 : decode cX7_feed 66 = .ok (.aload_n 0, 1) := by decide +kernel
theorem dX7_feed_67 : decode cX7_feed 67 = .ok (.dup, 1) := by decide +kernel
theorem dX7_feed_68 : decode cX7_feed 68 = .ok (.getfield 121, 3) := by decide +kernel
theorem dX7_feed_71 : decode cX7_feed 71 = .ok (.iconst 1, 1) := by decide +kernel
theorem dX7_feed_72 : decode cX7_feed 72 = .ok (.iadd, 1) := by decide +kernel
theorem dX7_feed_73 : decode cX7_feed 73 = .ok (.putfield 121, 3) := by decide +kernel
theorem dX7_feed_76 : decode cX7_feed 76 = .ok (.iinc 4 (-1), 3) := by decide +kernel
theorem dX7_feed_79 : decode cX7_feed 79 = .ok (.goto (-39), 3) := by decide +kernel
theorem dX7_feed_82 : decode cX7_feed 82 = .ok (.aload_n 0, 1) := by decide +kernel
theorem dX7_feed_83 : decode cX7_feed 83 = .ok (.getfield 121, 3) := by decide +kernel
theorem dX7_feed_86 : decode cX7_feed 86 = .ok (.ireturn, 1) := by decide +kernel
theorem dX7_byteAt_0 : decode cX7_byteAt 0 = .ok (.iload_n 1, 1) := by decide +kernel
theorem dX7_byteAt_1 : decode cX7_byteAt 1 = .ok (.aload_n 0, 1) := by decide +kernel
theorem dX7_byteAt_2 : decode cX7_byteAt 2 = .ok (.getfield 126, 3) := by decide +kernel
theorem dX7_byteAt_5 : decode cX7_byteAt 5 = .ok (.if_icmp .ge 12, 3) := by decide +kernel
theorem dX7_byteAt_8 : decode cX7_byteAt 8 = .ok (.aload_n 0, 1) := by decide +kernel
theorem dX7_byteAt_9 : decode cX7_byteAt 9 = .ok (.getfield 28, 3) := by decide +kernel
theorem dX7_byteAt_12 : decode cX7_byteAt 12 = .ok (.iload_n 1, 1) := by decide +kernel
theorem dX7_byteAt_13 : decode cX7_byteAt 13 = .ok (.iaload, 1) := by decide +kernel
theorem dX7_byteAt_14 : decode cX7_byteAt 14 = .ok (.goto 5, 3) := by decide +kernel
theorem dX7_byteAt_17 : decode cX7_byteAt 17 = .ok (.ldc 86, 2) := by decide +kernel
theorem dX7_byteAt_19 : decode cX7_byteAt 19 = .ok (.ireturn, 1) := by decide +kernel
theorem dX7_isLetter_0 : decode cX7_isLetter 0 = .ok (.iload_n 0, 1) := by decide +kernel
theorem dX7_isLetter_1 : decode cX7_isLetter 1 = .ok (.bipush 97, 2) := by decide +kernel
theorem dX7_isLetter_3 : decode cX7_isLetter 3 = .ok (.if_icmp .lt 13, 3) := by decide +kernel
theorem dX7_isLetter_6 : decode cX7_isLetter 6 = .ok (.iload_n 0, 1) := by decide +kernel
theorem dX7_isLetter_7 : decode cX7_isLetter 7 = .ok (.bipush 122, 2) := by decide +kernel
theorem dX7_isLetter_9 : decode cX7_isLetter 9 = .ok (.if_icmp .gt 7, 3) := by decide +kernel
theorem dX7_isLetter_12 : decode cX7_isLetter 12 = .ok (.iconst 1, 1) := by decide +kernel
theorem dX7_isLetter_13 : decode cX7_isLetter 13 = .ok (.goto 4, 3) := by decide +kernel
theorem dX7_isLetter_16 : decode cX7_isLetter 16 = .ok (.iconst 0, 1) := by decide +kernel
theorem dX7_isLetter_17 : decode cX7_isLetter 17 = .ok (.ireturn, 1) := by decide +kernel
theorem dX7_isFigure_0 : decode cX7_isFigure 0 = .ok (.iload_n 0, 1) := by decide +kernel
theorem dX7_isFigure_1 : decode cX7_isFigure 1 = .ok (.bipush 48, 2) := by decide +kernel
theorem dX7_isFigure_3 : decode cX7_isFigure 3 = .ok (.if_icmp .lt 13, 3) := by decide +kernel
theorem dX7_isFigure_6 : decode cX7_isFigure 6 = .ok (.iload_n 0, 1) := by decide +kernel
theorem dX7_isFigure_7 : decode cX7_isFigure 7 = .ok (.bipush 57, 2) := by decide +kernel
theorem dX7_isFigure_9 : decode cX7_isFigure 9 = .ok (.if_icmp .gt 7, 3) := by decide +kernel
theorem dX7_isFigure_12 : decode cX7_isFigure 12 = .ok (.iconst 1, 1) := by decide +kernel
theorem dX7_isFigure_13 : decode cX7_isFigure 13 = .ok (.goto 4, 3) := by decide +kernel
theorem dX7_isFigure_16 : decode cX7_isFigure 16 = .ok (.iconst 0, 1) := by decide +kernel
theorem dX7_isFigure_17 : decode cX7_isFigure 17 = .ok (.ireturn, 1) := by decide +kernel
set_option maxRecDepth 20000 in
theorem ggX7_step_X7_byteAt : GoodIn wsX7_step wsX7_byteAt := goodIn_r _ [10, 11, 12, 3, 19, 20, 21, 22, 23, 24, 25, 26, 27, 28, 29, 30, 31, 32, 33, 34, 35, 36, 37, 38, 39, 40, 41, 42, 43, 44, 45, 46] (by decide +kernel) (by decide +kernel)
set_option maxRecDepth 20000 in
theorem gX7_step_X7_byteAt : GoodIn wsX7_step (wsV RX7 132 RX7 yX7_byteAt wsX7_byteAt) := goodIn_app (goodIn_of _ (by decide +kernel)) ggX7_step_X7_byteAt
set_option maxRecDepth 20000 in
theorem ggX7_step_X7_isLetter : GoodIn wsX7_step wsX7_isLetter := goodIn_r _ [15] (by decide +kernel) (by decide +kernel)
set_option maxRecDepth 20000 in
theorem gX7_step_X7_isLetter : GoodIn wsX7_step (va_wsS RX7 141 yX7_isLetter wsX7_isLetter) := goodIn_app (goodIn_of _ (by decide +kernel)) ggX7_step_X7_isLetter
set_option maxRecDepth 20000 in
theorem ggX7_step_X7_isFigure : GoodIn wsX7_step wsX7_isFigure := goodIn_r _ [18] (by decide +kernel) (by decide +kernel)
set_option maxRecDepth 20000 in
theorem gX7_step_X7_isFigure : GoodIn wsX7_step (va_wsS RX7 144 yX7_isFigure wsX7_isFigure) := goodIn_app (goodIn_of _ (by decide +kernel)) ggX7_step_X7_isFigure
theorem dX7_step_0 : decode cX7_step 0 = .ok (.aload_n 0, 1) := by decide +kernel
theorem dX7_step_1 : decode cX7_step 1 = .ok (.aload_n 0, 1) := by decide +kernel
theorem dX7_step_2 : decode cX7_step 2 = .ok (.getfield 129, 3) := by decide +kernel
theorem dX7_step_5 : decode cX7_step 5 = .ok (.invokevirtual 132, 3) := by decide +kernel
theorem dX7_step_8 : decode cX7_step 8 = .ok (.bipush 32, 2) := by decide +kernel
theorem dX7_step_10 : decode cX7_step 10 = .ok (.if_icmp .eq 16, 3) := by decide +kernel
theorem dX7_step_13 : decode cX7_step 13 = .ok (.aload_n 0, 1) := by decide +kernel
theorem dX7_step_14 : decode cX7_step 14 = .ok (.aload_n 0, 1) := by decide +kernel
theorem dX7_step_15 : decode cX7_step 15 = .ok (.getfield 129, 3) := by decide +kernel
theorem dX7_step_18 : decode cX7_step 18 = .ok (.invokevirtual 132, 3) := by decide +kernel
theorem dX7_step_21 : decode cX7_step 21 = .ok (.bipush 10, 2) := by decide +kernel
theorem dX7_step_23 : decode cX7_step 23 = .ok (.if_icmp .ne 16, 3) := by decide +kernel
theorem dX7_step_26 : decode cX7_step 26 = .ok (.aload_n 0, 1) := by decide +kernel
theorem dX7_step_27 : decode cX7_step 27 = .ok (.dup, 1) := by decide +kernel
theorem dX7_step_28 : decode cX7_step 28 = .ok (.getfield 129, 3) := by decide +kernel
theorem dX7_step_31 : decode cX7_step 31 = .ok (.iconst 1, 1) := by decide +kernel
theorem dX7_step_32 : decode cX7_step 32 = .ok (.iadd, 1) := by decide +kernel
theorem dX7_step_33 : decode cX7_step 33 = .ok (.putfield 129, 3) := by decide +kernel
theorem dX7_step_36 : decode cX7_step 36 = .ok (.goto (-36), 3) := by decide +kernel
theorem dX7_step_39 : decode cX7_step 39 = .ok (.aload_n 0, 1) := by decide +kernel
theorem dX7_step_40 : decode cX7_step 40 = .ok (.aload_n 0, 1) := by decide +kernel
theorem dX7_step_41 : decode cX7_step 41 = .ok (.getfield 129, 3) := by decide +kernel
theorem dX7_step_44 : decode cX7_step 44 = .ok (.putfield 135, 3) := by decide +kernel
theorem dX7_step_47 : decode cX7_step 47 = .ok (.aload_n 0, 1) := by decide +kernel
theorem dX7_step_48 : decode cX7_step 48 = .ok (.aload_n 0, 1) := by decide +kernel
theorem dX7_step_49 : decode cX7_step 49 = .ok (.getfield 129, 3) := by decide +kernel
theorem dX7_step_52 : decode cX7_step 52 = .ok (.invokevirtual 132, 3) := by decide +kernel
theorem dX7_step_55 : decode cX7_step 55 = .ok (.istore_n 1, 1) := by decide +kernel
theorem dX7_step_56 : decode cX7_step 56 = .ok (.iload_n 1, 1) := by decide +kernel
theorem dX7_step_57 : decode cX7_step 57 = .ok (.ldc 86, 2) := by decide +kernel
theorem dX7_step_59 : decode cX7_step 59 = .ok (.if_icmp .ne 11, 3) := by decide +kernel
