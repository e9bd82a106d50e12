theorem dX7_step_62 : decode cX7_step 62 = .ok (.aload_n 0, 1) := by decide +kernel
theorem dX7_step_63 : decode cX7_step 63 = .ok (.iconst 1, 1) := by decide +kernel
theorem dX7_step_64 : decode cX7_step 64 = .ok (.putfield 138, 3) := by decide +kernel
theorem dX7_step_67 : decode cX7_step 67 = .ok (.goto 147, 3) := by decide +kernel
theorem dX7_step_70 : decode cX7_step 70 = .ok (.iload_n 1, 1) := by decide +kernel
theorem dX7_step_71 : decode cX7_step 71 = .ok (.invokestatic 141, 3) := by decide +kernel
theorem dX7_step_74 : decode cX7_step 74 = .ok (.ifCond .eq 56, 3) := by decide +kernel
theorem dX7_step_77 : decode cX7_step 77 = .ok (.aload_n 0, 1) := by decide +kernel
theorem dX7_step_78 : decode cX7_step 78 = .ok (.aload_n 0, 1) := by decide +kernel
theorem dX7_step_79 : decode cX7_step 79 = .ok (.getfield 129, 3) := by decide +kernel
theorem dX7_step_82 : decode cX7_step 82 = .ok (.invokevirtual 132, 3) := by decide +kernel
theorem dX7_step_85 : decode cX7_step 85 = .ok (.invokestatic 141, 3) := by decide +kernel
theorem dX7_step_88 : decode cX7_step 88 = .ok (.ifCond .eq 16, 3) := by decide +kernel
theorem dX7_step_91 : decode cX7_step 91 = .ok (.aload_n 0, 1) := by decide +kernel
theorem dX7_step_92 : decode cX7_step 92 = .ok (.dup, 1) := by decide +kernel
theorem dX7_step_93 : decode cX7_step 93 = .ok (.getfield 129, 3) := by decide +kernel
theorem dX7_step_96 : decode cX7_step 96 = .ok (.iconst 1, 1) := by decide +kernel
theorem dX7_step_97 : decode cX7_step 97 = .ok (.iadd, 1) := by decide +kernel
theorem dX7_step_98 : decode cX7_step 98 = .ok (.putfield 129, 3) := by decide +kernel
theorem dX7_step_101 : decode cX7_step 101 = .ok (.goto (-24), 3) := by decide +kernel
theorem dX7_step_104 : decode cX7_step 104 = .ok (.aload_n 0, 1) := by decide +kernel
theorem dX7_step_105 : decode cX7_step 105 = .ok (.aload_n 0, 1) := by decide +kernel
theorem dX7_step_106 : decode cX7_step 106 = .ok (.getfield 129, 3) := by decide +kernel
theorem dX7_step_109 : decode cX7_step 109 = .ok (.aload_n 0, 1) := by decide +kernel
theorem dX7_step_110 : decode cX7_step 110 = .ok (.getfield 135, 3) := by decide +kernel
theorem dX7_step_113 : decode cX7_step 113 = .ok (.isub, 1) := by decide +kernel
theorem dX7_step_114 : decode cX7_step 114 = .ok (.bipush 6, 2) := by decide +kernel
theorem dX7_step_116 : decode cX7_step 116 = .ok (.if_icmp .le 7, 3) := by decide +kernel
theorem dX7_step_119 : decode cX7_step 119 = .ok (.iconst 0, 1) := by decide +kernel
theorem dX7_step_120 : decode cX7_step 120 = .ok (.goto 4, 3) := by decide +kernel
theorem dX7_step_123 : decode cX7_step 123 = .ok (.iconst 2, 1) := by decide +kernel
theorem dX7_step_124 : decode cX7_step 124 = .ok (.putfield 138, 3) := by decide +kernel
theorem dX7_step_127 : decode cX7_step 127 = .ok (.goto 87, 3) := by decide +kernel
theorem dX7_step_130 : decode cX7_step 130 = .ok (.iload_n 1, 1) := by decide +kernel
theorem dX7_step_131 : decode cX7_step 131 = .ok (.invokestatic 144, 3) := by decide +kernel
theorem dX7_step_134 : decode cX7_step 134 = .ok (.ifCond .eq 55, 3) := by decide +kernel
theorem dX7_step_137 : decode cX7_step 137 = .ok (.aload_n 0, 1) := by decide +kernel
theorem dX7_step_138 : decode cX7_step 138 = .ok (.aload_n 0, 1) := by decide +kernel
theorem dX7_step_139 : decode cX7_step 139 = .ok (.getfield 129, 3) := by decide +kernel
theorem dX7_step_142 : decode cX7_step 142 = .ok (.invokevirtual 132, 3) := by decide +kernel
theorem dX7_step_145 : decode cX7_step 145 = .ok (.invokestatic 144, 3) := by decide +kernel
theorem dX7_step_148 : decode cX7_step 148 = .ok (.ifCond .eq 16, 3) := by decide +kernel
theorem dX7_step_151 : decode cX7_step 151 = .ok (.aload_n 0, 1) := by decide +kernel
theorem dX7_step_152 : decode cX7_step 152 = .ok (.dup, 1) := by decide +kernel
theorem dX7_step_153 : decode cX7_step 153 = .ok (.getfield 129, 3) := by decide +kernel
theorem dX7_step_156 : decode cX7_step 156 = .ok (.iconst 1, 1) := by decide +kernel
theorem dX7_step_157 : decode cX7_step 157 = .ok (.iadd, 1) := by decide +kernel
theorem dX7_step_158 : decode cX7_step 158 = .ok (.putfield 129, 3) := by decide +kernel
theorem dX7_step_161 : decode cX7_step 161 = .ok (.goto (-24), 3) := by decide +kernel
theorem dX7_step_164 : decode cX7_step 164 = .ok (.aload_n 0, 1) := by decide +kernel
theorem dX7_step_165 : decode cX7_step 165 = .ok (.aload_n 0, 1) := by decide +kernel
theorem dX7_step_166 : decode cX7_step 166 = .ok (.getfield 129, 3) := by decide +kernel
theorem dX7_step_169 : decode cX7_step 169 = .ok (.aload_n 0, 1) := by decide +kernel
theorem dX7_step_170 : decode cX7_step 170 = .ok (.getfield 135, 3) := by decide +kernel
theorem dX7_step_173 : decode cX7_step 173 = .ok (.isub, 1) := by decide +kernel
theorem dX7_step_174 : decode cX7_step 174 = .ok (.iconst 2, 1) := by decide +kernel
theorem dX7_step_175 : decode cX7_step 175 = .ok (.if_icmp .le 7, 3) := by decide +kernel
theorem dX7_step_178 : decode cX7_step 178 = .ok (.iconst 0, 1) := by decide +kernel
theorem dX7_step_179 : decode cX7_step 179 = .ok (.goto 4, 3) := by decide +kernel
theorem dX7_step_182 : decode cX7_step 182 = .ok (.iconst 3, 1) := by decide +kernel
theorem dX7_step_183 : decode cX7_step 183 = .ok (.putfield 138, 3) := by decide +kernel
theorem dX7_step_186 : decode cX7_step 186 = .ok (.goto 28, 3) := by decide +kernel
theorem dX7_step_189 : decode cX7_step 189 = .ok (.aload_n 0, 1) := by decide +kernel
theorem dX7_step_190 : decode cX7_step 190 = .ok (.dup, 1) := by decide +kernel
theorem dX7_step_191 : decode cX7_step 191 = .ok (.getfield 129, 3) := by decide +kernel
theorem dX7_step_194 : decode cX7_step 194 = .ok (.iconst 1, 1) := by decide +kernel
theorem dX7_step_195 : decode cX7_step 195 = .ok (.iadd, 1) := by decide +kernel
theorem dX7_step_196 : decode cX7_step 196 = .ok (.putfield 129, 3) := by decide +kernel
theorem dX7_step_199 : decode cX7_step 199 = .ok (.aload_n 0, 1) := by decide +kernel
theorem dX7_step_200 : decode cX7_step 200 = .ok (.iload_n 1, 1) := by decide +kernel
theorem dX7_step_201 : decode cX7_step 201 = .ok (.bipush 59, 2) := by decide +kernel
theorem dX7_step_203 : decode cX7_step 203 = .ok (.if_icmp .ne 7, 3) := by decide +kernel
theorem dX7_step_206 : decode cX7_step 206 = .ok (.iconst 4, 1) := by decide +kernel
theorem dX7_step_207 : decode cX7_step 207 = .ok (.goto 4, 3) := by decide +kernel
theorem dX7_step_210 : decode cX7_step 210 = .ok (.iconst 0, 1) := by decide +kernel
theorem dX7_step_211 : decode cX7_step 211 = .ok (.putfield 138, 3) := by decide +kernel
theorem dX7_step_214 : decode cX7_step 214 = .ok (.aload_n 0, 1) := by decide +kernel
theorem dX7_step_215 : decode cX7_step 215 = .ok (.aload_n 0, 1) := by decide +kernel
theorem dX7_step_216 : decode cX7_step 216 = .ok (.getfield 129, 3) := by decide +kernel
theorem dX7_step_219 : decode cX7_step 219 = .ok (.putfield 147, 3) := by decide +kernel
theorem dX7_step_222 : decode cX7_step 222 = .ok (.return_, 1) := by decide +kernel
theorem dX7_bad_0 : decode cX7_bad 0 = .ok (.aload_n 0, 1) := by decide +kernel
theorem dX7_bad_1 : decode cX7_bad 1 = .ok (.getfield 150, 3) := by decide +kernel
theorem dX7_bad_4 : decode cX7_bad 4 = .ok (.ifCond .ne 16, 3) := by decide +kernel
theorem dX7_bad_7 : decode cX7_bad 7 = .ok (.aload_n 0, 1) := by decide +kernel
theorem dX7_bad_8 : decode cX7_bad 8 = .ok (.iload_n 1, 1) := by decide +kernel
theorem dX7_bad_9 : decode cX7_bad 9 = .ok (.putfield 150, 3) := by decide +kernel
theorem dX7_bad_12 : decode cX7_bad 12 = .ok (.aload_n 0, 1) := by decide +kernel
theorem dX7_bad_13 : decode cX7_bad 13 = .ok (.aload_n 0, 1) := by decide +kernel
theorem dX7_bad_14 : decode cX7_bad 14 = .ok (.getfield 135, 3) := by decide +kernel
theorem dX7_bad_17 : decode cX7_bad 17 = .ok (.putfield 153, 3) := by decide +kernel
theorem dX7_bad_20 : decode cX7_bad 20 = .ok (.return_, 1) := by decide +kernel
set_option maxRecDepth 20000 in
theorem ggX7_need_X7_bad : GoodIn wsX7_need wsX7_bad := goodIn_r _ [6, 1, 7, 8, 29, 30, 31, 32, 33, 34, 35, 36, 37, 38, 39, 40, 41, 42, 43, 44, 45, 46, 47, 48, 49, 50, 51, 52, 53, 54, 55, 56] (by decide +kernel) (by decide +kernel)
set_option maxRecDepth 20000 in
theorem gX7_need_X7_bad : GoodIn wsX7_need (wsV RX7 156 RX7 yX7_bad wsX7_bad) := goodIn_app (goodIn_of _ (by decide +kernel)) ggX7_need_X7_bad
set_option maxRecDepth 20000 in
theorem ggX7_need_X7_step : GoodIn wsX7_need wsX7_step := goodIn_r _ [12, 13, 7, 14, 15, 16, 17, 18, 19, 5, 20, 21, 22, 23, 24, 25, 26, 27, 28, 29, 30, 31, 32, 33, 34, 35, 36, 37, 38, 39, 40, 41, 42, 43, 44, 45, 46, 47, 48, 49, 50, 51, 52, 53, 54, 55, 56] (by decide +kernel) (by decide +kernel)
set_option maxRecDepth 20000 in
theorem gX7_need_X7_step : GoodIn wsX7_need (wsV RX7 160 RX7 yX7_step wsX7_step) := goodIn_app (goodIn_of _ (by decide +kernel)) ggX7_need_X7_step
theorem dX7_need_0 : decode cX7_need 0 = .ok (.iload_n 1, 1) := by decide +kernel
theorem dX7_need_1 : decode cX7_need 1 = .ok (.ifCond .ne 8, 3) := by decide +kernel
theorem dX7_need_4 : decode cX7_need 4 = .ok (.aload_n 0, 1) := by decide +kernel
theorem dX7_need_5 : decode cX7_need 5 = .ok (.iconst 1, 1) := by decide +kernel
theorem dX7_need_6 : decode cX7_need 6 = .ok (.invokevirtual 156, 3) := by decide +kernel
theorem dX7_need_9 : decode cX7_need 9 = .ok (.aload_n 0, 1) := by decide +kernel
theorem dX7_need_10 : decode cX7_need 10 = .ok (.getfield 150, 3) := by decide +kernel
theorem dX7_need_13 : decode cX7_need 13 = .ok (.ifCond .ne 7, 3) := by decide +kernel
theorem dX7_need_16 : decode cX7_need 16 = .ok (.aload_n 0, 1) := by decide +kernel
theorem dX7_need_17 : decode cX7_need 17 = .ok (.invokevirtual 160, 3) := by decide +kernel
theorem dX7_need_20 : decode cX7_need 20 = .ok (.return_, 1) := by decide +kernel
theorem dX7_word_0 : decode cX7_word 0 = .ok (.lconst 0, 1) := by decide +kernel
theorem dX7_word_1 : decode cX7_word 1 = .ok (.lstore_n 1, 1) := by decide +kernel
theorem dX7_word_2 : decode cX7_word 2 = .ok (.aload_n 0, 1) := by decide +kernel
theorem dX7_word_3 : decode cX7_word 3 = .ok (.getfield 135, 3) := by decide +kernel
theorem dX7_word_6 : decode cX7_word 6 = .ok (.istore_n 3, 1) := by decide +kernel
theorem dX7_word_7 : decode cX7_word 7 = .ok (.iload_n 3, 1) := by decide +kernel
theorem dX7_word_8 : decode cX7_word 8 = .ok (.aload_n 0, 1) := by decide +kernel
theorem dX7_word_9 : decode cX7_word 9 = .ok (.getfield 147, 3) := by decide +kernel
theorem dX7_word_12 : decode cX7_word 12 = .ok (.if_icmp .ge 30, 3) := by decide +kernel
theorem dX7_word_15 : decode cX7_word 15 = .ok (.aload_n 0, 1) := by decide +kernel
theorem dX7_word_16 : decode cX7_word 16 = .ok (.getfield 138, 3) := by decide +kernel
theorem dX7_word_19 : decode cX7_word 19 = .ok (.iconst 2, 1) := by decide +kernel
theorem dX7_word_20 : decode cX7_word 20 = .ok (.if_icmp .ne 22, 3) := by decide +kernel
theorem dX7_word_23 : decode cX7_word 23 = .ok (.lload_n 1, 1) := by decide +kernel
theorem dX7_word_24 : decode cX7_word 24 = .ok (.bipush 8, 2) := by decide +kernel
theorem dX7_word_26 : decode cX7_word 26 = .ok (.lshl, 1) := by decide +kernel
theorem dX7_word_27 : decode cX7_word 27 = .ok (.aload_n 0, 1) := by decide +kernel
theorem dX7_word_28 : decode cX7_word 28 = .ok (.getfield 28, 3) := by decide +kernel
theorem dX7_word_31 : decode cX7_word 31 = .ok (.iload_n 3, 1) := by decide +kernel
theorem dX7_word_32 : decode cX7_word 32 = .ok (.iaload, 1) := by decide +kernel
theorem dX7_word_33 : decode cX7_word 33 = .ok (.i2l, 1) := by decide +kernel
theorem dX7_word_34 : decode cX7_word 34 = .ok (.lor, 1) := by decide +kernel
theorem dX7_word_35 : decode cX7_word 35 = .ok (.lstore_n 1, 1) := by decide +kernel
theorem dX7_word_36 : decode cX7_word 36 = .ok (.iinc 3 1, 3) := by decide +kernel
theorem dX7_word_39 : decode cX7_word 39 = .ok (.goto (-32), 3) := by decide +kernel
theorem dX7_word_42 : decode cX7_word 42 = .ok (.lload_n 1, 1) := by decide +kernel
theorem dX7_word_43 : decode cX7_word 43 = .ok (.lreturn, 1) := by decide +kernel
set_option maxRecDepth 20000 in
theorem ggX7_readRound_X7_word : GoodIn wsX7_readRound wsX7_word := goodIn_r _ [16, 8, 9, 7, 10, 43, 44, 45, 46, 47, 48, 49, 50, 51, 52, 53, 54, 55, 56, 57, 58, 59, 60, 61, 62, 63, 64, 65, 66, 67, 68, 69, 70] (by decide +kernel) (by decide +kernel)
set_option maxRecDepth 20000 in
theorem gX7_readRound_X7_word : GoodIn wsX7_readRound (wsV RX7 163 RX7 yX7_word wsX7_word) := goodIn_app (goodIn_of _ (by decide +kernel)) ggX7_readRound_X7_word
set_option maxRecDepth 20000 in
theorem ggX7_readRound_X7_bad : GoodIn wsX7_readRound wsX7_bad := goodIn_r _ [20, 6, 8, 21, 43, 44, 45, 46, 47, 48, 49, 50, 51, 52, 53, 54, 55, 56, 57, 58, 59, 60, 61, 62, 63, 64, 65, 66, 67, 68, 69, 70] (by decide +kernel) (by decide +kernel)
set_option maxRecDepth 20000 in
theorem gX7_readRound_X7_bad : GoodIn wsX7_readRound (wsV RX7 156 RX7 yX7_bad wsX7_bad) := goodIn_app (goodIn_of _ (by decide +kernel)) ggX7_readRound_X7_bad
set_option maxRecDepth 20000 in
theorem ggX7_readRound_X7_need : GoodIn wsX7_readRound wsX7_need := goodIn_r _ [25, 6, 17, 18, 19, 15, 20, 8, 21, 26, 27, 28, 29, 30, 31, 7, 9, 32, 33, 34, 35, 36, 10, 37, 38, 39, 40, 41, 42, 43, 44, 45, 46, 47, 48, 49, 50, 51, 52, 53, 54, 55, 56, 57, 58, 59, 60, 61, 62, 63, 64, 65, 66, 67, 68, 69, 70] (by decide +kernel) (by decide +kernel)
set_option maxRecDepth 20000 in
theorem gX7_readRound_X7_need : GoodIn wsX7_readRound (wsV RX7 176 RX7 yX7_need wsX7_need) := goodIn_app (goodIn_of _ (by decide +kernel)) ggX7_readRound_X7_need
set_option maxRecDepth 20000 in
theorem ggX7_readRound_X7_step : GoodIn wsX7_readRound wsX7_step := goodIn_r _ [29, 30, 8, 31, 7, 9, 32, 33, 34, 15, 35, 36, 10, 37, 38, 39, 40, 41, 42, 43, 44, 45, 46, 47, 48, 49, 50, 51, 52, 53, 54, 55, 56, 57, 58, 59, 60, 61, 62, 63, 64, 65, 66, 67, 68, 69, 70] (by decide +kernel) (by decide +kernel)
set_option maxRecDepth 20000 in
theorem gX7_readRound_X7_step : GoodIn wsX7_readRound (wsV RX7 160 RX7 yX7_step wsX7_step) := goodIn_app (goodIn_of _ (by decide +kernel)) ggX7_readRound_X7_step
theorem dX7_readRound_0 : decode cX7_readRound 0 = .ok (.aload_n 0, 1) := by decide +kernel
theorem dX7_readRound_1 : decode cX7_readRound 1 = .ok (.invokevirtual 163, 3) := by decide +kernel
theorem dX7_readRound_4 : decode cX7_readRound 4 = .ok (.lstore_n 1, 1) := by decide +kernel
theorem dX7_readRound_5 : decode cX7_readRound 5 = .ok (.lload_n 1, 1) := by decide +kernel
theorem dX7_readRound_6 : decode cX7_readRound 6 = .ok (.ldc2_w 167, 3) := by decide +kernel
theorem dX7_readRound_9 : decode cX7_readRound 9 = .ok (.lcmp, 1) := by decide +kernel
theorem dX7_readRound_10 : decode cX7_readRound 10 = .ok (.ifCond .eq 19, 3) := by decide +kernel
theorem dX7_readRound_13 : decode cX7_readRound 13 = .ok (.lload_n 1, 1) := by decide +kernel
theorem dX7_readRound_14 : decode cX7_readRound 14 = .ok (.ldc2_w 169, 3) := by decide +kernel
theorem dX7_readRound_17 : decode cX7_readRound 17 = .ok (.lcmp, 1) := by decide +kernel
theorem dX7_readRound_18 : decode cX7_readRound 18 = .ok (.ifCond .eq 11, 3) := by decide +kernel
theorem dX7_readRound_21 : decode cX7_readRound 21 = .ok (.lload_n 1, 1) := by decide +kernel
theorem dX7_readRound_22 : decode cX7_readRound 22 = .ok (.ldc2_w 171, 3) := by decide +kernel
theorem dX7_readRound_25 : decode cX7_readRound 25 = .ok (.lcmp, 1) := by decide +kernel
theorem dX7_readRound_26 : decode cX7_readRound 26 = .ok (.ifCond .ne 7, 3) := by decide +kernel
theorem dX7_readRound_29 : decode cX7_readRound 29 = .ok (.iconst 1, 1) := by decide +kernel
theorem dX7_readRound_30 : decode cX7_readRound 30 = .ok (.goto 4, 3) := by decide +kernel
theorem dX7_readRound_33 : decode cX7_readRound 33 = .ok (.iconst 0, 1) := by decide +kernel
theorem dX7_readRound_34 : decode cX7_readRound 34 = .ok (.istore_n 3, 1) := by decide +kernel
theorem dX7_readRound_35 : decode cX7_readRound 35 = .ok (.lload_n 1, 1) := by decide +kernel
theorem dX7_readRound_36 : decode cX7_readRound 36 = .ok (.ldc2_w 171, 3) := by decide +kernel
theorem dX7_readRound_39 : decode cX7_readRound 39 = .ok (.lcmp, 1) := by decide +kernel
theorem dX7_readRound_40 : decode cX7_readRound 40 = .ok (.ifCond .ne 15, 3) := by decide +kernel
theorem dX7_readRound_43 : decode cX7_readRound 43 = .ok (.aload_n 0, 1) := by decide +kernel
theorem dX7_readRound_44 : decode cX7_readRound 44 = .ok (.getfield 173, 3) := by decide +kernel
theorem dX7_readRound_47 : decode cX7_readRound 47 = .ok (.ifCond .ne 8, 3) := by decide +kernel
theorem dX7_readRound_50 : decode cX7_readRound 50 = .ok (.aload_n 0, 1) := by decide +kernel
theorem dX7_readRound_51 : decode cX7_readRound 51 = .ok (.iconst 2, 1) := by decide +kernel
theorem dX7_readRound_52 : decode cX7_readRound 52 = .ok (.invokevirtual 156, 3) := by decide +kernel
theorem dX7_readRound_55 : decode cX7_readRound 55 = .ok (.iload_n 3, 1) := by decide +kernel
theorem dX7_readRound_56 : decode cX7_readRound 56 = .ok (.ifCond .eq 17, 3) := by decide +kernel
theorem dX7_readRound_59 : decode cX7_readRound 59 = .ok (.aload_n 0, 1) := by decide +kernel
theorem dX7_readRound_60 : decode cX7_readRound 60 = .ok (.getfield 173, 3) := by decide +kernel
theorem dX7_readRound_63 : decode cX7_readRound 63 = .ok (.bipush 20, 2) := by decide +kernel
theorem dX7_readRound_65 : decode cX7_readRound 65 = .ok (.if_icmp .ne 8, 3) := by decide +kernel
theorem dX7_readRound_68 : decode cX7_readRound 68 = .ok (.aload_n 0, 1) := by decide +kernel
theorem dX7_readRound_69 : decode cX7_readRound 69 = .ok (.iconst 3, 1) := by decide +kernel
theorem dX7_readRound_70 : decode cX7_readRound 70 = .ok (.invokevirtual 156, 3) := by decide +kernel
theorem dX7_readRound_73 : decode cX7_readRound 73 = .ok (.aload_n 0, 1) := by decide +kernel
theorem dX7_readRound_74 : decode cX7_readRound 74 = .ok (.iload_n 3, 1) := by decide +kernel
theorem dX7_readRound_75 : decode cX7_readRound 75 = .ok (.invokevirtual 176, 3) := by decide +kernel
theorem dX7_readRound_78 : decode cX7_readRound 78 = .ok (.lload_n 1, 1) := by decide +kernel
theorem dX7_readRound_79 : decode cX7_readRound 79 = .ok (.ldc2_w 169, 3) := by decide +kernel
theorem dX7_readRound_82 : decode cX7_readRound 82 = .ok (.lcmp, 1) := by decide +kernel
theorem dX7_readRound_83 : decode cX7_readRound 83 = .ok (.ifCond .ne 7, 3) := by decide +kernel
theorem dX7_readRound_86 : decode cX7_readRound 86 = .ok (.iconst (-1), 1) := by decide +kernel
theorem dX7_readRound_87 : decode cX7_readRound 87 = .ok (.goto 33, 3) := by decide +kernel
theorem dX7_readRound_90 : decode cX7_readRound 90 = .ok (.lload_n 1, 1) := by decide +kernel
theorem dX7_readRound_91 : decode cX7_readRound 91 = .ok (.ldc2_w 171, 3) := by decide +kernel
theorem dX7_readRound_94 : decode cX7_readRound 94 = .ok (.lcmp, 1) := by decide +kernel
theorem dX7_readRound_95 : decode cX7_readRound 95 = .ok (.ifCond .ne 24, 3) := by decide +kernel
theorem dX7_readRound_98 : decode cX7_readRound 98 = .ok (.aload_n 0, 1) := by decide +kernel
theorem dX7_readRound_99 : decode cX7_readRound 99 = .ok (.getfield 173, 3) := by decide +kernel
theorem dX7_readRound_102 : decode cX7_readRound 102 = .ok (.ifCond .le 17, 3) := by decide +kernel
theorem dX7_readRound_105 : decode cX7_readRound 105 = .ok (.aload_n 0, 1) := by decide +kernel
theorem dX7_readRound_106 : decode cX7_readRound 106 = .ok (.getfield 25, 3) := by decide +kernel
theorem dX7_readRound_109 : decode cX7_readRound 109 = .ok (.aload_n 0, 1) := by decide +kernel
theorem dX7_readRound_110 : decode cX7_readRound 110 = .ok (.getfield 173, 3) := by decide +kernel
theorem dX7_readRound_113 : decode cX7_readRound 113 = .ok (.iconst 1, 1) := by decide +kernel
theorem dX7_readRound_114 : decode cX7_readRound 114 = .ok (.isub, 1) := by decide +kernel
theorem dX7_readRound_115 : decode cX7_readRound 115 = .ok (.iaload, 1) := by decide +kernel
theorem dX7_readRound_116 : decode cX7_readRound 116 = .ok (.goto 4, 3) := by decide +kernel
theorem dX7_readRound_119 : decode cX7_readRound 119 = .ok (.iconst 0, 1) := by decide +kernel
theorem dX7_readRound_120 : decode cX7_readRound 120 = .ok (.istore 4, 2) := by decide +kernel
theorem dX7_readRound_122 : decode cX7_readRound 122 = .ok (.aload_n 0, 1) := by decide +kernel
theorem dX7_readRound_123 : decode cX7_readRound 123 = .ok (.getfield 150, 3) := by decide +kernel
theorem dX7_readRound_126 : decode cX7_readRound 126 = .ok (.ifCond .ne 105, 3) := by decide +kernel
theorem dX7_readRound_129 : decode cX7_readRound 129 = .ok (.lload_n 1, 1) := by decide +kernel
theorem dX7_readRound_130 : decode cX7_readRound 130 = .ok (.ldc2_w 167, 3) := by decide +kernel
theorem dX7_readRound_133 : decode cX7_readRound 133 = .ok (.lcmp, 1) := by decide +kernel
theorem dX7_readRound_134 : decode cX7_readRound 134 = .ok (.ifCond .ne 97, 3) := by decide +kernel
theorem dX7_readRound_137 : decode cX7_readRound 137 = .ok (.aload_n 0, 1) := by decide +kernel
theorem dX7_readRound_138 : decode cX7_readRound 138 = .ok (.getfield 138, 3) := by decide +kernel
theorem dX7_readRound_141 : decode cX7_readRound 141 = .ok (.iconst 3, 1) := by decide +kernel
theorem dX7_readRound_142 : decode cX7_readRound 142 = .ok (.if_icmp .ne 89, 3) := by decide +kernel
theorem dX7_readRound_145 : decode cX7_readRound 145 = .ok (.iconst 0, 1) := by decide +kernel
theorem dX7_readRound_146 : decode cX7_readRound 146 = .ok (.istore 5, 2) := by decide +kernel
theorem dX7_readRound_148 : decode cX7_readRound 148 = .ok (.aload_n 0, 1) := by decide +kernel
theorem dX7_readRound_149 : decode cX7_readRound 149 = .ok (.getfield 135, 3) := by decide +kernel
theorem dX7_readRound_152 : decode cX7_readRound 152 = .ok (.istore 6, 2) := by decide +kernel
theorem dX7_readRound_154 : decode cX7_readRound 154 = .ok (.iload 6, 2) := by decide +kernel
theorem dX7_readRound_156 : decode cX7_readRound 156 = .ok (.aload_n 0, 1) := by decide +kernel
theorem dX7_readRound_157 : decode cX7_readRound 157 = .ok (.getfield 147, 3) := by decide +kernel
theorem dX7_readRound_160 : decode cX7_readRound 160 = .ok (.if_icmp .ge 27, 3) := by decide +kernel
theorem dX7_readRound_163 : decode cX7_readRound 163 = .ok (.bipush 10, 2) := by decide +kernel
theorem dX7_readRound_165 : decode cX7_readRound 165 = .ok (.iload 5, 2) := by decide +kernel
theorem dX7_readRound_167 : decode cX7_readRound 167 = .ok (.imul, 1) := by decide +kernel
theorem dX7_readRound_168 : decode cX7_readRound 168 = .ok (.aload_n 0, 1) := by decide +kernel
theorem dX7_readRound_169 : decode cX7_readRound 169 = .ok (.getfield 28, 3) := by decide +kernel
theorem dX7_readRound_172 : decode cX7_readRound 172 = .ok (.iload 6, 2) := by decide +kernel
theorem dX7_readRound_174 : decode cX7_readRound 174 = .ok (.iaload, 1) := by decide +kernel
theorem dX7_readRound_175 : decode cX7_readRound 175 = .ok (.iadd, 1) := by decide +kernel
theorem dX7_readRound_176 : decode cX7_readRound 176 = .ok (.bipush 48, 2) := by decide +kernel
theorem dX7_readRound_178 : decode cX7_readRound 178 = .ok (.isub, 1) := by decide +kernel
theorem dX7_readRound_179 : decode cX7_readRound 179 = .ok (.istore 5, 2) := by decide +kernel
theorem dX7_readRound_181 : decode cX7_readRound 181 = .ok (.iinc 6 1, 3) := by decide +kernel
theorem dX7_readRound_184 : decode cX7_readRound 184 = .ok (.goto (-30), 3) := by decide +kernel
theorem dX7_readRound_187 : decode cX7_readRound 187 = .ok (.iload 5, 2) := by decide +kernel
theorem dX7_readRound_189 : decode cX7_readRound 189 = .ok (.aload_n 0, 1) := by decide +kernel
theorem dX7_readRound_190 : decode cX7_readRound 190 = .ok (.getfield 76, 3) := by decide +kernel
theorem dX7_readRound_193 : decode cX7_readRound 193 = .ok (.if_icmp .ge 14, 3) := by decide +kernel
theorem dX7_readRound_196 : decode cX7_readRound 196 = .ok (.iload 4, 2) := by decide +kernel
theorem dX7_readRound_198 : decode cX7_readRound 198 = .ok (.iload 5, 2) := by decide +kernel
theorem dX7_readRound_200 : decode cX7_readRound 200 = .ok (.ishr, 1) := by decide +kernel
theorem dX7_readRound_201 : decode cX7_readRound 201 = .ok (.iconst 1, 1) := by decide +kernel
theorem dX7_readRound_202 : decode cX7_readRound 202 = .ok (.iand, 1) := by decide +kernel
theorem dX7_readRound_203 : decode cX7_readRound 203 = .ok (.iconst 1, 1) := by decide +kernel
theorem dX7_readRound_204 : decode cX7_readRound 204 = .ok (.if_icmp .ne 11, 3) := by decide +kernel
theorem dX7_readRound_207 : decode cX7_readRound 207 = .ok (.aload_n 0, 1) := by decide +kernel
theorem dX7_readRound_208 : decode cX7_readRound 208 = .ok (.iconst 2, 1) := by decide +kernel
theorem dX7_readRound_209 : decode cX7_readRound 209 = .ok (.invokevirtual 156, 3) := by decide +kernel
theorem dX7_readRound_212 : decode cX7_readRound 212 = .ok (.goto 16, 3) := by decide +kernel
theorem dX7_readRound_215 : decode cX7_readRound 215 = .ok (.iload 4, 2) := by decide +kernel
theorem dX7_readRound_217 : decode cX7_readRound 217 = .ok (.iconst 1, 1) := by decide +kernel
theorem dX7_readRound_218 : decode cX7_readRound 218 = .ok (.iload 5, 2) := by decide +kernel
theorem dX7_readRound_220 : decode cX7_readRound 220 = .ok (.ishl, 1) := by decide +kernel
theorem dX7_readRound_221 : decode cX7_readRound 221 = .ok (.ior, 1) := by decide +kernel
theorem dX7_readRound_222 : decode cX7_readRound 222 = .ok (.istore 4, 2) := by decide +kernel
theorem dX7_readRound_224 : decode cX7_readRound 224 = .ok (.aload_n 0, 1) := by decide +kernel
theorem dX7_readRound_225 : decode cX7_readRound 225 = .ok (.invokevirtual 160, 3) := by decide +kernel
theorem dX7_readRound_228 : decode cX7_readRound 228 = .ok (.goto (-106), 3) := by decide +kernel
theorem dX7_readRound_231 : decode cX7_readRound 231 = .ok (.aload_n 0, 1) := by decide +kernel
theorem dX7_readRound_232 : decode cX7_readRound 232 = .ok (.getfield 150, 3) := by decide +kernel
theorem dX7_readRound_235 : decode cX7_readRound 235 = .ok (.ifCond .ne 20, 3) := by decide +kernel
theorem dX7_readRound_238 : decode cX7_readRound 238 = .ok (.aload_n 0, 1) := by decide +kernel
theorem dX7_readRound_239 : decode cX7_readRound 239 = .ok (.aload_n 0, 1) := by decide +kernel
theorem dX7_readRound_240 : decode cX7_readRound 240 = .ok (.getfield 138, 3) := by decide +kernel
theorem dX7_readRound_243 : decode cX7_readRound 243 = .ok (.iconst 4, 1) := by decide +kernel
theorem dX7_readRound_244 : decode cX7_readRound 244 = .ok (.if_icmp .ne 7, 3) := by decide +kernel
theorem dX7_readRound_247 : decode cX7_readRound 247 = .ok (.iconst 1, 1) := by decide +kernel
theorem dX7_readRound_248 : decode cX7_readRound 248 = .ok (.goto 4, 3) := by decide +kernel
theorem dX7_readRound_251 : decode cX7_readRound 251 = .ok (.iconst 0, 1) := by decide +kernel
theorem dX7_readRound_252 : decode cX7_readRound 252 = .ok (.invokevirtual 176, 3) := by decide +kernel
theorem dX7_readRound_255 : decode cX7_readRound 255 = .ok (.aload_n 0, 1) := by decide +kernel
theorem dX7_readRound_256 : decode cX7_readRound 256 = .ok (.getfield 150, 3) := by decide +kernel
theorem dX7_readRound_259 : decode cX7_readRound 259 = .ok (.ifCond .ne 24, 3) := by decide +kernel
theorem dX7_readRound_262 : decode cX7_readRound 262 = .ok (.aload_n 0, 1) := by decide +kernel
theorem dX7_readRound_263 : decode cX7_readRound 263 = .ok (.getfield 25, 3) := by decide +kernel
theorem dX7_readRound_266 : decode cX7_readRound 266 = .ok (.aload_n 0, 1) := by decide +kernel
theorem dX7_readRound_267 : decode cX7_readRound 267 = .ok (.getfield 173, 3) := by decide +kernel
theorem dX7_readRound_270 : decode cX7_readRound 270 = .ok (.iload 4, 2) := by decide +kernel
theorem dX7_readRound_272 : decode cX7_readRound 272 = .ok (.iastore, 1) := by decide +kernel
theorem dX7_readRound_273 : decode cX7_readRound 273 = .ok (.aload_n 0, 1) := by decide +kernel
theorem dX7_readRound_274 : decode cX7_readRound 274 = .ok (.dup, 1) := by decide +kernel
theorem dX7_readRound_275 : decode cX7_readRound 275 = .ok (.getfield 173, 3) := by decide +kernel
theorem dX7_readRound_278 : decode cX7_readRound 278 = .ok (.iconst 1, 1) := by decide +kernel
theorem dX7_readRound_279 : decode cX7_readRound 279 = .ok (.iadd, 1) := by decide +kernel
theorem dX7_readRound_280 : decode cX7_readRound 280 = .ok (.putfield 173, 3) := by decide +kernel
theorem dX7_readRound_283 : decode cX7_readRound 283 = .ok (.return_, 1) := by decide +kernel
set_option maxRecDepth 20000 in
theorem ggX7_schedule_X7_step : GoodIn wsX7_schedule wsX7_step := goodIn_r _ [18, 4, 19, 20, 7, 21, 22, 23, 24, 17, 25, 3, 26, 27, 28, 29, 30, 31, 32, 53, 54, 55, 56, 57, 58, 59, 60, 61, 62, 63, 64, 65, 66, 67, 68, 69, 70, 71, 72, 73, 74, 75, 76, 77, 78, 79, 80] (by decide +kernel) (by decide +kernel)
set_option maxRecDepth 20000 in
theorem gX7_schedule_X7_step : GoodIn wsX7_schedule (wsV RX7 160 RX7 yX7_step wsX7_step) := goodIn_app (goodIn_of _ (by decide +kernel)) ggX7_schedule_X7_step
set_option maxRecDepth 20000 in
theorem ggX7_schedule_X7_readRound : GoodIn wsX7_schedule wsX7_readRound := goodIn_r _ [36, 37, 38, 39, 6, 13, 5, 7, 19, 21, 26, 40, 41, 42, 43, 17, 44, 45, 46, 47, 48, 10, 49, 50, 51, 52, 14, 15, 16, 18, 4, 20, 22, 23, 24, 25, 3, 27, 28, 29, 30, 31, 32, 53, 54, 55, 56, 57, 58, 59, 60, 61, 62, 63, 64, 65, 66, 67, 68, 69, 70, 71, 72, 73, 74, 75, 76, 77, 78, 79, 80] (by decide +kernel) (by decide +kernel)
set_option maxRecDepth 20000 in
theorem gX7_schedule_X7_readRound : GoodIn wsX7_schedule (wsV RX7 180 RX7 yX7_readRound wsX7_readRound) := goodIn_app (goodIn_of _ (by decide +kernel)) ggX7_schedule_X7_readRound
theorem dX7_schedule_0 : decode cX7_schedule 0 = .ok (.aload_n 0, 1) := by decide +kernel
theorem dX7_schedule_1 : decode cX7_schedule 1 = .ok (.iconst 0, 1) := by decide +kernel
theorem dX7_schedule_2 : decode cX7_schedule 2 = .ok (.putfield 51, 3) := by decide +kernel
theorem dX7_schedule_5 : decode cX7_schedule 5 = .ok (.aload_n 0, 1) := by decide +kernel
theorem dX7_schedule_6 : decode cX7_schedule 6 = .ok (.aload_n 0, 1) := by decide +kernel
theorem dX7_schedule_7 : decode cX7_schedule 7 = .ok (.getfield 121, 3) := by decide +kernel
theorem dX7_schedule_10 : decode cX7_schedule 10 = .ok (.putfield 126, 3) := by decide +kernel
theorem dX7_schedule_13 : decode cX7_schedule 13 = .ok (.aload_n 0, 1) := by decide +kernel
theorem dX7_schedule_14 : decode cX7_schedule 14 = .ok (.iconst 0, 1) := by decide +kernel
theorem dX7_schedule_15 : decode cX7_schedule 15 = .ok (.putfield 121, 3) := by decide +kernel
theorem dX7_schedule_18 : decode cX7_schedule 18 = .ok (.aload_n 0, 1) := by decide +kernel
theorem dX7_schedule_19 : decode cX7_schedule 19 = .ok (.iconst 0, 1) := by decide +kernel
theorem dX7_schedule_20 : decode cX7_schedule 20 = .ok (.putfield 129, 3) := by decide +kernel
theorem dX7_schedule_23 : decode cX7_schedule 23 = .ok (.aload_n 0, 1) := by decide +kernel
theorem dX7_schedule_24 : decode cX7_schedule 24 = .ok (.iconst 0, 1) := by decide +kernel
theorem dX7_schedule_25 : decode cX7_schedule 25 = .ok (.putfield 150, 3) := by decide +kernel
theorem dX7_schedule_28 : decode cX7_schedule 28 = .ok (.aload_n 0, 1) := by decide +kernel
theorem dX7_schedule_29 : decode cX7_schedule 29 = .ok (.iconst 0, 1) := by decide +kernel
theorem dX7_schedule_30 : decode cX7_schedule 30 = .ok (.putfield 173, 3) := by decide +kernel
theorem dX7_schedule_33 : decode cX7_schedule 33 = .ok (.aload_n 0, 1) := by decide +kernel
theorem dX7_schedule_34 : decode cX7_schedule 34 = .ok (.invokevirtual 160, 3) := by decide +kernel
theorem dX7_schedule_37 : decode cX7_schedule 37 = .ok (.aload_n 0, 1) := by decide +kernel
theorem dX7_schedule_38 : decode cX7_schedule 38 = .ok (.getfield 150, 3) := by decide +kernel
theorem dX7_schedule_41 : decode cX7_schedule 41 = .ok (.ifCond .ne 18, 3) := by decide +kernel
theorem dX7_schedule_44 : decode cX7_schedule 44 = .ok (.aload_n 0, 1) := by decide +kernel
theorem dX7_schedule_45 : decode cX7_schedule 45 = .ok (.getfield 138, 3) := by decide +kernel
theorem dX7_schedule_48 : decode cX7_schedule 48 = .ok (.iconst 1, 1) := by decide +kernel
theorem dX7_schedule_49 : decode cX7_schedule 49 = .ok (.if_icmp .eq 10, 3) := by decide +kernel
theorem dX7_schedule_52 : decode cX7_schedule 52 = .ok (.aload_n 0, 1) := by decide +kernel
theorem dX7_schedule_53 : decode cX7_schedule 53 = .ok (.invokevirtual 180, 3) := by decide +kernel
theorem dX7_schedule_56 : decode cX7_schedule 56 = .ok (.goto (-19), 3) := by decide +kernel
theorem dX7_schedule_59 : decode cX7_schedule 59 = .ok (.aload_n 0, 1) := by decide +kernel
theorem dX7_schedule_60 : decode cX7_schedule 60 = .ok (.getfield 150, 3) := by decide +kernel
theorem dX7_schedule_63 : decode cX7_schedule 63 = .ok (.ifCond .le 19, 3) := by decide +kernel
theorem dX7_schedule_66 : decode cX7_schedule 66 = .ok (.aload_n 0, 1) := by decide +kernel
theorem dX7_schedule_67 : decode cX7_schedule 67 = .ok (.aload_n 0, 1) := by decide +kernel
theorem dX7_schedule_68 : decode cX7_schedule 68 = .ok (.getfield 150, 3) := by decide +kernel
theorem dX7_schedule_71 : decode cX7_schedule 71 = .ok (.putfield 183, 3) := by decide +kernel
theorem dX7_schedule_74 : decode cX7_schedule 74 = .ok (.ldc 186, 2) := by decide +kernel
theorem dX7_schedule_76 : decode cX7_schedule 76 = .ok (.aload_n 0, 1) := by decide +kernel
theorem dX7_schedule_77 : decode cX7_schedule 77 = .ok (.getfield 153, 3) := by decide +kernel
theorem dX7_schedule_80 : decode cX7_schedule 80 = .ok (.isub, 1) := by decide +kernel
theorem dX7_schedule_81 : decode cX7_schedule 81 = .ok (.ireturn, 1) := by decide +kernel
theorem dX7_schedule_82 : decode cX7_schedule 82 = .ok (.aload_n 0, 1) := by decide +kernel
theorem dX7_schedule_83 : decode cX7_schedule 83 = .ok (.aload_n 0, 1) := by decide +kernel
theorem dX7_schedule_84 : decode cX7_schedule 84 = .ok (.getfield 173, 3) := by decide +kernel
theorem dX7_schedule_87 : decode cX7_schedule 87 = .ok (.putfield 187, 3) := by decide +kernel
theorem dX7_schedule_90 : decode cX7_schedule 90 = .ok (.iconst 0, 1) := by decide +kernel
theorem dX7_schedule_91 : decode cX7_schedule 91 = .ok (.istore_n 1, 1) := by decide +kernel
theorem dX7_schedule_92 : decode cX7_schedule 92 = .ok (.iload_n 1, 1) := by decide +kernel
theorem dX7_schedule_93 : decode cX7_schedule 93 = .ok (.aload_n 0, 1) := by decide +kernel
theorem dX7_schedule_94 : decode cX7_schedule 94 = .ok (.getfield 173, 3) := by decide +kernel
theorem dX7_schedule_97 : decode cX7_schedule 97 = .ok (.if_icmp .ge 21, 3) := by decide +kernel
theorem dX7_schedule_100 : decode cX7_schedule 100 = .ok (.aload_n 0, 1) := by decide +kernel
theorem dX7_schedule_101 : decode cX7_schedule 101 = .ok (.getfield 22, 3) := by decide +kernel
theorem dX7_schedule_104 : decode cX7_schedule 104 = .ok (.iload_n 1, 1) := by decide +kernel
theorem dX7_schedule_105 : decode cX7_schedule 105 = .ok (.aload_n 0, 1) := by decide +kernel
theorem dX7_schedule_106 : decode cX7_schedule 106 = .ok (.getfield 25, 3) := by decide +kernel
theorem dX7_schedule_109 : decode cX7_schedule 109 = .ok (.iload_n 1, 1) := by decide +kernel
theorem dX7_schedule_110 : decode cX7_schedule 110 = .ok (.iaload, 1) := by decide +kernel
theorem dX7_schedule_111 : decode cX7_schedule 111 = .ok (.iastore, 1) := by decide +kernel
theorem dX7_schedule_112 : decode cX7_schedule 112 = .ok (.iinc 1 1, 3) := by decide +kernel
theorem dX7_schedule_115 : decode cX7_schedule 115 = .ok (.goto (-23), 3) := by decide +kernel
theorem dX7_schedule_118 : decode cX7_schedule 118 = .ok (.aload_n 0, 1) := by decide +kernel
theorem dX7_schedule_119 : decode cX7_schedule 119 = .ok (.getfield 187, 3) := by decide +kernel
theorem dX7_schedule_122 : decode cX7_schedule 122 = .ok (.ireturn, 1) := by decide +kernel
theorem dX7_fault_0 : decode cX7_fault 0 = .ok (.aload_n 0, 1) := by decide +kernel
theorem dX7_fault_1 : decode cX7_fault 1 = .ok (.iconst 0, 1) := by decide +kernel
theorem dX7_fault_2 : decode cX7_fault 2 = .ok (.putfield 51, 3) := by decide +kernel
theorem dX7_fault_5 : decode cX7_fault 5 = .ok (.aload_n 0, 1) := by decide +kernel
theorem dX7_fault_6 : decode cX7_fault 6 = .ok (.getfield 183, 3) := by decide +kernel
theorem dX7_fault_9 : decode cX7_fault 9 = .ok (.ireturn, 1) := by decide +kernel
set_option maxRecDepth 20000 in
theorem ggX7_soundsIn_X7_all : GoodIn wsX7_soundsIn wsX7_all := goodIn_r _ [7, 8, 9, 10, 11, 12, 13, 14, 15, 16, 17, 18, 19, 20, 21, 22, 23, 24, 25, 26, 27, 28, 29, 30, 31, 32, 33, 34, 35, 36] (by decide +kernel) (by decide +kernel)
set_option maxRecDepth 20000 in
theorem gX7_soundsIn_X7_all : GoodIn wsX7_soundsIn (wsV RX7 102 RX7 yX7_all wsX7_all) := goodIn_app (goodIn_of _ (by decide +kernel)) ggX7_soundsIn_X7_all
theorem dX7_soundsIn_0 : decode cX7_soundsIn 0 = .ok (.aload_n 0, 1) := by decide +kernel
theorem dX7_soundsIn_1 : decode cX7_soundsIn 1 = .ok (.getfield 22, 3) := by decide +kernel
theorem dX7_soundsIn_4 : decode cX7_soundsIn 4 = .ok (.iload_n 1, 1) := by decide +kernel
theorem dX7_soundsIn_5 : decode cX7_soundsIn 5 = .ok (.aload_n 0, 1) := by decide +kernel
theorem dX7_soundsIn_6 : decode cX7_soundsIn 6 = .ok (.getfield 187, 3) := by decide +kernel
theorem dX7_soundsIn_9 : decode cX7_soundsIn 9 = .ok (.irem, 1) := by decide +kernel
theorem dX7_soundsIn_10 : decode cX7_soundsIn 10 = .ok (.iaload, 1) := by decide +kernel
theorem dX7_soundsIn_11 : decode cX7_soundsIn 11 = .ok (.iconst (-1), 1) := by decide +kernel
theorem dX7_soundsIn_12 : decode cX7_soundsIn 12 = .ok (.if_icmp .ne 10, 3) := by decide +kernel
theorem dX7_soundsIn_15 : decode cX7_soundsIn 15 = .ok (.aload_n 0, 1) := by decide +kernel
theorem dX7_soundsIn_16 : decode cX7_soundsIn 16 = .ok (.invokevirtual 102, 3) := by decide +kernel
theorem dX7_soundsIn_19 : decode cX7_soundsIn 19 = .ok (.goto 14, 3) := by decide +kernel
theorem dX7_soundsIn_22 : decode cX7_soundsIn 22 = .ok (.aload_n 0, 1) := by decide +kernel
theorem dX7_soundsIn_23 : decode cX7_soundsIn 23 = .ok (.getfield 22, 3) := by decide +kernel
theorem dX7_soundsIn_26 : decode cX7_soundsIn 26 = .ok (.iload_n 1, 1) := by decide +kernel
theorem dX7_soundsIn_27 : decode cX7_soundsIn 27 = .ok (.aload_n 0, 1) := by decide +kernel
theorem dX7_soundsIn_28 : decode cX7_soundsIn 28 = .ok (.getfield 187, 3) := by decide +kernel
theorem dX7_soundsIn_31 : decode cX7_soundsIn 31 = .ok (.irem, 1) := by decide +kernel
theorem dX7_soundsIn_32 : decode cX7_soundsIn 32 = .ok (.iaload, 1) := by decide +kernel
theorem dX7_soundsIn_33 : decode cX7_soundsIn 33 = .ok (.ireturn, 1) := by decide +kernel
set_option maxRecDepth 20000 in
theorem ggX7_round_X7_in : GoodIn wsX7_round wsX7_in := goodIn_r _ [7] (by decide +kernel) (by decide +kernel)
set_option maxRecDepth 20000 in
theorem gX7_round_X7_in : GoodIn wsX7_round (va_wsS RX7 61 yX7_in wsX7_in) := goodIn_app (goodIn_of _ (by decide +kernel)) ggX7_round_X7_in
set_option maxRecDepth 20000 in
theorem ggX7_round_X7_soundsIn : GoodIn wsX7_round wsX7_soundsIn := goodIn_r _ [11, 12, 2, 13, 14, 15, 6, 16, 17, 18, 19, 20, 21, 22, 23, 24, 25, 26, 27, 28, 29, 30, 31, 32, 33, 34, 35, 36, 37, 38, 39, 40, 41, 42, 43, 44, 45] (by decide +kernel) (by decide +kernel)
set_option maxRecDepth 20000 in
theorem gX7_round_X7_soundsIn : GoodIn wsX7_round (wsV RX7 190 RX7 yX7_soundsIn wsX7_soundsIn) := goodIn_app (goodIn_of _ (by decide +kernel)) ggX7_round_X7_soundsIn
theorem dX7_round_0 : decode cX7_round 0 = .ok (.aload_n 0, 1) := by decide +kernel
theorem dX7_round_1 : decode cX7_round 1 = .ok (.iconst 0, 1) := by decide +kernel
theorem dX7_round_2 : decode cX7_round 2 = .ok (.putfield 51, 3) := by decide +kernel
theorem dX7_round_5 : decode cX7_round 5 = .ok (.iload_n 1, 1) := by decide +kernel
theorem dX7_round_6 : decode cX7_round 6 = .ok (.i2l, 1) := by decide +kernel
theorem dX7_round_7 : decode cX7_round 7 = .ok (.lconst 0, 1) := by decide +kernel
theorem dX7_round_8 : decode cX7_round 8 = .ok (.aload_n 0, 1) := by decide +kernel
theorem dX7_round_9 : decode cX7_round 9 = .ok (.getfield 187, 3) := by decide +kernel
theorem dX7_round_12 : decode cX7_round 12 = .ok (.iconst 1, 1) := by decide +kernel
theorem dX7_round_13 : decode cX7_round 13 = .ok (.isub, 1) := by decide +kernel
theorem dX7_round_14 : decode cX7_round 14 = .ok (.i2l, 1) := by decide +kernel
theorem dX7_round_15 : decode cX7_round 15 = .ok (.invokestatic 61, 3) := by decide +kernel
theorem dX7_round_18 : decode cX7_round 18 = .ok (.ifCond .eq 11, 3) := by decide +kernel
theorem dX7_round_21 : decode cX7_round 21 = .ok (.aload_n 0, 1) := by decide +kernel
theorem dX7_round_22 : decode cX7_round 22 = .ok (.iload_n 1, 1) := by decide +kernel
theorem dX7_round_23 : decode cX7_round 23 = .ok (.invokevirtual 190, 3) := by decide +kernel
theorem dX7_round_26 : decode cX7_round 26 = .ok (.goto 5, 3) := by decide +kernel
theorem dX7_round_29 : decode cX7_round 29 = .ok (.ldc 86, 2) := by decide +kernel
theorem dX7_round_31 : decode cX7_round 31 = .ok (.ireturn, 1) := by decide +kernel
set_option maxRecDepth 20000 in
theorem ggX7_run_X7_isHearing : GoodIn wsX7_run wsX7_isHearing := goodIn_r _ [9, 10, 11, 8, 12] (by decide +kernel) (by decide +kernel)
set_option maxRecDepth 20000 in
theorem gX7_run_X7_isHearing : GoodIn wsX7_run (va_wsS RX7 109 yX7_isHearing wsX7_isHearing) := goodIn_app (goodIn_of _ (by decide +kernel)) ggX7_run_X7_isHearing
set_option maxRecDepth 20000 in
theorem ggX7_run_X7_isPost : GoodIn wsX7_run wsX7_isPost := goodIn_r _ [16, 17, 10, 11, 8, 12, 39, 40, 41, 42, 43, 44, 45, 46, 47, 48, 49, 50, 51, 52, 53, 54, 55, 56, 57, 58, 59, 60, 61, 62, 63, 64, 65, 66] (by decide +kernel) (by decide +kernel)
set_option maxRecDepth 20000 in
theorem gX7_run_X7_isPost : GoodIn wsX7_run (wsV RX7 80 RX7 yX7_isPost wsX7_isPost) := goodIn_app (goodIn_of _ (by decide +kernel)) ggX7_run_X7_isPost
set_option maxRecDepth 20000 in
theorem ggX7_run_X7_in : GoodIn wsX7_run wsX7_in := goodIn_r _ [12] (by decide +kernel) (by decide +kernel)
set_option maxRecDepth 20000 in
theorem gX7_run_X7_in : GoodIn wsX7_run (va_wsS RX7 61 yX7_in wsX7_in) := goodIn_app (goodIn_of _ (by decide +kernel)) ggX7_run_X7_in
set_option maxRecDepth 20000 in
theorem ggX7_run_X7_soundsIn : GoodIn wsX7_run wsX7_soundsIn := goodIn_r _ [21, 22, 4, 23, 24, 25, 8, 26, 17, 39, 40, 41, 42, 43, 44, 45, 46, 47, 48, 49, 50, 51, 52, 53, 54, 55, 56, 57, 58, 59, 60, 61, 62, 63, 64, 65, 66] (by decide +kernel) (by decide +kernel)
set_option maxRecDepth 20000 in
theorem gX7_run_X7_soundsIn : GoodIn wsX7_run (wsV RX7 190 RX7 yX7_soundsIn wsX7_soundsIn) := goodIn_app (goodIn_of _ (by decide +kernel)) ggX7_run_X7_soundsIn
set_option maxRecDepth 20000 in
theorem ggX7_run_X7_spread : GoodIn wsX7_run wsX7_spread := goodIn_r _ [30, 31, 32, 33, 8, 34, 17, 35, 36, 37, 38, 39, 40, 41, 42, 43, 44, 45, 46, 47, 48, 49, 50, 51, 52, 53, 54, 55, 56, 57, 58, 59, 60, 61, 62, 63, 64, 65, 66] (by decide +kernel) (by decide +kernel)
set_option maxRecDepth 20000 in
theorem gX7_run_X7_spread : GoodIn wsX7_run (wsV RX7 115 RX7 yX7_spread wsX7_spread) := goodIn_app (goodIn_of _ (by decide +kernel)) ggX7_run_X7_spread
theorem dX7_run_0 : decode cX7_run 0 = .ok (.aload_n 0, 1) := by decide +kernel
theorem dX7_run_1 : decode cX7_run 1 = .ok (.iconst 0, 1) := by decide +kernel
theorem dX7_run_2 : decode cX7_run 2 = .ok (.putfield 51, 3) := by decide +kernel
theorem dX7_run_5 : decode cX7_run 5 = .ok (.iload_n 1, 1) := by decide +kernel
theorem dX7_run_6 : decode cX7_run 6 = .ok (.invokestatic 109, 3) := by decide +kernel
theorem dX7_run_9 : decode cX7_run 9 = .ok (.ifCond .eq 23, 3) := by decide +kernel
theorem dX7_run_12 : decode cX7_run 12 = .ok (.aload_n 0, 1) := by decide +kernel
theorem dX7_run_13 : decode cX7_run 13 = .ok (.iload_n 2, 1) := by decide +kernel
theorem dX7_run_14 : decode cX7_run 14 = .ok (.invokevirtual 80, 3) := by decide +kernel
theorem dX7_run_17 : decode cX7_run 17 = .ok (.ifCond .eq 15, 3) := by decide +kernel
theorem dX7_run_20 : decode cX7_run 20 = .ok (.iload_n 3, 1) := by decide +kernel
theorem dX7_run_21 : decode cX7_run 21 = .ok (.i2l, 1) := by decide +kernel
theorem dX7_run_22 : decode cX7_run 22 = .ok (.lconst 0, 1) := by decide +kernel
theorem dX7_run_23 : decode cX7_run 23 = .ok (.ldc2_w 193, 3) := by decide +kernel
theorem dX7_run_26 : decode cX7_run 26 = .ok (.invokestatic 61, 3) := by decide +kernel
theorem dX7_run_29 : decode cX7_run 29 = .ok (.ifCond .ne 6, 3) := by decide +kernel
theorem dX7_run_32 : decode cX7_run 32 = .ok (.ldc 71, 2) := by decide +kernel
theorem dX7_run_34 : decode cX7_run 34 = .ok (.ireturn, 1) := by decide +kernel
theorem dX7_run_35 : decode cX7_run 35 = .ok (.aload_n 0, 1) := by decide +kernel
theorem dX7_run_36 : decode cX7_run 36 = .ok (.getfield 187, 3) := by decide +kernel
theorem dX7_run_39 : decode cX7_run 39 = .ok (.ifCond .ne 6, 3) := by decide +kernel
theorem dX7_run_42 : decode cX7_run 42 = .ok (.ldc 195, 2) := by decide +kernel
theorem dX7_run_44 : decode cX7_run 44 = .ok (.ireturn, 1) := by decide +kernel
theorem dX7_run_45 : decode cX7_run 45 = .ok (.iconst 1, 1) := by decide +kernel
theorem dX7_run_46 : decode cX7_run 46 = .ok (.iload_n 2, 1) := by decide +kernel
theorem dX7_run_47 : decode cX7_run 47 = .ok (.ishl, 1) := by decide +kernel
theorem dX7_run_48 : decode cX7_run 48 = .ok (.istore 4, 2) := by decide +kernel
theorem dX7_run_50 : decode cX7_run 50 = .ok (.iconst 0, 1) := by decide +kernel
theorem dX7_run_51 : decode cX7_run 51 = .ok (.istore 5, 2) := by decide +kernel
theorem dX7_run_53 : decode cX7_run 53 = .ok (.iload 5, 2) := by decide +kernel
theorem dX7_run_55 : decode cX7_run 55 = .ok (.iload_n 3, 1) := by decide +kernel
theorem dX7_run_56 : decode cX7_run 56 = .ok (.if_icmp .ge 24, 3) := by decide +kernel
theorem dX7_run_59 : decode cX7_run 59 = .ok (.aload_n 0, 1) := by decide +kernel
theorem dX7_run_60 : decode cX7_run 60 = .ok (.iload_n 1, 1) := by decide +kernel
theorem dX7_run_61 : decode cX7_run 61 = .ok (.iload 4, 2) := by decide +kernel
theorem dX7_run_63 : decode cX7_run 63 = .ok (.aload_n 0, 1) := by decide +kernel
theorem dX7_run_64 : decode cX7_run 64 = .ok (.iload 5, 2) := by decide +kernel
theorem dX7_run_66 : decode cX7_run 66 = .ok (.invokevirtual 190, 3) := by decide +kernel
theorem dX7_run_69 : decode cX7_run 69 = .ok (.invokevirtual 115, 3) := by decide +kernel
theorem dX7_run_72 : decode cX7_run 72 = .ok (.istore 4, 2) := by decide +kernel
theorem dX7_run_74 : decode cX7_run 74 = .ok (.iinc 5 1, 3) := by decide +kernel
theorem dX7_run_77 : decode cX7_run 77 = .ok (.goto (-24), 3) := by decide +kernel
theorem dX7_run_80 : decode cX7_run 80 = .ok (.iload 4, 2) := by decide +kernel
theorem dX7_run_82 : decode cX7_run 82 = .ok (.ireturn, 1) := by decide +kernel
set_option maxRecDepth 20000 in
theorem ggX7_findFewest_X7_all : GoodIn wsX7_findFewest wsX7_all := goodIn_r _ [7, 8, 21, 22, 23, 24, 25, 26, 27, 28, 29, 30, 31, 32, 33, 34, 35, 36, 37, 38, 39, 40, 41, 42, 43, 44, 45, 46, 47, 48] (by decide +kernel) (by decide +kernel)
set_option maxRecDepth 20000 in
theorem gX7_findFewest_X7_all : GoodIn wsX7_findFewest (wsV RX7 102 RX7 yX7_all wsX7_all) := goodIn_app (goodIn_of _ (by decide +kernel)) ggX7_findFewest_X7_all
set_option maxRecDepth 20000 in
theorem ggX7_findFewest_X7_spread : GoodIn wsX7_findFewest wsX7_spread := goodIn_r _ [12, 13, 14, 15, 6, 16, 8, 17, 18, 19, 20, 21, 22, 23, 24, 25, 26, 27, 28, 29, 30, 31, 32, 33, 34, 35, 36, 37, 38, 39, 40, 41, 42, 43, 44, 45, 46, 47, 48] (by decide +kernel) (by decide +kernel)
set_option maxRecDepth 20000 in
theorem gX7_findFewest_X7_spread : GoodIn wsX7_findFewest (wsV RX7 115 RX7 yX7_spread wsX7_spread) := goodIn_app (goodIn_of _ (by decide +kernel)) ggX7_findFewest_X7_spread
theorem dX7_findFewest_0 : decode cX7_findFewest 0 = .ok (.iconst 0, 1) := by decide +kernel
theorem dX7_findFewest_1 : decode cX7_findFewest 1 = .ok (.istore_n 3, 1) := by decide +kernel
theorem dX7_findFewest_2 : decode cX7_findFewest 2 = .ok (.iload_n 3, 1) := by decide +kernel
theorem dX7_findFewest_3 : decode cX7_findFewest 3 = .ok (.sipush 256, 3) := by decide +kernel
theorem dX7_findFewest_6 : decode cX7_findFewest 6 = .ok (.if_icmp .ge 26, 3) := by decide +kernel
theorem dX7_findFewest_9 : decode cX7_findFewest 9 = .ok (.aload_n 0, 1) := by decide +kernel
theorem dX7_findFewest_10 : decode cX7_findFewest 10 = .ok (.getfield 31, 3) := by decide +kernel
theorem dX7_findFewest_13 : decode cX7_findFewest 13 = .ok (.iload_n 3, 1) := by decide +kernel
theorem dX7_findFewest_14 : decode cX7_findFewest 14 = .ok (.iload_n 3, 1) := by decide +kernel
theorem dX7_findFewest_15 : decode cX7_findFewest 15 = .ok (.iload_n 2, 1) := by decide +kernel
theorem dX7_findFewest_16 : decode cX7_findFewest 16 = .ok (.if_icmp .ne 7, 3) := by decide +kernel
theorem dX7_findFewest_19 : decode cX7_findFewest 19 = .ok (.iconst 0, 1) := by decide +kernel
theorem dX7_findFewest_20 : decode cX7_findFewest 20 = .ok (.goto 5, 3) := by decide +kernel
theorem dX7_findFewest_23 : decode cX7_findFewest 23 = .ok (.ldc 86, 2) := by decide +kernel
theorem dX7_findFewest_25 : decode cX7_findFewest 25 = .ok (.iastore, 1) := by decide +kernel
theorem dX7_findFewest_26 : decode cX7_findFewest 26 = .ok (.iinc 3 1, 3) := by decide +kernel
theorem dX7_findFewest_29 : decode cX7_findFewest 29 = .ok (.goto (-27), 3) := by decide +kernel
theorem dX7_findFewest_32 : decode cX7_findFewest 32 = .ok (.iconst 1, 1) := by decide +kernel
theorem dX7_findFewest_33 : decode cX7_findFewest 33 = .ok (.istore_n 3, 1) := by decide +kernel
theorem dX7_findFewest_34 : decode cX7_findFewest 34 = .ok (.iload_n 3, 1) := by decide +kernel
theorem dX7_findFewest_35 : decode cX7_findFewest 35 = .ok (.ifCond .eq 112, 3) := by decide +kernel
theorem dX7_findFewest_38 : decode cX7_findFewest 38 = .ok (.iconst 0, 1) := by decide +kernel
theorem dX7_findFewest_39 : decode cX7_findFewest 39 = .ok (.istore_n 3, 1) := by decide +kernel
theorem dX7_findFewest_40 : decode cX7_findFewest 40 = .ok (.iconst 0, 1) := by decide +kernel
theorem dX7_findFewest_41 : decode cX7_findFewest 41 = .ok (.istore 4, 2) := by decide +kernel
theorem dX7_findFewest_43 : decode cX7_findFewest 43 = .ok (.iload 4, 2) := by decide +kernel
theorem dX7_findFewest_45 : decode cX7_findFewest 45 = .ok (.aload_n 0, 1) := by decide +kernel
theorem dX7_findFewest_46 : decode cX7_findFewest 46 = .ok (.invokevirtual 102, 3) := by decide +kernel
theorem dX7_findFewest_49 : decode cX7_findFewest 49 = .ok (.if_icmp .gt 95, 3) := by decide +kernel
theorem dX7_findFewest_52 : decode cX7_findFewest 52 = .ok (.iconst 0, 1) := by decide +kernel
theorem dX7_findFewest_53 : decode cX7_findFewest 53 = .ok (.istore 5, 2) := by decide +kernel
theorem dX7_findFewest_55 : decode cX7_findFewest 55 = .ok (.iload 5, 2) := by decide +kernel
theorem dX7_findFewest_57 : decode cX7_findFewest 57 = .ok (.aload_n 0, 1) := by decide +kernel
theorem dX7_findFewest_58 : decode cX7_findFewest 58 = .ok (.invokevirtual 102, 3) := by decide +kernel
theorem dX7_findFewest_61 : decode cX7_findFewest 61 = .ok (.if_icmp .gt 77, 3) := by decide +kernel
theorem dX7_findFewest_64 : decode cX7_findFewest 64 = .ok (.iload 4, 2) := by decide +kernel
theorem dX7_findFewest_66 : decode cX7_findFewest 66 = .ok (.iload_n 2, 1) := by decide +kernel
theorem dX7_findFewest_67 : decode cX7_findFewest 67 = .ok (.if_icmp .eq 71, 3) := by decide +kernel
theorem dX7_findFewest_70 : decode cX7_findFewest 70 = .ok (.aload_n 0, 1) := by decide +kernel
theorem dX7_findFewest_71 : decode cX7_findFewest 71 = .ok (.getfield 31, 3) := by decide +kernel
theorem dX7_findFewest_74 : decode cX7_findFewest 74 = .ok (.aload_n 0, 1) := by decide +kernel
theorem dX7_findFewest_75 : decode cX7_findFewest 75 = .ok (.iload_n 1, 1) := by decide +kernel
theorem dX7_findFewest_76 : decode cX7_findFewest 76 = .ok (.iload 4, 2) := by decide +kernel
theorem dX7_findFewest_78 : decode cX7_findFewest 78 = .ok (.iload 5, 2) := by decide +kernel
theorem dX7_findFewest_80 : decode cX7_findFewest 80 = .ok (.invokevirtual 115, 3) := by decide +kernel
theorem dX7_findFewest_83 : decode cX7_findFewest 83 = .ok (.iaload, 1) := by decide +kernel
theorem dX7_findFewest_84 : decode cX7_findFewest 84 = .ok (.istore 6, 2) := by decide +kernel
theorem dX7_findFewest_86 : decode cX7_findFewest 86 = .ok (.iload 6, 2) := by decide +kernel
theorem dX7_findFewest_88 : decode cX7_findFewest 88 = .ok (.ldc 86, 2) := by decide +kernel
theorem dX7_findFewest_90 : decode cX7_findFewest 90 = .ok (.if_icmp .eq 42, 3) := by decide +kernel
theorem dX7_findFewest_93 : decode cX7_findFewest 93 = .ok (.aload_n 0, 1) := by decide +kernel
theorem dX7_findFewest_94 : decode cX7_findFewest 94 = .ok (.getfield 31, 3) := by decide +kernel
theorem dX7_findFewest_97 : decode cX7_findFewest 97 = .ok (.iload 4, 2) := by decide +kernel
theorem dX7_findFewest_99 : decode cX7_findFewest 99 = .ok (.iaload, 1) := by decide +kernel
theorem dX7_findFewest_100 : decode cX7_findFewest 100 = .ok (.ldc 86, 2) := by decide +kernel
theorem dX7_findFewest_102 : decode cX7_findFewest 102 = .ok (.if_icmp .eq 17, 3) := by decide +kernel
theorem dX7_findFewest_105 : decode cX7_findFewest 105 = .ok (.iload 6, 2) := by decide +kernel
theorem dX7_findFewest_107 : decode cX7_findFewest 107 = .ok (.iconst 1, 1) := by decide +kernel
theorem dX7_findFewest_108 : decode cX7_findFewest 108 = .ok (.iadd, 1) := by decide +kernel
theorem dX7_findFewest_109 : decode cX7_findFewest 109 = .ok (.aload_n 0, 1) := by decide +kernel
theorem dX7_findFewest_110 : decode cX7_findFewest 110 = .ok (.getfield 31, 3) := by decide +kernel
theorem dX7_findFewest_113 : decode cX7_findFewest 113 = .ok (.iload 4, 2) := by decide +kernel
theorem dX7_findFewest_115 : decode cX7_findFewest 115 = .ok (.iaload, 1) := by decide +kernel
theorem dX7_findFewest_116 : decode cX7_findFewest 116 = .ok (.if_icmp .ge 16, 3) := by decide +kernel
theorem dX7_findFewest_119 : decode cX7_findFewest 119 = .ok (.aload_n 0, 1) := by decide +kernel
theorem dX7_findFewest_120 : decode cX7_findFewest 120 = .ok (.getfield 31, 3) := by decide +kernel
theorem dX7_findFewest_123 : decode cX7_findFewest 123 = .ok (.iload 4, 2) := by decide +kernel
theorem dX7_findFewest_125 : decode cX7_findFewest 125 = .ok (.iload 6, 2) := by decide +kernel
theorem dX7_findFewest_127 : decode cX7_findFewest 127 = .ok (.iconst 1, 1) := by decide +kernel
theorem dX7_findFewest_128 : decode cX7_findFewest 128 = .ok (.iadd, 1) := by decide +kernel
theorem dX7_findFewest_129 : decode cX7_findFewest 129 = .ok (.iastore, 1) := by decide +kernel
theorem dX7_findFewest_130 : decode cX7_findFewest 130 = .ok (.iconst 1, 1) := by decide +kernel
theorem dX7_findFewest_131 : decode cX7_findFewest 131 = .ok (.istore_n 3, 1) := by decide +kernel
theorem dX7_findFewest_132 : decode cX7_findFewest 132 = .ok (.iinc 5 1, 3) := by decide +kernel
theorem dX7_findFewest_135 : decode cX7_findFewest 135 = .ok (.goto (-80), 3) := by decide +kernel
theorem dX7_findFewest_138 : decode cX7_findFewest 138 = .ok (.iinc 4 1, 3) := by decide +kernel
theorem dX7_findFewest_141 : decode cX7_findFewest 141 = .ok (.goto (-98), 3) := by decide +kernel
theorem dX7_findFewest_144 : decode cX7_findFewest 144 = .ok (.goto (-110), 3) := by decide +kernel
theorem dX7_findFewest_147 : decode cX7_findFewest 147 = .ok (.return_, 1) := by decide +kernel
set_option maxRecDepth 20000 in
theorem ggX7_least_X7_isHearing : GoodIn wsX7_least wsX7_isHearing := goodIn_r _ [7, 8, 9, 6, 10] (by decide +kernel) (by decide +kernel)
set_option maxRecDepth 20000 in
theorem gX7_least_X7_isHearing : GoodIn wsX7_least (va_wsS RX7 109 yX7_isHearing wsX7_isHearing) := goodIn_app (goodIn_of _ (by decide +kernel)) ggX7_least_X7_isHearing
set_option maxRecDepth 20000 in
theorem ggX7_least_X7_isSet : GoodIn wsX7_least wsX7_isSet := goodIn_r _ [14, 15, 16, 17, 6, 18, 19, 8, 9, 10, 45, 46, 47, 48, 49, 50, 51, 52, 53, 54, 55, 56, 57, 58, 59, 60, 61, 62, 63, 64, 65, 66, 67, 68, 69, 70, 71, 72] (by decide +kernel) (by decide +kernel)
set_option maxRecDepth 20000 in
theorem gX7_least_X7_isSet : GoodIn wsX7_least (wsV RX7 112 RX7 yX7_isSet wsX7_isSet) := goodIn_app (goodIn_of _ (by decide +kernel)) ggX7_least_X7_isSet
set_option maxRecDepth 20000 in
theorem ggX7_least_X7_in : GoodIn wsX7_least wsX7_in := goodIn_r _ [10] (by decide +kernel) (by decide +kernel)
set_option maxRecDepth 20000 in
theorem gX7_least_X7_in : GoodIn wsX7_least (va_wsS RX7 61 yX7_in wsX7_in) := goodIn_app (goodIn_of _ (by decide +kernel)) ggX7_least_X7_in
set_option maxRecDepth 20000 in
theorem ggX7_least_X7_reach : GoodIn wsX7_least wsX7_reach := goodIn_r _ [23, 24, 25, 26, 6, 27, 19, 28, 45, 46, 47, 48, 49, 50, 51, 52, 53, 54, 55, 56, 57, 58, 59, 60, 61, 62, 63, 64, 65, 66, 67, 68, 69, 70, 71, 72] (by decide +kernel) (by decide +kernel)
set_option maxRecDepth 20000 in
theorem gX7_least_X7_reach : GoodIn wsX7_least (wsV RX7 99 RX7 yX7_reach wsX7_reach) := goodIn_app (goodIn_of _ (by decide +kernel)) ggX7_least_X7_reach
set_option maxRecDepth 20000 in
theorem ggX7_least_X7_findFewest : GoodIn wsX7_least wsX7_findFewest := goodIn_r _ [32, 3, 33, 15, 16, 17, 6, 18, 19, 34, 35, 36, 37, 38, 39, 40, 41, 28, 42, 43, 44, 45, 46, 47, 48, 49, 50, 51, 52, 53, 54, 55, 56, 57, 58, 59, 60, 61, 62, 63, 64, 65, 66, 67, 68, 69, 70, 71, 72] (by decide +kernel) (by decide +kernel)
set_option maxRecDepth 20000 in
theorem gX7_least_X7_findFewest : GoodIn wsX7_least (wsV RX7 196 RX7 yX7_findFewest wsX7_findFewest) := goodIn_app (goodIn_of _ (by decide +kernel)) ggX7_least_X7_findFewest
set_option maxRecDepth 20000 in
theorem ggX7_least_X7_spread : GoodIn wsX7_least wsX7_spread := goodIn_r _ [37, 38, 39, 40, 6, 41, 19, 28, 42, 43, 44, 45, 46, 47, 48, 49, 50, 51, 52, 53, 54, 55, 56, 57, 58, 59, 60, 61, 62, 63, 64, 65, 66, 67, 68, 69, 70, 71, 72] (by decide +kernel) (by decide +kernel)
set_option maxRecDepth 20000 in
theorem gX7_least_X7_spread : GoodIn wsX7_least (wsV RX7 115 RX7 yX7_spread wsX7_spread) := goodIn_app (goodIn_of _ (by decide +kernel)) ggX7_least_X7_spread
theorem dX7_least_0 : decode cX7_least 0 = .ok (.aload_n 0, 1) := by decide +kernel
theorem dX7_least_1 : decode cX7_least 1 = .ok (.iconst 0, 1) := by decide +kernel
theorem dX7_least_2 : decode cX7_least 2 = .ok (.putfield 51, 3) := by decide +kernel
theorem dX7_least_5 : decode cX7_least 5 = .ok (.iload_n 1, 1) := by decide +kernel
theorem dX7_least_6 : decode cX7_least 6 = .ok (.invokestatic 109, 3) := by decide +kernel
theorem dX7_least_9 : decode cX7_least 9 = .ok (.ifCond .eq 25, 3) := by decide +kernel
theorem dX7_least_12 : decode cX7_least 12 = .ok (.aload_n 0, 1) := by decide +kernel
theorem dX7_least_13 : decode cX7_least 13 = .ok (.iload_n 2, 1) := by decide +kernel
theorem dX7_least_14 : decode cX7_least 14 = .ok (.invokevirtual 112, 3) := by decide +kernel
theorem dX7_least_17 : decode cX7_least 17 = .ok (.ifCond .eq 17, 3) := by decide +kernel
theorem dX7_least_20 : decode cX7_least 20 = .ok (.iload_n 2, 1) := by decide +kernel
theorem dX7_least_21 : decode cX7_least 21 = .ok (.ifCond .eq 13, 3) := by decide +kernel
theorem dX7_least_24 : decode cX7_least 24 = .ok (.iload_n 3, 1) := by decide +kernel
theorem dX7_least_25 : decode cX7_least 25 = .ok (.i2l, 1) := by decide +kernel
theorem dX7_least_26 : decode cX7_least 26 = .ok (.lconst 0, 1) := by decide +kernel
theorem dX7_least_27 : decode cX7_least 27 = .ok (.lconst 1, 1) := by decide +kernel
theorem dX7_least_28 : decode cX7_least 28 = .ok (.invokestatic 61, 3) := by decide +kernel
theorem dX7_least_31 : decode cX7_least 31 = .ok (.ifCond .ne 6, 3) := by decide +kernel
theorem dX7_least_34 : decode cX7_least 34 = .ok (.ldc 71, 2) := by decide +kernel
theorem dX7_least_36 : decode cX7_least 36 = .ok (.ireturn, 1) := by decide +kernel
theorem dX7_least_37 : decode cX7_least 37 = .ok (.aload_n 0, 1) := by decide +kernel
theorem dX7_least_38 : decode cX7_least 38 = .ok (.iload_n 1, 1) := by decide +kernel
theorem dX7_least_39 : decode cX7_least 39 = .ok (.aload_n 0, 1) := by decide +kernel
theorem dX7_least_40 : decode cX7_least 40 = .ok (.iload_n 2, 1) := by decide +kernel
theorem dX7_least_41 : decode cX7_least 41 = .ok (.invokevirtual 99, 3) := by decide +kernel
theorem dX7_least_44 : decode cX7_least 44 = .ok (.invokevirtual 196, 3) := by decide +kernel
theorem dX7_least_47 : decode cX7_least 47 = .ok (.iload_n 3, 1) := by decide +kernel
theorem dX7_least_48 : decode cX7_least 48 = .ok (.ifCond .eq 12, 3) := by decide +kernel
theorem dX7_least_51 : decode cX7_least 51 = .ok (.aload_n 0, 1) := by decide +kernel
theorem dX7_least_52 : decode cX7_least 52 = .ok (.getfield 31, 3) := by decide +kernel
theorem dX7_least_55 : decode cX7_least 55 = .ok (.iload_n 2, 1) := by decide +kernel
theorem dX7_least_56 : decode cX7_least 56 = .ok (.iaload, 1) := by decide +kernel
theorem dX7_least_57 : decode cX7_least 57 = .ok (.ifCond .ne 18, 3) := by decide +kernel
theorem dX7_least_60 : decode cX7_least 60 = .ok (.iload_n 3, 1) := by decide +kernel
theorem dX7_least_61 : decode cX7_least 61 = .ok (.ifCond .ne 12, 3) := by decide +kernel
theorem dX7_least_64 : decode cX7_least 64 = .ok (.aload_n 0, 1) := by decide +kernel
theorem dX7_least_65 : decode cX7_least 65 = .ok (.getfield 31, 3) := by decide +kernel
theorem dX7_least_68 : decode cX7_least 68 = .ok (.iload_n 2, 1) := by decide +kernel
theorem dX7_least_69 : decode cX7_least 69 = .ok (.iaload, 1) := by decide +kernel
theorem dX7_least_70 : decode cX7_least 70 = .ok (.goto 4, 3) := by decide +kernel
theorem dX7_least_73 : decode cX7_least 73 = .ok (.iconst 0, 1) := by decide +kernel
theorem dX7_least_74 : decode cX7_least 74 = .ok (.ireturn, 1) := by decide +kernel
theorem dX7_least_75 : decode cX7_least 75 = .ok (.iconst 0, 1) := by decide +kernel
theorem dX7_least_76 : decode cX7_least 76 = .ok (.istore 4, 2) := by decide +kernel
theorem dX7_least_78 : decode cX7_least 78 = .ok (.aload_n 0, 1) := by decide +kernel
theorem dX7_least_79 : decode cX7_least 79 = .ok (.getfield 31, 3) := by decide +kernel
theorem dX7_least_82 : decode cX7_least 82 = .ok (.aload_n 0, 1) := by decide +kernel
theorem dX7_least_83 : decode cX7_least 83 = .ok (.iload_n 1, 1) := by decide +kernel
theorem dX7_least_84 : decode cX7_least 84 = .ok (.iload_n 2, 1) := by decide +kernel
theorem dX7_least_85 : decode cX7_least 85 = .ok (.iload 4, 2) := by decide +kernel
theorem dX7_least_87 : decode cX7_least 87 = .ok (.invokevirtual 115, 3) := by decide +kernel
theorem dX7_least_90 : decode cX7_least 90 = .ok (.iaload, 1) := by decide +kernel
theorem dX7_least_91 : decode cX7_least 91 = .ok (.aload_n 0, 1) := by decide +kernel
theorem dX7_least_92 : decode cX7_least 92 = .ok (.getfield 31, 3) := by decide +kernel
theorem dX7_least_95 : decode cX7_least 95 = .ok (.iload_n 2, 1) := by decide +kernel
theorem dX7_least_96 : decode cX7_least 96 = .ok (.iaload, 1) := by decide +kernel
theorem dX7_least_97 : decode cX7_least 97 = .ok (.iconst 1, 1) := by decide +kernel
theorem dX7_least_98 : decode cX7_least 98 = .ok (.isub, 1) := by decide +kernel
theorem dX7_least_99 : decode cX7_least 99 = .ok (.if_icmp .eq 9, 3) := by decide +kernel
theorem dX7_least_102 : decode cX7_least 102 = .ok (.iinc 4 1, 3) := by decide +kernel
theorem dX7_least_105 : decode cX7_least 105 = .ok (.goto (-27), 3) := by decide +kernel
theorem dX7_least_108 : decode cX7_least 108 = .ok (.iload 4, 2) := by decide +kernel
theorem dX7_least_110 : decode cX7_least 110 = .ok (.ireturn, 1) := by decide +kernel
set_option maxRecDepth 20000 in
theorem ggX7_jammed_X7_isHearing : GoodIn wsX7_jammed wsX7_isHearing := goodIn_r _ [12, 13, 14, 11, 15] (by decide +kernel) (by decide +kernel)
set_option maxRecDepth 20000 in
theorem gX7_jammed_X7_isHearing : GoodIn wsX7_jammed (va_wsS RX7 109 yX7_isHearing wsX7_isHearing) := goodIn_app (goodIn_of _ (by decide +kernel)) ggX7_jammed_X7_isHearing
set_option maxRecDepth 20000 in
theorem ggX7_jammed_X7_isPost : GoodIn wsX7_jammed wsX7_isPost := goodIn_r _ [19, 20, 13, 14, 11, 15, 50, 51, 52, 53, 54, 55, 56, 57, 58, 59, 60, 61, 62, 63, 64, 65, 66, 67, 68, 69, 70, 71, 72, 73, 74, 75, 76, 77] (by decide +kernel) (by decide +kernel)
set_option maxRecDepth 20000 in
theorem gX7_jammed_X7_isPost : GoodIn wsX7_jammed (wsV RX7 80 RX7 yX7_isPost wsX7_isPost) := goodIn_app (goodIn_of _ (by decide +kernel)) ggX7_jammed_X7_isPost
set_option maxRecDepth 20000 in
theorem ggX7_jammed_X7_in : GoodIn wsX7_jammed wsX7_in := goodIn_r _ [15] (by decide +kernel) (by decide +kernel)
set_option maxRecDepth 20000 in
theorem gX7_jammed_X7_in : GoodIn wsX7_jammed (va_wsS RX7 61 yX7_in wsX7_in) := goodIn_app (goodIn_of _ (by decide +kernel)) ggX7_jammed_X7_in
set_option maxRecDepth 20000 in
theorem ggX7_jammed_X7_reach : GoodIn wsX7_jammed wsX7_reach := goodIn_r _ [24, 25, 26, 27, 11, 28, 20, 29, 50, 51, 52, 53, 54, 55, 56, 57, 58, 59, 60, 61, 62, 63, 64, 65, 66, 67, 68, 69, 70, 71, 72, 73, 74, 75, 76, 77] (by decide +kernel) (by decide +kernel)
set_option maxRecDepth 20000 in
theorem gX7_jammed_X7_reach : GoodIn wsX7_jammed (wsV RX7 99 RX7 yX7_reach wsX7_reach) := goodIn_app (goodIn_of _ (by decide +kernel)) ggX7_jammed_X7_reach
set_option maxRecDepth 20000 in
theorem ggX7_jammed_X7_soundsIn : GoodIn wsX7_jammed wsX7_soundsIn := goodIn_r _ [33, 34, 4, 35, 36, 37, 11, 38, 20, 50, 51, 52, 53, 54, 55, 56, 57, 58, 59, 60, 61, 62, 63, 64, 65, 66, 67, 68, 69, 70, 71, 72, 73, 74, 75, 76, 77] (by decide +kernel) (by decide +kernel)
set_option maxRecDepth 20000 in
theorem gX7_jammed_X7_soundsIn : GoodIn wsX7_jammed (wsV RX7 190 RX7 yX7_soundsIn wsX7_soundsIn) := goodIn_app (goodIn_of _ (by decide +kernel)) ggX7_jammed_X7_soundsIn
set_option maxRecDepth 20000 in
theorem ggX7_jammed_X7_spread : GoodIn wsX7_jammed wsX7_spread := goodIn_r _ [42, 43, 44, 45, 11, 46, 20, 29, 47, 48, 49, 50, 51, 52, 53, 54, 55, 56, 57, 58, 59, 60, 61, 62, 63, 64, 65, 66, 67, 68, 69, 70, 71, 72, 73, 74, 75, 76, 77] (by decide +kernel) (by decide +kernel)
set_option maxRecDepth 20000 in
theorem gX7_jammed_X7_spread : GoodIn wsX7_jammed (wsV RX7 115 RX7 yX7_spread wsX7_spread) := goodIn_app (goodIn_of _ (by decide +kernel)) ggX7_jammed_X7_spread
theorem dX7_jammed_0 : decode cX7_jammed 0 = .ok (.aload_n 0, 1) := by decide +kernel
theorem dX7_jammed_1 : decode cX7_jammed 1 = .ok (.iconst 0, 1) := by decide +kernel
theorem dX7_jammed_2 : decode cX7_jammed 2 = .ok (.putfield 51, 3) := by decide +kernel
theorem dX7_jammed_5 : decode cX7_jammed 5 = .ok (.iload_n 1, 1) := by decide +kernel
theorem dX7_jammed_6 : decode cX7_jammed 6 = .ok (.invokestatic 109, 3) := by decide +kernel
theorem dX7_jammed_9 : decode cX7_jammed 9 = .ok (.ifCond .eq 23, 3) := by decide +kernel
theorem dX7_jammed_12 : decode cX7_jammed 12 = .ok (.aload_n 0, 1) := by decide +kernel
theorem dX7_jammed_13 : decode cX7_jammed 13 = .ok (.iload_n 2, 1) := by decide +kernel
theorem dX7_jammed_14 : decode cX7_jammed 14 = .ok (.invokevirtual 80, 3) := by decide +kernel
theorem dX7_jammed_17 : decode cX7_jammed 17 = .ok (.ifCond .eq 15, 3) := by decide +kernel
theorem dX7_jammed_20 : decode cX7_jammed 20 = .ok (.iload_n 3, 1) := by decide +kernel
theorem dX7_jammed_21 : decode cX7_jammed 21 = .ok (.i2l, 1) := by decide +kernel
theorem dX7_jammed_22 : decode cX7_jammed 22 = .ok (.lconst 0, 1) := by decide +kernel
theorem dX7_jammed_23 : decode cX7_jammed 23 = .ok (.ldc2_w 200, 3) := by decide +kernel
theorem dX7_jammed_26 : decode cX7_jammed 26 = .ok (.invokestatic 61, 3) := by decide +kernel
theorem dX7_jammed_29 : decode cX7_jammed 29 = .ok (.ifCond .ne 6, 3) := by decide +kernel
theorem dX7_jammed_32 : decode cX7_jammed 32 = .ok (.ldc 71, 2) := by decide +kernel
theorem dX7_jammed_34 : decode cX7_jammed 34 = .ok (.ireturn, 1) := by decide +kernel
theorem dX7_jammed_35 : decode cX7_jammed 35 = .ok (.aload_n 0, 1) := by decide +kernel
theorem dX7_jammed_36 : decode cX7_jammed 36 = .ok (.getfield 187, 3) := by decide +kernel
theorem dX7_jammed_39 : decode cX7_jammed 39 = .ok (.ifCond .ne 6, 3) := by decide +kernel
theorem dX7_jammed_42 : decode cX7_jammed 42 = .ok (.ldc 195, 2) := by decide +kernel
theorem dX7_jammed_44 : decode cX7_jammed 44 = .ok (.ireturn, 1) := by decide +kernel
theorem dX7_jammed_45 : decode cX7_jammed 45 = .ok (.aload_n 0, 1) := by decide +kernel
theorem dX7_jammed_46 : decode cX7_jammed 46 = .ok (.iconst 1, 1) := by decide +kernel
theorem dX7_jammed_47 : decode cX7_jammed 47 = .ok (.iload_n 2, 1) := by decide +kernel
theorem dX7_jammed_48 : decode cX7_jammed 48 = .ok (.ishl, 1) := by decide +kernel
theorem dX7_jammed_49 : decode cX7_jammed 49 = .ok (.invokevirtual 99, 3) := by decide +kernel
theorem dX7_jammed_52 : decode cX7_jammed 52 = .ok (.istore 4, 2) := by decide +kernel
theorem dX7_jammed_54 : decode cX7_jammed 54 = .ok (.iconst 0, 1) := by decide +kernel
theorem dX7_jammed_55 : decode cX7_jammed 55 = .ok (.istore 5, 2) := by decide +kernel
theorem dX7_jammed_57 : decode cX7_jammed 57 = .ok (.iload 5, 2) := by decide +kernel
theorem dX7_jammed_59 : decode cX7_jammed 59 = .ok (.sipush 1536, 3) := by decide +kernel
theorem dX7_jammed_62 : decode cX7_jammed 62 = .ok (.if_icmp .ge 29, 3) := by decide +kernel
theorem dX7_jammed_65 : decode cX7_jammed 65 = .ok (.aload_n 0, 1) := by decide +kernel
theorem dX7_jammed_66 : decode cX7_jammed 66 = .ok (.getfield 34, 3) := by decide +kernel
theorem dX7_jammed_69 : decode cX7_jammed 69 = .ok (.iload 5, 2) := by decide +kernel
theorem dX7_jammed_71 : decode cX7_jammed 71 = .ok (.iload 5, 2) := by decide +kernel
theorem dX7_jammed_73 : decode cX7_jammed 73 = .ok (.iconst 1, 1) := by decide +kernel
theorem dX7_jammed_74 : decode cX7_jammed 74 = .ok (.iload_n 2, 1) := by decide +kernel
theorem dX7_jammed_75 : decode cX7_jammed 75 = .ok (.ishl, 1) := by decide +kernel
theorem dX7_jammed_76 : decode cX7_jammed 76 = .ok (.if_icmp .ne 7, 3) := by decide +kernel
theorem dX7_jammed_79 : decode cX7_jammed 79 = .ok (.iconst 1, 1) := by decide +kernel
theorem dX7_jammed_80 : decode cX7_jammed 80 = .ok (.goto 4, 3) := by decide +kernel
theorem dX7_jammed_83 : decode cX7_jammed 83 = .ok (.iconst 0, 1) := by decide +kernel
theorem dX7_jammed_84 : decode cX7_jammed 84 = .ok (.bastore, 1) := by decide +kernel
theorem dX7_jammed_85 : decode cX7_jammed 85 = .ok (.iinc 5 1, 3) := by decide +kernel
theorem dX7_jammed_88 : decode cX7_jammed 88 = .ok (.goto (-31), 3) := by decide +kernel
theorem dX7_jammed_91 : decode cX7_jammed 91 = .ok (.iconst 0, 1) := by decide +kernel
theorem dX7_jammed_92 : decode cX7_jammed 92 = .ok (.istore 5, 2) := by decide +kernel
theorem dX7_jammed_94 : decode cX7_jammed 94 = .ok (.iload 5, 2) := by decide +kernel
theorem dX7_jammed_96 : decode cX7_jammed 96 = .ok (.bipush 60, 2) := by decide +kernel
theorem dX7_jammed_98 : decode cX7_jammed 98 = .ok (.if_icmp .gt 192, 3) := by decide +kernel
theorem dX7_jammed_101 : decode cX7_jammed 101 = .ok (.iconst 1, 1) := by decide +kernel
theorem dX7_jammed_102 : decode cX7_jammed 102 = .ok (.istore 6, 2) := by decide +kernel
theorem dX7_jammed_104 : decode cX7_jammed 104 = .ok (.iconst 0, 1) := by decide +kernel
theorem dX7_jammed_105 : decode cX7_jammed 105 = .ok (.istore 7, 2) := by decide +kernel
theorem dX7_jammed_107 : decode cX7_jammed 107 = .ok (.iload 7, 2) := by decide +kernel
theorem dX7_jammed_109 : decode cX7_jammed 109 = .ok (.sipush 1536, 3) := by decide +kernel
theorem dX7_jammed_112 : decode cX7_jammed 112 = .ok (.if_icmp .ge 50, 3) := by decide +kernel
theorem dX7_jammed_115 : decode cX7_jammed 115 = .ok (.iload 6, 2) := by decide +kernel
theorem dX7_jammed_117 : decode cX7_jammed 117 = .ok (.ifCond .eq 28, 3) := by decide +kernel
theorem dX7_jammed_120 : decode cX7_jammed 120 = .ok (.aload_n 0, 1) := by decide +kernel
theorem dX7_jammed_121 : decode cX7_jammed 121 = .ok (.getfield 34, 3) := by decide +kernel
theorem dX7_jammed_124 : decode cX7_jammed 124 = .ok (.iload 7, 2) := by decide +kernel
theorem dX7_jammed_126 : decode cX7_jammed 126 = .ok (.baload, 1) := by decide +kernel
theorem dX7_jammed_127 : decode cX7_jammed 127 = .ok (.ifCond .eq 14, 3) := by decide +kernel
theorem dX7_jammed_130 : decode cX7_jammed 130 = .ok (.iload 7, 2) := by decide +kernel
theorem dX7_jammed_132 : decode cX7_jammed 132 = .ok (.sipush 256, 3) := by decide +kernel
theorem dX7_jammed_135 : decode cX7_jammed 135 = .ok (.irem, 1) := by decide +kernel
theorem dX7_jammed_136 : decode cX7_jammed 136 = .ok (.iload 4, 2) := by decide +kernel
theorem dX7_jammed_138 : decode cX7_jammed 138 = .ok (.if_icmp .ne 7, 3) := by decide +kernel
theorem dX7_jammed_141 : decode cX7_jammed 141 = .ok (.iconst 1, 1) := by decide +kernel
theorem dX7_jammed_142 : decode cX7_jammed 142 = .ok (.goto 4, 3) := by decide +kernel
theorem dX7_jammed_145 : decode cX7_jammed 145 = .ok (.iconst 0, 1) := by decide +kernel
theorem dX7_jammed_146 : decode cX7_jammed 146 = .ok (.istore 6, 2) := by decide +kernel
theorem dX7_jammed_148 : decode cX7_jammed 148 = .ok (.aload_n 0, 1) := by decide +kernel
theorem dX7_jammed_149 : decode cX7_jammed 149 = .ok (.getfield 38, 3) := by decide +kernel
theorem dX7_jammed_152 : decode cX7_jammed 152 = .ok (.iload 7, 2) := by decide +kernel
theorem dX7_jammed_154 : decode cX7_jammed 154 = .ok (.iconst 0, 1) := by decide +kernel
theorem dX7_jammed_155 : decode cX7_jammed 155 = .ok (.bastore, 1) := by decide +kernel
theorem dX7_jammed_156 : decode cX7_jammed 156 = .ok (.iinc 7 1, 3) := by decide +kernel
theorem dX7_jammed_159 : decode cX7_jammed 159 = .ok (.goto (-52), 3) := by decide +kernel
theorem dX7_jammed_162 : decode cX7_jammed 162 = .ok (.iload 6, 2) := by decide +kernel
theorem dX7_jammed_164 : decode cX7_jammed 164 = .ok (.ifCond .eq 6, 3) := by decide +kernel
theorem dX7_jammed_167 : decode cX7_jammed 167 = .ok (.iload 5, 2) := by decide +kernel
theorem dX7_jammed_169 : decode cX7_jammed 169 = .ok (.ireturn, 1) := by decide +kernel
theorem dX7_jammed_170 : decode cX7_jammed 170 = .ok (.iconst 0, 1) := by decide +kernel
theorem dX7_jammed_171 : decode cX7_jammed 171 = .ok (.istore 7, 2) := by decide +kernel
theorem dX7_jammed_173 : decode cX7_jammed 173 = .ok (.iload 7, 2) := by decide +kernel
theorem dX7_jammed_175 : decode cX7_jammed 175 = .ok (.sipush 1536, 3) := by decide +kernel
theorem dX7_jammed_178 : decode cX7_jammed 178 = .ok (.if_icmp .ge 75, 3) := by decide +kernel
theorem dX7_jammed_181 : decode cX7_jammed 181 = .ok (.aload_n 0, 1) := by decide +kernel
theorem dX7_jammed_182 : decode cX7_jammed 182 = .ok (.getfield 34, 3) := by decide +kernel
theorem dX7_jammed_185 : decode cX7_jammed 185 = .ok (.iload 7, 2) := by decide +kernel
theorem dX7_jammed_187 : decode cX7_jammed 187 = .ok (.baload, 1) := by decide +kernel
theorem dX7_jammed_188 : decode cX7_jammed 188 = .ok (.ifCond .eq 59, 3) := by decide +kernel
theorem dX7_jammed_191 : decode cX7_jammed 191 = .ok (.aload_n 0, 1) := by decide +kernel
theorem dX7_jammed_192 : decode cX7_jammed 192 = .ok (.getfield 38, 3) := by decide +kernel
theorem dX7_jammed_195 : decode cX7_jammed 195 = .ok (.sipush 256, 3) := by decide +kernel
theorem dX7_jammed_198 : decode cX7_jammed 198 = .ok (.iload 7, 2) := by decide +kernel
theorem dX7_jammed_200 : decode cX7_jammed 200 = .ok (.sipush 256, 3) := by decide +kernel
theorem dX7_jammed_203 : decode cX7_jammed 203 = .ok (.idiv, 1) := by decide +kernel
theorem dX7_jammed_204 : decode cX7_jammed 204 = .ok (.imul, 1) := by decide +kernel
theorem dX7_jammed_205 : decode cX7_jammed 205 = .ok (.aload_n 0, 1) := by decide +kernel
theorem dX7_jammed_206 : decode cX7_jammed 206 = .ok (.iload_n 1, 1) := by decide +kernel
theorem dX7_jammed_207 : decode cX7_jammed 207 = .ok (.iload 7, 2) := by decide +kernel
theorem dX7_jammed_209 : decode cX7_jammed 209 = .ok (.sipush 256, 3) := by decide +kernel
theorem dX7_jammed_212 : decode cX7_jammed 212 = .ok (.irem, 1) := by decide +kernel
theorem dX7_jammed_213 : decode cX7_jammed 213 = .ok (.aload_n 0, 1) := by decide +kernel
theorem dX7_jammed_214 : decode cX7_jammed 214 = .ok (.iload 5, 2) := by decide +kernel
theorem dX7_jammed_216 : decode cX7_jammed 216 = .ok (.invokevirtual 190, 3) := by decide +kernel
theorem dX7_jammed_219 : decode cX7_jammed 219 = .ok (.invokevirtual 115, 3) := by decide +kernel
theorem dX7_jammed_222 : decode cX7_jammed 222 = .ok (.iadd, 1) := by decide +kernel
theorem dX7_jammed_223 : decode cX7_jammed 223 = .ok (.iconst 1, 1) := by decide +kernel
theorem dX7_jammed_224 : decode cX7_jammed 224 = .ok (.bastore, 1) := by decide +kernel
theorem dX7_jammed_225 : decode cX7_jammed 225 = .ok (.iload 7, 2) := by decide +kernel
theorem dX7_jammed_227 : decode cX7_jammed 227 = .ok (.sipush 256, 3) := by decide +kernel
theorem dX7_jammed_230 : decode cX7_jammed 230 = .ok (.idiv, 1) := by decide +kernel
theorem dX7_jammed_231 : decode cX7_jammed 231 = .ok (.iload_n 3, 1) := by decide +kernel
theorem dX7_jammed_232 : decode cX7_jammed 232 = .ok (.if_icmp .ge 15, 3) := by decide +kernel
theorem dX7_jammed_235 : decode cX7_jammed 235 = .ok (.aload_n 0, 1) := by decide +kernel
theorem dX7_jammed_236 : decode cX7_jammed 236 = .ok (.getfield 38, 3) := by decide +kernel
theorem dX7_jammed_239 : decode cX7_jammed 239 = .ok (.iload 7, 2) := by decide +kernel
theorem dX7_jammed_241 : decode cX7_jammed 241 = .ok (.sipush 256, 3) := by decide +kernel
theorem dX7_jammed_244 : decode cX7_jammed 244 = .ok (.iadd, 1) := by decide +kernel
theorem dX7_jammed_245 : decode cX7_jammed 245 = .ok (.iconst 1, 1) := by decide +kernel
theorem dX7_jammed_246 : decode cX7_jammed 246 = .ok (.bastore, 1) := by decide +kernel
theorem dX7_jammed_247 : decode cX7_jammed 247 = .ok (.iinc 7 1, 3) := by decide +kernel
theorem dX7_jammed_250 : decode cX7_jammed 250 = .ok (.goto (-77), 3) := by decide +kernel
theorem dX7_jammed_253 : decode cX7_jammed 253 = .ok (.iconst 0, 1) := by decide +kernel
theorem dX7_jammed_254 : decode cX7_jammed 254 = .ok (.istore 7, 2) := by decide +kernel
theorem dX7_jammed_256 : decode cX7_jammed 256 = .ok (.iload 7, 2) := by decide +kernel
theorem dX7_jammed_258 : decode cX7_jammed 258 = .ok (.sipush 1536, 3) := by decide +kernel
theorem dX7_jammed_261 : decode cX7_jammed 261 = .ok (.if_icmp .ge 23, 3) := by decide +kernel
theorem dX7_jammed_264 : decode cX7_jammed 264 = .ok (.aload_n 0, 1) := by decide +kernel
theorem dX7_jammed_265 : decode cX7_jammed 265 = .ok (.getfield 34, 3) := by decide +kernel
theorem dX7_jammed_268 : decode cX7_jammed 268 = .ok (.iload 7, 2) := by decide +kernel
theorem dX7_jammed_270 : decode cX7_jammed 270 = .ok (.aload_n 0, 1) := by decide +kernel
theorem dX7_jammed_271 : decode cX7_jammed 271 = .ok (.getfield 38, 3) := by decide +kernel
theorem dX7_jammed_274 : decode cX7_jammed 274 = .ok (.iload 7, 2) := by decide +kernel
theorem dX7_jammed_276 : decode cX7_jammed 276 = .ok (.baload, 1) := by decide +kernel
theorem dX7_jammed_277 : decode cX7_jammed 277 = .ok (.bastore, 1) := by decide +kernel
theorem dX7_jammed_278 : decode cX7_jammed 278 = .ok (.iinc 7 1, 3) := by decide +kernel
theorem dX7_jammed_281 : decode cX7_jammed 281 = .ok (.goto (-25), 3) := by decide +kernel
theorem dX7_jammed_284 : decode cX7_jammed 284 = .ok (.iinc 5 1, 3) := by decide +kernel
theorem dX7_jammed_287 : decode cX7_jammed 287 = .ok (.goto (-193), 3) := by decide +kernel
theorem dX7_jammed_290 : decode cX7_jammed 290 = .ok (.ldc 86, 2) := by decide +kernel
theorem dX7_jammed_292 : decode cX7_jammed 292 = .ok (.ireturn, 1) := by decide +kernel
set_option maxRecDepth 20000 in
theorem ggX7_draws_X7_isHearing : GoodIn wsX7_draws wsX7_isHearing := goodIn_r _ [9, 10, 11, 8, 12] (by decide +kernel) (by decide +kernel)
set_option maxRecDepth 20000 in
theorem gX7_draws_X7_isHearing : GoodIn wsX7_draws (va_wsS RX7 109 yX7_isHearing wsX7_isHearing) := goodIn_app (goodIn_of _ (by decide +kernel)) ggX7_draws_X7_isHearing
set_option maxRecDepth 20000 in
theorem ggX7_draws_X7_isPost : GoodIn wsX7_draws wsX7_isPost := goodIn_r _ [16, 17, 10, 11, 8, 12, 42, 43, 44, 45, 46, 47, 48, 49, 50, 51, 52, 53, 54, 55, 56, 57, 58, 59, 60, 61, 62, 63, 64, 65, 66, 67, 68, 69] (by decide +kernel) (by decide +kernel)
set_option maxRecDepth 20000 in
theorem gX7_draws_X7_isPost : GoodIn wsX7_draws (wsV RX7 80 RX7 yX7_isPost wsX7_isPost) := goodIn_app (goodIn_of _ (by decide +kernel)) ggX7_draws_X7_isPost
set_option maxRecDepth 20000 in
theorem ggX7_draws_X7_in : GoodIn wsX7_draws wsX7_in := goodIn_r _ [12] (by decide +kernel) (by decide +kernel)
set_option maxRecDepth 20000 in
theorem gX7_draws_X7_in : GoodIn wsX7_draws (va_wsS RX7 61 yX7_in wsX7_in) := goodIn_app (goodIn_of _ (by decide +kernel)) ggX7_draws_X7_in
set_option maxRecDepth 20000 in
theorem ggX7_draws_X7_all : GoodIn wsX7_draws wsX7_all := goodIn_r _ [21, 17, 42, 43, 44, 45, 46, 47, 48, 49, 50, 51, 52, 53, 54, 55, 56, 57, 58, 59, 60, 61, 62, 63, 64, 65, 66, 67, 68, 69] (by decide +kernel) (by decide +kernel)
set_option maxRecDepth 20000 in
theorem gX7_draws_X7_all : GoodIn wsX7_draws (wsV RX7 102 RX7 yX7_all wsX7_all) := goodIn_app (goodIn_of _ (by decide +kernel)) ggX7_draws_X7_all
set_option maxRecDepth 20000 in
theorem ggX7_draws_X7_spread : GoodIn wsX7_draws wsX7_spread := goodIn_r _ [25, 26, 27, 28, 8, 29, 17, 30, 31, 32, 33, 42, 43, 44, 45, 46, 47, 48, 49, 50, 51, 52, 53, 54, 55, 56, 57, 58, 59, 60, 61, 62, 63, 64, 65, 66, 67, 68, 69] (by decide +kernel) (by decide +kernel)
set_option maxRecDepth 20000 in
theorem gX7_draws_X7_spread : GoodIn wsX7_draws (wsV RX7 115 RX7 yX7_spread wsX7_spread) := goodIn_app (goodIn_of _ (by decide +kernel)) ggX7_draws_X7_spread
set_option maxRecDepth 20000 in
theorem ggX7_draws_X7_reach : GoodIn wsX7_draws wsX7_reach := goodIn_r _ [37, 38, 39, 40, 8, 41, 17, 30, 42, 43, 44, 45, 46, 47, 48, 49, 50, 51, 52, 53, 54, 55, 56, 57, 58, 59, 60, 61, 62, 63, 64, 65, 66, 67, 68, 69] (by decide +kernel) (by decide +kernel)
set_option maxRecDepth 20000 in
theorem gX7_draws_X7_reach : GoodIn wsX7_draws (wsV RX7 99 RX7 yX7_reach wsX7_reach) := goodIn_app (goodIn_of _ (by decide +kernel)) ggX7_draws_X7_reach
theorem dX7_draws_0 : decode cX7_draws 0 = .ok (.aload_n 0, 1) := by decide +kernel
theorem dX7_draws_1 : decode cX7_draws 1 = .ok (.iconst 0, 1) := by decide +kernel
theorem dX7_draws_2 : decode cX7_draws 2 = .ok (.putfield 51, 3) := by decide +kernel
theorem dX7_draws_5 : decode cX7_draws 5 = .ok (.iload_n 1, 1) := by decide +kernel
theorem dX7_draws_6 : decode cX7_draws 6 = .ok (.invokestatic 109, 3) := by decide +kernel
theorem dX7_draws_9 : decode cX7_draws 9 = .ok (.ifCond .eq 23, 3) := by decide +kernel
theorem dX7_draws_12 : decode cX7_draws 12 = .ok (.aload_n 0, 1) := by decide +kernel
theorem dX7_draws_13 : decode cX7_draws 13 = .ok (.iload_n 2, 1) := by decide +kernel
theorem dX7_draws_14 : decode cX7_draws 14 = .ok (.invokevirtual 80, 3) := by decide +kernel
theorem dX7_draws_17 : decode cX7_draws 17 = .ok (.ifCond .eq 15, 3) := by decide +kernel
theorem dX7_draws_20 : decode cX7_draws 20 = .ok (.iload_n 3, 1) := by decide +kernel
theorem dX7_draws_21 : decode cX7_draws 21 = .ok (.i2l, 1) := by decide +kernel
theorem dX7_draws_22 : decode cX7_draws 22 = .ok (.lconst 0, 1) := by decide +kernel
theorem dX7_draws_23 : decode cX7_draws 23 = .ok (.ldc2_w 59, 3) := by decide +kernel
theorem dX7_draws_26 : decode cX7_draws 26 = .ok (.invokestatic 61, 3) := by decide +kernel
theorem dX7_draws_29 : decode cX7_draws 29 = .ok (.ifCond .ne 7, 3) := by decide +kernel
theorem dX7_draws_32 : decode cX7_draws 32 = .ok (.ldc2_w 202, 3) := by decide +kernel
theorem dX7_draws_35 : decode cX7_draws 35 = .ok (.lreturn, 1) := by decide +kernel
theorem dX7_draws_36 : decode cX7_draws 36 = .ok (.iconst 0, 1) := by decide +kernel
theorem dX7_draws_37 : decode cX7_draws 37 = .ok (.istore 4, 2) := by decide +kernel
theorem dX7_draws_39 : decode cX7_draws 39 = .ok (.iload 4, 2) := by decide +kernel
theorem dX7_draws_41 : decode cX7_draws 41 = .ok (.sipush 256, 3) := by decide +kernel
theorem dX7_draws_44 : decode cX7_draws 44 = .ok (.if_icmp .ge 29, 3) := by decide +kernel
theorem dX7_draws_47 : decode cX7_draws 47 = .ok (.aload_n 0, 1) := by decide +kernel
theorem dX7_draws_48 : decode cX7_draws 48 = .ok (.getfield 41, 3) := by decide +kernel
theorem dX7_draws_51 : decode cX7_draws 51 = .ok (.iload 4, 2) := by decide +kernel
theorem dX7_draws_53 : decode cX7_draws 53 = .ok (.iload 4, 2) := by decide +kernel
theorem dX7_draws_55 : decode cX7_draws 55 = .ok (.iconst 1, 1) := by decide +kernel
theorem dX7_draws_56 : decode cX7_draws 56 = .ok (.iload_n 2, 1) := by decide +kernel
theorem dX7_draws_57 : decode cX7_draws 57 = .ok (.ishl, 1) := by decide +kernel
theorem dX7_draws_58 : decode cX7_draws 58 = .ok (.if_icmp .ne 7, 3) := by decide +kernel
theorem dX7_draws_61 : decode cX7_draws 61 = .ok (.lconst 1, 1) := by decide +kernel
theorem dX7_draws_62 : decode cX7_draws 62 = .ok (.goto 4, 3) := by decide +kernel
theorem dX7_draws_65 : decode cX7_draws 65 = .ok (.lconst 0, 1) := by decide +kernel
theorem dX7_draws_66 : decode cX7_draws 66 = .ok (.lastore, 1) := by decide +kernel
theorem dX7_draws_67 : decode cX7_draws 67 = .ok (.iinc 4 1, 3) := by decide +kernel
theorem dX7_draws_70 : decode cX7_draws 70 = .ok (.goto (-31), 3) := by decide +kernel
theorem dX7_draws_73 : decode cX7_draws 73 = .ok (.iconst 0, 1) := by decide +kernel
theorem dX7_draws_74 : decode cX7_draws 74 = .ok (.istore 4, 2) := by decide +kernel
theorem dX7_draws_76 : decode cX7_draws 76 = .ok (.iload 4, 2) := by decide +kernel
theorem dX7_draws_78 : decode cX7_draws 78 = .ok (.iload_n 3, 1) := by decide +kernel
theorem dX7_draws_79 : decode cX7_draws 79 = .ok (.if_icmp .ge 137, 3) := by decide +kernel
theorem dX7_draws_82 : decode cX7_draws 82 = .ok (.iconst 0, 1) := by decide +kernel
theorem dX7_draws_83 : decode cX7_draws 83 = .ok (.istore 5, 2) := by decide +kernel
theorem dX7_draws_85 : decode cX7_draws 85 = .ok (.iload 5, 2) := by decide +kernel
theorem dX7_draws_87 : decode cX7_draws 87 = .ok (.sipush 256, 3) := by decide +kernel
theorem dX7_draws_90 : decode cX7_draws 90 = .ok (.if_icmp .ge 17, 3) := by decide +kernel
theorem dX7_draws_93 : decode cX7_draws 93 = .ok (.aload_n 0, 1) := by decide +kernel
theorem dX7_draws_94 : decode cX7_draws 94 = .ok (.getfield 45, 3) := by decide +kernel
theorem dX7_draws_97 : decode cX7_draws 97 = .ok (.iload 5, 2) := by decide +kernel
theorem dX7_draws_99 : decode cX7_draws 99 = .ok (.lconst 0, 1) := by decide +kernel
theorem dX7_draws_100 : decode cX7_draws 100 = .ok (.lastore, 1) := by decide +kernel
theorem dX7_draws_101 : decode cX7_draws 101 = .ok (.iinc 5 1, 3) := by decide +kernel
theorem dX7_draws_104 : decode cX7_draws 104 = .ok (.goto (-19), 3) := by decide +kernel
theorem dX7_draws_107 : decode cX7_draws 107 = .ok (.iconst 0, 1) := by decide +kernel
theorem dX7_draws_108 : decode cX7_draws 108 = .ok (.istore 5, 2) := by decide +kernel
theorem dX7_draws_110 : decode cX7_draws 110 = .ok (.iload 5, 2) := by decide +kernel
theorem dX7_draws_112 : decode cX7_draws 112 = .ok (.aload_n 0, 1) := by decide +kernel
theorem dX7_draws_113 : decode cX7_draws 113 = .ok (.invokevirtual 102, 3) := by decide +kernel
theorem dX7_draws_116 : decode cX7_draws 116 = .ok (.if_icmp .gt 63, 3) := by decide +kernel
theorem dX7_draws_119 : decode cX7_draws 119 = .ok (.iconst 0, 1) := by decide +kernel
theorem dX7_draws_120 : decode cX7_draws 120 = .ok (.istore 6, 2) := by decide +kernel
theorem dX7_draws_122 : decode cX7_draws 122 = .ok (.iload 6, 2) := by decide +kernel
theorem dX7_draws_124 : decode cX7_draws 124 = .ok (.aload_n 0, 1) := by decide +kernel
theorem dX7_draws_125 : decode cX7_draws 125 = .ok (.invokevirtual 102, 3) := by decide +kernel
theorem dX7_draws_128 : decode cX7_draws 128 = .ok (.if_icmp .gt 45, 3) := by decide +kernel
theorem dX7_draws_131 : decode cX7_draws 131 = .ok (.aload_n 0, 1) := by decide +kernel
theorem dX7_draws_132 : decode cX7_draws 132 = .ok (.getfield 41, 3) := by decide +kernel
theorem dX7_draws_135 : decode cX7_draws 135 = .ok (.iload 5, 2) := by decide +kernel
theorem dX7_draws_137 : decode cX7_draws 137 = .ok (.laload, 1) := by decide +kernel
theorem dX7_draws_138 : decode cX7_draws 138 = .ok (.lconst 0, 1) := by decide +kernel
theorem dX7_draws_139 : decode cX7_draws 139 = .ok (.lcmp, 1) := by decide +kernel
theorem dX7_draws_140 : decode cX7_draws 140 = .ok (.ifCond .le 33, 3) := by decide +kernel
theorem dX7_draws_143 : decode cX7_draws 143 = .ok (.aload_n 0, 1) := by decide +kernel
theorem dX7_draws_144 : decode cX7_draws 144 = .ok (.getfield 45, 3) := by decide +kernel
theorem dX7_draws_147 : decode cX7_draws 147 = .ok (.aload_n 0, 1) := by decide +kernel
theorem dX7_draws_148 : decode cX7_draws 148 = .ok (.iload_n 1, 1) := by decide +kernel
theorem dX7_draws_149 : decode cX7_draws 149 = .ok (.iload 5, 2) := by decide +kernel
theorem dX7_draws_151 : decode cX7_draws 151 = .ok (.iload 6, 2) := by decide +kernel
theorem dX7_draws_153 : decode cX7_draws 153 = .ok (.invokevirtual 115, 3) := by decide +kernel
theorem dX7_draws_156 : decode cX7_draws 156 = .ok (.dup2, 1) := by decide +kernel
theorem dX7_draws_157 : decode cX7_draws 157 = .ok (.laload, 1) := by decide +kernel
theorem dX7_draws_158 : decode cX7_draws 158 = .ok (.aload_n 0, 1) := by decide +kernel
theorem dX7_draws_159 : decode cX7_draws 159 = .ok (.getfield 41, 3) := by decide +kernel
theorem dX7_draws_162 : decode cX7_draws 162 = .ok (.iload 5, 2) := by decide +kernel
theorem dX7_draws_164 : decode cX7_draws 164 = .ok (.laload, 1) := by decide +kernel
theorem dX7_draws_165 : decode cX7_draws 165 = .ok (.ladd, 1) := by decide +kernel
theorem dX7_draws_166 : decode cX7_draws 166 = .ok (.lastore, 1) := by decide +kernel
theorem dX7_draws_167 : decode cX7_draws 167 = .ok (.iinc 6 1, 3) := by decide +kernel
theorem dX7_draws_170 : decode cX7_draws 170 = .ok (.goto (-48), 3) := by decide +kernel
theorem dX7_draws_173 : decode cX7_draws 173 = .ok (.iinc 5 1, 3) := by decide +kernel
theorem dX7_draws_176 : decode cX7_draws 176 = .ok (.goto (-66), 3) := by decide +kernel
theorem dX7_draws_179 : decode cX7_draws 179 = .ok (.iconst 0, 1) := by decide +kernel
theorem dX7_draws_180 : decode cX7_draws 180 = .ok (.istore 5, 2) := by decide +kernel
theorem dX7_draws_182 : decode cX7_draws 182 = .ok (.iload 5, 2) := by decide +kernel
theorem dX7_draws_184 : decode cX7_draws 184 = .ok (.sipush 256, 3) := by decide +kernel
theorem dX7_draws_187 : decode cX7_draws 187 = .ok (.if_icmp .ge 23, 3) := by decide +kernel
theorem dX7_draws_190 : decode cX7_draws 190 = .ok (.aload_n 0, 1) := by decide +kernel
theorem dX7_draws_191 : decode cX7_draws 191 = .ok (.getfield 41, 3) := by decide +kernel
theorem dX7_draws_194 : decode cX7_draws 194 = .ok (.iload 5, 2) := by decide +kernel
theorem dX7_draws_196 : decode cX7_draws 196 = .ok (.aload_n 0, 1) := by decide +kernel
theorem dX7_draws_197 : decode cX7_draws 197 = .ok (.getfield 45, 3) := by decide +kernel
theorem dX7_draws_200 : decode cX7_draws 200 = .ok (.iload 5, 2) := by decide +kernel
theorem dX7_draws_202 : decode cX7_draws 202 = .ok (.laload, 1) := by decide +kernel
theorem dX7_draws_203 : decode cX7_draws 203 = .ok (.lastore, 1) := by decide +kernel
theorem dX7_draws_204 : decode cX7_draws 204 = .ok (.iinc 5 1, 3) := by decide +kernel
theorem dX7_draws_207 : decode cX7_draws 207 = .ok (.goto (-25), 3) := by decide +kernel
theorem dX7_draws_210 : decode cX7_draws 210 = .ok (.iinc 4 1, 3) := by decide +kernel
theorem dX7_draws_213 : decode cX7_draws 213 = .ok (.goto (-137), 3) := by decide +kernel
theorem dX7_draws_216 : decode cX7_draws 216 = .ok (.aload_n 0, 1) := by decide +kernel
theorem dX7_draws_217 : decode cX7_draws 217 = .ok (.getfield 41, 3) := by decide +kernel
theorem dX7_draws_220 : decode cX7_draws 220 = .ok (.aload_n 0, 1) := by decide +kernel
theorem dX7_draws_221 : decode cX7_draws 221 = .ok (.iconst 1, 1) := by decide +kernel
theorem dX7_draws_222 : decode cX7_draws 222 = .ok (.iload_n 2, 1) := by decide +kernel
theorem dX7_draws_223 : decode cX7_draws 223 = .ok (.ishl, 1) := by decide +kernel
theorem dX7_draws_224 : decode cX7_draws 224 = .ok (.invokevirtual 99, 3) := by decide +kernel
theorem dX7_draws_227 : decode cX7_draws 227 = .ok (.laload, 1) := by decide +kernel
theorem dX7_draws_228 : decode cX7_draws 228 = .ok (.lreturn, 1) := by decide +kernel
set_option maxRecDepth 20000 in
theorem ggX7_picks_X7_isSheet : GoodIn wsX7_picks wsX7_isSheet := goodIn_r _ [13, 14, 15, 16, 12, 17] (by decide +kernel) (by decide +kernel)
set_option maxRecDepth 20000 in
theorem gX7_picks_X7_isSheet : GoodIn wsX7_picks (va_wsS RX7 65 yX7_isSheet wsX7_isSheet) := goodIn_app (goodIn_of _ (by decide +kernel)) ggX7_picks_X7_isSheet
set_option maxRecDepth 20000 in
theorem ggX7_picks_X7_in : GoodIn wsX7_picks wsX7_in := goodIn_r _ [17] (by decide +kernel) (by decide +kernel)
set_option maxRecDepth 20000 in
theorem gX7_picks_X7_in : GoodIn wsX7_picks (va_wsS RX7 61 yX7_in wsX7_in) := goodIn_app (goodIn_of _ (by decide +kernel)) ggX7_picks_X7_in
set_option maxRecDepth 20000 in
theorem ggX7_picks_X7_found : GoodIn wsX7_picks wsX7_found := goodIn_r _ [21, 5, 22, 31, 32, 33, 34, 35, 36, 37, 38, 39, 40, 41, 42, 43, 44, 45, 46, 47, 48, 49, 50, 51, 52, 53, 54, 55, 56, 57, 58] (by decide +kernel) (by decide +kernel)
set_option maxRecDepth 20000 in
theorem gX7_picks_X7_found : GoodIn wsX7_picks (wsV RX7 72 RX7 yX7_found wsX7_found) := goodIn_app (goodIn_of _ (by decide +kernel)) ggX7_picks_X7_found
set_option maxRecDepth 20000 in
theorem ggX7_picks_X7_all : GoodIn wsX7_picks wsX7_all := goodIn_r _ [26, 27, 31, 32, 33, 34, 35, 36, 37, 38, 39, 40, 41, 42, 43, 44, 45, 46, 47, 48, 49, 50, 51, 52, 53, 54, 55, 56, 57, 58] (by decide +kernel) (by decide +kernel)
set_option maxRecDepth 20000 in
theorem gX7_picks_X7_all : GoodIn wsX7_picks (wsV RX7 102 RX7 yX7_all wsX7_all) := goodIn_app (goodIn_of _ (by decide +kernel)) ggX7_picks_X7_all
set_option maxRecDepth 20000 in
theorem ggX7_picks_X7_size : GoodIn wsX7_picks wsX7_size := goodIn_r _ [30] (by decide +kernel) (by decide +kernel)
set_option maxRecDepth 20000 in
theorem gX7_picks_X7_size : GoodIn wsX7_picks (va_wsS RX7 93 yX7_size wsX7_size) := goodIn_app (goodIn_of _ (by decide +kernel)) ggX7_picks_X7_size
theorem dX7_picks_0 : decode cX7_picks 0 = .ok (.aload_n 0, 1) := by decide +kernel
theorem dX7_picks_1 : decode cX7_picks 1 = .ok (.iconst 0, 1) := by decide +kernel
theorem dX7_picks_2 : decode cX7_picks 2 = .ok (.putfield 51, 3) := by decide +kernel
theorem dX7_picks_5 : decode cX7_picks 5 = .ok (.iload_n 1, 1) := by decide +kernel
theorem dX7_picks_6 : decode cX7_picks 6 = .ok (.invokestatic 65, 3) := by decide +kernel
theorem dX7_picks_9 : decode cX7_picks 9 = .ok (.ifCond .eq 39, 3) := by decide +kernel
theorem dX7_picks_12 : decode cX7_picks 12 = .ok (.iload_n 3, 1) := by decide +kernel
theorem dX7_picks_13 : decode cX7_picks 13 = .ok (.i2l, 1) := by decide +kernel
theorem dX7_picks_14 : decode cX7_picks 14 = .ok (.lconst 1, 1) := by decide +kernel
theorem dX7_picks_15 : decode cX7_picks 15 = .ok (.ldc2_w 204, 3) := by decide +kernel
theorem dX7_picks_18 : decode cX7_picks 18 = .ok (.invokestatic 61, 3) := by decide +kernel
theorem dX7_picks_21 : decode cX7_picks 21 = .ok (.ifCond .eq 27, 3) := by decide +kernel
theorem dX7_picks_24 : decode cX7_picks 24 = .ok (.iload 4, 2) := by decide +kernel
theorem dX7_picks_26 : decode cX7_picks 26 = .ok (.i2l, 1) := by decide +kernel
theorem dX7_picks_27 : decode cX7_picks 27 = .ok (.lconst 1, 1) := by decide +kernel
theorem dX7_picks_28 : decode cX7_picks 28 = .ok (.ldc2_w 206, 3) := by decide +kernel
theorem dX7_picks_31 : decode cX7_picks 31 = .ok (.invokestatic 61, 3) := by decide +kernel
theorem dX7_picks_34 : decode cX7_picks 34 = .ok (.ifCond .eq 14, 3) := by decide +kernel
theorem dX7_picks_37 : decode cX7_picks 37 = .ok (.iload 5, 2) := by decide +kernel
theorem dX7_picks_39 : decode cX7_picks 39 = .ok (.i2l, 1) := by decide +kernel
theorem dX7_picks_40 : decode cX7_picks 40 = .ok (.lconst 0, 1) := by decide +kernel
theorem dX7_picks_41 : decode cX7_picks 41 = .ok (.lconst 1, 1) := by decide +kernel
theorem dX7_picks_42 : decode cX7_picks 42 = .ok (.invokestatic 61, 3) := by decide +kernel
theorem dX7_picks_45 : decode cX7_picks 45 = .ok (.ifCond .ne 6, 3) := by decide +kernel
theorem dX7_picks_48 : decode cX7_picks 48 = .ok (.ldc 71, 2) := by decide +kernel
theorem dX7_picks_50 : decode cX7_picks 50 = .ok (.ireturn, 1) := by decide +kernel
theorem dX7_picks_51 : decode cX7_picks 51 = .ok (.aload_n 0, 1) := by decide +kernel
theorem dX7_picks_52 : decode cX7_picks 52 = .ok (.iconst 0, 1) := by decide +kernel
theorem dX7_picks_53 : decode cX7_picks 53 = .ok (.putfield 55, 3) := by decide +kernel
theorem dX7_picks_56 : decode cX7_picks 56 = .ok (.aload_n 0, 1) := by decide +kernel
theorem dX7_picks_57 : decode cX7_picks 57 = .ok (.getfield 7, 3) := by decide +kernel
theorem dX7_picks_60 : decode cX7_picks 60 = .ok (.iload_n 1, 1) := by decide +kernel
theorem dX7_picks_61 : decode cX7_picks 61 = .ok (.iaload, 1) := by decide +kernel
theorem dX7_picks_62 : decode cX7_picks 62 = .ok (.ifCond .ge 9, 3) := by decide +kernel
theorem dX7_picks_65 : decode cX7_picks 65 = .ok (.aload_n 0, 1) := by decide +kernel
theorem dX7_picks_66 : decode cX7_picks 66 = .ok (.iconst 1, 1) := by decide +kernel
theorem dX7_picks_67 : decode cX7_picks 67 = .ok (.invokevirtual 72, 3) := by decide +kernel
theorem dX7_picks_70 : decode cX7_picks 70 = .ok (.ireturn, 1) := by decide +kernel
theorem dX7_picks_71 : decode cX7_picks 71 = .ok (.iload_n 2, 1) := by decide +kernel
theorem dX7_picks_72 : decode cX7_picks 72 = .ok (.ifCond .lt 19, 3) := by decide +kernel
theorem dX7_picks_75 : decode cX7_picks 75 = .ok (.iload_n 2, 1) := by decide +kernel
theorem dX7_picks_76 : decode cX7_picks 76 = .ok (.i2l, 1) := by decide +kernel
theorem dX7_picks_77 : decode cX7_picks 77 = .ok (.iload_n 3, 1) := by decide +kernel
theorem dX7_picks_78 : decode cX7_picks 78 = .ok (.i2l, 1) := by decide +kernel
theorem dX7_picks_79 : decode cX7_picks 79 = .ok (.ladd, 1) := by decide +kernel
theorem dX7_picks_80 : decode cX7_picks 80 = .ok (.aload_n 0, 1) := by decide +kernel
theorem dX7_picks_81 : decode cX7_picks 81 = .ok (.getfield 13, 3) := by decide +kernel
theorem dX7_picks_84 : decode cX7_picks 84 = .ok (.iload_n 1, 1) := by decide +kernel
theorem dX7_picks_85 : decode cX7_picks 85 = .ok (.iaload, 1) := by decide +kernel
theorem dX7_picks_86 : decode cX7_picks 86 = .ok (.i2l, 1) := by decide +kernel
theorem dX7_picks_87 : decode cX7_picks 87 = .ok (.lcmp, 1) := by decide +kernel
theorem dX7_picks_88 : decode cX7_picks 88 = .ok (.ifCond .le 9, 3) := by decide +kernel
theorem dX7_picks_91 : decode cX7_picks 91 = .ok (.aload_n 0, 1) := by decide +kernel
theorem dX7_picks_92 : decode cX7_picks 92 = .ok (.iconst 2, 1) := by decide +kernel
theorem dX7_picks_93 : decode cX7_picks 93 = .ok (.invokevirtual 72, 3) := by decide +kernel
theorem dX7_picks_96 : decode cX7_picks 96 = .ok (.ireturn, 1) := by decide +kernel
theorem dX7_picks_97 : decode cX7_picks 97 = .ok (.iconst 1, 1) := by decide +kernel
theorem dX7_picks_98 : decode cX7_picks 98 = .ok (.istore 6, 2) := by decide +kernel
theorem dX7_picks_100 : decode cX7_picks 100 = .ok (.iload 6, 2) := by decide +kernel
theorem dX7_picks_102 : decode cX7_picks 102 = .ok (.aload_n 0, 1) := by decide +kernel
theorem dX7_picks_103 : decode cX7_picks 103 = .ok (.invokevirtual 102, 3) := by decide +kernel
theorem dX7_picks_106 : decode cX7_picks 106 = .ok (.if_icmp .gt 90, 3) := by decide +kernel
theorem dX7_picks_109 : decode cX7_picks 109 = .ok (.iload 6, 2) := by decide +kernel
theorem dX7_picks_111 : decode cX7_picks 111 = .ok (.invokestatic 93, 3) := by decide +kernel
theorem dX7_picks_114 : decode cX7_picks 114 = .ok (.iload 4, 2) := by decide +kernel
theorem dX7_picks_116 : decode cX7_picks 116 = .ok (.if_icmp .gt 74, 3) := by decide +kernel
theorem dX7_picks_119 : decode cX7_picks 119 = .ok (.iconst 0, 1) := by decide +kernel
theorem dX7_picks_120 : decode cX7_picks 120 = .ok (.istore 7, 2) := by decide +kernel
theorem dX7_picks_122 : decode cX7_picks 122 = .ok (.iconst 0, 1) := by decide +kernel
theorem dX7_picks_123 : decode cX7_picks 123 = .ok (.istore 8, 2) := by decide +kernel
theorem dX7_picks_125 : decode cX7_picks 125 = .ok (.iload 8, 2) := by decide +kernel
theorem dX7_picks_127 : decode cX7_picks 127 = .ok (.iload_n 3, 1) := by decide +kernel
theorem dX7_picks_128 : decode cX7_picks 128 = .ok (.if_icmp .ge 45, 3) := by decide +kernel
theorem dX7_picks_131 : decode cX7_picks 131 = .ok (.iload 7, 2) := by decide +kernel
theorem dX7_picks_133 : decode cX7_picks 133 = .ok (.ifCond .ne 27, 3) := by decide +kernel
theorem dX7_picks_136 : decode cX7_picks 136 = .ok (.aload_n 0, 1) := by decide +kernel
theorem dX7_picks_137 : decode cX7_picks 137 = .ok (.getfield 16, 3) := by decide +kernel
theorem dX7_picks_140 : decode cX7_picks 140 = .ok (.bipush 40, 2) := by decide +kernel
theorem dX7_picks_142 : decode cX7_picks 142 = .ok (.iload_n 1, 1) := by decide +kernel
theorem dX7_picks_143 : decode cX7_picks 143 = .ok (.imul, 1) := by decide +kernel
theorem dX7_picks_144 : decode cX7_picks 144 = .ok (.iload_n 2, 1) := by decide +kernel
theorem dX7_picks_145 : decode cX7_picks 145 = .ok (.iadd, 1) := by decide +kernel
theorem dX7_picks_146 : decode cX7_picks 146 = .ok (.iload 8, 2) := by decide +kernel
theorem dX7_picks_148 : decode cX7_picks 148 = .ok (.iadd, 1) := by decide +kernel
theorem dX7_picks_149 : decode cX7_picks 149 = .ok (.iaload, 1) := by decide +kernel
theorem dX7_picks_150 : decode cX7_picks 150 = .ok (.iload 6, 2) := by decide +kernel
theorem dX7_picks_152 : decode cX7_picks 152 = .ok (.iand, 1) := by decide +kernel
theorem dX7_picks_153 : decode cX7_picks 153 = .ok (.invokestatic 93, 3) := by decide +kernel
theorem dX7_picks_156 : decode cX7_picks 156 = .ok (.iconst 1, 1) := by decide +kernel
theorem dX7_picks_157 : decode cX7_picks 157 = .ok (.if_icmp .ne 7, 3) := by decide +kernel
theorem dX7_picks_160 : decode cX7_picks 160 = .ok (.iconst 1, 1) := by decide +kernel
theorem dX7_picks_161 : decode cX7_picks 161 = .ok (.goto 4, 3) := by decide +kernel
theorem dX7_picks_164 : decode cX7_picks 164 = .ok (.iconst 0, 1) := by decide +kernel
theorem dX7_picks_165 : decode cX7_picks 165 = .ok (.istore 7, 2) := by decide +kernel
theorem dX7_picks_167 : decode cX7_picks 167 = .ok (.iinc 8 1, 3) := by decide +kernel
theorem dX7_picks_170 : decode cX7_picks 170 = .ok (.goto (-45), 3) := by decide +kernel
theorem dX7_picks_173 : decode cX7_picks 173 = .ok (.iload 7, 2) := by decide +kernel
theorem dX7_picks_175 : decode cX7_picks 175 = .ok (.ifCond .ne 15, 3) := by decide +kernel
theorem dX7_picks_178 : decode cX7_picks 178 = .ok (.iload 5, 2) := by decide +kernel
theorem dX7_picks_180 : decode cX7_picks 180 = .ok (.ifCond .ne 7, 3) := by decide +kernel
theorem dX7_picks_183 : decode cX7_picks 183 = .ok (.iconst 0, 1) := by decide +kernel
theorem dX7_picks_184 : decode cX7_picks 184 = .ok (.goto 5, 3) := by decide +kernel
theorem dX7_picks_187 : decode cX7_picks 187 = .ok (.iload 6, 2) := by decide +kernel
theorem dX7_picks_189 : decode cX7_picks 189 = .ok (.ireturn, 1) := by decide +kernel
theorem dX7_picks_190 : decode cX7_picks 190 = .ok (.iinc 6 1, 3) := by decide +kernel
theorem dX7_picks_193 : decode cX7_picks 193 = .ok (.goto (-93), 3) := by decide +kernel
theorem dX7_picks_196 : decode cX7_picks 196 = .ok (.iload 5, 2) := by decide +kernel
theorem dX7_picks_198 : decode cX7_picks 198 = .ok (.ifCond .ne 7, 3) := by decide +kernel
theorem dX7_picks_201 : decode cX7_picks 201 = .ok (.iconst 1, 1) := by decide +kernel
theorem dX7_picks_202 : decode cX7_picks 202 = .ok (.goto 5, 3) := by decide +kernel
theorem dX7_picks_205 : decode cX7_picks 205 = .ok (.ldc 86, 2) := by decide +kernel
theorem dX7_picks_207 : decode cX7_picks 207 = .ok (.ireturn, 1) := by decide +kernel
set_option maxRecDepth 20000 in
theorem ggX7_kindOf_X7_size : GoodIn wsX7_kindOf wsX7_size := goodIn_r _ [6] (by decide +kernel) (by decide +kernel)
set_option maxRecDepth 20000 in
theorem gX7_kindOf_X7_size : GoodIn wsX7_kindOf (va_wsS RX7 93 yX7_size wsX7_size) := goodIn_app (goodIn_of _ (by decide +kernel)) ggX7_kindOf_X7_size
theorem dX7_kindOf_0 : decode cX7_kindOf 0 = .ok (.aload_n 0, 1) := by decide +kernel
theorem dX7_kindOf_1 : decode cX7_kindOf 1 = .ok (.getfield 19, 3) := by decide +kernel
theorem dX7_kindOf_4 : decode cX7_kindOf 4 = .ok (.iload_n 1, 1) := by decide +kernel
theorem dX7_kindOf_5 : decode cX7_kindOf 5 = .ok (.iaload, 1) := by decide +kernel
theorem dX7_kindOf_6 : decode cX7_kindOf 6 = .ok (.invokestatic 93, 3) := by decide +kernel
theorem dX7_kindOf_9 : decode cX7_kindOf 9 = .ok (.istore_n 2, 1) := by decide +kernel
theorem dX7_kindOf_10 : decode cX7_kindOf 10 = .ok (.iconst 0, 1) := by decide +kernel
theorem dX7_kindOf_11 : decode cX7_kindOf 11 = .ok (.istore_n 3, 1) := by decide +kernel
theorem dX7_kindOf_12 : decode cX7_kindOf 12 = .ok (.iconst 0, 1) := by decide +kernel
theorem dX7_kindOf_13 : decode cX7_kindOf 13 = .ok (.istore 4, 2) := by decide +kernel
theorem dX7_kindOf_15 : decode cX7_kindOf 15 = .ok (.iload 4, 2) := by decide +kernel
theorem dX7_kindOf_17 : decode cX7_kindOf 17 = .ok (.aload_n 0, 1) := by decide +kernel
theorem dX7_kindOf_18 : decode cX7_kindOf 18 = .ok (.getfield 76, 3) := by decide +kernel
theorem dX7_kindOf_21 : decode cX7_kindOf 21 = .ok (.if_icmp .ge 38, 3) := by decide +kernel
theorem dX7_kindOf_24 : decode cX7_kindOf 24 = .ok (.aload_n 0, 1) := by decide +kernel
theorem dX7_kindOf_25 : decode cX7_kindOf 25 = .ok (.getfield 19, 3) := by decide +kernel
theorem dX7_kindOf_28 : decode cX7_kindOf 28 = .ok (.iload 4, 2) := by decide +kernel
theorem dX7_kindOf_30 : decode cX7_kindOf 30 = .ok (.iaload, 1) := by decide +kernel
theorem dX7_kindOf_31 : decode cX7_kindOf 31 = .ok (.invokestatic 93, 3) := by decide +kernel
theorem dX7_kindOf_34 : decode cX7_kindOf 34 = .ok (.iload_n 3, 1) := by decide +kernel
theorem dX7_kindOf_35 : decode cX7_kindOf 35 = .ok (.if_icmp .le 16, 3) := by decide +kernel
theorem dX7_kindOf_38 : decode cX7_kindOf 38 = .ok (.aload_n 0, 1) := by decide +kernel
theorem dX7_kindOf_39 : decode cX7_kindOf 39 = .ok (.getfield 19, 3) := by decide +kernel
theorem dX7_kindOf_42 : decode cX7_kindOf 42 = .ok (.iload 4, 2) := by decide +kernel
theorem dX7_kindOf_44 : decode cX7_kindOf 44 = .ok (.iaload, 1) := by decide +kernel
theorem dX7_kindOf_45 : decode cX7_kindOf 45 = .ok (.invokestatic 93, 3) := by decide +kernel
theorem dX7_kindOf_48 : decode cX7_kindOf 48 = .ok (.goto 4, 3) := by decide +kernel
theorem dX7_kindOf_51 : decode cX7_kindOf 51 = .ok (.iload_n 3, 1) := by decide +kernel
theorem dX7_kindOf_52 : decode cX7_kindOf 52 = .ok (.istore_n 3, 1) := by decide +kernel
theorem dX7_kindOf_53 : decode cX7_kindOf 53 = .ok (.iinc 4 1, 3) := by decide +kernel
theorem dX7_kindOf_56 : decode cX7_kindOf 56 = .ok (.goto (-41), 3) := by decide +kernel
theorem dX7_kindOf_59 : decode cX7_kindOf 59 = .ok (.iload_n 2, 1) := by decide +kernel
theorem dX7_kindOf_60 : decode cX7_kindOf 60 = .ok (.ifCond .ne 7, 3) := by decide +kernel
theorem dX7_kindOf_63 : decode cX7_kindOf 63 = .ok (.iconst 4, 1) := by decide +kernel
theorem dX7_kindOf_64 : decode cX7_kindOf 64 = .ok (.goto 22, 3) := by decide +kernel
theorem dX7_kindOf_67 : decode cX7_kindOf 67 = .ok (.iload_n 2, 1) := by decide +kernel
theorem dX7_kindOf_68 : decode cX7_kindOf 68 = .ok (.iconst 1, 1) := by decide +kernel
theorem dX7_kindOf_69 : decode cX7_kindOf 69 = .ok (.if_icmp .ne 7, 3) := by decide +kernel
theorem dX7_kindOf_72 : decode cX7_kindOf 72 = .ok (.iconst 2, 1) := by decide +kernel
theorem dX7_kindOf_73 : decode cX7_kindOf 73 = .ok (.goto 13, 3) := by decide +kernel
theorem dX7_kindOf_76 : decode cX7_kindOf 76 = .ok (.iload_n 2, 1) := by decide +kernel
theorem dX7_kindOf_77 : decode cX7_kindOf 77 = .ok (.iload_n 3, 1) := by decide +kernel
theorem dX7_kindOf_78 : decode cX7_kindOf 78 = .ok (.if_icmp .ne 7, 3) := by decide +kernel
theorem dX7_kindOf_81 : decode cX7_kindOf 81 = .ok (.iconst 3, 1) := by decide +kernel
theorem dX7_kindOf_82 : decode cX7_kindOf 82 = .ok (.goto 4, 3) := by decide +kernel
theorem dX7_kindOf_85 : decode cX7_kindOf 85 = .ok (.iconst 1, 1) := by decide +kernel
theorem dX7_kindOf_86 : decode cX7_kindOf 86 = .ok (.ireturn, 1) := by decide +kernel
theorem dX7_isOf_0 : decode cX7_isOf 0 = .ok (.iload_n 1, 1) := by decide +kernel
theorem dX7_isOf_1 : decode cX7_isOf 1 = .ok (.ifCond .eq 23, 3) := by decide +kernel
theorem dX7_isOf_4 : decode cX7_isOf 4 = .ok (.iload_n 0, 1) := by decide +kernel
theorem dX7_isOf_5 : decode cX7_isOf 5 = .ok (.iload_n 1, 1) := by decide +kernel
theorem dX7_isOf_6 : decode cX7_isOf 6 = .ok (.if_icmp .eq 18, 3) := by decide +kernel
theorem dX7_isOf_9 : decode cX7_isOf 9 = .ok (.iload_n 1, 1) := by decide +kernel
theorem dX7_isOf_10 : decode cX7_isOf 10 = .ok (.iconst 1, 1) := by decide +kernel
theorem dX7_isOf_11 : decode cX7_isOf 11 = .ok (.if_icmp .ne 17, 3) := by decide +kernel
theorem dX7_isOf_14 : decode cX7_isOf 14 = .ok (.iload_n 0, 1) := by decide +kernel
theorem dX7_isOf_15 : decode cX7_isOf 15 = .ok (.iconst 2, 1) := by decide +kernel
theorem dX7_isOf_16 : decode cX7_isOf 16 = .ok (.if_icmp .eq 8, 3) := by decide +kernel
theorem dX7_isOf_19 : decode cX7_isOf 19 = .ok (.iload_n 0, 1) := by decide +kernel
theorem dX7_isOf_20 : decode cX7_isOf 20 = .ok (.iconst 3, 1) := by decide +kernel
theorem dX7_isOf_21 : decode cX7_isOf 21 = .ok (.if_icmp .ne 7, 3) := by decide +kernel
theorem dX7_isOf_24 : decode cX7_isOf 24 = .ok (.iconst 1, 1) := by decide +kernel
theorem dX7_isOf_25 : decode cX7_isOf 25 = .ok (.goto 4, 3) := by decide +kernel
theorem dX7_isOf_28 : decode cX7_isOf 28 = .ok (.iconst 0, 1) := by decide +kernel
theorem dX7_isOf_29 : decode cX7_isOf 29 = .ok (.ireturn, 1) := by decide +kernel
set_option maxRecDepth 20000 in
theorem ggX7_kind_X7_isPost : GoodIn wsX7_kind wsX7_isPost := goodIn_r _ [7, 8, 9, 10, 6, 11, 20, 21, 22, 23, 24, 25, 26, 27, 28, 29, 30, 31, 32, 33, 34, 35, 36, 37, 38, 39, 40, 41, 42, 43, 44, 45, 46, 47] (by decide +kernel) (by decide +kernel)
set_option maxRecDepth 20000 in
theorem gX7_kind_X7_isPost : GoodIn wsX7_kind (wsV RX7 80 RX7 yX7_isPost wsX7_isPost) := goodIn_app (goodIn_of _ (by decide +kernel)) ggX7_kind_X7_isPost
set_option maxRecDepth 20000 in
theorem ggX7_kind_X7_kindOf : GoodIn wsX7_kind wsX7_kindOf := goodIn_r _ [15, 16, 8, 17, 18, 6, 19, 20, 21, 22, 23, 24, 25, 26, 27, 28, 29, 30, 31, 32, 33, 34, 35, 36, 37, 38, 39, 40, 41, 42, 43, 44, 45, 46, 47] (by decide +kernel) (by decide +kernel)
set_option maxRecDepth 20000 in
theorem gX7_kind_X7_kindOf : GoodIn wsX7_kind (wsV RX7 208 RX7 yX7_kindOf wsX7_kindOf) := goodIn_app (goodIn_of _ (by decide +kernel)) ggX7_kind_X7_kindOf
theorem dX7_kind_0 : decode cX7_kind 0 = .ok (.aload_n 0, 1) := by decide +kernel
theorem dX7_kind_1 : decode cX7_kind 1 = .ok (.iconst 0, 1) := by decide +kernel
theorem dX7_kind_2 : decode cX7_kind 2 = .ok (.putfield 51, 3) := by decide +kernel
theorem dX7_kind_5 : decode cX7_kind 5 = .ok (.aload_n 0, 1) := by decide +kernel
theorem dX7_kind_6 : decode cX7_kind 6 = .ok (.iload_n 1, 1) := by decide +kernel
theorem dX7_kind_7 : decode cX7_kind 7 = .ok (.invokevirtual 80, 3) := by decide +kernel
theorem dX7_kind_10 : decode cX7_kind 10 = .ok (.ifCond .eq 11, 3) := by decide +kernel
theorem dX7_kind_13 : decode cX7_kind 13 = .ok (.aload_n 0, 1) := by decide +kernel
theorem dX7_kind_14 : decode cX7_kind 14 = .ok (.iload_n 1, 1) := by decide +kernel
theorem dX7_kind_15 : decode cX7_kind 15 = .ok (.invokevirtual 208, 3) := by decide +kernel
theorem dX7_kind_18 : decode cX7_kind 18 = .ok (.goto 5, 3) := by decide +kernel
theorem dX7_kind_21 : decode cX7_kind 21 = .ok (.ldc 71, 2) := by decide +kernel
theorem dX7_kind_23 : decode cX7_kind 23 = .ok (.ireturn, 1) := by decide +kernel
set_option maxRecDepth 20000 in
theorem ggX7_as_X7_isPost : GoodIn wsX7_as wsX7_isPost := goodIn_r _ [10, 11, 12, 13, 9, 14, 30, 31, 32, 33, 34, 35, 36, 37, 38, 39, 40, 41, 42, 43, 44, 45, 46, 47, 48, 49, 50, 51, 52, 53, 54, 55, 56, 57] (by decide +kernel) (by decide +kernel)
set_option maxRecDepth 20000 in
theorem gX7_as_X7_isPost : GoodIn wsX7_as (wsV RX7 80 RX7 yX7_isPost wsX7_isPost) := goodIn_app (goodIn_of _ (by decide +kernel)) ggX7_as_X7_isPost
set_option maxRecDepth 20000 in
theorem ggX7_as_X7_in : GoodIn wsX7_as wsX7_in := goodIn_r _ [14] (by decide +kernel) (by decide +kernel)
set_option maxRecDepth 20000 in
theorem gX7_as_X7_in : GoodIn wsX7_as (va_wsS RX7 61 yX7_in wsX7_in) := goodIn_app (goodIn_of _ (by decide +kernel)) ggX7_as_X7_in
set_option maxRecDepth 20000 in
theorem ggX7_as_X7_kindOf : GoodIn wsX7_as wsX7_kindOf := goodIn_r _ [18, 5, 11, 19, 20, 9, 21, 30, 31, 32, 33, 34, 35, 36, 37, 38, 39, 40, 41, 42, 43, 44, 45, 46, 47, 48, 49, 50, 51, 52, 53, 54, 55, 56, 57] (by decide +kernel) (by decide +kernel)
set_option maxRecDepth 20000 in
theorem gX7_as_X7_kindOf : GoodIn wsX7_as (wsV RX7 208 RX7 yX7_kindOf wsX7_kindOf) := goodIn_app (goodIn_of _ (by decide +kernel)) ggX7_as_X7_kindOf
set_option maxRecDepth 20000 in
theorem ggX7_as_X7_isOf : GoodIn wsX7_as wsX7_isOf := goodIn_r _ [24] (by decide +kernel) (by decide +kernel)
set_option maxRecDepth 20000 in
theorem gX7_as_X7_isOf : GoodIn wsX7_as (va_wsS RX7 211 yX7_isOf wsX7_isOf) := goodIn_app (goodIn_of _ (by decide +kernel)) ggX7_as_X7_isOf
set_option maxRecDepth 20000 in
theorem ggX7_as_X7_size : GoodIn wsX7_as wsX7_size := goodIn_r _ [21] (by decide +kernel) (by decide +kernel)
set_option maxRecDepth 20000 in
theorem gX7_as_X7_size : GoodIn wsX7_as (va_wsS RX7 93 yX7_size wsX7_size) := goodIn_app (goodIn_of _ (by decide +kernel)) ggX7_as_X7_size
set_option maxRecDepth 20000 in
theorem ggX7_as_X7_found : GoodIn wsX7_as wsX7_found := goodIn_r _ [28, 4, 29, 30, 31, 32, 33, 34, 35, 36, 37, 38, 39, 40, 41, 42, 43, 44, 45, 46, 47, 48, 49, 50, 51, 52, 53, 54, 55, 56, 57] (by decide +kernel) (by decide +kernel)
set_option maxRecDepth 20000 in
theorem gX7_as_X7_found : GoodIn wsX7_as (wsV RX7 72 RX7 yX7_found wsX7_found) := goodIn_app (goodIn_of _ (by decide +kernel)) ggX7_as_X7_found
theorem dX7_as_0 : decode cX7_as 0 = .ok (.aload_n 0, 1) := by decide +kernel
theorem dX7_as_1 : decode cX7_as 1 = .ok (.iconst 0, 1) := by decide +kernel
theorem dX7_as_2 : decode cX7_as 2 = .ok (.putfield 51, 3) := by decide +kernel
theorem dX7_as_5 : decode cX7_as 5 = .ok (.aload_n 0, 1) := by decide +kernel
theorem dX7_as_6 : decode cX7_as 6 = .ok (.iload_n 1, 1) := by decide +kernel
theorem dX7_as_7 : decode cX7_as 7 = .ok (.invokevirtual 80, 3) := by decide +kernel
theorem dX7_as_10 : decode cX7_as 10 = .ok (.ifCond .eq 15, 3) := by decide +kernel
theorem dX7_as_13 : decode cX7_as 13 = .ok (.iload_n 2, 1) := by decide +kernel
theorem dX7_as_14 : decode cX7_as 14 = .ok (.i2l, 1) := by decide +kernel
theorem dX7_as_15 : decode cX7_as 15 = .ok (.lconst 0, 1) := by decide +kernel
theorem dX7_as_16 : decode cX7_as 16 = .ok (.ldc2_w 206, 3) := by decide +kernel
theorem dX7_as_19 : decode cX7_as 19 = .ok (.invokestatic 61, 3) := by decide +kernel
theorem dX7_as_22 : decode cX7_as 22 = .ok (.ifCond .ne 6, 3) := by decide +kernel
theorem dX7_as_25 : decode cX7_as 25 = .ok (.ldc 71, 2) := by decide +kernel
theorem dX7_as_27 : decode cX7_as 27 = .ok (.ireturn, 1) := by decide +kernel
theorem dX7_as_28 : decode cX7_as 28 = .ok (.aload_n 0, 1) := by decide +kernel
theorem dX7_as_29 : decode cX7_as 29 = .ok (.iconst 0, 1) := by decide +kernel
theorem dX7_as_30 : decode cX7_as 30 = .ok (.putfield 55, 3) := by decide +kernel
theorem dX7_as_33 : decode cX7_as 33 = .ok (.aload_n 0, 1) := by decide +kernel
theorem dX7_as_34 : decode cX7_as 34 = .ok (.iload_n 1, 1) := by decide +kernel
theorem dX7_as_35 : decode cX7_as 35 = .ok (.invokevirtual 208, 3) := by decide +kernel
theorem dX7_as_38 : decode cX7_as 38 = .ok (.iload_n 2, 1) := by decide +kernel
theorem dX7_as_39 : decode cX7_as 39 = .ok (.invokestatic 211, 3) := by decide +kernel
theorem dX7_as_42 : decode cX7_as 42 = .ok (.ifCond .eq 15, 3) := by decide +kernel
theorem dX7_as_45 : decode cX7_as 45 = .ok (.aload_n 0, 1) := by decide +kernel
theorem dX7_as_46 : decode cX7_as 46 = .ok (.getfield 19, 3) := by decide +kernel
theorem dX7_as_49 : decode cX7_as 49 = .ok (.iload_n 1, 1) := by decide +kernel
theorem dX7_as_50 : decode cX7_as 50 = .ok (.iaload, 1) := by decide +kernel
theorem dX7_as_51 : decode cX7_as 51 = .ok (.invokestatic 93, 3) := by decide +kernel
theorem dX7_as_54 : decode cX7_as 54 = .ok (.goto 8, 3) := by decide +kernel
theorem dX7_as_57 : decode cX7_as 57 = .ok (.aload_n 0, 1) := by decide +kernel
theorem dX7_as_58 : decode cX7_as 58 = .ok (.iconst 3, 1) := by decide +kernel
theorem dX7_as_59 : decode cX7_as 59 = .ok (.invokevirtual 72, 3) := by decide +kernel
theorem dX7_as_62 : decode cX7_as 62 = .ok (.ireturn, 1) := by decide +kernel
theorem dX7_began_0 : decode cX7_began 0 = .ok (.aload_n 0, 1) := by decide +kernel
theorem dX7_began_1 : decode cX7_began 1 = .ok (.getfield 215, 3) := by decide +kernel
theorem dX7_began_4 : decode cX7_began 4 = .ok (.bipush 16, 2) := by decide +kernel
theorem dX7_began_6 : decode cX7_began 6 = .ok (.if_icmp .ge 23, 3) := by decide +kernel
theorem dX7_began_9 : decode cX7_began 9 = .ok (.aload_n 0, 1) := by decide +kernel
theorem dX7_began_10 : decode cX7_began 10 = .ok (.getfield 48, 3) := by decide +kernel
theorem dX7_began_13 : decode cX7_began 13 = .ok (.aload_n 0, 1) := by decide +kernel
theorem dX7_began_14 : decode cX7_began 14 = .ok (.getfield 215, 3) := by decide +kernel
theorem dX7_began_17 : decode cX7_began 17 = .ok (.iload_n 1, 1) := by decide +kernel
theorem dX7_began_18 : decode cX7_began 18 = .ok (.iastore, 1) := by decide +kernel
theorem dX7_began_19 : decode cX7_began 19 = .ok (.aload_n 0, 1) := by decide +kernel
theorem dX7_began_20 : decode cX7_began 20 = .ok (.dup, 1) := by decide +kernel
theorem dX7_began_21 : decode cX7_began 21 = .ok (.getfield 215, 3) := by decide +kernel
theorem dX7_began_24 : decode cX7_began 24 = .ok (.iconst 1, 1) := by decide +kernel
theorem dX7_began_25 : decode cX7_began 25 = .ok (.iadd, 1) := by decide +kernel
theorem dX7_began_26 : decode cX7_began 26 = .ok (.putfield 215, 3) := by decide +kernel
theorem dX7_began_29 : decode cX7_began 29 = .ok (.return_, 1) := by decide +kernel
set_option maxRecDepth 20000 in
theorem ggX7_sized_X7_kindOf : GoodIn wsX7_sized wsX7_kindOf := goodIn_r _ [6, 1, 7, 8, 9, 5, 10, 30, 31, 32, 33, 34, 35, 36, 37, 38, 39, 40, 41, 42, 43, 44, 45, 46, 47, 48, 49, 50, 51, 52, 53, 54, 55, 56, 57] (by decide +kernel) (by decide +kernel)
set_option maxRecDepth 20000 in
theorem gX7_sized_X7_kindOf : GoodIn wsX7_sized (wsV RX7 208 RX7 yX7_kindOf wsX7_kindOf) := goodIn_app (goodIn_of _ (by decide +kernel)) ggX7_sized_X7_kindOf
set_option maxRecDepth 20000 in
theorem ggX7_sized_X7_began : GoodIn wsX7_sized wsX7_began := goodIn_r _ [14, 15, 16, 30, 31, 32, 33, 34, 35, 36, 37, 38, 39, 40, 41, 42, 43, 44, 45, 46, 47, 48, 49, 50, 51, 52, 53, 54, 55, 56, 57] (by decide +kernel) (by decide +kernel)
set_option maxRecDepth 20000 in
theorem gX7_sized_X7_began : GoodIn wsX7_sized (wsV RX7 218 RX7 yX7_began wsX7_began) := goodIn_app (goodIn_of _ (by decide +kernel)) ggX7_sized_X7_began
set_option maxRecDepth 20000 in
theorem ggX7_sized_X7_size : GoodIn wsX7_sized wsX7_size := goodIn_r _ [10] (by decide +kernel) (by decide +kernel)
set_option maxRecDepth 20000 in
theorem gX7_sized_X7_size : GoodIn wsX7_sized (va_wsS RX7 93 yX7_size wsX7_size) := goodIn_app (goodIn_of _ (by decide +kernel)) ggX7_sized_X7_size
set_option maxRecDepth 20000 in
theorem ggX7_sized_X7_widthOf : GoodIn wsX7_sized wsX7_widthOf := goodIn_r _ [20, 7, 21, 22, 23, 5, 24, 25, 26, 27, 28, 29, 1, 30, 31, 32, 33, 34, 35, 36, 37, 38, 39, 40, 41, 42, 43, 44, 45, 46, 47, 48, 49, 50, 51, 52, 53, 54, 55, 56, 57] (by decide +kernel) (by decide +kernel)
set_option maxRecDepth 20000 in
theorem gX7_sized_X7_widthOf : GoodIn wsX7_sized (wsV RX7 96 RX7 yX7_widthOf wsX7_widthOf) := goodIn_app (goodIn_of _ (by decide +kernel)) ggX7_sized_X7_widthOf
theorem dX7_sized_0 : decode cX7_sized 0 = .ok (.aload_n 0, 1) := by decide +kernel
theorem dX7_sized_1 : decode cX7_sized 1 = .ok (.iload_n 1, 1) := by decide +kernel
theorem dX7_sized_2 : decode cX7_sized 2 = .ok (.invokevirtual 208, 3) := by decide +kernel
theorem dX7_sized_5 : decode cX7_sized 5 = .ok (.istore_n 2, 1) := by decide +kernel
theorem dX7_sized_6 : decode cX7_sized 6 = .ok (.iload_n 2, 1) := by decide +kernel
theorem dX7_sized_7 : decode cX7_sized 7 = .ok (.iconst 2, 1) := by decide +kernel
theorem dX7_sized_8 : decode cX7_sized 8 = .ok (.if_icmp .ne 9, 3) := by decide +kernel
theorem dX7_sized_11 : decode cX7_sized 11 = .ok (.aload_n 0, 1) := by decide +kernel
theorem dX7_sized_12 : decode cX7_sized 12 = .ok (.bipush 12, 2) := by decide +kernel
theorem dX7_sized_14 : decode cX7_sized 14 = .ok (.invokevirtual 218, 3) := by decide +kernel
theorem dX7_sized_17 : decode cX7_sized 17 = .ok (.iload_n 2, 1) := by decide +kernel
theorem dX7_sized_18 : decode cX7_sized 18 = .ok (.iconst 3, 1) := by decide +kernel
theorem dX7_sized_19 : decode cX7_sized 19 = .ok (.if_icmp .ne 9, 3) := by decide +kernel
theorem dX7_sized_22 : decode cX7_sized 22 = .ok (.aload_n 0, 1) := by decide +kernel
theorem dX7_sized_23 : decode cX7_sized 23 = .ok (.bipush 13, 2) := by decide +kernel
theorem dX7_sized_25 : decode cX7_sized 25 = .ok (.invokevirtual 218, 3) := by decide +kernel
theorem dX7_sized_28 : decode cX7_sized 28 = .ok (.iload_n 2, 1) := by decide +kernel
theorem dX7_sized_29 : decode cX7_sized 29 = .ok (.iconst 4, 1) := by decide +kernel
theorem dX7_sized_30 : decode cX7_sized 30 = .ok (.if_icmp .eq 9, 3) := by decide +kernel
theorem dX7_sized_33 : decode cX7_sized 33 = .ok (.aload_n 0, 1) := by decide +kernel
theorem dX7_sized_34 : decode cX7_sized 34 = .ok (.bipush 11, 2) := by decide +kernel
theorem dX7_sized_36 : decode cX7_sized 36 = .ok (.invokevirtual 218, 3) := by decide +kernel
theorem dX7_sized_39 : decode cX7_sized 39 = .ok (.aload_n 0, 1) := by decide +kernel
theorem dX7_sized_40 : decode cX7_sized 40 = .ok (.bipush 10, 2) := by decide +kernel
theorem dX7_sized_42 : decode cX7_sized 42 = .ok (.invokevirtual 218, 3) := by decide +kernel
theorem dX7_sized_45 : decode cX7_sized 45 = .ok (.aload_n 0, 1) := by decide +kernel
theorem dX7_sized_46 : decode cX7_sized 46 = .ok (.getfield 19, 3) := by decide +kernel
theorem dX7_sized_49 : decode cX7_sized 49 = .ok (.iload_n 1, 1) := by decide +kernel
theorem dX7_sized_50 : decode cX7_sized 50 = .ok (.iaload, 1) := by decide +kernel
theorem dX7_sized_51 : decode cX7_sized 51 = .ok (.invokestatic 93, 3) := by decide +kernel
theorem dX7_sized_54 : decode cX7_sized 54 = .ok (.iload_n 2, 1) := by decide +kernel
theorem dX7_sized_55 : decode cX7_sized 55 = .ok (.iconst 4, 1) := by decide +kernel
theorem dX7_sized_56 : decode cX7_sized 56 = .ok (.if_icmp .ne 7, 3) := by decide +kernel
theorem dX7_sized_59 : decode cX7_sized 59 = .ok (.iconst 0, 1) := by decide +kernel
theorem dX7_sized_60 : decode cX7_sized 60 = .ok (.goto 8, 3) := by decide +kernel
theorem dX7_sized_63 : decode cX7_sized 63 = .ok (.aload_n 0, 1) := by decide +kernel
theorem dX7_sized_64 : decode cX7_sized 64 = .ok (.iload_n 1, 1) := by decide +kernel
theorem dX7_sized_65 : decode cX7_sized 65 = .ok (.invokevirtual 96, 3) := by decide +kernel
theorem dX7_sized_68 : decode cX7_sized 68 = .ok (.iadd, 1) := by decide +kernel
theorem dX7_sized_69 : decode cX7_sized 69 = .ok (.istore_n 3, 1) := by decide +kernel
theorem dX7_sized_70 : decode cX7_sized 70 = .ok (.iload_n 2, 1) := by decide +kernel
theorem dX7_sized_71 : decode cX7_sized 71 = .ok (.iconst 3, 1) := by decide +kernel
theorem dX7_sized_72 : decode cX7_sized 72 = .ok (.if_icmp .ne 22, 3) := by decide +kernel
theorem dX7_sized_75 : decode cX7_sized 75 = .ok (.aload_n 0, 1) := by decide +kernel
theorem dX7_sized_76 : decode cX7_sized 76 = .ok (.bipush 21, 2) := by decide +kernel
theorem dX7_sized_78 : decode cX7_sized 78 = .ok (.invokevirtual 218, 3) := by decide +kernel
theorem dX7_sized_81 : decode cX7_sized 81 = .ok (.aload_n 0, 1) := by decide +kernel
theorem dX7_sized_82 : decode cX7_sized 82 = .ok (.bipush 20, 2) := by decide +kernel
theorem dX7_sized_84 : decode cX7_sized 84 = .ok (.invokevirtual 218, 3) := by decide +kernel
theorem dX7_sized_87 : decode cX7_sized 87 = .ok (.iload_n 3, 1) := by decide +kernel
theorem dX7_sized_88 : decode cX7_sized 88 = .ok (.iload_n 1, 1) := by decide +kernel
theorem dX7_sized_89 : decode cX7_sized 89 = .ok (.iadd, 1) := by decide +kernel
theorem dX7_sized_90 : decode cX7_sized 90 = .ok (.bipush 100, 2) := by decide +kernel
theorem dX7_sized_92 : decode cX7_sized 92 = .ok (.iadd, 1) := by decide +kernel
theorem dX7_sized_93 : decode cX7_sized 93 = .ok (.ireturn, 1) := by decide +kernel
theorem dX7_sized_94 : decode cX7_sized 94 = .ok (.iload_n 2, 1) := by decide +kernel
theorem dX7_sized_95 : decode cX7_sized 95 = .ok (.iconst 2, 1) := by decide +kernel
theorem dX7_sized_96 : decode cX7_sized 96 = .ok (.if_icmp .ne 9, 3) := by decide +kernel
theorem dX7_sized_99 : decode cX7_sized 99 = .ok (.iconst 2, 1) := by decide +kernel
theorem dX7_sized_100 : decode cX7_sized 100 = .ok (.iload_n 3, 1) := by decide +kernel
theorem dX7_sized_101 : decode cX7_sized 101 = .ok (.imul, 1) := by decide +kernel
theorem dX7_sized_102 : decode cX7_sized 102 = .ok (.goto 4, 3) := by decide +kernel
theorem dX7_sized_105 : decode cX7_sized 105 = .ok (.iload_n 3, 1) := by decide +kernel
theorem dX7_sized_106 : decode cX7_sized 106 = .ok (.ireturn, 1) := by decide +kernel
set_option maxRecDepth 20000 in
theorem ggX7_marked_X7_kindOf : GoodIn wsX7_marked wsX7_kindOf := goodIn_r _ [5, 6, 7, 8, 9, 4, 10, 34, 35, 36, 37, 38, 39, 40, 41, 42, 43, 44, 45, 46, 47, 48, 49, 50, 51, 52, 53, 54, 55, 56, 57, 58, 59, 60, 61] (by decide +kernel) (by decide +kernel)
set_option maxRecDepth 20000 in
theorem gX7_marked_X7_kindOf : GoodIn wsX7_marked (wsV RX7 208 RX7 yX7_kindOf wsX7_kindOf) := goodIn_app (goodIn_of _ (by decide +kernel)) ggX7_marked_X7_kindOf
set_option maxRecDepth 20000 in
theorem ggX7_marked_X7_began : GoodIn wsX7_marked wsX7_began := goodIn_r _ [14, 15, 16, 34, 35, 36, 37, 38, 39, 40, 41, 42, 43, 44, 45, 46, 47, 48, 49, 50, 51, 52, 53, 54, 55, 56, 57, 58, 59, 60, 61] (by decide +kernel) (by decide +kernel)
set_option maxRecDepth 20000 in
theorem gX7_marked_X7_began : GoodIn wsX7_marked (wsV RX7 218 RX7 yX7_began wsX7_began) := goodIn_app (goodIn_of _ (by decide +kernel)) ggX7_marked_X7_began
set_option maxRecDepth 20000 in
theorem ggX7_marked_X7_sized : GoodIn wsX7_marked wsX7_sized := goodIn_r _ [20, 6, 1, 2, 3, 4, 5, 7, 8, 9, 10, 11, 12, 13, 14, 15, 16, 21, 22, 23, 24, 25, 26, 27, 28, 29, 30, 31, 32, 33, 34, 35, 36, 37, 38, 39, 40, 41, 42, 43, 44, 45, 46, 47, 48, 49, 50, 51, 52, 53, 54, 55, 56, 57, 58, 59, 60, 61] (by decide +kernel) (by decide +kernel)
set_option maxRecDepth 20000 in
theorem gX7_marked_X7_sized : GoodIn wsX7_marked (wsV RX7 221 RX7 yX7_sized wsX7_sized) := goodIn_app (goodIn_of _ (by decide +kernel)) ggX7_marked_X7_sized
theorem dX7_marked_0 : decode cX7_marked 0 = .ok (.aload_n 0, 1) := by decide +kernel
theorem dX7_marked_1 : decode cX7_marked 1 = .ok (.iload_n 1, 1) := by decide +kernel
theorem dX7_marked_2 : decode cX7_marked 2 = .ok (.invokevirtual 208, 3) := by decide +kernel
theorem dX7_marked_5 : decode cX7_marked 5 = .ok (.istore_n 2, 1) := by decide +kernel
theorem dX7_marked_6 : decode cX7_marked 6 = .ok (.iload_n 2, 1) := by decide +kernel
theorem dX7_marked_7 : decode cX7_marked 7 = .ok (.iconst 3, 1) := by decide +kernel
theorem dX7_marked_8 : decode cX7_marked 8 = .ok (.if_icmp .ne 9, 3) := by decide +kernel
theorem dX7_marked_11 : decode cX7_marked 11 = .ok (.aload_n 0, 1) := by decide +kernel
theorem dX7_marked_12 : decode cX7_marked 12 = .ok (.bipush 21, 2) := by decide +kernel
theorem dX7_marked_14 : decode cX7_marked 14 = .ok (.invokevirtual 218, 3) := by decide +kernel
theorem dX7_marked_17 : decode cX7_marked 17 = .ok (.iload_n 2, 1) := by decide +kernel
theorem dX7_marked_18 : decode cX7_marked 18 = .ok (.iconst 4, 1) := by decide +kernel
theorem dX7_marked_19 : decode cX7_marked 19 = .ok (.if_icmp .ne 9, 3) := by decide +kernel
theorem dX7_marked_22 : decode cX7_marked 22 = .ok (.aload_n 0, 1) := by decide +kernel
theorem dX7_marked_23 : decode cX7_marked 23 = .ok (.bipush 22, 2) := by decide +kernel
theorem dX7_marked_25 : decode cX7_marked 25 = .ok (.invokevirtual 218, 3) := by decide +kernel
theorem dX7_marked_28 : decode cX7_marked 28 = .ok (.aload_n 0, 1) := by decide +kernel
theorem dX7_marked_29 : decode cX7_marked 29 = .ok (.bipush 20, 2) := by decide +kernel
