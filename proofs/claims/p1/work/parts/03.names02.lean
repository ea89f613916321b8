theorem dX9_act_95 : decode cX9_act 95 = .ok (.bipush (-2), 2) := by decide +kernel
theorem dX9_act_97 : decode cX9_act 97 = .ok (.if_icmp .ne 11, 3) := by decide +kernel
theorem dX9_act_100 : decode cX9_act 100 = .ok (.aload_n 0, 1) := by decide +kernel
theorem dX9_act_101 : decode cX9_act 101 = .ok (.iload_n 1, 1) := by decide +kernel
theorem dX9_act_102 : decode cX9_act 102 = .ok (.invokevirtual 93, 3) := by decide +kernel
theorem dX9_act_105 : decode cX9_act 105 = .ok (.goto 5, 3) := by decide +kernel
theorem dX9_act_108 : decode cX9_act 108 = .ok (.iload 6, 2) := by decide +kernel
theorem dX9_act_110 : decode cX9_act 110 = .ok (.istore 6, 2) := by decide +kernel
theorem dX9_act_112 : decode cX9_act 112 = .ok (.iload 6, 2) := by decide +kernel
theorem dX9_act_114 : decode cX9_act 114 = .ok (.iconst (-1), 1) := by decide +kernel
theorem dX9_act_115 : decode cX9_act 115 = .ok (.if_icmp .ne 5, 3) := by decide +kernel
theorem dX9_act_118 : decode cX9_act 118 = .ok (.iconst (-1), 1) := by decide +kernel
theorem dX9_act_119 : decode cX9_act 119 = .ok (.ireturn, 1) := by decide +kernel
theorem dX9_act_120 : decode cX9_act 120 = .ok (.aload_n 0, 1) := by decide +kernel
theorem dX9_act_121 : decode cX9_act 121 = .ok (.getfield 21, 3) := by decide +kernel
theorem dX9_act_124 : decode cX9_act 124 = .ok (.getfield 96, 3) := by decide +kernel
theorem dX9_act_127 : decode cX9_act 127 = .ok (.iload_n 1, 1) := by decide +kernel
theorem dX9_act_128 : decode cX9_act 128 = .ok (.iload 6, 2) := by decide +kernel
theorem dX9_act_130 : decode cX9_act 130 = .ok (.iastore, 1) := by decide +kernel
theorem dX9_act_131 : decode cX9_act 131 = .ok (.iload_n 2, 1) := by decide +kernel
theorem dX9_act_132 : decode cX9_act 132 = .ok (.bipush 7, 2) := by decide +kernel
theorem dX9_act_134 : decode cX9_act 134 = .ok (.if_icmp .eq 16, 3) := by decide +kernel
theorem dX9_act_137 : decode cX9_act 137 = .ok (.iload_n 2, 1) := by decide +kernel
theorem dX9_act_138 : decode cX9_act 138 = .ok (.bipush 8, 2) := by decide +kernel
theorem dX9_act_140 : decode cX9_act 140 = .ok (.if_icmp .eq 10, 3) := by decide +kernel
theorem dX9_act_143 : decode cX9_act 143 = .ok (.iload 6, 2) := by decide +kernel
theorem dX9_act_145 : decode cX9_act 145 = .ok (.bipush (-3), 2) := by decide +kernel
theorem dX9_act_147 : decode cX9_act 147 = .ok (.if_icmp .ne 7, 3) := by decide +kernel
theorem dX9_act_150 : decode cX9_act 150 = .ok (.aload_n 0, 1) := by decide +kernel
theorem dX9_act_151 : decode cX9_act 151 = .ok (.invokevirtual 99, 3) := by decide +kernel
theorem dX9_act_154 : decode cX9_act 154 = .ok (.iload 6, 2) := by decide +kernel
theorem dX9_act_156 : decode cX9_act 156 = .ok (.ireturn, 1) := by decide +kernel
set_option maxRecDepth 20000 in
theorem ggX9_wake_X9_attempt : GoodIn wsX9_wake wsX9_attempt := goodIn_r _ [15, 2, 16, 17, 18, 19, 14, 20, 21, 22, 23, 24, 25, 26, 27, 28, 29, 30, 31, 32, 33, 34, 35, 36, 37, 38, 39, 40, 41, 42, 5, 7, 43, 44, 45, 46, 47, 48, 49, 50, 51, 52, 53, 54, 55, 56, 57, 58, 59, 60, 61, 62, 63, 64, 65, 66, 67, 68, 69, 70, 71, 72, 73, 74, 75, 76, 77, 78, 79, 147, 148, 149, 150, 151, 152, 153, 154, 155, 156, 157, 158, 159, 160, 161, 162, 163, 164, 165, 166, 167, 168, 169, 170, 171, 172, 173, 174, 175, 176] (by decide +kernel) (by decide +kernel)
set_option maxRecDepth 20000 in
theorem gX9_wake_X9_attempt : GoodIn wsX9_wake (wsV RX9 89 RX9 yX9_attempt wsX9_attempt) := goodIn_app (goodIn_of _ (by decide +kernel)) ggX9_wake_X9_attempt
set_option maxRecDepth 20000 in
theorem ggX9_wake_X1_leaveLine : GoodIn wsX9_wake wsX1_leaveLine := goodIn_r _ [84, 85, 86, 155, 156, 157, 158, 159, 160, 161, 162, 163, 164, 165, 166] (by decide +kernel) (by decide +kernel)
set_option maxRecDepth 20000 in
theorem gX9_wake_X1_leaveLine : GoodIn wsX9_wake (wsV RX9 119 RX1 yX1_leaveLine wsX1_leaveLine) := goodIn_app (goodIn_of _ (by decide +kernel)) ggX9_wake_X1_leaveLine
set_option maxRecDepth 20000 in
theorem ggX9_wake_X9_waitOrDie : GoodIn wsX9_wake wsX9_waitOrDie := goodIn_r _ [90, 91, 21, 5, 7, 2, 92, 93, 94, 95, 35, 96, 37, 38, 70, 74, 75, 97, 98, 99, 14, 100, 101, 9, 6, 8, 102, 103, 104, 105, 47, 106, 31, 30, 107, 108, 109, 58, 110, 61, 32, 33, 34, 36, 111, 112, 113, 114, 51, 52, 53, 54, 115, 116, 117, 118, 119, 120, 121, 122, 123, 124, 125, 126, 127, 71, 72, 73, 128, 129, 130, 131, 80, 81, 82, 83, 84, 85, 86, 132, 133, 134, 135, 136, 137, 138, 139, 60, 140, 141, 142, 143, 144, 145, 146, 147, 148, 149, 150, 151, 152, 153, 154, 155, 156, 157, 158, 159, 160, 161, 162, 163, 164, 165, 166, 167, 168, 169, 170, 171, 172, 173, 174, 175, 176] (by decide +kernel) (by decide +kernel)
set_option maxRecDepth 20000 in
theorem gX9_wake_X9_waitOrDie : GoodIn wsX9_wake (wsV RX9 93 RX9 yX9_waitOrDie wsX9_waitOrDie) := goodIn_app (goodIn_of _ (by decide +kernel)) ggX9_wake_X9_waitOrDie
theorem dX9_wake_0 : decode cX9_wake 0 = .ok (.iconst 0, 1) := by decide +kernel
theorem dX9_wake_1 : decode cX9_wake 1 = .ok (.istore_n 1, 1) := by decide +kernel
theorem dX9_wake_2 : decode cX9_wake 2 = .ok (.iconst 0, 1) := by decide +kernel
theorem dX9_wake_3 : decode cX9_wake 3 = .ok (.istore_n 2, 1) := by decide +kernel
theorem dX9_wake_4 : decode cX9_wake 4 = .ok (.iload_n 2, 1) := by decide +kernel
theorem dX9_wake_5 : decode cX9_wake 5 = .ok (.ldc 102, 2) := by decide +kernel
theorem dX9_wake_7 : decode cX9_wake 7 = .ok (.if_icmp .ge 128, 3) := by decide +kernel
theorem dX9_wake_10 : decode cX9_wake 10 = .ok (.iload_n 1, 1) := by decide +kernel
theorem dX9_wake_11 : decode cX9_wake 11 = .ok (.aload_n 0, 1) := by decide +kernel
theorem dX9_wake_12 : decode cX9_wake 12 = .ok (.getfield 21, 3) := by decide +kernel
theorem dX9_wake_15 : decode cX9_wake 15 = .ok (.getfield 103, 3) := by decide +kernel
theorem dX9_wake_18 : decode cX9_wake 18 = .ok (.if_icmp .ge 117, 3) := by decide +kernel
theorem dX9_wake_21 : decode cX9_wake 21 = .ok (.aload_n 0, 1) := by decide +kernel
theorem dX9_wake_22 : decode cX9_wake 22 = .ok (.getfield 21, 3) := by decide +kernel
theorem dX9_wake_25 : decode cX9_wake 25 = .ok (.getfield 106, 3) := by decide +kernel
theorem dX9_wake_28 : decode cX9_wake 28 = .ok (.iload_n 1, 1) := by decide +kernel
theorem dX9_wake_29 : decode cX9_wake 29 = .ok (.iaload, 1) := by decide +kernel
theorem dX9_wake_30 : decode cX9_wake 30 = .ok (.istore_n 3, 1) := by decide +kernel
theorem dX9_wake_31 : decode cX9_wake 31 = .ok (.aload_n 0, 1) := by decide +kernel
theorem dX9_wake_32 : decode cX9_wake 32 = .ok (.iload_n 3, 1) := by decide +kernel
theorem dX9_wake_33 : decode cX9_wake 33 = .ok (.invokevirtual 89, 3) := by decide +kernel
theorem dX9_wake_36 : decode cX9_wake 36 = .ok (.istore 4, 2) := by decide +kernel
theorem dX9_wake_38 : decode cX9_wake 38 = .ok (.iload 4, 2) := by decide +kernel
theorem dX9_wake_40 : decode cX9_wake 40 = .ok (.bipush (-2), 2) := by decide +kernel
theorem dX9_wake_42 : decode cX9_wake 42 = .ok (.if_icmp .ne 41, 3) := by decide +kernel
theorem dX9_wake_45 : decode cX9_wake 45 = .ok (.aload_n 0, 1) := by decide +kernel
theorem dX9_wake_46 : decode cX9_wake 46 = .ok (.getfield 109, 3) := by decide +kernel
theorem dX9_wake_49 : decode cX9_wake 49 = .ok (.aload_n 0, 1) := by decide +kernel
theorem dX9_wake_50 : decode cX9_wake 50 = .ok (.getfield 21, 3) := by decide +kernel
theorem dX9_wake_53 : decode cX9_wake 53 = .ok (.getfield 112, 3) := by decide +kernel
theorem dX9_wake_56 : decode cX9_wake 56 = .ok (.iload_n 3, 1) := by decide +kernel
theorem dX9_wake_57 : decode cX9_wake 57 = .ok (.iaload, 1) := by decide +kernel
theorem dX9_wake_58 : decode cX9_wake 58 = .ok (.if_icmp .ne 25, 3) := by decide +kernel
theorem dX9_wake_61 : decode cX9_wake 61 = .ok (.aload_n 0, 1) := by decide +kernel
theorem dX9_wake_62 : decode cX9_wake 62 = .ok (.getfield 114, 3) := by decide +kernel
theorem dX9_wake_65 : decode cX9_wake 65 = .ok (.aload_n 0, 1) := by decide +kernel
theorem dX9_wake_66 : decode cX9_wake 66 = .ok (.getfield 21, 3) := by decide +kernel
theorem dX9_wake_69 : decode cX9_wake 69 = .ok (.getfield 117, 3) := by decide +kernel
theorem dX9_wake_72 : decode cX9_wake 72 = .ok (.iload_n 3, 1) := by decide +kernel
theorem dX9_wake_73 : decode cX9_wake 73 = .ok (.iaload, 1) := by decide +kernel
theorem dX9_wake_74 : decode cX9_wake 74 = .ok (.if_icmp .ne 9, 3) := by decide +kernel
theorem dX9_wake_77 : decode cX9_wake 77 = .ok (.iinc 1 1, 3) := by decide +kernel
theorem dX9_wake_80 : decode cX9_wake 80 = .ok (.goto 49, 3) := by decide +kernel
theorem dX9_wake_83 : decode cX9_wake 83 = .ok (.aload_n 0, 1) := by decide +kernel
theorem dX9_wake_84 : decode cX9_wake 84 = .ok (.getfield 21, 3) := by decide +kernel
theorem dX9_wake_87 : decode cX9_wake 87 = .ok (.iload_n 3, 1) := by decide +kernel
theorem dX9_wake_88 : decode cX9_wake 88 = .ok (.invokevirtual 119, 3) := by decide +kernel
theorem dX9_wake_91 : decode cX9_wake 91 = .ok (.aload_n 0, 1) := by decide +kernel
theorem dX9_wake_92 : decode cX9_wake 92 = .ok (.getfield 21, 3) := by decide +kernel
theorem dX9_wake_95 : decode cX9_wake 95 = .ok (.getfield 72, 3) := by decide +kernel
theorem dX9_wake_98 : decode cX9_wake 98 = .ok (.iload_n 3, 1) := by decide +kernel
theorem dX9_wake_99 : decode cX9_wake 99 = .ok (.iconst 1, 1) := by decide +kernel
theorem dX9_wake_100 : decode cX9_wake 100 = .ok (.iastore, 1) := by decide +kernel
theorem dX9_wake_101 : decode cX9_wake 101 = .ok (.aload_n 0, 1) := by decide +kernel
theorem dX9_wake_102 : decode cX9_wake 102 = .ok (.getfield 21, 3) := by decide +kernel
theorem dX9_wake_105 : decode cX9_wake 105 = .ok (.getfield 96, 3) := by decide +kernel
theorem dX9_wake_108 : decode cX9_wake 108 = .ok (.iload_n 3, 1) := by decide +kernel
theorem dX9_wake_109 : decode cX9_wake 109 = .ok (.iload 4, 2) := by decide +kernel
theorem dX9_wake_111 : decode cX9_wake 111 = .ok (.bipush (-2), 2) := by decide +kernel
theorem dX9_wake_113 : decode cX9_wake 113 = .ok (.if_icmp .ne 11, 3) := by decide +kernel
theorem dX9_wake_116 : decode cX9_wake 116 = .ok (.aload_n 0, 1) := by decide +kernel
theorem dX9_wake_117 : decode cX9_wake 117 = .ok (.iload_n 3, 1) := by decide +kernel
theorem dX9_wake_118 : decode cX9_wake 118 = .ok (.invokevirtual 93, 3) := by decide +kernel
theorem dX9_wake_121 : decode cX9_wake 121 = .ok (.goto 5, 3) := by decide +kernel
theorem dX9_wake_124 : decode cX9_wake 124 = .ok (.iload 4, 2) := by decide +kernel
theorem dX9_wake_126 : decode cX9_wake 126 = .ok (.iastore, 1) := by decide +kernel
theorem dX9_wake_127 : decode cX9_wake 127 = .ok (.iconst 0, 1) := by decide +kernel
theorem dX9_wake_128 : decode cX9_wake 128 = .ok (.istore_n 1, 1) := by decide +kernel
theorem dX9_wake_129 : decode cX9_wake 129 = .ok (.iinc 2 1, 3) := by decide +kernel
theorem dX9_wake_132 : decode cX9_wake 132 = .ok (.goto (-128), 3) := by decide +kernel
theorem dX9_wake_135 : decode cX9_wake 135 = .ok (.return_, 1) := by decide +kernel
set_option maxRecDepth 20000 in
theorem ggX9_attempt_X9_readThrough : GoodIn wsX9_attempt wsX9_readThrough := goodIn_r _ [7, 8, 1, 9, 10, 11, 12, 13, 14, 15, 16, 17, 18, 19, 20, 21, 22, 23, 24, 25, 26, 27, 28, 6, 29, 30, 31, 69, 70, 71, 72, 73, 74, 75, 76, 77, 78, 79, 80, 81, 82, 83, 84, 85, 86, 87, 88, 89, 90, 91, 92, 93, 94, 95, 96] (by decide +kernel) (by decide +kernel)
set_option maxRecDepth 20000 in
theorem gX9_attempt_X9_readThrough : GoodIn wsX9_attempt (wsV RX9 125 RX9 yX9_readThrough wsX9_readThrough) := goodIn_app (goodIn_of _ (by decide +kernel)) ggX9_attempt_X9_readThrough
set_option maxRecDepth 20000 in
theorem ggX9_attempt_X9_bring : GoodIn wsX9_attempt wsX9_bring := goodIn_r _ [35, 1, 9, 8, 17, 36, 18, 37, 10, 38, 14, 39, 19, 20, 21, 22, 23, 24, 25, 40, 41, 42, 43, 44, 45, 46, 47, 48, 49, 50, 51, 52, 53, 6, 54, 16, 15, 26, 27, 28, 29, 30, 31, 55, 56, 57, 58, 59, 60, 61, 62, 63, 64, 69, 70, 71, 72, 73, 74, 75, 76, 77, 78, 79, 80, 81, 82, 83, 84, 85, 86, 87, 88, 89, 90, 91, 92, 93, 94, 95, 96, 97, 98] (by decide +kernel) (by decide +kernel)
set_option maxRecDepth 20000 in
theorem gX9_attempt_X9_bring : GoodIn wsX9_attempt (wsV RX9 128 RX9 yX9_bring wsX9_bring) := goodIn_app (goodIn_of _ (by decide +kernel)) ggX9_attempt_X9_bring
set_option maxRecDepth 20000 in
theorem ggX9_attempt_X9_reach : GoodIn wsX9_attempt wsX9_reach := goodIn_r _ [68, 1, 2, 9, 8, 13, 14, 17, 18, 36, 37, 19, 20, 21, 22, 23, 24, 25, 40, 41, 42, 43, 51, 52, 53, 6, 54, 16, 15, 26, 27, 28, 29, 30, 31, 44, 45, 46, 47, 48, 49, 50, 69, 70, 71, 72, 73, 74, 75, 76, 77, 78, 79, 80, 81, 82, 83, 84, 85, 86, 87, 88, 89, 90, 91, 92, 93, 94, 95, 96, 97, 98] (by decide +kernel) (by decide +kernel)
set_option maxRecDepth 20000 in
theorem gX9_attempt_X9_reach : GoodIn wsX9_attempt (wsV RX9 131 RX9 yX9_reach wsX9_reach) := goodIn_app (goodIn_of _ (by decide +kernel)) ggX9_attempt_X9_reach
theorem dX9_attempt_0 : decode cX9_attempt 0 = .ok (.aload_n 0, 1) := by decide +kernel
theorem dX9_attempt_1 : decode cX9_attempt 1 = .ok (.getfield 21, 3) := by decide +kernel
theorem dX9_attempt_4 : decode cX9_attempt 4 = .ok (.getfield 122, 3) := by decide +kernel
theorem dX9_attempt_7 : decode cX9_attempt 7 = .ok (.iload_n 1, 1) := by decide +kernel
theorem dX9_attempt_8 : decode cX9_attempt 8 = .ok (.iaload, 1) := by decide +kernel
theorem dX9_attempt_9 : decode cX9_attempt 9 = .ok (.lookupswitch 39 #[(1, 27), (5, 33)], 27) := by decide +kernel
theorem dX9_attempt_36 : decode cX9_attempt 36 = .ok (.aload_n 0, 1) := by decide +kernel
theorem dX9_attempt_37 : decode cX9_attempt 37 = .ok (.iload_n 1, 1) := by decide +kernel
theorem dX9_attempt_38 : decode cX9_attempt 38 = .ok (.invokevirtual 125, 3) := by decide +kernel
theorem dX9_attempt_41 : decode cX9_attempt 41 = .ok (.ireturn, 1) := by decide +kernel
theorem dX9_attempt_42 : decode cX9_attempt 42 = .ok (.aload_n 0, 1) := by decide +kernel
theorem dX9_attempt_43 : decode cX9_attempt 43 = .ok (.iload_n 1, 1) := by decide +kernel
theorem dX9_attempt_44 : decode cX9_attempt 44 = .ok (.invokevirtual 128, 3) := by decide +kernel
theorem dX9_attempt_47 : decode cX9_attempt 47 = .ok (.ireturn, 1) := by decide +kernel
theorem dX9_attempt_48 : decode cX9_attempt 48 = .ok (.aload_n 0, 1) := by decide +kernel
theorem dX9_attempt_49 : decode cX9_attempt 49 = .ok (.iload_n 1, 1) := by decide +kernel
theorem dX9_attempt_50 : decode cX9_attempt 50 = .ok (.invokevirtual 131, 3) := by decide +kernel
theorem dX9_attempt_53 : decode cX9_attempt 53 = .ok (.ireturn, 1) := by decide +kernel
theorem dX9_stoppedAt_0 : decode cX9_stoppedAt 0 = .ok (.aload_n 0, 1) := by decide +kernel
theorem dX9_stoppedAt_1 : decode cX9_stoppedAt 1 = .ok (.iload_n 1, 1) := by decide +kernel
theorem dX9_stoppedAt_2 : decode cX9_stoppedAt 2 = .ok (.putfield 109, 3) := by decide +kernel
theorem dX9_stoppedAt_5 : decode cX9_stoppedAt 5 = .ok (.aload_n 0, 1) := by decide +kernel
theorem dX9_stoppedAt_6 : decode cX9_stoppedAt 6 = .ok (.iload_n 2, 1) := by decide +kernel
theorem dX9_stoppedAt_7 : decode cX9_stoppedAt 7 = .ok (.putfield 114, 3) := by decide +kernel
theorem dX9_stoppedAt_10 : decode cX9_stoppedAt 10 = .ok (.bipush (-2), 2) := by decide +kernel
theorem dX9_stoppedAt_12 : decode cX9_stoppedAt 12 = .ok (.ireturn, 1) := by decide +kernel
set_option maxRecDepth 20000 in
theorem ggX9_readThrough_X7_placeFrom : GoodIn wsX9_readThrough wsX7_placeFrom := goodIn_r _ [17, 18, 19, 47, 48, 49, 50, 51, 52, 53, 54] (by decide +kernel) (by decide +kernel)
set_option maxRecDepth 20000 in
theorem gX9_readThrough_X7_placeFrom : GoodIn wsX9_readThrough (wsV RX9 137 RX7 yX7_placeFrom wsX7_placeFrom) := goodIn_app (goodIn_of _ (by decide +kernel)) ggX9_readThrough_X7_placeFrom
set_option maxRecDepth 20000 in
theorem ggX9_readThrough_X9_stoppedAt : GoodIn wsX9_readThrough wsX9_stoppedAt := goodIn_r _ [24, 25, 26, 27, 28, 29, 30, 31, 32, 33, 34] (by decide +kernel) (by decide +kernel)
set_option maxRecDepth 20000 in
theorem gX9_readThrough_X9_stoppedAt : GoodIn wsX9_readThrough (wsV RX9 155 RX9 yX9_stoppedAt wsX9_stoppedAt) := goodIn_app (goodIn_of _ (by decide +kernel)) ggX9_readThrough_X9_stoppedAt
theorem dX9_readThrough_0 : decode cX9_readThrough 0 = .ok (.iconst 1, 1) := by decide +kernel
theorem dX9_readThrough_1 : decode cX9_readThrough 1 = .ok (.iload_n 1, 1) := by decide +kernel
theorem dX9_readThrough_2 : decode cX9_readThrough 2 = .ok (.ishl, 1) := by decide +kernel
theorem dX9_readThrough_3 : decode cX9_readThrough 3 = .ok (.istore_n 2, 1) := by decide +kernel
theorem dX9_readThrough_4 : decode cX9_readThrough 4 = .ok (.iconst 0, 1) := by decide +kernel
theorem dX9_readThrough_5 : decode cX9_readThrough 5 = .ok (.istore_n 3, 1) := by decide +kernel
theorem dX9_readThrough_6 : decode cX9_readThrough 6 = .ok (.aload_n 0, 1) := by decide +kernel
theorem dX9_readThrough_7 : decode cX9_readThrough 7 = .ok (.getfield 12, 3) := by decide +kernel
theorem dX9_readThrough_10 : decode cX9_readThrough 10 = .ok (.aload_n 0, 1) := by decide +kernel
theorem dX9_readThrough_11 : decode cX9_readThrough 11 = .ok (.getfield 21, 3) := by decide +kernel
theorem dX9_readThrough_14 : decode cX9_readThrough 14 = .ok (.getfield 134, 3) := by decide +kernel
theorem dX9_readThrough_17 : decode cX9_readThrough 17 = .ok (.iload_n 1, 1) := by decide +kernel
theorem dX9_readThrough_18 : decode cX9_readThrough 18 = .ok (.iaload, 1) := by decide +kernel
theorem dX9_readThrough_19 : decode cX9_readThrough 19 = .ok (.invokevirtual 137, 3) := by decide +kernel
theorem dX9_readThrough_22 : decode cX9_readThrough 22 = .ok (.istore 4, 2) := by decide +kernel
theorem dX9_readThrough_24 : decode cX9_readThrough 24 = .ok (.iload 4, 2) := by decide +kernel
theorem dX9_readThrough_26 : decode cX9_readThrough 26 = .ok (.aload_n 0, 1) := by decide +kernel
theorem dX9_readThrough_27 : decode cX9_readThrough 27 = .ok (.getfield 12, 3) := by decide +kernel
theorem dX9_readThrough_30 : decode cX9_readThrough 30 = .ok (.getfield 140, 3) := by decide +kernel
theorem dX9_readThrough_33 : decode cX9_readThrough 33 = .ok (.if_icmp .ge 130, 3) := by decide +kernel
theorem dX9_readThrough_36 : decode cX9_readThrough 36 = .ok (.aload_n 0, 1) := by decide +kernel
theorem dX9_readThrough_37 : decode cX9_readThrough 37 = .ok (.getfield 12, 3) := by decide +kernel
theorem dX9_readThrough_40 : decode cX9_readThrough 40 = .ok (.getfield 143, 3) := by decide +kernel
theorem dX9_readThrough_43 : decode cX9_readThrough 43 = .ok (.iload 4, 2) := by decide +kernel
theorem dX9_readThrough_45 : decode cX9_readThrough 45 = .ok (.iaload, 1) := by decide +kernel
theorem dX9_readThrough_46 : decode cX9_readThrough 46 = .ok (.aload_n 0, 1) := by decide +kernel
theorem dX9_readThrough_47 : decode cX9_readThrough 47 = .ok (.getfield 21, 3) := by decide +kernel
theorem dX9_readThrough_50 : decode cX9_readThrough 50 = .ok (.getfield 146, 3) := by decide +kernel
theorem dX9_readThrough_53 : decode cX9_readThrough 53 = .ok (.iload_n 1, 1) := by decide +kernel
theorem dX9_readThrough_54 : decode cX9_readThrough 54 = .ok (.iaload, 1) := by decide +kernel
theorem dX9_readThrough_55 : decode cX9_readThrough 55 = .ok (.if_icmp .gt 108, 3) := by decide +kernel
theorem dX9_readThrough_58 : decode cX9_readThrough 58 = .ok (.aload_n 0, 1) := by decide +kernel
theorem dX9_readThrough_59 : decode cX9_readThrough 59 = .ok (.getfield 56, 3) := by decide +kernel
theorem dX9_readThrough_62 : decode cX9_readThrough 62 = .ok (.ifCond .ne 64, 3) := by decide +kernel
theorem dX9_readThrough_65 : decode cX9_readThrough 65 = .ok (.aload_n 0, 1) := by decide +kernel
theorem dX9_readThrough_66 : decode cX9_readThrough 66 = .ok (.getfield 12, 3) := by decide +kernel
theorem dX9_readThrough_69 : decode cX9_readThrough 69 = .ok (.getfield 149, 3) := by decide +kernel
theorem dX9_readThrough_72 : decode cX9_readThrough 72 = .ok (.iload 4, 2) := by decide +kernel
theorem dX9_readThrough_74 : decode cX9_readThrough 74 = .ok (.dup2, 1) := by decide +kernel
theorem dX9_readThrough_75 : decode cX9_readThrough 75 = .ok (.iaload, 1) := by decide +kernel
theorem dX9_readThrough_76 : decode cX9_readThrough 76 = .ok (.iload_n 2, 1) := by decide +kernel
theorem dX9_readThrough_77 : decode cX9_readThrough 77 = .ok (.ior, 1) := by decide +kernel
theorem dX9_readThrough_78 : decode cX9_readThrough 78 = .ok (.iastore, 1) := by decide +kernel
theorem dX9_readThrough_79 : decode cX9_readThrough 79 = .ok (.aload_n 0, 1) := by decide +kernel
theorem dX9_readThrough_80 : decode cX9_readThrough 80 = .ok (.getfield 12, 3) := by decide +kernel
theorem dX9_readThrough_83 : decode cX9_readThrough 83 = .ok (.getfield 152, 3) := by decide +kernel
theorem dX9_readThrough_86 : decode cX9_readThrough 86 = .ok (.iload 4, 2) := by decide +kernel
theorem dX9_readThrough_88 : decode cX9_readThrough 88 = .ok (.iaload, 1) := by decide +kernel
theorem dX9_readThrough_89 : decode cX9_readThrough 89 = .ok (.iload_n 2, 1) := by decide +kernel
theorem dX9_readThrough_90 : decode cX9_readThrough 90 = .ok (.iconst (-1), 1) := by decide +kernel
theorem dX9_readThrough_91 : decode cX9_readThrough 91 = .ok (.ixor, 1) := by decide +kernel
theorem dX9_readThrough_92 : decode cX9_readThrough 92 = .ok (.iand, 1) := by decide +kernel
theorem dX9_readThrough_93 : decode cX9_readThrough 93 = .ok (.ifCond .eq 19, 3) := by decide +kernel
theorem dX9_readThrough_96 : decode cX9_readThrough 96 = .ok (.aload_n 0, 1) := by decide +kernel
theorem dX9_readThrough_97 : decode cX9_readThrough 97 = .ok (.iconst 1, 1) := by decide +kernel
theorem dX9_readThrough_98 : decode cX9_readThrough 98 = .ok (.aload_n 0, 1) := by decide +kernel
theorem dX9_readThrough_99 : decode cX9_readThrough 99 = .ok (.getfield 12, 3) := by decide +kernel
theorem dX9_readThrough_102 : decode cX9_readThrough 102 = .ok (.getfield 143, 3) := by decide +kernel
theorem dX9_readThrough_105 : decode cX9_readThrough 105 = .ok (.iload 4, 2) := by decide +kernel
theorem dX9_readThrough_107 : decode cX9_readThrough 107 = .ok (.iaload, 1) := by decide +kernel
theorem dX9_readThrough_108 : decode cX9_readThrough 108 = .ok (.invokevirtual 155, 3) := by decide +kernel
theorem dX9_readThrough_111 : decode cX9_readThrough 111 = .ok (.ireturn, 1) := by decide +kernel
theorem dX9_readThrough_112 : decode cX9_readThrough 112 = .ok (.aload_n 0, 1) := by decide +kernel
theorem dX9_readThrough_113 : decode cX9_readThrough 113 = .ok (.getfield 12, 3) := by decide +kernel
theorem dX9_readThrough_116 : decode cX9_readThrough 116 = .ok (.getfield 159, 3) := by decide +kernel
theorem dX9_readThrough_119 : decode cX9_readThrough 119 = .ok (.iload 4, 2) := by decide +kernel
theorem dX9_readThrough_121 : decode cX9_readThrough 121 = .ok (.dup2, 1) := by decide +kernel
theorem dX9_readThrough_122 : decode cX9_readThrough 122 = .ok (.iaload, 1) := by decide +kernel
theorem dX9_readThrough_123 : decode cX9_readThrough 123 = .ok (.iload_n 2, 1) := by decide +kernel
theorem dX9_readThrough_124 : decode cX9_readThrough 124 = .ok (.ior, 1) := by decide +kernel
theorem dX9_readThrough_125 : decode cX9_readThrough 125 = .ok (.iastore, 1) := by decide +kernel
theorem dX9_readThrough_126 : decode cX9_readThrough 126 = .ok (.iload_n 3, 1) := by decide +kernel
theorem dX9_readThrough_127 : decode cX9_readThrough 127 = .ok (.aload_n 0, 1) := by decide +kernel
theorem dX9_readThrough_128 : decode cX9_readThrough 128 = .ok (.getfield 12, 3) := by decide +kernel
theorem dX9_readThrough_131 : decode cX9_readThrough 131 = .ok (.getfield 162, 3) := by decide +kernel
theorem dX9_readThrough_134 : decode cX9_readThrough 134 = .ok (.iload 4, 2) := by decide +kernel
theorem dX9_readThrough_136 : decode cX9_readThrough 136 = .ok (.iaload, 1) := by decide +kernel
theorem dX9_readThrough_137 : decode cX9_readThrough 137 = .ok (.iload_n 1, 1) := by decide +kernel
theorem dX9_readThrough_138 : decode cX9_readThrough 138 = .ok (.if_icmp .ne 7, 3) := by decide +kernel
theorem dX9_readThrough_141 : decode cX9_readThrough 141 = .ok (.iconst 0, 1) := by decide +kernel
theorem dX9_readThrough_142 : decode cX9_readThrough 142 = .ok (.goto 13, 3) := by decide +kernel
theorem dX9_readThrough_145 : decode cX9_readThrough 145 = .ok (.aload_n 0, 1) := by decide +kernel
theorem dX9_readThrough_146 : decode cX9_readThrough 146 = .ok (.getfield 12, 3) := by decide +kernel
theorem dX9_readThrough_149 : decode cX9_readThrough 149 = .ok (.getfield 165, 3) := by decide +kernel
theorem dX9_readThrough_152 : decode cX9_readThrough 152 = .ok (.iload 4, 2) := by decide +kernel
theorem dX9_readThrough_154 : decode cX9_readThrough 154 = .ok (.iaload, 1) := by decide +kernel
theorem dX9_readThrough_155 : decode cX9_readThrough 155 = .ok (.iadd, 1) := by decide +kernel
theorem dX9_readThrough_156 : decode cX9_readThrough 156 = .ok (.istore_n 3, 1) := by decide +kernel
theorem dX9_readThrough_157 : decode cX9_readThrough 157 = .ok (.iinc 4 1, 3) := by decide +kernel
theorem dX9_readThrough_160 : decode cX9_readThrough 160 = .ok (.goto (-136), 3) := by decide +kernel
theorem dX9_readThrough_163 : decode cX9_readThrough 163 = .ok (.aload_n 0, 1) := by decide +kernel
theorem dX9_readThrough_164 : decode cX9_readThrough 164 = .ok (.getfield 56, 3) := by decide +kernel
theorem dX9_readThrough_167 : decode cX9_readThrough 167 = .ok (.ifCond .ne 17, 3) := by decide +kernel
theorem dX9_readThrough_170 : decode cX9_readThrough 170 = .ok (.aload_n 0, 1) := by decide +kernel
theorem dX9_readThrough_171 : decode cX9_readThrough 171 = .ok (.getfield 12, 3) := by decide +kernel
theorem dX9_readThrough_174 : decode cX9_readThrough 174 = .ok (.getfield 149, 3) := by decide +kernel
theorem dX9_readThrough_177 : decode cX9_readThrough 177 = .ok (.iload 4, 2) := by decide +kernel
theorem dX9_readThrough_179 : decode cX9_readThrough 179 = .ok (.dup2, 1) := by decide +kernel
theorem dX9_readThrough_180 : decode cX9_readThrough 180 = .ok (.iaload, 1) := by decide +kernel
theorem dX9_readThrough_181 : decode cX9_readThrough 181 = .ok (.iload_n 2, 1) := by decide +kernel
theorem dX9_readThrough_182 : decode cX9_readThrough 182 = .ok (.ior, 1) := by decide +kernel
theorem dX9_readThrough_183 : decode cX9_readThrough 183 = .ok (.iastore, 1) := by decide +kernel
theorem dX9_readThrough_184 : decode cX9_readThrough 184 = .ok (.iload_n 3, 1) := by decide +kernel
theorem dX9_readThrough_185 : decode cX9_readThrough 185 = .ok (.ireturn, 1) := by decide +kernel
set_option maxRecDepth 20000 in
theorem ggX9_reach_X7_placeFrom : GoodIn wsX9_reach wsX7_placeFrom := goodIn_r _ [15, 16, 17, 62, 63, 64, 65, 66, 67, 68, 69] (by decide +kernel) (by decide +kernel)
set_option maxRecDepth 20000 in
theorem gX9_reach_X7_placeFrom : GoodIn wsX9_reach (wsV RX9 137 RX7 yX7_placeFrom wsX7_placeFrom) := goodIn_app (goodIn_of _ (by decide +kernel)) ggX9_reach_X7_placeFrom
set_option maxRecDepth 20000 in
theorem ggX9_reach_X7_hasAt : GoodIn wsX9_reach wsX7_hasAt := goodIn_r _ [21, 16, 17, 62, 63, 64, 65, 66, 67, 68, 69] (by decide +kernel) (by decide +kernel)
set_option maxRecDepth 20000 in
theorem gX9_reach_X7_hasAt : GoodIn wsX9_reach (wsV RX9 168 RX7 yX7_hasAt wsX7_hasAt) := goodIn_app (goodIn_of _ (by decide +kernel)) ggX9_reach_X7_hasAt
set_option maxRecDepth 20000 in
theorem ggX9_reach_X9_locked : GoodIn wsX9_reach wsX9_locked := goodIn_r _ [26, 4, 27, 28, 42, 43, 44, 45, 46, 47, 48, 49, 62, 63, 64, 65, 66, 67, 68, 69] (by decide +kernel) (by decide +kernel)
set_option maxRecDepth 20000 in
theorem gX9_reach_X9_locked : GoodIn wsX9_reach (wsV RX9 171 RX9 yX9_locked wsX9_locked) := goodIn_app (goodIn_of _ (by decide +kernel)) ggX9_reach_X9_locked
set_option maxRecDepth 20000 in
theorem ggX9_reach_X9_stoppedAt : GoodIn wsX9_reach wsX9_stoppedAt := goodIn_r _ [32, 33, 34, 42, 43, 44, 45, 46, 47, 48, 49] (by decide +kernel) (by decide +kernel)
set_option maxRecDepth 20000 in
theorem gX9_reach_X9_stoppedAt : GoodIn wsX9_reach (wsV RX9 155 RX9 yX9_stoppedAt wsX9_stoppedAt) := goodIn_app (goodIn_of _ (by decide +kernel)) ggX9_reach_X9_stoppedAt
set_option maxRecDepth 20000 in
theorem ggX9_reach_X3_note : GoodIn wsX9_reach wsX3_note := goodIn_r _ [39, 40, 41, 70, 71] (by decide +kernel) (by decide +kernel)
set_option maxRecDepth 20000 in
theorem gX9_reach_X3_note : GoodIn wsX9_reach (wsV RX9 175 RX3 yX3_note wsX3_note) := goodIn_app (goodIn_of _ (by decide +kernel)) ggX9_reach_X3_note
theorem dX9_reach_0 : decode cX9_reach 0 = .ok (.aload_n 0, 1) := by decide +kernel
theorem dX9_reach_1 : decode cX9_reach 1 = .ok (.getfield 21, 3) := by decide +kernel
theorem dX9_reach_4 : decode cX9_reach 4 = .ok (.getfield 122, 3) := by decide +kernel
theorem dX9_reach_7 : decode cX9_reach 7 = .ok (.iload_n 1, 1) := by decide +kernel
theorem dX9_reach_8 : decode cX9_reach 8 = .ok (.iaload, 1) := by decide +kernel
theorem dX9_reach_9 : decode cX9_reach 9 = .ok (.istore_n 2, 1) := by decide +kernel
theorem dX9_reach_10 : decode cX9_reach 10 = .ok (.aload_n 0, 1) := by decide +kernel
theorem dX9_reach_11 : decode cX9_reach 11 = .ok (.getfield 21, 3) := by decide +kernel
theorem dX9_reach_14 : decode cX9_reach 14 = .ok (.getfield 134, 3) := by decide +kernel
theorem dX9_reach_17 : decode cX9_reach 17 = .ok (.iload_n 1, 1) := by decide +kernel
theorem dX9_reach_18 : decode cX9_reach 18 = .ok (.iaload, 1) := by decide +kernel
theorem dX9_reach_19 : decode cX9_reach 19 = .ok (.istore_n 3, 1) := by decide +kernel
theorem dX9_reach_20 : decode cX9_reach 20 = .ok (.aload_n 0, 1) := by decide +kernel
theorem dX9_reach_21 : decode cX9_reach 21 = .ok (.getfield 12, 3) := by decide +kernel
theorem dX9_reach_24 : decode cX9_reach 24 = .ok (.iload_n 3, 1) := by decide +kernel
theorem dX9_reach_25 : decode cX9_reach 25 = .ok (.invokevirtual 137, 3) := by decide +kernel
theorem dX9_reach_28 : decode cX9_reach 28 = .ok (.istore 4, 2) := by decide +kernel
theorem dX9_reach_30 : decode cX9_reach 30 = .ok (.aload_n 0, 1) := by decide +kernel
theorem dX9_reach_31 : decode cX9_reach 31 = .ok (.getfield 12, 3) := by decide +kernel
theorem dX9_reach_34 : decode cX9_reach 34 = .ok (.iload 4, 2) := by decide +kernel
theorem dX9_reach_36 : decode cX9_reach 36 = .ok (.iload_n 3, 1) := by decide +kernel
theorem dX9_reach_37 : decode cX9_reach 37 = .ok (.invokevirtual 168, 3) := by decide +kernel
theorem dX9_reach_40 : decode cX9_reach 40 = .ok (.istore 5, 2) := by decide +kernel
theorem dX9_reach_42 : decode cX9_reach 42 = .ok (.iload_n 2, 1) := by decide +kernel
theorem dX9_reach_43 : decode cX9_reach 43 = .ok (.iconst 2, 1) := by decide +kernel
theorem dX9_reach_44 : decode cX9_reach 44 = .ok (.if_icmp .ne 10, 3) := by decide +kernel
theorem dX9_reach_47 : decode cX9_reach 47 = .ok (.aload_n 0, 1) := by decide +kernel
theorem dX9_reach_48 : decode cX9_reach 48 = .ok (.getfield 56, 3) := by decide +kernel
theorem dX9_reach_51 : decode cX9_reach 51 = .ok (.ifCond .ne 63, 3) := by decide +kernel
theorem dX9_reach_54 : decode cX9_reach 54 = .ok (.iload 5, 2) := by decide +kernel
theorem dX9_reach_56 : decode cX9_reach 56 = .ok (.ifCond .ne 22, 3) := by decide +kernel
theorem dX9_reach_59 : decode cX9_reach 59 = .ok (.aload_n 0, 1) := by decide +kernel
theorem dX9_reach_60 : decode cX9_reach 60 = .ok (.getfield 12, 3) := by decide +kernel
theorem dX9_reach_63 : decode cX9_reach 63 = .ok (.getfield 149, 3) := by decide +kernel
theorem dX9_reach_66 : decode cX9_reach 66 = .ok (.iload 4, 2) := by decide +kernel
theorem dX9_reach_68 : decode cX9_reach 68 = .ok (.dup2, 1) := by decide +kernel
theorem dX9_reach_69 : decode cX9_reach 69 = .ok (.iaload, 1) := by decide +kernel
theorem dX9_reach_70 : decode cX9_reach 70 = .ok (.iconst 1, 1) := by decide +kernel
theorem dX9_reach_71 : decode cX9_reach 71 = .ok (.iload_n 1, 1) := by decide +kernel
theorem dX9_reach_72 : decode cX9_reach 72 = .ok (.ishl, 1) := by decide +kernel
theorem dX9_reach_73 : decode cX9_reach 73 = .ok (.ior, 1) := by decide +kernel
theorem dX9_reach_74 : decode cX9_reach 74 = .ok (.iastore, 1) := by decide +kernel
theorem dX9_reach_75 : decode cX9_reach 75 = .ok (.goto 39, 3) := by decide +kernel
theorem dX9_reach_78 : decode cX9_reach 78 = .ok (.aload_n 0, 1) := by decide +kernel
theorem dX9_reach_79 : decode cX9_reach 79 = .ok (.iload_n 1, 1) := by decide +kernel
theorem dX9_reach_80 : decode cX9_reach 80 = .ok (.iload 4, 2) := by decide +kernel
theorem dX9_reach_82 : decode cX9_reach 82 = .ok (.iload_n 2, 1) := by decide +kernel
theorem dX9_reach_83 : decode cX9_reach 83 = .ok (.iconst 2, 1) := by decide +kernel
theorem dX9_reach_84 : decode cX9_reach 84 = .ok (.if_icmp .eq 7, 3) := by decide +kernel
theorem dX9_reach_87 : decode cX9_reach 87 = .ok (.iconst 1, 1) := by decide +kernel
theorem dX9_reach_88 : decode cX9_reach 88 = .ok (.goto 4, 3) := by decide +kernel
theorem dX9_reach_91 : decode cX9_reach 91 = .ok (.iconst 0, 1) := by decide +kernel
theorem dX9_reach_92 : decode cX9_reach 92 = .ok (.invokevirtual 171, 3) := by decide +kernel
theorem dX9_reach_95 : decode cX9_reach 95 = .ok (.ifCond .ne 19, 3) := by decide +kernel
theorem dX9_reach_98 : decode cX9_reach 98 = .ok (.aload_n 0, 1) := by decide +kernel
theorem dX9_reach_99 : decode cX9_reach 99 = .ok (.iload_n 2, 1) := by decide +kernel
theorem dX9_reach_100 : decode cX9_reach 100 = .ok (.iconst 2, 1) := by decide +kernel
theorem dX9_reach_101 : decode cX9_reach 101 = .ok (.if_icmp .ne 7, 3) := by decide +kernel
theorem dX9_reach_104 : decode cX9_reach 104 = .ok (.iconst 1, 1) := by decide +kernel
theorem dX9_reach_105 : decode cX9_reach 105 = .ok (.goto 4, 3) := by decide +kernel
theorem dX9_reach_108 : decode cX9_reach 108 = .ok (.iconst 2, 1) := by decide +kernel
theorem dX9_reach_109 : decode cX9_reach 109 = .ok (.iload_n 3, 1) := by decide +kernel
theorem dX9_reach_110 : decode cX9_reach 110 = .ok (.invokevirtual 155, 3) := by decide +kernel
theorem dX9_reach_113 : decode cX9_reach 113 = .ok (.ireturn, 1) := by decide +kernel
theorem dX9_reach_114 : decode cX9_reach 114 = .ok (.iload 5, 2) := by decide +kernel
theorem dX9_reach_116 : decode cX9_reach 116 = .ok (.ifCond .eq 17, 3) := by decide +kernel
theorem dX9_reach_119 : decode cX9_reach 119 = .ok (.aload_n 0, 1) := by decide +kernel
theorem dX9_reach_120 : decode cX9_reach 120 = .ok (.getfield 12, 3) := by decide +kernel
theorem dX9_reach_123 : decode cX9_reach 123 = .ok (.getfield 162, 3) := by decide +kernel
theorem dX9_reach_126 : decode cX9_reach 126 = .ok (.iload 4, 2) := by decide +kernel
theorem dX9_reach_128 : decode cX9_reach 128 = .ok (.iaload, 1) := by decide +kernel
theorem dX9_reach_129 : decode cX9_reach 129 = .ok (.iload_n 1, 1) := by decide +kernel
theorem dX9_reach_130 : decode cX9_reach 130 = .ok (.if_icmp .ne 6, 3) := by decide +kernel
theorem dX9_reach_133 : decode cX9_reach 133 = .ok (.bipush (-4), 2) := by decide +kernel
theorem dX9_reach_135 : decode cX9_reach 135 = .ok (.ireturn, 1) := by decide +kernel
theorem dX9_reach_136 : decode cX9_reach 136 = .ok (.aload_n 0, 1) := by decide +kernel
theorem dX9_reach_137 : decode cX9_reach 137 = .ok (.getfield 12, 3) := by decide +kernel
theorem dX9_reach_140 : decode cX9_reach 140 = .ok (.getfield 165, 3) := by decide +kernel
theorem dX9_reach_143 : decode cX9_reach 143 = .ok (.iload 4, 2) := by decide +kernel
theorem dX9_reach_145 : decode cX9_reach 145 = .ok (.iaload, 1) := by decide +kernel
theorem dX9_reach_146 : decode cX9_reach 146 = .ok (.istore 6, 2) := by decide +kernel
theorem dX9_reach_148 : decode cX9_reach 148 = .ok (.iload_n 2, 1) := by decide +kernel
theorem dX9_reach_149 : decode cX9_reach 149 = .ok (.iconst 4, 1) := by decide +kernel
theorem dX9_reach_150 : decode cX9_reach 150 = .ok (.if_icmp .ne 37, 3) := by decide +kernel
theorem dX9_reach_153 : decode cX9_reach 153 = .ok (.aload_n 0, 1) := by decide +kernel
theorem dX9_reach_154 : decode cX9_reach 154 = .ok (.getfield 28, 3) := by decide +kernel
theorem dX9_reach_157 : decode cX9_reach 157 = .ok (.iload_n 1, 1) := by decide +kernel
theorem dX9_reach_158 : decode cX9_reach 158 = .ok (.iconst 0, 1) := by decide +kernel
theorem dX9_reach_159 : decode cX9_reach 159 = .ok (.iload_n 3, 1) := by decide +kernel
theorem dX9_reach_160 : decode cX9_reach 160 = .ok (.iload 6, 2) := by decide +kernel
theorem dX9_reach_162 : decode cX9_reach 162 = .ok (.invokevirtual 175, 3) := by decide +kernel
theorem dX9_reach_165 : decode cX9_reach 165 = .ok (.aload_n 0, 1) := by decide +kernel
theorem dX9_reach_166 : decode cX9_reach 166 = .ok (.getfield 12, 3) := by decide +kernel
theorem dX9_reach_169 : decode cX9_reach 169 = .ok (.getfield 165, 3) := by decide +kernel
theorem dX9_reach_172 : decode cX9_reach 172 = .ok (.iload 4, 2) := by decide +kernel
theorem dX9_reach_174 : decode cX9_reach 174 = .ok (.aload_n 0, 1) := by decide +kernel
theorem dX9_reach_175 : decode cX9_reach 175 = .ok (.getfield 21, 3) := by decide +kernel
theorem dX9_reach_178 : decode cX9_reach 178 = .ok (.getfield 179, 3) := by decide +kernel
theorem dX9_reach_181 : decode cX9_reach 181 = .ok (.iload_n 1, 1) := by decide +kernel
theorem dX9_reach_182 : decode cX9_reach 182 = .ok (.iaload, 1) := by decide +kernel
theorem dX9_reach_183 : decode cX9_reach 183 = .ok (.iastore, 1) := by decide +kernel
theorem dX9_reach_184 : decode cX9_reach 184 = .ok (.goto 32, 3) := by decide +kernel
theorem dX9_reach_187 : decode cX9_reach 187 = .ok (.iload_n 2, 1) := by decide +kernel
theorem dX9_reach_188 : decode cX9_reach 188 = .ok (.bipush 6, 2) := by decide +kernel
theorem dX9_reach_190 : decode cX9_reach 190 = .ok (.if_icmp .ne 26, 3) := by decide +kernel
theorem dX9_reach_193 : decode cX9_reach 193 = .ok (.aload_n 0, 1) := by decide +kernel
theorem dX9_reach_194 : decode cX9_reach 194 = .ok (.getfield 28, 3) := by decide +kernel
theorem dX9_reach_197 : decode cX9_reach 197 = .ok (.iload_n 1, 1) := by decide +kernel
theorem dX9_reach_198 : decode cX9_reach 198 = .ok (.iconst 1, 1) := by decide +kernel
theorem dX9_reach_199 : decode cX9_reach 199 = .ok (.iload_n 3, 1) := by decide +kernel
theorem dX9_reach_200 : decode cX9_reach 200 = .ok (.iload 6, 2) := by decide +kernel
theorem dX9_reach_202 : decode cX9_reach 202 = .ok (.invokevirtual 175, 3) := by decide +kernel
theorem dX9_reach_205 : decode cX9_reach 205 = .ok (.aload_n 0, 1) := by decide +kernel
theorem dX9_reach_206 : decode cX9_reach 206 = .ok (.getfield 12, 3) := by decide +kernel
theorem dX9_reach_209 : decode cX9_reach 209 = .ok (.getfield 162, 3) := by decide +kernel
theorem dX9_reach_212 : decode cX9_reach 212 = .ok (.iload 4, 2) := by decide +kernel
theorem dX9_reach_214 : decode cX9_reach 214 = .ok (.iload_n 1, 1) := by decide +kernel
theorem dX9_reach_215 : decode cX9_reach 215 = .ok (.iastore, 1) := by decide +kernel
theorem dX9_reach_216 : decode cX9_reach 216 = .ok (.iload 6, 2) := by decide +kernel
theorem dX9_reach_218 : decode cX9_reach 218 = .ok (.ireturn, 1) := by decide +kernel
theorem dX9_locked_0 : decode cX9_locked 0 = .ok (.iconst 1, 1) := by decide +kernel
theorem dX9_locked_1 : decode cX9_locked 1 = .ok (.iload_n 1, 1) := by decide +kernel
theorem dX9_locked_2 : decode cX9_locked 2 = .ok (.ishl, 1) := by decide +kernel
theorem dX9_locked_3 : decode cX9_locked 3 = .ok (.istore 4, 2) := by decide +kernel
theorem dX9_locked_5 : decode cX9_locked 5 = .ok (.iload_n 3, 1) := by decide +kernel
theorem dX9_locked_6 : decode cX9_locked 6 = .ok (.ifCond .eq 15, 3) := by decide +kernel
theorem dX9_locked_9 : decode cX9_locked 9 = .ok (.aload_n 0, 1) := by decide +kernel
theorem dX9_locked_10 : decode cX9_locked 10 = .ok (.getfield 12, 3) := by decide +kernel
theorem dX9_locked_13 : decode cX9_locked 13 = .ok (.getfield 159, 3) := by decide +kernel
theorem dX9_locked_16 : decode cX9_locked 16 = .ok (.iload_n 2, 1) := by decide +kernel
theorem dX9_locked_17 : decode cX9_locked 17 = .ok (.iaload, 1) := by decide +kernel
theorem dX9_locked_18 : decode cX9_locked 18 = .ok (.goto 12, 3) := by decide +kernel
theorem dX9_locked_21 : decode cX9_locked 21 = .ok (.aload_n 0, 1) := by decide +kernel
theorem dX9_locked_22 : decode cX9_locked 22 = .ok (.getfield 12, 3) := by decide +kernel
theorem dX9_locked_25 : decode cX9_locked 25 = .ok (.getfield 152, 3) := by decide +kernel
theorem dX9_locked_28 : decode cX9_locked 28 = .ok (.iload_n 2, 1) := by decide +kernel
theorem dX9_locked_29 : decode cX9_locked 29 = .ok (.iaload, 1) := by decide +kernel
theorem dX9_locked_30 : decode cX9_locked 30 = .ok (.iload 4, 2) := by decide +kernel
theorem dX9_locked_32 : decode cX9_locked 32 = .ok (.iconst (-1), 1) := by decide +kernel
theorem dX9_locked_33 : decode cX9_locked 33 = .ok (.ixor, 1) := by decide +kernel
theorem dX9_locked_34 : decode cX9_locked 34 = .ok (.iand, 1) := by decide +kernel
theorem dX9_locked_35 : decode cX9_locked 35 = .ok (.ifCond .eq 5, 3) := by decide +kernel
theorem dX9_locked_38 : decode cX9_locked 38 = .ok (.iconst 0, 1) := by decide +kernel
theorem dX9_locked_39 : decode cX9_locked 39 = .ok (.ireturn, 1) := by decide +kernel
theorem dX9_locked_40 : decode cX9_locked 40 = .ok (.aload_n 0, 1) := by decide +kernel
theorem dX9_locked_41 : decode cX9_locked 41 = .ok (.getfield 12, 3) := by decide +kernel
theorem dX9_locked_44 : decode cX9_locked 44 = .ok (.getfield 159, 3) := by decide +kernel
theorem dX9_locked_47 : decode cX9_locked 47 = .ok (.iload_n 2, 1) := by decide +kernel
theorem dX9_locked_48 : decode cX9_locked 48 = .ok (.dup2, 1) := by decide +kernel
theorem dX9_locked_49 : decode cX9_locked 49 = .ok (.iaload, 1) := by decide +kernel
theorem dX9_locked_50 : decode cX9_locked 50 = .ok (.iload 4, 2) := by decide +kernel
theorem dX9_locked_52 : decode cX9_locked 52 = .ok (.ior, 1) := by decide +kernel
theorem dX9_locked_53 : decode cX9_locked 53 = .ok (.iastore, 1) := by decide +kernel
theorem dX9_locked_54 : decode cX9_locked 54 = .ok (.aload_n 0, 1) := by decide +kernel
theorem dX9_locked_55 : decode cX9_locked 55 = .ok (.getfield 12, 3) := by decide +kernel
theorem dX9_locked_58 : decode cX9_locked 58 = .ok (.getfield 152, 3) := by decide +kernel
theorem dX9_locked_61 : decode cX9_locked 61 = .ok (.iload_n 2, 1) := by decide +kernel
theorem dX9_locked_62 : decode cX9_locked 62 = .ok (.dup2, 1) := by decide +kernel
theorem dX9_locked_63 : decode cX9_locked 63 = .ok (.iaload, 1) := by decide +kernel
theorem dX9_locked_64 : decode cX9_locked 64 = .ok (.iload_n 3, 1) := by decide +kernel
theorem dX9_locked_65 : decode cX9_locked 65 = .ok (.ifCond .eq 8, 3) := by decide +kernel
theorem dX9_locked_68 : decode cX9_locked 68 = .ok (.iload 4, 2) := by decide +kernel
theorem dX9_locked_70 : decode cX9_locked 70 = .ok (.goto 4, 3) := by decide +kernel
theorem dX9_locked_73 : decode cX9_locked 73 = .ok (.iconst 0, 1) := by decide +kernel
theorem dX9_locked_74 : decode cX9_locked 74 = .ok (.ior, 1) := by decide +kernel
theorem dX9_locked_75 : decode cX9_locked 75 = .ok (.iastore, 1) := by decide +kernel
theorem dX9_locked_76 : decode cX9_locked 76 = .ok (.iconst 1, 1) := by decide +kernel
theorem dX9_locked_77 : decode cX9_locked 77 = .ok (.ireturn, 1) := by decide +kernel
set_option maxRecDepth 20000 in
theorem ggX9_bring_X7_placeFrom : GoodIn wsX9_bring wsX7_placeFrom := goodIn_r _ [16, 17, 18, 73, 74, 75, 76, 77, 78, 79, 80] (by decide +kernel) (by decide +kernel)
set_option maxRecDepth 20000 in
theorem gX9_bring_X7_placeFrom : GoodIn wsX9_bring (wsV RX9 137 RX7 yX7_placeFrom wsX7_placeFrom) := goodIn_app (goodIn_of _ (by decide +kernel)) ggX9_bring_X7_placeFrom
set_option maxRecDepth 20000 in
theorem ggX9_bring_X7_hasAt : GoodIn wsX9_bring wsX7_hasAt := goodIn_r _ [22, 17, 18, 73, 74, 75, 76, 77, 78, 79, 80] (by decide +kernel) (by decide +kernel)
set_option maxRecDepth 20000 in
theorem gX9_bring_X7_hasAt : GoodIn wsX9_bring (wsV RX9 168 RX7 yX7_hasAt wsX7_hasAt) := goodIn_app (goodIn_of _ (by decide +kernel)) ggX9_bring_X7_hasAt
set_option maxRecDepth 20000 in
theorem ggX9_bring_X3_note : GoodIn wsX9_bring wsX3_note := goodIn_r _ [27, 28, 29, 81, 82] (by decide +kernel) (by decide +kernel)
set_option maxRecDepth 20000 in
theorem gX9_bring_X3_note : GoodIn wsX9_bring (wsV RX9 175 RX3 yX3_note wsX3_note) := goodIn_app (goodIn_of _ (by decide +kernel)) ggX9_bring_X3_note
set_option maxRecDepth 20000 in
theorem ggX9_bring_X9_locked : GoodIn wsX9_bring wsX9_locked := goodIn_r _ [34, 3, 35, 36, 53, 54, 55, 56, 57, 58, 59, 60, 73, 74, 75, 76, 77, 78, 79, 80] (by decide +kernel) (by decide +kernel)
set_option maxRecDepth 20000 in
theorem gX9_bring_X9_locked : GoodIn wsX9_bring (wsV RX9 171 RX9 yX9_locked wsX9_locked) := goodIn_app (goodIn_of _ (by decide +kernel)) ggX9_bring_X9_locked
set_option maxRecDepth 20000 in
theorem ggX9_bring_X9_stoppedAt : GoodIn wsX9_bring wsX9_stoppedAt := goodIn_r _ [40, 41, 42, 53, 54, 55, 56, 57, 58, 59, 60] (by decide +kernel) (by decide +kernel)
set_option maxRecDepth 20000 in
theorem gX9_bring_X9_stoppedAt : GoodIn wsX9_bring (wsV RX9 155 RX9 yX9_stoppedAt wsX9_stoppedAt) := goodIn_app (goodIn_of _ (by decide +kernel)) ggX9_bring_X9_stoppedAt
set_option maxRecDepth 20000 in
theorem ggX9_bring_X7_insert : GoodIn wsX9_bring wsX7_insert := goodIn_r _ [46, 17, 47, 18, 48, 49, 50, 51, 52, 73, 74, 75, 76, 77, 78, 79, 80] (by decide +kernel) (by decide +kernel)
set_option maxRecDepth 20000 in
theorem gX9_bring_X7_insert : GoodIn wsX9_bring (wsV RX9 180 RX7 yX7_insert wsX7_insert) := goodIn_app (goodIn_of _ (by decide +kernel)) ggX9_bring_X7_insert
theorem dX9_bring_0 : decode cX9_bring 0 = .ok (.aload_n 0, 1) := by decide +kernel
theorem dX9_bring_1 : decode cX9_bring 1 = .ok (.getfield 21, 3) := by decide +kernel
theorem dX9_bring_4 : decode cX9_bring 4 = .ok (.getfield 134, 3) := by decide +kernel
theorem dX9_bring_7 : decode cX9_bring 7 = .ok (.iload_n 1, 1) := by decide +kernel
theorem dX9_bring_8 : decode cX9_bring 8 = .ok (.iaload, 1) := by decide +kernel
theorem dX9_bring_9 : decode cX9_bring 9 = .ok (.istore_n 2, 1) := by decide +kernel
theorem dX9_bring_10 : decode cX9_bring 10 = .ok (.aload_n 0, 1) := by decide +kernel
theorem dX9_bring_11 : decode cX9_bring 11 = .ok (.getfield 12, 3) := by decide +kernel
theorem dX9_bring_14 : decode cX9_bring 14 = .ok (.iload_n 2, 1) := by decide +kernel
theorem dX9_bring_15 : decode cX9_bring 15 = .ok (.invokevirtual 137, 3) := by decide +kernel
theorem dX9_bring_18 : decode cX9_bring 18 = .ok (.istore_n 3, 1) := by decide +kernel
theorem dX9_bring_19 : decode cX9_bring 19 = .ok (.aload_n 0, 1) := by decide +kernel
theorem dX9_bring_20 : decode cX9_bring 20 = .ok (.getfield 12, 3) := by decide +kernel
theorem dX9_bring_23 : decode cX9_bring 23 = .ok (.iload_n 3, 1) := by decide +kernel
theorem dX9_bring_24 : decode cX9_bring 24 = .ok (.iload_n 2, 1) := by decide +kernel
theorem dX9_bring_25 : decode cX9_bring 25 = .ok (.invokevirtual 168, 3) := by decide +kernel
theorem dX9_bring_28 : decode cX9_bring 28 = .ok (.ifCond .eq 94, 3) := by decide +kernel
theorem dX9_bring_31 : decode cX9_bring 31 = .ok (.aload_n 0, 1) := by decide +kernel
theorem dX9_bring_32 : decode cX9_bring 32 = .ok (.getfield 12, 3) := by decide +kernel
theorem dX9_bring_35 : decode cX9_bring 35 = .ok (.getfield 162, 3) := by decide +kernel
theorem dX9_bring_38 : decode cX9_bring 38 = .ok (.iload_n 3, 1) := by decide +kernel
theorem dX9_bring_39 : decode cX9_bring 39 = .ok (.iaload, 1) := by decide +kernel
theorem dX9_bring_40 : decode cX9_bring 40 = .ok (.iload_n 1, 1) := by decide +kernel
theorem dX9_bring_41 : decode cX9_bring 41 = .ok (.if_icmp .ne 59, 3) := by decide +kernel
theorem dX9_bring_44 : decode cX9_bring 44 = .ok (.aload_n 0, 1) := by decide +kernel
theorem dX9_bring_45 : decode cX9_bring 45 = .ok (.getfield 28, 3) := by decide +kernel
theorem dX9_bring_48 : decode cX9_bring 48 = .ok (.iload_n 1, 1) := by decide +kernel
theorem dX9_bring_49 : decode cX9_bring 49 = .ok (.iconst 3, 1) := by decide +kernel
theorem dX9_bring_50 : decode cX9_bring 50 = .ok (.iload_n 2, 1) := by decide +kernel
theorem dX9_bring_51 : decode cX9_bring 51 = .ok (.aload_n 0, 1) := by decide +kernel
theorem dX9_bring_52 : decode cX9_bring 52 = .ok (.getfield 12, 3) := by decide +kernel
theorem dX9_bring_55 : decode cX9_bring 55 = .ok (.getfield 165, 3) := by decide +kernel
theorem dX9_bring_58 : decode cX9_bring 58 = .ok (.iload_n 3, 1) := by decide +kernel
theorem dX9_bring_59 : decode cX9_bring 59 = .ok (.iaload, 1) := by decide +kernel
theorem dX9_bring_60 : decode cX9_bring 60 = .ok (.invokevirtual 175, 3) := by decide +kernel
theorem dX9_bring_63 : decode cX9_bring 63 = .ok (.aload_n 0, 1) := by decide +kernel
theorem dX9_bring_64 : decode cX9_bring 64 = .ok (.getfield 12, 3) := by decide +kernel
theorem dX9_bring_67 : decode cX9_bring 67 = .ok (.getfield 162, 3) := by decide +kernel
theorem dX9_bring_70 : decode cX9_bring 70 = .ok (.iload_n 3, 1) := by decide +kernel
theorem dX9_bring_71 : decode cX9_bring 71 = .ok (.bipush (-2), 2) := by decide +kernel
theorem dX9_bring_73 : decode cX9_bring 73 = .ok (.iastore, 1) := by decide +kernel
theorem dX9_bring_74 : decode cX9_bring 74 = .ok (.aload_n 0, 1) := by decide +kernel
theorem dX9_bring_75 : decode cX9_bring 75 = .ok (.getfield 12, 3) := by decide +kernel
theorem dX9_bring_78 : decode cX9_bring 78 = .ok (.getfield 165, 3) := by decide +kernel
theorem dX9_bring_81 : decode cX9_bring 81 = .ok (.iload_n 3, 1) := by decide +kernel
theorem dX9_bring_82 : decode cX9_bring 82 = .ok (.aload_n 0, 1) := by decide +kernel
theorem dX9_bring_83 : decode cX9_bring 83 = .ok (.getfield 21, 3) := by decide +kernel
theorem dX9_bring_86 : decode cX9_bring 86 = .ok (.getfield 179, 3) := by decide +kernel
theorem dX9_bring_89 : decode cX9_bring 89 = .ok (.iload_n 1, 1) := by decide +kernel
theorem dX9_bring_90 : decode cX9_bring 90 = .ok (.iaload, 1) := by decide +kernel
theorem dX9_bring_91 : decode cX9_bring 91 = .ok (.iastore, 1) := by decide +kernel
theorem dX9_bring_92 : decode cX9_bring 92 = .ok (.aload_n 0, 1) := by decide +kernel
theorem dX9_bring_93 : decode cX9_bring 93 = .ok (.getfield 12, 3) := by decide +kernel
theorem dX9_bring_96 : decode cX9_bring 96 = .ok (.getfield 140, 3) := by decide +kernel
theorem dX9_bring_99 : decode cX9_bring 99 = .ok (.ireturn, 1) := by decide +kernel
theorem dX9_bring_100 : decode cX9_bring 100 = .ok (.aload_n 0, 1) := by decide +kernel
theorem dX9_bring_101 : decode cX9_bring 101 = .ok (.iload_n 1, 1) := by decide +kernel
theorem dX9_bring_102 : decode cX9_bring 102 = .ok (.iload_n 3, 1) := by decide +kernel
theorem dX9_bring_103 : decode cX9_bring 103 = .ok (.iconst 0, 1) := by decide +kernel
theorem dX9_bring_104 : decode cX9_bring 104 = .ok (.invokevirtual 171, 3) := by decide +kernel
theorem dX9_bring_107 : decode cX9_bring 107 = .ok (.ifCond .eq 8, 3) := by decide +kernel
theorem dX9_bring_110 : decode cX9_bring 110 = .ok (.bipush (-4), 2) := by decide +kernel
theorem dX9_bring_112 : decode cX9_bring 112 = .ok (.goto 9, 3) := by decide +kernel
theorem dX9_bring_115 : decode cX9_bring 115 = .ok (.aload_n 0, 1) := by decide +kernel
theorem dX9_bring_116 : decode cX9_bring 116 = .ok (.iconst 1, 1) := by decide +kernel
theorem dX9_bring_117 : decode cX9_bring 117 = .ok (.iload_n 2, 1) := by decide +kernel
theorem dX9_bring_118 : decode cX9_bring 118 = .ok (.invokevirtual 155, 3) := by decide +kernel
theorem dX9_bring_121 : decode cX9_bring 121 = .ok (.ireturn, 1) := by decide +kernel
theorem dX9_bring_122 : decode cX9_bring 122 = .ok (.aload_n 0, 1) := by decide +kernel
theorem dX9_bring_123 : decode cX9_bring 123 = .ok (.getfield 12, 3) := by decide +kernel
theorem dX9_bring_126 : decode cX9_bring 126 = .ok (.getfield 140, 3) := by decide +kernel
theorem dX9_bring_129 : decode cX9_bring 129 = .ok (.bipush 24, 2) := by decide +kernel
theorem dX9_bring_131 : decode cX9_bring 131 = .ok (.if_icmp .lt 5, 3) := by decide +kernel
theorem dX9_bring_134 : decode cX9_bring 134 = .ok (.iconst (-1), 1) := by decide +kernel
theorem dX9_bring_135 : decode cX9_bring 135 = .ok (.ireturn, 1) := by decide +kernel
theorem dX9_bring_136 : decode cX9_bring 136 = .ok (.aload_n 0, 1) := by decide +kernel
theorem dX9_bring_137 : decode cX9_bring 137 = .ok (.getfield 52, 3) := by decide +kernel
theorem dX9_bring_140 : decode cX9_bring 140 = .ok (.ifCond .ne 28, 3) := by decide +kernel
theorem dX9_bring_143 : decode cX9_bring 143 = .ok (.aload_n 0, 1) := by decide +kernel
theorem dX9_bring_144 : decode cX9_bring 144 = .ok (.getfield 12, 3) := by decide +kernel
theorem dX9_bring_147 : decode cX9_bring 147 = .ok (.getfield 149, 3) := by decide +kernel
theorem dX9_bring_150 : decode cX9_bring 150 = .ok (.iload_n 3, 1) := by decide +kernel
theorem dX9_bring_151 : decode cX9_bring 151 = .ok (.iaload, 1) := by decide +kernel
theorem dX9_bring_152 : decode cX9_bring 152 = .ok (.iconst 1, 1) := by decide +kernel
theorem dX9_bring_153 : decode cX9_bring 153 = .ok (.iload_n 1, 1) := by decide +kernel
theorem dX9_bring_154 : decode cX9_bring 154 = .ok (.ishl, 1) := by decide +kernel
theorem dX9_bring_155 : decode cX9_bring 155 = .ok (.iconst (-1), 1) := by decide +kernel
theorem dX9_bring_156 : decode cX9_bring 156 = .ok (.ixor, 1) := by decide +kernel
theorem dX9_bring_157 : decode cX9_bring 157 = .ok (.iand, 1) := by decide +kernel
theorem dX9_bring_158 : decode cX9_bring 158 = .ok (.ifCond .eq 10, 3) := by decide +kernel
theorem dX9_bring_161 : decode cX9_bring 161 = .ok (.aload_n 0, 1) := by decide +kernel
theorem dX9_bring_162 : decode cX9_bring 162 = .ok (.iconst 3, 1) := by decide +kernel
theorem dX9_bring_163 : decode cX9_bring 163 = .ok (.iload_n 2, 1) := by decide +kernel
theorem dX9_bring_164 : decode cX9_bring 164 = .ok (.invokevirtual 155, 3) := by decide +kernel
theorem dX9_bring_167 : decode cX9_bring 167 = .ok (.ireturn, 1) := by decide +kernel
theorem dX9_bring_168 : decode cX9_bring 168 = .ok (.aload_n 0, 1) := by decide +kernel
theorem dX9_bring_169 : decode cX9_bring 169 = .ok (.getfield 28, 3) := by decide +kernel
theorem dX9_bring_172 : decode cX9_bring 172 = .ok (.iload_n 1, 1) := by decide +kernel
theorem dX9_bring_173 : decode cX9_bring 173 = .ok (.iconst 2, 1) := by decide +kernel
theorem dX9_bring_174 : decode cX9_bring 174 = .ok (.iload_n 2, 1) := by decide +kernel
theorem dX9_bring_175 : decode cX9_bring 175 = .ok (.iconst 0, 1) := by decide +kernel
theorem dX9_bring_176 : decode cX9_bring 176 = .ok (.invokevirtual 175, 3) := by decide +kernel
theorem dX9_bring_179 : decode cX9_bring 179 = .ok (.aload_n 0, 1) := by decide +kernel
theorem dX9_bring_180 : decode cX9_bring 180 = .ok (.getfield 12, 3) := by decide +kernel
theorem dX9_bring_183 : decode cX9_bring 183 = .ok (.iload_n 3, 1) := by decide +kernel
theorem dX9_bring_184 : decode cX9_bring 184 = .ok (.iload_n 2, 1) := by decide +kernel
theorem dX9_bring_185 : decode cX9_bring 185 = .ok (.aload_n 0, 1) := by decide +kernel
theorem dX9_bring_186 : decode cX9_bring 186 = .ok (.getfield 21, 3) := by decide +kernel
theorem dX9_bring_189 : decode cX9_bring 189 = .ok (.getfield 179, 3) := by decide +kernel
theorem dX9_bring_192 : decode cX9_bring 192 = .ok (.iload_n 1, 1) := by decide +kernel
theorem dX9_bring_193 : decode cX9_bring 193 = .ok (.iaload, 1) := by decide +kernel
theorem dX9_bring_194 : decode cX9_bring 194 = .ok (.invokevirtual 180, 3) := by decide +kernel
theorem dX9_bring_197 : decode cX9_bring 197 = .ok (.aload_n 0, 1) := by decide +kernel
theorem dX9_bring_198 : decode cX9_bring 198 = .ok (.getfield 12, 3) := by decide +kernel
theorem dX9_bring_201 : decode cX9_bring 201 = .ok (.getfield 184, 3) := by decide +kernel
theorem dX9_bring_204 : decode cX9_bring 204 = .ok (.iload_n 3, 1) := by decide +kernel
theorem dX9_bring_205 : decode cX9_bring 205 = .ok (.iload_n 1, 1) := by decide +kernel
theorem dX9_bring_206 : decode cX9_bring 206 = .ok (.iastore, 1) := by decide +kernel
theorem dX9_bring_207 : decode cX9_bring 207 = .ok (.aload_n 0, 1) := by decide +kernel
theorem dX9_bring_208 : decode cX9_bring 208 = .ok (.iload_n 1, 1) := by decide +kernel
theorem dX9_bring_209 : decode cX9_bring 209 = .ok (.iload_n 3, 1) := by decide +kernel
theorem dX9_bring_210 : decode cX9_bring 210 = .ok (.iconst 1, 1) := by decide +kernel
theorem dX9_bring_211 : decode cX9_bring 211 = .ok (.invokevirtual 171, 3) := by decide +kernel
theorem dX9_bring_214 : decode cX9_bring 214 = .ok (.pop, 1) := by decide +kernel
theorem dX9_bring_215 : decode cX9_bring 215 = .ok (.aload_n 0, 1) := by decide +kernel
theorem dX9_bring_216 : decode cX9_bring 216 = .ok (.getfield 12, 3) := by decide +kernel
theorem dX9_bring_219 : decode cX9_bring 219 = .ok (.getfield 140, 3) := by decide +kernel
theorem dX9_bring_222 : decode cX9_bring 222 = .ok (.ireturn, 1) := by decide +kernel
set_option maxRecDepth 20000 in
theorem ggX9_waitOrDie_X7_blockers : GoodIn wsX9_waitOrDie wsX7_blockers := goodIn_r _ [11, 12, 13, 14, 15, 16, 115, 116, 117, 118, 119, 120, 121, 122] (by decide +kernel) (by decide +kernel)
set_option maxRecDepth 20000 in
theorem gX9_waitOrDie_X7_blockers : GoodIn wsX9_waitOrDie (wsV RX9 187 RX7 yX7_blockers wsX7_blockers) := goodIn_app (goodIn_of _ (by decide +kernel)) ggX9_waitOrDie_X7_blockers
set_option maxRecDepth 20000 in
theorem ggX9_waitOrDie_X9_reaches : GoodIn wsX9_waitOrDie wsX9_reaches := goodIn_r _ [21, 5, 22, 23, 2, 24, 25, 7, 8, 9, 10, 11, 12, 13, 14, 15, 16, 95, 96, 97, 98, 99, 100, 101, 102, 103, 104, 105, 106, 107, 108, 109, 110, 111, 112, 113, 114, 115, 116, 117, 118, 119, 120, 121, 122] (by decide +kernel) (by decide +kernel)
set_option maxRecDepth 20000 in
theorem gX9_waitOrDie_X9_reaches : GoodIn wsX9_waitOrDie (wsV RX9 191 RX9 yX9_reaches wsX9_reaches) := goodIn_app (goodIn_of _ (by decide +kernel)) ggX9_waitOrDie_X9_reaches
set_option maxRecDepth 20000 in
theorem ggX9_waitOrDie_X9_undo : GoodIn wsX9_waitOrDie wsX9_undo := goodIn_r _ [29, 30, 31, 2, 32, 33, 34, 35, 36, 37, 38, 39, 40, 41, 42, 10, 43, 12, 13, 44, 45, 46, 47, 48, 49, 50, 51, 52, 53, 54, 55, 56, 57, 58, 59, 60, 61, 62, 63, 64, 14, 15, 65, 66, 67, 16, 95, 96, 97, 98, 99, 100, 101, 102, 123, 124, 115, 116, 117, 118, 119, 120, 121, 122] (by decide +kernel) (by decide +kernel)
set_option maxRecDepth 20000 in
theorem gX9_waitOrDie_X9_undo : GoodIn wsX9_waitOrDie (wsV RX9 82 RX9 yX9_undo wsX9_undo) := goodIn_app (goodIn_of _ (by decide +kernel)) ggX9_waitOrDie_X9_undo
set_option maxRecDepth 20000 in
theorem ggX9_waitOrDie_X9_shut : GoodIn wsX9_waitOrDie wsX9_shut := goodIn_r _ [71, 5, 23, 2, 30, 72, 73, 74, 75, 76, 77, 78, 79, 80, 81, 10, 82, 14, 12, 15, 16, 67, 83, 84, 85, 37, 86, 87, 39, 95, 96, 97, 98, 99, 100, 101, 102, 103, 104, 105, 106, 107, 108, 109, 110, 111, 112, 113, 114, 115, 116, 117, 118, 119, 120, 121, 122, 123, 124] (by decide +kernel) (by decide +kernel)
set_option maxRecDepth 20000 in
theorem gX9_waitOrDie_X9_shut : GoodIn wsX9_waitOrDie (wsV RX9 79 RX9 yX9_shut wsX9_shut) := goodIn_app (goodIn_of _ (by decide +kernel)) ggX9_waitOrDie_X9_shut
set_option maxRecDepth 20000 in
theorem ggX9_waitOrDie_X1_joinLine : GoodIn wsX9_waitOrDie wsX1_joinLine := goodIn_r _ [91, 77, 92, 93, 94, 78, 103, 104, 105, 106, 107, 108, 109, 110, 111, 112, 113, 114] (by decide +kernel) (by decide +kernel)
set_option maxRecDepth 20000 in
theorem gX9_waitOrDie_X1_joinLine : GoodIn wsX9_waitOrDie (wsV RX9 197 RX1 yX1_joinLine wsX1_joinLine) := goodIn_app (goodIn_of _ (by decide +kernel)) ggX9_waitOrDie_X1_joinLine
theorem dX9_waitOrDie_0 : decode cX9_waitOrDie 0 = .ok (.aload_n 0, 1) := by decide +kernel
theorem dX9_waitOrDie_1 : decode cX9_waitOrDie 1 = .ok (.getfield 59, 3) := by decide +kernel
theorem dX9_waitOrDie_4 : decode cX9_waitOrDie 4 = .ok (.ifCond .ne 27, 3) := by decide +kernel
theorem dX9_waitOrDie_7 : decode cX9_waitOrDie 7 = .ok (.aload_n 0, 1) := by decide +kernel
theorem dX9_waitOrDie_8 : decode cX9_waitOrDie 8 = .ok (.aload_n 0, 1) := by decide +kernel
theorem dX9_waitOrDie_9 : decode cX9_waitOrDie 9 = .ok (.getfield 12, 3) := by decide +kernel
theorem dX9_waitOrDie_12 : decode cX9_waitOrDie 12 = .ok (.iload_n 1, 1) := by decide +kernel
theorem dX9_waitOrDie_13 : decode cX9_waitOrDie 13 = .ok (.aload_n 0, 1) := by decide +kernel
theorem dX9_waitOrDie_14 : decode cX9_waitOrDie 14 = .ok (.getfield 109, 3) := by decide +kernel
theorem dX9_waitOrDie_17 : decode cX9_waitOrDie 17 = .ok (.aload_n 0, 1) := by decide +kernel
theorem dX9_waitOrDie_18 : decode cX9_waitOrDie 18 = .ok (.getfield 114, 3) := by decide +kernel
theorem dX9_waitOrDie_21 : decode cX9_waitOrDie 21 = .ok (.invokevirtual 187, 3) := by decide +kernel
theorem dX9_waitOrDie_24 : decode cX9_waitOrDie 24 = .ok (.iload_n 1, 1) := by decide +kernel
theorem dX9_waitOrDie_25 : decode cX9_waitOrDie 25 = .ok (.invokevirtual 191, 3) := by decide +kernel
theorem dX9_waitOrDie_28 : decode cX9_waitOrDie 28 = .ok (.ifCond .eq 29, 3) := by decide +kernel
theorem dX9_waitOrDie_31 : decode cX9_waitOrDie 31 = .ok (.aload_n 0, 1) := by decide +kernel
theorem dX9_waitOrDie_32 : decode cX9_waitOrDie 32 = .ok (.iload_n 1, 1) := by decide +kernel
theorem dX9_waitOrDie_33 : decode cX9_waitOrDie 33 = .ok (.invokevirtual 82, 3) := by decide +kernel
theorem dX9_waitOrDie_36 : decode cX9_waitOrDie 36 = .ok (.aload_n 0, 1) := by decide +kernel
theorem dX9_waitOrDie_37 : decode cX9_waitOrDie 37 = .ok (.iload_n 1, 1) := by decide +kernel
theorem dX9_waitOrDie_38 : decode cX9_waitOrDie 38 = .ok (.invokevirtual 79, 3) := by decide +kernel
theorem dX9_waitOrDie_41 : decode cX9_waitOrDie 41 = .ok (.aload_n 0, 1) := by decide +kernel
theorem dX9_waitOrDie_42 : decode cX9_waitOrDie 42 = .ok (.getfield 21, 3) := by decide +kernel
theorem dX9_waitOrDie_45 : decode cX9_waitOrDie 45 = .ok (.getfield 194, 3) := by decide +kernel
theorem dX9_waitOrDie_48 : decode cX9_waitOrDie 48 = .ok (.iload_n 1, 1) := by decide +kernel
theorem dX9_waitOrDie_49 : decode cX9_waitOrDie 49 = .ok (.dup2, 1) := by decide +kernel
theorem dX9_waitOrDie_50 : decode cX9_waitOrDie 50 = .ok (.iaload, 1) := by decide +kernel
theorem dX9_waitOrDie_51 : decode cX9_waitOrDie 51 = .ok (.iconst 1, 1) := by decide +kernel
theorem dX9_waitOrDie_52 : decode cX9_waitOrDie 52 = .ok (.iadd, 1) := by decide +kernel
theorem dX9_waitOrDie_53 : decode cX9_waitOrDie 53 = .ok (.iastore, 1) := by decide +kernel
theorem dX9_waitOrDie_54 : decode cX9_waitOrDie 54 = .ok (.bipush (-3), 2) := by decide +kernel
theorem dX9_waitOrDie_56 : decode cX9_waitOrDie 56 = .ok (.ireturn, 1) := by decide +kernel
theorem dX9_waitOrDie_57 : decode cX9_waitOrDie 57 = .ok (.aload_n 0, 1) := by decide +kernel
theorem dX9_waitOrDie_58 : decode cX9_waitOrDie 58 = .ok (.getfield 21, 3) := by decide +kernel
theorem dX9_waitOrDie_61 : decode cX9_waitOrDie 61 = .ok (.iload_n 1, 1) := by decide +kernel
theorem dX9_waitOrDie_62 : decode cX9_waitOrDie 62 = .ok (.aload_n 0, 1) := by decide +kernel
theorem dX9_waitOrDie_63 : decode cX9_waitOrDie 63 = .ok (.getfield 109, 3) := by decide +kernel
theorem dX9_waitOrDie_66 : decode cX9_waitOrDie 66 = .ok (.aload_n 0, 1) := by decide +kernel
theorem dX9_waitOrDie_67 : decode cX9_waitOrDie 67 = .ok (.getfield 114, 3) := by decide +kernel
theorem dX9_waitOrDie_70 : decode cX9_waitOrDie 70 = .ok (.invokevirtual 197, 3) := by decide +kernel
theorem dX9_waitOrDie_73 : decode cX9_waitOrDie 73 = .ok (.bipush (-2), 2) := by decide +kernel
theorem dX9_waitOrDie_75 : decode cX9_waitOrDie 75 = .ok (.ireturn, 1) := by decide +kernel
set_option maxRecDepth 20000 in
theorem ggX9_reaches_X7_blockers : GoodIn wsX9_reaches wsX7_blockers := goodIn_r _ [11, 12, 13, 14, 15, 16, 37, 38, 39, 40, 41, 42, 43, 44] (by decide +kernel) (by decide +kernel)
set_option maxRecDepth 20000 in
theorem gX9_reaches_X7_blockers : GoodIn wsX9_reaches (wsV RX9 187 RX7 yX7_blockers wsX7_blockers) := goodIn_app (goodIn_of _ (by decide +kernel)) ggX9_reaches_X7_blockers
theorem dX9_reaches_0 : decode cX9_reaches 0 = .ok (.iload_n 1, 1) := by decide +kernel
theorem dX9_reaches_1 : decode cX9_reaches 1 = .ok (.istore_n 3, 1) := by decide +kernel
theorem dX9_reaches_2 : decode cX9_reaches 2 = .ok (.iconst 0, 1) := by decide +kernel
theorem dX9_reaches_3 : decode cX9_reaches 3 = .ok (.istore 4, 2) := by decide +kernel
theorem dX9_reaches_5 : decode cX9_reaches 5 = .ok (.iload 4, 2) := by decide +kernel
theorem dX9_reaches_7 : decode cX9_reaches 7 = .ok (.iconst 5, 1) := by decide +kernel
theorem dX9_reaches_8 : decode cX9_reaches 8 = .ok (.if_icmp .ge 91, 3) := by decide +kernel
theorem dX9_reaches_11 : decode cX9_reaches 11 = .ok (.iconst 0, 1) := by decide +kernel
theorem dX9_reaches_12 : decode cX9_reaches 12 = .ok (.istore 5, 2) := by decide +kernel
theorem dX9_reaches_14 : decode cX9_reaches 14 = .ok (.iload 5, 2) := by decide +kernel
theorem dX9_reaches_16 : decode cX9_reaches 16 = .ok (.aload_n 0, 1) := by decide +kernel
theorem dX9_reaches_17 : decode cX9_reaches 17 = .ok (.getfield 21, 3) := by decide +kernel
theorem dX9_reaches_20 : decode cX9_reaches 20 = .ok (.getfield 200, 3) := by decide +kernel
theorem dX9_reaches_23 : decode cX9_reaches 23 = .ok (.if_icmp .ge 70, 3) := by decide +kernel
theorem dX9_reaches_26 : decode cX9_reaches 26 = .ok (.iload 5, 2) := by decide +kernel
theorem dX9_reaches_28 : decode cX9_reaches 28 = .ok (.iload_n 2, 1) := by decide +kernel
theorem dX9_reaches_29 : decode cX9_reaches 29 = .ok (.if_icmp .eq 58, 3) := by decide +kernel
theorem dX9_reaches_32 : decode cX9_reaches 32 = .ok (.iload_n 3, 1) := by decide +kernel
theorem dX9_reaches_33 : decode cX9_reaches 33 = .ok (.iload 5, 2) := by decide +kernel
theorem dX9_reaches_35 : decode cX9_reaches 35 = .ok (.ishr, 1) := by decide +kernel
theorem dX9_reaches_36 : decode cX9_reaches 36 = .ok (.iconst 1, 1) := by decide +kernel
theorem dX9_reaches_37 : decode cX9_reaches 37 = .ok (.iand, 1) := by decide +kernel
theorem dX9_reaches_38 : decode cX9_reaches 38 = .ok (.ifCond .eq 49, 3) := by decide +kernel
theorem dX9_reaches_41 : decode cX9_reaches 41 = .ok (.aload_n 0, 1) := by decide +kernel
theorem dX9_reaches_42 : decode cX9_reaches 42 = .ok (.getfield 21, 3) := by decide +kernel
theorem dX9_reaches_45 : decode cX9_reaches 45 = .ok (.getfield 72, 3) := by decide +kernel
theorem dX9_reaches_48 : decode cX9_reaches 48 = .ok (.iload 5, 2) := by decide +kernel
theorem dX9_reaches_50 : decode cX9_reaches 50 = .ok (.iaload, 1) := by decide +kernel
theorem dX9_reaches_51 : decode cX9_reaches 51 = .ok (.iconst 2, 1) := by decide +kernel
theorem dX9_reaches_52 : decode cX9_reaches 52 = .ok (.if_icmp .ne 35, 3) := by decide +kernel
theorem dX9_reaches_55 : decode cX9_reaches 55 = .ok (.iload_n 3, 1) := by decide +kernel
theorem dX9_reaches_56 : decode cX9_reaches 56 = .ok (.aload_n 0, 1) := by decide +kernel
theorem dX9_reaches_57 : decode cX9_reaches 57 = .ok (.getfield 12, 3) := by decide +kernel
theorem dX9_reaches_60 : decode cX9_reaches 60 = .ok (.iload 5, 2) := by decide +kernel
theorem dX9_reaches_62 : decode cX9_reaches 62 = .ok (.aload_n 0, 1) := by decide +kernel
theorem dX9_reaches_63 : decode cX9_reaches 63 = .ok (.getfield 21, 3) := by decide +kernel
theorem dX9_reaches_66 : decode cX9_reaches 66 = .ok (.getfield 112, 3) := by decide +kernel
theorem dX9_reaches_69 : decode cX9_reaches 69 = .ok (.iload 5, 2) := by decide +kernel
theorem dX9_reaches_71 : decode cX9_reaches 71 = .ok (.iaload, 1) := by decide +kernel
theorem dX9_reaches_72 : decode cX9_reaches 72 = .ok (.aload_n 0, 1) := by decide +kernel
theorem dX9_reaches_73 : decode cX9_reaches 73 = .ok (.getfield 21, 3) := by decide +kernel
theorem dX9_reaches_76 : decode cX9_reaches 76 = .ok (.getfield 117, 3) := by decide +kernel
theorem dX9_reaches_79 : decode cX9_reaches 79 = .ok (.iload 5, 2) := by decide +kernel
theorem dX9_reaches_81 : decode cX9_reaches 81 = .ok (.iaload, 1) := by decide +kernel
theorem dX9_reaches_82 : decode cX9_reaches 82 = .ok (.invokevirtual 187, 3) := by decide +kernel
theorem dX9_reaches_85 : decode cX9_reaches 85 = .ok (.ior, 1) := by decide +kernel
theorem dX9_reaches_86 : decode cX9_reaches 86 = .ok (.istore_n 3, 1) := by decide +kernel
theorem dX9_reaches_87 : decode cX9_reaches 87 = .ok (.iinc 5 1, 3) := by decide +kernel
theorem dX9_reaches_90 : decode cX9_reaches 90 = .ok (.goto (-76), 3) := by decide +kernel
theorem dX9_reaches_93 : decode cX9_reaches 93 = .ok (.iinc 4 1, 3) := by decide +kernel
theorem dX9_reaches_96 : decode cX9_reaches 96 = .ok (.goto (-91), 3) := by decide +kernel
theorem dX9_reaches_99 : decode cX9_reaches 99 = .ok (.iload_n 3, 1) := by decide +kernel
theorem dX9_reaches_100 : decode cX9_reaches 100 = .ok (.iload_n 2, 1) := by decide +kernel
theorem dX9_reaches_101 : decode cX9_reaches 101 = .ok (.ishr, 1) := by decide +kernel
theorem dX9_reaches_102 : decode cX9_reaches 102 = .ok (.iconst 1, 1) := by decide +kernel
theorem dX9_reaches_103 : decode cX9_reaches 103 = .ok (.iand, 1) := by decide +kernel
theorem dX9_reaches_104 : decode cX9_reaches 104 = .ok (.ifCond .eq 7, 3) := by decide +kernel
theorem dX9_reaches_107 : decode cX9_reaches 107 = .ok (.iconst 1, 1) := by decide +kernel
theorem dX9_reaches_108 : decode cX9_reaches 108 = .ok (.goto 4, 3) := by decide +kernel
theorem dX9_reaches_111 : decode cX9_reaches 111 = .ok (.iconst 0, 1) := by decide +kernel
theorem dX9_reaches_112 : decode cX9_reaches 112 = .ok (.ireturn, 1) := by decide +kernel
set_option maxRecDepth 20000 in
theorem ggX9_waitsFor_X7_blockers : GoodIn wsX9_waitsFor wsX7_blockers := goodIn_r _ [10, 11, 12, 13, 14, 15, 36, 37, 38, 39, 40, 41, 42, 43] (by decide +kernel) (by decide +kernel)
set_option maxRecDepth 20000 in
theorem gX9_waitsFor_X7_blockers : GoodIn wsX9_waitsFor (wsV RX9 187 RX7 yX7_blockers wsX7_blockers) := goodIn_app (goodIn_of _ (by decide +kernel)) ggX9_waitsFor_X7_blockers
theorem dX9_waitsFor_0 : decode cX9_waitsFor 0 = .ok (.aload_n 0, 1) := by decide +kernel
theorem dX9_waitsFor_1 : decode cX9_waitsFor 1 = .ok (.getfield 21, 3) := by decide +kernel
theorem dX9_waitsFor_4 : decode cX9_waitsFor 4 = .ok (.getfield 72, 3) := by decide +kernel
theorem dX9_waitsFor_7 : decode cX9_waitsFor 7 = .ok (.iload_n 1, 1) := by decide +kernel
theorem dX9_waitsFor_8 : decode cX9_waitsFor 8 = .ok (.iaload, 1) := by decide +kernel
theorem dX9_waitsFor_9 : decode cX9_waitsFor 9 = .ok (.iconst 2, 1) := by decide +kernel
theorem dX9_waitsFor_10 : decode cX9_waitsFor 10 = .ok (.if_icmp .eq 5, 3) := by decide +kernel
theorem dX9_waitsFor_13 : decode cX9_waitsFor 13 = .ok (.iconst 0, 1) := by decide +kernel
theorem dX9_waitsFor_14 : decode cX9_waitsFor 14 = .ok (.ireturn, 1) := by decide +kernel
theorem dX9_waitsFor_15 : decode cX9_waitsFor 15 = .ok (.aload_n 0, 1) := by decide +kernel
theorem dX9_waitsFor_16 : decode cX9_waitsFor 16 = .ok (.getfield 12, 3) := by decide +kernel
theorem dX9_waitsFor_19 : decode cX9_waitsFor 19 = .ok (.iload_n 1, 1) := by decide +kernel
theorem dX9_waitsFor_20 : decode cX9_waitsFor 20 = .ok (.aload_n 0, 1) := by decide +kernel
theorem dX9_waitsFor_21 : decode cX9_waitsFor 21 = .ok (.getfield 21, 3) := by decide +kernel
theorem dX9_waitsFor_24 : decode cX9_waitsFor 24 = .ok (.getfield 112, 3) := by decide +kernel
theorem dX9_waitsFor_27 : decode cX9_waitsFor 27 = .ok (.iload_n 1, 1) := by decide +kernel
theorem dX9_waitsFor_28 : decode cX9_waitsFor 28 = .ok (.iaload, 1) := by decide +kernel
theorem dX9_waitsFor_29 : decode cX9_waitsFor 29 = .ok (.aload_n 0, 1) := by decide +kernel
theorem dX9_waitsFor_30 : decode cX9_waitsFor 30 = .ok (.getfield 21, 3) := by decide +kernel
theorem dX9_waitsFor_33 : decode cX9_waitsFor 33 = .ok (.getfield 117, 3) := by decide +kernel
theorem dX9_waitsFor_36 : decode cX9_waitsFor 36 = .ok (.iload_n 1, 1) := by decide +kernel
theorem dX9_waitsFor_37 : decode cX9_waitsFor 37 = .ok (.iaload, 1) := by decide +kernel
theorem dX9_waitsFor_38 : decode cX9_waitsFor 38 = .ok (.invokevirtual 187, 3) := by decide +kernel
theorem dX9_waitsFor_41 : decode cX9_waitsFor 41 = .ok (.ireturn, 1) := by decide +kernel
set_option maxRecDepth 20000 in
theorem ggX9_dropCut_X7_vanish : GoodIn wsX9_dropCut wsX7_vanish := goodIn_r _ [8, 9, 10, 11, 12, 13, 14, 15, 16, 25, 26, 27, 28, 29, 30, 31, 32] (by decide +kernel) (by decide +kernel)
set_option maxRecDepth 20000 in
theorem gX9_dropCut_X7_vanish : GoodIn wsX9_dropCut (wsV RX9 201 RX7 yX7_vanish wsX7_vanish) := goodIn_app (goodIn_of _ (by decide +kernel)) ggX9_dropCut_X7_vanish
theorem dX9_dropCut_0 : decode cX9_dropCut 0 = .ok (.iconst 0, 1) := by decide +kernel
theorem dX9_dropCut_1 : decode cX9_dropCut 1 = .ok (.istore_n 2, 1) := by decide +kernel
theorem dX9_dropCut_2 : decode cX9_dropCut 2 = .ok (.iconst 0, 1) := by decide +kernel
theorem dX9_dropCut_3 : decode cX9_dropCut 3 = .ok (.istore_n 3, 1) := by decide +kernel
theorem dX9_dropCut_4 : decode cX9_dropCut 4 = .ok (.iload_n 3, 1) := by decide +kernel
theorem dX9_dropCut_5 : decode cX9_dropCut 5 = .ok (.bipush 24, 2) := by decide +kernel
theorem dX9_dropCut_7 : decode cX9_dropCut 7 = .ok (.if_icmp .ge 48, 3) := by decide +kernel
theorem dX9_dropCut_10 : decode cX9_dropCut 10 = .ok (.iload_n 2, 1) := by decide +kernel
theorem dX9_dropCut_11 : decode cX9_dropCut 11 = .ok (.aload_n 0, 1) := by decide +kernel
theorem dX9_dropCut_12 : decode cX9_dropCut 12 = .ok (.getfield 12, 3) := by decide +kernel
theorem dX9_dropCut_15 : decode cX9_dropCut 15 = .ok (.getfield 140, 3) := by decide +kernel
theorem dX9_dropCut_18 : decode cX9_dropCut 18 = .ok (.if_icmp .ge 37, 3) := by decide +kernel
theorem dX9_dropCut_21 : decode cX9_dropCut 21 = .ok (.aload_n 0, 1) := by decide +kernel
theorem dX9_dropCut_22 : decode cX9_dropCut 22 = .ok (.getfield 12, 3) := by decide +kernel
theorem dX9_dropCut_25 : decode cX9_dropCut 25 = .ok (.getfield 162, 3) := by decide +kernel
theorem dX9_dropCut_28 : decode cX9_dropCut 28 = .ok (.iload_n 2, 1) := by decide +kernel
theorem dX9_dropCut_29 : decode cX9_dropCut 29 = .ok (.iaload, 1) := by decide +kernel
theorem dX9_dropCut_30 : decode cX9_dropCut 30 = .ok (.iload_n 1, 1) := by decide +kernel
theorem dX9_dropCut_31 : decode cX9_dropCut 31 = .ok (.if_icmp .ne 15, 3) := by decide +kernel
theorem dX9_dropCut_34 : decode cX9_dropCut 34 = .ok (.aload_n 0, 1) := by decide +kernel
theorem dX9_dropCut_35 : decode cX9_dropCut 35 = .ok (.getfield 12, 3) := by decide +kernel
theorem dX9_dropCut_38 : decode cX9_dropCut 38 = .ok (.iload_n 2, 1) := by decide +kernel
theorem dX9_dropCut_39 : decode cX9_dropCut 39 = .ok (.iload_n 1, 1) := by decide +kernel
theorem dX9_dropCut_40 : decode cX9_dropCut 40 = .ok (.invokevirtual 201, 3) := by decide +kernel
theorem dX9_dropCut_43 : decode cX9_dropCut 43 = .ok (.goto 6, 3) := by decide +kernel
theorem dX9_dropCut_46 : decode cX9_dropCut 46 = .ok (.iinc 2 1, 3) := by decide +kernel
theorem dX9_dropCut_49 : decode cX9_dropCut 49 = .ok (.iinc 3 1, 3) := by decide +kernel
theorem dX9_dropCut_52 : decode cX9_dropCut 52 = .ok (.goto (-48), 3) := by decide +kernel
theorem dX9_dropCut_55 : decode cX9_dropCut 55 = .ok (.return_, 1) := by decide +kernel
set_option maxRecDepth 20000 in
theorem ggX9_undo_X3_keyOf : GoodIn wsX9_undo wsX3_keyOf := goodIn_r _ [10, 11, 54, 55] (by decide +kernel) (by decide +kernel)
set_option maxRecDepth 20000 in
theorem gX9_undo_X3_keyOf : GoodIn wsX9_undo (wsV RX9 205 RX3 yX3_keyOf wsX3_keyOf) := goodIn_app (goodIn_of _ (by decide +kernel)) ggX9_undo_X3_keyOf
set_option maxRecDepth 20000 in
theorem ggX9_undo_X7_placeFrom : GoodIn wsX9_undo wsX7_placeFrom := goodIn_r _ [16, 17, 18, 56, 57, 58, 59, 60, 61, 62, 63] (by decide +kernel) (by decide +kernel)
set_option maxRecDepth 20000 in
theorem gX9_undo_X7_placeFrom : GoodIn wsX9_undo (wsV RX9 137 RX7 yX7_placeFrom wsX7_placeFrom) := goodIn_app (goodIn_of _ (by decide +kernel)) ggX9_undo_X7_placeFrom
set_option maxRecDepth 20000 in
theorem ggX9_undo_X3_handOf : GoodIn wsX9_undo wsX3_handOf := goodIn_r _ [22, 11, 54, 55] (by decide +kernel) (by decide +kernel)
set_option maxRecDepth 20000 in
theorem gX9_undo_X3_handOf : GoodIn wsX9_undo (wsV RX9 208 RX3 yX3_handOf wsX3_handOf) := goodIn_app (goodIn_of _ (by decide +kernel)) ggX9_undo_X3_handOf
set_option maxRecDepth 20000 in
theorem ggX9_undo_X7_hasAt : GoodIn wsX9_undo wsX7_hasAt := goodIn_r _ [26, 17, 18, 56, 57, 58, 59, 60, 61, 62, 63] (by decide +kernel) (by decide +kernel)
set_option maxRecDepth 20000 in
theorem gX9_undo_X7_hasAt : GoodIn wsX9_undo (wsV RX9 168 RX7 yX7_hasAt wsX7_hasAt) := goodIn_app (goodIn_of _ (by decide +kernel)) ggX9_undo_X7_hasAt
set_option maxRecDepth 20000 in
theorem ggX9_undo_X3_whatOf : GoodIn wsX9_undo wsX3_whatOf := goodIn_r _ [30, 11, 54, 55] (by decide +kernel) (by decide +kernel)
set_option maxRecDepth 20000 in
theorem gX9_undo_X3_whatOf : GoodIn wsX9_undo (wsV RX9 211 RX3 yX3_whatOf wsX3_whatOf) := goodIn_app (goodIn_of _ (by decide +kernel)) ggX9_undo_X3_whatOf
set_option maxRecDepth 20000 in
theorem ggX9_undo_X3_oldValueOf : GoodIn wsX9_undo wsX3_oldValueOf := goodIn_r _ [34, 11, 35, 54, 55] (by decide +kernel) (by decide +kernel)
set_option maxRecDepth 20000 in
theorem gX9_undo_X3_oldValueOf : GoodIn wsX9_undo (wsV RX9 214 RX3 yX3_oldValueOf wsX3_oldValueOf) := goodIn_app (goodIn_of _ (by decide +kernel)) ggX9_undo_X3_oldValueOf
set_option maxRecDepth 20000 in
theorem ggX9_undo_X7_vanish : GoodIn wsX9_undo wsX7_vanish := goodIn_r _ [39, 17, 40, 41, 18, 42, 43, 44, 45, 56, 57, 58, 59, 60, 61, 62, 63] (by decide +kernel) (by decide +kernel)
set_option maxRecDepth 20000 in
theorem gX9_undo_X7_vanish : GoodIn wsX9_undo (wsV RX9 201 RX7 yX7_vanish wsX7_vanish) := goodIn_app (goodIn_of _ (by decide +kernel)) ggX9_undo_X7_vanish
theorem dX9_undo_0 : decode cX9_undo 0 = .ok (.aload_n 0, 1) := by decide +kernel
theorem dX9_undo_1 : decode cX9_undo 1 = .ok (.getfield 28, 3) := by decide +kernel
theorem dX9_undo_4 : decode cX9_undo 4 = .ok (.getfield 49, 3) := by decide +kernel
theorem dX9_undo_7 : decode cX9_undo 7 = .ok (.iconst 1, 1) := by decide +kernel
theorem dX9_undo_8 : decode cX9_undo 8 = .ok (.isub, 1) := by decide +kernel
theorem dX9_undo_9 : decode cX9_undo 9 = .ok (.istore_n 2, 1) := by decide +kernel
theorem dX9_undo_10 : decode cX9_undo 10 = .ok (.iload_n 2, 1) := by decide +kernel
theorem dX9_undo_11 : decode cX9_undo 11 = .ok (.ifCond .lt 172, 3) := by decide +kernel
theorem dX9_undo_14 : decode cX9_undo 14 = .ok (.aload_n 0, 1) := by decide +kernel
theorem dX9_undo_15 : decode cX9_undo 15 = .ok (.getfield 12, 3) := by decide +kernel
theorem dX9_undo_18 : decode cX9_undo 18 = .ok (.aload_n 0, 1) := by decide +kernel
theorem dX9_undo_19 : decode cX9_undo 19 = .ok (.getfield 28, 3) := by decide +kernel
theorem dX9_undo_22 : decode cX9_undo 22 = .ok (.iload_n 2, 1) := by decide +kernel
theorem dX9_undo_23 : decode cX9_undo 23 = .ok (.invokevirtual 205, 3) := by decide +kernel
theorem dX9_undo_26 : decode cX9_undo 26 = .ok (.invokevirtual 137, 3) := by decide +kernel
theorem dX9_undo_29 : decode cX9_undo 29 = .ok (.istore_n 3, 1) := by decide +kernel
theorem dX9_undo_30 : decode cX9_undo 30 = .ok (.aload_n 0, 1) := by decide +kernel
theorem dX9_undo_31 : decode cX9_undo 31 = .ok (.getfield 28, 3) := by decide +kernel
theorem dX9_undo_34 : decode cX9_undo 34 = .ok (.iload_n 2, 1) := by decide +kernel
theorem dX9_undo_35 : decode cX9_undo 35 = .ok (.invokevirtual 208, 3) := by decide +kernel
theorem dX9_undo_38 : decode cX9_undo 38 = .ok (.iload_n 1, 1) := by decide +kernel
theorem dX9_undo_39 : decode cX9_undo 39 = .ok (.if_icmp .ne 138, 3) := by decide +kernel
theorem dX9_undo_42 : decode cX9_undo 42 = .ok (.aload_n 0, 1) := by decide +kernel
theorem dX9_undo_43 : decode cX9_undo 43 = .ok (.getfield 12, 3) := by decide +kernel
theorem dX9_undo_46 : decode cX9_undo 46 = .ok (.iload_n 3, 1) := by decide +kernel
theorem dX9_undo_47 : decode cX9_undo 47 = .ok (.aload_n 0, 1) := by decide +kernel
theorem dX9_undo_48 : decode cX9_undo 48 = .ok (.getfield 28, 3) := by decide +kernel
theorem dX9_undo_51 : decode cX9_undo 51 = .ok (.iload_n 2, 1) := by decide +kernel
theorem dX9_undo_52 : decode cX9_undo 52 = .ok (.invokevirtual 205, 3) := by decide +kernel
theorem dX9_undo_55 : decode cX9_undo 55 = .ok (.invokevirtual 168, 3) := by decide +kernel
theorem dX9_undo_58 : decode cX9_undo 58 = .ok (.ifCond .ne 6, 3) := by decide +kernel
theorem dX9_undo_61 : decode cX9_undo 61 = .ok (.goto 116, 3) := by decide +kernel
theorem dX9_undo_64 : decode cX9_undo 64 = .ok (.aload_n 0, 1) := by decide +kernel
theorem dX9_undo_65 : decode cX9_undo 65 = .ok (.getfield 28, 3) := by decide +kernel
theorem dX9_undo_68 : decode cX9_undo 68 = .ok (.iload_n 2, 1) := by decide +kernel
theorem dX9_undo_69 : decode cX9_undo 69 = .ok (.invokevirtual 211, 3) := by decide +kernel
theorem dX9_undo_72 : decode cX9_undo 72 = .ok (.tableswitch 96 0 3 #[32, 52, 96, 66], 32) := by decide +kernel
theorem dX9_undo_104 : decode cX9_undo 104 = .ok (.aload_n 0, 1) := by decide +kernel
theorem dX9_undo_105 : decode cX9_undo 105 = .ok (.getfield 12, 3) := by decide +kernel
theorem dX9_undo_108 : decode cX9_undo 108 = .ok (.getfield 165, 3) := by decide +kernel
theorem dX9_undo_111 : decode cX9_undo 111 = .ok (.iload_n 3, 1) := by decide +kernel
theorem dX9_undo_112 : decode cX9_undo 112 = .ok (.aload_n 0, 1) := by decide +kernel
theorem dX9_undo_113 : decode cX9_undo 113 = .ok (.getfield 28, 3) := by decide +kernel
theorem dX9_undo_116 : decode cX9_undo 116 = .ok (.iload_n 2, 1) := by decide +kernel
theorem dX9_undo_117 : decode cX9_undo 117 = .ok (.invokevirtual 214, 3) := by decide +kernel
theorem dX9_undo_120 : decode cX9_undo 120 = .ok (.iastore, 1) := by decide +kernel
theorem dX9_undo_121 : decode cX9_undo 121 = .ok (.goto 56, 3) := by decide +kernel
theorem dX9_undo_124 : decode cX9_undo 124 = .ok (.aload_n 0, 1) := by decide +kernel
theorem dX9_undo_125 : decode cX9_undo 125 = .ok (.getfield 12, 3) := by decide +kernel
theorem dX9_undo_128 : decode cX9_undo 128 = .ok (.getfield 162, 3) := by decide +kernel
theorem dX9_undo_131 : decode cX9_undo 131 = .ok (.iload_n 3, 1) := by decide +kernel
theorem dX9_undo_132 : decode cX9_undo 132 = .ok (.bipush (-2), 2) := by decide +kernel
theorem dX9_undo_134 : decode cX9_undo 134 = .ok (.iastore, 1) := by decide +kernel
theorem dX9_undo_135 : decode cX9_undo 135 = .ok (.goto 42, 3) := by decide +kernel
theorem dX9_undo_138 : decode cX9_undo 138 = .ok (.aload_n 0, 1) := by decide +kernel
theorem dX9_undo_139 : decode cX9_undo 139 = .ok (.getfield 12, 3) := by decide +kernel
theorem dX9_undo_142 : decode cX9_undo 142 = .ok (.getfield 165, 3) := by decide +kernel
theorem dX9_undo_145 : decode cX9_undo 145 = .ok (.iload_n 3, 1) := by decide +kernel
theorem dX9_undo_146 : decode cX9_undo 146 = .ok (.aload_n 0, 1) := by decide +kernel
theorem dX9_undo_147 : decode cX9_undo 147 = .ok (.getfield 28, 3) := by decide +kernel
theorem dX9_undo_150 : decode cX9_undo 150 = .ok (.iload_n 2, 1) := by decide +kernel
theorem dX9_undo_151 : decode cX9_undo 151 = .ok (.invokevirtual 214, 3) := by decide +kernel
theorem dX9_undo_154 : decode cX9_undo 154 = .ok (.iastore, 1) := by decide +kernel
theorem dX9_undo_155 : decode cX9_undo 155 = .ok (.aload_n 0, 1) := by decide +kernel
theorem dX9_undo_156 : decode cX9_undo 156 = .ok (.getfield 12, 3) := by decide +kernel
theorem dX9_undo_159 : decode cX9_undo 159 = .ok (.getfield 162, 3) := by decide +kernel
theorem dX9_undo_162 : decode cX9_undo 162 = .ok (.iload_n 3, 1) := by decide +kernel
theorem dX9_undo_163 : decode cX9_undo 163 = .ok (.iload_n 1, 1) := by decide +kernel
theorem dX9_undo_164 : decode cX9_undo 164 = .ok (.iastore, 1) := by decide +kernel
theorem dX9_undo_165 : decode cX9_undo 165 = .ok (.goto 12, 3) := by decide +kernel
theorem dX9_undo_168 : decode cX9_undo 168 = .ok (.aload_n 0, 1) := by decide +kernel
theorem dX9_undo_169 : decode cX9_undo 169 = .ok (.getfield 12, 3) := by decide +kernel
theorem dX9_undo_172 : decode cX9_undo 172 = .ok (.iload_n 3, 1) := by decide +kernel
theorem dX9_undo_173 : decode cX9_undo 173 = .ok (.iload_n 1, 1) := by decide +kernel
theorem dX9_undo_174 : decode cX9_undo 174 = .ok (.invokevirtual 201, 3) := by decide +kernel
theorem dX9_undo_177 : decode cX9_undo 177 = .ok (.iinc 2 (-1), 3) := by decide +kernel
theorem dX9_undo_180 : decode cX9_undo 180 = .ok (.goto (-170), 3) := by decide +kernel
theorem dX9_undo_183 : decode cX9_undo 183 = .ok (.return_, 1) := by decide +kernel
set_option maxRecDepth 20000 in
theorem ggX9_shut_X1_leaveLine : GoodIn wsX9_shut wsX1_leaveLine := goodIn_r _ [9, 10, 11, 37, 38, 39, 40, 41, 42, 43, 44, 45, 46, 47, 48] (by decide +kernel) (by decide +kernel)
set_option maxRecDepth 20000 in
theorem gX9_shut_X1_leaveLine : GoodIn wsX9_shut (wsV RX9 119 RX1 yX1_leaveLine wsX1_leaveLine) := goodIn_app (goodIn_of _ (by decide +kernel)) ggX9_shut_X1_leaveLine
set_option maxRecDepth 20000 in
theorem ggX9_shut_X7_release : GoodIn wsX9_shut wsX7_release := goodIn_r _ [16, 17, 18, 19, 20, 21, 49, 50, 51, 52, 53, 54, 55, 56] (by decide +kernel) (by decide +kernel)
set_option maxRecDepth 20000 in
theorem gX9_shut_X7_release : GoodIn wsX9_shut (wsV RX9 217 RX7 yX7_release wsX7_release) := goodIn_app (goodIn_of _ (by decide +kernel)) ggX9_shut_X7_release
set_option maxRecDepth 20000 in
theorem ggX9_shut_X3_forget : GoodIn wsX9_shut wsX3_forget := goodIn_r _ [26, 27, 28, 57, 58] (by decide +kernel) (by decide +kernel)
set_option maxRecDepth 20000 in
theorem gX9_shut_X3_forget : GoodIn wsX9_shut (wsV RX9 220 RX3 yX3_forget wsX3_forget) := goodIn_app (goodIn_of _ (by decide +kernel)) ggX9_shut_X3_forget
theorem dX9_shut_0 : decode cX9_shut 0 = .ok (.aload_n 0, 1) := by decide +kernel
theorem dX9_shut_1 : decode cX9_shut 1 = .ok (.getfield 21, 3) := by decide +kernel
theorem dX9_shut_4 : decode cX9_shut 4 = .ok (.iload_n 1, 1) := by decide +kernel
theorem dX9_shut_5 : decode cX9_shut 5 = .ok (.invokevirtual 119, 3) := by decide +kernel
theorem dX9_shut_8 : decode cX9_shut 8 = .ok (.aload_n 0, 1) := by decide +kernel
theorem dX9_shut_9 : decode cX9_shut 9 = .ok (.getfield 21, 3) := by decide +kernel
theorem dX9_shut_12 : decode cX9_shut 12 = .ok (.getfield 72, 3) := by decide +kernel
theorem dX9_shut_15 : decode cX9_shut 15 = .ok (.iload_n 1, 1) := by decide +kernel
theorem dX9_shut_16 : decode cX9_shut 16 = .ok (.iconst 0, 1) := by decide +kernel
theorem dX9_shut_17 : decode cX9_shut 17 = .ok (.iastore, 1) := by decide +kernel
theorem dX9_shut_18 : decode cX9_shut 18 = .ok (.aload_n 0, 1) := by decide +kernel
theorem dX9_shut_19 : decode cX9_shut 19 = .ok (.getfield 12, 3) := by decide +kernel
theorem dX9_shut_22 : decode cX9_shut 22 = .ok (.iload_n 1, 1) := by decide +kernel
theorem dX9_shut_23 : decode cX9_shut 23 = .ok (.invokevirtual 217, 3) := by decide +kernel
theorem dX9_shut_26 : decode cX9_shut 26 = .ok (.aload_n 0, 1) := by decide +kernel
theorem dX9_shut_27 : decode cX9_shut 27 = .ok (.getfield 28, 3) := by decide +kernel
theorem dX9_shut_30 : decode cX9_shut 30 = .ok (.iload_n 1, 1) := by decide +kernel
theorem dX9_shut_31 : decode cX9_shut 31 = .ok (.invokevirtual 220, 3) := by decide +kernel
theorem dX9_shut_34 : decode cX9_shut 34 = .ok (.return_, 1) := by decide +kernel
set_option maxRecDepth 20000 in
theorem ggX9_allLocks_X7_locksOf : GoodIn wsX9_allLocks wsX7_locksOf := goodIn_r _ [8, 9, 10, 11, 32, 33, 34, 35, 36, 37, 38, 39] (by decide +kernel) (by decide +kernel)
set_option maxRecDepth 20000 in
theorem gX9_allLocks_X7_locksOf : GoodIn wsX9_allLocks (wsV RX9 223 RX7 yX7_locksOf wsX7_locksOf) := goodIn_app (goodIn_of _ (by decide +kernel)) ggX9_allLocks_X7_locksOf
theorem dX9_allLocks_0 : decode cX9_allLocks 0 = .ok (.iconst 0, 1) := by decide +kernel
theorem dX9_allLocks_1 : decode cX9_allLocks 1 = .ok (.istore_n 1, 1) := by decide +kernel
theorem dX9_allLocks_2 : decode cX9_allLocks 2 = .ok (.iconst 0, 1) := by decide +kernel
theorem dX9_allLocks_3 : decode cX9_allLocks 3 = .ok (.istore_n 2, 1) := by decide +kernel
theorem dX9_allLocks_4 : decode cX9_allLocks 4 = .ok (.iload_n 2, 1) := by decide +kernel
theorem dX9_allLocks_5 : decode cX9_allLocks 5 = .ok (.aload_n 0, 1) := by decide +kernel
theorem dX9_allLocks_6 : decode cX9_allLocks 6 = .ok (.getfield 21, 3) := by decide +kernel
theorem dX9_allLocks_9 : decode cX9_allLocks 9 = .ok (.getfield 200, 3) := by decide +kernel
theorem dX9_allLocks_12 : decode cX9_allLocks 12 = .ok (.if_icmp .ge 20, 3) := by decide +kernel
theorem dX9_allLocks_15 : decode cX9_allLocks 15 = .ok (.iload_n 1, 1) := by decide +kernel
theorem dX9_allLocks_16 : decode cX9_allLocks 16 = .ok (.aload_n 0, 1) := by decide +kernel
theorem dX9_allLocks_17 : decode cX9_allLocks 17 = .ok (.getfield 12, 3) := by decide +kernel
theorem dX9_allLocks_20 : decode cX9_allLocks 20 = .ok (.iload_n 2, 1) := by decide +kernel
theorem dX9_allLocks_21 : decode cX9_allLocks 21 = .ok (.invokevirtual 223, 3) := by decide +kernel
theorem dX9_allLocks_24 : decode cX9_allLocks 24 = .ok (.iadd, 1) := by decide +kernel
theorem dX9_allLocks_25 : decode cX9_allLocks 25 = .ok (.istore_n 1, 1) := by decide +kernel
theorem dX9_allLocks_26 : decode cX9_allLocks 26 = .ok (.iinc 2 1, 3) := by decide +kernel
theorem dX9_allLocks_29 : decode cX9_allLocks 29 = .ok (.goto (-25), 3) := by decide +kernel
theorem dX9_allLocks_32 : decode cX9_allLocks 32 = .ok (.iload_n 1, 1) := by decide +kernel
theorem dX9_allLocks_33 : decode cX9_allLocks 33 = .ok (.ireturn, 1) := by decide +kernel
set_option maxRecDepth 20000 in
theorem ggX10_init_X5_init : GoodIn wsX10_init wsX5_init := goodIn_r _ [23, 24, 2, 3, 25, 26, 27, 28, 18, 19, 29, 30, 31, 32, 33, 34, 35, 36, 37, 38, 39, 40, 41, 42, 43, 44, 45, 46, 47, 48, 49, 50, 51, 52, 53, 112, 113, 114, 115, 116, 117, 118, 119, 120, 137, 138, 139, 140, 141, 142, 143, 144, 145, 146, 147, 148, 149, 150, 151, 152, 153, 154] (by decide +kernel) (by decide +kernel)
set_option maxRecDepth 20000 in
theorem gX10_init_X5_init_n9 : GoodIn wsX10_init (wsX5_init) := ggX10_init_X5_init
set_option maxRecDepth 20000 in
theorem ggX10_init_X8_init : GoodIn wsX10_init wsX8_init := goodIn_r _ [55, 56, 2, 3, 57, 58, 59, 60, 37, 61, 62, 63, 34, 35, 64, 65, 66, 67, 68, 69, 70, 71, 72, 73, 74, 75, 76, 77, 78, 79, 80, 81, 82, 83, 84, 85, 86, 87, 44, 45, 46, 47, 48, 49, 50, 51, 52, 53, 88, 89, 90, 91, 92, 93, 94, 95, 96, 97, 98, 99, 100, 101, 102, 103, 104, 105, 155, 156, 157, 158, 159, 128, 129, 130, 131, 132, 133, 147, 148, 149, 150, 151, 152, 153, 154, 160, 161, 162, 163, 164, 165, 166, 167, 168, 169, 170, 171, 172, 173, 174, 175, 176, 177, 178, 179, 180, 181] (by decide +kernel) (by decide +kernel)
set_option maxRecDepth 20000 in
theorem gX10_init_X8_init_n18 : GoodIn wsX10_init (wsX8_init) := ggX10_init_X8_init
set_option maxRecDepth 20000 in
theorem ggX10_init_X2_init : GoodIn wsX10_init wsX2_init := goodIn_r _ [107, 108, 2, 3, 109, 58, 59, 110, 26, 111, 65, 66, 67, 68, 69, 70, 71, 37, 72, 73, 74, 75, 76, 77, 78, 34, 35, 79, 80, 81, 82, 83, 84, 85, 86, 87, 44, 45, 46, 47, 48, 49, 50, 51, 52, 53, 88, 89, 90, 91, 92, 93, 94, 95, 96, 97, 98, 99, 100, 101, 102, 103, 104, 105, 155, 156, 157, 158, 159, 134, 135, 136, 160, 161, 162, 163, 164, 165, 166, 167, 147, 148, 149, 150, 151, 152, 153, 154, 168, 169, 170, 171, 172, 173, 174, 175, 176, 177, 178, 179, 180, 181] (by decide +kernel) (by decide +kernel)
set_option maxRecDepth 20000 in
theorem gX10_init_X2_init_n25 : GoodIn wsX10_init (wsX2_init) := ggX10_init_X2_init
set_option maxRecDepth 20000 in
theorem ggX10_init_X6_init : GoodIn wsX10_init wsX6_init := goodIn_r _ [31, 32, 2, 3, 33, 34, 35, 36, 37, 38, 39, 40, 41, 42, 43, 44, 45, 46, 47, 48, 49, 50, 51, 52, 53, 147, 148, 149, 150, 151, 152, 153, 154, 137, 138, 139, 140, 141, 142, 143, 144, 145, 146] (by decide +kernel) (by decide +kernel)
set_option maxRecDepth 20000 in
theorem gX10_init_X6_init_n36 : GoodIn wsX10_init (wsX6_init) := ggX10_init_X6_init
theorem dX10_init_0 : decode cX10_init 0 = .ok (.aload_n 0, 1) := by decide +kernel
theorem dX10_init_1 : decode cX10_init 1 = .ok (.invokespecial 1, 3) := by decide +kernel
theorem dX10_init_4 : decode cX10_init 4 = .ok (.aload_n 0, 1) := by decide +kernel
theorem dX10_init_5 : decode cX10_init 5 = .ok (.new 7, 3) := by decide +kernel
theorem dX10_init_8 : decode cX10_init 8 = .ok (.dup, 1) := by decide +kernel
theorem dX10_init_9 : decode cX10_init 9 = .ok (.invokespecial 9, 3) := by decide +kernel
theorem dX10_init_12 : decode cX10_init 12 = .ok (.putfield 10, 3) := by decide +kernel
theorem dX10_init_15 : decode cX10_init 15 = .ok (.aload_n 0, 1) := by decide +kernel
theorem dX10_init_16 : decode cX10_init 16 = .ok (.new 16, 3) := by decide +kernel
theorem dX10_init_19 : decode cX10_init 19 = .ok (.dup, 1) := by decide +kernel
theorem dX10_init_20 : decode cX10_init 20 = .ok (.invokespecial 18, 3) := by decide +kernel
theorem dX10_init_23 : decode cX10_init 23 = .ok (.putfield 19, 3) := by decide +kernel
theorem dX10_init_26 : decode cX10_init 26 = .ok (.aload_n 0, 1) := by decide +kernel
theorem dX10_init_27 : decode cX10_init 27 = .ok (.new 23, 3) := by decide +kernel
theorem dX10_init_30 : decode cX10_init 30 = .ok (.dup, 1) := by decide +kernel
theorem dX10_init_31 : decode cX10_init 31 = .ok (.invokespecial 25, 3) := by decide +kernel
theorem dX10_init_34 : decode cX10_init 34 = .ok (.putfield 26, 3) := by decide +kernel
theorem dX10_init_37 : decode cX10_init 37 = .ok (.aload_n 0, 1) := by decide +kernel
theorem dX10_init_38 : decode cX10_init 38 = .ok (.bipush 16, 2) := by decide +kernel
theorem dX10_init_40 : decode cX10_init 40 = .ok (.anewarray 23, 3) := by decide +kernel
theorem dX10_init_43 : decode cX10_init 43 = .ok (.putfield 30, 3) := by decide +kernel
theorem dX10_init_46 : decode cX10_init 46 = .ok (.aload_n 0, 1) := by decide +kernel
theorem dX10_init_47 : decode cX10_init 47 = .ok (.new 34, 3) := by decide +kernel
theorem dX10_init_50 : decode cX10_init 50 = .ok (.dup, 1) := by decide +kernel
theorem dX10_init_51 : decode cX10_init 51 = .ok (.invokespecial 36, 3) := by decide +kernel
theorem dX10_init_54 : decode cX10_init 54 = .ok (.putfield 37, 3) := by decide +kernel
theorem dX10_init_57 : decode cX10_init 57 = .ok (.aload_n 0, 1) := by decide +kernel
theorem dX10_init_58 : decode cX10_init 58 = .ok (.new 34, 3) := by decide +kernel
theorem dX10_init_61 : decode cX10_init 61 = .ok (.dup, 1) := by decide +kernel
theorem dX10_init_62 : decode cX10_init 62 = .ok (.invokespecial 36, 3) := by decide +kernel
theorem dX10_init_65 : decode cX10_init 65 = .ok (.putfield 41, 3) := by decide +kernel
theorem dX10_init_68 : decode cX10_init 68 = .ok (.return_, 1) := by decide +kernel
set_option maxRecDepth 20000 in
theorem ggX10_feed_X2_append : GoodIn wsX10_feed wsX2_append := goodIn_r _ [7, 8, 9, 17, 18, 19] (by decide +kernel) (by decide +kernel)
set_option maxRecDepth 20000 in
theorem gX10_feed_X2_append : GoodIn wsX10_feed (wsV RX10 48 RX2 yX2_append wsX2_append) := goodIn_app (goodIn_of _ (by decide +kernel)) ggX10_feed_X2_append
theorem dX10_feed_0 : decode cX10_feed 0 = .ok (.aload_n 0, 1) := by decide +kernel
theorem dX10_feed_1 : decode cX10_feed 1 = .ok (.getfield 26, 3) := by decide +kernel
theorem dX10_feed_4 : decode cX10_feed 4 = .ok (.getfield 44, 3) := by decide +kernel
theorem dX10_feed_7 : decode cX10_feed 7 = .ok (.sipush 680, 3) := by decide +kernel
theorem dX10_feed_10 : decode cX10_feed 10 = .ok (.if_icmp .le 5, 3) := by decide +kernel
theorem dX10_feed_13 : decode cX10_feed 13 = .ok (.iconst (-1), 1) := by decide +kernel
theorem dX10_feed_14 : decode cX10_feed 14 = .ok (.ireturn, 1) := by decide +kernel
theorem dX10_feed_15 : decode cX10_feed 15 = .ok (.aload_n 0, 1) := by decide +kernel
theorem dX10_feed_16 : decode cX10_feed 16 = .ok (.getfield 26, 3) := by decide +kernel
theorem dX10_feed_19 : decode cX10_feed 19 = .ok (.iload_n 1, 1) := by decide +kernel
theorem dX10_feed_20 : decode cX10_feed 20 = .ok (.invokevirtual 48, 3) := by decide +kernel
theorem dX10_feed_23 : decode cX10_feed 23 = .ok (.aload_n 0, 1) := by decide +kernel
theorem dX10_feed_24 : decode cX10_feed 24 = .ok (.getfield 26, 3) := by decide +kernel
theorem dX10_feed_27 : decode cX10_feed 27 = .ok (.iload_n 2, 1) := by decide +kernel
theorem dX10_feed_28 : decode cX10_feed 28 = .ok (.invokevirtual 48, 3) := by decide +kernel
theorem dX10_feed_31 : decode cX10_feed 31 = .ok (.aload_n 0, 1) := by decide +kernel
theorem dX10_feed_32 : decode cX10_feed 32 = .ok (.getfield 26, 3) := by decide +kernel
theorem dX10_feed_35 : decode cX10_feed 35 = .ok (.iload_n 3, 1) := by decide +kernel
theorem dX10_feed_36 : decode cX10_feed 36 = .ok (.invokevirtual 48, 3) := by decide +kernel
theorem dX10_feed_39 : decode cX10_feed 39 = .ok (.aload_n 0, 1) := by decide +kernel
theorem dX10_feed_40 : decode cX10_feed 40 = .ok (.getfield 26, 3) := by decide +kernel
theorem dX10_feed_43 : decode cX10_feed 43 = .ok (.iload 4, 2) := by decide +kernel
theorem dX10_feed_45 : decode cX10_feed 45 = .ok (.invokevirtual 48, 3) := by decide +kernel
theorem dX10_feed_48 : decode cX10_feed 48 = .ok (.aload_n 0, 1) := by decide +kernel
theorem dX10_feed_49 : decode cX10_feed 49 = .ok (.getfield 26, 3) := by decide +kernel
theorem dX10_feed_52 : decode cX10_feed 52 = .ok (.iload 5, 2) := by decide +kernel
theorem dX10_feed_54 : decode cX10_feed 54 = .ok (.invokevirtual 48, 3) := by decide +kernel
theorem dX10_feed_57 : decode cX10_feed 57 = .ok (.aload_n 0, 1) := by decide +kernel
theorem dX10_feed_58 : decode cX10_feed 58 = .ok (.getfield 26, 3) := by decide +kernel
theorem dX10_feed_61 : decode cX10_feed 61 = .ok (.getfield 44, 3) := by decide +kernel
theorem dX10_feed_64 : decode cX10_feed 64 = .ok (.ireturn, 1) := by decide +kernel
set_option maxRecDepth 20000 in
theorem ggX10_text_X5_readAll : GoodIn wsX10_text wsX5_readAll := goodIn_r _ [16, 17, 18, 19, 20, 21, 22, 23, 24, 25, 26, 27, 28, 29, 30, 31, 32, 33, 34, 35, 36, 37, 38, 39, 40, 41, 15, 42, 43, 44, 45, 46, 47, 48, 49, 50, 51, 52, 53, 54, 55, 56, 57, 58, 59, 60, 61, 62, 63, 64, 65, 66, 67, 68, 69, 70, 71, 72, 73, 74, 75, 76, 77, 78, 79, 80, 81, 82, 83, 84, 85, 86, 87, 88, 89, 90, 91, 92, 93, 94, 95, 96, 97, 98, 99, 100, 101, 102, 103, 104, 105, 106, 107, 108, 109, 110, 111, 112, 113, 114, 115, 116, 117, 118, 119, 120, 121, 122, 123, 124, 125, 126, 127, 128, 129, 130, 131, 132, 133, 134, 135, 136, 137, 138, 139, 140, 141, 142, 143, 144, 145, 146, 147, 148, 149, 150, 151, 152, 153, 154, 228, 229, 230, 231, 232, 233, 234, 235, 236, 218, 219, 220, 221, 222, 223, 224, 225, 226, 227, 237, 238, 239, 240, 241, 242, 243, 244] (by decide +kernel) (by decide +kernel)
set_option maxRecDepth 20000 in
theorem gX10_text_X5_readAll : GoodIn wsX10_text (wsV RX10 56 RX5 yX5_readAll wsX5_readAll) := goodIn_app (goodIn_of _ (by decide +kernel)) ggX10_text_X5_readAll
set_option maxRecDepth 20000 in
theorem ggX10_text_X0_begin : GoodIn wsX10_text wsX0_begin := goodIn_r _ [159, 160, 161, 162, 163, 164, 165, 166, 167, 168, 169, 170, 171, 172, 173, 174, 175, 176, 177, 178, 179, 180, 181, 119, 182, 121, 122, 183, 184, 185, 186, 136, 137, 138, 135, 139, 140, 187, 188, 189, 190, 191, 192, 193, 194, 195, 196, 197, 198, 199, 200, 201, 245, 246, 247, 248, 249, 250, 251, 252, 253, 254, 255, 256, 257, 218, 219, 220, 221, 222, 223, 224, 225, 226, 227, 258, 259, 237, 238, 239, 240, 241, 242, 243, 244, 260, 261, 262, 263, 264, 265, 266, 267, 268, 269, 270, 271] (by decide +kernel) (by decide +kernel)
set_option maxRecDepth 20000 in
theorem gX10_text_X0_begin : GoodIn wsX10_text (wsV RX10 64 RX0 yX0_begin wsX0_begin) := goodIn_app (goodIn_of _ (by decide +kernel)) ggX10_text_X0_begin
theorem dX10_text_0 : decode cX10_text 0 = .ok (.iload_n 1, 1) := by decide +kernel
theorem dX10_text_1 : decode cX10_text 1 = .ok (.ifCond .lt 14, 3) := by decide +kernel
theorem dX10_text_4 : decode cX10_text 4 = .ok (.iload_n 1, 1) := by decide +kernel
theorem dX10_text_5 : decode cX10_text 5 = .ok (.aload_n 0, 1) := by decide +kernel
theorem dX10_text_6 : decode cX10_text 6 = .ok (.getfield 26, 3) := by decide +kernel
theorem dX10_text_9 : decode cX10_text 9 = .ok (.getfield 44, 3) := by decide +kernel
theorem dX10_text_12 : decode cX10_text 12 = .ok (.if_icmp .le 6, 3) := by decide +kernel
theorem dX10_text_15 : decode cX10_text 15 = .ok (.bipush (-2), 2) := by decide +kernel
theorem dX10_text_17 : decode cX10_text 17 = .ok (.ireturn, 1) := by decide +kernel
theorem dX10_text_18 : decode cX10_text 18 = .ok (.aload_n 0, 1) := by decide +kernel
theorem dX10_text_19 : decode cX10_text 19 = .ok (.getfield 10, 3) := by decide +kernel
theorem dX10_text_22 : decode cX10_text 22 = .ok (.aload_n 0, 1) := by decide +kernel
theorem dX10_text_23 : decode cX10_text 23 = .ok (.getfield 41, 3) := by decide +kernel
theorem dX10_text_26 : decode cX10_text 26 = .ok (.aload_n 0, 1) := by decide +kernel
theorem dX10_text_27 : decode cX10_text 27 = .ok (.getfield 26, 3) := by decide +kernel
theorem dX10_text_30 : decode cX10_text 30 = .ok (.getfield 52, 3) := by decide +kernel
theorem dX10_text_33 : decode cX10_text 33 = .ok (.iload_n 1, 1) := by decide +kernel
theorem dX10_text_34 : decode cX10_text 34 = .ok (.invokevirtual 56, 3) := by decide +kernel
theorem dX10_text_37 : decode cX10_text 37 = .ok (.istore_n 2, 1) := by decide +kernel
theorem dX10_text_38 : decode cX10_text 38 = .ok (.aload_n 0, 1) := by decide +kernel
theorem dX10_text_39 : decode cX10_text 39 = .ok (.getfield 26, 3) := by decide +kernel
theorem dX10_text_42 : decode cX10_text 42 = .ok (.iconst 0, 1) := by decide +kernel
theorem dX10_text_43 : decode cX10_text 43 = .ok (.putfield 44, 3) := by decide +kernel
theorem dX10_text_46 : decode cX10_text 46 = .ok (.iload_n 2, 1) := by decide +kernel
theorem dX10_text_47 : decode cX10_text 47 = .ok (.ifCond .ne 5, 3) := by decide +kernel
theorem dX10_text_50 : decode cX10_text 50 = .ok (.iconst (-1), 1) := by decide +kernel
theorem dX10_text_51 : decode cX10_text 51 = .ok (.ireturn, 1) := by decide +kernel
theorem dX10_text_52 : decode cX10_text 52 = .ok (.aload_n 0, 1) := by decide +kernel
theorem dX10_text_53 : decode cX10_text 53 = .ok (.getfield 37, 3) := by decide +kernel
theorem dX10_text_56 : decode cX10_text 56 = .ok (.astore_n 3, 1) := by decide +kernel
theorem dX10_text_57 : decode cX10_text 57 = .ok (.aload_n 0, 1) := by decide +kernel
theorem dX10_text_58 : decode cX10_text 58 = .ok (.aload_n 0, 1) := by decide +kernel
theorem dX10_text_59 : decode cX10_text 59 = .ok (.getfield 41, 3) := by decide +kernel
theorem dX10_text_62 : decode cX10_text 62 = .ok (.putfield 37, 3) := by decide +kernel
theorem dX10_text_65 : decode cX10_text 65 = .ok (.aload_n 0, 1) := by decide +kernel
theorem dX10_text_66 : decode cX10_text 66 = .ok (.aload_n 3, 1) := by decide +kernel
theorem dX10_text_67 : decode cX10_text 67 = .ok (.putfield 41, 3) := by decide +kernel
theorem dX10_text_70 : decode cX10_text 70 = .ok (.aload_n 0, 1) := by decide +kernel
theorem dX10_text_71 : decode cX10_text 71 = .ok (.getfield 26, 3) := by decide +kernel
theorem dX10_text_74 : decode cX10_text 74 = .ok (.getfield 60, 3) := by decide +kernel
theorem dX10_text_77 : decode cX10_text 77 = .ok (.aload_n 0, 1) := by decide +kernel
theorem dX10_text_78 : decode cX10_text 78 = .ok (.getfield 37, 3) := by decide +kernel
theorem dX10_text_81 : decode cX10_text 81 = .ok (.invokevirtual 64, 3) := by decide +kernel
theorem dX10_text_84 : decode cX10_text 84 = .ok (.aload_n 0, 1) := by decide +kernel
theorem dX10_text_85 : decode cX10_text 85 = .ok (.iconst 0, 1) := by decide +kernel
theorem dX10_text_86 : decode cX10_text 86 = .ok (.putfield 70, 3) := by decide +kernel
theorem dX10_text_89 : decode cX10_text 89 = .ok (.aload_n 0, 1) := by decide +kernel
theorem dX10_text_90 : decode cX10_text 90 = .ok (.getfield 19, 3) := by decide +kernel
theorem dX10_text_93 : decode cX10_text 93 = .ok (.iconst 0, 1) := by decide +kernel
theorem dX10_text_94 : decode cX10_text 94 = .ok (.putfield 73, 3) := by decide +kernel
theorem dX10_text_97 : decode cX10_text 97 = .ok (.aload_n 0, 1) := by decide +kernel
theorem dX10_text_98 : decode cX10_text 98 = .ok (.getfield 37, 3) := by decide +kernel
theorem dX10_text_101 : decode cX10_text 101 = .ok (.getfield 77, 3) := by decide +kernel
theorem dX10_text_104 : decode cX10_text 104 = .ok (.ireturn, 1) := by decide +kernel
theorem dX10_fault_0 : decode cX10_fault 0 = .ok (.iload_n 1, 1) := by decide +kernel
theorem dX10_fault_1 : decode cX10_fault 1 = .ok (.ifCond .ne 11, 3) := by decide +kernel
theorem dX10_fault_4 : decode cX10_fault 4 = .ok (.aload_n 0, 1) := by decide +kernel
theorem dX10_fault_5 : decode cX10_fault 5 = .ok (.getfield 10, 3) := by decide +kernel
theorem dX10_fault_8 : decode cX10_fault 8 = .ok (.getfield 80, 3) := by decide +kernel
theorem dX10_fault_11 : decode cX10_fault 11 = .ok (.ireturn, 1) := by decide +kernel
theorem dX10_fault_12 : decode cX10_fault 12 = .ok (.iload_n 1, 1) := by decide +kernel
theorem dX10_fault_13 : decode cX10_fault 13 = .ok (.iconst 1, 1) := by decide +kernel
theorem dX10_fault_14 : decode cX10_fault 14 = .ok (.if_icmp .ne 13, 3) := by decide +kernel
theorem dX10_fault_17 : decode cX10_fault 17 = .ok (.aload_n 0, 1) := by decide +kernel
theorem dX10_fault_18 : decode cX10_fault 18 = .ok (.getfield 10, 3) := by decide +kernel
theorem dX10_fault_21 : decode cX10_fault 21 = .ok (.getfield 83, 3) := by decide +kernel
theorem dX10_fault_24 : decode cX10_fault 24 = .ok (.goto 4, 3) := by decide +kernel
theorem dX10_fault_27 : decode cX10_fault 27 = .ok (.iconst (-1), 1) := by decide +kernel
theorem dX10_fault_28 : decode cX10_fault 28 = .ok (.ireturn, 1) := by decide +kernel
set_option maxRecDepth 20000 in
theorem ggX10_named_X6_handNamed : GoodIn wsX10_named wsX6_handNamed := goodIn_r _ [6, 7, 8, 16, 17, 18, 19, 20, 21, 22, 23, 24, 25] (by decide +kernel) (by decide +kernel)
set_option maxRecDepth 20000 in
theorem gX10_named_X6_handNamed : GoodIn wsX10_named (wsV RX10 86 RX6 yX6_handNamed wsX6_handNamed) := goodIn_app (goodIn_of _ (by decide +kernel)) ggX10_named_X6_handNamed
theorem dX10_named_0 : decode cX10_named 0 = .ok (.aload_n 0, 1) := by decide +kernel
theorem dX10_named_1 : decode cX10_named 1 = .ok (.getfield 37, 3) := by decide +kernel
theorem dX10_named_4 : decode cX10_named 4 = .ok (.iload_n 1, 1) := by decide +kernel
theorem dX10_named_5 : decode cX10_named 5 = .ok (.invokevirtual 86, 3) := by decide +kernel
theorem dX10_named_8 : decode cX10_named 8 = .ok (.ireturn, 1) := by decide +kernel
theorem dX10_key_0 : decode cX10_key 0 = .ok (.aload_n 0, 1) := by decide +kernel
theorem dX10_key_1 : decode cX10_key 1 = .ok (.getfield 26, 3) := by decide +kernel
theorem dX10_key_4 : decode cX10_key 4 = .ok (.getfield 60, 3) := by decide +kernel
theorem dX10_key_7 : decode cX10_key 7 = .ok (.getfield 90, 3) := by decide +kernel
theorem dX10_key_10 : decode cX10_key 10 = .ok (.getfield 94, 3) := by decide +kernel
theorem dX10_key_13 : decode cX10_key 13 = .ok (.astore_n 3, 1) := by decide +kernel
theorem dX10_key_14 : decode cX10_key 14 = .ok (.iload_n 1, 1) := by decide +kernel
theorem dX10_key_15 : decode cX10_key 15 = .ok (.ifCond .lt 11, 3) := by decide +kernel
theorem dX10_key_18 : decode cX10_key 18 = .ok (.iload_n 1, 1) := by decide +kernel
theorem dX10_key_19 : decode cX10_key 19 = .ok (.aload_n 3, 1) := by decide +kernel
theorem dX10_key_20 : decode cX10_key 20 = .ok (.getfield 100, 3) := by decide +kernel
theorem dX10_key_23 : decode cX10_key 23 = .ok (.if_icmp .lt 13, 3) := by decide +kernel
theorem dX10_key_26 : decode cX10_key 26 = .ok (.new 105, 3) := by decide +kernel
theorem dX10_key_29 : decode cX10_key 29 = .ok (.dup, 1) := by decide +kernel
theorem dX10_key_30 : decode cX10_key 30 = .ok (.ldc 107, 2) := by decide +kernel
theorem dX10_key_32 : decode cX10_key 32 = .ok (.invokespecial 109, 3) := by decide +kernel
theorem dX10_key_35 : decode cX10_key 35 = .ok (.athrow, 1) := by decide +kernel
theorem dX10_key_36 : decode cX10_key 36 = .ok (.iload_n 2, 1) := by decide +kernel
theorem dX10_key_37 : decode cX10_key 37 = .ok (.tableswitch 59 0 3 #[31, 38, 45, 52], 31) := by decide +kernel
theorem dX10_key_68 : decode cX10_key 68 = .ok (.aload_n 3, 1) := by decide +kernel
theorem dX10_key_69 : decode cX10_key 69 = .ok (.getfield 112, 3) := by decide +kernel
theorem dX10_key_72 : decode cX10_key 72 = .ok (.iload_n 1, 1) := by decide +kernel
theorem dX10_key_73 : decode cX10_key 73 = .ok (.iaload, 1) := by decide +kernel
theorem dX10_key_74 : decode cX10_key 74 = .ok (.ireturn, 1) := by decide +kernel
theorem dX10_key_75 : decode cX10_key 75 = .ok (.aload_n 3, 1) := by decide +kernel
theorem dX10_key_76 : decode cX10_key 76 = .ok (.getfield 116, 3) := by decide +kernel
theorem dX10_key_79 : decode cX10_key 79 = .ok (.iload_n 1, 1) := by decide +kernel
theorem dX10_key_80 : decode cX10_key 80 = .ok (.iaload, 1) := by decide +kernel
theorem dX10_key_81 : decode cX10_key 81 = .ok (.ireturn, 1) := by decide +kernel
theorem dX10_key_82 : decode cX10_key 82 = .ok (.aload_n 3, 1) := by decide +kernel
theorem dX10_key_83 : decode cX10_key 83 = .ok (.getfield 119, 3) := by decide +kernel
theorem dX10_key_86 : decode cX10_key 86 = .ok (.iload_n 1, 1) := by decide +kernel
theorem dX10_key_87 : decode cX10_key 87 = .ok (.iaload, 1) := by decide +kernel
theorem dX10_key_88 : decode cX10_key 88 = .ok (.ireturn, 1) := by decide +kernel
theorem dX10_key_89 : decode cX10_key 89 = .ok (.aload_n 3, 1) := by decide +kernel
theorem dX10_key_90 : decode cX10_key 90 = .ok (.getfield 122, 3) := by decide +kernel
theorem dX10_key_93 : decode cX10_key 93 = .ok (.iload_n 1, 1) := by decide +kernel
theorem dX10_key_94 : decode cX10_key 94 = .ok (.iaload, 1) := by decide +kernel
theorem dX10_key_95 : decode cX10_key 95 = .ok (.ireturn, 1) := by decide +kernel
theorem dX10_key_96 : decode cX10_key 96 = .ok (.new 125, 3) := by decide +kernel
theorem dX10_key_99 : decode cX10_key 99 = .ok (.dup, 1) := by decide +kernel
theorem dX10_key_100 : decode cX10_key 100 = .ok (.ldc 127, 2) := by decide +kernel
theorem dX10_key_102 : decode cX10_key 102 = .ok (.invokespecial 129, 3) := by decide +kernel
theorem dX10_key_105 : decode cX10_key 105 = .ok (.athrow, 1) := by decide +kernel
set_option maxRecDepth 20000 in
theorem ggX10_bits_X4_keyBits : GoodIn wsX10_bits wsX4_keyBits := goodIn_r _ [4, 5, 6, 7, 3, 8, 9, 10, 11] (by decide +kernel) (by decide +kernel)
set_option maxRecDepth 20000 in
theorem gX10_bits_X4_keyBits : GoodIn wsX10_bits (va_wsS RX10 130 yX4_keyBits wsX4_keyBits) := goodIn_app (goodIn_of _ (by decide +kernel)) ggX10_bits_X4_keyBits
theorem dX10_bits_0 : decode cX10_bits 0 = .ok (.iload_n 1, 1) := by decide +kernel
theorem dX10_bits_1 : decode cX10_bits 1 = .ok (.iload_n 2, 1) := by decide +kernel
theorem dX10_bits_2 : decode cX10_bits 2 = .ok (.invokestatic 130, 3) := by decide +kernel
theorem dX10_bits_5 : decode cX10_bits 5 = .ok (.ireturn, 1) := by decide +kernel
set_option maxRecDepth 20000 in
theorem ggX10_place_X4_keyBits : GoodIn wsX10_place wsX4_keyBits := goodIn_r _ [8, 9, 10, 11, 7, 12, 13, 14, 15] (by decide +kernel) (by decide +kernel)
set_option maxRecDepth 20000 in
theorem gX10_place_X4_keyBits : GoodIn wsX10_place (va_wsS RX10 130 yX4_keyBits wsX4_keyBits) := goodIn_app (goodIn_of _ (by decide +kernel)) ggX10_place_X4_keyBits
set_option maxRecDepth 20000 in
theorem ggX10_place_X7_placeFrom : GoodIn wsX10_place wsX7_placeFrom := goodIn_r _ [20, 21, 22, 46, 47, 48, 49, 50, 51, 52, 53] (by decide +kernel) (by decide +kernel)
set_option maxRecDepth 20000 in
theorem gX10_place_X7_placeFrom : GoodIn wsX10_place (wsV RX10 136 RX7 yX7_placeFrom wsX7_placeFrom) := goodIn_app (goodIn_of _ (by decide +kernel)) ggX10_place_X7_placeFrom
theorem dX10_place_0 : decode cX10_place 0 = .ok (.iload_n 1, 1) := by decide +kernel
theorem dX10_place_1 : decode cX10_place 1 = .ok (.iload_n 2, 1) := by decide +kernel
theorem dX10_place_2 : decode cX10_place 2 = .ok (.invokestatic 130, 3) := by decide +kernel
theorem dX10_place_5 : decode cX10_place 5 = .ok (.istore_n 3, 1) := by decide +kernel
theorem dX10_place_6 : decode cX10_place 6 = .ok (.iload_n 3, 1) := by decide +kernel
theorem dX10_place_7 : decode cX10_place 7 = .ok (.iconst (-1), 1) := by decide +kernel
theorem dX10_place_8 : decode cX10_place 8 = .ok (.if_icmp .ne 7, 3) := by decide +kernel
theorem dX10_place_11 : decode cX10_place 11 = .ok (.iconst (-1), 1) := by decide +kernel
theorem dX10_place_12 : decode cX10_place 12 = .ok (.goto 20, 3) := by decide +kernel
theorem dX10_place_15 : decode cX10_place 15 = .ok (.aload_n 0, 1) := by decide +kernel
theorem dX10_place_16 : decode cX10_place 16 = .ok (.getfield 26, 3) := by decide +kernel
theorem dX10_place_19 : decode cX10_place 19 = .ok (.getfield 60, 3) := by decide +kernel
theorem dX10_place_22 : decode cX10_place 22 = .ok (.getfield 90, 3) := by decide +kernel
theorem dX10_place_25 : decode cX10_place 25 = .ok (.getfield 94, 3) := by decide +kernel
theorem dX10_place_28 : decode cX10_place 28 = .ok (.iload_n 3, 1) := by decide +kernel
theorem dX10_place_29 : decode cX10_place 29 = .ok (.invokevirtual 136, 3) := by decide +kernel
theorem dX10_place_32 : decode cX10_place 32 = .ok (.ireturn, 1) := by decide +kernel
set_option maxRecDepth 20000 in
theorem ggX10_width_X7_widthAt : GoodIn wsX10_width wsX7_widthAt := goodIn_r _ [10, 11, 12, 13, 14, 15, 16, 17, 18, 19, 51, 52, 53, 54, 55, 56, 57, 58] (by decide +kernel) (by decide +kernel)
set_option maxRecDepth 20000 in
theorem gX10_width_X7_widthAt : GoodIn wsX10_width (wsV RX10 139 RX7 yX7_widthAt wsX7_widthAt) := goodIn_app (goodIn_of _ (by decide +kernel)) ggX10_width_X7_widthAt
set_option maxRecDepth 20000 in
theorem ggX10_width_X7_middleAt : GoodIn wsX10_width wsX7_middleAt := goodIn_r _ [23, 11, 12, 13, 14, 15, 16, 17, 18, 19, 51, 52, 53, 54, 55, 56, 57, 58] (by decide +kernel) (by decide +kernel)
set_option maxRecDepth 20000 in
theorem gX10_width_X7_middleAt : GoodIn wsX10_width (wsV RX10 143 RX7 yX7_middleAt wsX7_middleAt) := goodIn_app (goodIn_of _ (by decide +kernel)) ggX10_width_X7_middleAt
set_option maxRecDepth 20000 in
theorem ggX10_width_X4_bitsOf : GoodIn wsX10_width wsX4_bitsOf := goodIn_r _ [26, 19, 27, 18] (by decide +kernel) (by decide +kernel)
set_option maxRecDepth 20000 in
theorem gX10_width_X4_bitsOf : GoodIn wsX10_width (va_wsS RX10 146 yX4_bitsOf wsX4_bitsOf) := goodIn_app (goodIn_of _ (by decide +kernel)) ggX10_width_X4_bitsOf
theorem dX10_width_0 : decode cX10_width 0 = .ok (.aload_n 0, 1) := by decide +kernel
theorem dX10_width_1 : decode cX10_width 1 = .ok (.getfield 26, 3) := by decide +kernel
theorem dX10_width_4 : decode cX10_width 4 = .ok (.getfield 60, 3) := by decide +kernel
theorem dX10_width_7 : decode cX10_width 7 = .ok (.getfield 90, 3) := by decide +kernel
theorem dX10_width_10 : decode cX10_width 10 = .ok (.getfield 94, 3) := by decide +kernel
theorem dX10_width_13 : decode cX10_width 13 = .ok (.astore_n 3, 1) := by decide +kernel
theorem dX10_width_14 : decode cX10_width 14 = .ok (.iload_n 1, 1) := by decide +kernel
theorem dX10_width_15 : decode cX10_width 15 = .ok (.ifCond .lt 20, 3) := by decide +kernel
theorem dX10_width_18 : decode cX10_width 18 = .ok (.iload_n 1, 1) := by decide +kernel
theorem dX10_width_19 : decode cX10_width 19 = .ok (.aload_n 3, 1) := by decide +kernel
theorem dX10_width_20 : decode cX10_width 20 = .ok (.getfield 100, 3) := by decide +kernel
theorem dX10_width_23 : decode cX10_width 23 = .ok (.if_icmp .ge 12, 3) := by decide +kernel
theorem dX10_width_26 : decode cX10_width 26 = .ok (.iload_n 2, 1) := by decide +kernel
theorem dX10_width_27 : decode cX10_width 27 = .ok (.ifCond .lt 8, 3) := by decide +kernel
theorem dX10_width_30 : decode cX10_width 30 = .ok (.iload_n 2, 1) := by decide +kernel
theorem dX10_width_31 : decode cX10_width 31 = .ok (.iconst 1, 1) := by decide +kernel
theorem dX10_width_32 : decode cX10_width 32 = .ok (.if_icmp .le 5, 3) := by decide +kernel
theorem dX10_width_35 : decode cX10_width 35 = .ok (.iconst (-1), 1) := by decide +kernel
theorem dX10_width_36 : decode cX10_width 36 = .ok (.ireturn, 1) := by decide +kernel
theorem dX10_width_37 : decode cX10_width 37 = .ok (.iload_n 2, 1) := by decide +kernel
theorem dX10_width_38 : decode cX10_width 38 = .ok (.ifCond .ne 11, 3) := by decide +kernel
theorem dX10_width_41 : decode cX10_width 41 = .ok (.aload_n 3, 1) := by decide +kernel
theorem dX10_width_42 : decode cX10_width 42 = .ok (.iload_n 1, 1) := by decide +kernel
theorem dX10_width_43 : decode cX10_width 43 = .ok (.invokevirtual 139, 3) := by decide +kernel
theorem dX10_width_46 : decode cX10_width 46 = .ok (.goto 8, 3) := by decide +kernel
theorem dX10_width_49 : decode cX10_width 49 = .ok (.aload_n 3, 1) := by decide +kernel
theorem dX10_width_50 : decode cX10_width 50 = .ok (.iload_n 1, 1) := by decide +kernel
theorem dX10_width_51 : decode cX10_width 51 = .ok (.invokevirtual 143, 3) := by decide +kernel
theorem dX10_width_54 : decode cX10_width 54 = .ok (.invokestatic 146, 3) := by decide +kernel
theorem dX10_width_57 : decode cX10_width 57 = .ok (.ireturn, 1) := by decide +kernel
set_option maxRecDepth 20000 in
theorem ggX10_sum_X7_keySum : GoodIn wsX10_sum wsX7_keySum := goodIn_r _ [9, 10, 11, 12, 13, 14, 15, 16, 17, 18, 19, 47, 48, 49, 50, 51, 52, 53, 54] (by decide +kernel) (by decide +kernel)
set_option maxRecDepth 20000 in
theorem gX10_sum_X7_keySum : GoodIn wsX10_sum (wsV RX10 150 RX7 yX7_keySum wsX7_keySum) := goodIn_app (goodIn_of _ (by decide +kernel)) ggX10_sum_X7_keySum
set_option maxRecDepth 20000 in
theorem ggX10_sum_X4_bitsOf : GoodIn wsX10_sum wsX4_bitsOf := goodIn_r _ [22, 19, 23, 18] (by decide +kernel) (by decide +kernel)
set_option maxRecDepth 20000 in
theorem gX10_sum_X4_bitsOf : GoodIn wsX10_sum (va_wsS RX10 146 yX4_bitsOf wsX4_bitsOf) := goodIn_app (goodIn_of _ (by decide +kernel)) ggX10_sum_X4_bitsOf
theorem dX10_sum_0 : decode cX10_sum 0 = .ok (.aload_n 0, 1) := by decide +kernel
theorem dX10_sum_1 : decode cX10_sum 1 = .ok (.getfield 26, 3) := by decide +kernel
theorem dX10_sum_4 : decode cX10_sum 4 = .ok (.getfield 60, 3) := by decide +kernel
theorem dX10_sum_7 : decode cX10_sum 7 = .ok (.getfield 90, 3) := by decide +kernel
theorem dX10_sum_10 : decode cX10_sum 10 = .ok (.getfield 94, 3) := by decide +kernel
theorem dX10_sum_13 : decode cX10_sum 13 = .ok (.invokevirtual 150, 3) := by decide +kernel
theorem dX10_sum_16 : decode cX10_sum 16 = .ok (.invokestatic 146, 3) := by decide +kernel
theorem dX10_sum_19 : decode cX10_sum 19 = .ok (.ireturn, 1) := by decide +kernel
set_option maxRecDepth 20000 in
theorem ggX10_widest_X7_widthAt : GoodIn wsX10_widest wsX7_widthAt := goodIn_r _ [10, 11, 12, 13, 14, 15, 16, 17, 18, 19, 43, 44, 45, 46, 47, 48, 49, 50] (by decide +kernel) (by decide +kernel)
set_option maxRecDepth 20000 in
theorem gX10_widest_X7_widthAt : GoodIn wsX10_widest (wsV RX10 139 RX7 yX7_widthAt wsX7_widthAt) := goodIn_app (goodIn_of _ (by decide +kernel)) ggX10_widest_X7_widthAt
theorem dX10_widest_0 : decode cX10_widest 0 = .ok (.aload_n 0, 1) := by decide +kernel
theorem dX10_widest_1 : decode cX10_widest 1 = .ok (.getfield 26, 3) := by decide +kernel
theorem dX10_widest_4 : decode cX10_widest 4 = .ok (.getfield 60, 3) := by decide +kernel
theorem dX10_widest_7 : decode cX10_widest 7 = .ok (.getfield 90, 3) := by decide +kernel
theorem dX10_widest_10 : decode cX10_widest 10 = .ok (.getfield 94, 3) := by decide +kernel
theorem dX10_widest_13 : decode cX10_widest 13 = .ok (.astore_n 1, 1) := by decide +kernel
theorem dX10_widest_14 : decode cX10_widest 14 = .ok (.bipush (-2), 2) := by decide +kernel
theorem dX10_widest_16 : decode cX10_widest 16 = .ok (.istore_n 2, 1) := by decide +kernel
theorem dX10_widest_17 : decode cX10_widest 17 = .ok (.fconst 0, 1) := by decide +kernel
theorem dX10_widest_18 : decode cX10_widest 18 = .ok (.fstore_n 3, 1) := by decide +kernel
theorem dX10_widest_19 : decode cX10_widest 19 = .ok (.iconst 0, 1) := by decide +kernel
theorem dX10_widest_20 : decode cX10_widest 20 = .ok (.istore 4, 2) := by decide +kernel
theorem dX10_widest_22 : decode cX10_widest 22 = .ok (.iload 4, 2) := by decide +kernel
theorem dX10_widest_24 : decode cX10_widest 24 = .ok (.aload_n 1, 1) := by decide +kernel
theorem dX10_widest_25 : decode cX10_widest 25 = .ok (.getfield 100, 3) := by decide +kernel
theorem dX10_widest_28 : decode cX10_widest 28 = .ok (.if_icmp .ge 34, 3) := by decide +kernel
theorem dX10_widest_31 : decode cX10_widest 31 = .ok (.aload_n 1, 1) := by decide +kernel
theorem dX10_widest_32 : decode cX10_widest 32 = .ok (.iload 4, 2) := by decide +kernel
theorem dX10_widest_34 : decode cX10_widest 34 = .ok (.invokevirtual 139, 3) := by decide +kernel
theorem dX10_widest_37 : decode cX10_widest 37 = .ok (.fstore 5, 2) := by decide +kernel
theorem dX10_widest_39 : decode cX10_widest 39 = .ok (.iload_n 2, 1) := by decide +kernel
theorem dX10_widest_40 : decode cX10_widest 40 = .ok (.ifCond .lt 10, 3) := by decide +kernel
theorem dX10_widest_43 : decode cX10_widest 43 = .ok (.fload 5, 2) := by decide +kernel
theorem dX10_widest_45 : decode cX10_widest 45 = .ok (.fload_n 3, 1) := by decide +kernel
theorem dX10_widest_46 : decode cX10_widest 46 = .ok (.fcmp .l, 1) := by decide +kernel
theorem dX10_widest_47 : decode cX10_widest 47 = .ok (.ifCond .le 9, 3) := by decide +kernel
theorem dX10_widest_50 : decode cX10_widest 50 = .ok (.iload 4, 2) := by decide +kernel
theorem dX10_widest_52 : decode cX10_widest 52 = .ok (.istore_n 2, 1) := by decide +kernel
theorem dX10_widest_53 : decode cX10_widest 53 = .ok (.fload 5, 2) := by decide +kernel
theorem dX10_widest_55 : decode cX10_widest 55 = .ok (.fstore_n 3, 1) := by decide +kernel
theorem dX10_widest_56 : decode cX10_widest 56 = .ok (.iinc 4 1, 3) := by decide +kernel
theorem dX10_widest_59 : decode cX10_widest 59 = .ok (.goto (-37), 3) := by decide +kernel
theorem dX10_widest_62 : decode cX10_widest 62 = .ok (.iload_n 2, 1) := by decide +kernel
theorem dX10_widest_63 : decode cX10_widest 63 = .ok (.ireturn, 1) := by decide +kernel
set_option maxRecDepth 20000 in
theorem ggX10_lock_X1_has : GoodIn wsX10_lock wsX1_has := goodIn_r _ [12, 13, 53, 54, 55, 56, 57, 58, 59, 60, 61, 62, 63, 64] (by decide +kernel) (by decide +kernel)
set_option maxRecDepth 20000 in
theorem gX10_lock_X1_has : GoodIn wsX10_lock (wsV RX10 158 RX1 yX1_has wsX1_has) := goodIn_app (goodIn_of _ (by decide +kernel)) ggX10_lock_X1_has
set_option maxRecDepth 20000 in
theorem ggX10_lock_X7_levelAt : GoodIn wsX10_lock wsX7_levelAt := goodIn_r _ [18, 19, 20, 21, 45, 46, 47, 48, 49, 50, 51, 52] (by decide +kernel) (by decide +kernel)
set_option maxRecDepth 20000 in
theorem gX10_lock_X7_levelAt : GoodIn wsX10_lock (wsV RX10 167 RX7 yX7_levelAt wsX7_levelAt) := goodIn_app (goodIn_of _ (by decide +kernel)) ggX10_lock_X7_levelAt
theorem dX10_lock_0 : decode cX10_lock 0 = .ok (.aload_n 0, 1) := by decide +kernel
theorem dX10_lock_1 : decode cX10_lock 1 = .ok (.getfield 26, 3) := by decide +kernel
theorem dX10_lock_4 : decode cX10_lock 4 = .ok (.getfield 60, 3) := by decide +kernel
theorem dX10_lock_7 : decode cX10_lock 7 = .ok (.getfield 90, 3) := by decide +kernel
theorem dX10_lock_10 : decode cX10_lock 10 = .ok (.astore 4, 2) := by decide +kernel
theorem dX10_lock_12 : decode cX10_lock 12 = .ok (.aload 4, 2) := by decide +kernel
theorem dX10_lock_14 : decode cX10_lock 14 = .ok (.getfield 154, 3) := by decide +kernel
theorem dX10_lock_17 : decode cX10_lock 17 = .ok (.iload_n 1, 1) := by decide +kernel
theorem dX10_lock_18 : decode cX10_lock 18 = .ok (.invokevirtual 158, 3) := by decide +kernel
theorem dX10_lock_21 : decode cX10_lock 21 = .ok (.ifCond .eq 28, 3) := by decide +kernel
theorem dX10_lock_24 : decode cX10_lock 24 = .ok (.iload_n 2, 1) := by decide +kernel
theorem dX10_lock_25 : decode cX10_lock 25 = .ok (.ifCond .lt 24, 3) := by decide +kernel
theorem dX10_lock_28 : decode cX10_lock 28 = .ok (.iload_n 2, 1) := by decide +kernel
theorem dX10_lock_29 : decode cX10_lock 29 = .ok (.aload 4, 2) := by decide +kernel
theorem dX10_lock_31 : decode cX10_lock 31 = .ok (.getfield 94, 3) := by decide +kernel
theorem dX10_lock_34 : decode cX10_lock 34 = .ok (.getfield 100, 3) := by decide +kernel
theorem dX10_lock_37 : decode cX10_lock 37 = .ok (.if_icmp .gt 12, 3) := by decide +kernel
theorem dX10_lock_40 : decode cX10_lock 40 = .ok (.iload_n 3, 1) := by decide +kernel
theorem dX10_lock_41 : decode cX10_lock 41 = .ok (.ifCond .lt 8, 3) := by decide +kernel
theorem dX10_lock_44 : decode cX10_lock 44 = .ok (.iload_n 3, 1) := by decide +kernel
theorem dX10_lock_45 : decode cX10_lock 45 = .ok (.iconst 1, 1) := by decide +kernel
theorem dX10_lock_46 : decode cX10_lock 46 = .ok (.if_icmp .le 5, 3) := by decide +kernel
theorem dX10_lock_49 : decode cX10_lock 49 = .ok (.iconst (-1), 1) := by decide +kernel
theorem dX10_lock_50 : decode cX10_lock 50 = .ok (.ireturn, 1) := by decide +kernel
theorem dX10_lock_51 : decode cX10_lock 51 = .ok (.iload_n 3, 1) := by decide +kernel
theorem dX10_lock_52 : decode cX10_lock 52 = .ok (.ifCond .ne 20, 3) := by decide +kernel
theorem dX10_lock_55 : decode cX10_lock 55 = .ok (.aload 4, 2) := by decide +kernel
theorem dX10_lock_57 : decode cX10_lock 57 = .ok (.getfield 94, 3) := by decide +kernel
theorem dX10_lock_60 : decode cX10_lock 60 = .ok (.getfield 164, 3) := by decide +kernel
theorem dX10_lock_63 : decode cX10_lock 63 = .ok (.iload_n 2, 1) := by decide +kernel
theorem dX10_lock_64 : decode cX10_lock 64 = .ok (.iaload, 1) := by decide +kernel
theorem dX10_lock_65 : decode cX10_lock 65 = .ok (.iload_n 1, 1) := by decide +kernel
theorem dX10_lock_66 : decode cX10_lock 66 = .ok (.ishr, 1) := by decide +kernel
theorem dX10_lock_67 : decode cX10_lock 67 = .ok (.iconst 1, 1) := by decide +kernel
theorem dX10_lock_68 : decode cX10_lock 68 = .ok (.iand, 1) := by decide +kernel
theorem dX10_lock_69 : decode cX10_lock 69 = .ok (.goto 13, 3) := by decide +kernel
theorem dX10_lock_72 : decode cX10_lock 72 = .ok (.aload 4, 2) := by decide +kernel
theorem dX10_lock_74 : decode cX10_lock 74 = .ok (.getfield 94, 3) := by decide +kernel
theorem dX10_lock_77 : decode cX10_lock 77 = .ok (.iload_n 2, 1) := by decide +kernel
theorem dX10_lock_78 : decode cX10_lock 78 = .ok (.iload_n 1, 1) := by decide +kernel
theorem dX10_lock_79 : decode cX10_lock 79 = .ok (.invokevirtual 167, 3) := by decide +kernel
theorem dX10_lock_82 : decode cX10_lock 82 = .ok (.ireturn, 1) := by decide +kernel
set_option maxRecDepth 20000 in
theorem ggX10_hand_X1_has : GoodIn wsX10_hand wsX1_has := goodIn_r _ [13, 14, 73, 74, 75, 76, 77, 78, 79, 80, 81, 82, 83, 84] (by decide +kernel) (by decide +kernel)
set_option maxRecDepth 20000 in
theorem gX10_hand_X1_has : GoodIn wsX10_hand (wsV RX10 158 RX1 yX1_has wsX1_has) := goodIn_app (goodIn_of _ (by decide +kernel)) ggX10_hand_X1_has
set_option maxRecDepth 20000 in
theorem ggX10_hand_X9_waitsFor : GoodIn wsX10_hand wsX9_waitsFor := goodIn_r _ [19, 20, 21, 22, 23, 24, 25, 26, 27, 28, 29, 30, 31, 32, 33, 34, 65, 66, 67, 68, 69, 70, 71, 72, 73, 74, 75, 76, 77, 78, 79, 80, 81, 82, 83, 84, 85, 86, 87, 88, 89, 90, 91, 92] (by decide +kernel) (by decide +kernel)
set_option maxRecDepth 20000 in
theorem gX10_hand_X9_waitsFor : GoodIn wsX10_hand (wsV RX10 173 RX9 yX9_waitsFor wsX9_waitsFor) := goodIn_app (goodIn_of _ (by decide +kernel)) ggX10_hand_X9_waitsFor
set_option maxRecDepth 20000 in
theorem ggX10_hand_X7_locksOf : GoodIn wsX10_hand wsX7_locksOf := goodIn_r _ [38, 32, 30, 33, 85, 86, 87, 88, 89, 90, 91, 92] (by decide +kernel) (by decide +kernel)
set_option maxRecDepth 20000 in
theorem gX10_hand_X7_locksOf : GoodIn wsX10_hand (wsV RX10 176 RX7 yX7_locksOf wsX7_locksOf) := goodIn_app (goodIn_of _ (by decide +kernel)) ggX10_hand_X7_locksOf
set_option maxRecDepth 20000 in
theorem ggX10_hand_X3_changesBy : GoodIn wsX10_hand wsX3_changesBy := goodIn_r _ [43, 44, 45, 46, 47, 42, 48, 49, 93, 94] (by decide +kernel) (by decide +kernel)
set_option maxRecDepth 20000 in
theorem gX10_hand_X3_changesBy : GoodIn wsX10_hand (wsV RX10 186 RX3 yX3_changesBy wsX3_changesBy) := goodIn_app (goodIn_of _ (by decide +kernel)) ggX10_hand_X3_changesBy
theorem dX10_hand_0 : decode cX10_hand 0 = .ok (.aload_n 0, 1) := by decide +kernel
theorem dX10_hand_1 : decode cX10_hand 1 = .ok (.getfield 26, 3) := by decide +kernel
theorem dX10_hand_4 : decode cX10_hand 4 = .ok (.getfield 60, 3) := by decide +kernel
theorem dX10_hand_7 : decode cX10_hand 7 = .ok (.getfield 90, 3) := by decide +kernel
theorem dX10_hand_10 : decode cX10_hand 10 = .ok (.astore_n 3, 1) := by decide +kernel
theorem dX10_hand_11 : decode cX10_hand 11 = .ok (.aload_n 3, 1) := by decide +kernel
theorem dX10_hand_12 : decode cX10_hand 12 = .ok (.getfield 154, 3) := by decide +kernel
theorem dX10_hand_15 : decode cX10_hand 15 = .ok (.iload_n 1, 1) := by decide +kernel
theorem dX10_hand_16 : decode cX10_hand 16 = .ok (.invokevirtual 158, 3) := by decide +kernel
theorem dX10_hand_19 : decode cX10_hand 19 = .ok (.ifCond .ne 5, 3) := by decide +kernel
theorem dX10_hand_22 : decode cX10_hand 22 = .ok (.iconst (-1), 1) := by decide +kernel
theorem dX10_hand_23 : decode cX10_hand 23 = .ok (.ireturn, 1) := by decide +kernel
theorem dX10_hand_24 : decode cX10_hand 24 = .ok (.iload_n 2, 1) := by decide +kernel
theorem dX10_hand_25 : decode cX10_hand 25 = .ok (.tableswitch 79 0 4 #[35, 45, 51, 60, 70], 35) := by decide +kernel
theorem dX10_hand_60 : decode cX10_hand 60 = .ok (.aload_n 3, 1) := by decide +kernel
theorem dX10_hand_61 : decode cX10_hand 61 = .ok (.getfield 154, 3) := by decide +kernel
theorem dX10_hand_64 : decode cX10_hand 64 = .ok (.getfield 170, 3) := by decide +kernel
theorem dX10_hand_67 : decode cX10_hand 67 = .ok (.iload_n 1, 1) := by decide +kernel
theorem dX10_hand_68 : decode cX10_hand 68 = .ok (.iaload, 1) := by decide +kernel
theorem dX10_hand_69 : decode cX10_hand 69 = .ok (.ireturn, 1) := by decide +kernel
theorem dX10_hand_70 : decode cX10_hand 70 = .ok (.aload_n 3, 1) := by decide +kernel
theorem dX10_hand_71 : decode cX10_hand 71 = .ok (.iload_n 1, 1) := by decide +kernel
theorem dX10_hand_72 : decode cX10_hand 72 = .ok (.invokevirtual 173, 3) := by decide +kernel
theorem dX10_hand_75 : decode cX10_hand 75 = .ok (.ireturn, 1) := by decide +kernel
theorem dX10_hand_76 : decode cX10_hand 76 = .ok (.aload_n 3, 1) := by decide +kernel
theorem dX10_hand_77 : decode cX10_hand 77 = .ok (.getfield 94, 3) := by decide +kernel
theorem dX10_hand_80 : decode cX10_hand 80 = .ok (.iload_n 1, 1) := by decide +kernel
theorem dX10_hand_81 : decode cX10_hand 81 = .ok (.invokevirtual 176, 3) := by decide +kernel
theorem dX10_hand_84 : decode cX10_hand 84 = .ok (.ireturn, 1) := by decide +kernel
theorem dX10_hand_85 : decode cX10_hand 85 = .ok (.aload_n 3, 1) := by decide +kernel
theorem dX10_hand_86 : decode cX10_hand 86 = .ok (.getfield 154, 3) := by decide +kernel
theorem dX10_hand_89 : decode cX10_hand 89 = .ok (.getfield 179, 3) := by decide +kernel
theorem dX10_hand_92 : decode cX10_hand 92 = .ok (.iload_n 1, 1) := by decide +kernel
theorem dX10_hand_93 : decode cX10_hand 93 = .ok (.iaload, 1) := by decide +kernel
theorem dX10_hand_94 : decode cX10_hand 94 = .ok (.ireturn, 1) := by decide +kernel
theorem dX10_hand_95 : decode cX10_hand 95 = .ok (.aload_n 3, 1) := by decide +kernel
theorem dX10_hand_96 : decode cX10_hand 96 = .ok (.getfield 182, 3) := by decide +kernel
theorem dX10_hand_99 : decode cX10_hand 99 = .ok (.iload_n 1, 1) := by decide +kernel
theorem dX10_hand_100 : decode cX10_hand 100 = .ok (.invokevirtual 186, 3) := by decide +kernel
theorem dX10_hand_103 : decode cX10_hand 103 = .ok (.ireturn, 1) := by decide +kernel
theorem dX10_hand_104 : decode cX10_hand 104 = .ok (.iconst (-1), 1) := by decide +kernel
theorem dX10_hand_105 : decode cX10_hand 105 = .ok (.ireturn, 1) := by decide +kernel
theorem dX10_queue_0 : decode cX10_queue 0 = .ok (.aload_n 0, 1) := by decide +kernel
theorem dX10_queue_1 : decode cX10_queue 1 = .ok (.getfield 26, 3) := by decide +kernel
theorem dX10_queue_4 : decode cX10_queue 4 = .ok (.getfield 60, 3) := by decide +kernel
theorem dX10_queue_7 : decode cX10_queue 7 = .ok (.getfield 90, 3) := by decide +kernel
theorem dX10_queue_10 : decode cX10_queue 10 = .ok (.getfield 154, 3) := by decide +kernel
theorem dX10_queue_13 : decode cX10_queue 13 = .ok (.astore_n 2, 1) := by decide +kernel
theorem dX10_queue_14 : decode cX10_queue 14 = .ok (.iload_n 1, 1) := by decide +kernel
theorem dX10_queue_15 : decode cX10_queue 15 = .ok (.ifCond .ge 5, 3) := by decide +kernel
theorem dX10_queue_18 : decode cX10_queue 18 = .ok (.iconst (-1), 1) := by decide +kernel
theorem dX10_queue_19 : decode cX10_queue 19 = .ok (.ireturn, 1) := by decide +kernel
theorem dX10_queue_20 : decode cX10_queue 20 = .ok (.iload_n 1, 1) := by decide +kernel
theorem dX10_queue_21 : decode cX10_queue 21 = .ok (.aload_n 2, 1) := by decide +kernel
theorem dX10_queue_22 : decode cX10_queue 22 = .ok (.getfield 191, 3) := by decide +kernel
theorem dX10_queue_25 : decode cX10_queue 25 = .ok (.if_icmp .ge 12, 3) := by decide +kernel
theorem dX10_queue_28 : decode cX10_queue 28 = .ok (.aload_n 2, 1) := by decide +kernel
theorem dX10_queue_29 : decode cX10_queue 29 = .ok (.getfield 194, 3) := by decide +kernel
theorem dX10_queue_32 : decode cX10_queue 32 = .ok (.iload_n 1, 1) := by decide +kernel
theorem dX10_queue_33 : decode cX10_queue 33 = .ok (.iaload, 1) := by decide +kernel
theorem dX10_queue_34 : decode cX10_queue 34 = .ok (.goto 5, 3) := by decide +kernel
theorem dX10_queue_37 : decode cX10_queue 37 = .ok (.bipush (-2), 2) := by decide +kernel
theorem dX10_queue_39 : decode cX10_queue 39 = .ok (.ireturn, 1) := by decide +kernel
set_option maxRecDepth 20000 in
theorem ggX10_stops_X4_keyBits : GoodIn wsX10_stops wsX4_keyBits := goodIn_r _ [10, 11, 12, 13, 9, 14, 15, 16, 17] (by decide +kernel) (by decide +kernel)
set_option maxRecDepth 20000 in
theorem gX10_stops_X4_keyBits : GoodIn wsX10_stops (va_wsS RX10 130 yX4_keyBits wsX4_keyBits) := goodIn_app (goodIn_of _ (by decide +kernel)) ggX10_stops_X4_keyBits
set_option maxRecDepth 20000 in
theorem ggX10_stops_X1_has : GoodIn wsX10_stops wsX1_has := goodIn_r _ [22, 23, 73, 74, 75, 76, 77, 78, 79, 80, 81, 82, 83, 84] (by decide +kernel) (by decide +kernel)
set_option maxRecDepth 20000 in
theorem gX10_stops_X1_has : GoodIn wsX10_stops (wsV RX10 158 RX1 yX1_has wsX1_has) := goodIn_app (goodIn_of _ (by decide +kernel)) ggX10_stops_X1_has
set_option maxRecDepth 20000 in
theorem ggX10_stops_X7_placeFrom : GoodIn wsX10_stops wsX7_placeFrom := goodIn_r _ [28, 29, 30, 65, 66, 67, 68, 69, 70, 71, 72] (by decide +kernel) (by decide +kernel)
set_option maxRecDepth 20000 in
theorem gX10_stops_X7_placeFrom : GoodIn wsX10_stops (wsV RX10 136 RX7 yX7_placeFrom wsX7_placeFrom) := goodIn_app (goodIn_of _ (by decide +kernel)) ggX10_stops_X7_placeFrom
set_option maxRecDepth 20000 in
theorem ggX10_stops_X7_hasAt : GoodIn wsX10_stops wsX7_hasAt := goodIn_r _ [34, 29, 30, 65, 66, 67, 68, 69, 70, 71, 72] (by decide +kernel) (by decide +kernel)
set_option maxRecDepth 20000 in
theorem gX10_stops_X7_hasAt : GoodIn wsX10_stops (wsV RX10 197 RX7 yX7_hasAt wsX7_hasAt) := goodIn_app (goodIn_of _ (by decide +kernel)) ggX10_stops_X7_hasAt
set_option maxRecDepth 20000 in
theorem ggX10_stops_X7_blockers : GoodIn wsX10_stops wsX7_blockers := goodIn_r _ [38, 29, 30, 39, 40, 41, 65, 66, 67, 68, 69, 70, 71, 72] (by decide +kernel) (by decide +kernel)
set_option maxRecDepth 20000 in
theorem gX10_stops_X7_blockers : GoodIn wsX10_stops (wsV RX10 201 RX7 yX7_blockers wsX7_blockers) := goodIn_app (goodIn_of _ (by decide +kernel)) ggX10_stops_X7_blockers
theorem dX10_stops_0 : decode cX10_stops 0 = .ok (.aload_n 0, 1) := by decide +kernel
theorem dX10_stops_1 : decode cX10_stops 1 = .ok (.getfield 26, 3) := by decide +kernel
theorem dX10_stops_4 : decode cX10_stops 4 = .ok (.getfield 60, 3) := by decide +kernel
theorem dX10_stops_7 : decode cX10_stops 7 = .ok (.getfield 90, 3) := by decide +kernel
theorem dX10_stops_10 : decode cX10_stops 10 = .ok (.astore 5, 2) := by decide +kernel
theorem dX10_stops_12 : decode cX10_stops 12 = .ok (.iload_n 2, 1) := by decide +kernel
theorem dX10_stops_13 : decode cX10_stops 13 = .ok (.iload_n 3, 1) := by decide +kernel
theorem dX10_stops_14 : decode cX10_stops 14 = .ok (.invokestatic 130, 3) := by decide +kernel
theorem dX10_stops_17 : decode cX10_stops 17 = .ok (.istore 6, 2) := by decide +kernel
theorem dX10_stops_19 : decode cX10_stops 19 = .ok (.aload 5, 2) := by decide +kernel
theorem dX10_stops_21 : decode cX10_stops 21 = .ok (.getfield 154, 3) := by decide +kernel
theorem dX10_stops_24 : decode cX10_stops 24 = .ok (.iload_n 1, 1) := by decide +kernel
theorem dX10_stops_25 : decode cX10_stops 25 = .ok (.invokevirtual 158, 3) := by decide +kernel
theorem dX10_stops_28 : decode cX10_stops 28 = .ok (.ifCond .eq 20, 3) := by decide +kernel
theorem dX10_stops_31 : decode cX10_stops 31 = .ok (.iload 6, 2) := by decide +kernel
theorem dX10_stops_33 : decode cX10_stops 33 = .ok (.iconst (-1), 1) := by decide +kernel
theorem dX10_stops_34 : decode cX10_stops 34 = .ok (.if_icmp .eq 14, 3) := by decide +kernel
theorem dX10_stops_37 : decode cX10_stops 37 = .ok (.iload 4, 2) := by decide +kernel
theorem dX10_stops_39 : decode cX10_stops 39 = .ok (.ifCond .lt 9, 3) := by decide +kernel
theorem dX10_stops_42 : decode cX10_stops 42 = .ok (.iload 4, 2) := by decide +kernel
theorem dX10_stops_44 : decode cX10_stops 44 = .ok (.iconst 2, 1) := by decide +kernel
theorem dX10_stops_45 : decode cX10_stops 45 = .ok (.if_icmp .le 5, 3) := by decide +kernel
theorem dX10_stops_48 : decode cX10_stops 48 = .ok (.iconst (-1), 1) := by decide +kernel
theorem dX10_stops_49 : decode cX10_stops 49 = .ok (.ireturn, 1) := by decide +kernel
theorem dX10_stops_50 : decode cX10_stops 50 = .ok (.aload 5, 2) := by decide +kernel
theorem dX10_stops_52 : decode cX10_stops 52 = .ok (.getfield 94, 3) := by decide +kernel
theorem dX10_stops_55 : decode cX10_stops 55 = .ok (.astore 7, 2) := by decide +kernel
theorem dX10_stops_57 : decode cX10_stops 57 = .ok (.aload 7, 2) := by decide +kernel
theorem dX10_stops_59 : decode cX10_stops 59 = .ok (.iload 6, 2) := by decide +kernel
theorem dX10_stops_61 : decode cX10_stops 61 = .ok (.invokevirtual 136, 3) := by decide +kernel
theorem dX10_stops_64 : decode cX10_stops 64 = .ok (.istore 8, 2) := by decide +kernel
theorem dX10_stops_66 : decode cX10_stops 66 = .ok (.iload 4, 2) := by decide +kernel
theorem dX10_stops_68 : decode cX10_stops 68 = .ok (.ifCond .ne 7, 3) := by decide +kernel
theorem dX10_stops_71 : decode cX10_stops 71 = .ok (.iconst 1, 1) := by decide +kernel
theorem dX10_stops_72 : decode cX10_stops 72 = .ok (.goto 4, 3) := by decide +kernel
theorem dX10_stops_75 : decode cX10_stops 75 = .ok (.iconst 2, 1) := by decide +kernel
theorem dX10_stops_76 : decode cX10_stops 76 = .ok (.istore 9, 2) := by decide +kernel
theorem dX10_stops_78 : decode cX10_stops 78 = .ok (.iload 4, 2) := by decide +kernel
theorem dX10_stops_80 : decode cX10_stops 80 = .ok (.iconst 2, 1) := by decide +kernel
theorem dX10_stops_81 : decode cX10_stops 81 = .ok (.if_icmp .ne 45, 3) := by decide +kernel
theorem dX10_stops_84 : decode cX10_stops 84 = .ok (.aload 7, 2) := by decide +kernel
theorem dX10_stops_86 : decode cX10_stops 86 = .ok (.iload 8, 2) := by decide +kernel
theorem dX10_stops_88 : decode cX10_stops 88 = .ok (.iload 6, 2) := by decide +kernel
theorem dX10_stops_90 : decode cX10_stops 90 = .ok (.invokevirtual 197, 3) := by decide +kernel
theorem dX10_stops_93 : decode cX10_stops 93 = .ok (.istore 10, 2) := by decide +kernel
theorem dX10_stops_95 : decode cX10_stops 95 = .ok (.iload 10, 2) := by decide +kernel
theorem dX10_stops_97 : decode cX10_stops 97 = .ok (.ifCond .eq 17, 3) := by decide +kernel
theorem dX10_stops_100 : decode cX10_stops 100 = .ok (.aload 7, 2) := by decide +kernel
theorem dX10_stops_102 : decode cX10_stops 102 = .ok (.getfield 119, 3) := by decide +kernel
theorem dX10_stops_105 : decode cX10_stops 105 = .ok (.iload 8, 2) := by decide +kernel
theorem dX10_stops_107 : decode cX10_stops 107 = .ok (.iaload, 1) := by decide +kernel
theorem dX10_stops_108 : decode cX10_stops 108 = .ok (.iload_n 1, 1) := by decide +kernel
theorem dX10_stops_109 : decode cX10_stops 109 = .ok (.if_icmp .ne 5, 3) := by decide +kernel
theorem dX10_stops_112 : decode cX10_stops 112 = .ok (.iconst 0, 1) := by decide +kernel
theorem dX10_stops_113 : decode cX10_stops 113 = .ok (.ireturn, 1) := by decide +kernel
theorem dX10_stops_114 : decode cX10_stops 114 = .ok (.iload 10, 2) := by decide +kernel
theorem dX10_stops_116 : decode cX10_stops 116 = .ok (.ifCond .eq 7, 3) := by decide +kernel
theorem dX10_stops_119 : decode cX10_stops 119 = .ok (.iconst 1, 1) := by decide +kernel
theorem dX10_stops_120 : decode cX10_stops 120 = .ok (.goto 4, 3) := by decide +kernel
theorem dX10_stops_123 : decode cX10_stops 123 = .ok (.iconst 3, 1) := by decide +kernel
theorem dX10_stops_124 : decode cX10_stops 124 = .ok (.istore 9, 2) := by decide +kernel
theorem dX10_stops_126 : decode cX10_stops 126 = .ok (.aload 7, 2) := by decide +kernel
theorem dX10_stops_128 : decode cX10_stops 128 = .ok (.iload_n 1, 1) := by decide +kernel
theorem dX10_stops_129 : decode cX10_stops 129 = .ok (.iload 9, 2) := by decide +kernel
theorem dX10_stops_131 : decode cX10_stops 131 = .ok (.iload 6, 2) := by decide +kernel
theorem dX10_stops_133 : decode cX10_stops 133 = .ok (.invokevirtual 201, 3) := by decide +kernel
theorem dX10_stops_136 : decode cX10_stops 136 = .ok (.ireturn, 1) := by decide +kernel
set_option maxRecDepth 20000 in
theorem ggX10_ring_X1_has : GoodIn wsX10_ring wsX1_has := goodIn_r _ [10, 11, 56, 57, 58, 59, 60, 61, 62, 63, 64, 65, 66, 67] (by decide +kernel) (by decide +kernel)
set_option maxRecDepth 20000 in
theorem gX10_ring_X1_has : GoodIn wsX10_ring (wsV RX10 158 RX1 yX1_has wsX1_has) := goodIn_app (goodIn_of _ (by decide +kernel)) ggX10_ring_X1_has
set_option maxRecDepth 20000 in
theorem ggX10_ring_X9_reaches : GoodIn wsX10_ring wsX9_reaches := goodIn_r _ [16, 17, 18, 19, 20, 21, 22, 23, 24, 25, 26, 27, 28, 29, 30, 31, 32, 48, 49, 50, 51, 52, 53, 54, 55, 56, 57, 58, 59, 60, 61, 62, 63, 64, 65, 66, 67, 68, 69, 70, 71, 72, 73, 74, 75] (by decide +kernel) (by decide +kernel)
set_option maxRecDepth 20000 in
theorem gX10_ring_X9_reaches : GoodIn wsX10_ring (wsV RX10 205 RX9 yX9_reaches wsX9_reaches) := goodIn_app (goodIn_of _ (by decide +kernel)) ggX10_ring_X9_reaches
theorem dX10_ring_0 : decode cX10_ring 0 = .ok (.aload_n 0, 1) := by decide +kernel
theorem dX10_ring_1 : decode cX10_ring 1 = .ok (.getfield 26, 3) := by decide +kernel
theorem dX10_ring_4 : decode cX10_ring 4 = .ok (.getfield 60, 3) := by decide +kernel
theorem dX10_ring_7 : decode cX10_ring 7 = .ok (.getfield 90, 3) := by decide +kernel
theorem dX10_ring_10 : decode cX10_ring 10 = .ok (.astore_n 3, 1) := by decide +kernel
theorem dX10_ring_11 : decode cX10_ring 11 = .ok (.aload_n 3, 1) := by decide +kernel
theorem dX10_ring_12 : decode cX10_ring 12 = .ok (.getfield 154, 3) := by decide +kernel
theorem dX10_ring_15 : decode cX10_ring 15 = .ok (.astore 4, 2) := by decide +kernel
theorem dX10_ring_17 : decode cX10_ring 17 = .ok (.aload 4, 2) := by decide +kernel
theorem dX10_ring_19 : decode cX10_ring 19 = .ok (.iload_n 1, 1) := by decide +kernel
theorem dX10_ring_20 : decode cX10_ring 20 = .ok (.invokevirtual 158, 3) := by decide +kernel
theorem dX10_ring_23 : decode cX10_ring 23 = .ok (.ifCond .eq 28, 3) := by decide +kernel
theorem dX10_ring_26 : decode cX10_ring 26 = .ok (.aload 4, 2) := by decide +kernel
theorem dX10_ring_28 : decode cX10_ring 28 = .ok (.iload_n 2, 1) := by decide +kernel
theorem dX10_ring_29 : decode cX10_ring 29 = .ok (.invokevirtual 158, 3) := by decide +kernel
theorem dX10_ring_32 : decode cX10_ring 32 = .ok (.ifCond .eq 19, 3) := by decide +kernel
theorem dX10_ring_35 : decode cX10_ring 35 = .ok (.iload_n 1, 1) := by decide +kernel
theorem dX10_ring_36 : decode cX10_ring 36 = .ok (.iload_n 2, 1) := by decide +kernel
theorem dX10_ring_37 : decode cX10_ring 37 = .ok (.if_icmp .eq 14, 3) := by decide +kernel
theorem dX10_ring_40 : decode cX10_ring 40 = .ok (.aload 4, 2) := by decide +kernel
theorem dX10_ring_42 : decode cX10_ring 42 = .ok (.getfield 170, 3) := by decide +kernel
theorem dX10_ring_45 : decode cX10_ring 45 = .ok (.iload_n 1, 1) := by decide +kernel
theorem dX10_ring_46 : decode cX10_ring 46 = .ok (.iaload, 1) := by decide +kernel
theorem dX10_ring_47 : decode cX10_ring 47 = .ok (.iconst 1, 1) := by decide +kernel
theorem dX10_ring_48 : decode cX10_ring 48 = .ok (.if_icmp .eq 5, 3) := by decide +kernel
theorem dX10_ring_51 : decode cX10_ring 51 = .ok (.iconst (-1), 1) := by decide +kernel
theorem dX10_ring_52 : decode cX10_ring 52 = .ok (.ireturn, 1) := by decide +kernel
theorem dX10_ring_53 : decode cX10_ring 53 = .ok (.aload_n 3, 1) := by decide +kernel
theorem dX10_ring_54 : decode cX10_ring 54 = .ok (.iconst 1, 1) := by decide +kernel
theorem dX10_ring_55 : decode cX10_ring 55 = .ok (.iload_n 2, 1) := by decide +kernel
theorem dX10_ring_56 : decode cX10_ring 56 = .ok (.ishl, 1) := by decide +kernel
theorem dX10_ring_57 : decode cX10_ring 57 = .ok (.iload_n 1, 1) := by decide +kernel
theorem dX10_ring_58 : decode cX10_ring 58 = .ok (.invokevirtual 205, 3) := by decide +kernel
theorem dX10_ring_61 : decode cX10_ring 61 = .ok (.ifCond .eq 7, 3) := by decide +kernel
theorem dX10_ring_64 : decode cX10_ring 64 = .ok (.iconst 1, 1) := by decide +kernel
theorem dX10_ring_65 : decode cX10_ring 65 = .ok (.goto 4, 3) := by decide +kernel
theorem dX10_ring_68 : decode cX10_ring 68 = .ok (.iconst 0, 1) := by decide +kernel
theorem dX10_ring_69 : decode cX10_ring 69 = .ok (.ireturn, 1) := by decide +kernel
theorem dX10_free_0 : decode cX10_free 0 = .ok (.aload_n 0, 1) := by decide +kernel
theorem dX10_free_1 : decode cX10_free 1 = .ok (.getfield 26, 3) := by decide +kernel
theorem dX10_free_4 : decode cX10_free 4 = .ok (.getfield 60, 3) := by decide +kernel
theorem dX10_free_7 : decode cX10_free 7 = .ok (.getfield 90, 3) := by decide +kernel
theorem dX10_free_10 : decode cX10_free 10 = .ok (.getfield 94, 3) := by decide +kernel
theorem dX10_free_13 : decode cX10_free 13 = .ok (.astore_n 1, 1) := by decide +kernel
theorem dX10_free_14 : decode cX10_free 14 = .ok (.iconst 0, 1) := by decide +kernel
theorem dX10_free_15 : decode cX10_free 15 = .ok (.istore_n 2, 1) := by decide +kernel
theorem dX10_free_16 : decode cX10_free 16 = .ok (.iconst 0, 1) := by decide +kernel
theorem dX10_free_17 : decode cX10_free 17 = .ok (.istore_n 3, 1) := by decide +kernel
theorem dX10_free_18 : decode cX10_free 18 = .ok (.iload_n 3, 1) := by decide +kernel
theorem dX10_free_19 : decode cX10_free 19 = .ok (.aload_n 1, 1) := by decide +kernel
theorem dX10_free_20 : decode cX10_free 20 = .ok (.getfield 100, 3) := by decide +kernel
theorem dX10_free_23 : decode cX10_free 23 = .ok (.if_icmp .gt 28, 3) := by decide +kernel
theorem dX10_free_26 : decode cX10_free 26 = .ok (.iload_n 2, 1) := by decide +kernel
theorem dX10_free_27 : decode cX10_free 27 = .ok (.aload_n 1, 1) := by decide +kernel
theorem dX10_free_28 : decode cX10_free 28 = .ok (.getfield 164, 3) := by decide +kernel
theorem dX10_free_31 : decode cX10_free 31 = .ok (.iload_n 3, 1) := by decide +kernel
theorem dX10_free_32 : decode cX10_free 32 = .ok (.iaload, 1) := by decide +kernel
theorem dX10_free_33 : decode cX10_free 33 = .ok (.ifCond .ne 9, 3) := by decide +kernel
theorem dX10_free_36 : decode cX10_free 36 = .ok (.iconst 1, 1) := by decide +kernel
theorem dX10_free_37 : decode cX10_free 37 = .ok (.iload_n 3, 1) := by decide +kernel
theorem dX10_free_38 : decode cX10_free 38 = .ok (.ishl, 1) := by decide +kernel
theorem dX10_free_39 : decode cX10_free 39 = .ok (.goto 4, 3) := by decide +kernel
theorem dX10_free_42 : decode cX10_free 42 = .ok (.iconst 0, 1) := by decide +kernel
theorem dX10_free_43 : decode cX10_free 43 = .ok (.ior, 1) := by decide +kernel
theorem dX10_free_44 : decode cX10_free 44 = .ok (.istore_n 2, 1) := by decide +kernel
theorem dX10_free_45 : decode cX10_free 45 = .ok (.iinc 3 1, 3) := by decide +kernel
theorem dX10_free_48 : decode cX10_free 48 = .ok (.goto (-30), 3) := by decide +kernel
theorem dX10_free_51 : decode cX10_free 51 = .ok (.iload_n 2, 1) := by decide +kernel
theorem dX10_free_52 : decode cX10_free 52 = .ok (.ireturn, 1) := by decide +kernel
set_option maxRecDepth 20000 in
theorem ggX10_open_X9_act : GoodIn wsX10_open wsX9_act := goodIn_r _ [8, 9, 10, 11, 12, 13, 14, 15, 16, 17, 18, 19, 20, 21, 22, 23, 24, 25, 7, 26, 27, 28, 29, 30, 31, 32, 33, 34, 35, 36, 37, 38, 39, 40, 41, 42, 43, 44, 45, 46, 47, 48, 49, 50, 51, 52, 53, 54, 55, 56, 57, 58, 59, 60, 61, 62, 63, 64, 65, 66, 67, 68, 69, 70, 71, 72, 73, 74, 75, 76, 77, 78, 79, 80, 81, 82, 83, 84, 85, 86, 87, 88, 89, 90, 91, 92, 93, 94, 95, 96, 97, 98, 99, 100, 101, 102, 103, 104, 105, 106, 107, 108, 109, 110, 111, 112, 113, 114, 115, 116, 117, 118, 119, 120, 121, 122, 123, 124, 125, 126, 127, 128, 129, 130, 131, 132, 133, 134, 135, 136, 137, 138, 139, 140, 141, 142, 143, 144, 145, 146, 147, 148, 149, 150, 151, 152, 153, 154, 155, 156, 157, 158, 159, 160, 161, 162, 163, 164, 165, 166, 167, 168, 169, 170, 171, 172, 173, 174, 175, 176, 177, 178, 194, 195, 196, 197, 198, 199, 200, 201, 202, 203, 204, 205, 206, 207, 208, 209, 210, 211, 212, 213, 214, 215, 216, 217, 218, 219, 220, 221, 222, 223] (by decide +kernel) (by decide +kernel)
set_option maxRecDepth 20000 in
theorem gX10_open_X9_act : GoodIn wsX10_open (wsV RX10 208 RX9 yX9_act wsX9_act) := goodIn_app (goodIn_of _ (by decide +kernel)) ggX10_open_X9_act
theorem dX10_open_0 : decode cX10_open 0 = .ok (.aload_n 0, 1) := by decide +kernel
theorem dX10_open_1 : decode cX10_open 1 = .ok (.getfield 26, 3) := by decide +kernel
theorem dX10_open_4 : decode cX10_open 4 = .ok (.getfield 60, 3) := by decide +kernel
theorem dX10_open_7 : decode cX10_open 7 = .ok (.getfield 90, 3) := by decide +kernel
theorem dX10_open_10 : decode cX10_open 10 = .ok (.iload_n 1, 1) := by decide +kernel
theorem dX10_open_11 : decode cX10_open 11 = .ok (.iconst 0, 1) := by decide +kernel
theorem dX10_open_12 : decode cX10_open 12 = .ok (.iconst 0, 1) := by decide +kernel
theorem dX10_open_13 : decode cX10_open 13 = .ok (.iconst 0, 1) := by decide +kernel
theorem dX10_open_14 : decode cX10_open 14 = .ok (.iconst 0, 1) := by decide +kernel
theorem dX10_open_15 : decode cX10_open 15 = .ok (.invokevirtual 208, 3) := by decide +kernel
theorem dX10_open_18 : decode cX10_open 18 = .ok (.ireturn, 1) := by decide +kernel
set_option maxRecDepth 20000 in
theorem ggX10_scan_X4_packedKey : GoodIn wsX10_scan wsX4_packedKey := goodIn_r _ [7, 8, 9, 10, 6, 11, 12, 13, 14, 15, 16, 17, 18] (by decide +kernel) (by decide +kernel)
set_option maxRecDepth 20000 in
theorem gX10_scan_X4_packedKey : GoodIn wsX10_scan (va_wsS RX10 212 yX4_packedKey wsX4_packedKey) := goodIn_app (goodIn_of _ (by decide +kernel)) ggX10_scan_X4_packedKey
set_option maxRecDepth 20000 in
theorem ggX10_scan_X9_act : GoodIn wsX10_scan wsX9_act := goodIn_r _ [23, 24, 25, 26, 27, 28, 29, 30, 31, 32, 33, 34, 35, 36, 37, 38, 39, 40, 22, 41, 42, 43, 44, 45, 46, 47, 48, 49, 50, 51, 52, 53, 54, 55, 56, 57, 58, 59, 60, 61, 62, 63, 64, 65, 66, 67, 68, 69, 70, 71, 72, 73, 74, 75, 76, 77, 78, 79, 80, 81, 82, 83, 84, 85, 86, 87, 88, 89, 90, 91, 92, 93, 94, 95, 96, 97, 98, 99, 100, 101, 102, 103, 104, 105, 106, 107, 108, 109, 110, 111, 112, 113, 114, 115, 116, 117, 118, 119, 120, 121, 122, 123, 124, 125, 126, 127, 128, 129, 130, 131, 132, 133, 134, 135, 136, 137, 138, 139, 140, 141, 142, 143, 144, 145, 146, 147, 148, 149, 150, 151, 152, 153, 154, 155, 156, 157, 158, 159, 160, 161, 162, 163, 164, 165, 166, 167, 168, 169, 170, 171, 172, 173, 174, 175, 176, 177, 178, 179, 180, 181, 182, 183, 184, 185, 186, 187, 188, 189, 190, 191, 192, 193, 209, 210, 211, 212, 213, 214, 215, 216, 217, 218, 219, 220, 221, 222, 223, 224, 225, 226, 227, 228, 229, 230, 231, 232, 233, 234, 235, 236, 237, 238] (by decide +kernel) (by decide +kernel)
set_option maxRecDepth 20000 in
theorem gX10_scan_X9_act : GoodIn wsX10_scan (wsV RX10 208 RX9 yX9_act wsX9_act) := goodIn_app (goodIn_of _ (by decide +kernel)) ggX10_scan_X9_act
theorem dX10_scan_0 : decode cX10_scan 0 = .ok (.iload_n 2, 1) := by decide +kernel
theorem dX10_scan_1 : decode cX10_scan 1 = .ok (.invokestatic 212, 3) := by decide +kernel
theorem dX10_scan_4 : decode cX10_scan 4 = .ok (.istore 4, 2) := by decide +kernel
theorem dX10_scan_6 : decode cX10_scan 6 = .ok (.iload_n 3, 1) := by decide +kernel
theorem dX10_scan_7 : decode cX10_scan 7 = .ok (.invokestatic 212, 3) := by decide +kernel
theorem dX10_scan_10 : decode cX10_scan 10 = .ok (.istore 5, 2) := by decide +kernel
theorem dX10_scan_12 : decode cX10_scan 12 = .ok (.iload 4, 2) := by decide +kernel
theorem dX10_scan_14 : decode cX10_scan 14 = .ok (.iconst (-1), 1) := by decide +kernel
theorem dX10_scan_15 : decode cX10_scan 15 = .ok (.if_icmp .eq 16, 3) := by decide +kernel
theorem dX10_scan_18 : decode cX10_scan 18 = .ok (.iload 5, 2) := by decide +kernel
theorem dX10_scan_20 : decode cX10_scan 20 = .ok (.iconst (-1), 1) := by decide +kernel
theorem dX10_scan_21 : decode cX10_scan 21 = .ok (.if_icmp .eq 10, 3) := by decide +kernel
theorem dX10_scan_24 : decode cX10_scan 24 = .ok (.iload 4, 2) := by decide +kernel
theorem dX10_scan_26 : decode cX10_scan 26 = .ok (.iload 5, 2) := by decide +kernel
theorem dX10_scan_28 : decode cX10_scan 28 = .ok (.if_icmp .le 5, 3) := by decide +kernel
theorem dX10_scan_31 : decode cX10_scan 31 = .ok (.iconst (-1), 1) := by decide +kernel
theorem dX10_scan_32 : decode cX10_scan 32 = .ok (.ireturn, 1) := by decide +kernel
theorem dX10_scan_33 : decode cX10_scan 33 = .ok (.aload_n 0, 1) := by decide +kernel
theorem dX10_scan_34 : decode cX10_scan 34 = .ok (.getfield 26, 3) := by decide +kernel
theorem dX10_scan_37 : decode cX10_scan 37 = .ok (.getfield 60, 3) := by decide +kernel
theorem dX10_scan_40 : decode cX10_scan 40 = .ok (.getfield 90, 3) := by decide +kernel
theorem dX10_scan_43 : decode cX10_scan 43 = .ok (.iload_n 1, 1) := by decide +kernel
theorem dX10_scan_44 : decode cX10_scan 44 = .ok (.iconst 1, 1) := by decide +kernel
theorem dX10_scan_45 : decode cX10_scan 45 = .ok (.iload 4, 2) := by decide +kernel
theorem dX10_scan_47 : decode cX10_scan 47 = .ok (.iload 5, 2) := by decide +kernel
theorem dX10_scan_49 : decode cX10_scan 49 = .ok (.iconst 0, 1) := by decide +kernel
theorem dX10_scan_50 : decode cX10_scan 50 = .ok (.invokevirtual 208, 3) := by decide +kernel
theorem dX10_scan_53 : decode cX10_scan 53 = .ok (.ireturn, 1) := by decide +kernel
set_option maxRecDepth 20000 in
theorem ggX10_seek_X4_keyBits : GoodIn wsX10_seek wsX4_keyBits := goodIn_r _ [4, 5, 6, 7, 3, 8, 9, 10, 11] (by decide +kernel) (by decide +kernel)
set_option maxRecDepth 20000 in
theorem gX10_seek_X4_keyBits : GoodIn wsX10_seek (va_wsS RX10 130 yX4_keyBits wsX4_keyBits) := goodIn_app (goodIn_of _ (by decide +kernel)) ggX10_seek_X4_keyBits
set_option maxRecDepth 20000 in
theorem ggX10_seek_X10_actOnKey : GoodIn wsX10_seek wsX10_actOnKey := goodIn_r _ [16, 17, 18, 19, 20, 21, 22, 23, 24, 25, 26, 27, 28, 29, 30, 31, 32, 33, 34, 35, 36, 37, 38, 39, 40, 41, 42, 43, 44, 45, 46, 47, 48, 49, 50, 51, 52, 53, 54, 55, 56, 57, 58, 59, 60, 61, 62, 63, 64, 65, 66, 67, 68, 69, 70, 71, 72, 73, 74, 75, 76, 77, 78, 79, 80, 81, 82, 83, 84, 85, 86, 87, 88, 89, 90, 91, 92, 93, 94, 95, 96, 97, 98, 99, 100, 101, 102, 103, 104, 105, 106, 107, 108, 109, 110, 111, 112, 113, 114, 115, 116, 117, 118, 119, 120, 121, 122, 123, 124, 125, 126, 127, 128, 129, 130, 131, 132, 133, 134, 135, 136, 137, 138, 139, 140, 141, 142, 143, 144, 145, 146, 147, 148, 149, 150, 151, 152, 153, 154, 155, 156, 157, 158, 159, 160, 161, 162, 163, 164, 165, 166, 167, 168, 169, 170, 171, 172, 173, 174, 175, 176, 177, 178, 179, 180, 181, 182, 183, 184, 185, 186, 187, 188, 189, 190, 191, 192, 193, 194, 195, 196, 197, 198, 199, 200, 201, 202, 203, 204, 205, 206, 207, 208, 209, 210, 211, 212, 213, 214, 215, 216, 217, 218, 219, 220, 221, 222, 223, 224, 225, 226, 227, 228, 229, 230, 231, 232, 233, 234, 235, 236, 237, 238, 239] (by decide +kernel) (by decide +kernel)
set_option maxRecDepth 20000 in
theorem gX10_seek_X10_actOnKey : GoodIn wsX10_seek (wsV RX10 215 RX10 yX10_actOnKey wsX10_actOnKey) := goodIn_app (goodIn_of _ (by decide +kernel)) ggX10_seek_X10_actOnKey
theorem dX10_seek_0 : decode cX10_seek 0 = .ok (.aload_n 0, 1) := by decide +kernel
theorem dX10_seek_1 : decode cX10_seek 1 = .ok (.iload_n 1, 1) := by decide +kernel
theorem dX10_seek_2 : decode cX10_seek 2 = .ok (.iconst 2, 1) := by decide +kernel
theorem dX10_seek_3 : decode cX10_seek 3 = .ok (.iload_n 2, 1) := by decide +kernel
theorem dX10_seek_4 : decode cX10_seek 4 = .ok (.iload_n 3, 1) := by decide +kernel
theorem dX10_seek_5 : decode cX10_seek 5 = .ok (.invokestatic 130, 3) := by decide +kernel
theorem dX10_seek_8 : decode cX10_seek 8 = .ok (.iconst 0, 1) := by decide +kernel
theorem dX10_seek_9 : decode cX10_seek 9 = .ok (.invokevirtual 215, 3) := by decide +kernel
theorem dX10_seek_12 : decode cX10_seek 12 = .ok (.ireturn, 1) := by decide +kernel
set_option maxRecDepth 20000 in
theorem ggX10_grab_X4_keyBits : GoodIn wsX10_grab wsX4_keyBits := goodIn_r _ [4, 5, 6, 7, 3, 8, 9, 10, 11] (by decide +kernel) (by decide +kernel)
set_option maxRecDepth 20000 in
theorem gX10_grab_X4_keyBits : GoodIn wsX10_grab (va_wsS RX10 130 yX4_keyBits wsX4_keyBits) := goodIn_app (goodIn_of _ (by decide +kernel)) ggX10_grab_X4_keyBits
set_option maxRecDepth 20000 in
theorem ggX10_grab_X10_actOnKey : GoodIn wsX10_grab wsX10_actOnKey := goodIn_r _ [16, 17, 18, 19, 20, 21, 22, 23, 24, 25, 26, 27, 28, 29, 30, 31, 32, 33, 34, 35, 36, 37, 38, 39, 40, 41, 42, 43, 44, 45, 46, 47, 48, 49, 50, 51, 52, 53, 54, 55, 56, 57, 58, 59, 60, 61, 62, 63, 64, 65, 66, 67, 68, 69, 70, 71, 72, 73, 74, 75, 76, 77, 78, 79, 80, 81, 82, 83, 84, 85, 86, 87, 88, 89, 90, 91, 92, 93, 94, 95, 96, 97, 98, 99, 100, 101, 102, 103, 104, 105, 106, 107, 108, 109, 110, 111, 112, 113, 114, 115, 116, 117, 118, 119, 120, 121, 122, 123, 124, 125, 126, 127, 128, 129, 130, 131, 132, 133, 134, 135, 136, 137, 138, 139, 140, 141, 142, 143, 144, 145, 146, 147, 148, 149, 150, 151, 152, 153, 154, 155, 156, 157, 158, 159, 160, 161, 162, 163, 164, 165, 166, 167, 168, 169, 170, 171, 172, 173, 174, 175, 176, 177, 178, 179, 180, 181, 182, 183, 184, 185, 186, 187, 188, 189, 190, 191, 192, 193, 194, 195, 196, 197, 198, 199, 200, 201, 202, 203, 204, 205, 206, 207, 208, 209, 210, 211, 212, 213, 214, 215, 216, 217, 218, 219, 220, 221, 222, 223, 224, 225, 226, 227, 228, 229, 230, 231, 232, 233, 234, 235, 236, 237, 238, 239] (by decide +kernel) (by decide +kernel)
set_option maxRecDepth 20000 in
theorem gX10_grab_X10_actOnKey : GoodIn wsX10_grab (wsV RX10 215 RX10 yX10_actOnKey wsX10_actOnKey) := goodIn_app (goodIn_of _ (by decide +kernel)) ggX10_grab_X10_actOnKey
theorem dX10_grab_0 : decode cX10_grab 0 = .ok (.aload_n 0, 1) := by decide +kernel
theorem dX10_grab_1 : decode cX10_grab 1 = .ok (.iload_n 1, 1) := by decide +kernel
theorem dX10_grab_2 : decode cX10_grab 2 = .ok (.iconst 3, 1) := by decide +kernel
theorem dX10_grab_3 : decode cX10_grab 3 = .ok (.iload_n 2, 1) := by decide +kernel
theorem dX10_grab_4 : decode cX10_grab 4 = .ok (.iload_n 3, 1) := by decide +kernel
theorem dX10_grab_5 : decode cX10_grab 5 = .ok (.invokestatic 130, 3) := by decide +kernel
theorem dX10_grab_8 : decode cX10_grab 8 = .ok (.iconst 0, 1) := by decide +kernel
theorem dX10_grab_9 : decode cX10_grab 9 = .ok (.invokevirtual 215, 3) := by decide +kernel
theorem dX10_grab_12 : decode cX10_grab 12 = .ok (.ireturn, 1) := by decide +kernel
set_option maxRecDepth 20000 in
theorem ggX10_set_X4_keyBits : GoodIn wsX10_set wsX4_keyBits := goodIn_r _ [4, 5, 6, 7, 3, 8, 9, 10, 11] (by decide +kernel) (by decide +kernel)
set_option maxRecDepth 20000 in
theorem gX10_set_X4_keyBits : GoodIn wsX10_set (va_wsS RX10 130 yX4_keyBits wsX4_keyBits) := goodIn_app (goodIn_of _ (by decide +kernel)) ggX10_set_X4_keyBits
set_option maxRecDepth 20000 in
theorem ggX10_set_X10_actOnKey : GoodIn wsX10_set wsX10_actOnKey := goodIn_r _ [16, 17, 18, 19, 20, 21, 22, 23, 24, 25, 26, 27, 28, 29, 30, 31, 32, 33, 34, 35, 36, 37, 38, 39, 40, 41, 42, 43, 44, 45, 46, 47, 48, 49, 50, 51, 52, 53, 54, 55, 56, 57, 58, 59, 60, 61, 62, 63, 64, 65, 66, 67, 68, 69, 70, 71, 72, 73, 74, 75, 76, 77, 78, 79, 80, 81, 82, 83, 84, 85, 86, 87, 88, 89, 90, 91, 92, 93, 94, 95, 96, 97, 98, 99, 100, 101, 102, 103, 104, 105, 106, 107, 108, 109, 110, 111, 112, 113, 114, 115, 116, 117, 118, 119, 120, 121, 122, 123, 124, 125, 126, 127, 128, 129, 130, 131, 132, 133, 134, 135, 136, 137, 138, 139, 140, 141, 142, 143, 144, 145, 146, 147, 148, 149, 150, 151, 152, 153, 154, 155, 156, 157, 158, 159, 160, 161, 162, 163, 164, 165, 166, 167, 168, 169, 170, 171, 172, 173, 174, 175, 176, 177, 178, 179, 180, 181, 182, 183, 184, 185, 186, 187, 188, 189, 190, 191, 192, 193, 194, 195, 196, 197, 198, 199, 200, 201, 202, 203, 204, 205, 206, 207, 208, 209, 210, 211, 212, 213, 214, 215, 216, 217, 218, 219, 220, 221, 222, 223, 224, 225, 226, 227, 228, 229, 230, 231, 232, 233, 234, 235, 236, 237, 238, 239] (by decide +kernel) (by decide +kernel)
set_option maxRecDepth 20000 in
theorem gX10_set_X10_actOnKey : GoodIn wsX10_set (wsV RX10 215 RX10 yX10_actOnKey wsX10_actOnKey) := goodIn_app (goodIn_of _ (by decide +kernel)) ggX10_set_X10_actOnKey
theorem dX10_set_0 : decode cX10_set 0 = .ok (.aload_n 0, 1) := by decide +kernel
theorem dX10_set_1 : decode cX10_set 1 = .ok (.iload_n 1, 1) := by decide +kernel
theorem dX10_set_2 : decode cX10_set 2 = .ok (.iconst 4, 1) := by decide +kernel
theorem dX10_set_3 : decode cX10_set 3 = .ok (.iload_n 2, 1) := by decide +kernel
theorem dX10_set_4 : decode cX10_set 4 = .ok (.iload_n 3, 1) := by decide +kernel
theorem dX10_set_5 : decode cX10_set 5 = .ok (.invokestatic 130, 3) := by decide +kernel
theorem dX10_set_8 : decode cX10_set 8 = .ok (.iload 4, 2) := by decide +kernel
theorem dX10_set_10 : decode cX10_set 10 = .ok (.invokevirtual 215, 3) := by decide +kernel
theorem dX10_set_13 : decode cX10_set 13 = .ok (.ireturn, 1) := by decide +kernel
set_option maxRecDepth 20000 in
theorem ggX10_put_X4_keyBits : GoodIn wsX10_put wsX4_keyBits := goodIn_r _ [4, 5, 6, 7, 3, 8, 9, 10, 11] (by decide +kernel) (by decide +kernel)
set_option maxRecDepth 20000 in
theorem gX10_put_X4_keyBits : GoodIn wsX10_put (va_wsS RX10 130 yX4_keyBits wsX4_keyBits) := goodIn_app (goodIn_of _ (by decide +kernel)) ggX10_put_X4_keyBits
set_option maxRecDepth 20000 in
theorem ggX10_put_X10_actOnKey : GoodIn wsX10_put wsX10_actOnKey := goodIn_r _ [16, 17, 18, 19, 20, 21, 22, 23, 24, 25, 26, 27, 28, 29, 30, 31, 32, 33, 34, 35, 36, 37, 38, 39, 40, 41, 42, 43, 44, 45, 46, 47, 48, 49, 50, 51, 52, 53, 54, 55, 56, 57, 58, 59, 60, 61, 62, 63, 64, 65, 66, 67, 68, 69, 70, 71, 72, 73, 74, 75, 76, 77, 78, 79, 80, 81, 82, 83, 84, 85, 86, 87, 88, 89, 90, 91, 92, 93, 94, 95, 96, 97, 98, 99, 100, 101, 102, 103, 104, 105, 106, 107, 108, 109, 110, 111, 112, 113, 114, 115, 116, 117, 118, 119, 120, 121, 122, 123, 124, 125, 126, 127, 128, 129, 130, 131, 132, 133, 134, 135, 136, 137, 138, 139, 140, 141, 142, 143, 144, 145, 146, 147, 148, 149, 150, 151, 152, 153, 154, 155, 156, 157, 158, 159, 160, 161, 162, 163, 164, 165, 166, 167, 168, 169, 170, 171, 172, 173, 174, 175, 176, 177, 178, 179, 180, 181, 182, 183, 184, 185, 186, 187, 188, 189, 190, 191, 192, 193, 194, 195, 196, 197, 198, 199, 200, 201, 202, 203, 204, 205, 206, 207, 208, 209, 210, 211, 212, 213, 214, 215, 216, 217, 218, 219, 220, 221, 222, 223, 224, 225, 226, 227, 228, 229, 230, 231, 232, 233, 234, 235, 236, 237, 238, 239] (by decide +kernel) (by decide +kernel)
set_option maxRecDepth 20000 in
theorem gX10_put_X10_actOnKey : GoodIn wsX10_put (wsV RX10 215 RX10 yX10_actOnKey wsX10_actOnKey) := goodIn_app (goodIn_of _ (by decide +kernel)) ggX10_put_X10_actOnKey
theorem dX10_put_0 : decode cX10_put 0 = .ok (.aload_n 0, 1) := by decide +kernel
theorem dX10_put_1 : decode cX10_put 1 = .ok (.iload_n 1, 1) := by decide +kernel
theorem dX10_put_2 : decode cX10_put 2 = .ok (.iconst 5, 1) := by decide +kernel
theorem dX10_put_3 : decode cX10_put 3 = .ok (.iload_n 2, 1) := by decide +kernel
theorem dX10_put_4 : decode cX10_put 4 = .ok (.iload_n 3, 1) := by decide +kernel
theorem dX10_put_5 : decode cX10_put 5 = .ok (.invokestatic 130, 3) := by decide +kernel
theorem dX10_put_8 : decode cX10_put 8 = .ok (.iload 4, 2) := by decide +kernel
theorem dX10_put_10 : decode cX10_put 10 = .ok (.invokevirtual 215, 3) := by decide +kernel
theorem dX10_put_13 : decode cX10_put 13 = .ok (.ireturn, 1) := by decide +kernel
set_option maxRecDepth 20000 in
theorem ggX10_cut_X4_keyBits : GoodIn wsX10_cut wsX4_keyBits := goodIn_r _ [4, 5, 6, 7, 3, 8, 9, 10, 11] (by decide +kernel) (by decide +kernel)
set_option maxRecDepth 20000 in
theorem gX10_cut_X4_keyBits : GoodIn wsX10_cut (va_wsS RX10 130 yX4_keyBits wsX4_keyBits) := goodIn_app (goodIn_of _ (by decide +kernel)) ggX10_cut_X4_keyBits
set_option maxRecDepth 20000 in
theorem ggX10_cut_X10_actOnKey : GoodIn wsX10_cut wsX10_actOnKey := goodIn_r _ [16, 17, 18, 19, 20, 21, 22, 23, 24, 25, 26, 27, 28, 29, 30, 31, 32, 33, 34, 35, 36, 37, 38, 39, 40, 41, 42, 43, 44, 45, 46, 47, 48, 49, 50, 51, 52, 53, 54, 55, 56, 57, 58, 59, 60, 61, 62, 63, 64, 65, 66, 67, 68, 69, 70, 71, 72, 73, 74, 75, 76, 77, 78, 79, 80, 81, 82, 83, 84, 85, 86, 87, 88, 89, 90, 91, 92, 93, 94, 95, 96, 97, 98, 99, 100, 101, 102, 103, 104, 105, 106, 107, 108, 109, 110, 111, 112, 113, 114, 115, 116, 117, 118, 119, 120, 121, 122, 123, 124, 125, 126, 127, 128, 129, 130, 131, 132, 133, 134, 135, 136, 137, 138, 139, 140, 141, 142, 143, 144, 145, 146, 147, 148, 149, 150, 151, 152, 153, 154, 155, 156, 157, 158, 159, 160, 161, 162, 163, 164, 165, 166, 167, 168, 169, 170, 171, 172, 173, 174, 175, 176, 177, 178, 179, 180, 181, 182, 183, 184, 185, 186, 187, 188, 189, 190, 191, 192, 193, 194, 195, 196, 197, 198, 199, 200, 201, 202, 203, 204, 205, 206, 207, 208, 209, 210, 211, 212, 213, 214, 215, 216, 217, 218, 219, 220, 221, 222, 223, 224, 225, 226, 227, 228, 229, 230, 231, 232, 233, 234, 235, 236, 237, 238, 239] (by decide +kernel) (by decide +kernel)
set_option maxRecDepth 20000 in
theorem gX10_cut_X10_actOnKey : GoodIn wsX10_cut (wsV RX10 215 RX10 yX10_actOnKey wsX10_actOnKey) := goodIn_app (goodIn_of _ (by decide +kernel)) ggX10_cut_X10_actOnKey
theorem dX10_cut_0 : decode cX10_cut 0 = .ok (.aload_n 0, 1) := by decide +kernel
theorem dX10_cut_1 : decode cX10_cut 1 = .ok (.iload_n 1, 1) := by decide +kernel
theorem dX10_cut_2 : decode cX10_cut 2 = .ok (.bipush 6, 2) := by decide +kernel
theorem dX10_cut_4 : decode cX10_cut 4 = .ok (.iload_n 2, 1) := by decide +kernel
theorem dX10_cut_5 : decode cX10_cut 5 = .ok (.iload_n 3, 1) := by decide +kernel
theorem dX10_cut_6 : decode cX10_cut 6 = .ok (.invokestatic 130, 3) := by decide +kernel
theorem dX10_cut_9 : decode cX10_cut 9 = .ok (.iconst 0, 1) := by decide +kernel
theorem dX10_cut_10 : decode cX10_cut 10 = .ok (.invokevirtual 215, 3) := by decide +kernel
theorem dX10_cut_13 : decode cX10_cut 13 = .ok (.ireturn, 1) := by decide +kernel
set_option maxRecDepth 20000 in
theorem ggX10_end_X9_act : GoodIn wsX10_end wsX9_act := goodIn_r _ [8, 9, 10, 11, 12, 13, 14, 15, 16, 17, 18, 19, 20, 21, 22, 23, 24, 25, 7, 26, 27, 28, 29, 30, 31, 32, 33, 34, 35, 36, 37, 38, 39, 40, 41, 42, 43, 44, 45, 46, 47, 48, 49, 50, 51, 52, 53, 54, 55, 56, 57, 58, 59, 60, 61, 62, 63, 64, 65, 66, 67, 68, 69, 70, 71, 72, 73, 74, 75, 76, 77, 78, 79, 80, 81, 82, 83, 84, 85, 86, 87, 88, 89, 90, 91, 92, 93, 94, 95, 96, 97, 98, 99, 100, 101, 102, 103, 104, 105, 106, 107, 108, 109, 110, 111, 112, 113, 114, 115, 116, 117, 118, 119, 120, 121, 122, 123, 124, 125, 126, 127, 128, 129, 130, 131, 132, 133, 134, 135, 136, 137, 138, 139, 140, 141, 142, 143, 144, 145, 146, 147, 148, 149, 150, 151, 152, 153, 154, 155, 156, 157, 158, 159, 160, 161, 162, 163, 164, 165, 166, 167, 168, 169, 170, 171, 172, 173, 174, 175, 176, 177, 178, 194, 195, 196, 197, 198, 199, 200, 201, 202, 203, 204, 205, 206, 207, 208, 209, 210, 211, 212, 213, 214, 215, 216, 217, 218, 219, 220, 221, 222, 223] (by decide +kernel) (by decide +kernel)
set_option maxRecDepth 20000 in
theorem gX10_end_X9_act : GoodIn wsX10_end (wsV RX10 208 RX9 yX9_act wsX9_act) := goodIn_app (goodIn_of _ (by decide +kernel)) ggX10_end_X9_act
theorem dX10_end_0 : decode cX10_end 0 = .ok (.aload_n 0, 1) := by decide +kernel
theorem dX10_end_1 : decode cX10_end 1 = .ok (.getfield 26, 3) := by decide +kernel
theorem dX10_end_4 : decode cX10_end 4 = .ok (.getfield 60, 3) := by decide +kernel
theorem dX10_end_7 : decode cX10_end 7 = .ok (.getfield 90, 3) := by decide +kernel
theorem dX10_end_10 : decode cX10_end 10 = .ok (.iload_n 1, 1) := by decide +kernel
theorem dX10_end_11 : decode cX10_end 11 = .ok (.bipush 7, 2) := by decide +kernel
theorem dX10_end_13 : decode cX10_end 13 = .ok (.iconst 0, 1) := by decide +kernel
theorem dX10_end_14 : decode cX10_end 14 = .ok (.iconst 0, 1) := by decide +kernel
theorem dX10_end_15 : decode cX10_end 15 = .ok (.iconst 0, 1) := by decide +kernel
theorem dX10_end_16 : decode cX10_end 16 = .ok (.invokevirtual 208, 3) := by decide +kernel
theorem dX10_end_19 : decode cX10_end 19 = .ok (.ireturn, 1) := by decide +kernel
set_option maxRecDepth 20000 in
theorem ggX10_quit_X9_act : GoodIn wsX10_quit wsX9_act := goodIn_r _ [8, 9, 10, 11, 12, 13, 14, 15, 16, 17, 18, 19, 20, 21, 22, 23, 24, 25, 7, 26, 27, 28, 29, 30, 31, 32, 33, 34, 35, 36, 37, 38, 39, 40, 41, 42, 43, 44, 45, 46, 47, 48, 49, 50, 51, 52, 53, 54, 55, 56, 57, 58, 59, 60, 61, 62, 63, 64, 65, 66, 67, 68, 69, 70, 71, 72, 73, 74, 75, 76, 77, 78, 79, 80, 81, 82, 83, 84, 85, 86, 87, 88, 89, 90, 91, 92, 93, 94, 95, 96, 97, 98, 99, 100, 101, 102, 103, 104, 105, 106, 107, 108, 109, 110, 111, 112, 113, 114, 115, 116, 117, 118, 119, 120, 121, 122, 123, 124, 125, 126, 127, 128, 129, 130, 131, 132, 133, 134, 135, 136, 137, 138, 139, 140, 141, 142, 143, 144, 145, 146, 147, 148, 149, 150, 151, 152, 153, 154, 155, 156, 157, 158, 159, 160, 161, 162, 163, 164, 165, 166, 167, 168, 169, 170, 171, 172, 173, 174, 175, 176, 177, 178, 194, 195, 196, 197, 198, 199, 200, 201, 202, 203, 204, 205, 206, 207, 208, 209, 210, 211, 212, 213, 214, 215, 216, 217, 218, 219, 220, 221, 222, 223] (by decide +kernel) (by decide +kernel)
set_option maxRecDepth 20000 in
theorem gX10_quit_X9_act : GoodIn wsX10_quit (wsV RX10 208 RX9 yX9_act wsX9_act) := goodIn_app (goodIn_of _ (by decide +kernel)) ggX10_quit_X9_act
theorem dX10_quit_0 : decode cX10_quit 0 = .ok (.aload_n 0, 1) := by decide +kernel
theorem dX10_quit_1 : decode cX10_quit 1 = .ok (.getfield 26, 3) := by decide +kernel
theorem dX10_quit_4 : decode cX10_quit 4 = .ok (.getfield 60, 3) := by decide +kernel
theorem dX10_quit_7 : decode cX10_quit 7 = .ok (.getfield 90, 3) := by decide +kernel
theorem dX10_quit_10 : decode cX10_quit 10 = .ok (.iload_n 1, 1) := by decide +kernel
theorem dX10_quit_11 : decode cX10_quit 11 = .ok (.bipush 8, 2) := by decide +kernel
theorem dX10_quit_13 : decode cX10_quit 13 = .ok (.iconst 0, 1) := by decide +kernel
theorem dX10_quit_14 : decode cX10_quit 14 = .ok (.iconst 0, 1) := by decide +kernel
theorem dX10_quit_15 : decode cX10_quit 15 = .ok (.iconst 0, 1) := by decide +kernel
theorem dX10_quit_16 : decode cX10_quit 16 = .ok (.invokevirtual 208, 3) := by decide +kernel
theorem dX10_quit_19 : decode cX10_quit 19 = .ok (.ireturn, 1) := by decide +kernel
set_option maxRecDepth 20000 in
theorem ggX10_outcome_X1_has : GoodIn wsX10_outcome wsX1_has := goodIn_r _ [10, 11, 35, 36, 37, 38, 39, 40, 41, 42, 43, 44, 45, 46] (by decide +kernel) (by decide +kernel)
set_option maxRecDepth 20000 in
theorem gX10_outcome_X1_has : GoodIn wsX10_outcome (wsV RX10 158 RX1 yX1_has wsX1_has) := goodIn_app (goodIn_of _ (by decide +kernel)) ggX10_outcome_X1_has
theorem dX10_outcome_0 : decode cX10_outcome 0 = .ok (.aload_n 0, 1) := by decide +kernel
theorem dX10_outcome_1 : decode cX10_outcome 1 = .ok (.getfield 26, 3) := by decide +kernel
theorem dX10_outcome_4 : decode cX10_outcome 4 = .ok (.getfield 60, 3) := by decide +kernel
theorem dX10_outcome_7 : decode cX10_outcome 7 = .ok (.getfield 90, 3) := by decide +kernel
theorem dX10_outcome_10 : decode cX10_outcome 10 = .ok (.getfield 154, 3) := by decide +kernel
theorem dX10_outcome_13 : decode cX10_outcome 13 = .ok (.astore_n 2, 1) := by decide +kernel
theorem dX10_outcome_14 : decode cX10_outcome 14 = .ok (.aload_n 2, 1) := by decide +kernel
theorem dX10_outcome_15 : decode cX10_outcome 15 = .ok (.iload_n 1, 1) := by decide +kernel
theorem dX10_outcome_16 : decode cX10_outcome 16 = .ok (.invokevirtual 158, 3) := by decide +kernel
theorem dX10_outcome_19 : decode cX10_outcome 19 = .ok (.ifCond .eq 12, 3) := by decide +kernel
theorem dX10_outcome_22 : decode cX10_outcome 22 = .ok (.aload_n 2, 1) := by decide +kernel
theorem dX10_outcome_23 : decode cX10_outcome 23 = .ok (.getfield 219, 3) := by decide +kernel
theorem dX10_outcome_26 : decode cX10_outcome 26 = .ok (.iload_n 1, 1) := by decide +kernel
theorem dX10_outcome_27 : decode cX10_outcome 27 = .ok (.iaload, 1) := by decide +kernel
theorem dX10_outcome_28 : decode cX10_outcome 28 = .ok (.goto 5, 3) := by decide +kernel
theorem dX10_outcome_31 : decode cX10_outcome 31 = .ok (.bipush (-5), 2) := by decide +kernel
theorem dX10_outcome_33 : decode cX10_outcome 33 = .ok (.ireturn, 1) := by decide +kernel
set_option maxRecDepth 20000 in
theorem ggX10_run_X0_go : GoodIn wsX10_run wsX0_go := goodIn_r _ [9, 10, 11, 12, 13, 14, 15, 16, 17, 18, 19, 20, 21, 22, 23, 24, 25, 8, 26, 27, 28, 29, 30, 31, 32, 33, 34, 35, 36, 37, 38, 39, 40, 41, 42, 43, 44, 45, 46, 47, 48, 49, 50, 51, 52, 53, 54, 55, 56, 57, 58, 59, 60, 61, 62, 63, 64, 65, 66, 67, 68, 69, 70, 71, 72, 73, 74, 75, 76, 77, 78, 79, 80, 81, 82, 83, 84, 85, 86, 87, 88, 89, 90, 91, 92, 93, 94, 95, 96, 97, 98, 99, 100, 101, 102, 103, 104, 105, 106, 107, 108, 109, 110, 111, 112, 113, 114, 115, 116, 117, 118, 119, 120, 121, 122, 123, 124, 125, 126, 127, 128, 129, 130, 131, 132, 133, 134, 135, 136, 137, 138, 139, 140, 141, 142, 143, 144, 145, 146, 147, 148, 149, 150, 151, 152, 153, 154, 155, 156, 157, 158, 159, 160, 161, 162, 163, 164, 165, 166, 167, 168, 169, 170, 171, 172, 173, 174, 175, 176, 177, 178, 179, 180, 181, 182, 183, 184, 185, 186, 187, 188, 189, 190, 191, 192, 193, 194, 195, 196, 197, 198, 199, 200, 201, 202, 203, 204, 205, 206, 231, 232, 233, 234, 235, 221, 222, 223, 224, 225, 226, 227, 228, 229, 230, 236, 237, 238, 239, 240, 241, 242, 243, 244, 245, 246, 247, 248, 249, 250, 251, 252, 253, 254, 255, 256, 257, 258, 259, 260, 261, 262, 263, 264, 265] (by decide +kernel) (by decide +kernel)
set_option maxRecDepth 20000 in
theorem gX10_run_X0_go : GoodIn wsX10_run (wsV RX10 222 RX0 yX0_go wsX0_go) := goodIn_app (goodIn_of _ (by decide +kernel)) ggX10_run_X0_go
set_option maxRecDepth 20000 in
theorem ggX10_run_X0_marked : GoodIn wsX10_run wsX0_marked := goodIn_r _ [210, 12, 13, 221, 222, 223, 224, 225, 226, 227, 228, 229, 230, 231, 232, 233, 234, 235] (by decide +kernel) (by decide +kernel)
set_option maxRecDepth 20000 in
theorem gX10_run_X0_marked : GoodIn wsX10_run (wsV RX10 229 RX0 yX0_marked wsX0_marked) := goodIn_app (goodIn_of _ (by decide +kernel)) ggX10_run_X0_marked
theorem dX10_run_0 : decode cX10_run 0 = .ok (.iload_n 1, 1) := by decide +kernel
theorem dX10_run_1 : decode cX10_run 1 = .ok (.ifCond .lt 9, 3) := by decide +kernel
theorem dX10_run_4 : decode cX10_run 4 = .ok (.iload_n 1, 1) := by decide +kernel
theorem dX10_run_5 : decode cX10_run 5 = .ok (.bipush 24, 2) := by decide +kernel
theorem dX10_run_7 : decode cX10_run 7 = .ok (.if_icmp .le 5, 3) := by decide +kernel
theorem dX10_run_10 : decode cX10_run 10 = .ok (.iconst (-1), 1) := by decide +kernel
theorem dX10_run_11 : decode cX10_run 11 = .ok (.ireturn, 1) := by decide +kernel
theorem dX10_run_12 : decode cX10_run 12 = .ok (.aload_n 0, 1) := by decide +kernel
theorem dX10_run_13 : decode cX10_run 13 = .ok (.getfield 26, 3) := by decide +kernel
theorem dX10_run_16 : decode cX10_run 16 = .ok (.getfield 60, 3) := by decide +kernel
theorem dX10_run_19 : decode cX10_run 19 = .ok (.aload_n 0, 1) := by decide +kernel
theorem dX10_run_20 : decode cX10_run 20 = .ok (.getfield 37, 3) := by decide +kernel
theorem dX10_run_23 : decode cX10_run 23 = .ok (.iload_n 1, 1) := by decide +kernel
theorem dX10_run_24 : decode cX10_run 24 = .ok (.invokevirtual 222, 3) := by decide +kernel
theorem dX10_run_27 : decode cX10_run 27 = .ok (.aload_n 0, 1) := by decide +kernel
theorem dX10_run_28 : decode cX10_run 28 = .ok (.getfield 37, 3) := by decide +kernel
theorem dX10_run_31 : decode cX10_run 31 = .ok (.getfield 226, 3) := by decide +kernel
theorem dX10_run_34 : decode cX10_run 34 = .ok (.aload_n 0, 1) := by decide +kernel
theorem dX10_run_35 : decode cX10_run 35 = .ok (.getfield 26, 3) := by decide +kernel
theorem dX10_run_38 : decode cX10_run 38 = .ok (.getfield 60, 3) := by decide +kernel
theorem dX10_run_41 : decode cX10_run 41 = .ok (.aload_n 0, 1) := by decide +kernel
theorem dX10_run_42 : decode cX10_run 42 = .ok (.getfield 37, 3) := by decide +kernel
theorem dX10_run_45 : decode cX10_run 45 = .ok (.iconst 2, 1) := by decide +kernel
theorem dX10_run_46 : decode cX10_run 46 = .ok (.invokevirtual 229, 3) := by decide +kernel
theorem dX10_run_49 : decode cX10_run 49 = .ok (.isub, 1) := by decide +kernel
theorem dX10_run_50 : decode cX10_run 50 = .ok (.ireturn, 1) := by decide +kernel
theorem dX10_answer_0 : decode cX10_answer 0 = .ok (.iload_n 1, 1) := by decide +kernel
theorem dX10_answer_1 : decode cX10_answer 1 = .ok (.ifCond .lt 14, 3) := by decide +kernel
theorem dX10_answer_4 : decode cX10_answer 4 = .ok (.iload_n 1, 1) := by decide +kernel
theorem dX10_answer_5 : decode cX10_answer 5 = .ok (.aload_n 0, 1) := by decide +kernel
theorem dX10_answer_6 : decode cX10_answer 6 = .ok (.getfield 37, 3) := by decide +kernel
theorem dX10_answer_9 : decode cX10_answer 9 = .ok (.getfield 226, 3) := by decide +kernel
theorem dX10_answer_12 : decode cX10_answer 12 = .ok (.if_icmp .lt 8, 3) := by decide +kernel
theorem dX10_answer_15 : decode cX10_answer 15 = .ok (.bipush (-6), 2) := by decide +kernel
theorem dX10_answer_17 : decode cX10_answer 17 = .ok (.goto 15, 3) := by decide +kernel
theorem dX10_answer_20 : decode cX10_answer 20 = .ok (.aload_n 0, 1) := by decide +kernel
theorem dX10_answer_21 : decode cX10_answer 21 = .ok (.getfield 26, 3) := by decide +kernel
theorem dX10_answer_24 : decode cX10_answer 24 = .ok (.getfield 60, 3) := by decide +kernel
theorem dX10_answer_27 : decode cX10_answer 27 = .ok (.getfield 233, 3) := by decide +kernel
theorem dX10_answer_30 : decode cX10_answer 30 = .ok (.iload_n 1, 1) := by decide +kernel
theorem dX10_answer_31 : decode cX10_answer 31 = .ok (.iaload, 1) := by decide +kernel
theorem dX10_answer_32 : decode cX10_answer 32 = .ok (.ireturn, 1) := by decide +kernel
set_option maxRecDepth 20000 in
theorem ggX10_same_X8_runOut : GoodIn wsX10_same wsX8_runOut := goodIn_r _ [8, 9, 10, 11, 12, 13, 14, 15, 16, 17, 18, 19, 20, 21, 22, 23, 24, 25, 26, 27, 28, 29, 30, 31, 32, 33, 34, 35, 36, 37, 38, 39, 40, 41, 42, 43, 44, 45, 46, 47, 48, 49, 50, 51, 52, 53, 54, 55, 56, 57, 58, 59, 60, 61, 62, 63, 64, 65, 66, 67, 68, 69, 70, 71, 72, 73, 74, 75, 76, 77, 78, 79, 80, 81, 82, 83, 84, 85, 86, 87, 88, 89, 90, 91, 92, 93, 94, 95, 96, 97, 98, 99, 100, 101, 102, 103, 104, 105, 106, 107, 108, 109, 110, 111, 112, 113, 114, 115, 116, 117, 118, 119, 120, 121, 122, 123, 124, 125, 126, 127, 128, 129, 130, 131, 132, 133, 134, 135, 136, 137, 138, 139, 140, 141, 142, 143, 144, 145, 146, 147, 148, 149, 150, 151, 152, 153, 154, 155, 156, 157, 158, 159, 160, 161, 162, 163, 164, 165, 166, 167, 168, 169, 170, 171, 172, 173, 174, 175, 176, 177, 178, 179, 180, 181, 182, 183, 184, 185, 186, 187, 188, 189, 190, 191, 192, 193, 194, 195, 196, 197, 198, 199, 200, 201, 202, 203, 204, 205, 206, 207, 208, 209, 210, 211, 212, 213, 214, 215, 216, 217, 218, 219, 220, 221, 222, 223, 224, 225, 226, 227, 228, 229, 230, 231, 232, 233, 234, 235, 236, 237, 238, 239, 240, 241, 242, 243, 244, 245, 246, 247, 248, 249, 250, 251, 252, 295, 296, 297, 298, 299, 300, 301, 302, 303, 304, 305, 306, 307, 308, 309, 310, 311, 312, 313, 314, 315, 316, 317, 318, 319, 320, 321, 322, 323, 324, 325, 326, 327, 328, 329, 330, 331, 332, 333, 334, 335, 336, 337, 338, 339, 340, 341, 342, 343, 344, 345] (by decide +kernel) (by decide +kernel)
set_option maxRecDepth 20000 in
theorem gX10_same_X8_runOut : GoodIn wsX10_same (wsV RX10 236 RX8 yX8_runOut wsX8_runOut) := goodIn_app (goodIn_of _ (by decide +kernel)) ggX10_same_X8_runOut
set_option maxRecDepth 20000 in
theorem ggX10_same_X8_matchOrders : GoodIn wsX10_same wsX8_matchOrders := goodIn_r _ [256, 9, 257, 258, 259, 11, 260, 261, 48, 49, 50, 262, 263, 264, 7, 265, 10, 12, 266, 267, 268, 269, 270, 271, 272, 27, 28, 29, 30, 31, 32, 33, 34, 35, 36, 37, 38, 39, 40, 41, 42, 43, 44, 45, 46, 47, 51, 52, 53, 54, 55, 56, 57, 58, 59, 60, 61, 62, 63, 64, 65, 66, 67, 68, 69, 70, 251, 94, 95, 96, 97, 98, 99, 100, 101, 102, 103, 104, 105, 106, 107, 108, 109, 110, 111, 112, 113, 114, 115, 116, 117, 118, 119, 120, 121, 122, 123, 124, 125, 126, 127, 128, 129, 130, 131, 132, 133, 134, 135, 136, 137, 138, 139, 140, 141, 142, 143, 144, 145, 146, 147, 148, 149, 150, 151, 152, 153, 154, 155, 156, 157, 158, 159, 160, 161, 162, 163, 164, 165, 166, 167, 168, 169, 170, 171, 172, 173, 174, 175, 176, 177, 178, 179, 180, 181, 182, 183, 184, 185, 186, 187, 188, 189, 190, 191, 192, 193, 194, 195, 196, 197, 198, 199, 200, 201, 202, 203, 204, 205, 206, 207, 208, 209, 210, 211, 212, 213, 214, 215, 216, 217, 218, 219, 220, 221, 222, 223, 224, 225, 226, 227, 228, 229, 230, 231, 232, 233, 234, 235, 236, 237, 238, 239, 240, 241, 242, 243, 244, 245, 246, 273, 274, 275, 276, 15, 277, 14, 278, 279, 280, 281, 282, 283, 284, 285, 286, 287, 295, 296, 297, 298, 299, 300, 314, 315, 316, 317, 318, 319, 320, 321, 322, 323, 301, 302, 303, 304, 305, 306, 307, 308, 309, 310, 311, 312, 313, 324, 325, 326, 327, 328, 329, 330, 331, 332, 333, 334, 335, 336, 337, 338, 339, 340, 341, 342, 343, 344, 345] (by decide +kernel) (by decide +kernel)
set_option maxRecDepth 20000 in
theorem gX10_same_X8_matchOrders : GoodIn wsX10_same (wsV RX10 239 RX8 yX8_matchOrders wsX8_matchOrders) := goodIn_app (goodIn_of _ (by decide +kernel)) ggX10_same_X8_matchOrders
theorem dX10_same_0 : decode cX10_same 0 = .ok (.aload_n 0, 1) := by decide +kernel
theorem dX10_same_1 : decode cX10_same 1 = .ok (.getfield 19, 3) := by decide +kernel
theorem dX10_same_4 : decode cX10_same 4 = .ok (.aload_n 0, 1) := by decide +kernel
theorem dX10_same_5 : decode cX10_same 5 = .ok (.getfield 37, 3) := by decide +kernel
theorem dX10_same_8 : decode cX10_same 8 = .ok (.invokevirtual 236, 3) := by decide +kernel
theorem dX10_same_11 : decode cX10_same 11 = .ok (.aload_n 0, 1) := by decide +kernel
theorem dX10_same_12 : decode cX10_same 12 = .ok (.getfield 19, 3) := by decide +kernel
theorem dX10_same_15 : decode cX10_same 15 = .ok (.aload_n 0, 1) := by decide +kernel
theorem dX10_same_16 : decode cX10_same 16 = .ok (.getfield 37, 3) := by decide +kernel
theorem dX10_same_19 : decode cX10_same 19 = .ok (.invokevirtual 239, 3) := by decide +kernel
theorem dX10_same_22 : decode cX10_same 22 = .ok (.aload_n 0, 1) := by decide +kernel
theorem dX10_same_23 : decode cX10_same 23 = .ok (.getfield 19, 3) := by decide +kernel
theorem dX10_same_26 : decode cX10_same 26 = .ok (.getfield 242, 3) := by decide +kernel
theorem dX10_same_29 : decode cX10_same 29 = .ok (.ireturn, 1) := by decide +kernel
set_option maxRecDepth 20000 in
theorem ggX10_chance_X8_deadlyPlays : GoodIn wsX10_chance wsX8_deadlyPlays := goodIn_r _ [7, 8, 9, 10, 11, 12, 13, 6, 14, 15, 16, 17, 18, 19, 20, 21, 22, 23, 24, 25, 26, 27, 28, 29, 30, 31, 32, 33, 34, 35, 36, 37, 38, 39, 40, 41, 42, 43, 44, 45, 46, 47, 48, 49, 50, 51, 52, 53, 54, 55, 56, 57, 58, 59, 60, 61, 62, 63, 64, 65, 66, 67, 68, 69, 70, 71, 72, 73, 74, 75, 76, 77, 78, 79, 80, 81, 82, 83, 84, 85, 86, 87, 88, 89, 90, 91, 92, 93, 94, 95, 96, 97, 98, 99, 100, 101, 102, 103, 104, 105, 106, 107, 108, 109, 110, 111, 112, 113, 114, 115, 116, 117, 118, 119, 120, 121, 122, 123, 124, 125, 126, 127, 128, 129, 130, 131, 132, 133, 134, 135, 136, 137, 138, 139, 140, 141, 142, 143, 144, 145, 146, 147, 148, 149, 150, 151, 152, 153, 154, 155, 156, 157, 158, 159, 160, 161, 162, 163, 164, 165, 166, 167, 168, 169, 170, 171, 172, 173, 174, 175, 176, 177, 178, 179, 180, 181, 182, 183, 184, 185, 186, 187, 188, 189, 190, 191, 192, 193, 194, 195, 196, 197, 198, 199, 200, 201, 202, 203, 204, 205, 206, 207, 208, 209, 210, 211, 212, 213, 214, 215, 216, 217, 218, 219, 220, 221, 222, 223, 224, 225, 226, 227, 228, 229, 230, 231, 232, 233, 234, 235, 236, 237, 238, 239, 240, 241, 242, 243, 244, 245, 246, 247, 248, 249, 250, 251, 252, 253, 254, 255, 256, 257, 258, 259, 260, 261, 269, 270, 271, 272, 273, 274, 275, 276, 277, 278, 279, 280, 281, 282, 283, 284, 285, 286, 287, 288, 289, 290, 291, 292, 293, 294, 295, 296, 297, 298, 299, 300, 301, 302, 303, 304, 305, 306, 307, 308, 309, 310, 311, 312, 313, 314, 315, 316, 317, 318, 319] (by decide +kernel) (by decide +kernel)
set_option maxRecDepth 20000 in
theorem gX10_chance_X8_deadlyPlays : GoodIn wsX10_chance (wsV RX10 245 RX8 yX8_deadlyPlays wsX8_deadlyPlays) := goodIn_app (goodIn_of _ (by decide +kernel)) ggX10_chance_X8_deadlyPlays
theorem dX10_chance_0 : decode cX10_chance 0 = .ok (.iload_n 1, 1) := by decide +kernel
theorem dX10_chance_1 : decode cX10_chance 1 = .ok (.ifCond .ge 7, 3) := by decide +kernel
theorem dX10_chance_4 : decode cX10_chance 4 = .ok (.iconst (-1), 1) := by decide +kernel
theorem dX10_chance_5 : decode cX10_chance 5 = .ok (.goto 15, 3) := by decide +kernel
theorem dX10_chance_8 : decode cX10_chance 8 = .ok (.aload_n 0, 1) := by decide +kernel
theorem dX10_chance_9 : decode cX10_chance 9 = .ok (.getfield 19, 3) := by decide +kernel
theorem dX10_chance_12 : decode cX10_chance 12 = .ok (.aload_n 0, 1) := by decide +kernel
theorem dX10_chance_13 : decode cX10_chance 13 = .ok (.getfield 37, 3) := by decide +kernel
theorem dX10_chance_16 : decode cX10_chance 16 = .ok (.iload_n 1, 1) := by decide +kernel
theorem dX10_chance_17 : decode cX10_chance 17 = .ok (.invokevirtual 245, 3) := by decide +kernel
theorem dX10_chance_20 : decode cX10_chance 20 = .ok (.ireturn, 1) := by decide +kernel
set_option maxRecDepth 20000 in
theorem ggX10_tried_X8_hindered : GoodIn wsX10_tried wsX8_hindered := goodIn_r _ [8, 9, 10, 11, 12, 13, 14, 15, 16, 17, 18, 19, 20, 21, 22, 23, 24, 25, 26, 27, 28, 29, 30, 31, 32, 33, 34, 35, 36, 37, 38, 39, 40, 41, 42, 43, 44, 45, 46, 47, 48, 49, 50, 51, 52, 53, 54, 55, 56, 57, 58, 59, 60, 61, 62, 63, 64, 65, 66, 67, 68, 69, 70, 71, 72, 73, 74, 75, 76, 77, 78, 79, 80, 81, 82, 83, 84, 85, 86, 87, 88, 89, 90, 91, 92, 93, 94, 95, 96, 97, 98, 99, 100, 101, 102, 103, 104, 105, 106, 107, 108, 109, 110, 111, 112, 113, 114, 115, 116, 117, 118, 119, 120, 121, 122, 123, 124, 125, 126, 127, 128, 129, 130, 131, 132, 133, 134, 135, 136, 137, 138, 139, 140, 141, 142, 143, 144, 145, 146, 147, 148, 149, 150, 151, 152, 153, 154, 155, 156, 157, 158, 159, 160, 161, 162, 163, 164, 165, 166, 167, 168, 169, 170, 171, 172, 173, 174, 175, 176, 177, 178, 179, 180, 181, 182, 183, 184, 185, 186, 187, 188, 189, 190, 191, 192, 193, 194, 195, 196, 197, 198, 199, 200, 201, 202, 203, 204, 205, 206, 207, 208, 209, 210, 211, 212, 213, 214, 215, 216, 217, 218, 219, 220, 221, 222, 223, 224, 225, 226, 227, 228, 229, 230, 231, 232, 233, 234, 235, 236, 237, 238, 239, 240, 241, 242, 243, 244, 245, 246, 247, 248, 249, 250, 251, 269, 270, 271, 272, 273, 274, 275, 276, 277, 278, 279, 280, 281, 282, 283, 284, 285, 286, 287, 259, 260, 261, 262, 263, 264, 265, 266, 267, 268, 288, 289, 290, 291, 292, 293, 294, 295, 296, 297, 298, 299, 300, 301, 302, 303, 304, 305, 306, 307, 308, 309] (by decide +kernel) (by decide +kernel)
set_option maxRecDepth 20000 in
theorem gX10_tried_X8_hindered : GoodIn wsX10_tried (wsV RX10 251 RX8 yX8_hindered wsX8_hindered) := goodIn_app (goodIn_of _ (by decide +kernel)) ggX10_tried_X8_hindered
theorem dX10_tried_0 : decode cX10_tried 0 = .ok (.iload_n 1, 1) := by decide +kernel
theorem dX10_tried_1 : decode cX10_tried 1 = .ok (.iconst 2, 1) := by decide +kernel
theorem dX10_tried_2 : decode cX10_tried 2 = .ok (.if_icmp .ne 26, 3) := by decide +kernel
theorem dX10_tried_5 : decode cX10_tried 5 = .ok (.iload_n 2, 1) := by decide +kernel
theorem dX10_tried_6 : decode cX10_tried 6 = .ok (.ifCond .lt 18, 3) := by decide +kernel
theorem dX10_tried_9 : decode cX10_tried 9 = .ok (.iload_n 2, 1) := by decide +kernel
theorem dX10_tried_10 : decode cX10_tried 10 = .ok (.aload_n 0, 1) := by decide +kernel
theorem dX10_tried_11 : decode cX10_tried 11 = .ok (.getfield 37, 3) := by decide +kernel
theorem dX10_tried_14 : decode cX10_tried 14 = .ok (.getfield 248, 3) := by decide +kernel
theorem dX10_tried_17 : decode cX10_tried 17 = .ok (.if_icmp .ge 7, 3) := by decide +kernel
theorem dX10_tried_20 : decode cX10_tried 20 = .ok (.iconst 1, 1) := by decide +kernel
theorem dX10_tried_21 : decode cX10_tried 21 = .ok (.goto 25, 3) := by decide +kernel
theorem dX10_tried_24 : decode cX10_tried 24 = .ok (.iconst 0, 1) := by decide +kernel
theorem dX10_tried_25 : decode cX10_tried 25 = .ok (.goto 21, 3) := by decide +kernel
theorem dX10_tried_28 : decode cX10_tried 28 = .ok (.iload_n 1, 1) := by decide +kernel
theorem dX10_tried_29 : decode cX10_tried 29 = .ok (.ifCond .lt 16, 3) := by decide +kernel
theorem dX10_tried_32 : decode cX10_tried 32 = .ok (.iload_n 1, 1) := by decide +kernel
theorem dX10_tried_33 : decode cX10_tried 33 = .ok (.iconst 4, 1) := by decide +kernel
theorem dX10_tried_34 : decode cX10_tried 34 = .ok (.if_icmp .gt 11, 3) := by decide +kernel
theorem dX10_tried_37 : decode cX10_tried 37 = .ok (.iload_n 2, 1) := by decide +kernel
theorem dX10_tried_38 : decode cX10_tried 38 = .ok (.ifCond .ne 7, 3) := by decide +kernel
theorem dX10_tried_41 : decode cX10_tried 41 = .ok (.iconst 1, 1) := by decide +kernel
theorem dX10_tried_42 : decode cX10_tried 42 = .ok (.goto 4, 3) := by decide +kernel
theorem dX10_tried_45 : decode cX10_tried 45 = .ok (.iconst 0, 1) := by decide +kernel
theorem dX10_tried_46 : decode cX10_tried 46 = .ok (.istore_n 3, 1) := by decide +kernel
theorem dX10_tried_47 : decode cX10_tried 47 = .ok (.iload_n 3, 1) := by decide +kernel
theorem dX10_tried_48 : decode cX10_tried 48 = .ok (.ifCond .eq 19, 3) := by decide +kernel
theorem dX10_tried_51 : decode cX10_tried 51 = .ok (.aload_n 0, 1) := by decide +kernel
theorem dX10_tried_52 : decode cX10_tried 52 = .ok (.getfield 19, 3) := by decide +kernel
theorem dX10_tried_55 : decode cX10_tried 55 = .ok (.aload_n 0, 1) := by decide +kernel
theorem dX10_tried_56 : decode cX10_tried 56 = .ok (.getfield 37, 3) := by decide +kernel
theorem dX10_tried_59 : decode cX10_tried 59 = .ok (.iload_n 1, 1) := by decide +kernel
theorem dX10_tried_60 : decode cX10_tried 60 = .ok (.iload_n 2, 1) := by decide +kernel
theorem dX10_tried_61 : decode cX10_tried 61 = .ok (.invokevirtual 251, 3) := by decide +kernel
theorem dX10_tried_64 : decode cX10_tried 64 = .ok (.goto 4, 3) := by decide +kernel
theorem dX10_tried_67 : decode cX10_tried 67 = .ok (.iconst (-1), 1) := by decide +kernel
theorem dX10_tried_68 : decode cX10_tried 68 = .ok (.ireturn, 1) := by decide +kernel
set_option maxRecDepth 20000 in
theorem ggX10_held_X1_has : GoodIn wsX10_held wsX1_has := goodIn_r _ [10, 11, 48, 49, 50, 51, 52, 53, 54, 55, 56, 57, 58, 59] (by decide +kernel) (by decide +kernel)
set_option maxRecDepth 20000 in
theorem gX10_held_X1_has : GoodIn wsX10_held (wsV RX10 158 RX1 yX1_has wsX1_has) := goodIn_app (goodIn_of _ (by decide +kernel)) ggX10_held_X1_has
set_option maxRecDepth 20000 in
theorem ggX10_held_X7_lockByNumber : GoodIn wsX10_held wsX7_lockByNumber := goodIn_r _ [16, 17, 18, 19, 20, 21, 15, 22, 23, 24, 60, 61, 62, 63, 64, 65, 66, 67] (by decide +kernel) (by decide +kernel)
set_option maxRecDepth 20000 in
theorem gX10_held_X7_lockByNumber : GoodIn wsX10_held (wsV RX10 255 RX7 yX7_lockByNumber wsX7_lockByNumber) := goodIn_app (goodIn_of _ (by decide +kernel)) ggX10_held_X7_lockByNumber
theorem dX10_held_0 : decode cX10_held 0 = .ok (.aload_n 0, 1) := by decide +kernel
theorem dX10_held_1 : decode cX10_held 1 = .ok (.getfield 26, 3) := by decide +kernel
theorem dX10_held_4 : decode cX10_held 4 = .ok (.getfield 60, 3) := by decide +kernel
theorem dX10_held_7 : decode cX10_held 7 = .ok (.getfield 90, 3) := by decide +kernel
theorem dX10_held_10 : decode cX10_held 10 = .ok (.astore_n 3, 1) := by decide +kernel
theorem dX10_held_11 : decode cX10_held 11 = .ok (.aload_n 3, 1) := by decide +kernel
theorem dX10_held_12 : decode cX10_held 12 = .ok (.getfield 154, 3) := by decide +kernel
theorem dX10_held_15 : decode cX10_held 15 = .ok (.iload_n 1, 1) := by decide +kernel
theorem dX10_held_16 : decode cX10_held 16 = .ok (.invokevirtual 158, 3) := by decide +kernel
theorem dX10_held_19 : decode cX10_held 19 = .ok (.ifCond .eq 7, 3) := by decide +kernel
theorem dX10_held_22 : decode cX10_held 22 = .ok (.iload_n 2, 1) := by decide +kernel
theorem dX10_held_23 : decode cX10_held 23 = .ok (.ifCond .ge 5, 3) := by decide +kernel
theorem dX10_held_26 : decode cX10_held 26 = .ok (.iconst (-1), 1) := by decide +kernel
theorem dX10_held_27 : decode cX10_held 27 = .ok (.ireturn, 1) := by decide +kernel
theorem dX10_held_28 : decode cX10_held 28 = .ok (.aload_n 3, 1) := by decide +kernel
theorem dX10_held_29 : decode cX10_held 29 = .ok (.getfield 94, 3) := by decide +kernel
theorem dX10_held_32 : decode cX10_held 32 = .ok (.iload_n 1, 1) := by decide +kernel
theorem dX10_held_33 : decode cX10_held 33 = .ok (.iload_n 2, 1) := by decide +kernel
theorem dX10_held_34 : decode cX10_held 34 = .ok (.invokevirtual 255, 3) := by decide +kernel
theorem dX10_held_37 : decode cX10_held 37 = .ok (.ireturn, 1) := by decide +kernel
set_option maxRecDepth 20000 in
theorem ggX10_range_X4_packedKey : GoodIn wsX10_range wsX4_packedKey := goodIn_r _ [12, 13, 14, 15, 11, 16, 17, 18, 19, 20, 21, 22, 23] (by decide +kernel) (by decide +kernel)
set_option maxRecDepth 20000 in
theorem gX10_range_X4_packedKey : GoodIn wsX10_range (va_wsS RX10 212 yX4_packedKey wsX4_packedKey) := goodIn_app (goodIn_of _ (by decide +kernel)) ggX10_range_X4_packedKey
set_option maxRecDepth 20000 in
theorem ggX10_range_X7_placeFrom : GoodIn wsX10_range wsX7_placeFrom := goodIn_r _ [28, 29, 30, 54, 55, 56, 57, 58, 59, 60, 61] (by decide +kernel) (by decide +kernel)
set_option maxRecDepth 20000 in
theorem gX10_range_X7_placeFrom : GoodIn wsX10_range (wsV RX10 136 RX7 yX7_placeFrom wsX7_placeFrom) := goodIn_app (goodIn_of _ (by decide +kernel)) ggX10_range_X7_placeFrom
theorem dX10_range_0 : decode cX10_range 0 = .ok (.iload_n 1, 1) := by decide +kernel
theorem dX10_range_1 : decode cX10_range 1 = .ok (.invokestatic 212, 3) := by decide +kernel
theorem dX10_range_4 : decode cX10_range 4 = .ok (.istore 4, 2) := by decide +kernel
theorem dX10_range_6 : decode cX10_range 6 = .ok (.iload_n 2, 1) := by decide +kernel
theorem dX10_range_7 : decode cX10_range 7 = .ok (.invokestatic 212, 3) := by decide +kernel
theorem dX10_range_10 : decode cX10_range 10 = .ok (.istore 5, 2) := by decide +kernel
theorem dX10_range_12 : decode cX10_range 12 = .ok (.iload 4, 2) := by decide +kernel
theorem dX10_range_14 : decode cX10_range 14 = .ok (.iconst (-1), 1) := by decide +kernel
theorem dX10_range_15 : decode cX10_range 15 = .ok (.if_icmp .eq 25, 3) := by decide +kernel
theorem dX10_range_18 : decode cX10_range 18 = .ok (.iload 5, 2) := by decide +kernel
theorem dX10_range_20 : decode cX10_range 20 = .ok (.iconst (-1), 1) := by decide +kernel
theorem dX10_range_21 : decode cX10_range 21 = .ok (.if_icmp .eq 19, 3) := by decide +kernel
theorem dX10_range_24 : decode cX10_range 24 = .ok (.iload 4, 2) := by decide +kernel
theorem dX10_range_26 : decode cX10_range 26 = .ok (.iload 5, 2) := by decide +kernel
theorem dX10_range_28 : decode cX10_range 28 = .ok (.if_icmp .gt 12, 3) := by decide +kernel
theorem dX10_range_31 : decode cX10_range 31 = .ok (.iload_n 3, 1) := by decide +kernel
theorem dX10_range_32 : decode cX10_range 32 = .ok (.ifCond .lt 8, 3) := by decide +kernel
theorem dX10_range_35 : decode cX10_range 35 = .ok (.iload_n 3, 1) := by decide +kernel
theorem dX10_range_36 : decode cX10_range 36 = .ok (.iconst 2, 1) := by decide +kernel
theorem dX10_range_37 : decode cX10_range 37 = .ok (.if_icmp .le 5, 3) := by decide +kernel
theorem dX10_range_40 : decode cX10_range 40 = .ok (.iconst (-1), 1) := by decide +kernel
theorem dX10_range_41 : decode cX10_range 41 = .ok (.ireturn, 1) := by decide +kernel
theorem dX10_range_42 : decode cX10_range 42 = .ok (.aload_n 0, 1) := by decide +kernel
theorem dX10_range_43 : decode cX10_range 43 = .ok (.getfield 26, 3) := by decide +kernel
theorem dX10_range_46 : decode cX10_range 46 = .ok (.getfield 60, 3) := by decide +kernel
theorem dX10_range_49 : decode cX10_range 49 = .ok (.getfield 90, 3) := by decide +kernel
theorem dX10_range_52 : decode cX10_range 52 = .ok (.getfield 94, 3) := by decide +kernel
theorem dX10_range_55 : decode cX10_range 55 = .ok (.astore 6, 2) := by decide +kernel
theorem dX10_range_57 : decode cX10_range 57 = .ok (.iconst 0, 1) := by decide +kernel
theorem dX10_range_58 : decode cX10_range 58 = .ok (.istore 7, 2) := by decide +kernel
theorem dX10_range_60 : decode cX10_range 60 = .ok (.aload 6, 2) := by decide +kernel
theorem dX10_range_62 : decode cX10_range 62 = .ok (.iload 4, 2) := by decide +kernel
theorem dX10_range_64 : decode cX10_range 64 = .ok (.invokevirtual 136, 3) := by decide +kernel
theorem dX10_range_67 : decode cX10_range 67 = .ok (.istore 8, 2) := by decide +kernel
theorem dX10_range_69 : decode cX10_range 69 = .ok (.iload 8, 2) := by decide +kernel
theorem dX10_range_71 : decode cX10_range 71 = .ok (.aload 6, 2) := by decide +kernel
theorem dX10_range_73 : decode cX10_range 73 = .ok (.getfield 100, 3) := by decide +kernel
theorem dX10_range_76 : decode cX10_range 76 = .ok (.if_icmp .ge 63, 3) := by decide +kernel
theorem dX10_range_79 : decode cX10_range 79 = .ok (.aload 6, 2) := by decide +kernel
theorem dX10_range_81 : decode cX10_range 81 = .ok (.getfield 112, 3) := by decide +kernel
theorem dX10_range_84 : decode cX10_range 84 = .ok (.iload 8, 2) := by decide +kernel
theorem dX10_range_86 : decode cX10_range 86 = .ok (.iaload, 1) := by decide +kernel
theorem dX10_range_87 : decode cX10_range 87 = .ok (.iload 5, 2) := by decide +kernel
theorem dX10_range_89 : decode cX10_range 89 = .ok (.if_icmp .gt 50, 3) := by decide +kernel
theorem dX10_range_92 : decode cX10_range 92 = .ok (.iload_n 3, 1) := by decide +kernel
theorem dX10_range_93 : decode cX10_range 93 = .ok (.iconst 1, 1) := by decide +kernel
theorem dX10_range_94 : decode cX10_range 94 = .ok (.if_icmp .ne 19, 3) := by decide +kernel
theorem dX10_range_97 : decode cX10_range 97 = .ok (.iload 7, 2) := by decide +kernel
theorem dX10_range_99 : decode cX10_range 99 = .ok (.aload 6, 2) := by decide +kernel
theorem dX10_range_101 : decode cX10_range 101 = .ok (.getfield 116, 3) := by decide +kernel
theorem dX10_range_104 : decode cX10_range 104 = .ok (.iload 8, 2) := by decide +kernel
theorem dX10_range_106 : decode cX10_range 106 = .ok (.iaload, 1) := by decide +kernel
theorem dX10_range_107 : decode cX10_range 107 = .ok (.iadd, 1) := by decide +kernel
theorem dX10_range_108 : decode cX10_range 108 = .ok (.istore 7, 2) := by decide +kernel
theorem dX10_range_110 : decode cX10_range 110 = .ok (.goto 23, 3) := by decide +kernel
theorem dX10_range_113 : decode cX10_range 113 = .ok (.iload_n 3, 1) := by decide +kernel
theorem dX10_range_114 : decode cX10_range 114 = .ok (.ifCond .eq 16, 3) := by decide +kernel
theorem dX10_range_117 : decode cX10_range 117 = .ok (.aload 6, 2) := by decide +kernel
theorem dX10_range_119 : decode cX10_range 119 = .ok (.getfield 119, 3) := by decide +kernel
theorem dX10_range_122 : decode cX10_range 122 = .ok (.iload 8, 2) := by decide +kernel
theorem dX10_range_124 : decode cX10_range 124 = .ok (.iaload, 1) := by decide +kernel
theorem dX10_range_125 : decode cX10_range 125 = .ok (.bipush (-2), 2) := by decide +kernel
theorem dX10_range_127 : decode cX10_range 127 = .ok (.if_icmp .eq 6, 3) := by decide +kernel
theorem dX10_range_130 : decode cX10_range 130 = .ok (.iinc 7 1, 3) := by decide +kernel
theorem dX10_range_133 : decode cX10_range 133 = .ok (.iinc 8 1, 3) := by decide +kernel
theorem dX10_range_136 : decode cX10_range 136 = .ok (.goto (-67), 3) := by decide +kernel
theorem dX10_range_139 : decode cX10_range 139 = .ok (.iload 7, 2) := by decide +kernel
theorem dX10_range_141 : decode cX10_range 141 = .ok (.ireturn, 1) := by decide +kernel
set_option maxRecDepth 20000 in
theorem ggX10_phantoms_X4_packedKey : GoodIn wsX10_phantoms wsX4_packedKey := goodIn_r _ [11, 12, 13, 14, 10, 15, 16, 17, 18, 19, 20, 21, 22] (by decide +kernel) (by decide +kernel)
set_option maxRecDepth 20000 in
theorem gX10_phantoms_X4_packedKey : GoodIn wsX10_phantoms (va_wsS RX10 212 yX4_packedKey wsX4_packedKey) := goodIn_app (goodIn_of _ (by decide +kernel)) ggX10_phantoms_X4_packedKey
set_option maxRecDepth 20000 in
theorem ggX10_phantoms_X1_has : GoodIn wsX10_phantoms wsX1_has := goodIn_r _ [27, 28, 64, 65, 66, 67, 68, 69, 70, 71, 72, 73, 74, 75] (by decide +kernel) (by decide +kernel)
set_option maxRecDepth 20000 in
theorem gX10_phantoms_X1_has : GoodIn wsX10_phantoms (wsV RX10 158 RX1 yX1_has wsX1_has) := goodIn_app (goodIn_of _ (by decide +kernel)) ggX10_phantoms_X1_has
set_option maxRecDepth 20000 in
theorem ggX10_phantoms_X7_placeFrom : GoodIn wsX10_phantoms wsX7_placeFrom := goodIn_r _ [33, 34, 35, 76, 77, 78, 79, 80, 81, 82, 83] (by decide +kernel) (by decide +kernel)
set_option maxRecDepth 20000 in
theorem gX10_phantoms_X7_placeFrom : GoodIn wsX10_phantoms (wsV RX10 136 RX7 yX7_placeFrom wsX7_placeFrom) := goodIn_app (goodIn_of _ (by decide +kernel)) ggX10_phantoms_X7_placeFrom
set_option maxRecDepth 20000 in
theorem ggX10_phantoms_X7_leavesGap : GoodIn wsX10_phantoms wsX7_leavesGap := goodIn_r _ [39, 34, 40, 35, 76, 77, 78, 79, 80, 81, 82, 83] (by decide +kernel) (by decide +kernel)
set_option maxRecDepth 20000 in
theorem gX10_phantoms_X7_leavesGap : GoodIn wsX10_phantoms (wsV RX10 259 RX7 yX7_leavesGap wsX7_leavesGap) := goodIn_app (goodIn_of _ (by decide +kernel)) ggX10_phantoms_X7_leavesGap
theorem dX10_phantoms_0 : decode cX10_phantoms 0 = .ok (.aload_n 0, 1) := by decide +kernel
theorem dX10_phantoms_1 : decode cX10_phantoms 1 = .ok (.getfield 26, 3) := by decide +kernel
theorem dX10_phantoms_4 : decode cX10_phantoms 4 = .ok (.getfield 60, 3) := by decide +kernel
theorem dX10_phantoms_7 : decode cX10_phantoms 7 = .ok (.getfield 90, 3) := by decide +kernel
theorem dX10_phantoms_10 : decode cX10_phantoms 10 = .ok (.astore 4, 2) := by decide +kernel
theorem dX10_phantoms_12 : decode cX10_phantoms 12 = .ok (.iload_n 2, 1) := by decide +kernel
theorem dX10_phantoms_13 : decode cX10_phantoms 13 = .ok (.invokestatic 212, 3) := by decide +kernel
theorem dX10_phantoms_16 : decode cX10_phantoms 16 = .ok (.istore 5, 2) := by decide +kernel
theorem dX10_phantoms_18 : decode cX10_phantoms 18 = .ok (.iload_n 3, 1) := by decide +kernel
theorem dX10_phantoms_19 : decode cX10_phantoms 19 = .ok (.invokestatic 212, 3) := by decide +kernel
theorem dX10_phantoms_22 : decode cX10_phantoms 22 = .ok (.istore 6, 2) := by decide +kernel
theorem dX10_phantoms_24 : decode cX10_phantoms 24 = .ok (.aload 4, 2) := by decide +kernel
theorem dX10_phantoms_26 : decode cX10_phantoms 26 = .ok (.getfield 154, 3) := by decide +kernel
theorem dX10_phantoms_29 : decode cX10_phantoms 29 = .ok (.iload_n 1, 1) := by decide +kernel
theorem dX10_phantoms_30 : decode cX10_phantoms 30 = .ok (.invokevirtual 158, 3) := by decide +kernel
theorem dX10_phantoms_33 : decode cX10_phantoms 33 = .ok (.ifCond .eq 22, 3) := by decide +kernel
theorem dX10_phantoms_36 : decode cX10_phantoms 36 = .ok (.iload 5, 2) := by decide +kernel
theorem dX10_phantoms_38 : decode cX10_phantoms 38 = .ok (.iconst (-1), 1) := by decide +kernel
theorem dX10_phantoms_39 : decode cX10_phantoms 39 = .ok (.if_icmp .eq 16, 3) := by decide +kernel
theorem dX10_phantoms_42 : decode cX10_phantoms 42 = .ok (.iload 6, 2) := by decide +kernel
theorem dX10_phantoms_44 : decode cX10_phantoms 44 = .ok (.iconst (-1), 1) := by decide +kernel
theorem dX10_phantoms_45 : decode cX10_phantoms 45 = .ok (.if_icmp .eq 10, 3) := by decide +kernel
theorem dX10_phantoms_48 : decode cX10_phantoms 48 = .ok (.iload 5, 2) := by decide +kernel
theorem dX10_phantoms_50 : decode cX10_phantoms 50 = .ok (.iload 6, 2) := by decide +kernel
theorem dX10_phantoms_52 : decode cX10_phantoms 52 = .ok (.if_icmp .le 5, 3) := by decide +kernel
theorem dX10_phantoms_55 : decode cX10_phantoms 55 = .ok (.iconst (-1), 1) := by decide +kernel
theorem dX10_phantoms_56 : decode cX10_phantoms 56 = .ok (.ireturn, 1) := by decide +kernel
theorem dX10_phantoms_57 : decode cX10_phantoms 57 = .ok (.aload 4, 2) := by decide +kernel
theorem dX10_phantoms_59 : decode cX10_phantoms 59 = .ok (.getfield 94, 3) := by decide +kernel
theorem dX10_phantoms_62 : decode cX10_phantoms 62 = .ok (.iload 5, 2) := by decide +kernel
theorem dX10_phantoms_64 : decode cX10_phantoms 64 = .ok (.invokevirtual 136, 3) := by decide +kernel
theorem dX10_phantoms_67 : decode cX10_phantoms 67 = .ok (.istore 7, 2) := by decide +kernel
theorem dX10_phantoms_69 : decode cX10_phantoms 69 = .ok (.iconst 0, 1) := by decide +kernel
theorem dX10_phantoms_70 : decode cX10_phantoms 70 = .ok (.istore 8, 2) := by decide +kernel
theorem dX10_phantoms_72 : decode cX10_phantoms 72 = .ok (.iconst 0, 1) := by decide +kernel
theorem dX10_phantoms_73 : decode cX10_phantoms 73 = .ok (.istore 9, 2) := by decide +kernel
theorem dX10_phantoms_75 : decode cX10_phantoms 75 = .ok (.iload 9, 2) := by decide +kernel
theorem dX10_phantoms_77 : decode cX10_phantoms 77 = .ok (.aload 4, 2) := by decide +kernel
theorem dX10_phantoms_79 : decode cX10_phantoms 79 = .ok (.getfield 154, 3) := by decide +kernel
theorem dX10_phantoms_82 : decode cX10_phantoms 82 = .ok (.getfield 258, 3) := by decide +kernel
theorem dX10_phantoms_85 : decode cX10_phantoms 85 = .ok (.if_icmp .ge 68, 3) := by decide +kernel
theorem dX10_phantoms_88 : decode cX10_phantoms 88 = .ok (.iload 9, 2) := by decide +kernel
theorem dX10_phantoms_90 : decode cX10_phantoms 90 = .ok (.iload_n 1, 1) := by decide +kernel
theorem dX10_phantoms_91 : decode cX10_phantoms 91 = .ok (.if_icmp .eq 22, 3) := by decide +kernel
theorem dX10_phantoms_94 : decode cX10_phantoms 94 = .ok (.aload 4, 2) := by decide +kernel
theorem dX10_phantoms_96 : decode cX10_phantoms 96 = .ok (.getfield 154, 3) := by decide +kernel
theorem dX10_phantoms_99 : decode cX10_phantoms 99 = .ok (.getfield 170, 3) := by decide +kernel
theorem dX10_phantoms_102 : decode cX10_phantoms 102 = .ok (.iload 9, 2) := by decide +kernel
theorem dX10_phantoms_104 : decode cX10_phantoms 104 = .ok (.iaload, 1) := by decide +kernel
theorem dX10_phantoms_105 : decode cX10_phantoms 105 = .ok (.iconst 1, 1) := by decide +kernel
theorem dX10_phantoms_106 : decode cX10_phantoms 106 = .ok (.if_icmp .ne 7, 3) := by decide +kernel
theorem dX10_phantoms_109 : decode cX10_phantoms 109 = .ok (.iconst 1, 1) := by decide +kernel
theorem dX10_phantoms_110 : decode cX10_phantoms 110 = .ok (.goto 4, 3) := by decide +kernel
theorem dX10_phantoms_113 : decode cX10_phantoms 113 = .ok (.iconst 0, 1) := by decide +kernel
theorem dX10_phantoms_114 : decode cX10_phantoms 114 = .ok (.istore 10, 2) := by decide +kernel
theorem dX10_phantoms_116 : decode cX10_phantoms 116 = .ok (.iload 10, 2) := by decide +kernel
theorem dX10_phantoms_118 : decode cX10_phantoms 118 = .ok (.ifCond .eq 29, 3) := by decide +kernel
theorem dX10_phantoms_121 : decode cX10_phantoms 121 = .ok (.aload 4, 2) := by decide +kernel
theorem dX10_phantoms_123 : decode cX10_phantoms 123 = .ok (.getfield 94, 3) := by decide +kernel
theorem dX10_phantoms_126 : decode cX10_phantoms 126 = .ok (.iload 9, 2) := by decide +kernel
theorem dX10_phantoms_128 : decode cX10_phantoms 128 = .ok (.iload 7, 2) := by decide +kernel
theorem dX10_phantoms_130 : decode cX10_phantoms 130 = .ok (.iload 6, 2) := by decide +kernel
theorem dX10_phantoms_132 : decode cX10_phantoms 132 = .ok (.invokevirtual 259, 3) := by decide +kernel
theorem dX10_phantoms_135 : decode cX10_phantoms 135 = .ok (.ifCond .eq 12, 3) := by decide +kernel
theorem dX10_phantoms_138 : decode cX10_phantoms 138 = .ok (.iload 8, 2) := by decide +kernel
theorem dX10_phantoms_140 : decode cX10_phantoms 140 = .ok (.iconst 1, 1) := by decide +kernel
theorem dX10_phantoms_141 : decode cX10_phantoms 141 = .ok (.iload 9, 2) := by decide +kernel
theorem dX10_phantoms_143 : decode cX10_phantoms 143 = .ok (.ishl, 1) := by decide +kernel
theorem dX10_phantoms_144 : decode cX10_phantoms 144 = .ok (.ior, 1) := by decide +kernel
theorem dX10_phantoms_145 : decode cX10_phantoms 145 = .ok (.istore 8, 2) := by decide +kernel
theorem dX10_phantoms_147 : decode cX10_phantoms 147 = .ok (.iinc 9 1, 3) := by decide +kernel
theorem dX10_phantoms_150 : decode cX10_phantoms 150 = .ok (.goto (-75), 3) := by decide +kernel
theorem dX10_phantoms_153 : decode cX10_phantoms 153 = .ok (.iload 8, 2) := by decide +kernel
theorem dX10_phantoms_155 : decode cX10_phantoms 155 = .ok (.ireturn, 1) := by decide +kernel
theorem dX10_between_0 : decode cX10_between 0 = .ok (.aload_n 0, 1) := by decide +kernel
theorem dX10_between_1 : decode cX10_between 1 = .ok (.getfield 26, 3) := by decide +kernel
theorem dX10_between_4 : decode cX10_between 4 = .ok (.getfield 60, 3) := by decide +kernel
theorem dX10_between_7 : decode cX10_between 7 = .ok (.getfield 90, 3) := by decide +kernel
theorem dX10_between_10 : decode cX10_between 10 = .ok (.getfield 94, 3) := by decide +kernel
theorem dX10_between_13 : decode cX10_between 13 = .ok (.astore_n 2, 1) := by decide +kernel
theorem dX10_between_14 : decode cX10_between 14 = .ok (.iload_n 1, 1) := by decide +kernel
theorem dX10_between_15 : decode cX10_between 15 = .ok (.ifCond .lt 11, 3) := by decide +kernel
theorem dX10_between_18 : decode cX10_between 18 = .ok (.iload_n 1, 1) := by decide +kernel
theorem dX10_between_19 : decode cX10_between 19 = .ok (.aload_n 2, 1) := by decide +kernel
theorem dX10_between_20 : decode cX10_between 20 = .ok (.getfield 100, 3) := by decide +kernel
theorem dX10_between_23 : decode cX10_between 23 = .ok (.if_icmp .lt 5, 3) := by decide +kernel
theorem dX10_between_26 : decode cX10_between 26 = .ok (.iconst (-1), 1) := by decide +kernel
theorem dX10_between_27 : decode cX10_between 27 = .ok (.ireturn, 1) := by decide +kernel
theorem dX10_between_28 : decode cX10_between 28 = .ok (.iload_n 1, 1) := by decide +kernel
theorem dX10_between_29 : decode cX10_between 29 = .ok (.ifCond .ne 7, 3) := by decide +kernel
theorem dX10_between_32 : decode cX10_between 32 = .ok (.iconst 0, 1) := by decide +kernel
theorem dX10_between_33 : decode cX10_between 33 = .ok (.goto 11, 3) := by decide +kernel
theorem dX10_between_36 : decode cX10_between 36 = .ok (.aload_n 2, 1) := by decide +kernel
theorem dX10_between_37 : decode cX10_between 37 = .ok (.getfield 112, 3) := by decide +kernel
theorem dX10_between_40 : decode cX10_between 40 = .ok (.iload_n 1, 1) := by decide +kernel
theorem dX10_between_41 : decode cX10_between 41 = .ok (.iconst 1, 1) := by decide +kernel
theorem dX10_between_42 : decode cX10_between 42 = .ok (.isub, 1) := by decide +kernel
theorem dX10_between_43 : decode cX10_between 43 = .ok (.iaload, 1) := by decide +kernel
theorem dX10_between_44 : decode cX10_between 44 = .ok (.istore_n 3, 1) := by decide +kernel
theorem dX10_between_45 : decode cX10_between 45 = .ok (.aload_n 2, 1) := by decide +kernel
theorem dX10_between_46 : decode cX10_between 46 = .ok (.getfield 112, 3) := by decide +kernel
theorem dX10_between_49 : decode cX10_between 49 = .ok (.iload_n 1, 1) := by decide +kernel
theorem dX10_between_50 : decode cX10_between 50 = .ok (.iaload, 1) := by decide +kernel
theorem dX10_between_51 : decode cX10_between 51 = .ok (.iload_n 3, 1) := by decide +kernel
theorem dX10_between_52 : decode cX10_between 52 = .ok (.if_icmp .ne 7, 3) := by decide +kernel
theorem dX10_between_55 : decode cX10_between 55 = .ok (.iconst 0, 1) := by decide +kernel
theorem dX10_between_56 : decode cX10_between 56 = .ok (.goto 13, 3) := by decide +kernel
theorem dX10_between_59 : decode cX10_between 59 = .ok (.aload_n 2, 1) := by decide +kernel
theorem dX10_between_60 : decode cX10_between 60 = .ok (.getfield 112, 3) := by decide +kernel
theorem dX10_between_63 : decode cX10_between 63 = .ok (.iload_n 1, 1) := by decide +kernel
theorem dX10_between_64 : decode cX10_between 64 = .ok (.iaload, 1) := by decide +kernel
theorem dX10_between_65 : decode cX10_between 65 = .ok (.iload_n 3, 1) := by decide +kernel
theorem dX10_between_66 : decode cX10_between 66 = .ok (.isub, 1) := by decide +kernel
theorem dX10_between_67 : decode cX10_between 67 = .ok (.iconst 1, 1) := by decide +kernel
theorem dX10_between_68 : decode cX10_between 68 = .ok (.isub, 1) := by decide +kernel
theorem dX10_between_69 : decode cX10_between 69 = .ok (.ireturn, 1) := by decide +kernel
set_option maxRecDepth 20000 in
theorem ggX10_putNext_X10_actOnKey : GoodIn wsX10_putNext wsX10_actOnKey := goodIn_r _ [11, 1, 2, 3, 12, 13, 14, 15, 16, 17, 18, 19, 20, 21, 22, 23, 24, 25, 26, 27, 28, 29, 30, 31, 32, 33, 34, 35, 36, 37, 38, 39, 40, 41, 42, 43, 44, 45, 46, 47, 48, 49, 50, 51, 52, 53, 54, 55, 56, 57, 58, 59, 60, 61, 62, 63, 64, 65, 66, 67, 68, 69, 70, 71, 72, 73, 74, 75, 76, 77, 78, 79, 80, 81, 82, 83, 84, 85, 86, 87, 88, 89, 90, 91, 92, 93, 94, 95, 96, 97, 98, 99, 100, 101, 102, 103, 104, 105, 106, 107, 108, 109, 110, 111, 112, 113, 114, 115, 116, 117, 118, 119, 120, 121, 122, 123, 124, 125, 126, 127, 128, 129, 130, 131, 132, 133, 134, 135, 136, 137, 138, 139, 140, 141, 142, 143, 144, 145, 146, 147, 148, 149, 150, 151, 152, 153, 154, 155, 156, 157, 158, 159, 160, 161, 162, 163, 164, 165, 166, 167, 168, 169, 170, 171, 172, 173, 174, 175, 176, 177, 178, 179, 180, 181, 182, 183, 184, 185, 186, 187, 188, 189, 190, 191, 192, 193, 194, 195, 196, 197, 198, 199, 200, 201, 202, 203, 204, 205, 206, 207, 208, 209, 218, 219, 220, 221, 222, 223, 224, 225, 226, 227, 228, 229, 210, 211, 212, 213, 214, 215, 216, 217, 230, 231] (by decide +kernel) (by decide +kernel)
set_option maxRecDepth 20000 in
theorem gX10_putNext_X10_actOnKey : GoodIn wsX10_putNext (wsV RX10 215 RX10 yX10_actOnKey wsX10_actOnKey) := goodIn_app (goodIn_of _ (by decide +kernel)) ggX10_putNext_X10_actOnKey
theorem dX10_putNext_0 : decode cX10_putNext 0 = .ok (.aload_n 0, 1) := by decide +kernel
theorem dX10_putNext_1 : decode cX10_putNext 1 = .ok (.getfield 26, 3) := by decide +kernel
theorem dX10_putNext_4 : decode cX10_putNext 4 = .ok (.getfield 60, 3) := by decide +kernel
theorem dX10_putNext_7 : decode cX10_putNext 7 = .ok (.getfield 90, 3) := by decide +kernel
theorem dX10_putNext_10 : decode cX10_putNext 10 = .ok (.getfield 94, 3) := by decide +kernel
theorem dX10_putNext_13 : decode cX10_putNext 13 = .ok (.astore 4, 2) := by decide +kernel
theorem dX10_putNext_15 : decode cX10_putNext 15 = .ok (.iload_n 2, 1) := by decide +kernel
theorem dX10_putNext_16 : decode cX10_putNext 16 = .ok (.ifCond .lt 12, 3) := by decide +kernel
theorem dX10_putNext_19 : decode cX10_putNext 19 = .ok (.iload_n 2, 1) := by decide +kernel
theorem dX10_putNext_20 : decode cX10_putNext 20 = .ok (.aload 4, 2) := by decide +kernel
theorem dX10_putNext_22 : decode cX10_putNext 22 = .ok (.getfield 100, 3) := by decide +kernel
theorem dX10_putNext_25 : decode cX10_putNext 25 = .ok (.if_icmp .lt 5, 3) := by decide +kernel
theorem dX10_putNext_28 : decode cX10_putNext 28 = .ok (.iconst (-1), 1) := by decide +kernel
theorem dX10_putNext_29 : decode cX10_putNext 29 = .ok (.ireturn, 1) := by decide +kernel
theorem dX10_putNext_30 : decode cX10_putNext 30 = .ok (.aload_n 0, 1) := by decide +kernel
theorem dX10_putNext_31 : decode cX10_putNext 31 = .ok (.iload_n 1, 1) := by decide +kernel
theorem dX10_putNext_32 : decode cX10_putNext 32 = .ok (.iconst 5, 1) := by decide +kernel
theorem dX10_putNext_33 : decode cX10_putNext 33 = .ok (.aload 4, 2) := by decide +kernel
theorem dX10_putNext_35 : decode cX10_putNext 35 = .ok (.getfield 112, 3) := by decide +kernel
theorem dX10_putNext_38 : decode cX10_putNext 38 = .ok (.iload_n 2, 1) := by decide +kernel
theorem dX10_putNext_39 : decode cX10_putNext 39 = .ok (.iaload, 1) := by decide +kernel
theorem dX10_putNext_40 : decode cX10_putNext 40 = .ok (.iconst 1, 1) := by decide +kernel
theorem dX10_putNext_41 : decode cX10_putNext 41 = .ok (.iadd, 1) := by decide +kernel
theorem dX10_putNext_42 : decode cX10_putNext 42 = .ok (.iload_n 3, 1) := by decide +kernel
theorem dX10_putNext_43 : decode cX10_putNext 43 = .ok (.invokevirtual 215, 3) := by decide +kernel
theorem dX10_putNext_46 : decode cX10_putNext 46 = .ok (.ireturn, 1) := by decide +kernel
set_option maxRecDepth 20000 in
theorem ggX10_mean_X7_keySum : GoodIn wsX10_mean wsX7_keySum := goodIn_r _ [10, 11, 12, 13, 14, 15, 16, 17, 18, 19, 20, 48, 49, 50, 51, 52, 53, 54, 55] (by decide +kernel) (by decide +kernel)
set_option maxRecDepth 20000 in
theorem gX10_mean_X7_keySum : GoodIn wsX10_mean (wsV RX10 150 RX7 yX7_keySum wsX7_keySum) := goodIn_app (goodIn_of _ (by decide +kernel)) ggX10_mean_X7_keySum
set_option maxRecDepth 20000 in
theorem ggX10_mean_X4_bitsOf : GoodIn wsX10_mean wsX4_bitsOf := goodIn_r _ [23, 20, 24, 19] (by decide +kernel) (by decide +kernel)
set_option maxRecDepth 20000 in
theorem gX10_mean_X4_bitsOf : GoodIn wsX10_mean (va_wsS RX10 146 yX4_bitsOf wsX4_bitsOf) := goodIn_app (goodIn_of _ (by decide +kernel)) ggX10_mean_X4_bitsOf
theorem dX10_mean_0 : decode cX10_mean 0 = .ok (.aload_n 0, 1) := by decide +kernel
theorem dX10_mean_1 : decode cX10_mean 1 = .ok (.getfield 26, 3) := by decide +kernel
theorem dX10_mean_4 : decode cX10_mean 4 = .ok (.getfield 60, 3) := by decide +kernel
theorem dX10_mean_7 : decode cX10_mean 7 = .ok (.getfield 90, 3) := by decide +kernel
theorem dX10_mean_10 : decode cX10_mean 10 = .ok (.getfield 94, 3) := by decide +kernel
theorem dX10_mean_13 : decode cX10_mean 13 = .ok (.astore_n 1, 1) := by decide +kernel
theorem dX10_mean_14 : decode cX10_mean 14 = .ok (.aload_n 1, 1) := by decide +kernel
theorem dX10_mean_15 : decode cX10_mean 15 = .ok (.getfield 100, 3) := by decide +kernel
theorem dX10_mean_18 : decode cX10_mean 18 = .ok (.ifCond .ne 8, 3) := by decide +kernel
theorem dX10_mean_21 : decode cX10_mean 21 = .ok (.bipush (-2), 2) := by decide +kernel
theorem dX10_mean_23 : decode cX10_mean 23 = .ok (.goto 16, 3) := by decide +kernel
theorem dX10_mean_26 : decode cX10_mean 26 = .ok (.aload_n 1, 1) := by decide +kernel
theorem dX10_mean_27 : decode cX10_mean 27 = .ok (.invokevirtual 150, 3) := by decide +kernel
theorem dX10_mean_30 : decode cX10_mean 30 = .ok (.aload_n 1, 1) := by decide +kernel
theorem dX10_mean_31 : decode cX10_mean 31 = .ok (.getfield 100, 3) := by decide +kernel
theorem dX10_mean_34 : decode cX10_mean 34 = .ok (.i2f, 1) := by decide +kernel
theorem dX10_mean_35 : decode cX10_mean 35 = .ok (.fdiv, 1) := by decide +kernel
theorem dX10_mean_36 : decode cX10_mean 36 = .ok (.invokestatic 146, 3) := by decide +kernel
theorem dX10_mean_39 : decode cX10_mean 39 = .ok (.ireturn, 1) := by decide +kernel
set_option maxRecDepth 20000 in
theorem ggX10_ratio_X4_floatOf : GoodIn wsX10_ratio wsX4_floatOf := goodIn_r _ [10, 11, 12, 13, 14] (by decide +kernel) (by decide +kernel)
set_option maxRecDepth 20000 in
theorem gX10_ratio_X4_floatOf : GoodIn wsX10_ratio (va_wsS RX10 263 yX4_floatOf wsX4_floatOf) := goodIn_app (goodIn_of _ (by decide +kernel)) ggX10_ratio_X4_floatOf
set_option maxRecDepth 20000 in
theorem ggX10_ratio_X4_bitsOf : GoodIn wsX10_ratio wsX4_bitsOf := goodIn_r _ [17, 14, 18, 13] (by decide +kernel) (by decide +kernel)
set_option maxRecDepth 20000 in
theorem gX10_ratio_X4_bitsOf : GoodIn wsX10_ratio (va_wsS RX10 146 yX4_bitsOf wsX4_bitsOf) := goodIn_app (goodIn_of _ (by decide +kernel)) ggX10_ratio_X4_bitsOf
theorem dX10_ratio_0 : decode cX10_ratio 0 = .ok (.aload_n 0, 1) := by decide +kernel
theorem dX10_ratio_1 : decode cX10_ratio 1 = .ok (.getfield 26, 3) := by decide +kernel
theorem dX10_ratio_4 : decode cX10_ratio 4 = .ok (.getfield 60, 3) := by decide +kernel
theorem dX10_ratio_7 : decode cX10_ratio 7 = .ok (.getfield 90, 3) := by decide +kernel
theorem dX10_ratio_10 : decode cX10_ratio 10 = .ok (.getfield 94, 3) := by decide +kernel
theorem dX10_ratio_13 : decode cX10_ratio 13 = .ok (.astore_n 3, 1) := by decide +kernel
theorem dX10_ratio_14 : decode cX10_ratio 14 = .ok (.iload_n 1, 1) := by decide +kernel
theorem dX10_ratio_15 : decode cX10_ratio 15 = .ok (.ifCond .lt 23, 3) := by decide +kernel
theorem dX10_ratio_18 : decode cX10_ratio 18 = .ok (.iload_n 1, 1) := by decide +kernel
theorem dX10_ratio_19 : decode cX10_ratio 19 = .ok (.aload_n 3, 1) := by decide +kernel
theorem dX10_ratio_20 : decode cX10_ratio 20 = .ok (.getfield 100, 3) := by decide +kernel
theorem dX10_ratio_23 : decode cX10_ratio 23 = .ok (.if_icmp .ge 15, 3) := by decide +kernel
theorem dX10_ratio_26 : decode cX10_ratio 26 = .ok (.iload_n 2, 1) := by decide +kernel
theorem dX10_ratio_27 : decode cX10_ratio 27 = .ok (.ifCond .lt 11, 3) := by decide +kernel
theorem dX10_ratio_30 : decode cX10_ratio 30 = .ok (.iload_n 2, 1) := by decide +kernel
theorem dX10_ratio_31 : decode cX10_ratio 31 = .ok (.aload_n 3, 1) := by decide +kernel
theorem dX10_ratio_32 : decode cX10_ratio 32 = .ok (.getfield 100, 3) := by decide +kernel
theorem dX10_ratio_35 : decode cX10_ratio 35 = .ok (.if_icmp .lt 5, 3) := by decide +kernel
theorem dX10_ratio_38 : decode cX10_ratio 38 = .ok (.iconst (-1), 1) := by decide +kernel
theorem dX10_ratio_39 : decode cX10_ratio 39 = .ok (.ireturn, 1) := by decide +kernel
theorem dX10_ratio_40 : decode cX10_ratio 40 = .ok (.aload_n 3, 1) := by decide +kernel
theorem dX10_ratio_41 : decode cX10_ratio 41 = .ok (.getfield 112, 3) := by decide +kernel
theorem dX10_ratio_44 : decode cX10_ratio 44 = .ok (.iload_n 2, 1) := by decide +kernel
theorem dX10_ratio_45 : decode cX10_ratio 45 = .ok (.iaload, 1) := by decide +kernel
theorem dX10_ratio_46 : decode cX10_ratio 46 = .ok (.invokestatic 263, 3) := by decide +kernel
theorem dX10_ratio_49 : decode cX10_ratio 49 = .ok (.fstore 4, 2) := by decide +kernel
theorem dX10_ratio_51 : decode cX10_ratio 51 = .ok (.fload 4, 2) := by decide +kernel
theorem dX10_ratio_53 : decode cX10_ratio 53 = .ok (.fconst 0, 1) := by decide +kernel
theorem dX10_ratio_54 : decode cX10_ratio 54 = .ok (.fcmp .l, 1) := by decide +kernel
theorem dX10_ratio_55 : decode cX10_ratio 55 = .ok (.ifCond .le 21, 3) := by decide +kernel
theorem dX10_ratio_58 : decode cX10_ratio 58 = .ok (.aload_n 3, 1) := by decide +kernel
theorem dX10_ratio_59 : decode cX10_ratio 59 = .ok (.getfield 112, 3) := by decide +kernel
theorem dX10_ratio_62 : decode cX10_ratio 62 = .ok (.iload_n 1, 1) := by decide +kernel
theorem dX10_ratio_63 : decode cX10_ratio 63 = .ok (.iaload, 1) := by decide +kernel
theorem dX10_ratio_64 : decode cX10_ratio 64 = .ok (.invokestatic 263, 3) := by decide +kernel
theorem dX10_ratio_67 : decode cX10_ratio 67 = .ok (.fload 4, 2) := by decide +kernel
theorem dX10_ratio_69 : decode cX10_ratio 69 = .ok (.fdiv, 1) := by decide +kernel
theorem dX10_ratio_70 : decode cX10_ratio 70 = .ok (.invokestatic 146, 3) := by decide +kernel
theorem dX10_ratio_73 : decode cX10_ratio 73 = .ok (.goto 5, 3) := by decide +kernel
theorem dX10_ratio_76 : decode cX10_ratio 76 = .ok (.bipush (-2), 2) := by decide +kernel
theorem dX10_ratio_78 : decode cX10_ratio 78 = .ok (.ireturn, 1) := by decide +kernel
set_option maxRecDepth 20000 in
theorem ggX10_culprit_X8_firstCulprit : GoodIn wsX10_culprit wsX8_firstCulprit := goodIn_r _ [7, 8, 9, 10, 11, 12, 13, 14, 15, 16, 17, 18, 19, 20, 21, 22, 23, 24, 25, 26, 27, 28, 29, 30, 31, 32, 33, 34, 35, 36, 37, 38, 39, 40, 41, 42, 43, 44, 45, 46, 47, 48, 49, 50, 51, 52, 53, 54, 55, 56, 57, 58, 59, 60, 61, 62, 63, 64, 65, 66, 67, 68, 69, 70, 71, 72, 73, 74, 75, 76, 77, 78, 79, 80, 81, 82, 83, 84, 85, 86, 87, 88, 89, 90, 91, 92, 93, 94, 95, 96, 97, 98, 99, 100, 101, 102, 103, 104, 105, 106, 107, 108, 109, 110, 111, 112, 113, 114, 115, 116, 117, 118, 119, 120, 121, 122, 123, 124, 125, 126, 127, 128, 129, 130, 131, 132, 133, 134, 135, 136, 137, 138, 139, 140, 141, 142, 143, 144, 145, 146, 147, 148, 149, 150, 151, 152, 153, 154, 155, 156, 157, 158, 159, 160, 161, 162, 163, 164, 165, 166, 167, 168, 169, 170, 171, 172, 173, 174, 175, 176, 177, 178, 179, 180, 181, 182, 183, 184, 185, 186, 187, 188, 189, 190, 191, 192, 193, 194, 195, 196, 197, 198, 199, 200, 201, 202, 203, 204, 205, 206, 207, 208, 209, 210, 211, 212, 213, 214, 215, 216, 217, 218, 219, 220, 221, 222, 223, 224, 225, 226, 227, 228, 229, 230, 231, 232, 233, 234, 235, 236, 237, 238, 239, 240, 241, 242, 243, 244, 245, 246, 247, 255, 256, 257, 258, 259, 260, 261, 262, 263, 264, 265, 266, 267, 268, 269, 270, 271, 272, 273, 274, 275, 276, 277, 278, 279, 280, 281, 282, 283, 284, 285, 286, 287, 288, 289, 290, 291, 292, 293, 294, 295, 296, 297, 298, 299, 300, 301, 302, 303, 304, 305] (by decide +kernel) (by decide +kernel)
set_option maxRecDepth 20000 in
theorem gX10_culprit_X8_firstCulprit : GoodIn wsX10_culprit (wsV RX10 266 RX8 yX8_firstCulprit wsX8_firstCulprit) := goodIn_app (goodIn_of _ (by decide +kernel)) ggX10_culprit_X8_firstCulprit
theorem dX10_culprit_0 : decode cX10_culprit 0 = .ok (.aload_n 0, 1) := by decide +kernel
theorem dX10_culprit_1 : decode cX10_culprit 1 = .ok (.getfield 19, 3) := by decide +kernel
theorem dX10_culprit_4 : decode cX10_culprit 4 = .ok (.aload_n 0, 1) := by decide +kernel
theorem dX10_culprit_5 : decode cX10_culprit 5 = .ok (.getfield 37, 3) := by decide +kernel
theorem dX10_culprit_8 : decode cX10_culprit 8 = .ok (.invokevirtual 266, 3) := by decide +kernel
theorem dX10_culprit_11 : decode cX10_culprit 11 = .ok (.ireturn, 1) := by decide +kernel
set_option maxRecDepth 20000 in
theorem ggX10_swapped_X8_hinderedSwapped : GoodIn wsX10_swapped wsX8_hinderedSwapped := goodIn_r _ [8, 9, 10, 11, 12, 13, 14, 15, 16, 17, 18, 19, 20, 21, 22, 23, 24, 25, 26, 27, 28, 29, 30, 31, 32, 33, 34, 35, 36, 37, 38, 39, 40, 41, 42, 43, 44, 45, 46, 47, 48, 49, 50, 51, 52, 53, 54, 55, 56, 57, 58, 59, 60, 61, 62, 63, 64, 65, 66, 67, 68, 69, 70, 71, 72, 73, 74, 75, 76, 77, 78, 79, 80, 81, 82, 83, 84, 85, 86, 87, 88, 89, 90, 91, 92, 93, 94, 95, 96, 97, 98, 99, 100, 101, 102, 103, 104, 105, 106, 107, 108, 109, 110, 111, 112, 113, 114, 115, 116, 117, 118, 119, 120, 121, 122, 123, 124, 125, 126, 127, 128, 129, 130, 131, 132, 133, 134, 135, 136, 137, 138, 139, 140, 141, 142, 143, 144, 145, 146, 147, 148, 149, 150, 151, 152, 153, 154, 155, 156, 157, 158, 159, 160, 161, 162, 163, 164, 165, 166, 167, 168, 169, 170, 171, 172, 173, 174, 175, 176, 177, 178, 179, 180, 181, 182, 183, 184, 185, 186, 187, 188, 189, 190, 191, 192, 193, 194, 195, 196, 197, 198, 199, 200, 201, 202, 203, 204, 205, 206, 207, 208, 209, 210, 211, 212, 213, 214, 215, 216, 217, 218, 219, 220, 221, 222, 223, 224, 225, 226, 227, 228, 229, 230, 231, 232, 233, 234, 235, 236, 237, 238, 239, 240, 241, 242, 243, 244, 245, 263, 264, 265, 266, 267, 268, 269, 270, 271, 272, 273, 274, 275, 276, 277, 278, 279, 280, 281, 253, 254, 255, 256, 257, 258, 259, 260, 261, 262, 282, 283, 284, 285, 286, 287, 288, 289, 290, 291, 292, 293, 294, 295, 296, 297, 298, 299, 300, 301, 302, 303] (by decide +kernel) (by decide +kernel)
set_option maxRecDepth 20000 in
theorem gX10_swapped_X8_hinderedSwapped : GoodIn wsX10_swapped (wsV RX10 270 RX8 yX8_hinderedSwapped wsX8_hinderedSwapped) := goodIn_app (goodIn_of _ (by decide +kernel)) ggX10_swapped_X8_hinderedSwapped
theorem dX10_swapped_0 : decode cX10_swapped 0 = .ok (.iload_n 1, 1) := by decide +kernel
theorem dX10_swapped_1 : decode cX10_swapped 1 = .ok (.ifCond .lt 16, 3) := by decide +kernel
theorem dX10_swapped_4 : decode cX10_swapped 4 = .ok (.iload_n 1, 1) := by decide +kernel
theorem dX10_swapped_5 : decode cX10_swapped 5 = .ok (.aload_n 0, 1) := by decide +kernel
theorem dX10_swapped_6 : decode cX10_swapped 6 = .ok (.getfield 37, 3) := by decide +kernel
theorem dX10_swapped_9 : decode cX10_swapped 9 = .ok (.getfield 226, 3) := by decide +kernel
theorem dX10_swapped_12 : decode cX10_swapped 12 = .ok (.iconst 1, 1) := by decide +kernel
theorem dX10_swapped_13 : decode cX10_swapped 13 = .ok (.isub, 1) := by decide +kernel
theorem dX10_swapped_14 : decode cX10_swapped 14 = .ok (.if_icmp .lt 7, 3) := by decide +kernel
theorem dX10_swapped_17 : decode cX10_swapped 17 = .ok (.iconst (-1), 1) := by decide +kernel
theorem dX10_swapped_18 : decode cX10_swapped 18 = .ok (.goto 15, 3) := by decide +kernel
theorem dX10_swapped_21 : decode cX10_swapped 21 = .ok (.aload_n 0, 1) := by decide +kernel
theorem dX10_swapped_22 : decode cX10_swapped 22 = .ok (.getfield 19, 3) := by decide +kernel
theorem dX10_swapped_25 : decode cX10_swapped 25 = .ok (.aload_n 0, 1) := by decide +kernel
theorem dX10_swapped_26 : decode cX10_swapped 26 = .ok (.getfield 37, 3) := by decide +kernel
theorem dX10_swapped_29 : decode cX10_swapped 29 = .ok (.iload_n 1, 1) := by decide +kernel
theorem dX10_swapped_30 : decode cX10_swapped 30 = .ok (.invokevirtual 270, 3) := by decide +kernel
theorem dX10_swapped_33 : decode cX10_swapped 33 = .ok (.ireturn, 1) := by decide +kernel
set_option maxRecDepth 20000 in
theorem ggX10_fate_X8_play : GoodIn wsX10_fate wsX8_play := goodIn_r _ [12, 13, 14, 15, 16, 17, 18, 19, 20, 21, 22, 23, 24, 25, 26, 27, 28, 29, 30, 31, 32, 33, 34, 35, 36, 37, 38, 39, 40, 41, 42, 43, 44, 45, 46, 47, 48, 49, 50, 51, 52, 53, 54, 55, 56, 57, 58, 59, 60, 61, 62, 63, 64, 65, 66, 67, 68, 69, 70, 71, 72, 73, 74, 75, 76, 77, 78, 79, 80, 81, 82, 83, 84, 11, 85, 86, 87, 88, 89, 90, 91, 92, 93, 94, 95, 96, 97, 98, 99, 100, 101, 102, 103, 104, 105, 106, 107, 108, 109, 110, 111, 112, 113, 114, 115, 116, 117, 118, 119, 120, 121, 122, 123, 124, 125, 126, 127, 128, 129, 130, 131, 132, 133, 134, 135, 136, 137, 138, 139, 140, 141, 142, 143, 144, 145, 146, 147, 148, 149, 150, 151, 152, 153, 154, 155, 156, 157, 158, 159, 160, 161, 162, 163, 164, 165, 166, 167, 168, 169, 170, 171, 172, 173, 174, 175, 176, 177, 178, 179, 180, 181, 182, 183, 184, 185, 186, 187, 188, 189, 190, 191, 192, 193, 194, 195, 196, 197, 198, 199, 200, 201, 202, 203, 204, 205, 206, 207, 208, 209, 210, 211, 212, 213, 214, 215, 216, 217, 218, 219, 220, 221, 222, 223, 224, 225, 226, 227, 228, 229, 230, 231, 232, 233, 234, 235, 236, 237, 238, 239, 240, 241, 242, 243, 244, 245, 246, 247, 248, 249, 250, 251, 252, 253, 254, 255, 256, 257, 258, 276, 277, 278, 279, 280, 281, 282, 283, 284, 285, 286, 266, 267, 268, 269, 270, 271, 272, 273, 274, 275, 287, 288, 289, 290, 291, 292, 293, 294, 307, 308, 309, 310, 311, 312, 313, 314, 315, 316, 295, 296, 297, 298, 299, 300, 301, 302, 303, 304, 305, 306] (by decide +kernel) (by decide +kernel)
set_option maxRecDepth 20000 in
theorem gX10_fate_X8_play : GoodIn wsX10_fate (wsV RX10 273 RX8 yX8_play wsX8_play) := goodIn_app (goodIn_of _ (by decide +kernel)) ggX10_fate_X8_play
theorem dX10_fate_0 : decode cX10_fate 0 = .ok (.iload_n 1, 1) := by decide +kernel
theorem dX10_fate_1 : decode cX10_fate 1 = .ok (.ifCond .ge 5, 3) := by decide +kernel
theorem dX10_fate_4 : decode cX10_fate 4 = .ok (.iconst (-1), 1) := by decide +kernel
theorem dX10_fate_5 : decode cX10_fate 5 = .ok (.ireturn, 1) := by decide +kernel
theorem dX10_fate_6 : decode cX10_fate 6 = .ok (.iload_n 2, 1) := by decide +kernel
theorem dX10_fate_7 : decode cX10_fate 7 = .ok (.ifCond .lt 14, 3) := by decide +kernel
theorem dX10_fate_10 : decode cX10_fate 10 = .ok (.iload_n 2, 1) := by decide +kernel
theorem dX10_fate_11 : decode cX10_fate 11 = .ok (.aload_n 0, 1) := by decide +kernel
theorem dX10_fate_12 : decode cX10_fate 12 = .ok (.getfield 37, 3) := by decide +kernel
theorem dX10_fate_15 : decode cX10_fate 15 = .ok (.getfield 248, 3) := by decide +kernel
theorem dX10_fate_18 : decode cX10_fate 18 = .ok (.if_icmp .lt 6, 3) := by decide +kernel
theorem dX10_fate_21 : decode cX10_fate 21 = .ok (.bipush (-5), 2) := by decide +kernel
theorem dX10_fate_23 : decode cX10_fate 23 = .ok (.ireturn, 1) := by decide +kernel
theorem dX10_fate_24 : decode cX10_fate 24 = .ok (.aload_n 0, 1) := by decide +kernel
theorem dX10_fate_25 : decode cX10_fate 25 = .ok (.getfield 19, 3) := by decide +kernel
theorem dX10_fate_28 : decode cX10_fate 28 = .ok (.aload_n 0, 1) := by decide +kernel
theorem dX10_fate_29 : decode cX10_fate 29 = .ok (.getfield 37, 3) := by decide +kernel
theorem dX10_fate_32 : decode cX10_fate 32 = .ok (.iload_n 1, 1) := by decide +kernel
theorem dX10_fate_33 : decode cX10_fate 33 = .ok (.invokevirtual 273, 3) := by decide +kernel
theorem dX10_fate_36 : decode cX10_fate 36 = .ok (.pop, 1) := by decide +kernel
theorem dX10_fate_37 : decode cX10_fate 37 = .ok (.aload_n 0, 1) := by decide +kernel
theorem dX10_fate_38 : decode cX10_fate 38 = .ok (.getfield 19, 3) := by decide +kernel
theorem dX10_fate_41 : decode cX10_fate 41 = .ok (.getfield 276, 3) := by decide +kernel
theorem dX10_fate_44 : decode cX10_fate 44 = .ok (.getfield 90, 3) := by decide +kernel
theorem dX10_fate_47 : decode cX10_fate 47 = .ok (.getfield 154, 3) := by decide +kernel
theorem dX10_fate_50 : decode cX10_fate 50 = .ok (.getfield 219, 3) := by decide +kernel
theorem dX10_fate_53 : decode cX10_fate 53 = .ok (.iload_n 2, 1) := by decide +kernel
theorem dX10_fate_54 : decode cX10_fate 54 = .ok (.iaload, 1) := by decide +kernel
theorem dX10_fate_55 : decode cX10_fate 55 = .ok (.ireturn, 1) := by decide +kernel
set_option maxRecDepth 20000 in
theorem ggX10_wakes_X1_has : GoodIn wsX10_wakes wsX1_has := goodIn_r _ [11, 12, 248, 249, 250, 251, 252, 253, 254, 255, 256, 257, 258, 259] (by decide +kernel) (by decide +kernel)
set_option maxRecDepth 20000 in
theorem gX10_wakes_X1_has : GoodIn wsX10_wakes (wsV RX10 158 RX1 yX1_has wsX1_has) := goodIn_app (goodIn_of _ (by decide +kernel)) ggX10_wakes_X1_has
set_option maxRecDepth 20000 in
theorem ggX10_wakes_X10_worldWithout : GoodIn wsX10_wakes wsX10_worldWithout := goodIn_r _ [17, 18, 19, 1, 2, 3, 20, 21, 22, 23, 24, 25, 26, 27, 28, 29, 30, 31, 32, 33, 34, 35, 36, 37, 38, 39, 40, 41, 42, 43, 44, 45, 46, 47, 48, 49, 50, 51, 52, 53, 54, 55, 56, 57, 58, 59, 60, 61, 10, 62, 12, 63, 64, 65, 66, 67, 68, 69, 70, 71, 72, 73, 74, 75, 76, 77, 78, 79, 80, 81, 82, 83, 84, 85, 86, 87, 88, 89, 90, 91, 92, 93, 8, 9, 11, 94, 95, 96, 97, 98, 99, 100, 101, 102, 103, 104, 105, 106, 107, 108, 109, 110, 111, 112, 113, 114, 115, 116, 117, 118, 119, 120, 121, 122, 123, 124, 125, 126, 127, 128, 129, 130, 131, 132, 133, 134, 135, 136, 137, 138, 139, 140, 141, 142, 143, 144, 145, 146, 147, 148, 149, 150, 151, 152, 153, 154, 155, 156, 157, 158, 159, 160, 161, 162, 163, 164, 165, 166, 167, 168, 169, 170, 171, 172, 173, 174, 175, 176, 177, 178, 179, 180, 181, 182, 183, 184, 185, 186, 187, 188, 189, 190, 191, 192, 193, 194, 195, 196, 197, 198, 199, 200, 201, 202, 203, 204, 205, 206, 207, 208, 209, 210, 211, 212, 213, 214, 215, 216, 217, 218, 219, 220, 221, 222, 223, 224, 225, 226, 227, 228, 229, 230, 231, 260, 261, 262, 263, 264, 265, 232, 233, 234, 235, 236, 237, 238, 239, 240, 241, 242, 243, 244, 245, 246, 247, 266, 267, 268, 269, 270, 271, 272, 273, 248, 249, 250, 251, 252, 253, 254, 255, 256, 257, 258, 259, 274, 275] (by decide +kernel) (by decide +kernel)
set_option maxRecDepth 20000 in
theorem gX10_wakes_X10_worldWithout : GoodIn wsX10_wakes (wsV RX10 277 RX10 yX10_worldWithout wsX10_worldWithout) := goodIn_app (goodIn_of _ (by decide +kernel)) ggX10_wakes_X10_worldWithout
theorem dX10_wakes_0 : decode cX10_wakes 0 = .ok (.aload_n 0, 1) := by decide +kernel
theorem dX10_wakes_1 : decode cX10_wakes 1 = .ok (.getfield 26, 3) := by decide +kernel
theorem dX10_wakes_4 : decode cX10_wakes 4 = .ok (.getfield 60, 3) := by decide +kernel
theorem dX10_wakes_7 : decode cX10_wakes 7 = .ok (.getfield 90, 3) := by decide +kernel
theorem dX10_wakes_10 : decode cX10_wakes 10 = .ok (.getfield 154, 3) := by decide +kernel
theorem dX10_wakes_13 : decode cX10_wakes 13 = .ok (.astore_n 2, 1) := by decide +kernel
theorem dX10_wakes_14 : decode cX10_wakes 14 = .ok (.aload_n 2, 1) := by decide +kernel
theorem dX10_wakes_15 : decode cX10_wakes 15 = .ok (.iload_n 1, 1) := by decide +kernel
theorem dX10_wakes_16 : decode cX10_wakes 16 = .ok (.invokevirtual 158, 3) := by decide +kernel
theorem dX10_wakes_19 : decode cX10_wakes 19 = .ok (.ifCond .eq 12, 3) := by decide +kernel
theorem dX10_wakes_22 : decode cX10_wakes 22 = .ok (.aload_n 2, 1) := by decide +kernel
theorem dX10_wakes_23 : decode cX10_wakes 23 = .ok (.getfield 170, 3) := by decide +kernel
theorem dX10_wakes_26 : decode cX10_wakes 26 = .ok (.iload_n 1, 1) := by decide +kernel
theorem dX10_wakes_27 : decode cX10_wakes 27 = .ok (.iaload, 1) := by decide +kernel
theorem dX10_wakes_28 : decode cX10_wakes 28 = .ok (.ifCond .ne 5, 3) := by decide +kernel
theorem dX10_wakes_31 : decode cX10_wakes 31 = .ok (.iconst (-1), 1) := by decide +kernel
theorem dX10_wakes_32 : decode cX10_wakes 32 = .ok (.ireturn, 1) := by decide +kernel
theorem dX10_wakes_33 : decode cX10_wakes 33 = .ok (.aload_n 0, 1) := by decide +kernel
theorem dX10_wakes_34 : decode cX10_wakes 34 = .ok (.iload_n 1, 1) := by decide +kernel
theorem dX10_wakes_35 : decode cX10_wakes 35 = .ok (.invokevirtual 277, 3) := by decide +kernel
theorem dX10_wakes_38 : decode cX10_wakes 38 = .ok (.getfield 154, 3) := by decide +kernel
theorem dX10_wakes_41 : decode cX10_wakes 41 = .ok (.astore_n 3, 1) := by decide +kernel
theorem dX10_wakes_42 : decode cX10_wakes 42 = .ok (.iconst 0, 1) := by decide +kernel
theorem dX10_wakes_43 : decode cX10_wakes 43 = .ok (.istore 4, 2) := by decide +kernel
theorem dX10_wakes_45 : decode cX10_wakes 45 = .ok (.iconst 0, 1) := by decide +kernel
theorem dX10_wakes_46 : decode cX10_wakes 46 = .ok (.istore 5, 2) := by decide +kernel
theorem dX10_wakes_48 : decode cX10_wakes 48 = .ok (.iload 5, 2) := by decide +kernel
theorem dX10_wakes_50 : decode cX10_wakes 50 = .ok (.aload_n 2, 1) := by decide +kernel
theorem dX10_wakes_51 : decode cX10_wakes 51 = .ok (.getfield 258, 3) := by decide +kernel
theorem dX10_wakes_54 : decode cX10_wakes 54 = .ok (.if_icmp .ge 62, 3) := by decide +kernel
theorem dX10_wakes_57 : decode cX10_wakes 57 = .ok (.aload_n 2, 1) := by decide +kernel
theorem dX10_wakes_58 : decode cX10_wakes 58 = .ok (.getfield 170, 3) := by decide +kernel
theorem dX10_wakes_61 : decode cX10_wakes 61 = .ok (.iload 5, 2) := by decide +kernel
theorem dX10_wakes_63 : decode cX10_wakes 63 = .ok (.iaload, 1) := by decide +kernel
theorem dX10_wakes_64 : decode cX10_wakes 64 = .ok (.iconst 2, 1) := by decide +kernel
theorem dX10_wakes_65 : decode cX10_wakes 65 = .ok (.if_icmp .ne 18, 3) := by decide +kernel
theorem dX10_wakes_68 : decode cX10_wakes 68 = .ok (.aload_n 3, 1) := by decide +kernel
theorem dX10_wakes_69 : decode cX10_wakes 69 = .ok (.getfield 170, 3) := by decide +kernel
theorem dX10_wakes_72 : decode cX10_wakes 72 = .ok (.iload 5, 2) := by decide +kernel
theorem dX10_wakes_74 : decode cX10_wakes 74 = .ok (.iaload, 1) := by decide +kernel
theorem dX10_wakes_75 : decode cX10_wakes 75 = .ok (.iconst 2, 1) := by decide +kernel
theorem dX10_wakes_76 : decode cX10_wakes 76 = .ok (.if_icmp .eq 7, 3) := by decide +kernel
theorem dX10_wakes_79 : decode cX10_wakes 79 = .ok (.iconst 1, 1) := by decide +kernel
theorem dX10_wakes_80 : decode cX10_wakes 80 = .ok (.goto 4, 3) := by decide +kernel
theorem dX10_wakes_83 : decode cX10_wakes 83 = .ok (.iconst 0, 1) := by decide +kernel
theorem dX10_wakes_84 : decode cX10_wakes 84 = .ok (.istore 6, 2) := by decide +kernel
theorem dX10_wakes_86 : decode cX10_wakes 86 = .ok (.iload 4, 2) := by decide +kernel
theorem dX10_wakes_88 : decode cX10_wakes 88 = .ok (.iload 6, 2) := by decide +kernel
theorem dX10_wakes_90 : decode cX10_wakes 90 = .ok (.ifCond .eq 16, 3) := by decide +kernel
theorem dX10_wakes_93 : decode cX10_wakes 93 = .ok (.iload 5, 2) := by decide +kernel
theorem dX10_wakes_95 : decode cX10_wakes 95 = .ok (.iload_n 1, 1) := by decide +kernel
theorem dX10_wakes_96 : decode cX10_wakes 96 = .ok (.if_icmp .eq 10, 3) := by decide +kernel
theorem dX10_wakes_99 : decode cX10_wakes 99 = .ok (.iconst 1, 1) := by decide +kernel
theorem dX10_wakes_100 : decode cX10_wakes 100 = .ok (.iload 5, 2) := by decide +kernel
theorem dX10_wakes_102 : decode cX10_wakes 102 = .ok (.ishl, 1) := by decide +kernel
theorem dX10_wakes_103 : decode cX10_wakes 103 = .ok (.goto 4, 3) := by decide +kernel
theorem dX10_wakes_106 : decode cX10_wakes 106 = .ok (.iconst 0, 1) := by decide +kernel
theorem dX10_wakes_107 : decode cX10_wakes 107 = .ok (.ior, 1) := by decide +kernel
theorem dX10_wakes_108 : decode cX10_wakes 108 = .ok (.istore 4, 2) := by decide +kernel
theorem dX10_wakes_110 : decode cX10_wakes 110 = .ok (.iinc 5 1, 3) := by decide +kernel
theorem dX10_wakes_113 : decode cX10_wakes 113 = .ok (.goto (-65), 3) := by decide +kernel
theorem dX10_wakes_116 : decode cX10_wakes 116 = .ok (.iload 4, 2) := by decide +kernel
theorem dX10_wakes_118 : decode cX10_wakes 118 = .ok (.ireturn, 1) := by decide +kernel
set_option maxRecDepth 20000 in
theorem ggX10_loses_X1_has : GoodIn wsX10_loses wsX1_has := goodIn_r _ [12, 13, 253, 254, 255, 256, 257, 258, 259, 260, 261, 262, 263, 264] (by decide +kernel) (by decide +kernel)
set_option maxRecDepth 20000 in
theorem gX10_loses_X1_has : GoodIn wsX10_loses (wsV RX10 158 RX1 yX1_has wsX1_has) := goodIn_app (goodIn_of _ (by decide +kernel)) ggX10_loses_X1_has
set_option maxRecDepth 20000 in
theorem ggX10_loses_X10_worldWithout : GoodIn wsX10_loses wsX10_worldWithout := goodIn_r _ [18, 19, 20, 1, 2, 3, 21, 22, 23, 24, 25, 26, 27, 28, 29, 30, 31, 32, 33, 34, 35, 36, 37, 38, 39, 40, 41, 42, 43, 44, 45, 46, 47, 48, 49, 50, 51, 52, 53, 54, 55, 56, 57, 58, 59, 60, 61, 62, 11, 63, 13, 64, 65, 66, 67, 68, 69, 70, 71, 72, 73, 74, 75, 76, 77, 78, 79, 80, 81, 82, 83, 84, 85, 86, 87, 88, 89, 90, 91, 92, 93, 94, 9, 10, 12, 95, 96, 97, 98, 99, 100, 101, 102, 103, 104, 105, 106, 107, 108, 109, 110, 111, 112, 113, 114, 115, 116, 117, 118, 119, 120, 121, 122, 123, 124, 125, 126, 127, 128, 129, 130, 131, 132, 133, 134, 135, 136, 137, 138, 139, 140, 141, 142, 143, 144, 145, 146, 147, 148, 149, 150, 151, 152, 153, 154, 155, 156, 157, 158, 159, 160, 161, 162, 163, 164, 165, 166, 167, 168, 169, 170, 171, 172, 173, 174, 175, 176, 177, 178, 179, 180, 181, 182, 183, 184, 185, 186, 187, 188, 189, 190, 191, 192, 193, 194, 195, 196, 197, 198, 199, 200, 201, 202, 203, 204, 205, 206, 207, 208, 209, 210, 211, 212, 213, 214, 215, 216, 217, 218, 219, 220, 221, 222, 223, 224, 225, 230, 231, 232, 233, 234, 235, 236, 265, 266, 267, 268, 269, 270, 237, 238, 239, 240, 241, 242, 243, 244, 245, 246, 247, 248, 249, 250, 251, 252, 271, 272, 273, 274, 275, 276, 277, 278, 253, 254, 255, 256, 257, 258, 259, 260, 261, 262, 263, 264, 279, 280] (by decide +kernel) (by decide +kernel)
set_option maxRecDepth 20000 in
theorem gX10_loses_X10_worldWithout : GoodIn wsX10_loses (wsV RX10 277 RX10 yX10_worldWithout wsX10_worldWithout) := goodIn_app (goodIn_of _ (by decide +kernel)) ggX10_loses_X10_worldWithout
set_option maxRecDepth 20000 in
theorem ggX10_loses_X7_valueSum : GoodIn wsX10_loses wsX7_valueSum := goodIn_r _ [229, 51, 54, 271, 272, 273, 274, 275, 276, 277, 278] (by decide +kernel) (by decide +kernel)
set_option maxRecDepth 20000 in
theorem gX10_loses_X7_valueSum : GoodIn wsX10_loses (wsV RX10 284 RX7 yX7_valueSum wsX7_valueSum) := goodIn_app (goodIn_of _ (by decide +kernel)) ggX10_loses_X7_valueSum
theorem dX10_loses_0 : decode cX10_loses 0 = .ok (.aload_n 0, 1) := by decide +kernel
theorem dX10_loses_1 : decode cX10_loses 1 = .ok (.getfield 26, 3) := by decide +kernel
theorem dX10_loses_4 : decode cX10_loses 4 = .ok (.getfield 60, 3) := by decide +kernel
theorem dX10_loses_7 : decode cX10_loses 7 = .ok (.getfield 90, 3) := by decide +kernel
theorem dX10_loses_10 : decode cX10_loses 10 = .ok (.astore_n 2, 1) := by decide +kernel
theorem dX10_loses_11 : decode cX10_loses 11 = .ok (.aload_n 2, 1) := by decide +kernel
theorem dX10_loses_12 : decode cX10_loses 12 = .ok (.getfield 154, 3) := by decide +kernel
theorem dX10_loses_15 : decode cX10_loses 15 = .ok (.iload_n 1, 1) := by decide +kernel
theorem dX10_loses_16 : decode cX10_loses 16 = .ok (.invokevirtual 158, 3) := by decide +kernel
theorem dX10_loses_19 : decode cX10_loses 19 = .ok (.ifCond .eq 15, 3) := by decide +kernel
theorem dX10_loses_22 : decode cX10_loses 22 = .ok (.aload_n 2, 1) := by decide +kernel
theorem dX10_loses_23 : decode cX10_loses 23 = .ok (.getfield 154, 3) := by decide +kernel
theorem dX10_loses_26 : decode cX10_loses 26 = .ok (.getfield 170, 3) := by decide +kernel
theorem dX10_loses_29 : decode cX10_loses 29 = .ok (.iload_n 1, 1) := by decide +kernel
theorem dX10_loses_30 : decode cX10_loses 30 = .ok (.iaload, 1) := by decide +kernel
theorem dX10_loses_31 : decode cX10_loses 31 = .ok (.ifCond .ne 7, 3) := by decide +kernel
theorem dX10_loses_34 : decode cX10_loses 34 = .ok (.ldc_w 283, 3) := by decide +kernel
theorem dX10_loses_37 : decode cX10_loses 37 = .ok (.ireturn, 1) := by decide +kernel
theorem dX10_loses_38 : decode cX10_loses 38 = .ok (.aload_n 0, 1) := by decide +kernel
theorem dX10_loses_39 : decode cX10_loses 39 = .ok (.iload_n 1, 1) := by decide +kernel
theorem dX10_loses_40 : decode cX10_loses 40 = .ok (.invokevirtual 277, 3) := by decide +kernel
theorem dX10_loses_43 : decode cX10_loses 43 = .ok (.getfield 94, 3) := by decide +kernel
theorem dX10_loses_46 : decode cX10_loses 46 = .ok (.invokevirtual 284, 3) := by decide +kernel
theorem dX10_loses_49 : decode cX10_loses 49 = .ok (.aload_n 2, 1) := by decide +kernel
theorem dX10_loses_50 : decode cX10_loses 50 = .ok (.getfield 94, 3) := by decide +kernel
theorem dX10_loses_53 : decode cX10_loses 53 = .ok (.invokevirtual 284, 3) := by decide +kernel
theorem dX10_loses_56 : decode cX10_loses 56 = .ok (.isub, 1) := by decide +kernel
theorem dX10_loses_57 : decode cX10_loses 57 = .ok (.ireturn, 1) := by decide +kernel
set_option maxRecDepth 20000 in
theorem ggX10_nearest_X4_keyBits : GoodIn wsX10_nearest wsX4_keyBits := goodIn_r _ [10, 11, 12, 13, 9, 14, 15, 16, 17] (by decide +kernel) (by decide +kernel)
set_option maxRecDepth 20000 in
theorem gX10_nearest_X4_keyBits : GoodIn wsX10_nearest (va_wsS RX10 130 yX4_keyBits wsX4_keyBits) := goodIn_app (goodIn_of _ (by decide +kernel)) ggX10_nearest_X4_keyBits
set_option maxRecDepth 20000 in
theorem ggX10_nearest_X4_floatOf : GoodIn wsX10_nearest wsX4_floatOf := goodIn_r _ [20, 21, 22, 17, 15] (by decide +kernel) (by decide +kernel)
set_option maxRecDepth 20000 in
theorem gX10_nearest_X4_floatOf : GoodIn wsX10_nearest (va_wsS RX10 263 yX4_floatOf wsX4_floatOf) := goodIn_app (goodIn_of _ (by decide +kernel)) ggX10_nearest_X4_floatOf
theorem dX10_nearest_0 : decode cX10_nearest 0 = .ok (.iload_n 1, 1) := by decide +kernel
theorem dX10_nearest_1 : decode cX10_nearest 1 = .ok (.iload_n 2, 1) := by decide +kernel
theorem dX10_nearest_2 : decode cX10_nearest 2 = .ok (.invokestatic 130, 3) := by decide +kernel
theorem dX10_nearest_5 : decode cX10_nearest 5 = .ok (.istore_n 3, 1) := by decide +kernel
theorem dX10_nearest_6 : decode cX10_nearest 6 = .ok (.iload_n 3, 1) := by decide +kernel
theorem dX10_nearest_7 : decode cX10_nearest 7 = .ok (.iconst (-1), 1) := by decide +kernel
theorem dX10_nearest_8 : decode cX10_nearest 8 = .ok (.if_icmp .ne 5, 3) := by decide +kernel
theorem dX10_nearest_11 : decode cX10_nearest 11 = .ok (.iconst (-1), 1) := by decide +kernel
theorem dX10_nearest_12 : decode cX10_nearest 12 = .ok (.ireturn, 1) := by decide +kernel
theorem dX10_nearest_13 : decode cX10_nearest 13 = .ok (.aload_n 0, 1) := by decide +kernel
theorem dX10_nearest_14 : decode cX10_nearest 14 = .ok (.getfield 26, 3) := by decide +kernel
theorem dX10_nearest_17 : decode cX10_nearest 17 = .ok (.getfield 60, 3) := by decide +kernel
theorem dX10_nearest_20 : decode cX10_nearest 20 = .ok (.getfield 90, 3) := by decide +kernel
theorem dX10_nearest_23 : decode cX10_nearest 23 = .ok (.getfield 94, 3) := by decide +kernel
theorem dX10_nearest_26 : decode cX10_nearest 26 = .ok (.astore 4, 2) := by decide +kernel
theorem dX10_nearest_28 : decode cX10_nearest 28 = .ok (.iload_n 3, 1) := by decide +kernel
theorem dX10_nearest_29 : decode cX10_nearest 29 = .ok (.invokestatic 263, 3) := by decide +kernel
theorem dX10_nearest_32 : decode cX10_nearest 32 = .ok (.fstore 5, 2) := by decide +kernel
theorem dX10_nearest_34 : decode cX10_nearest 34 = .ok (.fconst 0, 1) := by decide +kernel
theorem dX10_nearest_35 : decode cX10_nearest 35 = .ok (.fstore 6, 2) := by decide +kernel
theorem dX10_nearest_37 : decode cX10_nearest 37 = .ok (.bipush (-2), 2) := by decide +kernel
theorem dX10_nearest_39 : decode cX10_nearest 39 = .ok (.istore 7, 2) := by decide +kernel
theorem dX10_nearest_41 : decode cX10_nearest 41 = .ok (.iconst 0, 1) := by decide +kernel
theorem dX10_nearest_42 : decode cX10_nearest 42 = .ok (.istore 8, 2) := by decide +kernel
theorem dX10_nearest_44 : decode cX10_nearest 44 = .ok (.iload 8, 2) := by decide +kernel
theorem dX10_nearest_46 : decode cX10_nearest 46 = .ok (.aload 4, 2) := by decide +kernel
theorem dX10_nearest_48 : decode cX10_nearest 48 = .ok (.getfield 100, 3) := by decide +kernel
theorem dX10_nearest_51 : decode cX10_nearest 51 = .ok (.if_icmp .ge 63, 3) := by decide +kernel
theorem dX10_nearest_54 : decode cX10_nearest 54 = .ok (.aload 4, 2) := by decide +kernel
theorem dX10_nearest_56 : decode cX10_nearest 56 = .ok (.getfield 112, 3) := by decide +kernel
theorem dX10_nearest_59 : decode cX10_nearest 59 = .ok (.iload 8, 2) := by decide +kernel
theorem dX10_nearest_61 : decode cX10_nearest 61 = .ok (.iaload, 1) := by decide +kernel
theorem dX10_nearest_62 : decode cX10_nearest 62 = .ok (.invokestatic 263, 3) := by decide +kernel
theorem dX10_nearest_65 : decode cX10_nearest 65 = .ok (.fload 5, 2) := by decide +kernel
theorem dX10_nearest_67 : decode cX10_nearest 67 = .ok (.fsub, 1) := by decide +kernel
theorem dX10_nearest_68 : decode cX10_nearest 68 = .ok (.fstore 9, 2) := by decide +kernel
theorem dX10_nearest_70 : decode cX10_nearest 70 = .ok (.fload 9, 2) := by decide +kernel
theorem dX10_nearest_72 : decode cX10_nearest 72 = .ok (.fconst 0, 1) := by decide +kernel
theorem dX10_nearest_73 : decode cX10_nearest 73 = .ok (.fcmp .g, 1) := by decide +kernel
theorem dX10_nearest_74 : decode cX10_nearest 74 = .ok (.ifCond .ge 9, 3) := by decide +kernel
theorem dX10_nearest_77 : decode cX10_nearest 77 = .ok (.fload 9, 2) := by decide +kernel
theorem dX10_nearest_79 : decode cX10_nearest 79 = .ok (.fneg, 1) := by decide +kernel
theorem dX10_nearest_80 : decode cX10_nearest 80 = .ok (.goto 5, 3) := by decide +kernel
theorem dX10_nearest_83 : decode cX10_nearest 83 = .ok (.fload 9, 2) := by decide +kernel
theorem dX10_nearest_85 : decode cX10_nearest 85 = .ok (.fstore 9, 2) := by decide +kernel
theorem dX10_nearest_87 : decode cX10_nearest 87 = .ok (.iload 7, 2) := by decide +kernel
theorem dX10_nearest_89 : decode cX10_nearest 89 = .ok (.ifCond .lt 11, 3) := by decide +kernel
theorem dX10_nearest_92 : decode cX10_nearest 92 = .ok (.fload 9, 2) := by decide +kernel
theorem dX10_nearest_94 : decode cX10_nearest 94 = .ok (.fload 6, 2) := by decide +kernel
theorem dX10_nearest_96 : decode cX10_nearest 96 = .ok (.fcmp .g, 1) := by decide +kernel
theorem dX10_nearest_97 : decode cX10_nearest 97 = .ok (.ifCond .ge 11, 3) := by decide +kernel
theorem dX10_nearest_100 : decode cX10_nearest 100 = .ok (.iload 8, 2) := by decide +kernel
theorem dX10_nearest_102 : decode cX10_nearest 102 = .ok (.istore 7, 2) := by decide +kernel
theorem dX10_nearest_104 : decode cX10_nearest 104 = .ok (.fload 9, 2) := by decide +kernel
theorem dX10_nearest_106 : decode cX10_nearest 106 = .ok (.fstore 6, 2) := by decide +kernel
theorem dX10_nearest_108 : decode cX10_nearest 108 = .ok (.iinc 8 1, 3) := by decide +kernel
theorem dX10_nearest_111 : decode cX10_nearest 111 = .ok (.goto (-67), 3) := by decide +kernel
theorem dX10_nearest_114 : decode cX10_nearest 114 = .ok (.iload 7, 2) := by decide +kernel
theorem dX10_nearest_116 : decode cX10_nearest 116 = .ok (.ireturn, 1) := by decide +kernel
set_option maxRecDepth 20000 in
theorem ggX10_sameOrder_X8_runOut : GoodIn wsX10_sameOrder wsX8_runOut := goodIn_r _ [10, 11, 12, 13, 14, 15, 16, 17, 18, 19, 20, 21, 22, 23, 24, 25, 26, 27, 28, 29, 30, 31, 32, 33, 34, 35, 36, 37, 38, 39, 40, 41, 42, 43, 44, 45, 46, 47, 48, 49, 50, 51, 52, 53, 54, 55, 56, 57, 58, 59, 60, 61, 62, 63, 64, 65, 66, 67, 68, 69, 70, 71, 72, 73, 74, 75, 76, 77, 78, 79, 80, 81, 82, 83, 84, 85, 86, 87, 88, 89, 90, 91, 92, 93, 94, 95, 96, 97, 98, 99, 100, 101, 102, 103, 104, 105, 106, 107, 108, 109, 110, 111, 112, 113, 114, 115, 116, 117, 118, 119, 120, 121, 122, 123, 124, 125, 126, 127, 128, 129, 130, 131, 132, 133, 134, 135, 136, 137, 138, 139, 140, 141, 142, 143, 144, 145, 146, 147, 148, 149, 150, 151, 152, 153, 154, 155, 156, 157, 158, 159, 160, 161, 162, 163, 164, 165, 166, 167, 168, 169, 170, 171, 172, 173, 174, 175, 176, 177, 178, 179, 180, 181, 182, 183, 184, 185, 186, 187, 188, 189, 190, 191, 192, 193, 194, 195, 196, 197, 198, 199, 200, 201, 202, 203, 204, 205, 206, 207, 208, 209, 210, 211, 212, 213, 214, 215, 216, 217, 218, 219, 220, 221, 222, 223, 224, 225, 226, 227, 228, 229, 230, 231, 232, 233, 234, 235, 236, 237, 238, 239, 240, 241, 242, 243, 244, 245, 246, 247, 248, 249, 250, 251, 252, 253, 254, 297, 298, 299, 300, 301, 302, 313, 314, 315, 316, 317, 318, 319, 320, 321, 322, 323, 324, 325, 303, 304, 305, 306, 307, 308, 309, 310, 311, 312, 326, 327, 328, 329, 330, 331, 332, 333, 334, 335, 336, 337, 338, 339, 340, 341, 342, 343, 344, 345, 346, 347] (by decide +kernel) (by decide +kernel)
set_option maxRecDepth 20000 in
theorem gX10_sameOrder_X8_runOut : GoodIn wsX10_sameOrder (wsV RX10 236 RX8 yX8_runOut wsX8_runOut) := goodIn_app (goodIn_of _ (by decide +kernel)) ggX10_sameOrder_X8_runOut
set_option maxRecDepth 20000 in
theorem ggX10_sameOrder_X8_matchOrders : GoodIn wsX10_sameOrder wsX8_matchOrders := goodIn_r _ [258, 11, 259, 260, 261, 13, 262, 263, 50, 51, 52, 264, 265, 266, 9, 267, 12, 14, 268, 269, 270, 271, 272, 273, 274, 29, 30, 31, 32, 33, 34, 35, 36, 37, 38, 39, 40, 41, 42, 43, 44, 45, 46, 47, 48, 49, 53, 54, 55, 56, 57, 58, 59, 60, 61, 62, 63, 64, 65, 66, 67, 68, 69, 70, 71, 72, 253, 96, 97, 98, 99, 100, 101, 102, 103, 104, 105, 106, 107, 108, 109, 110, 111, 112, 113, 114, 115, 116, 117, 118, 119, 120, 121, 122, 123, 124, 125, 126, 127, 128, 129, 130, 131, 132, 133, 134, 135, 136, 137, 138, 139, 140, 141, 142, 143, 144, 145, 146, 147, 148, 149, 150, 151, 152, 153, 154, 155, 156, 157, 158, 159, 160, 161, 162, 163, 164, 165, 166, 167, 168, 169, 170, 171, 172, 173, 174, 175, 176, 177, 178, 179, 180, 181, 182, 183, 184, 185, 186, 187, 188, 189, 190, 191, 192, 193, 194, 195, 196, 197, 198, 199, 200, 201, 202, 203, 204, 205, 206, 207, 208, 209, 210, 211, 212, 213, 214, 215, 216, 217, 218, 219, 220, 221, 222, 223, 224, 225, 226, 227, 228, 229, 230, 231, 232, 233, 234, 235, 236, 237, 238, 239, 240, 241, 242, 243, 244, 245, 246, 247, 248, 275, 276, 277, 278, 17, 279, 16, 280, 281, 282, 283, 284, 285, 286, 287, 288, 289, 297, 298, 299, 300, 301, 302, 303, 304, 305, 306, 307, 308, 309, 310, 311, 312, 313, 314, 315, 316, 317, 318, 319, 320, 321, 322, 323, 324, 325, 326, 327, 328, 329, 330, 331, 332, 333, 334, 335, 336, 337, 338, 339, 340, 341, 342, 343, 344, 345, 346, 347] (by decide +kernel) (by decide +kernel)
set_option maxRecDepth 20000 in
theorem gX10_sameOrder_X8_matchOrders : GoodIn wsX10_sameOrder (wsV RX10 239 RX8 yX8_matchOrders wsX8_matchOrders) := goodIn_app (goodIn_of _ (by decide +kernel)) ggX10_sameOrder_X8_matchOrders
theorem dX10_sameOrder_0 : decode cX10_sameOrder 0 = .ok (.iload_n 1, 1) := by decide +kernel
theorem dX10_sameOrder_1 : decode cX10_sameOrder 1 = .ok (.ifCond .ge 5, 3) := by decide +kernel
theorem dX10_sameOrder_4 : decode cX10_sameOrder 4 = .ok (.iconst (-1), 1) := by decide +kernel
theorem dX10_sameOrder_5 : decode cX10_sameOrder 5 = .ok (.ireturn, 1) := by decide +kernel
theorem dX10_sameOrder_6 : decode cX10_sameOrder 6 = .ok (.aload_n 0, 1) := by decide +kernel
theorem dX10_sameOrder_7 : decode cX10_sameOrder 7 = .ok (.getfield 19, 3) := by decide +kernel
theorem dX10_sameOrder_10 : decode cX10_sameOrder 10 = .ok (.aload_n 0, 1) := by decide +kernel
theorem dX10_sameOrder_11 : decode cX10_sameOrder 11 = .ok (.getfield 37, 3) := by decide +kernel
theorem dX10_sameOrder_14 : decode cX10_sameOrder 14 = .ok (.invokevirtual 236, 3) := by decide +kernel
theorem dX10_sameOrder_17 : decode cX10_sameOrder 17 = .ok (.aload_n 0, 1) := by decide +kernel
theorem dX10_sameOrder_18 : decode cX10_sameOrder 18 = .ok (.getfield 19, 3) := by decide +kernel
theorem dX10_sameOrder_21 : decode cX10_sameOrder 21 = .ok (.aload_n 0, 1) := by decide +kernel
theorem dX10_sameOrder_22 : decode cX10_sameOrder 22 = .ok (.getfield 37, 3) := by decide +kernel
theorem dX10_sameOrder_25 : decode cX10_sameOrder 25 = .ok (.invokevirtual 239, 3) := by decide +kernel
theorem dX10_sameOrder_28 : decode cX10_sameOrder 28 = .ok (.aload_n 0, 1) := by decide +kernel
theorem dX10_sameOrder_29 : decode cX10_sameOrder 29 = .ok (.getfield 19, 3) := by decide +kernel
theorem dX10_sameOrder_32 : decode cX10_sameOrder 32 = .ok (.getfield 242, 3) := by decide +kernel
theorem dX10_sameOrder_35 : decode cX10_sameOrder 35 = .ok (.ifCond .eq 14, 3) := by decide +kernel
theorem dX10_sameOrder_38 : decode cX10_sameOrder 38 = .ok (.iload_n 1, 1) := by decide +kernel
theorem dX10_sameOrder_39 : decode cX10_sameOrder 39 = .ok (.aload_n 0, 1) := by decide +kernel
theorem dX10_sameOrder_40 : decode cX10_sameOrder 40 = .ok (.getfield 37, 3) := by decide +kernel
theorem dX10_sameOrder_43 : decode cX10_sameOrder 43 = .ok (.getfield 248, 3) := by decide +kernel
theorem dX10_sameOrder_46 : decode cX10_sameOrder 46 = .ok (.if_icmp .lt 8, 3) := by decide +kernel
theorem dX10_sameOrder_49 : decode cX10_sameOrder 49 = .ok (.bipush (-2), 2) := by decide +kernel
theorem dX10_sameOrder_51 : decode cX10_sameOrder 51 = .ok (.goto 12, 3) := by decide +kernel
theorem dX10_sameOrder_54 : decode cX10_sameOrder 54 = .ok (.aload_n 0, 1) := by decide +kernel
theorem dX10_sameOrder_55 : decode cX10_sameOrder 55 = .ok (.getfield 19, 3) := by decide +kernel
theorem dX10_sameOrder_58 : decode cX10_sameOrder 58 = .ok (.getfield 288, 3) := by decide +kernel
theorem dX10_sameOrder_61 : decode cX10_sameOrder 61 = .ok (.iload_n 1, 1) := by decide +kernel
theorem dX10_sameOrder_62 : decode cX10_sameOrder 62 = .ok (.iaload, 1) := by decide +kernel
theorem dX10_sameOrder_63 : decode cX10_sameOrder 63 = .ok (.ireturn, 1) := by decide +kernel
set_option maxRecDepth 20000 in
theorem ggX10_take_X2_init : GoodIn wsX10_take wsX2_init := goodIn_r _ [8, 9, 10, 11, 12, 13, 14, 15, 16, 17, 18, 19, 20, 21, 22, 23, 24, 25, 26, 27, 28, 29, 30, 31, 32, 33, 34, 35, 36, 37, 38, 39, 40, 41, 42, 43, 44, 45, 46, 47, 48, 49, 50, 51, 52, 53, 54, 55, 56, 57, 58, 59, 60, 61, 62, 63, 64, 65, 66, 67, 68, 69, 70, 71, 123, 124, 125, 126, 127, 120, 121, 122, 128, 129, 130, 131, 132, 133, 134, 135, 136, 137, 138, 139, 140, 141, 142, 143, 144, 145, 146, 147, 148, 149, 150, 151, 152, 153, 154, 155, 156, 157] (by decide +kernel) (by decide +kernel)
set_option maxRecDepth 20000 in
theorem gX10_take_X2_init_n25 : GoodIn wsX10_take (wsX2_init) := ggX10_take_X2_init
set_option maxRecDepth 20000 in
theorem ggX10_take_X2_copyFrom : GoodIn wsX10_take wsX2_copyFrom := goodIn_r _ [75, 15, 17, 76, 77, 78, 79, 80, 81, 82, 83, 14, 84, 24, 26, 85, 27, 86, 28, 87, 88, 89, 23, 90, 35, 39, 43, 91, 92, 93, 94, 95, 96, 34, 97, 98, 47, 99, 48, 49, 50, 51, 52, 53, 100, 101, 102, 38, 103, 104, 105, 57, 106, 58, 59, 60, 61, 62, 63, 64, 65, 66, 107, 108, 109, 42, 110, 111, 71, 112, 120, 121, 122, 123, 124, 125, 126, 127, 128, 129, 130, 131, 132, 133, 134, 135, 136, 137, 138, 139, 140, 141, 142, 143, 144, 145, 146, 147, 148, 149, 150, 151, 152, 153, 154, 155, 156, 157] (by decide +kernel) (by decide +kernel)
set_option maxRecDepth 20000 in
theorem gX10_take_X2_copyFrom : GoodIn wsX10_take (wsV RX10 291 RX2 yX2_copyFrom wsX2_copyFrom) := goodIn_app (goodIn_of _ (by decide +kernel)) ggX10_take_X2_copyFrom
theorem dX10_take_0 : decode cX10_take 0 = .ok (.aload_n 0, 1) := by decide +kernel
theorem dX10_take_1 : decode cX10_take 1 = .ok (.getfield 70, 3) := by decide +kernel
theorem dX10_take_4 : decode cX10_take 4 = .ok (.bipush 16, 2) := by decide +kernel
theorem dX10_take_6 : decode cX10_take 6 = .ok (.if_icmp .lt 5, 3) := by decide +kernel
theorem dX10_take_9 : decode cX10_take 9 = .ok (.iconst (-1), 1) := by decide +kernel
theorem dX10_take_10 : decode cX10_take 10 = .ok (.ireturn, 1) := by decide +kernel
theorem dX10_take_11 : decode cX10_take 11 = .ok (.aload_n 0, 1) := by decide +kernel
theorem dX10_take_12 : decode cX10_take 12 = .ok (.getfield 30, 3) := by decide +kernel
theorem dX10_take_15 : decode cX10_take 15 = .ok (.aload_n 0, 1) := by decide +kernel
theorem dX10_take_16 : decode cX10_take 16 = .ok (.getfield 70, 3) := by decide +kernel
theorem dX10_take_19 : decode cX10_take 19 = .ok (.aaload, 1) := by decide +kernel
theorem dX10_take_20 : decode cX10_take 20 = .ok (.ifnonnull 19, 3) := by decide +kernel
theorem dX10_take_23 : decode cX10_take 23 = .ok (.aload_n 0, 1) := by decide +kernel
theorem dX10_take_24 : decode cX10_take 24 = .ok (.getfield 30, 3) := by decide +kernel
theorem dX10_take_27 : decode cX10_take 27 = .ok (.aload_n 0, 1) := by decide +kernel
theorem dX10_take_28 : decode cX10_take 28 = .ok (.getfield 70, 3) := by decide +kernel
theorem dX10_take_31 : decode cX10_take 31 = .ok (.new 23, 3) := by decide +kernel
theorem dX10_take_34 : decode cX10_take 34 = .ok (.dup, 1) := by decide +kernel
theorem dX10_take_35 : decode cX10_take 35 = .ok (.invokespecial 25, 3) := by decide +kernel
theorem dX10_take_38 : decode cX10_take 38 = .ok (.aastore, 1) := by decide +kernel
theorem dX10_take_39 : decode cX10_take 39 = .ok (.aload_n 0, 1) := by decide +kernel
theorem dX10_take_40 : decode cX10_take 40 = .ok (.getfield 30, 3) := by decide +kernel
theorem dX10_take_43 : decode cX10_take 43 = .ok (.aload_n 0, 1) := by decide +kernel
theorem dX10_take_44 : decode cX10_take 44 = .ok (.getfield 70, 3) := by decide +kernel
theorem dX10_take_47 : decode cX10_take 47 = .ok (.aaload, 1) := by decide +kernel
theorem dX10_take_48 : decode cX10_take 48 = .ok (.aload_n 0, 1) := by decide +kernel
theorem dX10_take_49 : decode cX10_take 49 = .ok (.getfield 26, 3) := by decide +kernel
theorem dX10_take_52 : decode cX10_take 52 = .ok (.invokevirtual 291, 3) := by decide +kernel
theorem dX10_take_55 : decode cX10_take 55 = .ok (.aload_n 0, 1) := by decide +kernel
theorem dX10_take_56 : decode cX10_take 56 = .ok (.dup, 1) := by decide +kernel
theorem dX10_take_57 : decode cX10_take 57 = .ok (.getfield 70, 3) := by decide +kernel
theorem dX10_take_60 : decode cX10_take 60 = .ok (.iconst 1, 1) := by decide +kernel
theorem dX10_take_61 : decode cX10_take 61 = .ok (.iadd, 1) := by decide +kernel
theorem dX10_take_62 : decode cX10_take 62 = .ok (.putfield 70, 3) := by decide +kernel
theorem dX10_take_65 : decode cX10_take 65 = .ok (.aload_n 0, 1) := by decide +kernel
theorem dX10_take_66 : decode cX10_take 66 = .ok (.getfield 70, 3) := by decide +kernel
theorem dX10_take_69 : decode cX10_take 69 = .ok (.ireturn, 1) := by decide +kernel
set_option maxRecDepth 20000 in
theorem ggX10_back_X2_copyFrom : GoodIn wsX10_back wsX2_copyFrom := goodIn_r _ [8, 9, 10, 11, 12, 13, 14, 15, 16, 17, 18, 19, 20, 21, 22, 23, 24, 25, 26, 27, 28, 29, 30, 31, 32, 33, 34, 35, 36, 37, 38, 39, 40, 41, 42, 43, 44, 45, 46, 47, 48, 49, 50, 51, 52, 53, 54, 55, 56, 57, 58, 59, 60, 61, 62, 63, 64, 65, 66, 67, 68, 69, 70, 71, 72, 73, 74, 75, 76, 77, 85, 86, 87, 88, 89, 90, 91, 92, 93, 94, 95, 96, 97, 98, 99, 100, 101, 102, 103, 104, 105, 106, 107, 108, 109, 110, 111, 112, 113, 114, 115, 116, 117, 118, 119, 120, 121, 122] (by decide +kernel) (by decide +kernel)
set_option maxRecDepth 20000 in
theorem gX10_back_X2_copyFrom : GoodIn wsX10_back (wsV RX10 291 RX2 yX2_copyFrom wsX2_copyFrom) := goodIn_app (goodIn_of _ (by decide +kernel)) ggX10_back_X2_copyFrom
theorem dX10_back_0 : decode cX10_back 0 = .ok (.aload_n 0, 1) := by decide +kernel
theorem dX10_back_1 : decode cX10_back 1 = .ok (.getfield 70, 3) := by decide +kernel
theorem dX10_back_4 : decode cX10_back 4 = .ok (.ifCond .le 17, 3) := by decide +kernel
theorem dX10_back_7 : decode cX10_back 7 = .ok (.aload_n 0, 1) := by decide +kernel
theorem dX10_back_8 : decode cX10_back 8 = .ok (.getfield 30, 3) := by decide +kernel
theorem dX10_back_11 : decode cX10_back 11 = .ok (.aload_n 0, 1) := by decide +kernel
theorem dX10_back_12 : decode cX10_back 12 = .ok (.getfield 70, 3) := by decide +kernel
theorem dX10_back_15 : decode cX10_back 15 = .ok (.iconst 1, 1) := by decide +kernel
theorem dX10_back_16 : decode cX10_back 16 = .ok (.isub, 1) := by decide +kernel
theorem dX10_back_17 : decode cX10_back 17 = .ok (.aaload, 1) := by decide +kernel
theorem dX10_back_18 : decode cX10_back 18 = .ok (.ifnonnull 5, 3) := by decide +kernel
theorem dX10_back_21 : decode cX10_back 21 = .ok (.iconst (-1), 1) := by decide +kernel
theorem dX10_back_22 : decode cX10_back 22 = .ok (.ireturn, 1) := by decide +kernel
theorem dX10_back_23 : decode cX10_back 23 = .ok (.aload_n 0, 1) := by decide +kernel
theorem dX10_back_24 : decode cX10_back 24 = .ok (.dup, 1) := by decide +kernel
theorem dX10_back_25 : decode cX10_back 25 = .ok (.getfield 70, 3) := by decide +kernel
theorem dX10_back_28 : decode cX10_back 28 = .ok (.iconst 1, 1) := by decide +kernel
theorem dX10_back_29 : decode cX10_back 29 = .ok (.isub, 1) := by decide +kernel
theorem dX10_back_30 : decode cX10_back 30 = .ok (.putfield 70, 3) := by decide +kernel
theorem dX10_back_33 : decode cX10_back 33 = .ok (.aload_n 0, 1) := by decide +kernel
theorem dX10_back_34 : decode cX10_back 34 = .ok (.getfield 26, 3) := by decide +kernel
theorem dX10_back_37 : decode cX10_back 37 = .ok (.aload_n 0, 1) := by decide +kernel
theorem dX10_back_38 : decode cX10_back 38 = .ok (.getfield 30, 3) := by decide +kernel
theorem dX10_back_41 : decode cX10_back 41 = .ok (.aload_n 0, 1) := by decide +kernel
theorem dX10_back_42 : decode cX10_back 42 = .ok (.getfield 70, 3) := by decide +kernel
theorem dX10_back_45 : decode cX10_back 45 = .ok (.aaload, 1) := by decide +kernel
theorem dX10_back_46 : decode cX10_back 46 = .ok (.invokevirtual 291, 3) := by decide +kernel
theorem dX10_back_49 : decode cX10_back 49 = .ok (.aload_n 0, 1) := by decide +kernel
theorem dX10_back_50 : decode cX10_back 50 = .ok (.getfield 70, 3) := by decide +kernel
theorem dX10_back_53 : decode cX10_back 53 = .ok (.ireturn, 1) := by decide +kernel
set_option maxRecDepth 20000 in
theorem ggX10_count_X0_marked : GoodIn wsX10_count wsX0_marked := goodIn_r _ [15, 16, 17, 71, 72, 73, 74, 75, 76, 77, 78, 79, 80, 66, 67, 68, 69, 70] (by decide +kernel) (by decide +kernel)
set_option maxRecDepth 20000 in
theorem gX10_count_X0_marked : GoodIn wsX10_count (wsV RX10 229 RX0 yX0_marked wsX0_marked) := goodIn_app (goodIn_of _ (by decide +kernel)) ggX10_count_X0_marked
set_option maxRecDepth 20000 in
theorem ggX10_count_X9_allLocks : GoodIn wsX10_count wsX9_allLocks := goodIn_r _ [22, 23, 24, 25, 26, 27, 28, 29, 30, 31, 32, 33, 81, 82, 83, 84, 85, 86, 87, 88, 97, 98, 99, 100, 101, 102, 103, 104, 105, 106, 107, 108, 89, 90, 91, 92, 93, 94, 95, 96] (by decide +kernel) (by decide +kernel)
set_option maxRecDepth 20000 in
theorem gX10_count_X9_allLocks : GoodIn wsX10_count (wsV RX10 295 RX9 yX9_allLocks wsX9_allLocks) := goodIn_app (goodIn_of _ (by decide +kernel)) ggX10_count_X9_allLocks
set_option maxRecDepth 20000 in
theorem ggX10_count_X1_inState : GoodIn wsX10_count wsX1_inState := goodIn_r _ [38, 39, 40, 97, 98, 99, 100, 101, 102, 103, 104, 105, 106, 107, 108] (by decide +kernel) (by decide +kernel)
set_option maxRecDepth 20000 in
theorem gX10_count_X1_inState : GoodIn wsX10_count (wsV RX10 298 RX1 yX1_inState wsX1_inState) := goodIn_app (goodIn_of _ (by decide +kernel)) ggX10_count_X1_inState
set_option maxRecDepth 20000 in
theorem ggX10_count_X1_allDeaths : GoodIn wsX10_count wsX1_allDeaths := goodIn_r _ [44, 39, 45, 97, 98, 99, 100, 101, 102, 103, 104, 105, 106, 107, 108] (by decide +kernel) (by decide +kernel)
set_option maxRecDepth 20000 in
theorem gX10_count_X1_allDeaths : GoodIn wsX10_count (wsV RX10 301 RX1 yX1_allDeaths wsX1_allDeaths) := goodIn_app (goodIn_of _ (by decide +kernel)) ggX10_count_X1_allDeaths
set_option maxRecDepth 20000 in
theorem ggX10_count_X7_valueSum : GoodIn wsX10_count wsX7_valueSum := goodIn_r _ [49, 32, 50, 89, 90, 91, 92, 93, 94, 95, 96] (by decide +kernel) (by decide +kernel)
set_option maxRecDepth 20000 in
theorem gX10_count_X7_valueSum : GoodIn wsX10_count (wsV RX10 284 RX7 yX7_valueSum wsX7_valueSum) := goodIn_app (goodIn_of _ (by decide +kernel)) ggX10_count_X7_valueSum
set_option maxRecDepth 20000 in
theorem ggX10_count_X7_cutKeys : GoodIn wsX10_count wsX7_cutKeys := goodIn_r _ [54, 32, 55, 89, 90, 91, 92, 93, 94, 95, 96] (by decide +kernel) (by decide +kernel)
set_option maxRecDepth 20000 in
theorem gX10_count_X7_cutKeys : GoodIn wsX10_count (wsV RX10 304 RX7 yX7_cutKeys wsX7_cutKeys) := goodIn_app (goodIn_of _ (by decide +kernel)) ggX10_count_X7_cutKeys
theorem dX10_count_0 : decode cX10_count 0 = .ok (.aload_n 0, 1) := by decide +kernel
theorem dX10_count_1 : decode cX10_count 1 = .ok (.getfield 26, 3) := by decide +kernel
theorem dX10_count_4 : decode cX10_count 4 = .ok (.getfield 60, 3) := by decide +kernel
theorem dX10_count_7 : decode cX10_count 7 = .ok (.getfield 90, 3) := by decide +kernel
theorem dX10_count_10 : decode cX10_count 10 = .ok (.astore_n 2, 1) := by decide +kernel
theorem dX10_count_11 : decode cX10_count 11 = .ok (.iload_n 1, 1) := by decide +kernel
theorem dX10_count_12 : decode cX10_count 12 = .ok (.tableswitch 172 0 11 #[64, 72, 80, 88, 104, 120, 125, 134, 143, 151, 159, 167], 64) := by decide +kernel
theorem dX10_count_76 : decode cX10_count 76 = .ok (.aload_n 0, 1) := by decide +kernel
theorem dX10_count_77 : decode cX10_count 77 = .ok (.getfield 37, 3) := by decide +kernel
theorem dX10_count_80 : decode cX10_count 80 = .ok (.getfield 248, 3) := by decide +kernel
theorem dX10_count_83 : decode cX10_count 83 = .ok (.ireturn, 1) := by decide +kernel
theorem dX10_count_84 : decode cX10_count 84 = .ok (.aload_n 2, 1) := by decide +kernel
theorem dX10_count_85 : decode cX10_count 85 = .ok (.getfield 94, 3) := by decide +kernel
theorem dX10_count_88 : decode cX10_count 88 = .ok (.getfield 100, 3) := by decide +kernel
theorem dX10_count_91 : decode cX10_count 91 = .ok (.ireturn, 1) := by decide +kernel
theorem dX10_count_92 : decode cX10_count 92 = .ok (.aload_n 0, 1) := by decide +kernel
theorem dX10_count_93 : decode cX10_count 93 = .ok (.getfield 37, 3) := by decide +kernel
theorem dX10_count_96 : decode cX10_count 96 = .ok (.getfield 226, 3) := by decide +kernel
theorem dX10_count_99 : decode cX10_count 99 = .ok (.ireturn, 1) := by decide +kernel
theorem dX10_count_100 : decode cX10_count 100 = .ok (.aload_n 0, 1) := by decide +kernel
theorem dX10_count_101 : decode cX10_count 101 = .ok (.getfield 26, 3) := by decide +kernel
theorem dX10_count_104 : decode cX10_count 104 = .ok (.getfield 60, 3) := by decide +kernel
theorem dX10_count_107 : decode cX10_count 107 = .ok (.aload_n 0, 1) := by decide +kernel
theorem dX10_count_108 : decode cX10_count 108 = .ok (.getfield 37, 3) := by decide +kernel
theorem dX10_count_111 : decode cX10_count 111 = .ok (.iconst 2, 1) := by decide +kernel
theorem dX10_count_112 : decode cX10_count 112 = .ok (.invokevirtual 229, 3) := by decide +kernel
theorem dX10_count_115 : decode cX10_count 115 = .ok (.ireturn, 1) := by decide +kernel
theorem dX10_count_116 : decode cX10_count 116 = .ok (.aload_n 0, 1) := by decide +kernel
theorem dX10_count_117 : decode cX10_count 117 = .ok (.getfield 26, 3) := by decide +kernel
theorem dX10_count_120 : decode cX10_count 120 = .ok (.getfield 60, 3) := by decide +kernel
theorem dX10_count_123 : decode cX10_count 123 = .ok (.aload_n 0, 1) := by decide +kernel
theorem dX10_count_124 : decode cX10_count 124 = .ok (.getfield 37, 3) := by decide +kernel
theorem dX10_count_127 : decode cX10_count 127 = .ok (.iconst 1, 1) := by decide +kernel
theorem dX10_count_128 : decode cX10_count 128 = .ok (.invokevirtual 229, 3) := by decide +kernel
theorem dX10_count_131 : decode cX10_count 131 = .ok (.ireturn, 1) := by decide +kernel
theorem dX10_count_132 : decode cX10_count 132 = .ok (.aload_n 2, 1) := by decide +kernel
theorem dX10_count_133 : decode cX10_count 133 = .ok (.invokevirtual 295, 3) := by decide +kernel
theorem dX10_count_136 : decode cX10_count 136 = .ok (.ireturn, 1) := by decide +kernel
theorem dX10_count_137 : decode cX10_count 137 = .ok (.aload_n 2, 1) := by decide +kernel
theorem dX10_count_138 : decode cX10_count 138 = .ok (.getfield 154, 3) := by decide +kernel
theorem dX10_count_141 : decode cX10_count 141 = .ok (.iconst 1, 1) := by decide +kernel
theorem dX10_count_142 : decode cX10_count 142 = .ok (.invokevirtual 298, 3) := by decide +kernel
theorem dX10_count_145 : decode cX10_count 145 = .ok (.ireturn, 1) := by decide +kernel
theorem dX10_count_146 : decode cX10_count 146 = .ok (.aload_n 2, 1) := by decide +kernel
theorem dX10_count_147 : decode cX10_count 147 = .ok (.getfield 154, 3) := by decide +kernel
theorem dX10_count_150 : decode cX10_count 150 = .ok (.iconst 2, 1) := by decide +kernel
theorem dX10_count_151 : decode cX10_count 151 = .ok (.invokevirtual 298, 3) := by decide +kernel
theorem dX10_count_154 : decode cX10_count 154 = .ok (.ireturn, 1) := by decide +kernel
theorem dX10_count_155 : decode cX10_count 155 = .ok (.aload_n 2, 1) := by decide +kernel
theorem dX10_count_156 : decode cX10_count 156 = .ok (.getfield 154, 3) := by decide +kernel
theorem dX10_count_159 : decode cX10_count 159 = .ok (.invokevirtual 301, 3) := by decide +kernel
theorem dX10_count_162 : decode cX10_count 162 = .ok (.ireturn, 1) := by decide +kernel
theorem dX10_count_163 : decode cX10_count 163 = .ok (.aload_n 2, 1) := by decide +kernel
theorem dX10_count_164 : decode cX10_count 164 = .ok (.getfield 94, 3) := by decide +kernel
theorem dX10_count_167 : decode cX10_count 167 = .ok (.invokevirtual 284, 3) := by decide +kernel
theorem dX10_count_170 : decode cX10_count 170 = .ok (.ireturn, 1) := by decide +kernel
theorem dX10_count_171 : decode cX10_count 171 = .ok (.aload_n 2, 1) := by decide +kernel
theorem dX10_count_172 : decode cX10_count 172 = .ok (.getfield 94, 3) := by decide +kernel
theorem dX10_count_175 : decode cX10_count 175 = .ok (.invokevirtual 304, 3) := by decide +kernel
theorem dX10_count_178 : decode cX10_count 178 = .ok (.ireturn, 1) := by decide +kernel
theorem dX10_count_179 : decode cX10_count 179 = .ok (.aload_n 0, 1) := by decide +kernel
theorem dX10_count_180 : decode cX10_count 180 = .ok (.getfield 70, 3) := by decide +kernel
theorem dX10_count_183 : decode cX10_count 183 = .ok (.ireturn, 1) := by decide +kernel
theorem dX10_count_184 : decode cX10_count 184 = .ok (.iconst (-1), 1) := by decide +kernel
theorem dX10_count_185 : decode cX10_count 185 = .ok (.ireturn, 1) := by decide +kernel
set_option maxRecDepth 20000 in
theorem ggX10_actOnKey_X9_act : GoodIn wsX10_actOnKey wsX9_act := goodIn_r _ [8, 9, 10, 11, 12, 13, 14, 15, 16, 17, 18, 19, 20, 21, 22, 23, 24, 25, 7, 26, 27, 28, 29, 30, 31, 32, 33, 34, 35, 36, 37, 38, 39, 40, 41, 42, 43, 44, 45, 46, 47, 48, 49, 50, 51, 52, 53, 54, 55, 56, 57, 58, 59, 60, 61, 62, 63, 64, 65, 66, 67, 68, 69, 70, 71, 72, 73, 74, 75, 76, 77, 78, 79, 80, 81, 82, 83, 84, 85, 86, 87, 88, 89, 90, 91, 92, 93, 94, 95, 96, 97, 98, 99, 100, 101, 102, 103, 104, 105, 106, 107, 108, 109, 110, 111, 112, 113, 114, 115, 116, 117, 118, 119, 120, 121, 122, 123, 124, 125, 126, 127, 128, 129, 130, 131, 132, 133, 134, 135, 136, 137, 138, 139, 140, 141, 142, 143, 144, 145, 146, 147, 148, 149, 150, 151, 152, 153, 154, 155, 156, 157, 158, 159, 160, 161, 162, 163, 164, 165, 166, 167, 168, 169, 170, 171, 172, 173, 174, 175, 176, 177, 178, 194, 195, 196, 197, 198, 199, 200, 201, 202, 203, 204, 205, 206, 207, 208, 209, 210, 211, 212, 213, 214, 215, 216, 217, 218, 219, 220, 221, 222, 223] (by decide +kernel) (by decide +kernel)
set_option maxRecDepth 20000 in
theorem gX10_actOnKey_X9_act : GoodIn wsX10_actOnKey (wsV RX10 208 RX9 yX9_act wsX9_act) := goodIn_app (goodIn_of _ (by decide +kernel)) ggX10_actOnKey_X9_act
theorem dX10_actOnKey_0 : decode cX10_actOnKey 0 = .ok (.iload_n 3, 1) := by decide +kernel
theorem dX10_actOnKey_1 : decode cX10_actOnKey 1 = .ok (.iconst (-1), 1) := by decide +kernel
theorem dX10_actOnKey_2 : decode cX10_actOnKey 2 = .ok (.if_icmp .eq 16, 3) := by decide +kernel
theorem dX10_actOnKey_5 : decode cX10_actOnKey 5 = .ok (.iload 4, 2) := by decide +kernel
theorem dX10_actOnKey_7 : decode cX10_actOnKey 7 = .ok (.ifCond .lt 11, 3) := by decide +kernel
theorem dX10_actOnKey_10 : decode cX10_actOnKey 10 = .ok (.iload 4, 2) := by decide +kernel
theorem dX10_actOnKey_12 : decode cX10_actOnKey 12 = .ok (.sipush 9999, 3) := by decide +kernel
theorem dX10_actOnKey_15 : decode cX10_actOnKey 15 = .ok (.if_icmp .le 5, 3) := by decide +kernel
theorem dX10_actOnKey_18 : decode cX10_actOnKey 18 = .ok (.iconst (-1), 1) := by decide +kernel
theorem dX10_actOnKey_19 : decode cX10_actOnKey 19 = .ok (.ireturn, 1) := by decide +kernel
theorem dX10_actOnKey_20 : decode cX10_actOnKey 20 = .ok (.aload_n 0, 1) := by decide +kernel
theorem dX10_actOnKey_21 : decode cX10_actOnKey 21 = .ok (.getfield 26, 3) := by decide +kernel
theorem dX10_actOnKey_24 : decode cX10_actOnKey 24 = .ok (.getfield 60, 3) := by decide +kernel
theorem dX10_actOnKey_27 : decode cX10_actOnKey 27 = .ok (.getfield 90, 3) := by decide +kernel
theorem dX10_actOnKey_30 : decode cX10_actOnKey 30 = .ok (.iload_n 1, 1) := by decide +kernel
theorem dX10_actOnKey_31 : decode cX10_actOnKey 31 = .ok (.iload_n 2, 1) := by decide +kernel
theorem dX10_actOnKey_32 : decode cX10_actOnKey 32 = .ok (.iload_n 3, 1) := by decide +kernel
theorem dX10_actOnKey_33 : decode cX10_actOnKey 33 = .ok (.iload_n 3, 1) := by decide +kernel
theorem dX10_actOnKey_34 : decode cX10_actOnKey 34 = .ok (.iload 4, 2) := by decide +kernel
theorem dX10_actOnKey_36 : decode cX10_actOnKey 36 = .ok (.invokevirtual 208, 3) := by decide +kernel
theorem dX10_actOnKey_39 : decode cX10_actOnKey 39 = .ok (.ireturn, 1) := by decide +kernel
set_option maxRecDepth 20000 in
theorem ggX10_worldWithout_X0_copyFrom : GoodIn wsX10_worldWithout wsX0_copyFrom := goodIn_r _ [10, 11, 12, 13, 14, 15, 16, 17, 18, 19, 20, 21, 22, 23, 24, 25, 26, 27, 28, 29, 30, 31, 32, 33, 34, 35, 36, 37, 38, 39, 40, 41, 42, 43, 44, 45, 46, 47, 48, 49, 50, 51, 52, 53, 54, 55, 56, 57, 58, 59, 60, 61, 62, 63, 64, 65, 66, 67, 68, 69, 70, 232, 233, 234, 235, 236, 237, 238, 239, 240, 241, 242, 243, 244, 245, 246, 247, 248, 249, 250, 251, 252, 253, 254, 255, 256, 257, 258, 259, 260, 261, 262, 263, 264, 265, 266] (by decide +kernel) (by decide +kernel)
set_option maxRecDepth 20000 in
theorem gX10_worldWithout_X0_copyFrom : GoodIn wsX10_worldWithout (wsV RX10 307 RX0 yX0_copyFrom wsX0_copyFrom) := goodIn_app (goodIn_of _ (by decide +kernel)) ggX10_worldWithout_X0_copyFrom
set_option maxRecDepth 20000 in
theorem ggX10_worldWithout_X9_act : GoodIn wsX10_worldWithout wsX9_act := goodIn_r _ [74, 26, 75, 76, 77, 78, 79, 48, 80, 52, 81, 82, 83, 84, 50, 85, 86, 87, 23, 88, 25, 89, 90, 91, 92, 93, 34, 94, 36, 42, 43, 37, 39, 40, 41, 44, 95, 96, 97, 98, 27, 99, 100, 101, 102, 51, 62, 103, 104, 105, 106, 107, 108, 109, 66, 110, 68, 69, 111, 112, 113, 114, 115, 116, 117, 118, 119, 120, 121, 122, 123, 124, 125, 126, 127, 128, 129, 130, 131, 132, 133, 134, 135, 136, 137, 138, 139, 140, 141, 142, 143, 144, 145, 56, 57, 58, 59, 146, 147, 148, 149, 150, 151, 152, 153, 154, 155, 156, 157, 29, 158, 159, 160, 161, 162, 163, 164, 165, 166, 167, 168, 169, 170, 171, 28, 172, 173, 174, 175, 176, 177, 178, 179, 180, 181, 182, 183, 184, 185, 186, 187, 188, 189, 190, 191, 192, 30, 193, 194, 195, 196, 197, 198, 199, 200, 201, 202, 203, 204, 205, 206, 207, 208, 60, 61, 209, 210, 211, 212, 213, 214, 215, 237, 238, 239, 240, 241, 242, 243, 244, 253, 254, 255, 256, 257, 258, 259, 260, 261, 262, 263, 264, 245, 246, 247, 248, 249, 250, 251, 252, 265, 266] (by decide +kernel) (by decide +kernel)
set_option maxRecDepth 20000 in
theorem gX10_worldWithout_X9_act : GoodIn wsX10_worldWithout (wsV RX10 208 RX9 yX9_act wsX9_act) := goodIn_app (goodIn_of _ (by decide +kernel)) ggX10_worldWithout_X9_act
theorem dX10_worldWithout_0 : decode cX10_worldWithout 0 = .ok (.aload_n 0, 1) := by decide +kernel
theorem dX10_worldWithout_1 : decode cX10_worldWithout 1 = .ok (.getfield 19, 3) := by decide +kernel
theorem dX10_worldWithout_4 : decode cX10_worldWithout 4 = .ok (.getfield 276, 3) := by decide +kernel
theorem dX10_worldWithout_7 : decode cX10_worldWithout 7 = .ok (.aload_n 0, 1) := by decide +kernel
theorem dX10_worldWithout_8 : decode cX10_worldWithout 8 = .ok (.getfield 26, 3) := by decide +kernel
theorem dX10_worldWithout_11 : decode cX10_worldWithout 11 = .ok (.getfield 60, 3) := by decide +kernel
theorem dX10_worldWithout_14 : decode cX10_worldWithout 14 = .ok (.invokevirtual 307, 3) := by decide +kernel
theorem dX10_worldWithout_17 : decode cX10_worldWithout 17 = .ok (.aload_n 0, 1) := by decide +kernel
theorem dX10_worldWithout_18 : decode cX10_worldWithout 18 = .ok (.getfield 19, 3) := by decide +kernel
theorem dX10_worldWithout_21 : decode cX10_worldWithout 21 = .ok (.getfield 276, 3) := by decide +kernel
theorem dX10_worldWithout_24 : decode cX10_worldWithout 24 = .ok (.getfield 90, 3) := by decide +kernel
theorem dX10_worldWithout_27 : decode cX10_worldWithout 27 = .ok (.iload_n 1, 1) := by decide +kernel
theorem dX10_worldWithout_28 : decode cX10_worldWithout 28 = .ok (.bipush 8, 2) := by decide +kernel
theorem dX10_worldWithout_30 : decode cX10_worldWithout 30 = .ok (.iconst 0, 1) := by decide +kernel
theorem dX10_worldWithout_31 : decode cX10_worldWithout 31 = .ok (.iconst 0, 1) := by decide +kernel
theorem dX10_worldWithout_32 : decode cX10_worldWithout 32 = .ok (.iconst 0, 1) := by decide +kernel
theorem dX10_worldWithout_33 : decode cX10_worldWithout 33 = .ok (.invokevirtual 208, 3) := by decide +kernel
theorem dX10_worldWithout_36 : decode cX10_worldWithout 36 = .ok (.pop, 1) := by decide +kernel
theorem dX10_worldWithout_37 : decode cX10_worldWithout 37 = .ok (.aload_n 0, 1) := by decide +kernel
theorem dX10_worldWithout_38 : decode cX10_worldWithout 38 = .ok (.getfield 19, 3) := by decide +kernel
theorem dX10_worldWithout_41 : decode cX10_worldWithout 41 = .ok (.getfield 276, 3) := by decide +kernel
theorem dX10_worldWithout_44 : decode cX10_worldWithout 44 = .ok (.getfield 90, 3) := by decide +kernel
theorem dX10_worldWithout_47 : decode cX10_worldWithout 47 = .ok (.areturn, 1) := by decide +kernel
set_option maxRecDepth 20000 in
theorem ggX11_init_X11_plain : GoodIn wsX11_init wsX11_plain := goodIn_r _ [29, 30, 31, 32, 85, 86, 87, 88, 89, 90, 91, 92, 93, 94, 95, 96, 97, 98, 99, 100, 101, 102, 103, 104, 105, 106, 107, 108, 109, 110, 111, 112, 113, 114, 115, 116, 117, 118, 119, 120, 121, 122, 123, 124, 125, 126, 127, 128, 129, 130] (by decide +kernel) (by decide +kernel)
set_option maxRecDepth 20000 in
theorem gX11_init_X11_plain : GoodIn wsX11_init (wsV RX11 71 RX11 yX11_plain wsX11_plain) := goodIn_app (goodIn_of _ (by decide +kernel)) ggX11_init_X11_plain
set_option maxRecDepth 20000 in
theorem ggX11_init_X11_keepText : GoodIn wsX11_init wsX11_keepText := goodIn_r _ [36, 30, 37, 31, 38, 32, 39, 8, 9, 10, 11, 12, 13, 14, 15, 40, 41, 42, 43, 28, 44, 45, 46, 47, 48, 49, 50, 51, 52, 16, 53, 54, 55, 56, 57, 58, 59, 60, 61, 62, 63, 64, 65, 66, 67, 68, 69, 70, 71, 72, 73, 74, 75, 76, 77, 78, 79, 80, 81, 82, 83, 84, 21, 85, 86, 87, 88, 89, 90, 91, 92, 93, 94, 95, 96, 97, 98, 99, 100, 101, 102, 103, 104, 105, 106, 107, 108, 109, 110, 111, 112, 113, 114, 115, 116, 117, 118, 119, 120, 121, 122, 123, 124, 125, 126, 127, 128, 129, 130] (by decide +kernel) (by decide +kernel)
set_option maxRecDepth 20000 in
theorem gX11_init_X11_keepText : GoodIn wsX11_init (wsV RX11 74 RX11 yX11_keepText wsX11_keepText) := goodIn_app (goodIn_of _ (by decide +kernel)) ggX11_init_X11_keepText
theorem dX11_init_0 : decode cX11_init 0 = .ok (.aload_n 0, 1) := by decide +kernel
theorem dX11_init_1 : decode cX11_init 1 = .ok (.invokespecial 1, 3) := by decide +kernel
theorem dX11_init_4 : decode cX11_init 4 = .ok (.aload_n 0, 1) := by decide +kernel
theorem dX11_init_5 : decode cX11_init 5 = .ok (.sipush 700, 3) := by decide +kernel
theorem dX11_init_8 : decode cX11_init 8 = .ok (.newarray .int, 2) := by decide +kernel
theorem dX11_init_10 : decode cX11_init 10 = .ok (.putfield 7, 3) := by decide +kernel
theorem dX11_init_13 : decode cX11_init 13 = .ok (.aload_n 0, 1) := by decide +kernel
theorem dX11_init_14 : decode cX11_init 14 = .ok (.bipush 50, 2) := by decide +kernel
theorem dX11_init_16 : decode cX11_init 16 = .ok (.newarray .int, 2) := by decide +kernel
theorem dX11_init_18 : decode cX11_init 18 = .ok (.dup, 1) := by decide +kernel
theorem dX11_init_19 : decode cX11_init 19 = .ok (.iconst 0, 1) := by decide +kernel
theorem dX11_init_20 : decode cX11_init 20 = .ok (.bipush 104, 2) := by decide +kernel
theorem dX11_init_22 : decode cX11_init 22 = .ok (.iastore, 1) := by decide +kernel
theorem dX11_init_23 : decode cX11_init 23 = .ok (.dup, 1) := by decide +kernel
theorem dX11_init_24 : decode cX11_init 24 = .ok (.iconst 1, 1) := by decide +kernel
theorem dX11_init_25 : decode cX11_init 25 = .ok (.bipush 97, 2) := by decide +kernel
theorem dX11_init_27 : decode cX11_init 27 = .ok (.iastore, 1) := by decide +kernel
theorem dX11_init_28 : decode cX11_init 28 = .ok (.dup, 1) := by decide +kernel
theorem dX11_init_29 : decode cX11_init 29 = .ok (.iconst 2, 1) := by decide +kernel
theorem dX11_init_30 : decode cX11_init 30 = .ok (.bipush 110, 2) := by decide +kernel
theorem dX11_init_32 : decode cX11_init 32 = .ok (.iastore, 1) := by decide +kernel
theorem dX11_init_33 : decode cX11_init 33 = .ok (.dup, 1) := by decide +kernel
theorem dX11_init_34 : decode cX11_init 34 = .ok (.iconst 3, 1) := by decide +kernel
theorem dX11_init_35 : decode cX11_init 35 = .ok (.bipush 100, 2) := by decide +kernel
theorem dX11_init_37 : decode cX11_init 37 = .ok (.iastore, 1) := by decide +kernel
theorem dX11_init_38 : decode cX11_init 38 = .ok (.dup, 1) := by decide +kernel
theorem dX11_init_39 : decode cX11_init 39 = .ok (.iconst 4, 1) := by decide +kernel
theorem dX11_init_40 : decode cX11_init 40 = .ok (.bipush 32, 2) := by decide +kernel
theorem dX11_init_42 : decode cX11_init 42 = .ok (.iastore, 1) := by decide +kernel
theorem dX11_init_43 : decode cX11_init 43 = .ok (.dup, 1) := by decide +kernel
theorem dX11_init_44 : decode cX11_init 44 = .ok (.iconst 5, 1) := by decide +kernel
theorem dX11_init_45 : decode cX11_init 45 = .ok (.bipush 107, 2) := by decide +kernel
theorem dX11_init_47 : decode cX11_init 47 = .ok (.iastore, 1) := by decide +kernel
theorem dX11_init_48 : decode cX11_init 48 = .ok (.dup, 1) := by decide +kernel
theorem dX11_init_49 : decode cX11_init 49 = .ok (.bipush 6, 2) := by decide +kernel
theorem dX11_init_51 : decode cX11_init 51 = .ok (.bipush 101, 2) := by decide +kernel
theorem dX11_init_53 : decode cX11_init 53 = .ok (.iastore, 1) := by decide +kernel
theorem dX11_init_54 : decode cX11_init 54 = .ok (.dup, 1) := by decide +kernel
theorem dX11_init_55 : decode cX11_init 55 = .ok (.bipush 7, 2) := by decide +kernel
theorem dX11_init_57 : decode cX11_init 57 = .ok (.bipush 121, 2) := by decide +kernel
theorem dX11_init_59 : decode cX11_init 59 = .ok (.iastore, 1) := by decide +kernel
theorem dX11_init_60 : decode cX11_init 60 = .ok (.dup, 1) := by decide +kernel
theorem dX11_init_61 : decode cX11_init 61 = .ok (.bipush 8, 2) := by decide +kernel
theorem dX11_init_63 : decode cX11_init 63 = .ok (.bipush 32, 2) := by decide +kernel
theorem dX11_init_65 : decode cX11_init 65 = .ok (.iastore, 1) := by decide +kernel
theorem dX11_init_66 : decode cX11_init 66 = .ok (.dup, 1) := by decide +kernel
theorem dX11_init_67 : decode cX11_init 67 = .ok (.bipush 9, 2) := by decide +kernel
theorem dX11_init_69 : decode cX11_init 69 = .ok (.bipush 111, 2) := by decide +kernel
theorem dX11_init_71 : decode cX11_init 71 = .ok (.iastore, 1) := by decide +kernel
theorem dX11_init_72 : decode cX11_init 72 = .ok (.dup, 1) := by decide +kernel
theorem dX11_init_73 : decode cX11_init 73 = .ok (.bipush 10, 2) := by decide +kernel
theorem dX11_init_75 : decode cX11_init 75 = .ok (.bipush 112, 2) := by decide +kernel
theorem dX11_init_77 : decode cX11_init 77 = .ok (.iastore, 1) := by decide +kernel
theorem dX11_init_78 : decode cX11_init 78 = .ok (.dup, 1) := by decide +kernel
theorem dX11_init_79 : decode cX11_init 79 = .ok (.bipush 11, 2) := by decide +kernel
theorem dX11_init_81 : decode cX11_init 81 = .ok (.bipush 101, 2) := by decide +kernel
theorem dX11_init_83 : decode cX11_init 83 = .ok (.iastore, 1) := by decide +kernel
theorem dX11_init_84 : decode cX11_init 84 = .ok (.dup, 1) := by decide +kernel
theorem dX11_init_85 : decode cX11_init 85 = .ok (.bipush 12, 2) := by decide +kernel
theorem dX11_init_87 : decode cX11_init 87 = .ok (.bipush 110, 2) := by decide +kernel
theorem dX11_init_89 : decode cX11_init 89 = .ok (.iastore, 1) := by decide +kernel
theorem dX11_init_90 : decode cX11_init 90 = .ok (.dup, 1) := by decide +kernel
theorem dX11_init_91 : decode cX11_init 91 = .ok (.bipush 13, 2) := by decide +kernel
theorem dX11_init_93 : decode cX11_init 93 = .ok (.bipush 32, 2) := by decide +kernel
theorem dX11_init_95 : decode cX11_init 95 = .ok (.iastore, 1) := by decide +kernel
theorem dX11_init_96 : decode cX11_init 96 = .ok (.dup, 1) := by decide +kernel
theorem dX11_init_97 : decode cX11_init 97 = .ok (.bipush 14, 2) := by decide +kernel
theorem dX11_init_99 : decode cX11_init 99 = .ok (.bipush 115, 2) := by decide +kernel
theorem dX11_init_101 : decode cX11_init 101 = .ok (.iastore, 1) := by decide +kernel
theorem dX11_init_102 : decode cX11_init 102 = .ok (.dup, 1) := by decide +kernel
theorem dX11_init_103 : decode cX11_init 103 = .ok (.bipush 15, 2) := by decide +kernel
theorem dX11_init_105 : decode cX11_init 105 = .ok (.bipush 99, 2) := by decide +kernel
theorem dX11_init_107 : decode cX11_init 107 = .ok (.iastore, 1) := by decide +kernel
theorem dX11_init_108 : decode cX11_init 108 = .ok (.dup, 1) := by decide +kernel
theorem dX11_init_109 : decode cX11_init 109 = .ok (.bipush 16, 2) := by decide +kernel
theorem dX11_init_111 : decode cX11_init 111 = .ok (.bipush 97, 2) := by decide +kernel
theorem dX11_init_113 : decode cX11_init 113 = .ok (.iastore, 1) := by decide +kernel
theorem dX11_init_114 : decode cX11_init 114 = .ok (.dup, 1) := by decide +kernel
theorem dX11_init_115 : decode cX11_init 115 = .ok (.bipush 17, 2) := by decide +kernel
theorem dX11_init_117 : decode cX11_init 117 = .ok (.bipush 110, 2) := by decide +kernel
theorem dX11_init_119 : decode cX11_init 119 = .ok (.iastore, 1) := by decide +kernel
theorem dX11_init_120 : decode cX11_init 120 = .ok (.dup, 1) := by decide +kernel
theorem dX11_init_121 : decode cX11_init 121 = .ok (.bipush 18, 2) := by decide +kernel
theorem dX11_init_123 : decode cX11_init 123 = .ok (.bipush 32, 2) := by decide +kernel
theorem dX11_init_125 : decode cX11_init 125 = .ok (.iastore, 1) := by decide +kernel
theorem dX11_init_126 : decode cX11_init 126 = .ok (.dup, 1) := by decide +kernel
theorem dX11_init_127 : decode cX11_init 127 = .ok (.bipush 19, 2) := by decide +kernel
theorem dX11_init_129 : decode cX11_init 129 = .ok (.bipush 115, 2) := by decide +kernel
theorem dX11_init_131 : decode cX11_init 131 = .ok (.iastore, 1) := by decide +kernel
theorem dX11_init_132 : decode cX11_init 132 = .ok (.dup, 1) := by decide +kernel
theorem dX11_init_133 : decode cX11_init 133 = .ok (.bipush 20, 2) := by decide +kernel
theorem dX11_init_135 : decode cX11_init 135 = .ok (.bipush 101, 2) := by decide +kernel
theorem dX11_init_137 : decode cX11_init 137 = .ok (.iastore, 1) := by decide +kernel
theorem dX11_init_138 : decode cX11_init 138 = .ok (.dup, 1) := by decide +kernel
theorem dX11_init_139 : decode cX11_init 139 = .ok (.bipush 21, 2) := by decide +kernel
theorem dX11_init_141 : decode cX11_init 141 = .ok (.bipush 101, 2) := by decide +kernel
theorem dX11_init_143 : decode cX11_init 143 = .ok (.iastore, 1) := by decide +kernel
theorem dX11_init_144 : decode cX11_init 144 = .ok (.dup, 1) := by decide +kernel
theorem dX11_init_145 : decode cX11_init 145 = .ok (.bipush 22, 2) := by decide +kernel
theorem dX11_init_147 : decode cX11_init 147 = .ok (.bipush 107, 2) := by decide +kernel
theorem dX11_init_149 : decode cX11_init 149 = .ok (.iastore, 1) := by decide +kernel
theorem dX11_init_150 : decode cX11_init 150 = .ok (.dup, 1) := by decide +kernel
theorem dX11_init_151 : decode cX11_init 151 = .ok (.bipush 23, 2) := by decide +kernel
theorem dX11_init_153 : decode cX11_init 153 = .ok (.bipush 32, 2) := by decide +kernel
theorem dX11_init_155 : decode cX11_init 155 = .ok (.iastore, 1) := by decide +kernel
theorem dX11_init_156 : decode cX11_init 156 = .ok (.dup, 1) := by decide +kernel
theorem dX11_init_157 : decode cX11_init 157 = .ok (.bipush 24, 2) := by decide +kernel
theorem dX11_init_159 : decode cX11_init 159 = .ok (.bipush 103, 2) := by decide +kernel
theorem dX11_init_161 : decode cX11_init 161 = .ok (.iastore, 1) := by decide +kernel
theorem dX11_init_162 : decode cX11_init 162 = .ok (.dup, 1) := by decide +kernel
theorem dX11_init_163 : decode cX11_init 163 = .ok (.bipush 25, 2) := by decide +kernel
theorem dX11_init_165 : decode cX11_init 165 = .ok (.bipush 114, 2) := by decide +kernel
theorem dX11_init_167 : decode cX11_init 167 = .ok (.iastore, 1) := by decide +kernel
theorem dX11_init_168 : decode cX11_init 168 = .ok (.dup, 1) := by decide +kernel
theorem dX11_init_169 : decode cX11_init 169 = .ok (.bipush 26, 2) := by decide +kernel
theorem dX11_init_171 : decode cX11_init 171 = .ok (.bipush 97, 2) := by decide +kernel
theorem dX11_init_173 : decode cX11_init 173 = .ok (.iastore, 1) := by decide +kernel
theorem dX11_init_174 : decode cX11_init 174 = .ok (.dup, 1) := by decide +kernel
theorem dX11_init_175 : decode cX11_init 175 = .ok (.bipush 27, 2) := by decide +kernel
theorem dX11_init_177 : decode cX11_init 177 = .ok (.bipush 98, 2) := by decide +kernel
theorem dX11_init_179 : decode cX11_init 179 = .ok (.iastore, 1) := by decide +kernel
theorem dX11_init_180 : decode cX11_init 180 = .ok (.dup, 1) := by decide +kernel
theorem dX11_init_181 : decode cX11_init 181 = .ok (.bipush 28, 2) := by decide +kernel
theorem dX11_init_183 : decode cX11_init 183 = .ok (.bipush 32, 2) := by decide +kernel
theorem dX11_init_185 : decode cX11_init 185 = .ok (.iastore, 1) := by decide +kernel
theorem dX11_init_186 : decode cX11_init 186 = .ok (.dup, 1) := by decide +kernel
theorem dX11_init_187 : decode cX11_init 187 = .ok (.bipush 29, 2) := by decide +kernel
theorem dX11_init_189 : decode cX11_init 189 = .ok (.bipush 115, 2) := by decide +kernel
theorem dX11_init_191 : decode cX11_init 191 = .ok (.iastore, 1) := by decide +kernel
theorem dX11_init_192 : decode cX11_init 192 = .ok (.dup, 1) := by decide +kernel
theorem dX11_init_193 : decode cX11_init 193 = .ok (.bipush 30, 2) := by decide +kernel
theorem dX11_init_195 : decode cX11_init 195 = .ok (.bipush 101, 2) := by decide +kernel
theorem dX11_init_197 : decode cX11_init 197 = .ok (.iastore, 1) := by decide +kernel
theorem dX11_init_198 : decode cX11_init 198 = .ok (.dup, 1) := by decide +kernel
theorem dX11_init_199 : decode cX11_init 199 = .ok (.bipush 31, 2) := by decide +kernel
theorem dX11_init_201 : decode cX11_init 201 = .ok (.bipush 116, 2) := by decide +kernel
theorem dX11_init_203 : decode cX11_init 203 = .ok (.iastore, 1) := by decide +kernel
theorem dX11_init_204 : decode cX11_init 204 = .ok (.dup, 1) := by decide +kernel
theorem dX11_init_205 : decode cX11_init 205 = .ok (.bipush 32, 2) := by decide +kernel
theorem dX11_init_207 : decode cX11_init 207 = .ok (.bipush 32, 2) := by decide +kernel
