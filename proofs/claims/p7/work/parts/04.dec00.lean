theorem dX0_init_0 : decode cX0_init 0 = .ok (.aload_n 0, 1) := by decide +kernel
theorem dX0_init_1 : decode cX0_init 1 = .ok (.invokespecial 3, 3) := by decide +kernel
theorem dX0_init_4 : decode cX0_init 4 = .ok (.aload_n 0, 1) := by decide +kernel
theorem dX0_init_5 : decode cX0_init 5 = .ok (.new 9, 3) := by decide +kernel
theorem dX0_init_8 : decode cX0_init 8 = .ok (.dup, 1) := by decide +kernel
theorem dX0_init_9 : decode cX0_init 9 = .ok (.invokespecial 11, 3) := by decide +kernel
theorem dX0_init_12 : decode cX0_init 12 = .ok (.putfield 12, 3) := by decide +kernel
theorem dX0_init_15 : decode cX0_init 15 = .ok (.aload_n 0, 1) := by decide +kernel
theorem dX0_init_16 : decode cX0_init 16 = .ok (.bipush 24, 2) := by decide +kernel
theorem dX0_init_18 : decode cX0_init 18 = .ok (.newarray .int, 2) := by decide +kernel
theorem dX0_init_20 : decode cX0_init 20 = .ok (.putfield 18, 3) := by decide +kernel
theorem dX0_init_23 : decode cX0_init 23 = .ok (.aload_n 0, 1) := by decide +kernel
theorem dX0_init_24 : decode cX0_init 24 = .ok (.bipush 24, 2) := by decide +kernel
theorem dX0_init_26 : decode cX0_init 26 = .ok (.newarray .int, 2) := by decide +kernel
theorem dX0_init_28 : decode cX0_init 28 = .ok (.putfield 22, 3) := by decide +kernel
theorem dX0_init_31 : decode cX0_init 31 = .ok (.aload_n 0, 1) := by decide +kernel
theorem dX0_init_32 : decode cX0_init 32 = .ok (.iconst (-1), 1) := by decide +kernel
theorem dX0_init_33 : decode cX0_init 33 = .ok (.putfield 25, 3) := by decide +kernel
theorem dX0_init_36 : decode cX0_init 36 = .ok (.return_, 1) := by decide +kernel
theorem dX0_begin_0 : decode cX0_begin 0 = .ok (.aload_n 0, 1) := by decide +kernel
theorem dX0_begin_1 : decode cX0_begin 1 = .ok (.getfield 12, 3) := by decide +kernel
theorem dX0_begin_4 : decode cX0_begin 4 = .ok (.aload_n 1, 1) := by decide +kernel
theorem dX0_begin_5 : decode cX0_begin 5 = .ok (.invokevirtual 29, 3) := by decide +kernel
theorem dX0_begin_8 : decode cX0_begin 8 = .ok (.aload_n 0, 1) := by decide +kernel
theorem dX0_begin_9 : decode cX0_begin 9 = .ok (.getfield 18, 3) := by decide +kernel
theorem dX0_begin_12 : decode cX0_begin 12 = .ok (.iconst 0, 1) := by decide +kernel
theorem dX0_begin_13 : decode cX0_begin 13 = .ok (.invokestatic 33, 3) := by decide +kernel
theorem dX0_begin_16 : decode cX0_begin 16 = .ok (.aload_n 0, 1) := by decide +kernel
theorem dX0_begin_17 : decode cX0_begin 17 = .ok (.getfield 22, 3) := by decide +kernel
theorem dX0_begin_20 : decode cX0_begin 20 = .ok (.bipush (-5), 2) := by decide +kernel
theorem dX0_begin_22 : decode cX0_begin 22 = .ok (.invokestatic 33, 3) := by decide +kernel
theorem dX0_begin_25 : decode cX0_begin 25 = .ok (.aload_n 0, 1) := by decide +kernel
theorem dX0_begin_26 : decode cX0_begin 26 = .ok (.iconst 0, 1) := by decide +kernel
theorem dX0_begin_27 : decode cX0_begin 27 = .ok (.putfield 39, 3) := by decide +kernel
theorem dX0_begin_30 : decode cX0_begin 30 = .ok (.aload_n 0, 1) := by decide +kernel
theorem dX0_begin_31 : decode cX0_begin 31 = .ok (.iconst (-1), 1) := by decide +kernel
theorem dX0_begin_32 : decode cX0_begin 32 = .ok (.putfield 25, 3) := by decide +kernel
theorem dX0_begin_35 : decode cX0_begin 35 = .ok (.return_, 1) := by decide +kernel
theorem dX0_copyFrom_0 : decode cX0_copyFrom 0 = .ok (.aload_n 0, 1) := by decide +kernel
theorem dX0_copyFrom_1 : decode cX0_copyFrom 1 = .ok (.getfield 12, 3) := by decide +kernel
theorem dX0_copyFrom_4 : decode cX0_copyFrom 4 = .ok (.aload_n 1, 1) := by decide +kernel
theorem dX0_copyFrom_5 : decode cX0_copyFrom 5 = .ok (.getfield 12, 3) := by decide +kernel
theorem dX0_copyFrom_8 : decode cX0_copyFrom 8 = .ok (.invokevirtual 42, 3) := by decide +kernel
theorem dX0_copyFrom_11 : decode cX0_copyFrom 11 = .ok (.aload_n 1, 1) := by decide +kernel
theorem dX0_copyFrom_12 : decode cX0_copyFrom 12 = .ok (.getfield 18, 3) := by decide +kernel
theorem dX0_copyFrom_15 : decode cX0_copyFrom 15 = .ok (.iconst 0, 1) := by decide +kernel
theorem dX0_copyFrom_16 : decode cX0_copyFrom 16 = .ok (.aload_n 0, 1) := by decide +kernel
theorem dX0_copyFrom_17 : decode cX0_copyFrom 17 = .ok (.getfield 18, 3) := by decide +kernel
theorem dX0_copyFrom_20 : decode cX0_copyFrom 20 = .ok (.iconst 0, 1) := by decide +kernel
theorem dX0_copyFrom_21 : decode cX0_copyFrom 21 = .ok (.bipush 24, 2) := by decide +kernel
theorem dX0_copyFrom_23 : decode cX0_copyFrom 23 = .ok (.invokestatic 46, 3) := by decide +kernel
theorem dX0_copyFrom_26 : decode cX0_copyFrom 26 = .ok (.aload_n 1, 1) := by decide +kernel
theorem dX0_copyFrom_27 : decode cX0_copyFrom 27 = .ok (.getfield 22, 3) := by decide +kernel
theorem dX0_copyFrom_30 : decode cX0_copyFrom 30 = .ok (.iconst 0, 1) := by decide +kernel
theorem dX0_copyFrom_31 : decode cX0_copyFrom 31 = .ok (.aload_n 0, 1) := by decide +kernel
theorem dX0_copyFrom_32 : decode cX0_copyFrom 32 = .ok (.getfield 22, 3) := by decide +kernel
theorem dX0_copyFrom_35 : decode cX0_copyFrom 35 = .ok (.iconst 0, 1) := by decide +kernel
theorem dX0_copyFrom_36 : decode cX0_copyFrom 36 = .ok (.bipush 24, 2) := by decide +kernel
theorem dX0_copyFrom_38 : decode cX0_copyFrom 38 = .ok (.invokestatic 46, 3) := by decide +kernel
theorem dX0_copyFrom_41 : decode cX0_copyFrom 41 = .ok (.aload_n 0, 1) := by decide +kernel
theorem dX0_copyFrom_42 : decode cX0_copyFrom 42 = .ok (.aload_n 1, 1) := by decide +kernel
theorem dX0_copyFrom_43 : decode cX0_copyFrom 43 = .ok (.getfield 39, 3) := by decide +kernel
theorem dX0_copyFrom_46 : decode cX0_copyFrom 46 = .ok (.putfield 39, 3) := by decide +kernel
theorem dX0_copyFrom_49 : decode cX0_copyFrom 49 = .ok (.aload_n 0, 1) := by decide +kernel
theorem dX0_copyFrom_50 : decode cX0_copyFrom 50 = .ok (.aload_n 1, 1) := by decide +kernel
theorem dX0_copyFrom_51 : decode cX0_copyFrom 51 = .ok (.getfield 25, 3) := by decide +kernel
theorem dX0_copyFrom_54 : decode cX0_copyFrom 54 = .ok (.putfield 25, 3) := by decide +kernel
theorem dX0_copyFrom_57 : decode cX0_copyFrom 57 = .ok (.return_, 1) := by decide +kernel
theorem dX0_go_0 : decode cX0_go 0 = .ok (.iload_n 2, 1) := by decide +kernel
theorem dX0_go_1 : decode cX0_go 1 = .ok (.istore_n 3, 1) := by decide +kernel
theorem dX0_go_2 : decode cX0_go 2 = .ok (.iconst 0, 1) := by decide +kernel
theorem dX0_go_3 : decode cX0_go 3 = .ok (.istore 4, 2) := by decide +kernel
theorem dX0_go_5 : decode cX0_go 5 = .ok (.iload 4, 2) := by decide +kernel
theorem dX0_go_7 : decode cX0_go 7 = .ok (.ldc 52, 2) := by decide +kernel
theorem dX0_go_9 : decode cX0_go 9 = .ok (.if_icmp .ge 162, 3) := by decide +kernel
theorem dX0_go_12 : decode cX0_go 12 = .ok (.aload_n 0, 1) := by decide +kernel
theorem dX0_go_13 : decode cX0_go 13 = .ok (.aload_n 1, 1) := by decide +kernel
theorem dX0_go_14 : decode cX0_go 14 = .ok (.invokevirtual 53, 3) := by decide +kernel
theorem dX0_go_17 : decode cX0_go 17 = .ok (.istore 5, 2) := by decide +kernel
theorem dX0_go_19 : decode cX0_go 19 = .ok (.iload 5, 2) := by decide +kernel
theorem dX0_go_21 : decode cX0_go 21 = .ok (.iconst (-1), 1) := by decide +kernel
theorem dX0_go_22 : decode cX0_go 22 = .ok (.if_icmp .ne 86, 3) := by decide +kernel
theorem dX0_go_25 : decode cX0_go 25 = .ok (.iload_n 3, 1) := by decide +kernel
theorem dX0_go_26 : decode cX0_go 26 = .ok (.ifCond .le 145, 3) := by decide +kernel
theorem dX0_go_29 : decode cX0_go 29 = .ok (.aload_n 0, 1) := by decide +kernel
theorem dX0_go_30 : decode cX0_go 30 = .ok (.getfield 39, 3) := by decide +kernel
theorem dX0_go_33 : decode cX0_go 33 = .ok (.aload_n 1, 1) := by decide +kernel
theorem dX0_go_34 : decode cX0_go 34 = .ok (.getfield 57, 3) := by decide +kernel
theorem dX0_go_37 : decode cX0_go 37 = .ok (.if_icmp .lt 6, 3) := by decide +kernel
theorem dX0_go_40 : decode cX0_go 40 = .ok (.goto 131, 3) := by decide +kernel
theorem dX0_go_43 : decode cX0_go 43 = .ok (.iinc 3 (-1), 3) := by decide +kernel
theorem dX0_go_46 : decode cX0_go 46 = .ok (.aload_n 0, 1) := by decide +kernel
theorem dX0_go_47 : decode cX0_go 47 = .ok (.invokevirtual 62, 3) := by decide +kernel
theorem dX0_go_50 : decode cX0_go 50 = .ok (.istore 5, 2) := by decide +kernel
theorem dX0_go_52 : decode cX0_go 52 = .ok (.iload 5, 2) := by decide +kernel
theorem dX0_go_54 : decode cX0_go 54 = .ok (.aload_n 1, 1) := by decide +kernel
theorem dX0_go_55 : decode cX0_go 55 = .ok (.getfield 57, 3) := by decide +kernel
theorem dX0_go_58 : decode cX0_go 58 = .ok (.if_icmp .ge 107, 3) := by decide +kernel
theorem dX0_go_61 : decode cX0_go 61 = .ok (.aload_n 0, 1) := by decide +kernel
theorem dX0_go_62 : decode cX0_go 62 = .ok (.getfield 18, 3) := by decide +kernel
theorem dX0_go_65 : decode cX0_go 65 = .ok (.iload 5, 2) := by decide +kernel
theorem dX0_go_67 : decode cX0_go 67 = .ok (.iaload, 1) := by decide +kernel
theorem dX0_go_68 : decode cX0_go 68 = .ok (.iconst 3, 1) := by decide +kernel
theorem dX0_go_69 : decode cX0_go 69 = .ok (.if_icmp .ne 6, 3) := by decide +kernel
theorem dX0_go_72 : decode cX0_go 72 = .ok (.goto 93, 3) := by decide +kernel
theorem dX0_go_75 : decode cX0_go 75 = .ok (.aload_n 0, 1) := by decide +kernel
theorem dX0_go_76 : decode cX0_go 76 = .ok (.getfield 12, 3) := by decide +kernel
theorem dX0_go_79 : decode cX0_go 79 = .ok (.getfield 66, 3) := by decide +kernel
theorem dX0_go_82 : decode cX0_go 82 = .ok (.getfield 70, 3) := by decide +kernel
theorem dX0_go_85 : decode cX0_go 85 = .ok (.aload_n 1, 1) := by decide +kernel
theorem dX0_go_86 : decode cX0_go 86 = .ok (.getfield 75, 3) := by decide +kernel
theorem dX0_go_89 : decode cX0_go 89 = .ok (.iload 5, 2) := by decide +kernel
theorem dX0_go_91 : decode cX0_go 91 = .ok (.iaload, 1) := by decide +kernel
theorem dX0_go_92 : decode cX0_go 92 = .ok (.iaload, 1) := by decide +kernel
theorem dX0_go_93 : decode cX0_go 93 = .ok (.iconst 2, 1) := by decide +kernel
theorem dX0_go_94 : decode cX0_go 94 = .ok (.if_icmp .ne 14, 3) := by decide +kernel
theorem dX0_go_97 : decode cX0_go 97 = .ok (.aload_n 0, 1) := by decide +kernel
theorem dX0_go_98 : decode cX0_go 98 = .ok (.getfield 18, 3) := by decide +kernel
theorem dX0_go_101 : decode cX0_go 101 = .ok (.iload 5, 2) := by decide +kernel
theorem dX0_go_103 : decode cX0_go 103 = .ok (.iconst 1, 1) := by decide +kernel
theorem dX0_go_104 : decode cX0_go 104 = .ok (.iastore, 1) := by decide +kernel
theorem dX0_go_105 : decode cX0_go 105 = .ok (.goto 60, 3) := by decide +kernel
theorem dX0_go_108 : decode cX0_go 108 = .ok (.aload_n 0, 1) := by decide +kernel
theorem dX0_go_109 : decode cX0_go 109 = .ok (.getfield 18, 3) := by decide +kernel
theorem dX0_go_112 : decode cX0_go 112 = .ok (.iload 5, 2) := by decide +kernel
theorem dX0_go_114 : decode cX0_go 114 = .ok (.iconst 2, 1) := by decide +kernel
theorem dX0_go_115 : decode cX0_go 115 = .ok (.iastore, 1) := by decide +kernel
theorem dX0_go_116 : decode cX0_go 116 = .ok (.aload_n 0, 1) := by decide +kernel
theorem dX0_go_117 : decode cX0_go 117 = .ok (.getfield 22, 3) := by decide +kernel
theorem dX0_go_120 : decode cX0_go 120 = .ok (.iload 5, 2) := by decide +kernel
theorem dX0_go_122 : decode cX0_go 122 = .ok (.aload_n 0, 1) := by decide +kernel
theorem dX0_go_123 : decode cX0_go 123 = .ok (.getfield 12, 3) := by decide +kernel
theorem dX0_go_126 : decode cX0_go 126 = .ok (.aload_n 1, 1) := by decide +kernel
theorem dX0_go_127 : decode cX0_go 127 = .ok (.getfield 75, 3) := by decide +kernel
theorem dX0_go_130 : decode cX0_go 130 = .ok (.iload 5, 2) := by decide +kernel
theorem dX0_go_132 : decode cX0_go 132 = .ok (.iaload, 1) := by decide +kernel
theorem dX0_go_133 : decode cX0_go 133 = .ok (.aload_n 1, 1) := by decide +kernel
theorem dX0_go_134 : decode cX0_go 134 = .ok (.getfield 78, 3) := by decide +kernel
theorem dX0_go_137 : decode cX0_go 137 = .ok (.iload 5, 2) := by decide +kernel
theorem dX0_go_139 : decode cX0_go 139 = .ok (.iaload, 1) := by decide +kernel
theorem dX0_go_140 : decode cX0_go 140 = .ok (.aload_n 1, 1) := by decide +kernel
theorem dX0_go_141 : decode cX0_go 141 = .ok (.getfield 81, 3) := by decide +kernel
theorem dX0_go_144 : decode cX0_go 144 = .ok (.iload 5, 2) := by decide +kernel
theorem dX0_go_146 : decode cX0_go 146 = .ok (.iaload, 1) := by decide +kernel
theorem dX0_go_147 : decode cX0_go 147 = .ok (.aload_n 1, 1) := by decide +kernel
theorem dX0_go_148 : decode cX0_go 148 = .ok (.getfield 84, 3) := by decide +kernel
theorem dX0_go_151 : decode cX0_go 151 = .ok (.iload 5, 2) := by decide +kernel
theorem dX0_go_153 : decode cX0_go 153 = .ok (.iaload, 1) := by decide +kernel
theorem dX0_go_154 : decode cX0_go 154 = .ok (.aload_n 1, 1) := by decide +kernel
theorem dX0_go_155 : decode cX0_go 155 = .ok (.getfield 87, 3) := by decide +kernel
theorem dX0_go_158 : decode cX0_go 158 = .ok (.iload 5, 2) := by decide +kernel
theorem dX0_go_160 : decode cX0_go 160 = .ok (.iaload, 1) := by decide +kernel
theorem dX0_go_161 : decode cX0_go 161 = .ok (.invokevirtual 90, 3) := by decide +kernel
theorem dX0_go_164 : decode cX0_go 164 = .ok (.iastore, 1) := by decide +kernel
theorem dX0_go_165 : decode cX0_go 165 = .ok (.iinc 4 1, 3) := by decide +kernel
theorem dX0_go_168 : decode cX0_go 168 = .ok (.goto (-163), 3) := by decide +kernel
theorem dX0_go_171 : decode cX0_go 171 = .ok (.return_, 1) := by decide +kernel
theorem dX0_comeToNext_0 : decode cX0_comeToNext 0 = .ok (.aload_n 0, 1) := by decide +kernel
theorem dX0_comeToNext_1 : decode cX0_comeToNext 1 = .ok (.getfield 39, 3) := by decide +kernel
theorem dX0_comeToNext_4 : decode cX0_comeToNext 4 = .ok (.istore_n 1, 1) := by decide +kernel
theorem dX0_comeToNext_5 : decode cX0_comeToNext 5 = .ok (.aload_n 0, 1) := by decide +kernel
theorem dX0_comeToNext_6 : decode cX0_comeToNext 6 = .ok (.dup, 1) := by decide +kernel
theorem dX0_comeToNext_7 : decode cX0_comeToNext 7 = .ok (.getfield 39, 3) := by decide +kernel
theorem dX0_comeToNext_10 : decode cX0_comeToNext 10 = .ok (.iconst 1, 1) := by decide +kernel
theorem dX0_comeToNext_11 : decode cX0_comeToNext 11 = .ok (.iadd, 1) := by decide +kernel
theorem dX0_comeToNext_12 : decode cX0_comeToNext 12 = .ok (.putfield 39, 3) := by decide +kernel
theorem dX0_comeToNext_15 : decode cX0_comeToNext 15 = .ok (.aload_n 0, 1) := by decide +kernel
theorem dX0_comeToNext_16 : decode cX0_comeToNext 16 = .ok (.getfield 25, 3) := by decide +kernel
theorem dX0_comeToNext_19 : decode cX0_comeToNext 19 = .ok (.iconst (-1), 1) := by decide +kernel
theorem dX0_comeToNext_20 : decode cX0_comeToNext 20 = .ok (.if_icmp .ne 5, 3) := by decide +kernel
theorem dX0_comeToNext_23 : decode cX0_comeToNext 23 = .ok (.iload_n 1, 1) := by decide +kernel
theorem dX0_comeToNext_24 : decode cX0_comeToNext 24 = .ok (.ireturn, 1) := by decide +kernel
theorem dX0_comeToNext_25 : decode cX0_comeToNext 25 = .ok (.iload_n 1, 1) := by decide +kernel
theorem dX0_comeToNext_26 : decode cX0_comeToNext 26 = .ok (.aload_n 0, 1) := by decide +kernel
theorem dX0_comeToNext_27 : decode cX0_comeToNext 27 = .ok (.getfield 25, 3) := by decide +kernel
theorem dX0_comeToNext_30 : decode cX0_comeToNext 30 = .ok (.if_icmp .ne 9, 3) := by decide +kernel
theorem dX0_comeToNext_33 : decode cX0_comeToNext 33 = .ok (.iload_n 1, 1) := by decide +kernel
theorem dX0_comeToNext_34 : decode cX0_comeToNext 34 = .ok (.iconst 1, 1) := by decide +kernel
theorem dX0_comeToNext_35 : decode cX0_comeToNext 35 = .ok (.iadd, 1) := by decide +kernel
theorem dX0_comeToNext_36 : decode cX0_comeToNext 36 = .ok (.goto 21, 3) := by decide +kernel
theorem dX0_comeToNext_39 : decode cX0_comeToNext 39 = .ok (.iload_n 1, 1) := by decide +kernel
theorem dX0_comeToNext_40 : decode cX0_comeToNext 40 = .ok (.aload_n 0, 1) := by decide +kernel
theorem dX0_comeToNext_41 : decode cX0_comeToNext 41 = .ok (.getfield 25, 3) := by decide +kernel
theorem dX0_comeToNext_44 : decode cX0_comeToNext 44 = .ok (.iconst 1, 1) := by decide +kernel
theorem dX0_comeToNext_45 : decode cX0_comeToNext 45 = .ok (.iadd, 1) := by decide +kernel
theorem dX0_comeToNext_46 : decode cX0_comeToNext 46 = .ok (.if_icmp .ne 10, 3) := by decide +kernel
theorem dX0_comeToNext_49 : decode cX0_comeToNext 49 = .ok (.aload_n 0, 1) := by decide +kernel
theorem dX0_comeToNext_50 : decode cX0_comeToNext 50 = .ok (.getfield 25, 3) := by decide +kernel
theorem dX0_comeToNext_53 : decode cX0_comeToNext 53 = .ok (.goto 4, 3) := by decide +kernel
theorem dX0_comeToNext_56 : decode cX0_comeToNext 56 = .ok (.iload_n 1, 1) := by decide +kernel
theorem dX0_comeToNext_57 : decode cX0_comeToNext 57 = .ok (.ireturn, 1) := by decide +kernel
theorem dX0_firstReady_0 : decode cX0_firstReady 0 = .ok (.iconst 0, 1) := by decide +kernel
theorem dX0_firstReady_1 : decode cX0_firstReady 1 = .ok (.istore_n 2, 1) := by decide +kernel
theorem dX0_firstReady_2 : decode cX0_firstReady 2 = .ok (.iload_n 2, 1) := by decide +kernel
theorem dX0_firstReady_3 : decode cX0_firstReady 3 = .ok (.aload_n 1, 1) := by decide +kernel
theorem dX0_firstReady_4 : decode cX0_firstReady 4 = .ok (.getfield 57, 3) := by decide +kernel
theorem dX0_firstReady_7 : decode cX0_firstReady 7 = .ok (.if_icmp .ge 42, 3) := by decide +kernel
theorem dX0_firstReady_10 : decode cX0_firstReady 10 = .ok (.aload_n 0, 1) := by decide +kernel
theorem dX0_firstReady_11 : decode cX0_firstReady 11 = .ok (.getfield 18, 3) := by decide +kernel
theorem dX0_firstReady_14 : decode cX0_firstReady 14 = .ok (.iload_n 2, 1) := by decide +kernel
theorem dX0_firstReady_15 : decode cX0_firstReady 15 = .ok (.iaload, 1) := by decide +kernel
theorem dX0_firstReady_16 : decode cX0_firstReady 16 = .ok (.iconst 1, 1) := by decide +kernel
theorem dX0_firstReady_17 : decode cX0_firstReady 17 = .ok (.if_icmp .ne 26, 3) := by decide +kernel
theorem dX0_firstReady_20 : decode cX0_firstReady 20 = .ok (.aload_n 0, 1) := by decide +kernel
theorem dX0_firstReady_21 : decode cX0_firstReady 21 = .ok (.getfield 12, 3) := by decide +kernel
theorem dX0_firstReady_24 : decode cX0_firstReady 24 = .ok (.getfield 66, 3) := by decide +kernel
theorem dX0_firstReady_27 : decode cX0_firstReady 27 = .ok (.getfield 70, 3) := by decide +kernel
theorem dX0_firstReady_30 : decode cX0_firstReady 30 = .ok (.aload_n 1, 1) := by decide +kernel
theorem dX0_firstReady_31 : decode cX0_firstReady 31 = .ok (.getfield 75, 3) := by decide +kernel
theorem dX0_firstReady_34 : decode cX0_firstReady 34 = .ok (.iload_n 2, 1) := by decide +kernel
theorem dX0_firstReady_35 : decode cX0_firstReady 35 = .ok (.iaload, 1) := by decide +kernel
theorem dX0_firstReady_36 : decode cX0_firstReady 36 = .ok (.iaload, 1) := by decide +kernel
theorem dX0_firstReady_37 : decode cX0_firstReady 37 = .ok (.iconst 2, 1) := by decide +kernel
theorem dX0_firstReady_38 : decode cX0_firstReady 38 = .ok (.if_icmp .eq 5, 3) := by decide +kernel
theorem dX0_firstReady_41 : decode cX0_firstReady 41 = .ok (.iload_n 2, 1) := by decide +kernel
theorem dX0_firstReady_42 : decode cX0_firstReady 42 = .ok (.ireturn, 1) := by decide +kernel
theorem dX0_firstReady_43 : decode cX0_firstReady 43 = .ok (.iinc 2 1, 3) := by decide +kernel
theorem dX0_firstReady_46 : decode cX0_firstReady 46 = .ok (.goto (-44), 3) := by decide +kernel
theorem dX0_firstReady_49 : decode cX0_firstReady 49 = .ok (.iconst (-1), 1) := by decide +kernel
theorem dX0_firstReady_50 : decode cX0_firstReady 50 = .ok (.ireturn, 1) := by decide +kernel
theorem dX0_firstFresh_0 : decode cX0_firstFresh 0 = .ok (.iconst 0, 1) := by decide +kernel
theorem dX0_firstFresh_1 : decode cX0_firstFresh 1 = .ok (.istore_n 3, 1) := by decide +kernel
theorem dX0_firstFresh_2 : decode cX0_firstFresh 2 = .ok (.iload_n 3, 1) := by decide +kernel
theorem dX0_firstFresh_3 : decode cX0_firstFresh 3 = .ok (.aload_n 1, 1) := by decide +kernel
theorem dX0_firstFresh_4 : decode cX0_firstFresh 4 = .ok (.getfield 57, 3) := by decide +kernel
theorem dX0_firstFresh_7 : decode cX0_firstFresh 7 = .ok (.if_icmp .ge 30, 3) := by decide +kernel
theorem dX0_firstFresh_10 : decode cX0_firstFresh 10 = .ok (.aload_n 0, 1) := by decide +kernel
theorem dX0_firstFresh_11 : decode cX0_firstFresh 11 = .ok (.getfield 18, 3) := by decide +kernel
theorem dX0_firstFresh_14 : decode cX0_firstFresh 14 = .ok (.iload_n 3, 1) := by decide +kernel
theorem dX0_firstFresh_15 : decode cX0_firstFresh 15 = .ok (.iaload, 1) := by decide +kernel
theorem dX0_firstFresh_16 : decode cX0_firstFresh 16 = .ok (.ifCond .ne 15, 3) := by decide +kernel
theorem dX0_firstFresh_19 : decode cX0_firstFresh 19 = .ok (.aload_n 1, 1) := by decide +kernel
theorem dX0_firstFresh_20 : decode cX0_firstFresh 20 = .ok (.getfield 75, 3) := by decide +kernel
theorem dX0_firstFresh_23 : decode cX0_firstFresh 23 = .ok (.iload_n 3, 1) := by decide +kernel
theorem dX0_firstFresh_24 : decode cX0_firstFresh 24 = .ok (.iaload, 1) := by decide +kernel
theorem dX0_firstFresh_25 : decode cX0_firstFresh 25 = .ok (.iload_n 2, 1) := by decide +kernel
theorem dX0_firstFresh_26 : decode cX0_firstFresh 26 = .ok (.if_icmp .ne 5, 3) := by decide +kernel
theorem dX0_firstFresh_29 : decode cX0_firstFresh 29 = .ok (.iload_n 3, 1) := by decide +kernel
theorem dX0_firstFresh_30 : decode cX0_firstFresh 30 = .ok (.ireturn, 1) := by decide +kernel
theorem dX0_firstFresh_31 : decode cX0_firstFresh 31 = .ok (.iinc 3 1, 3) := by decide +kernel
theorem dX0_firstFresh_34 : decode cX0_firstFresh 34 = .ok (.goto (-32), 3) := by decide +kernel
theorem dX0_firstFresh_37 : decode cX0_firstFresh 37 = .ok (.iconst (-1), 1) := by decide +kernel
theorem dX0_firstFresh_38 : decode cX0_firstFresh 38 = .ok (.ireturn, 1) := by decide +kernel
theorem dX0_marked_0 : decode cX0_marked 0 = .ok (.iconst 0, 1) := by decide +kernel
theorem dX0_marked_1 : decode cX0_marked 1 = .ok (.istore_n 3, 1) := by decide +kernel
theorem dX0_marked_2 : decode cX0_marked 2 = .ok (.iconst 0, 1) := by decide +kernel
theorem dX0_marked_3 : decode cX0_marked 3 = .ok (.istore 4, 2) := by decide +kernel
theorem dX0_marked_5 : decode cX0_marked 5 = .ok (.iload 4, 2) := by decide +kernel
theorem dX0_marked_7 : decode cX0_marked 7 = .ok (.aload_n 1, 1) := by decide +kernel
theorem dX0_marked_8 : decode cX0_marked 8 = .ok (.getfield 57, 3) := by decide +kernel
theorem dX0_marked_11 : decode cX0_marked 11 = .ok (.if_icmp .ge 28, 3) := by decide +kernel
theorem dX0_marked_14 : decode cX0_marked 14 = .ok (.iload_n 3, 1) := by decide +kernel
theorem dX0_marked_15 : decode cX0_marked 15 = .ok (.aload_n 0, 1) := by decide +kernel
theorem dX0_marked_16 : decode cX0_marked 16 = .ok (.getfield 18, 3) := by decide +kernel
theorem dX0_marked_19 : decode cX0_marked 19 = .ok (.iload 4, 2) := by decide +kernel
theorem dX0_marked_21 : decode cX0_marked 21 = .ok (.iaload, 1) := by decide +kernel
theorem dX0_marked_22 : decode cX0_marked 22 = .ok (.iload_n 2, 1) := by decide +kernel
theorem dX0_marked_23 : decode cX0_marked 23 = .ok (.if_icmp .ne 7, 3) := by decide +kernel
theorem dX0_marked_26 : decode cX0_marked 26 = .ok (.iconst 1, 1) := by decide +kernel
theorem dX0_marked_27 : decode cX0_marked 27 = .ok (.goto 4, 3) := by decide +kernel
theorem dX0_marked_30 : decode cX0_marked 30 = .ok (.iconst 0, 1) := by decide +kernel
theorem dX0_marked_31 : decode cX0_marked 31 = .ok (.iadd, 1) := by decide +kernel
theorem dX0_marked_32 : decode cX0_marked 32 = .ok (.istore_n 3, 1) := by decide +kernel
theorem dX0_marked_33 : decode cX0_marked 33 = .ok (.iinc 4 1, 3) := by decide +kernel
theorem dX0_marked_36 : decode cX0_marked 36 = .ok (.goto (-31), 3) := by decide +kernel
theorem dX0_marked_39 : decode cX0_marked 39 = .ok (.iload_n 3, 1) := by decide +kernel
theorem dX0_marked_40 : decode cX0_marked 40 = .ok (.ireturn, 1) := by decide +kernel
theorem dX0_hinderedSteps_0 : decode cX0_hinderedSteps 0 = .ok (.iconst 0, 1) := by decide +kernel
theorem dX0_hinderedSteps_1 : decode cX0_hinderedSteps 1 = .ok (.istore_n 2, 1) := by decide +kernel
theorem dX0_hinderedSteps_2 : decode cX0_hinderedSteps 2 = .ok (.iconst 0, 1) := by decide +kernel
theorem dX0_hinderedSteps_3 : decode cX0_hinderedSteps 3 = .ok (.istore_n 3, 1) := by decide +kernel
theorem dX0_hinderedSteps_4 : decode cX0_hinderedSteps 4 = .ok (.iload_n 3, 1) := by decide +kernel
theorem dX0_hinderedSteps_5 : decode cX0_hinderedSteps 5 = .ok (.aload_n 1, 1) := by decide +kernel
theorem dX0_hinderedSteps_6 : decode cX0_hinderedSteps 6 = .ok (.getfield 57, 3) := by decide +kernel
theorem dX0_hinderedSteps_9 : decode cX0_hinderedSteps 9 = .ok (.if_icmp .ge 39, 3) := by decide +kernel
theorem dX0_hinderedSteps_12 : decode cX0_hinderedSteps 12 = .ok (.iload_n 2, 1) := by decide +kernel
theorem dX0_hinderedSteps_13 : decode cX0_hinderedSteps 13 = .ok (.aload_n 0, 1) := by decide +kernel
theorem dX0_hinderedSteps_14 : decode cX0_hinderedSteps 14 = .ok (.getfield 22, 3) := by decide +kernel
theorem dX0_hinderedSteps_17 : decode cX0_hinderedSteps 17 = .ok (.iload_n 3, 1) := by decide +kernel
theorem dX0_hinderedSteps_18 : decode cX0_hinderedSteps 18 = .ok (.iaload, 1) := by decide +kernel
theorem dX0_hinderedSteps_19 : decode cX0_hinderedSteps 19 = .ok (.bipush (-2), 2) := by decide +kernel
theorem dX0_hinderedSteps_21 : decode cX0_hinderedSteps 21 = .ok (.if_icmp .eq 14, 3) := by decide +kernel
theorem dX0_hinderedSteps_24 : decode cX0_hinderedSteps 24 = .ok (.aload_n 0, 1) := by decide +kernel
theorem dX0_hinderedSteps_25 : decode cX0_hinderedSteps 25 = .ok (.getfield 22, 3) := by decide +kernel
theorem dX0_hinderedSteps_28 : decode cX0_hinderedSteps 28 = .ok (.iload_n 3, 1) := by decide +kernel
theorem dX0_hinderedSteps_29 : decode cX0_hinderedSteps 29 = .ok (.iaload, 1) := by decide +kernel
theorem dX0_hinderedSteps_30 : decode cX0_hinderedSteps 30 = .ok (.bipush (-3), 2) := by decide +kernel
theorem dX0_hinderedSteps_32 : decode cX0_hinderedSteps 32 = .ok (.if_icmp .ne 7, 3) := by decide +kernel
theorem dX0_hinderedSteps_35 : decode cX0_hinderedSteps 35 = .ok (.iconst 1, 1) := by decide +kernel
theorem dX0_hinderedSteps_36 : decode cX0_hinderedSteps 36 = .ok (.goto 4, 3) := by decide +kernel
theorem dX0_hinderedSteps_39 : decode cX0_hinderedSteps 39 = .ok (.iconst 0, 1) := by decide +kernel
theorem dX0_hinderedSteps_40 : decode cX0_hinderedSteps 40 = .ok (.iadd, 1) := by decide +kernel
theorem dX0_hinderedSteps_41 : decode cX0_hinderedSteps 41 = .ok (.istore_n 2, 1) := by decide +kernel
theorem dX0_hinderedSteps_42 : decode cX0_hinderedSteps 42 = .ok (.iinc 3 1, 3) := by decide +kernel
theorem dX0_hinderedSteps_45 : decode cX0_hinderedSteps 45 = .ok (.goto (-41), 3) := by decide +kernel
theorem dX0_hinderedSteps_48 : decode cX0_hinderedSteps 48 = .ok (.iload_n 2, 1) := by decide +kernel
theorem dX0_hinderedSteps_49 : decode cX0_hinderedSteps 49 = .ok (.ireturn, 1) := by decide +kernel
theorem dX1_init_0 : decode cX1_init 0 = .ok (.aload_n 0, 1) := by decide +kernel
theorem dX1_init_1 : decode cX1_init 1 = .ok (.invokespecial 3, 3) := by decide +kernel
theorem dX1_init_4 : decode cX1_init 4 = .ok (.aload_n 0, 1) := by decide +kernel
theorem dX1_init_5 : decode cX1_init 5 = .ok (.iconst 5, 1) := by decide +kernel
theorem dX1_init_6 : decode cX1_init 6 = .ok (.newarray .int, 2) := by decide +kernel
theorem dX1_init_8 : decode cX1_init 8 = .ok (.putfield 9, 3) := by decide +kernel
theorem dX1_init_11 : decode cX1_init 11 = .ok (.aload_n 0, 1) := by decide +kernel
theorem dX1_init_12 : decode cX1_init 12 = .ok (.iconst 5, 1) := by decide +kernel
theorem dX1_init_13 : decode cX1_init 13 = .ok (.newarray .int, 2) := by decide +kernel
theorem dX1_init_15 : decode cX1_init 15 = .ok (.putfield 15, 3) := by decide +kernel
theorem dX1_init_18 : decode cX1_init 18 = .ok (.aload_n 0, 1) := by decide +kernel
theorem dX1_init_19 : decode cX1_init 19 = .ok (.iconst 5, 1) := by decide +kernel
theorem dX1_init_20 : decode cX1_init 20 = .ok (.newarray .int, 2) := by decide +kernel
theorem dX1_init_22 : decode cX1_init 22 = .ok (.putfield 18, 3) := by decide +kernel
theorem dX1_init_25 : decode cX1_init 25 = .ok (.aload_n 0, 1) := by decide +kernel
theorem dX1_init_26 : decode cX1_init 26 = .ok (.iconst 5, 1) := by decide +kernel
theorem dX1_init_27 : decode cX1_init 27 = .ok (.newarray .int, 2) := by decide +kernel
theorem dX1_init_29 : decode cX1_init 29 = .ok (.putfield 21, 3) := by decide +kernel
theorem dX1_init_32 : decode cX1_init 32 = .ok (.aload_n 0, 1) := by decide +kernel
theorem dX1_init_33 : decode cX1_init 33 = .ok (.iconst 5, 1) := by decide +kernel
theorem dX1_init_34 : decode cX1_init 34 = .ok (.newarray .int, 2) := by decide +kernel
theorem dX1_init_36 : decode cX1_init 36 = .ok (.putfield 24, 3) := by decide +kernel
theorem dX1_init_39 : decode cX1_init 39 = .ok (.aload_n 0, 1) := by decide +kernel
theorem dX1_init_40 : decode cX1_init 40 = .ok (.iconst 5, 1) := by decide +kernel
theorem dX1_init_41 : decode cX1_init 41 = .ok (.newarray .int, 2) := by decide +kernel
theorem dX1_init_43 : decode cX1_init 43 = .ok (.putfield 27, 3) := by decide +kernel
theorem dX1_init_46 : decode cX1_init 46 = .ok (.aload_n 0, 1) := by decide +kernel
theorem dX1_init_47 : decode cX1_init 47 = .ok (.iconst 5, 1) := by decide +kernel
theorem dX1_init_48 : decode cX1_init 48 = .ok (.newarray .int, 2) := by decide +kernel
theorem dX1_init_50 : decode cX1_init 50 = .ok (.putfield 30, 3) := by decide +kernel
theorem dX1_init_53 : decode cX1_init 53 = .ok (.aload_n 0, 1) := by decide +kernel
theorem dX1_init_54 : decode cX1_init 54 = .ok (.iconst 5, 1) := by decide +kernel
theorem dX1_init_55 : decode cX1_init 55 = .ok (.newarray .int, 2) := by decide +kernel
theorem dX1_init_57 : decode cX1_init 57 = .ok (.putfield 33, 3) := by decide +kernel
theorem dX1_init_60 : decode cX1_init 60 = .ok (.aload_n 0, 1) := by decide +kernel
theorem dX1_init_61 : decode cX1_init 61 = .ok (.iconst 5, 1) := by decide +kernel
theorem dX1_init_62 : decode cX1_init 62 = .ok (.newarray .int, 2) := by decide +kernel
theorem dX1_init_64 : decode cX1_init 64 = .ok (.putfield 36, 3) := by decide +kernel
theorem dX1_init_67 : decode cX1_init 67 = .ok (.aload_n 0, 1) := by decide +kernel
theorem dX1_init_68 : decode cX1_init 68 = .ok (.iconst 5, 1) := by decide +kernel
theorem dX1_init_69 : decode cX1_init 69 = .ok (.newarray .int, 2) := by decide +kernel
theorem dX1_init_71 : decode cX1_init 71 = .ok (.putfield 39, 3) := by decide +kernel
theorem dX1_init_74 : decode cX1_init 74 = .ok (.return_, 1) := by decide +kernel
theorem dX1_begin_0 : decode cX1_begin 0 = .ok (.aload_n 0, 1) := by decide +kernel
theorem dX1_begin_1 : decode cX1_begin 1 = .ok (.iload_n 1, 1) := by decide +kernel
theorem dX1_begin_2 : decode cX1_begin 2 = .ok (.putfield 42, 3) := by decide +kernel
theorem dX1_begin_5 : decode cX1_begin 5 = .ok (.aload_n 0, 1) := by decide +kernel
theorem dX1_begin_6 : decode cX1_begin 6 = .ok (.iconst 0, 1) := by decide +kernel
theorem dX1_begin_7 : decode cX1_begin 7 = .ok (.putfield 46, 3) := by decide +kernel
theorem dX1_begin_10 : decode cX1_begin 10 = .ok (.aload_n 0, 1) := by decide +kernel
theorem dX1_begin_11 : decode cX1_begin 11 = .ok (.getfield 9, 3) := by decide +kernel
theorem dX1_begin_14 : decode cX1_begin 14 = .ok (.iconst 0, 1) := by decide +kernel
theorem dX1_begin_15 : decode cX1_begin 15 = .ok (.invokestatic 49, 3) := by decide +kernel
theorem dX1_begin_18 : decode cX1_begin 18 = .ok (.aload_n 0, 1) := by decide +kernel
theorem dX1_begin_19 : decode cX1_begin 19 = .ok (.getfield 15, 3) := by decide +kernel
theorem dX1_begin_22 : decode cX1_begin 22 = .ok (.iconst (-1), 1) := by decide +kernel
theorem dX1_begin_23 : decode cX1_begin 23 = .ok (.invokestatic 49, 3) := by decide +kernel
theorem dX1_begin_26 : decode cX1_begin 26 = .ok (.aload_n 0, 1) := by decide +kernel
theorem dX1_begin_27 : decode cX1_begin 27 = .ok (.getfield 18, 3) := by decide +kernel
theorem dX1_begin_30 : decode cX1_begin 30 = .ok (.iconst 0, 1) := by decide +kernel
theorem dX1_begin_31 : decode cX1_begin 31 = .ok (.invokestatic 49, 3) := by decide +kernel
theorem dX1_begin_34 : decode cX1_begin 34 = .ok (.return_, 1) := by decide +kernel
theorem dX1_copyFrom_0 : decode cX1_copyFrom 0 = .ok (.aload_n 0, 1) := by decide +kernel
theorem dX1_copyFrom_1 : decode cX1_copyFrom 1 = .ok (.aload_n 1, 1) := by decide +kernel
theorem dX1_copyFrom_2 : decode cX1_copyFrom 2 = .ok (.getfield 42, 3) := by decide +kernel
theorem dX1_copyFrom_5 : decode cX1_copyFrom 5 = .ok (.putfield 42, 3) := by decide +kernel
theorem dX1_copyFrom_8 : decode cX1_copyFrom 8 = .ok (.aload_n 0, 1) := by decide +kernel
theorem dX1_copyFrom_9 : decode cX1_copyFrom 9 = .ok (.aload_n 1, 1) := by decide +kernel
theorem dX1_copyFrom_10 : decode cX1_copyFrom 10 = .ok (.getfield 46, 3) := by decide +kernel
theorem dX1_copyFrom_13 : decode cX1_copyFrom 13 = .ok (.putfield 46, 3) := by decide +kernel
theorem dX1_copyFrom_16 : decode cX1_copyFrom 16 = .ok (.aload_n 1, 1) := by decide +kernel
theorem dX1_copyFrom_17 : decode cX1_copyFrom 17 = .ok (.getfield 9, 3) := by decide +kernel
theorem dX1_copyFrom_20 : decode cX1_copyFrom 20 = .ok (.iconst 0, 1) := by decide +kernel
theorem dX1_copyFrom_21 : decode cX1_copyFrom 21 = .ok (.aload_n 0, 1) := by decide +kernel
theorem dX1_copyFrom_22 : decode cX1_copyFrom 22 = .ok (.getfield 9, 3) := by decide +kernel
theorem dX1_copyFrom_25 : decode cX1_copyFrom 25 = .ok (.iconst 0, 1) := by decide +kernel
theorem dX1_copyFrom_26 : decode cX1_copyFrom 26 = .ok (.iconst 5, 1) := by decide +kernel
theorem dX1_copyFrom_27 : decode cX1_copyFrom 27 = .ok (.invokestatic 55, 3) := by decide +kernel
theorem dX1_copyFrom_30 : decode cX1_copyFrom 30 = .ok (.aload_n 1, 1) := by decide +kernel
theorem dX1_copyFrom_31 : decode cX1_copyFrom 31 = .ok (.getfield 15, 3) := by decide +kernel
theorem dX1_copyFrom_34 : decode cX1_copyFrom 34 = .ok (.iconst 0, 1) := by decide +kernel
theorem dX1_copyFrom_35 : decode cX1_copyFrom 35 = .ok (.aload_n 0, 1) := by decide +kernel
theorem dX1_copyFrom_36 : decode cX1_copyFrom 36 = .ok (.getfield 15, 3) := by decide +kernel
theorem dX1_copyFrom_39 : decode cX1_copyFrom 39 = .ok (.iconst 0, 1) := by decide +kernel
theorem dX1_copyFrom_40 : decode cX1_copyFrom 40 = .ok (.iconst 5, 1) := by decide +kernel
theorem dX1_copyFrom_41 : decode cX1_copyFrom 41 = .ok (.invokestatic 55, 3) := by decide +kernel
theorem dX1_copyFrom_44 : decode cX1_copyFrom 44 = .ok (.aload_n 1, 1) := by decide +kernel
theorem dX1_copyFrom_45 : decode cX1_copyFrom 45 = .ok (.getfield 18, 3) := by decide +kernel
theorem dX1_copyFrom_48 : decode cX1_copyFrom 48 = .ok (.iconst 0, 1) := by decide +kernel
theorem dX1_copyFrom_49 : decode cX1_copyFrom 49 = .ok (.aload_n 0, 1) := by decide +kernel
theorem dX1_copyFrom_50 : decode cX1_copyFrom 50 = .ok (.getfield 18, 3) := by decide +kernel
theorem dX1_copyFrom_53 : decode cX1_copyFrom 53 = .ok (.iconst 0, 1) := by decide +kernel
theorem dX1_copyFrom_54 : decode cX1_copyFrom 54 = .ok (.iconst 5, 1) := by decide +kernel
theorem dX1_copyFrom_55 : decode cX1_copyFrom 55 = .ok (.invokestatic 55, 3) := by decide +kernel
theorem dX1_copyFrom_58 : decode cX1_copyFrom 58 = .ok (.aload_n 1, 1) := by decide +kernel
theorem dX1_copyFrom_59 : decode cX1_copyFrom 59 = .ok (.getfield 21, 3) := by decide +kernel
theorem dX1_copyFrom_62 : decode cX1_copyFrom 62 = .ok (.iconst 0, 1) := by decide +kernel
theorem dX1_copyFrom_63 : decode cX1_copyFrom 63 = .ok (.aload_n 0, 1) := by decide +kernel
theorem dX1_copyFrom_64 : decode cX1_copyFrom 64 = .ok (.getfield 21, 3) := by decide +kernel
theorem dX1_copyFrom_67 : decode cX1_copyFrom 67 = .ok (.iconst 0, 1) := by decide +kernel
theorem dX1_copyFrom_68 : decode cX1_copyFrom 68 = .ok (.iconst 5, 1) := by decide +kernel
theorem dX1_copyFrom_69 : decode cX1_copyFrom 69 = .ok (.invokestatic 55, 3) := by decide +kernel
theorem dX1_copyFrom_72 : decode cX1_copyFrom 72 = .ok (.aload_n 1, 1) := by decide +kernel
theorem dX1_copyFrom_73 : decode cX1_copyFrom 73 = .ok (.getfield 24, 3) := by decide +kernel
theorem dX1_copyFrom_76 : decode cX1_copyFrom 76 = .ok (.iconst 0, 1) := by decide +kernel
theorem dX1_copyFrom_77 : decode cX1_copyFrom 77 = .ok (.aload_n 0, 1) := by decide +kernel
theorem dX1_copyFrom_78 : decode cX1_copyFrom 78 = .ok (.getfield 24, 3) := by decide +kernel
theorem dX1_copyFrom_81 : decode cX1_copyFrom 81 = .ok (.iconst 0, 1) := by decide +kernel
theorem dX1_copyFrom_82 : decode cX1_copyFrom 82 = .ok (.iconst 5, 1) := by decide +kernel
theorem dX1_copyFrom_83 : decode cX1_copyFrom 83 = .ok (.invokestatic 55, 3) := by decide +kernel
theorem dX1_copyFrom_86 : decode cX1_copyFrom 86 = .ok (.aload_n 1, 1) := by decide +kernel
theorem dX1_copyFrom_87 : decode cX1_copyFrom 87 = .ok (.getfield 27, 3) := by decide +kernel
theorem dX1_copyFrom_90 : decode cX1_copyFrom 90 = .ok (.iconst 0, 1) := by decide +kernel
theorem dX1_copyFrom_91 : decode cX1_copyFrom 91 = .ok (.aload_n 0, 1) := by decide +kernel
theorem dX1_copyFrom_92 : decode cX1_copyFrom 92 = .ok (.getfield 27, 3) := by decide +kernel
theorem dX1_copyFrom_95 : decode cX1_copyFrom 95 = .ok (.iconst 0, 1) := by decide +kernel
theorem dX1_copyFrom_96 : decode cX1_copyFrom 96 = .ok (.iconst 5, 1) := by decide +kernel
theorem dX1_copyFrom_97 : decode cX1_copyFrom 97 = .ok (.invokestatic 55, 3) := by decide +kernel
theorem dX1_copyFrom_100 : decode cX1_copyFrom 100 = .ok (.aload_n 1, 1) := by decide +kernel
theorem dX1_copyFrom_101 : decode cX1_copyFrom 101 = .ok (.getfield 30, 3) := by decide +kernel
theorem dX1_copyFrom_104 : decode cX1_copyFrom 104 = .ok (.iconst 0, 1) := by decide +kernel
theorem dX1_copyFrom_105 : decode cX1_copyFrom 105 = .ok (.aload_n 0, 1) := by decide +kernel
theorem dX1_copyFrom_106 : decode cX1_copyFrom 106 = .ok (.getfield 30, 3) := by decide +kernel
theorem dX1_copyFrom_109 : decode cX1_copyFrom 109 = .ok (.iconst 0, 1) := by decide +kernel
theorem dX1_copyFrom_110 : decode cX1_copyFrom 110 = .ok (.iconst 5, 1) := by decide +kernel
theorem dX1_copyFrom_111 : decode cX1_copyFrom 111 = .ok (.invokestatic 55, 3) := by decide +kernel
theorem dX1_copyFrom_114 : decode cX1_copyFrom 114 = .ok (.aload_n 1, 1) := by decide +kernel
theorem dX1_copyFrom_115 : decode cX1_copyFrom 115 = .ok (.getfield 33, 3) := by decide +kernel
theorem dX1_copyFrom_118 : decode cX1_copyFrom 118 = .ok (.iconst 0, 1) := by decide +kernel
theorem dX1_copyFrom_119 : decode cX1_copyFrom 119 = .ok (.aload_n 0, 1) := by decide +kernel
theorem dX1_copyFrom_120 : decode cX1_copyFrom 120 = .ok (.getfield 33, 3) := by decide +kernel
theorem dX1_copyFrom_123 : decode cX1_copyFrom 123 = .ok (.iconst 0, 1) := by decide +kernel
theorem dX1_copyFrom_124 : decode cX1_copyFrom 124 = .ok (.iconst 5, 1) := by decide +kernel
theorem dX1_copyFrom_125 : decode cX1_copyFrom 125 = .ok (.invokestatic 55, 3) := by decide +kernel
theorem dX1_copyFrom_128 : decode cX1_copyFrom 128 = .ok (.aload_n 1, 1) := by decide +kernel
theorem dX1_copyFrom_129 : decode cX1_copyFrom 129 = .ok (.getfield 36, 3) := by decide +kernel
theorem dX1_copyFrom_132 : decode cX1_copyFrom 132 = .ok (.iconst 0, 1) := by decide +kernel
theorem dX1_copyFrom_133 : decode cX1_copyFrom 133 = .ok (.aload_n 0, 1) := by decide +kernel
theorem dX1_copyFrom_134 : decode cX1_copyFrom 134 = .ok (.getfield 36, 3) := by decide +kernel
theorem dX1_copyFrom_137 : decode cX1_copyFrom 137 = .ok (.iconst 0, 1) := by decide +kernel
theorem dX1_copyFrom_138 : decode cX1_copyFrom 138 = .ok (.iconst 5, 1) := by decide +kernel
theorem dX1_copyFrom_139 : decode cX1_copyFrom 139 = .ok (.invokestatic 55, 3) := by decide +kernel
theorem dX1_copyFrom_142 : decode cX1_copyFrom 142 = .ok (.aload_n 1, 1) := by decide +kernel
theorem dX1_copyFrom_143 : decode cX1_copyFrom 143 = .ok (.getfield 39, 3) := by decide +kernel
theorem dX1_copyFrom_146 : decode cX1_copyFrom 146 = .ok (.iconst 0, 1) := by decide +kernel
theorem dX1_copyFrom_147 : decode cX1_copyFrom 147 = .ok (.aload_n 0, 1) := by decide +kernel
theorem dX1_copyFrom_148 : decode cX1_copyFrom 148 = .ok (.getfield 39, 3) := by decide +kernel
theorem dX1_copyFrom_151 : decode cX1_copyFrom 151 = .ok (.iconst 0, 1) := by decide +kernel
theorem dX1_copyFrom_152 : decode cX1_copyFrom 152 = .ok (.iconst 5, 1) := by decide +kernel
theorem dX1_copyFrom_153 : decode cX1_copyFrom 153 = .ok (.invokestatic 55, 3) := by decide +kernel
theorem dX1_copyFrom_156 : decode cX1_copyFrom 156 = .ok (.return_, 1) := by decide +kernel
theorem dX1_has_0 : decode cX1_has 0 = .ok (.iload_n 1, 1) := by decide +kernel
theorem dX1_has_1 : decode cX1_has 1 = .ok (.ifCond .lt 15, 3) := by decide +kernel
theorem dX1_has_4 : decode cX1_has 4 = .ok (.iload_n 1, 1) := by decide +kernel
theorem dX1_has_5 : decode cX1_has 5 = .ok (.aload_n 0, 1) := by decide +kernel
theorem dX1_has_6 : decode cX1_has 6 = .ok (.getfield 42, 3) := by decide +kernel
theorem dX1_has_9 : decode cX1_has 9 = .ok (.if_icmp .ge 7, 3) := by decide +kernel
theorem dX1_has_12 : decode cX1_has 12 = .ok (.iconst 1, 1) := by decide +kernel
theorem dX1_has_13 : decode cX1_has 13 = .ok (.goto 4, 3) := by decide +kernel
theorem dX1_has_16 : decode cX1_has 16 = .ok (.iconst 0, 1) := by decide +kernel
theorem dX1_has_17 : decode cX1_has 17 = .ok (.ireturn, 1) := by decide +kernel
theorem dX1_mayDo_0 : decode cX1_mayDo 0 = .ok (.aload_n 0, 1) := by decide +kernel
theorem dX1_mayDo_1 : decode cX1_mayDo 1 = .ok (.iload_n 1, 1) := by decide +kernel
theorem dX1_mayDo_2 : decode cX1_mayDo 2 = .ok (.invokevirtual 61, 3) := by decide +kernel
theorem dX1_mayDo_5 : decode cX1_mayDo 5 = .ok (.ifCond .ne 5, 3) := by decide +kernel
theorem dX1_mayDo_8 : decode cX1_mayDo 8 = .ok (.iconst 0, 1) := by decide +kernel
theorem dX1_mayDo_9 : decode cX1_mayDo 9 = .ok (.ireturn, 1) := by decide +kernel
theorem dX1_mayDo_10 : decode cX1_mayDo 10 = .ok (.iload_n 2, 1) := by decide +kernel
theorem dX1_mayDo_11 : decode cX1_mayDo 11 = .ok (.ifCond .ne 18, 3) := by decide +kernel
theorem dX1_mayDo_14 : decode cX1_mayDo 14 = .ok (.aload_n 0, 1) := by decide +kernel
theorem dX1_mayDo_15 : decode cX1_mayDo 15 = .ok (.getfield 9, 3) := by decide +kernel
theorem dX1_mayDo_18 : decode cX1_mayDo 18 = .ok (.iload_n 1, 1) := by decide +kernel
theorem dX1_mayDo_19 : decode cX1_mayDo 19 = .ok (.iaload, 1) := by decide +kernel
theorem dX1_mayDo_20 : decode cX1_mayDo 20 = .ok (.ifCond .ne 7, 3) := by decide +kernel
theorem dX1_mayDo_23 : decode cX1_mayDo 23 = .ok (.iconst 1, 1) := by decide +kernel
theorem dX1_mayDo_24 : decode cX1_mayDo 24 = .ok (.goto 4, 3) := by decide +kernel
theorem dX1_mayDo_27 : decode cX1_mayDo 27 = .ok (.iconst 0, 1) := by decide +kernel
theorem dX1_mayDo_28 : decode cX1_mayDo 28 = .ok (.ireturn, 1) := by decide +kernel
theorem dX1_mayDo_29 : decode cX1_mayDo 29 = .ok (.iload_n 2, 1) := by decide +kernel
theorem dX1_mayDo_30 : decode cX1_mayDo 30 = .ok (.bipush 8, 2) := by decide +kernel
theorem dX1_mayDo_32 : decode cX1_mayDo 32 = .ok (.if_icmp .ne 20, 3) := by decide +kernel
theorem dX1_mayDo_35 : decode cX1_mayDo 35 = .ok (.aload_n 0, 1) := by decide +kernel
theorem dX1_mayDo_36 : decode cX1_mayDo 36 = .ok (.getfield 9, 3) := by decide +kernel
theorem dX1_mayDo_39 : decode cX1_mayDo 39 = .ok (.iload_n 1, 1) := by decide +kernel
theorem dX1_mayDo_40 : decode cX1_mayDo 40 = .ok (.iaload, 1) := by decide +kernel
theorem dX1_mayDo_41 : decode cX1_mayDo 41 = .ok (.ifCond .eq 7, 3) := by decide +kernel
theorem dX1_mayDo_44 : decode cX1_mayDo 44 = .ok (.iconst 1, 1) := by decide +kernel
theorem dX1_mayDo_45 : decode cX1_mayDo 45 = .ok (.goto 22, 3) := by decide +kernel
theorem dX1_mayDo_48 : decode cX1_mayDo 48 = .ok (.iconst 0, 1) := by decide +kernel
theorem dX1_mayDo_49 : decode cX1_mayDo 49 = .ok (.goto 18, 3) := by decide +kernel
theorem dX1_mayDo_52 : decode cX1_mayDo 52 = .ok (.aload_n 0, 1) := by decide +kernel
theorem dX1_mayDo_53 : decode cX1_mayDo 53 = .ok (.getfield 9, 3) := by decide +kernel
theorem dX1_mayDo_56 : decode cX1_mayDo 56 = .ok (.iload_n 1, 1) := by decide +kernel
theorem dX1_mayDo_57 : decode cX1_mayDo 57 = .ok (.iaload, 1) := by decide +kernel
theorem dX1_mayDo_58 : decode cX1_mayDo 58 = .ok (.iconst 1, 1) := by decide +kernel
theorem dX1_mayDo_59 : decode cX1_mayDo 59 = .ok (.if_icmp .ne 7, 3) := by decide +kernel
theorem dX1_mayDo_62 : decode cX1_mayDo 62 = .ok (.iconst 1, 1) := by decide +kernel
theorem dX1_mayDo_63 : decode cX1_mayDo 63 = .ok (.goto 4, 3) := by decide +kernel
theorem dX1_mayDo_66 : decode cX1_mayDo 66 = .ok (.iconst 0, 1) := by decide +kernel
theorem dX1_mayDo_67 : decode cX1_mayDo 67 = .ok (.ireturn, 1) := by decide +kernel
theorem dX1_keepTask_0 : decode cX1_keepTask 0 = .ok (.aload_n 0, 1) := by decide +kernel
theorem dX1_keepTask_1 : decode cX1_keepTask 1 = .ok (.getfield 21, 3) := by decide +kernel
theorem dX1_keepTask_4 : decode cX1_keepTask 4 = .ok (.iload_n 1, 1) := by decide +kernel
theorem dX1_keepTask_5 : decode cX1_keepTask 5 = .ok (.iload_n 2, 1) := by decide +kernel
theorem dX1_keepTask_6 : decode cX1_keepTask 6 = .ok (.iastore, 1) := by decide +kernel
theorem dX1_keepTask_7 : decode cX1_keepTask 7 = .ok (.aload_n 0, 1) := by decide +kernel
theorem dX1_keepTask_8 : decode cX1_keepTask 8 = .ok (.getfield 24, 3) := by decide +kernel
theorem dX1_keepTask_11 : decode cX1_keepTask 11 = .ok (.iload_n 1, 1) := by decide +kernel
theorem dX1_keepTask_12 : decode cX1_keepTask 12 = .ok (.iload_n 3, 1) := by decide +kernel
theorem dX1_keepTask_13 : decode cX1_keepTask 13 = .ok (.iastore, 1) := by decide +kernel
theorem dX1_keepTask_14 : decode cX1_keepTask 14 = .ok (.aload_n 0, 1) := by decide +kernel
theorem dX1_keepTask_15 : decode cX1_keepTask 15 = .ok (.getfield 27, 3) := by decide +kernel
theorem dX1_keepTask_18 : decode cX1_keepTask 18 = .ok (.iload_n 1, 1) := by decide +kernel
theorem dX1_keepTask_19 : decode cX1_keepTask 19 = .ok (.iload 4, 2) := by decide +kernel
theorem dX1_keepTask_21 : decode cX1_keepTask 21 = .ok (.iastore, 1) := by decide +kernel
theorem dX1_keepTask_22 : decode cX1_keepTask 22 = .ok (.aload_n 0, 1) := by decide +kernel
theorem dX1_keepTask_23 : decode cX1_keepTask 23 = .ok (.getfield 30, 3) := by decide +kernel
theorem dX1_keepTask_26 : decode cX1_keepTask 26 = .ok (.iload_n 1, 1) := by decide +kernel
theorem dX1_keepTask_27 : decode cX1_keepTask 27 = .ok (.iload 5, 2) := by decide +kernel
theorem dX1_keepTask_29 : decode cX1_keepTask 29 = .ok (.iastore, 1) := by decide +kernel
theorem dX1_keepTask_30 : decode cX1_keepTask 30 = .ok (.return_, 1) := by decide +kernel
theorem dX1_joinLine_0 : decode cX1_joinLine 0 = .ok (.aload_n 0, 1) := by decide +kernel
theorem dX1_joinLine_1 : decode cX1_joinLine 1 = .ok (.getfield 46, 3) := by decide +kernel
theorem dX1_joinLine_4 : decode cX1_joinLine 4 = .ok (.iconst 5, 1) := by decide +kernel
theorem dX1_joinLine_5 : decode cX1_joinLine 5 = .ok (.if_icmp .ge 44, 3) := by decide +kernel
theorem dX1_joinLine_8 : decode cX1_joinLine 8 = .ok (.aload_n 0, 1) := by decide +kernel
theorem dX1_joinLine_9 : decode cX1_joinLine 9 = .ok (.getfield 9, 3) := by decide +kernel
theorem dX1_joinLine_12 : decode cX1_joinLine 12 = .ok (.iload_n 1, 1) := by decide +kernel
theorem dX1_joinLine_13 : decode cX1_joinLine 13 = .ok (.iconst 2, 1) := by decide +kernel
theorem dX1_joinLine_14 : decode cX1_joinLine 14 = .ok (.iastore, 1) := by decide +kernel
theorem dX1_joinLine_15 : decode cX1_joinLine 15 = .ok (.aload_n 0, 1) := by decide +kernel
theorem dX1_joinLine_16 : decode cX1_joinLine 16 = .ok (.getfield 33, 3) := by decide +kernel
theorem dX1_joinLine_19 : decode cX1_joinLine 19 = .ok (.iload_n 1, 1) := by decide +kernel
theorem dX1_joinLine_20 : decode cX1_joinLine 20 = .ok (.iload_n 2, 1) := by decide +kernel
theorem dX1_joinLine_21 : decode cX1_joinLine 21 = .ok (.iastore, 1) := by decide +kernel
theorem dX1_joinLine_22 : decode cX1_joinLine 22 = .ok (.aload_n 0, 1) := by decide +kernel
theorem dX1_joinLine_23 : decode cX1_joinLine 23 = .ok (.getfield 36, 3) := by decide +kernel
theorem dX1_joinLine_26 : decode cX1_joinLine 26 = .ok (.iload_n 1, 1) := by decide +kernel
theorem dX1_joinLine_27 : decode cX1_joinLine 27 = .ok (.iload_n 3, 1) := by decide +kernel
theorem dX1_joinLine_28 : decode cX1_joinLine 28 = .ok (.iastore, 1) := by decide +kernel
theorem dX1_joinLine_29 : decode cX1_joinLine 29 = .ok (.aload_n 0, 1) := by decide +kernel
theorem dX1_joinLine_30 : decode cX1_joinLine 30 = .ok (.getfield 39, 3) := by decide +kernel
theorem dX1_joinLine_33 : decode cX1_joinLine 33 = .ok (.aload_n 0, 1) := by decide +kernel
theorem dX1_joinLine_34 : decode cX1_joinLine 34 = .ok (.getfield 46, 3) := by decide +kernel
theorem dX1_joinLine_37 : decode cX1_joinLine 37 = .ok (.iload_n 1, 1) := by decide +kernel
theorem dX1_joinLine_38 : decode cX1_joinLine 38 = .ok (.iastore, 1) := by decide +kernel
theorem dX1_joinLine_39 : decode cX1_joinLine 39 = .ok (.aload_n 0, 1) := by decide +kernel
theorem dX1_joinLine_40 : decode cX1_joinLine 40 = .ok (.dup, 1) := by decide +kernel
theorem dX1_joinLine_41 : decode cX1_joinLine 41 = .ok (.getfield 46, 3) := by decide +kernel
theorem dX1_joinLine_44 : decode cX1_joinLine 44 = .ok (.iconst 1, 1) := by decide +kernel
theorem dX1_joinLine_45 : decode cX1_joinLine 45 = .ok (.iadd, 1) := by decide +kernel
theorem dX1_joinLine_46 : decode cX1_joinLine 46 = .ok (.putfield 46, 3) := by decide +kernel
theorem dX1_joinLine_49 : decode cX1_joinLine 49 = .ok (.return_, 1) := by decide +kernel
theorem dX1_leaveLine_0 : decode cX1_leaveLine 0 = .ok (.iconst 0, 1) := by decide +kernel
theorem dX1_leaveLine_1 : decode cX1_leaveLine 1 = .ok (.istore_n 2, 1) := by decide +kernel
theorem dX1_leaveLine_2 : decode cX1_leaveLine 2 = .ok (.iconst 0, 1) := by decide +kernel
theorem dX1_leaveLine_3 : decode cX1_leaveLine 3 = .ok (.istore_n 3, 1) := by decide +kernel
theorem dX1_leaveLine_4 : decode cX1_leaveLine 4 = .ok (.iload_n 3, 1) := by decide +kernel
theorem dX1_leaveLine_5 : decode cX1_leaveLine 5 = .ok (.aload_n 0, 1) := by decide +kernel
theorem dX1_leaveLine_6 : decode cX1_leaveLine 6 = .ok (.getfield 46, 3) := by decide +kernel
theorem dX1_leaveLine_9 : decode cX1_leaveLine 9 = .ok (.if_icmp .ge 34, 3) := by decide +kernel
theorem dX1_leaveLine_12 : decode cX1_leaveLine 12 = .ok (.aload_n 0, 1) := by decide +kernel
theorem dX1_leaveLine_13 : decode cX1_leaveLine 13 = .ok (.getfield 39, 3) := by decide +kernel
theorem dX1_leaveLine_16 : decode cX1_leaveLine 16 = .ok (.iload_n 3, 1) := by decide +kernel
theorem dX1_leaveLine_17 : decode cX1_leaveLine 17 = .ok (.iaload, 1) := by decide +kernel
theorem dX1_leaveLine_18 : decode cX1_leaveLine 18 = .ok (.iload_n 1, 1) := by decide +kernel
theorem dX1_leaveLine_19 : decode cX1_leaveLine 19 = .ok (.if_icmp .eq 18, 3) := by decide +kernel
theorem dX1_leaveLine_22 : decode cX1_leaveLine 22 = .ok (.aload_n 0, 1) := by decide +kernel
theorem dX1_leaveLine_23 : decode cX1_leaveLine 23 = .ok (.getfield 39, 3) := by decide +kernel
theorem dX1_leaveLine_26 : decode cX1_leaveLine 26 = .ok (.iload_n 2, 1) := by decide +kernel
theorem dX1_leaveLine_27 : decode cX1_leaveLine 27 = .ok (.aload_n 0, 1) := by decide +kernel
theorem dX1_leaveLine_28 : decode cX1_leaveLine 28 = .ok (.getfield 39, 3) := by decide +kernel
theorem dX1_leaveLine_31 : decode cX1_leaveLine 31 = .ok (.iload_n 3, 1) := by decide +kernel
theorem dX1_leaveLine_32 : decode cX1_leaveLine 32 = .ok (.iaload, 1) := by decide +kernel
theorem dX1_leaveLine_33 : decode cX1_leaveLine 33 = .ok (.iastore, 1) := by decide +kernel
theorem dX1_leaveLine_34 : decode cX1_leaveLine 34 = .ok (.iinc 2 1, 3) := by decide +kernel
theorem dX1_leaveLine_37 : decode cX1_leaveLine 37 = .ok (.iinc 3 1, 3) := by decide +kernel
theorem dX1_leaveLine_40 : decode cX1_leaveLine 40 = .ok (.goto (-36), 3) := by decide +kernel
theorem dX1_leaveLine_43 : decode cX1_leaveLine 43 = .ok (.aload_n 0, 1) := by decide +kernel
theorem dX1_leaveLine_44 : decode cX1_leaveLine 44 = .ok (.iload_n 2, 1) := by decide +kernel
theorem dX1_leaveLine_45 : decode cX1_leaveLine 45 = .ok (.putfield 46, 3) := by decide +kernel
theorem dX1_leaveLine_48 : decode cX1_leaveLine 48 = .ok (.return_, 1) := by decide +kernel
theorem dX1_inState_0 : decode cX1_inState 0 = .ok (.iconst 0, 1) := by decide +kernel
theorem dX1_inState_1 : decode cX1_inState 1 = .ok (.istore_n 2, 1) := by decide +kernel
theorem dX1_inState_2 : decode cX1_inState 2 = .ok (.iconst 0, 1) := by decide +kernel
theorem dX1_inState_3 : decode cX1_inState 3 = .ok (.istore_n 3, 1) := by decide +kernel
theorem dX1_inState_4 : decode cX1_inState 4 = .ok (.iload_n 3, 1) := by decide +kernel
theorem dX1_inState_5 : decode cX1_inState 5 = .ok (.aload_n 0, 1) := by decide +kernel
theorem dX1_inState_6 : decode cX1_inState 6 = .ok (.getfield 42, 3) := by decide +kernel
theorem dX1_inState_9 : decode cX1_inState 9 = .ok (.if_icmp .ge 27, 3) := by decide +kernel
theorem dX1_inState_12 : decode cX1_inState 12 = .ok (.iload_n 2, 1) := by decide +kernel
theorem dX1_inState_13 : decode cX1_inState 13 = .ok (.aload_n 0, 1) := by decide +kernel
theorem dX1_inState_14 : decode cX1_inState 14 = .ok (.getfield 9, 3) := by decide +kernel
theorem dX1_inState_17 : decode cX1_inState 17 = .ok (.iload_n 3, 1) := by decide +kernel
theorem dX1_inState_18 : decode cX1_inState 18 = .ok (.iaload, 1) := by decide +kernel
theorem dX1_inState_19 : decode cX1_inState 19 = .ok (.iload_n 1, 1) := by decide +kernel
theorem dX1_inState_20 : decode cX1_inState 20 = .ok (.if_icmp .ne 7, 3) := by decide +kernel
theorem dX1_inState_23 : decode cX1_inState 23 = .ok (.iconst 1, 1) := by decide +kernel
theorem dX1_inState_24 : decode cX1_inState 24 = .ok (.goto 4, 3) := by decide +kernel
theorem dX1_inState_27 : decode cX1_inState 27 = .ok (.iconst 0, 1) := by decide +kernel
theorem dX1_inState_28 : decode cX1_inState 28 = .ok (.iadd, 1) := by decide +kernel
theorem dX1_inState_29 : decode cX1_inState 29 = .ok (.istore_n 2, 1) := by decide +kernel
theorem dX1_inState_30 : decode cX1_inState 30 = .ok (.iinc 3 1, 3) := by decide +kernel
theorem dX1_inState_33 : decode cX1_inState 33 = .ok (.goto (-29), 3) := by decide +kernel
theorem dX1_inState_36 : decode cX1_inState 36 = .ok (.iload_n 2, 1) := by decide +kernel
theorem dX1_inState_37 : decode cX1_inState 37 = .ok (.ireturn, 1) := by decide +kernel
theorem dX1_firstOpen_0 : decode cX1_firstOpen 0 = .ok (.iconst 0, 1) := by decide +kernel
theorem dX1_firstOpen_1 : decode cX1_firstOpen 1 = .ok (.istore_n 1, 1) := by decide +kernel
theorem dX1_firstOpen_2 : decode cX1_firstOpen 2 = .ok (.iload_n 1, 1) := by decide +kernel
theorem dX1_firstOpen_3 : decode cX1_firstOpen 3 = .ok (.aload_n 0, 1) := by decide +kernel
theorem dX1_firstOpen_4 : decode cX1_firstOpen 4 = .ok (.getfield 42, 3) := by decide +kernel
theorem dX1_firstOpen_7 : decode cX1_firstOpen 7 = .ok (.if_icmp .ge 21, 3) := by decide +kernel
theorem dX1_firstOpen_10 : decode cX1_firstOpen 10 = .ok (.aload_n 0, 1) := by decide +kernel
theorem dX1_firstOpen_11 : decode cX1_firstOpen 11 = .ok (.getfield 9, 3) := by decide +kernel
theorem dX1_firstOpen_14 : decode cX1_firstOpen 14 = .ok (.iload_n 1, 1) := by decide +kernel
theorem dX1_firstOpen_15 : decode cX1_firstOpen 15 = .ok (.iaload, 1) := by decide +kernel
theorem dX1_firstOpen_16 : decode cX1_firstOpen 16 = .ok (.iconst 1, 1) := by decide +kernel
theorem dX1_firstOpen_17 : decode cX1_firstOpen 17 = .ok (.if_icmp .ne 5, 3) := by decide +kernel
theorem dX1_firstOpen_20 : decode cX1_firstOpen 20 = .ok (.iload_n 1, 1) := by decide +kernel
theorem dX1_firstOpen_21 : decode cX1_firstOpen 21 = .ok (.ireturn, 1) := by decide +kernel
theorem dX1_firstOpen_22 : decode cX1_firstOpen 22 = .ok (.iinc 1 1, 3) := by decide +kernel
theorem dX1_firstOpen_25 : decode cX1_firstOpen 25 = .ok (.goto (-23), 3) := by decide +kernel
theorem dX1_firstOpen_28 : decode cX1_firstOpen 28 = .ok (.iconst (-1), 1) := by decide +kernel
theorem dX1_firstOpen_29 : decode cX1_firstOpen 29 = .ok (.ireturn, 1) := by decide +kernel
theorem dX1_allDeaths_0 : decode cX1_allDeaths 0 = .ok (.iconst 0, 1) := by decide +kernel
theorem dX1_allDeaths_1 : decode cX1_allDeaths 1 = .ok (.istore_n 1, 1) := by decide +kernel
theorem dX1_allDeaths_2 : decode cX1_allDeaths 2 = .ok (.iconst 0, 1) := by decide +kernel
theorem dX1_allDeaths_3 : decode cX1_allDeaths 3 = .ok (.istore_n 2, 1) := by decide +kernel
theorem dX1_allDeaths_4 : decode cX1_allDeaths 4 = .ok (.iload_n 2, 1) := by decide +kernel
theorem dX1_allDeaths_5 : decode cX1_allDeaths 5 = .ok (.aload_n 0, 1) := by decide +kernel
theorem dX1_allDeaths_6 : decode cX1_allDeaths 6 = .ok (.getfield 42, 3) := by decide +kernel
theorem dX1_allDeaths_9 : decode cX1_allDeaths 9 = .ok (.if_icmp .ge 18, 3) := by decide +kernel
theorem dX1_allDeaths_12 : decode cX1_allDeaths 12 = .ok (.iload_n 1, 1) := by decide +kernel
theorem dX1_allDeaths_13 : decode cX1_allDeaths 13 = .ok (.aload_n 0, 1) := by decide +kernel
theorem dX1_allDeaths_14 : decode cX1_allDeaths 14 = .ok (.getfield 18, 3) := by decide +kernel
theorem dX1_allDeaths_17 : decode cX1_allDeaths 17 = .ok (.iload_n 2, 1) := by decide +kernel
theorem dX1_allDeaths_18 : decode cX1_allDeaths 18 = .ok (.iaload, 1) := by decide +kernel
theorem dX1_allDeaths_19 : decode cX1_allDeaths 19 = .ok (.iadd, 1) := by decide +kernel
theorem dX1_allDeaths_20 : decode cX1_allDeaths 20 = .ok (.istore_n 1, 1) := by decide +kernel
theorem dX1_allDeaths_21 : decode cX1_allDeaths 21 = .ok (.iinc 2 1, 3) := by decide +kernel
theorem dX1_allDeaths_24 : decode cX1_allDeaths 24 = .ok (.goto (-20), 3) := by decide +kernel
theorem dX1_allDeaths_27 : decode cX1_allDeaths 27 = .ok (.iload_n 1, 1) := by decide +kernel
theorem dX1_allDeaths_28 : decode cX1_allDeaths 28 = .ok (.ireturn, 1) := by decide +kernel
theorem dX2_init_0 : decode cX2_init 0 = .ok (.aload_n 0, 1) := by decide +kernel
theorem dX2_init_1 : decode cX2_init 1 = .ok (.invokespecial 3, 3) := by decide +kernel
theorem dX2_init_4 : decode cX2_init 4 = .ok (.aload_n 0, 1) := by decide +kernel
theorem dX2_init_5 : decode cX2_init 5 = .ok (.new 9, 3) := by decide +kernel
theorem dX2_init_8 : decode cX2_init 8 = .ok (.dup, 1) := by decide +kernel
theorem dX2_init_9 : decode cX2_init 9 = .ok (.invokespecial 11, 3) := by decide +kernel
theorem dX2_init_12 : decode cX2_init 12 = .ok (.putfield 12, 3) := by decide +kernel
theorem dX2_init_15 : decode cX2_init 15 = .ok (.aload_n 0, 1) := by decide +kernel
theorem dX2_init_16 : decode cX2_init 16 = .ok (.sipush 700, 3) := by decide +kernel
theorem dX2_init_19 : decode cX2_init 19 = .ok (.newarray .byte, 2) := by decide +kernel
theorem dX2_init_21 : decode cX2_init 21 = .ok (.putfield 18, 3) := by decide +kernel
theorem dX2_init_24 : decode cX2_init 24 = .ok (.return_, 1) := by decide +kernel
theorem dX2_append_0 : decode cX2_append 0 = .ok (.bipush 24, 2) := by decide +kernel
theorem dX2_append_2 : decode cX2_append 2 = .ok (.istore_n 2, 1) := by decide +kernel
theorem dX2_append_3 : decode cX2_append 3 = .ok (.iload_n 2, 1) := by decide +kernel
theorem dX2_append_4 : decode cX2_append 4 = .ok (.ifCond .lt 42, 3) := by decide +kernel
theorem dX2_append_7 : decode cX2_append 7 = .ok (.aload_n 0, 1) := by decide +kernel
theorem dX2_append_8 : decode cX2_append 8 = .ok (.getfield 22, 3) := by decide +kernel
theorem dX2_append_11 : decode cX2_append 11 = .ok (.sipush 700, 3) := by decide +kernel
theorem dX2_append_14 : decode cX2_append 14 = .ok (.if_icmp .ge 32, 3) := by decide +kernel
theorem dX2_append_17 : decode cX2_append 17 = .ok (.aload_n 0, 1) := by decide +kernel
theorem dX2_append_18 : decode cX2_append 18 = .ok (.getfield 18, 3) := by decide +kernel
theorem dX2_append_21 : decode cX2_append 21 = .ok (.aload_n 0, 1) := by decide +kernel
theorem dX2_append_22 : decode cX2_append 22 = .ok (.getfield 22, 3) := by decide +kernel
theorem dX2_append_25 : decode cX2_append 25 = .ok (.iload_n 1, 1) := by decide +kernel
theorem dX2_append_26 : decode cX2_append 26 = .ok (.iload_n 2, 1) := by decide +kernel
theorem dX2_append_27 : decode cX2_append 27 = .ok (.ishr, 1) := by decide +kernel
theorem dX2_append_28 : decode cX2_append 28 = .ok (.i2b, 1) := by decide +kernel
theorem dX2_append_29 : decode cX2_append 29 = .ok (.bastore, 1) := by decide +kernel
theorem dX2_append_30 : decode cX2_append 30 = .ok (.aload_n 0, 1) := by decide +kernel
theorem dX2_append_31 : decode cX2_append 31 = .ok (.dup, 1) := by decide +kernel
theorem dX2_append_32 : decode cX2_append 32 = .ok (.getfield 22, 3) := by decide +kernel
theorem dX2_append_35 : decode cX2_append 35 = .ok (.iconst 1, 1) := by decide +kernel
theorem dX2_append_36 : decode cX2_append 36 = .ok (.iadd, 1) := by decide +kernel
theorem dX2_append_37 : decode cX2_append 37 = .ok (.putfield 22, 3) := by decide +kernel
theorem dX2_append_40 : decode cX2_append 40 = .ok (.iinc 2 (-8), 3) := by decide +kernel
theorem dX2_append_43 : decode cX2_append 43 = .ok (.goto (-40), 3) := by decide +kernel
theorem dX2_append_46 : decode cX2_append 46 = .ok (.return_, 1) := by decide +kernel
theorem dX2_copyFrom_0 : decode cX2_copyFrom 0 = .ok (.aload_n 0, 1) := by decide +kernel
theorem dX2_copyFrom_1 : decode cX2_copyFrom 1 = .ok (.getfield 12, 3) := by decide +kernel
theorem dX2_copyFrom_4 : decode cX2_copyFrom 4 = .ok (.aload_n 1, 1) := by decide +kernel
theorem dX2_copyFrom_5 : decode cX2_copyFrom 5 = .ok (.getfield 12, 3) := by decide +kernel
theorem dX2_copyFrom_8 : decode cX2_copyFrom 8 = .ok (.invokevirtual 26, 3) := by decide +kernel
theorem dX2_copyFrom_11 : decode cX2_copyFrom 11 = .ok (.aload_n 1, 1) := by decide +kernel
theorem dX2_copyFrom_12 : decode cX2_copyFrom 12 = .ok (.getfield 18, 3) := by decide +kernel
theorem dX2_copyFrom_15 : decode cX2_copyFrom 15 = .ok (.iconst 0, 1) := by decide +kernel
theorem dX2_copyFrom_16 : decode cX2_copyFrom 16 = .ok (.aload_n 0, 1) := by decide +kernel
theorem dX2_copyFrom_17 : decode cX2_copyFrom 17 = .ok (.getfield 18, 3) := by decide +kernel
theorem dX2_copyFrom_20 : decode cX2_copyFrom 20 = .ok (.iconst 0, 1) := by decide +kernel
theorem dX2_copyFrom_21 : decode cX2_copyFrom 21 = .ok (.sipush 700, 3) := by decide +kernel
theorem dX2_copyFrom_24 : decode cX2_copyFrom 24 = .ok (.invokestatic 30, 3) := by decide +kernel
theorem dX2_copyFrom_27 : decode cX2_copyFrom 27 = .ok (.aload_n 0, 1) := by decide +kernel
theorem dX2_copyFrom_28 : decode cX2_copyFrom 28 = .ok (.aload_n 1, 1) := by decide +kernel
theorem dX2_copyFrom_29 : decode cX2_copyFrom 29 = .ok (.getfield 22, 3) := by decide +kernel
theorem dX2_copyFrom_32 : decode cX2_copyFrom 32 = .ok (.putfield 22, 3) := by decide +kernel
theorem dX2_copyFrom_35 : decode cX2_copyFrom 35 = .ok (.return_, 1) := by decide +kernel
theorem dX3_init_0 : decode cX3_init 0 = .ok (.aload_n 0, 1) := by decide +kernel
theorem dX3_init_1 : decode cX3_init 1 = .ok (.invokespecial 3, 3) := by decide +kernel
theorem dX3_init_4 : decode cX3_init 4 = .ok (.aload_n 0, 1) := by decide +kernel
theorem dX3_init_5 : decode cX3_init 5 = .ok (.sipush 600, 3) := by decide +kernel
theorem dX3_init_8 : decode cX3_init 8 = .ok (.newarray .long, 2) := by decide +kernel
theorem dX3_init_10 : decode cX3_init 10 = .ok (.putfield 9, 3) := by decide +kernel
theorem dX3_init_13 : decode cX3_init 13 = .ok (.return_, 1) := by decide +kernel
theorem dX3_note_0 : decode cX3_note 0 = .ok (.aload_n 0, 1) := by decide +kernel
theorem dX3_note_1 : decode cX3_note 1 = .ok (.getfield 15, 3) := by decide +kernel
theorem dX3_note_4 : decode cX3_note 4 = .ok (.sipush 600, 3) := by decide +kernel
theorem dX3_note_7 : decode cX3_note 7 = .ok (.if_icmp .ge 43, 3) := by decide +kernel
theorem dX3_note_10 : decode cX3_note 10 = .ok (.aload_n 0, 1) := by decide +kernel
theorem dX3_note_11 : decode cX3_note 11 = .ok (.getfield 9, 3) := by decide +kernel
theorem dX3_note_14 : decode cX3_note 14 = .ok (.aload_n 0, 1) := by decide +kernel
theorem dX3_note_15 : decode cX3_note 15 = .ok (.getfield 15, 3) := by decide +kernel
theorem dX3_note_18 : decode cX3_note 18 = .ok (.iload_n 1, 1) := by decide +kernel
theorem dX3_note_19 : decode cX3_note 19 = .ok (.i2l, 1) := by decide +kernel
theorem dX3_note_20 : decode cX3_note 20 = .ok (.bipush 50, 2) := by decide +kernel
theorem dX3_note_22 : decode cX3_note 22 = .ok (.lshl, 1) := by decide +kernel
theorem dX3_note_23 : decode cX3_note 23 = .ok (.iload_n 2, 1) := by decide +kernel
theorem dX3_note_24 : decode cX3_note 24 = .ok (.i2l, 1) := by decide +kernel
theorem dX3_note_25 : decode cX3_note 25 = .ok (.bipush 48, 2) := by decide +kernel
theorem dX3_note_27 : decode cX3_note 27 = .ok (.lshl, 1) := by decide +kernel
theorem dX3_note_28 : decode cX3_note 28 = .ok (.lor, 1) := by decide +kernel
theorem dX3_note_29 : decode cX3_note 29 = .ok (.iload 4, 2) := by decide +kernel
theorem dX3_note_31 : decode cX3_note 31 = .ok (.i2l, 1) := by decide +kernel
theorem dX3_note_32 : decode cX3_note 32 = .ok (.bipush 32, 2) := by decide +kernel
theorem dX3_note_34 : decode cX3_note 34 = .ok (.lshl, 1) := by decide +kernel
theorem dX3_note_35 : decode cX3_note 35 = .ok (.lor, 1) := by decide +kernel
theorem dX3_note_36 : decode cX3_note 36 = .ok (.iload_n 3, 1) := by decide +kernel
theorem dX3_note_37 : decode cX3_note 37 = .ok (.i2l, 1) := by decide +kernel
theorem dX3_note_38 : decode cX3_note 38 = .ok (.lor, 1) := by decide +kernel
theorem dX3_note_39 : decode cX3_note 39 = .ok (.lastore, 1) := by decide +kernel
theorem dX3_note_40 : decode cX3_note 40 = .ok (.aload_n 0, 1) := by decide +kernel
theorem dX3_note_41 : decode cX3_note 41 = .ok (.dup, 1) := by decide +kernel
theorem dX3_note_42 : decode cX3_note 42 = .ok (.getfield 15, 3) := by decide +kernel
theorem dX3_note_45 : decode cX3_note 45 = .ok (.iconst 1, 1) := by decide +kernel
theorem dX3_note_46 : decode cX3_note 46 = .ok (.iadd, 1) := by decide +kernel
theorem dX3_note_47 : decode cX3_note 47 = .ok (.putfield 15, 3) := by decide +kernel
theorem dX3_note_50 : decode cX3_note 50 = .ok (.return_, 1) := by decide +kernel
theorem dX3_handOf_0 : decode cX3_handOf 0 = .ok (.aload_n 0, 1) := by decide +kernel
theorem dX3_handOf_1 : decode cX3_handOf 1 = .ok (.getfield 9, 3) := by decide +kernel
theorem dX3_handOf_4 : decode cX3_handOf 4 = .ok (.iload_n 1, 1) := by decide +kernel
theorem dX3_handOf_5 : decode cX3_handOf 5 = .ok (.laload, 1) := by decide +kernel
theorem dX3_handOf_6 : decode cX3_handOf 6 = .ok (.bipush 50, 2) := by decide +kernel
theorem dX3_handOf_8 : decode cX3_handOf 8 = .ok (.lshr, 1) := by decide +kernel
theorem dX3_handOf_9 : decode cX3_handOf 9 = .ok (.l2i, 1) := by decide +kernel
theorem dX3_handOf_10 : decode cX3_handOf 10 = .ok (.ireturn, 1) := by decide +kernel
theorem dX3_whatOf_0 : decode cX3_whatOf 0 = .ok (.aload_n 0, 1) := by decide +kernel
theorem dX3_whatOf_1 : decode cX3_whatOf 1 = .ok (.getfield 9, 3) := by decide +kernel
theorem dX3_whatOf_4 : decode cX3_whatOf 4 = .ok (.iload_n 1, 1) := by decide +kernel
theorem dX3_whatOf_5 : decode cX3_whatOf 5 = .ok (.laload, 1) := by decide +kernel
theorem dX3_whatOf_6 : decode cX3_whatOf 6 = .ok (.bipush 48, 2) := by decide +kernel
theorem dX3_whatOf_8 : decode cX3_whatOf 8 = .ok (.lshr, 1) := by decide +kernel
theorem dX3_whatOf_9 : decode cX3_whatOf 9 = .ok (.l2i, 1) := by decide +kernel
theorem dX3_whatOf_10 : decode cX3_whatOf 10 = .ok (.iconst 3, 1) := by decide +kernel
theorem dX3_whatOf_11 : decode cX3_whatOf 11 = .ok (.iand, 1) := by decide +kernel
theorem dX3_whatOf_12 : decode cX3_whatOf 12 = .ok (.ireturn, 1) := by decide +kernel
theorem dX3_oldValueOf_0 : decode cX3_oldValueOf 0 = .ok (.aload_n 0, 1) := by decide +kernel
theorem dX3_oldValueOf_1 : decode cX3_oldValueOf 1 = .ok (.getfield 9, 3) := by decide +kernel
theorem dX3_oldValueOf_4 : decode cX3_oldValueOf 4 = .ok (.iload_n 1, 1) := by decide +kernel
theorem dX3_oldValueOf_5 : decode cX3_oldValueOf 5 = .ok (.laload, 1) := by decide +kernel
theorem dX3_oldValueOf_6 : decode cX3_oldValueOf 6 = .ok (.bipush 32, 2) := by decide +kernel
theorem dX3_oldValueOf_8 : decode cX3_oldValueOf 8 = .ok (.lshr, 1) := by decide +kernel
theorem dX3_oldValueOf_9 : decode cX3_oldValueOf 9 = .ok (.l2i, 1) := by decide +kernel
theorem dX3_oldValueOf_10 : decode cX3_oldValueOf 10 = .ok (.ldc 19, 2) := by decide +kernel
theorem dX3_oldValueOf_12 : decode cX3_oldValueOf 12 = .ok (.iand, 1) := by decide +kernel
theorem dX3_oldValueOf_13 : decode cX3_oldValueOf 13 = .ok (.ireturn, 1) := by decide +kernel
theorem dX3_keyOf_0 : decode cX3_keyOf 0 = .ok (.aload_n 0, 1) := by decide +kernel
theorem dX3_keyOf_1 : decode cX3_keyOf 1 = .ok (.getfield 9, 3) := by decide +kernel
theorem dX3_keyOf_4 : decode cX3_keyOf 4 = .ok (.iload_n 1, 1) := by decide +kernel
theorem dX3_keyOf_5 : decode cX3_keyOf 5 = .ok (.laload, 1) := by decide +kernel
theorem dX3_keyOf_6 : decode cX3_keyOf 6 = .ok (.l2i, 1) := by decide +kernel
theorem dX3_keyOf_7 : decode cX3_keyOf 7 = .ok (.ireturn, 1) := by decide +kernel
theorem dX3_changesBy_0 : decode cX3_changesBy 0 = .ok (.iconst 0, 1) := by decide +kernel
theorem dX3_changesBy_1 : decode cX3_changesBy 1 = .ok (.istore_n 2, 1) := by decide +kernel
theorem dX3_changesBy_2 : decode cX3_changesBy 2 = .ok (.iconst 0, 1) := by decide +kernel
theorem dX3_changesBy_3 : decode cX3_changesBy 3 = .ok (.istore_n 3, 1) := by decide +kernel
theorem dX3_changesBy_4 : decode cX3_changesBy 4 = .ok (.iload_n 3, 1) := by decide +kernel
theorem dX3_changesBy_5 : decode cX3_changesBy 5 = .ok (.aload_n 0, 1) := by decide +kernel
theorem dX3_changesBy_6 : decode cX3_changesBy 6 = .ok (.getfield 15, 3) := by decide +kernel
theorem dX3_changesBy_9 : decode cX3_changesBy 9 = .ok (.if_icmp .ge 26, 3) := by decide +kernel
theorem dX3_changesBy_12 : decode cX3_changesBy 12 = .ok (.iload_n 2, 1) := by decide +kernel
theorem dX3_changesBy_13 : decode cX3_changesBy 13 = .ok (.aload_n 0, 1) := by decide +kernel
theorem dX3_changesBy_14 : decode cX3_changesBy 14 = .ok (.iload_n 3, 1) := by decide +kernel
theorem dX3_changesBy_15 : decode cX3_changesBy 15 = .ok (.invokevirtual 20, 3) := by decide +kernel
theorem dX3_changesBy_18 : decode cX3_changesBy 18 = .ok (.iload_n 1, 1) := by decide +kernel
theorem dX3_changesBy_19 : decode cX3_changesBy 19 = .ok (.if_icmp .ne 7, 3) := by decide +kernel
theorem dX3_changesBy_22 : decode cX3_changesBy 22 = .ok (.iconst 1, 1) := by decide +kernel
theorem dX3_changesBy_23 : decode cX3_changesBy 23 = .ok (.goto 4, 3) := by decide +kernel
theorem dX3_changesBy_26 : decode cX3_changesBy 26 = .ok (.iconst 0, 1) := by decide +kernel
theorem dX3_changesBy_27 : decode cX3_changesBy 27 = .ok (.iadd, 1) := by decide +kernel
theorem dX3_changesBy_28 : decode cX3_changesBy 28 = .ok (.istore_n 2, 1) := by decide +kernel
theorem dX3_changesBy_29 : decode cX3_changesBy 29 = .ok (.iinc 3 1, 3) := by decide +kernel
theorem dX3_changesBy_32 : decode cX3_changesBy 32 = .ok (.goto (-28), 3) := by decide +kernel
theorem dX3_changesBy_35 : decode cX3_changesBy 35 = .ok (.iload_n 2, 1) := by decide +kernel
theorem dX3_changesBy_36 : decode cX3_changesBy 36 = .ok (.ireturn, 1) := by decide +kernel
theorem dX3_forget_0 : decode cX3_forget 0 = .ok (.iconst 0, 1) := by decide +kernel
theorem dX3_forget_1 : decode cX3_forget 1 = .ok (.istore_n 2, 1) := by decide +kernel
theorem dX3_forget_2 : decode cX3_forget 2 = .ok (.iconst 0, 1) := by decide +kernel
theorem dX3_forget_3 : decode cX3_forget 3 = .ok (.istore_n 3, 1) := by decide +kernel
theorem dX3_forget_4 : decode cX3_forget 4 = .ok (.iload_n 3, 1) := by decide +kernel
theorem dX3_forget_5 : decode cX3_forget 5 = .ok (.aload_n 0, 1) := by decide +kernel
theorem dX3_forget_6 : decode cX3_forget 6 = .ok (.getfield 15, 3) := by decide +kernel
theorem dX3_forget_9 : decode cX3_forget 9 = .ok (.if_icmp .ge 38, 3) := by decide +kernel
theorem dX3_forget_12 : decode cX3_forget 12 = .ok (.aload_n 0, 1) := by decide +kernel
theorem dX3_forget_13 : decode cX3_forget 13 = .ok (.getfield 9, 3) := by decide +kernel
theorem dX3_forget_16 : decode cX3_forget 16 = .ok (.iload_n 3, 1) := by decide +kernel
theorem dX3_forget_17 : decode cX3_forget 17 = .ok (.laload, 1) := by decide +kernel
theorem dX3_forget_18 : decode cX3_forget 18 = .ok (.bipush 50, 2) := by decide +kernel
theorem dX3_forget_20 : decode cX3_forget 20 = .ok (.lshr, 1) := by decide +kernel
theorem dX3_forget_21 : decode cX3_forget 21 = .ok (.l2i, 1) := by decide +kernel
theorem dX3_forget_22 : decode cX3_forget 22 = .ok (.iload_n 1, 1) := by decide +kernel
theorem dX3_forget_23 : decode cX3_forget 23 = .ok (.if_icmp .eq 18, 3) := by decide +kernel
theorem dX3_forget_26 : decode cX3_forget 26 = .ok (.aload_n 0, 1) := by decide +kernel
theorem dX3_forget_27 : decode cX3_forget 27 = .ok (.getfield 9, 3) := by decide +kernel
theorem dX3_forget_30 : decode cX3_forget 30 = .ok (.iload_n 2, 1) := by decide +kernel
theorem dX3_forget_31 : decode cX3_forget 31 = .ok (.aload_n 0, 1) := by decide +kernel
theorem dX3_forget_32 : decode cX3_forget 32 = .ok (.getfield 9, 3) := by decide +kernel
theorem dX3_forget_35 : decode cX3_forget 35 = .ok (.iload_n 3, 1) := by decide +kernel
theorem dX3_forget_36 : decode cX3_forget 36 = .ok (.laload, 1) := by decide +kernel
theorem dX3_forget_37 : decode cX3_forget 37 = .ok (.lastore, 1) := by decide +kernel
theorem dX3_forget_38 : decode cX3_forget 38 = .ok (.iinc 2 1, 3) := by decide +kernel
theorem dX3_forget_41 : decode cX3_forget 41 = .ok (.iinc 3 1, 3) := by decide +kernel
theorem dX3_forget_44 : decode cX3_forget 44 = .ok (.goto (-40), 3) := by decide +kernel
theorem dX3_forget_47 : decode cX3_forget 47 = .ok (.aload_n 0, 1) := by decide +kernel
theorem dX3_forget_48 : decode cX3_forget 48 = .ok (.iload_n 2, 1) := by decide +kernel
theorem dX3_forget_49 : decode cX3_forget 49 = .ok (.putfield 15, 3) := by decide +kernel
theorem dX3_forget_52 : decode cX3_forget 52 = .ok (.return_, 1) := by decide +kernel
theorem dX3_copyFrom_0 : decode cX3_copyFrom 0 = .ok (.aload_n 0, 1) := by decide +kernel
theorem dX3_copyFrom_1 : decode cX3_copyFrom 1 = .ok (.aload_n 1, 1) := by decide +kernel
theorem dX3_copyFrom_2 : decode cX3_copyFrom 2 = .ok (.getfield 15, 3) := by decide +kernel
theorem dX3_copyFrom_5 : decode cX3_copyFrom 5 = .ok (.putfield 15, 3) := by decide +kernel
theorem dX3_copyFrom_8 : decode cX3_copyFrom 8 = .ok (.aload_n 1, 1) := by decide +kernel
theorem dX3_copyFrom_9 : decode cX3_copyFrom 9 = .ok (.getfield 9, 3) := by decide +kernel
theorem dX3_copyFrom_12 : decode cX3_copyFrom 12 = .ok (.iconst 0, 1) := by decide +kernel
theorem dX3_copyFrom_13 : decode cX3_copyFrom 13 = .ok (.aload_n 0, 1) := by decide +kernel
theorem dX3_copyFrom_14 : decode cX3_copyFrom 14 = .ok (.getfield 9, 3) := by decide +kernel
theorem dX3_copyFrom_17 : decode cX3_copyFrom 17 = .ok (.iconst 0, 1) := by decide +kernel
theorem dX3_copyFrom_18 : decode cX3_copyFrom 18 = .ok (.aload_n 0, 1) := by decide +kernel
theorem dX3_copyFrom_19 : decode cX3_copyFrom 19 = .ok (.getfield 15, 3) := by decide +kernel
theorem dX3_copyFrom_22 : decode cX3_copyFrom 22 = .ok (.invokestatic 24, 3) := by decide +kernel
theorem dX3_copyFrom_25 : decode cX3_copyFrom 25 = .ok (.return_, 1) := by decide +kernel
theorem dX4_keyBits_0 : decode cX4_keyBits 0 = .ok (.iload_n 0, 1) := by decide +kernel
theorem dX4_keyBits_1 : decode cX4_keyBits 1 = .ok (.ifCond .lt 21, 3) := by decide +kernel
theorem dX4_keyBits_4 : decode cX4_keyBits 4 = .ok (.iload_n 0, 1) := by decide +kernel
theorem dX4_keyBits_5 : decode cX4_keyBits 5 = .ok (.ldc 9, 2) := by decide +kernel
theorem dX4_keyBits_7 : decode cX4_keyBits 7 = .ok (.if_icmp .gt 15, 3) := by decide +kernel
theorem dX4_keyBits_10 : decode cX4_keyBits 10 = .ok (.iload_n 1, 1) := by decide +kernel
theorem dX4_keyBits_11 : decode cX4_keyBits 11 = .ok (.iconst 1, 1) := by decide +kernel
theorem dX4_keyBits_12 : decode cX4_keyBits 12 = .ok (.if_icmp .lt 10, 3) := by decide +kernel
theorem dX4_keyBits_15 : decode cX4_keyBits 15 = .ok (.iload_n 1, 1) := by decide +kernel
theorem dX4_keyBits_16 : decode cX4_keyBits 16 = .ok (.sipush 9999, 3) := by decide +kernel
theorem dX4_keyBits_19 : decode cX4_keyBits 19 = .ok (.if_icmp .le 5, 3) := by decide +kernel
theorem dX4_keyBits_22 : decode cX4_keyBits 22 = .ok (.iconst (-1), 1) := by decide +kernel
theorem dX4_keyBits_23 : decode cX4_keyBits 23 = .ok (.ireturn, 1) := by decide +kernel
theorem dX4_keyBits_24 : decode cX4_keyBits 24 = .ok (.iload_n 0, 1) := by decide +kernel
theorem dX4_keyBits_25 : decode cX4_keyBits 25 = .ok (.i2f, 1) := by decide +kernel
theorem dX4_keyBits_26 : decode cX4_keyBits 26 = .ok (.iload_n 1, 1) := by decide +kernel
theorem dX4_keyBits_27 : decode cX4_keyBits 27 = .ok (.i2f, 1) := by decide +kernel
theorem dX4_keyBits_28 : decode cX4_keyBits 28 = .ok (.fdiv, 1) := by decide +kernel
theorem dX4_keyBits_29 : decode cX4_keyBits 29 = .ok (.invokestatic 10, 3) := by decide +kernel
theorem dX4_keyBits_32 : decode cX4_keyBits 32 = .ok (.ireturn, 1) := by decide +kernel
theorem dX4_packedKey_0 : decode cX4_packedKey 0 = .ok (.iload_n 0, 1) := by decide +kernel
theorem dX4_packedKey_1 : decode cX4_packedKey 1 = .ok (.ifCond .lt 13, 3) := by decide +kernel
theorem dX4_packedKey_4 : decode cX4_packedKey 4 = .ok (.iload_n 0, 1) := by decide +kernel
theorem dX4_packedKey_5 : decode cX4_packedKey 5 = .ok (.sipush 10000, 3) := by decide +kernel
theorem dX4_packedKey_8 : decode cX4_packedKey 8 = .ok (.idiv, 1) := by decide +kernel
theorem dX4_packedKey_9 : decode cX4_packedKey 9 = .ok (.ldc 16, 2) := by decide +kernel
theorem dX4_packedKey_11 : decode cX4_packedKey 11 = .ok (.if_icmp .le 5, 3) := by decide +kernel
theorem dX4_packedKey_14 : decode cX4_packedKey 14 = .ok (.iconst (-1), 1) := by decide +kernel
theorem dX4_packedKey_15 : decode cX4_packedKey 15 = .ok (.ireturn, 1) := by decide +kernel
theorem dX4_packedKey_16 : decode cX4_packedKey 16 = .ok (.iload_n 0, 1) := by decide +kernel
theorem dX4_packedKey_17 : decode cX4_packedKey 17 = .ok (.sipush 10000, 3) := by decide +kernel
theorem dX4_packedKey_20 : decode cX4_packedKey 20 = .ok (.idiv, 1) := by decide +kernel
theorem dX4_packedKey_21 : decode cX4_packedKey 21 = .ok (.iload_n 0, 1) := by decide +kernel
theorem dX4_packedKey_22 : decode cX4_packedKey 22 = .ok (.sipush 10000, 3) := by decide +kernel
theorem dX4_packedKey_25 : decode cX4_packedKey 25 = .ok (.irem, 1) := by decide +kernel
theorem dX4_packedKey_26 : decode cX4_packedKey 26 = .ok (.invokestatic 17, 3) := by decide +kernel
theorem dX4_packedKey_29 : decode cX4_packedKey 29 = .ok (.ireturn, 1) := by decide +kernel
theorem dX4_bitsOf_0 : decode cX4_bitsOf 0 = .ok (.fload_n 0, 1) := by decide +kernel
theorem dX4_bitsOf_1 : decode cX4_bitsOf 1 = .ok (.fconst 0, 1) := by decide +kernel
theorem dX4_bitsOf_2 : decode cX4_bitsOf 2 = .ok (.fcmp .l, 1) := by decide +kernel
theorem dX4_bitsOf_3 : decode cX4_bitsOf 3 = .ok (.ifCond .gt 5, 3) := by decide +kernel
theorem dX4_bitsOf_6 : decode cX4_bitsOf 6 = .ok (.iconst 0, 1) := by decide +kernel
theorem dX4_bitsOf_7 : decode cX4_bitsOf 7 = .ok (.ireturn, 1) := by decide +kernel
theorem dX4_bitsOf_8 : decode cX4_bitsOf 8 = .ok (.fload_n 0, 1) := by decide +kernel
theorem dX4_bitsOf_9 : decode cX4_bitsOf 9 = .ok (.f2d, 1) := by decide +kernel
theorem dX4_bitsOf_10 : decode cX4_bitsOf 10 = .ok (.dstore_n 1, 1) := by decide +kernel
theorem dX4_bitsOf_11 : decode cX4_bitsOf 11 = .ok (.iconst 0, 1) := by decide +kernel
theorem dX4_bitsOf_12 : decode cX4_bitsOf 12 = .ok (.istore_n 3, 1) := by decide +kernel
theorem dX4_bitsOf_13 : decode cX4_bitsOf 13 = .ok (.iconst 0, 1) := by decide +kernel
theorem dX4_bitsOf_14 : decode cX4_bitsOf 14 = .ok (.istore 4, 2) := by decide +kernel
theorem dX4_bitsOf_16 : decode cX4_bitsOf 16 = .ok (.iload 4, 2) := by decide +kernel
theorem dX4_bitsOf_18 : decode cX4_bitsOf 18 = .ok (.sipush 128, 3) := by decide +kernel
theorem dX4_bitsOf_21 : decode cX4_bitsOf 21 = .ok (.if_icmp .ge 26, 3) := by decide +kernel
theorem dX4_bitsOf_24 : decode cX4_bitsOf 24 = .ok (.dload_n 1, 1) := by decide +kernel
theorem dX4_bitsOf_25 : decode cX4_bitsOf 25 = .ok (.ldc2_w 21, 3) := by decide +kernel
theorem dX4_bitsOf_28 : decode cX4_bitsOf 28 = .ok (.dcmp .l, 1) := by decide +kernel
theorem dX4_bitsOf_29 : decode cX4_bitsOf 29 = .ok (.ifCond .lt 18, 3) := by decide +kernel
theorem dX4_bitsOf_32 : decode cX4_bitsOf 32 = .ok (.dload_n 1, 1) := by decide +kernel
theorem dX4_bitsOf_33 : decode cX4_bitsOf 33 = .ok (.ldc2_w 21, 3) := by decide +kernel
theorem dX4_bitsOf_36 : decode cX4_bitsOf 36 = .ok (.ddiv, 1) := by decide +kernel
theorem dX4_bitsOf_37 : decode cX4_bitsOf 37 = .ok (.dstore_n 1, 1) := by decide +kernel
theorem dX4_bitsOf_38 : decode cX4_bitsOf 38 = .ok (.iinc 3 1, 3) := by decide +kernel
theorem dX4_bitsOf_41 : decode cX4_bitsOf 41 = .ok (.iinc 4 1, 3) := by decide +kernel
theorem dX4_bitsOf_44 : decode cX4_bitsOf 44 = .ok (.goto (-28), 3) := by decide +kernel
theorem dX4_bitsOf_47 : decode cX4_bitsOf 47 = .ok (.iconst 0, 1) := by decide +kernel
theorem dX4_bitsOf_48 : decode cX4_bitsOf 48 = .ok (.istore 4, 2) := by decide +kernel
theorem dX4_bitsOf_50 : decode cX4_bitsOf 50 = .ok (.iload 4, 2) := by decide +kernel
theorem dX4_bitsOf_52 : decode cX4_bitsOf 52 = .ok (.sipush 149, 3) := by decide +kernel
theorem dX4_bitsOf_55 : decode cX4_bitsOf 55 = .ok (.if_icmp .ge 24, 3) := by decide +kernel
theorem dX4_bitsOf_58 : decode cX4_bitsOf 58 = .ok (.dload_n 1, 1) := by decide +kernel
theorem dX4_bitsOf_59 : decode cX4_bitsOf 59 = .ok (.dconst 1, 1) := by decide +kernel
theorem dX4_bitsOf_60 : decode cX4_bitsOf 60 = .ok (.dcmp .g, 1) := by decide +kernel
theorem dX4_bitsOf_61 : decode cX4_bitsOf 61 = .ok (.ifCond .ge 18, 3) := by decide +kernel
theorem dX4_bitsOf_64 : decode cX4_bitsOf 64 = .ok (.dload_n 1, 1) := by decide +kernel
theorem dX4_bitsOf_65 : decode cX4_bitsOf 65 = .ok (.ldc2_w 21, 3) := by decide +kernel
theorem dX4_bitsOf_68 : decode cX4_bitsOf 68 = .ok (.dmul, 1) := by decide +kernel
theorem dX4_bitsOf_69 : decode cX4_bitsOf 69 = .ok (.dstore_n 1, 1) := by decide +kernel
theorem dX4_bitsOf_70 : decode cX4_bitsOf 70 = .ok (.iinc 3 (-1), 3) := by decide +kernel
theorem dX4_bitsOf_73 : decode cX4_bitsOf 73 = .ok (.iinc 4 1, 3) := by decide +kernel
theorem dX4_bitsOf_76 : decode cX4_bitsOf 76 = .ok (.goto (-26), 3) := by decide +kernel
theorem dX4_bitsOf_79 : decode cX4_bitsOf 79 = .ok (.iload_n 3, 1) := by decide +kernel
theorem dX4_bitsOf_80 : decode cX4_bitsOf 80 = .ok (.bipush 127, 2) := by decide +kernel
theorem dX4_bitsOf_82 : decode cX4_bitsOf 82 = .ok (.if_icmp .le 6, 3) := by decide +kernel
theorem dX4_bitsOf_85 : decode cX4_bitsOf 85 = .ok (.ldc 23, 2) := by decide +kernel
theorem dX4_bitsOf_87 : decode cX4_bitsOf 87 = .ok (.ireturn, 1) := by decide +kernel
theorem dX4_bitsOf_88 : decode cX4_bitsOf 88 = .ok (.iload_n 3, 1) := by decide +kernel
theorem dX4_bitsOf_89 : decode cX4_bitsOf 89 = .ok (.bipush (-126), 2) := by decide +kernel
theorem dX4_bitsOf_91 : decode cX4_bitsOf 91 = .ok (.if_icmp .lt 20, 3) := by decide +kernel
theorem dX4_bitsOf_94 : decode cX4_bitsOf 94 = .ok (.iload_n 3, 1) := by decide +kernel
theorem dX4_bitsOf_95 : decode cX4_bitsOf 95 = .ok (.bipush 127, 2) := by decide +kernel
theorem dX4_bitsOf_97 : decode cX4_bitsOf 97 = .ok (.iadd, 1) := by decide +kernel
theorem dX4_bitsOf_98 : decode cX4_bitsOf 98 = .ok (.bipush 23, 2) := by decide +kernel
theorem dX4_bitsOf_100 : decode cX4_bitsOf 100 = .ok (.ishl, 1) := by decide +kernel
theorem dX4_bitsOf_101 : decode cX4_bitsOf 101 = .ok (.dload_n 1, 1) := by decide +kernel
theorem dX4_bitsOf_102 : decode cX4_bitsOf 102 = .ok (.dconst 1, 1) := by decide +kernel
theorem dX4_bitsOf_103 : decode cX4_bitsOf 103 = .ok (.dsub, 1) := by decide +kernel
theorem dX4_bitsOf_104 : decode cX4_bitsOf 104 = .ok (.ldc2_w 24, 3) := by decide +kernel
theorem dX4_bitsOf_107 : decode cX4_bitsOf 107 = .ok (.dmul, 1) := by decide +kernel
theorem dX4_bitsOf_108 : decode cX4_bitsOf 108 = .ok (.d2i, 1) := by decide +kernel
theorem dX4_bitsOf_109 : decode cX4_bitsOf 109 = .ok (.ior, 1) := by decide +kernel
theorem dX4_bitsOf_110 : decode cX4_bitsOf 110 = .ok (.ireturn, 1) := by decide +kernel
theorem dX4_bitsOf_111 : decode cX4_bitsOf 111 = .ok (.sipush (-149), 3) := by decide +kernel
theorem dX4_bitsOf_114 : decode cX4_bitsOf 114 = .ok (.istore 4, 2) := by decide +kernel
theorem dX4_bitsOf_116 : decode cX4_bitsOf 116 = .ok (.iload 4, 2) := by decide +kernel
theorem dX4_bitsOf_118 : decode cX4_bitsOf 118 = .ok (.iload_n 3, 1) := by decide +kernel
theorem dX4_bitsOf_119 : decode cX4_bitsOf 119 = .ok (.if_icmp .ge 15, 3) := by decide +kernel
theorem dX4_bitsOf_122 : decode cX4_bitsOf 122 = .ok (.dload_n 1, 1) := by decide +kernel
theorem dX4_bitsOf_123 : decode cX4_bitsOf 123 = .ok (.ldc2_w 21, 3) := by decide +kernel
theorem dX4_bitsOf_126 : decode cX4_bitsOf 126 = .ok (.dmul, 1) := by decide +kernel
theorem dX4_bitsOf_127 : decode cX4_bitsOf 127 = .ok (.dstore_n 1, 1) := by decide +kernel
theorem dX4_bitsOf_128 : decode cX4_bitsOf 128 = .ok (.iinc 4 1, 3) := by decide +kernel
theorem dX4_bitsOf_131 : decode cX4_bitsOf 131 = .ok (.goto (-15), 3) := by decide +kernel
theorem dX4_bitsOf_134 : decode cX4_bitsOf 134 = .ok (.dload_n 1, 1) := by decide +kernel
theorem dX4_bitsOf_135 : decode cX4_bitsOf 135 = .ok (.d2i, 1) := by decide +kernel
theorem dX4_bitsOf_136 : decode cX4_bitsOf 136 = .ok (.ireturn, 1) := by decide +kernel
theorem dX4_floatOf_0 : decode cX4_floatOf 0 = .ok (.iload_n 0, 1) := by decide +kernel
theorem dX4_floatOf_1 : decode cX4_floatOf 1 = .ok (.bipush 23, 2) := by decide +kernel
theorem dX4_floatOf_3 : decode cX4_floatOf 3 = .ok (.iushr, 1) := by decide +kernel
theorem dX4_floatOf_4 : decode cX4_floatOf 4 = .ok (.sipush 150, 3) := by decide +kernel
theorem dX4_floatOf_7 : decode cX4_floatOf 7 = .ok (.isub, 1) := by decide +kernel
theorem dX4_floatOf_8 : decode cX4_floatOf 8 = .ok (.istore_n 1, 1) := by decide +kernel
theorem dX4_floatOf_9 : decode cX4_floatOf 9 = .ok (.iload_n 0, 1) := by decide +kernel
theorem dX4_floatOf_10 : decode cX4_floatOf 10 = .ok (.ldc 26, 2) := by decide +kernel
theorem dX4_floatOf_12 : decode cX4_floatOf 12 = .ok (.iand, 1) := by decide +kernel
theorem dX4_floatOf_13 : decode cX4_floatOf 13 = .ok (.ldc 27, 2) := by decide +kernel
theorem dX4_floatOf_15 : decode cX4_floatOf 15 = .ok (.iadd, 1) := by decide +kernel
theorem dX4_floatOf_16 : decode cX4_floatOf 16 = .ok (.i2d, 1) := by decide +kernel
theorem dX4_floatOf_17 : decode cX4_floatOf 17 = .ok (.dstore_n 2, 1) := by decide +kernel
theorem dX4_floatOf_18 : decode cX4_floatOf 18 = .ok (.iload_n 1, 1) := by decide +kernel
theorem dX4_floatOf_19 : decode cX4_floatOf 19 = .ok (.sipush (-150), 3) := by decide +kernel
theorem dX4_floatOf_22 : decode cX4_floatOf 22 = .ok (.if_icmp .ne 13, 3) := by decide +kernel
theorem dX4_floatOf_25 : decode cX4_floatOf 25 = .ok (.sipush (-149), 3) := by decide +kernel
theorem dX4_floatOf_28 : decode cX4_floatOf 28 = .ok (.istore_n 1, 1) := by decide +kernel
theorem dX4_floatOf_29 : decode cX4_floatOf 29 = .ok (.dload_n 2, 1) := by decide +kernel
theorem dX4_floatOf_30 : decode cX4_floatOf 30 = .ok (.ldc2_w 24, 3) := by decide +kernel
theorem dX4_floatOf_33 : decode cX4_floatOf 33 = .ok (.dsub, 1) := by decide +kernel
theorem dX4_floatOf_34 : decode cX4_floatOf 34 = .ok (.dstore_n 2, 1) := by decide +kernel
theorem dX4_floatOf_35 : decode cX4_floatOf 35 = .ok (.iconst 0, 1) := by decide +kernel
theorem dX4_floatOf_36 : decode cX4_floatOf 36 = .ok (.istore 4, 2) := by decide +kernel
theorem dX4_floatOf_38 : decode cX4_floatOf 38 = .ok (.iload 4, 2) := by decide +kernel
theorem dX4_floatOf_40 : decode cX4_floatOf 40 = .ok (.iload_n 1, 1) := by decide +kernel
theorem dX4_floatOf_41 : decode cX4_floatOf 41 = .ok (.if_icmp .ge 15, 3) := by decide +kernel
theorem dX4_floatOf_44 : decode cX4_floatOf 44 = .ok (.dload_n 2, 1) := by decide +kernel
theorem dX4_floatOf_45 : decode cX4_floatOf 45 = .ok (.ldc2_w 21, 3) := by decide +kernel
theorem dX4_floatOf_48 : decode cX4_floatOf 48 = .ok (.dmul, 1) := by decide +kernel
theorem dX4_floatOf_49 : decode cX4_floatOf 49 = .ok (.dstore_n 2, 1) := by decide +kernel
theorem dX4_floatOf_50 : decode cX4_floatOf 50 = .ok (.iinc 4 1, 3) := by decide +kernel
theorem dX4_floatOf_53 : decode cX4_floatOf 53 = .ok (.goto (-15), 3) := by decide +kernel
theorem dX4_floatOf_56 : decode cX4_floatOf 56 = .ok (.iconst 0, 1) := by decide +kernel
theorem dX4_floatOf_57 : decode cX4_floatOf 57 = .ok (.istore 4, 2) := by decide +kernel
theorem dX4_floatOf_59 : decode cX4_floatOf 59 = .ok (.iload 4, 2) := by decide +kernel
theorem dX4_floatOf_61 : decode cX4_floatOf 61 = .ok (.iload_n 1, 1) := by decide +kernel
theorem dX4_floatOf_62 : decode cX4_floatOf 62 = .ok (.if_icmp .le 15, 3) := by decide +kernel
theorem dX4_floatOf_65 : decode cX4_floatOf 65 = .ok (.dload_n 2, 1) := by decide +kernel
theorem dX4_floatOf_66 : decode cX4_floatOf 66 = .ok (.ldc2_w 21, 3) := by decide +kernel
theorem dX4_floatOf_69 : decode cX4_floatOf 69 = .ok (.ddiv, 1) := by decide +kernel
theorem dX4_floatOf_70 : decode cX4_floatOf 70 = .ok (.dstore_n 2, 1) := by decide +kernel
theorem dX4_floatOf_71 : decode cX4_floatOf 71 = .ok (.iinc 4 (-1), 3) := by decide +kernel
theorem dX4_floatOf_74 : decode cX4_floatOf 74 = .ok (.goto (-15), 3) := by decide +kernel
theorem dX4_floatOf_77 : decode cX4_floatOf 77 = .ok (.dload_n 2, 1) := by decide +kernel
theorem dX4_floatOf_78 : decode cX4_floatOf 78 = .ok (.d2f, 1) := by decide +kernel
theorem dX4_floatOf_79 : decode cX4_floatOf 79 = .ok (.freturn, 1) := by decide +kernel
theorem dX5_init_0 : decode cX5_init 0 = .ok (.aload_n 0, 1) := by decide +kernel
theorem dX5_init_1 : decode cX5_init 1 = .ok (.invokespecial 3, 3) := by decide +kernel
theorem dX5_init_4 : decode cX5_init 4 = .ok (.aload_n 0, 1) := by decide +kernel
theorem dX5_init_5 : decode cX5_init 5 = .ok (.iconst (-1), 1) := by decide +kernel
theorem dX5_init_6 : decode cX5_init 6 = .ok (.putfield 9, 3) := by decide +kernel
theorem dX5_init_9 : decode cX5_init 9 = .ok (.aload_n 0, 1) := by decide +kernel
theorem dX5_init_10 : decode cX5_init 10 = .ok (.iconst 0, 1) := by decide +kernel
theorem dX5_init_11 : decode cX5_init 11 = .ok (.newarray .byte, 2) := by decide +kernel
theorem dX5_init_13 : decode cX5_init 13 = .ok (.putfield 15, 3) := by decide +kernel
theorem dX5_init_16 : decode cX5_init 16 = .ok (.aload_n 0, 1) := by decide +kernel
theorem dX5_init_17 : decode cX5_init 17 = .ok (.new 19, 3) := by decide +kernel
theorem dX5_init_20 : decode cX5_init 20 = .ok (.dup, 1) := by decide +kernel
theorem dX5_init_21 : decode cX5_init 21 = .ok (.invokespecial 21, 3) := by decide +kernel
theorem dX5_init_24 : decode cX5_init 24 = .ok (.putfield 22, 3) := by decide +kernel
theorem dX5_init_27 : decode cX5_init 27 = .ok (.return_, 1) := by decide +kernel
theorem dX5_readAll_0 : decode cX5_readAll 0 = .ok (.aload_n 0, 1) := by decide +kernel
theorem dX5_readAll_1 : decode cX5_readAll 1 = .ok (.aload_n 1, 1) := by decide +kernel
theorem dX5_readAll_2 : decode cX5_readAll 2 = .ok (.putfield 22, 3) := by decide +kernel
theorem dX5_readAll_5 : decode cX5_readAll 5 = .ok (.aload_n 0, 1) := by decide +kernel
theorem dX5_readAll_6 : decode cX5_readAll 6 = .ok (.getfield 22, 3) := by decide +kernel
theorem dX5_readAll_9 : decode cX5_readAll 9 = .ok (.invokevirtual 26, 3) := by decide +kernel
theorem dX5_readAll_12 : decode cX5_readAll 12 = .ok (.aload_n 0, 1) := by decide +kernel
theorem dX5_readAll_13 : decode cX5_readAll 13 = .ok (.aload_n 2, 1) := by decide +kernel
theorem dX5_readAll_14 : decode cX5_readAll 14 = .ok (.putfield 15, 3) := by decide +kernel
theorem dX5_readAll_17 : decode cX5_readAll 17 = .ok (.aload_n 0, 1) := by decide +kernel
theorem dX5_readAll_18 : decode cX5_readAll 18 = .ok (.iload_n 3, 1) := by decide +kernel
theorem dX5_readAll_19 : decode cX5_readAll 19 = .ok (.aload_n 2, 1) := by decide +kernel
theorem dX5_readAll_20 : decode cX5_readAll 20 = .ok (.arraylength, 1) := by decide +kernel
theorem dX5_readAll_21 : decode cX5_readAll 21 = .ok (.invokestatic 29, 3) := by decide +kernel
theorem dX5_readAll_24 : decode cX5_readAll 24 = .ok (.putfield 35, 3) := by decide +kernel
theorem dX5_readAll_27 : decode cX5_readAll 27 = .ok (.aload_n 0, 1) := by decide +kernel
theorem dX5_readAll_28 : decode cX5_readAll 28 = .ok (.iconst 0, 1) := by decide +kernel
theorem dX5_readAll_29 : decode cX5_readAll 29 = .ok (.putfield 38, 3) := by decide +kernel
theorem dX5_readAll_32 : decode cX5_readAll 32 = .ok (.aload_n 0, 1) := by decide +kernel
theorem dX5_readAll_33 : decode cX5_readAll 33 = .ok (.iconst 0, 1) := by decide +kernel
theorem dX5_readAll_34 : decode cX5_readAll 34 = .ok (.putfield 41, 3) := by decide +kernel
theorem dX5_readAll_37 : decode cX5_readAll 37 = .ok (.aload_n 0, 1) := by decide +kernel
theorem dX5_readAll_38 : decode cX5_readAll 38 = .ok (.iconst (-1), 1) := by decide +kernel
theorem dX5_readAll_39 : decode cX5_readAll 39 = .ok (.putfield 9, 3) := by decide +kernel
theorem dX5_readAll_42 : decode cX5_readAll 42 = .ok (.iconst 0, 1) := by decide +kernel
theorem dX5_readAll_43 : decode cX5_readAll 43 = .ok (.istore 4, 2) := by decide +kernel
theorem dX5_readAll_45 : decode cX5_readAll 45 = .ok (.iload 4, 2) := by decide +kernel
theorem dX5_readAll_47 : decode cX5_readAll 47 = .ok (.aload_n 0, 1) := by decide +kernel
theorem dX5_readAll_48 : decode cX5_readAll 48 = .ok (.getfield 35, 3) := by decide +kernel
theorem dX5_readAll_51 : decode cX5_readAll 51 = .ok (.if_icmp .gt 44, 3) := by decide +kernel
theorem dX5_readAll_54 : decode cX5_readAll 54 = .ok (.aload_n 0, 1) := by decide +kernel
theorem dX5_readAll_55 : decode cX5_readAll 55 = .ok (.invokevirtual 44, 3) := by decide +kernel
theorem dX5_readAll_58 : decode cX5_readAll 58 = .ok (.aload_n 0, 1) := by decide +kernel
theorem dX5_readAll_59 : decode cX5_readAll 59 = .ok (.getfield 47, 3) := by decide +kernel
theorem dX5_readAll_62 : decode cX5_readAll 62 = .ok (.ifCond .ne 5, 3) := by decide +kernel
theorem dX5_readAll_65 : decode cX5_readAll 65 = .ok (.iconst 1, 1) := by decide +kernel
theorem dX5_readAll_66 : decode cX5_readAll 66 = .ok (.ireturn, 1) := by decide +kernel
theorem dX5_readAll_67 : decode cX5_readAll 67 = .ok (.aload_n 0, 1) := by decide +kernel
theorem dX5_readAll_68 : decode cX5_readAll 68 = .ok (.invokevirtual 50, 3) := by decide +kernel
theorem dX5_readAll_71 : decode cX5_readAll 71 = .ok (.ifCond .ne 5, 3) := by decide +kernel
theorem dX5_readAll_74 : decode cX5_readAll 74 = .ok (.iconst 0, 1) := by decide +kernel
theorem dX5_readAll_75 : decode cX5_readAll 75 = .ok (.ireturn, 1) := by decide +kernel
theorem dX5_readAll_76 : decode cX5_readAll 76 = .ok (.aload_n 0, 1) := by decide +kernel
theorem dX5_readAll_77 : decode cX5_readAll 77 = .ok (.getfield 22, 3) := by decide +kernel
theorem dX5_readAll_80 : decode cX5_readAll 80 = .ok (.dup, 1) := by decide +kernel
theorem dX5_readAll_81 : decode cX5_readAll 81 = .ok (.getfield 54, 3) := by decide +kernel
theorem dX5_readAll_84 : decode cX5_readAll 84 = .ok (.iconst 1, 1) := by decide +kernel
theorem dX5_readAll_85 : decode cX5_readAll 85 = .ok (.iadd, 1) := by decide +kernel
theorem dX5_readAll_86 : decode cX5_readAll 86 = .ok (.putfield 54, 3) := by decide +kernel
theorem dX5_readAll_89 : decode cX5_readAll 89 = .ok (.iinc 4 1, 3) := by decide +kernel
theorem dX5_readAll_92 : decode cX5_readAll 92 = .ok (.goto (-47), 3) := by decide +kernel
theorem dX5_readAll_95 : decode cX5_readAll 95 = .ok (.iconst 1, 1) := by decide +kernel
theorem dX5_readAll_96 : decode cX5_readAll 96 = .ok (.ireturn, 1) := by decide +kernel
theorem dX5_wrongAt_0 : decode cX5_wrongAt 0 = .ok (.aload_n 0, 1) := by decide +kernel
theorem dX5_wrongAt_1 : decode cX5_wrongAt 1 = .ok (.iload_n 1, 1) := by decide +kernel
theorem dX5_wrongAt_2 : decode cX5_wrongAt 2 = .ok (.putfield 41, 3) := by decide +kernel
theorem dX5_wrongAt_5 : decode cX5_wrongAt 5 = .ok (.aload_n 0, 1) := by decide +kernel
theorem dX5_wrongAt_6 : decode cX5_wrongAt 6 = .ok (.iload_n 2, 1) := by decide +kernel
theorem dX5_wrongAt_7 : decode cX5_wrongAt 7 = .ok (.putfield 9, 3) := by decide +kernel
theorem dX5_wrongAt_10 : decode cX5_wrongAt 10 = .ok (.iconst 0, 1) := by decide +kernel
theorem dX5_wrongAt_11 : decode cX5_wrongAt 11 = .ok (.ireturn, 1) := by decide +kernel
theorem dX5_step_0 : decode cX5_step 0 = .ok (.aload_n 0, 1) := by decide +kernel
theorem dX5_step_1 : decode cX5_step 1 = .ok (.getfield 38, 3) := by decide +kernel
theorem dX5_step_4 : decode cX5_step 4 = .ok (.aload_n 0, 1) := by decide +kernel
theorem dX5_step_5 : decode cX5_step 5 = .ok (.getfield 35, 3) := by decide +kernel
theorem dX5_step_8 : decode cX5_step 8 = .ok (.if_icmp .ge 44, 3) := by decide +kernel
theorem dX5_step_11 : decode cX5_step 11 = .ok (.aload_n 0, 1) := by decide +kernel
theorem dX5_step_12 : decode cX5_step 12 = .ok (.getfield 15, 3) := by decide +kernel
theorem dX5_step_15 : decode cX5_step 15 = .ok (.aload_n 0, 1) := by decide +kernel
theorem dX5_step_16 : decode cX5_step 16 = .ok (.getfield 38, 3) := by decide +kernel
theorem dX5_step_19 : decode cX5_step 19 = .ok (.baload, 1) := by decide +kernel
theorem dX5_step_20 : decode cX5_step 20 = .ok (.bipush 32, 2) := by decide +kernel
theorem dX5_step_22 : decode cX5_step 22 = .ok (.if_icmp .eq 17, 3) := by decide +kernel
theorem dX5_step_25 : decode cX5_step 25 = .ok (.aload_n 0, 1) := by decide +kernel
theorem dX5_step_26 : decode cX5_step 26 = .ok (.getfield 15, 3) := by decide +kernel
theorem dX5_step_29 : decode cX5_step 29 = .ok (.aload_n 0, 1) := by decide +kernel
theorem dX5_step_30 : decode cX5_step 30 = .ok (.getfield 38, 3) := by decide +kernel
theorem dX5_step_33 : decode cX5_step 33 = .ok (.baload, 1) := by decide +kernel
theorem dX5_step_34 : decode cX5_step 34 = .ok (.bipush 10, 2) := by decide +kernel
theorem dX5_step_36 : decode cX5_step 36 = .ok (.if_icmp .ne 16, 3) := by decide +kernel
theorem dX5_step_39 : decode cX5_step 39 = .ok (.aload_n 0, 1) := by decide +kernel
theorem dX5_step_40 : decode cX5_step 40 = .ok (.dup, 1) := by decide +kernel
theorem dX5_step_41 : decode cX5_step 41 = .ok (.getfield 38, 3) := by decide +kernel
theorem dX5_step_44 : decode cX5_step 44 = .ok (.iconst 1, 1) := by decide +kernel
theorem dX5_step_45 : decode cX5_step 45 = .ok (.iadd, 1) := by decide +kernel
theorem dX5_step_46 : decode cX5_step 46 = .ok (.putfield 38, 3) := by decide +kernel
theorem dX5_step_49 : decode cX5_step 49 = .ok (.goto (-49), 3) := by decide +kernel
theorem dX5_step_52 : decode cX5_step 52 = .ok (.aload_n 0, 1) := by decide +kernel
theorem dX5_step_53 : decode cX5_step 53 = .ok (.aload_n 0, 1) := by decide +kernel
theorem dX5_step_54 : decode cX5_step 54 = .ok (.getfield 38, 3) := by decide +kernel
theorem dX5_step_57 : decode cX5_step 57 = .ok (.putfield 57, 3) := by decide +kernel
theorem dX5_step_60 : decode cX5_step 60 = .ok (.aload_n 0, 1) := by decide +kernel
theorem dX5_step_61 : decode cX5_step 61 = .ok (.iconst 0, 1) := by decide +kernel
theorem dX5_step_62 : decode cX5_step 62 = .ok (.putfield 60, 3) := by decide +kernel
theorem dX5_step_65 : decode cX5_step 65 = .ok (.aload_n 0, 1) := by decide +kernel
theorem dX5_step_66 : decode cX5_step 66 = .ok (.getfield 38, 3) := by decide +kernel
theorem dX5_step_69 : decode cX5_step 69 = .ok (.aload_n 0, 1) := by decide +kernel
theorem dX5_step_70 : decode cX5_step 70 = .ok (.getfield 35, 3) := by decide +kernel
theorem dX5_step_73 : decode cX5_step 73 = .ok (.if_icmp .lt 11, 3) := by decide +kernel
theorem dX5_step_76 : decode cX5_step 76 = .ok (.aload_n 0, 1) := by decide +kernel
theorem dX5_step_77 : decode cX5_step 77 = .ok (.iconst 0, 1) := by decide +kernel
theorem dX5_step_78 : decode cX5_step 78 = .ok (.putfield 47, 3) := by decide +kernel
theorem dX5_step_81 : decode cX5_step 81 = .ok (.goto 106, 3) := by decide +kernel
theorem dX5_step_84 : decode cX5_step 84 = .ok (.aload_n 0, 1) := by decide +kernel
theorem dX5_step_85 : decode cX5_step 85 = .ok (.getfield 15, 3) := by decide +kernel
theorem dX5_step_88 : decode cX5_step 88 = .ok (.aload_n 0, 1) := by decide +kernel
theorem dX5_step_89 : decode cX5_step 89 = .ok (.getfield 38, 3) := by decide +kernel
theorem dX5_step_92 : decode cX5_step 92 = .ok (.baload, 1) := by decide +kernel
theorem dX5_step_93 : decode cX5_step 93 = .ok (.bipush 97, 2) := by decide +kernel
theorem dX5_step_95 : decode cX5_step 95 = .ok (.if_icmp .lt 24, 3) := by decide +kernel
theorem dX5_step_98 : decode cX5_step 98 = .ok (.aload_n 0, 1) := by decide +kernel
theorem dX5_step_99 : decode cX5_step 99 = .ok (.getfield 15, 3) := by decide +kernel
theorem dX5_step_102 : decode cX5_step 102 = .ok (.aload_n 0, 1) := by decide +kernel
theorem dX5_step_103 : decode cX5_step 103 = .ok (.getfield 38, 3) := by decide +kernel
theorem dX5_step_106 : decode cX5_step 106 = .ok (.baload, 1) := by decide +kernel
theorem dX5_step_107 : decode cX5_step 107 = .ok (.bipush 122, 2) := by decide +kernel
theorem dX5_step_109 : decode cX5_step 109 = .ok (.if_icmp .gt 10, 3) := by decide +kernel
theorem dX5_step_112 : decode cX5_step 112 = .ok (.aload_n 0, 1) := by decide +kernel
theorem dX5_step_113 : decode cX5_step 113 = .ok (.invokevirtual 63, 3) := by decide +kernel
theorem dX5_step_116 : decode cX5_step 116 = .ok (.goto 71, 3) := by decide +kernel
theorem dX5_step_119 : decode cX5_step 119 = .ok (.aload_n 0, 1) := by decide +kernel
theorem dX5_step_120 : decode cX5_step 120 = .ok (.getfield 15, 3) := by decide +kernel
theorem dX5_step_123 : decode cX5_step 123 = .ok (.aload_n 0, 1) := by decide +kernel
theorem dX5_step_124 : decode cX5_step 124 = .ok (.getfield 38, 3) := by decide +kernel
theorem dX5_step_127 : decode cX5_step 127 = .ok (.baload, 1) := by decide +kernel
theorem dX5_step_128 : decode cX5_step 128 = .ok (.bipush 48, 2) := by decide +kernel
theorem dX5_step_130 : decode cX5_step 130 = .ok (.if_icmp .lt 24, 3) := by decide +kernel
theorem dX5_step_133 : decode cX5_step 133 = .ok (.aload_n 0, 1) := by decide +kernel
theorem dX5_step_134 : decode cX5_step 134 = .ok (.getfield 15, 3) := by decide +kernel
theorem dX5_step_137 : decode cX5_step 137 = .ok (.aload_n 0, 1) := by decide +kernel
theorem dX5_step_138 : decode cX5_step 138 = .ok (.getfield 38, 3) := by decide +kernel
theorem dX5_step_141 : decode cX5_step 141 = .ok (.baload, 1) := by decide +kernel
theorem dX5_step_142 : decode cX5_step 142 = .ok (.bipush 57, 2) := by decide +kernel
theorem dX5_step_144 : decode cX5_step 144 = .ok (.if_icmp .gt 10, 3) := by decide +kernel
theorem dX5_step_147 : decode cX5_step 147 = .ok (.aload_n 0, 1) := by decide +kernel
theorem dX5_step_148 : decode cX5_step 148 = .ok (.invokevirtual 66, 3) := by decide +kernel
theorem dX5_step_151 : decode cX5_step 151 = .ok (.goto 36, 3) := by decide +kernel
theorem dX5_step_154 : decode cX5_step 154 = .ok (.aload_n 0, 1) := by decide +kernel
theorem dX5_step_155 : decode cX5_step 155 = .ok (.aload_n 0, 1) := by decide +kernel
theorem dX5_step_156 : decode cX5_step 156 = .ok (.getfield 15, 3) := by decide +kernel
theorem dX5_step_159 : decode cX5_step 159 = .ok (.aload_n 0, 1) := by decide +kernel
theorem dX5_step_160 : decode cX5_step 160 = .ok (.getfield 38, 3) := by decide +kernel
theorem dX5_step_163 : decode cX5_step 163 = .ok (.baload, 1) := by decide +kernel
theorem dX5_step_164 : decode cX5_step 164 = .ok (.bipush 59, 2) := by decide +kernel
theorem dX5_step_166 : decode cX5_step 166 = .ok (.if_icmp .ne 7, 3) := by decide +kernel
theorem dX5_step_169 : decode cX5_step 169 = .ok (.iconst 3, 1) := by decide +kernel
theorem dX5_step_170 : decode cX5_step 170 = .ok (.goto 4, 3) := by decide +kernel
theorem dX5_step_173 : decode cX5_step 173 = .ok (.iconst 4, 1) := by decide +kernel
theorem dX5_step_174 : decode cX5_step 174 = .ok (.putfield 47, 3) := by decide +kernel
theorem dX5_step_177 : decode cX5_step 177 = .ok (.aload_n 0, 1) := by decide +kernel
theorem dX5_step_178 : decode cX5_step 178 = .ok (.dup, 1) := by decide +kernel
theorem dX5_step_179 : decode cX5_step 179 = .ok (.getfield 38, 3) := by decide +kernel
theorem dX5_step_182 : decode cX5_step 182 = .ok (.iconst 1, 1) := by decide +kernel
theorem dX5_step_183 : decode cX5_step 183 = .ok (.iadd, 1) := by decide +kernel
theorem dX5_step_184 : decode cX5_step 184 = .ok (.putfield 38, 3) := by decide +kernel
theorem dX5_step_187 : decode cX5_step 187 = .ok (.return_, 1) := by decide +kernel
theorem dX5_takeWord_0 : decode cX5_takeWord 0 = .ok (.bipush 25, 2) := by decide +kernel
theorem dX5_takeWord_2 : decode cX5_takeWord 2 = .ok (.istore_n 1, 1) := by decide +kernel
theorem dX5_takeWord_3 : decode cX5_takeWord 3 = .ok (.aload_n 0, 1) := by decide +kernel
theorem dX5_takeWord_4 : decode cX5_takeWord 4 = .ok (.iconst 1, 1) := by decide +kernel
theorem dX5_takeWord_5 : decode cX5_takeWord 5 = .ok (.putfield 47, 3) := by decide +kernel
theorem dX5_takeWord_8 : decode cX5_takeWord 8 = .ok (.aload_n 0, 1) := by decide +kernel
theorem dX5_takeWord_9 : decode cX5_takeWord 9 = .ok (.getfield 38, 3) := by decide +kernel
theorem dX5_takeWord_12 : decode cX5_takeWord 12 = .ok (.aload_n 0, 1) := by decide +kernel
theorem dX5_takeWord_13 : decode cX5_takeWord 13 = .ok (.getfield 35, 3) := by decide +kernel
theorem dX5_takeWord_16 : decode cX5_takeWord 16 = .ok (.if_icmp .ge 84, 3) := by decide +kernel
theorem dX5_takeWord_19 : decode cX5_takeWord 19 = .ok (.aload_n 0, 1) := by decide +kernel
theorem dX5_takeWord_20 : decode cX5_takeWord 20 = .ok (.getfield 15, 3) := by decide +kernel
theorem dX5_takeWord_23 : decode cX5_takeWord 23 = .ok (.aload_n 0, 1) := by decide +kernel
theorem dX5_takeWord_24 : decode cX5_takeWord 24 = .ok (.getfield 38, 3) := by decide +kernel
theorem dX5_takeWord_27 : decode cX5_takeWord 27 = .ok (.baload, 1) := by decide +kernel
theorem dX5_takeWord_28 : decode cX5_takeWord 28 = .ok (.bipush 97, 2) := by decide +kernel
theorem dX5_takeWord_30 : decode cX5_takeWord 30 = .ok (.if_icmp .lt 70, 3) := by decide +kernel
theorem dX5_takeWord_33 : decode cX5_takeWord 33 = .ok (.aload_n 0, 1) := by decide +kernel
theorem dX5_takeWord_34 : decode cX5_takeWord 34 = .ok (.getfield 15, 3) := by decide +kernel
theorem dX5_takeWord_37 : decode cX5_takeWord 37 = .ok (.aload_n 0, 1) := by decide +kernel
theorem dX5_takeWord_38 : decode cX5_takeWord 38 = .ok (.getfield 38, 3) := by decide +kernel
theorem dX5_takeWord_41 : decode cX5_takeWord 41 = .ok (.baload, 1) := by decide +kernel
theorem dX5_takeWord_42 : decode cX5_takeWord 42 = .ok (.bipush 122, 2) := by decide +kernel
theorem dX5_takeWord_44 : decode cX5_takeWord 44 = .ok (.if_icmp .gt 56, 3) := by decide +kernel
theorem dX5_takeWord_47 : decode cX5_takeWord 47 = .ok (.iload_n 1, 1) := by decide +kernel
theorem dX5_takeWord_48 : decode cX5_takeWord 48 = .ok (.ifCond .ge 11, 3) := by decide +kernel
theorem dX5_takeWord_51 : decode cX5_takeWord 51 = .ok (.aload_n 0, 1) := by decide +kernel
theorem dX5_takeWord_52 : decode cX5_takeWord 52 = .ok (.iconst 4, 1) := by decide +kernel
theorem dX5_takeWord_53 : decode cX5_takeWord 53 = .ok (.putfield 47, 3) := by decide +kernel
theorem dX5_takeWord_56 : decode cX5_takeWord 56 = .ok (.goto 31, 3) := by decide +kernel
theorem dX5_takeWord_59 : decode cX5_takeWord 59 = .ok (.aload_n 0, 1) := by decide +kernel
theorem dX5_takeWord_60 : decode cX5_takeWord 60 = .ok (.dup, 1) := by decide +kernel
theorem dX5_takeWord_61 : decode cX5_takeWord 61 = .ok (.getfield 60, 3) := by decide +kernel
theorem dX5_takeWord_64 : decode cX5_takeWord 64 = .ok (.aload_n 0, 1) := by decide +kernel
theorem dX5_takeWord_65 : decode cX5_takeWord 65 = .ok (.getfield 15, 3) := by decide +kernel
theorem dX5_takeWord_68 : decode cX5_takeWord 68 = .ok (.aload_n 0, 1) := by decide +kernel
theorem dX5_takeWord_69 : decode cX5_takeWord 69 = .ok (.getfield 38, 3) := by decide +kernel
theorem dX5_takeWord_72 : decode cX5_takeWord 72 = .ok (.baload, 1) := by decide +kernel
theorem dX5_takeWord_73 : decode cX5_takeWord 73 = .ok (.bipush 97, 2) := by decide +kernel
theorem dX5_takeWord_75 : decode cX5_takeWord 75 = .ok (.isub, 1) := by decide +kernel
theorem dX5_takeWord_76 : decode cX5_takeWord 76 = .ok (.iconst 1, 1) := by decide +kernel
theorem dX5_takeWord_77 : decode cX5_takeWord 77 = .ok (.iadd, 1) := by decide +kernel
theorem dX5_takeWord_78 : decode cX5_takeWord 78 = .ok (.iload_n 1, 1) := by decide +kernel
theorem dX5_takeWord_79 : decode cX5_takeWord 79 = .ok (.ishl, 1) := by decide +kernel
theorem dX5_takeWord_80 : decode cX5_takeWord 80 = .ok (.ior, 1) := by decide +kernel
theorem dX5_takeWord_81 : decode cX5_takeWord 81 = .ok (.putfield 60, 3) := by decide +kernel
theorem dX5_takeWord_84 : decode cX5_takeWord 84 = .ok (.iinc 1 (-5), 3) := by decide +kernel
theorem dX5_takeWord_87 : decode cX5_takeWord 87 = .ok (.aload_n 0, 1) := by decide +kernel
theorem dX5_takeWord_88 : decode cX5_takeWord 88 = .ok (.dup, 1) := by decide +kernel
theorem dX5_takeWord_89 : decode cX5_takeWord 89 = .ok (.getfield 38, 3) := by decide +kernel
theorem dX5_takeWord_92 : decode cX5_takeWord 92 = .ok (.iconst 1, 1) := by decide +kernel
theorem dX5_takeWord_93 : decode cX5_takeWord 93 = .ok (.iadd, 1) := by decide +kernel
theorem dX5_takeWord_94 : decode cX5_takeWord 94 = .ok (.putfield 38, 3) := by decide +kernel
theorem dX5_takeWord_97 : decode cX5_takeWord 97 = .ok (.goto (-89), 3) := by decide +kernel
theorem dX5_takeWord_100 : decode cX5_takeWord 100 = .ok (.return_, 1) := by decide +kernel
theorem dX5_takeNumber_0 : decode cX5_takeNumber 0 = .ok (.aload_n 0, 1) := by decide +kernel
theorem dX5_takeNumber_1 : decode cX5_takeNumber 1 = .ok (.iconst 2, 1) := by decide +kernel
theorem dX5_takeNumber_2 : decode cX5_takeNumber 2 = .ok (.putfield 47, 3) := by decide +kernel
theorem dX5_takeNumber_5 : decode cX5_takeNumber 5 = .ok (.aload_n 0, 1) := by decide +kernel
theorem dX5_takeNumber_6 : decode cX5_takeNumber 6 = .ok (.getfield 38, 3) := by decide +kernel
theorem dX5_takeNumber_9 : decode cX5_takeNumber 9 = .ok (.aload_n 0, 1) := by decide +kernel
theorem dX5_takeNumber_10 : decode cX5_takeNumber 10 = .ok (.getfield 35, 3) := by decide +kernel
theorem dX5_takeNumber_13 : decode cX5_takeNumber 13 = .ok (.if_icmp .ge 82, 3) := by decide +kernel
theorem dX5_takeNumber_16 : decode cX5_takeNumber 16 = .ok (.aload_n 0, 1) := by decide +kernel
theorem dX5_takeNumber_17 : decode cX5_takeNumber 17 = .ok (.getfield 15, 3) := by decide +kernel
theorem dX5_takeNumber_20 : decode cX5_takeNumber 20 = .ok (.aload_n 0, 1) := by decide +kernel
theorem dX5_takeNumber_21 : decode cX5_takeNumber 21 = .ok (.getfield 38, 3) := by decide +kernel
theorem dX5_takeNumber_24 : decode cX5_takeNumber 24 = .ok (.baload, 1) := by decide +kernel
theorem dX5_takeNumber_25 : decode cX5_takeNumber 25 = .ok (.bipush 48, 2) := by decide +kernel
theorem dX5_takeNumber_27 : decode cX5_takeNumber 27 = .ok (.if_icmp .lt 68, 3) := by decide +kernel
theorem dX5_takeNumber_30 : decode cX5_takeNumber 30 = .ok (.aload_n 0, 1) := by decide +kernel
theorem dX5_takeNumber_31 : decode cX5_takeNumber 31 = .ok (.getfield 15, 3) := by decide +kernel
theorem dX5_takeNumber_34 : decode cX5_takeNumber 34 = .ok (.aload_n 0, 1) := by decide +kernel
theorem dX5_takeNumber_35 : decode cX5_takeNumber 35 = .ok (.getfield 38, 3) := by decide +kernel
theorem dX5_takeNumber_38 : decode cX5_takeNumber 38 = .ok (.baload, 1) := by decide +kernel
theorem dX5_takeNumber_39 : decode cX5_takeNumber 39 = .ok (.bipush 57, 2) := by decide +kernel
theorem dX5_takeNumber_41 : decode cX5_takeNumber 41 = .ok (.if_icmp .gt 54, 3) := by decide +kernel
theorem dX5_takeNumber_44 : decode cX5_takeNumber 44 = .ok (.aload_n 0, 1) := by decide +kernel
theorem dX5_takeNumber_45 : decode cX5_takeNumber 45 = .ok (.aload_n 0, 1) := by decide +kernel
theorem dX5_takeNumber_46 : decode cX5_takeNumber 46 = .ok (.getfield 60, 3) := by decide +kernel
theorem dX5_takeNumber_49 : decode cX5_takeNumber 49 = .ok (.ldc 69, 2) := by decide +kernel
theorem dX5_takeNumber_51 : decode cX5_takeNumber 51 = .ok (.if_icmp .lt 8, 3) := by decide +kernel
theorem dX5_takeNumber_54 : decode cX5_takeNumber 54 = .ok (.ldc 70, 2) := by decide +kernel
theorem dX5_takeNumber_56 : decode cX5_takeNumber 56 = .ok (.goto 23, 3) := by decide +kernel
theorem dX5_takeNumber_59 : decode cX5_takeNumber 59 = .ok (.aload_n 0, 1) := by decide +kernel
theorem dX5_takeNumber_60 : decode cX5_takeNumber 60 = .ok (.getfield 60, 3) := by decide +kernel
theorem dX5_takeNumber_63 : decode cX5_takeNumber 63 = .ok (.bipush 10, 2) := by decide +kernel
theorem dX5_takeNumber_65 : decode cX5_takeNumber 65 = .ok (.imul, 1) := by decide +kernel
theorem dX5_takeNumber_66 : decode cX5_takeNumber 66 = .ok (.aload_n 0, 1) := by decide +kernel
theorem dX5_takeNumber_67 : decode cX5_takeNumber 67 = .ok (.getfield 15, 3) := by decide +kernel
theorem dX5_takeNumber_70 : decode cX5_takeNumber 70 = .ok (.aload_n 0, 1) := by decide +kernel
theorem dX5_takeNumber_71 : decode cX5_takeNumber 71 = .ok (.getfield 38, 3) := by decide +kernel
theorem dX5_takeNumber_74 : decode cX5_takeNumber 74 = .ok (.baload, 1) := by decide +kernel
theorem dX5_takeNumber_75 : decode cX5_takeNumber 75 = .ok (.iadd, 1) := by decide +kernel
theorem dX5_takeNumber_76 : decode cX5_takeNumber 76 = .ok (.bipush 48, 2) := by decide +kernel
theorem dX5_takeNumber_78 : decode cX5_takeNumber 78 = .ok (.isub, 1) := by decide +kernel
theorem dX5_takeNumber_79 : decode cX5_takeNumber 79 = .ok (.putfield 60, 3) := by decide +kernel
theorem dX5_takeNumber_82 : decode cX5_takeNumber 82 = .ok (.aload_n 0, 1) := by decide +kernel
theorem dX5_takeNumber_83 : decode cX5_takeNumber 83 = .ok (.dup, 1) := by decide +kernel
theorem dX5_takeNumber_84 : decode cX5_takeNumber 84 = .ok (.getfield 38, 3) := by decide +kernel
theorem dX5_takeNumber_87 : decode cX5_takeNumber 87 = .ok (.iconst 1, 1) := by decide +kernel
theorem dX5_takeNumber_88 : decode cX5_takeNumber 88 = .ok (.iadd, 1) := by decide +kernel
theorem dX5_takeNumber_89 : decode cX5_takeNumber 89 = .ok (.putfield 38, 3) := by decide +kernel
theorem dX5_takeNumber_92 : decode cX5_takeNumber 92 = .ok (.goto (-87), 3) := by decide +kernel
theorem dX5_takeNumber_95 : decode cX5_takeNumber 95 = .ok (.return_, 1) := by decide +kernel
theorem dX5_wordNumber_0 : decode cX5_wordNumber 0 = .ok (.iconst 0, 1) := by decide +kernel
theorem dX5_wordNumber_1 : decode cX5_wordNumber 1 = .ok (.istore_n 1, 1) := by decide +kernel
theorem dX5_wordNumber_2 : decode cX5_wordNumber 2 = .ok (.iload_n 1, 1) := by decide +kernel
theorem dX5_wordNumber_3 : decode cX5_wordNumber 3 = .ok (.getstatic 71, 3) := by decide +kernel
theorem dX5_wordNumber_6 : decode cX5_wordNumber 6 = .ok (.arraylength, 1) := by decide +kernel
theorem dX5_wordNumber_7 : decode cX5_wordNumber 7 = .ok (.if_icmp .ge 31, 3) := by decide +kernel
theorem dX5_wordNumber_10 : decode cX5_wordNumber 10 = .ok (.aload_n 0, 1) := by decide +kernel
theorem dX5_wordNumber_11 : decode cX5_wordNumber 11 = .ok (.getfield 47, 3) := by decide +kernel
theorem dX5_wordNumber_14 : decode cX5_wordNumber 14 = .ok (.iconst 1, 1) := by decide +kernel
theorem dX5_wordNumber_15 : decode cX5_wordNumber 15 = .ok (.if_icmp .ne 23, 3) := by decide +kernel
theorem dX5_wordNumber_18 : decode cX5_wordNumber 18 = .ok (.getstatic 71, 3) := by decide +kernel
theorem dX5_wordNumber_21 : decode cX5_wordNumber 21 = .ok (.iload_n 1, 1) := by decide +kernel
theorem dX5_wordNumber_22 : decode cX5_wordNumber 22 = .ok (.iaload, 1) := by decide +kernel
theorem dX5_wordNumber_23 : decode cX5_wordNumber 23 = .ok (.aload_n 0, 1) := by decide +kernel
theorem dX5_wordNumber_24 : decode cX5_wordNumber 24 = .ok (.getfield 60, 3) := by decide +kernel
theorem dX5_wordNumber_27 : decode cX5_wordNumber 27 = .ok (.if_icmp .ne 5, 3) := by decide +kernel
theorem dX5_wordNumber_30 : decode cX5_wordNumber 30 = .ok (.iload_n 1, 1) := by decide +kernel
theorem dX5_wordNumber_31 : decode cX5_wordNumber 31 = .ok (.ireturn, 1) := by decide +kernel
theorem dX5_wordNumber_32 : decode cX5_wordNumber 32 = .ok (.iinc 1 1, 3) := by decide +kernel
theorem dX5_wordNumber_35 : decode cX5_wordNumber 35 = .ok (.goto (-33), 3) := by decide +kernel
theorem dX5_wordNumber_38 : decode cX5_wordNumber 38 = .ok (.iconst (-1), 1) := by decide +kernel
theorem dX5_wordNumber_39 : decode cX5_wordNumber 39 = .ok (.ireturn, 1) := by decide +kernel
theorem dX5_readLine_0 : decode cX5_readLine 0 = .ok (.aload_n 0, 1) := by decide +kernel
theorem dX5_readLine_1 : decode cX5_readLine 1 = .ok (.invokevirtual 75, 3) := by decide +kernel
theorem dX5_readLine_4 : decode cX5_readLine 4 = .ok (.istore_n 1, 1) := by decide +kernel
theorem dX5_readLine_5 : decode cX5_readLine 5 = .ok (.iload_n 1, 1) := by decide +kernel
theorem dX5_readLine_6 : decode cX5_readLine 6 = .ok (.iconst (-1), 1) := by decide +kernel
theorem dX5_readLine_7 : decode cX5_readLine 7 = .ok (.if_icmp .ne 13, 3) := by decide +kernel
theorem dX5_readLine_10 : decode cX5_readLine 10 = .ok (.aload_n 0, 1) := by decide +kernel
theorem dX5_readLine_11 : decode cX5_readLine 11 = .ok (.iconst 1, 1) := by decide +kernel
theorem dX5_readLine_12 : decode cX5_readLine 12 = .ok (.aload_n 0, 1) := by decide +kernel
theorem dX5_readLine_13 : decode cX5_readLine 13 = .ok (.getfield 57, 3) := by decide +kernel
theorem dX5_readLine_16 : decode cX5_readLine 16 = .ok (.invokevirtual 79, 3) := by decide +kernel
theorem dX5_readLine_19 : decode cX5_readLine 19 = .ok (.ireturn, 1) := by decide +kernel
theorem dX5_readLine_20 : decode cX5_readLine 20 = .ok (.iload_n 1, 1) := by decide +kernel
theorem dX5_readLine_21 : decode cX5_readLine 21 = .ok (.ifCond .ne 11, 3) := by decide +kernel
theorem dX5_readLine_24 : decode cX5_readLine 24 = .ok (.aload_n 0, 1) := by decide +kernel
theorem dX5_readLine_25 : decode cX5_readLine 25 = .ok (.invokevirtual 83, 3) := by decide +kernel
theorem dX5_readLine_28 : decode cX5_readLine 28 = .ok (.istore_n 2, 1) := by decide +kernel
theorem dX5_readLine_29 : decode cX5_readLine 29 = .ok (.goto 24, 3) := by decide +kernel
theorem dX5_readLine_32 : decode cX5_readLine 32 = .ok (.iload_n 1, 1) := by decide +kernel
theorem dX5_readLine_33 : decode cX5_readLine 33 = .ok (.iconst 1, 1) := by decide +kernel
theorem dX5_readLine_34 : decode cX5_readLine 34 = .ok (.if_icmp .ne 11, 3) := by decide +kernel
theorem dX5_readLine_37 : decode cX5_readLine 37 = .ok (.aload_n 0, 1) := by decide +kernel
theorem dX5_readLine_38 : decode cX5_readLine 38 = .ok (.invokevirtual 86, 3) := by decide +kernel
theorem dX5_readLine_41 : decode cX5_readLine 41 = .ok (.istore_n 2, 1) := by decide +kernel
theorem dX5_readLine_42 : decode cX5_readLine 42 = .ok (.goto 11, 3) := by decide +kernel
theorem dX5_readLine_45 : decode cX5_readLine 45 = .ok (.aload_n 0, 1) := by decide +kernel
theorem dX5_readLine_46 : decode cX5_readLine 46 = .ok (.iload_n 1, 1) := by decide +kernel
theorem dX5_readLine_47 : decode cX5_readLine 47 = .ok (.iconst 2, 1) := by decide +kernel
theorem dX5_readLine_48 : decode cX5_readLine 48 = .ok (.isub, 1) := by decide +kernel
theorem dX5_readLine_49 : decode cX5_readLine 49 = .ok (.invokevirtual 89, 3) := by decide +kernel
theorem dX5_readLine_52 : decode cX5_readLine 52 = .ok (.istore_n 2, 1) := by decide +kernel
theorem dX5_readLine_53 : decode cX5_readLine 53 = .ok (.iload_n 2, 1) := by decide +kernel
theorem dX5_readLine_54 : decode cX5_readLine 54 = .ok (.ifCond .ne 5, 3) := by decide +kernel
theorem dX5_readLine_57 : decode cX5_readLine 57 = .ok (.iconst 0, 1) := by decide +kernel
theorem dX5_readLine_58 : decode cX5_readLine 58 = .ok (.ireturn, 1) := by decide +kernel
theorem dX5_readLine_59 : decode cX5_readLine 59 = .ok (.aload_n 0, 1) := by decide +kernel
theorem dX5_readLine_60 : decode cX5_readLine 60 = .ok (.invokevirtual 44, 3) := by decide +kernel
theorem dX5_readLine_63 : decode cX5_readLine 63 = .ok (.aload_n 0, 1) := by decide +kernel
theorem dX5_readLine_64 : decode cX5_readLine 64 = .ok (.getfield 47, 3) := by decide +kernel
theorem dX5_readLine_67 : decode cX5_readLine 67 = .ok (.iconst 3, 1) := by decide +kernel
theorem dX5_readLine_68 : decode cX5_readLine 68 = .ok (.if_icmp .eq 15, 3) := by decide +kernel
theorem dX5_readLine_71 : decode cX5_readLine 71 = .ok (.aload_n 0, 1) := by decide +kernel
theorem dX5_readLine_72 : decode cX5_readLine 72 = .ok (.iconst 1, 1) := by decide +kernel
theorem dX5_readLine_73 : decode cX5_readLine 73 = .ok (.aload_n 0, 1) := by decide +kernel
theorem dX5_readLine_74 : decode cX5_readLine 74 = .ok (.getfield 57, 3) := by decide +kernel
theorem dX5_readLine_77 : decode cX5_readLine 77 = .ok (.invokevirtual 79, 3) := by decide +kernel
theorem dX5_readLine_80 : decode cX5_readLine 80 = .ok (.ifCond .eq 7, 3) := by decide +kernel
theorem dX5_readLine_83 : decode cX5_readLine 83 = .ok (.iconst 1, 1) := by decide +kernel
theorem dX5_readLine_84 : decode cX5_readLine 84 = .ok (.goto 4, 3) := by decide +kernel
theorem dX5_readLine_87 : decode cX5_readLine 87 = .ok (.iconst 0, 1) := by decide +kernel
theorem dX5_readLine_88 : decode cX5_readLine 88 = .ok (.ireturn, 1) := by decide +kernel
theorem dX5_readName_0 : decode cX5_readName 0 = .ok (.aload_n 0, 1) := by decide +kernel
theorem dX5_readName_1 : decode cX5_readName 1 = .ok (.invokevirtual 44, 3) := by decide +kernel
theorem dX5_readName_4 : decode cX5_readName 4 = .ok (.aload_n 0, 1) := by decide +kernel
theorem dX5_readName_5 : decode cX5_readName 5 = .ok (.getfield 47, 3) := by decide +kernel
theorem dX5_readName_8 : decode cX5_readName 8 = .ok (.iconst 1, 1) := by decide +kernel
theorem dX5_readName_9 : decode cX5_readName 9 = .ok (.if_icmp .ne 11, 3) := by decide +kernel
theorem dX5_readName_12 : decode cX5_readName 12 = .ok (.aload_n 0, 1) := by decide +kernel
theorem dX5_readName_13 : decode cX5_readName 13 = .ok (.invokevirtual 75, 3) := by decide +kernel
theorem dX5_readName_16 : decode cX5_readName 16 = .ok (.iconst (-1), 1) := by decide +kernel
theorem dX5_readName_17 : decode cX5_readName 17 = .ok (.if_icmp .eq 15, 3) := by decide +kernel
theorem dX5_readName_20 : decode cX5_readName 20 = .ok (.aload_n 0, 1) := by decide +kernel
theorem dX5_readName_21 : decode cX5_readName 21 = .ok (.iconst 1, 1) := by decide +kernel
theorem dX5_readName_22 : decode cX5_readName 22 = .ok (.aload_n 0, 1) := by decide +kernel
theorem dX5_readName_23 : decode cX5_readName 23 = .ok (.getfield 57, 3) := by decide +kernel
theorem dX5_readName_26 : decode cX5_readName 26 = .ok (.invokevirtual 79, 3) := by decide +kernel
theorem dX5_readName_29 : decode cX5_readName 29 = .ok (.ifCond .eq 7, 3) := by decide +kernel
theorem dX5_readName_32 : decode cX5_readName 32 = .ok (.iconst 1, 1) := by decide +kernel
theorem dX5_readName_33 : decode cX5_readName 33 = .ok (.goto 4, 3) := by decide +kernel
theorem dX5_readName_36 : decode cX5_readName 36 = .ok (.iconst 0, 1) := by decide +kernel
theorem dX5_readName_37 : decode cX5_readName 37 = .ok (.ireturn, 1) := by decide +kernel
theorem dX5_readNumber_0 : decode cX5_readNumber 0 = .ok (.aload_n 0, 1) := by decide +kernel
theorem dX5_readNumber_1 : decode cX5_readNumber 1 = .ok (.invokevirtual 44, 3) := by decide +kernel
theorem dX5_readNumber_4 : decode cX5_readNumber 4 = .ok (.aload_n 0, 1) := by decide +kernel
theorem dX5_readNumber_5 : decode cX5_readNumber 5 = .ok (.getfield 47, 3) := by decide +kernel
theorem dX5_readNumber_8 : decode cX5_readNumber 8 = .ok (.iconst 2, 1) := by decide +kernel
theorem dX5_readNumber_9 : decode cX5_readNumber 9 = .ok (.if_icmp .eq 13, 3) := by decide +kernel
theorem dX5_readNumber_12 : decode cX5_readNumber 12 = .ok (.aload_n 0, 1) := by decide +kernel
theorem dX5_readNumber_13 : decode cX5_readNumber 13 = .ok (.iconst 1, 1) := by decide +kernel
theorem dX5_readNumber_14 : decode cX5_readNumber 14 = .ok (.aload_n 0, 1) := by decide +kernel
theorem dX5_readNumber_15 : decode cX5_readNumber 15 = .ok (.getfield 57, 3) := by decide +kernel
theorem dX5_readNumber_18 : decode cX5_readNumber 18 = .ok (.invokevirtual 79, 3) := by decide +kernel
theorem dX5_readNumber_21 : decode cX5_readNumber 21 = .ok (.ireturn, 1) := by decide +kernel
theorem dX5_readNumber_22 : decode cX5_readNumber 22 = .ok (.aload_n 0, 1) := by decide +kernel
theorem dX5_readNumber_23 : decode cX5_readNumber 23 = .ok (.getfield 60, 3) := by decide +kernel
theorem dX5_readNumber_26 : decode cX5_readNumber 26 = .ok (.iload_n 1, 1) := by decide +kernel
theorem dX5_readNumber_27 : decode cX5_readNumber 27 = .ok (.if_icmp .lt 11, 3) := by decide +kernel
theorem dX5_readNumber_30 : decode cX5_readNumber 30 = .ok (.aload_n 0, 1) := by decide +kernel
theorem dX5_readNumber_31 : decode cX5_readNumber 31 = .ok (.getfield 60, 3) := by decide +kernel
theorem dX5_readNumber_34 : decode cX5_readNumber 34 = .ok (.iload_n 2, 1) := by decide +kernel
theorem dX5_readNumber_35 : decode cX5_readNumber 35 = .ok (.if_icmp .le 15, 3) := by decide +kernel
theorem dX5_readNumber_38 : decode cX5_readNumber 38 = .ok (.aload_n 0, 1) := by decide +kernel
theorem dX5_readNumber_39 : decode cX5_readNumber 39 = .ok (.iconst 2, 1) := by decide +kernel
theorem dX5_readNumber_40 : decode cX5_readNumber 40 = .ok (.aload_n 0, 1) := by decide +kernel
theorem dX5_readNumber_41 : decode cX5_readNumber 41 = .ok (.getfield 57, 3) := by decide +kernel
theorem dX5_readNumber_44 : decode cX5_readNumber 44 = .ok (.invokevirtual 79, 3) := by decide +kernel
theorem dX5_readNumber_47 : decode cX5_readNumber 47 = .ok (.ifCond .eq 7, 3) := by decide +kernel
theorem dX5_readNumber_50 : decode cX5_readNumber 50 = .ok (.iconst 1, 1) := by decide +kernel
theorem dX5_readNumber_51 : decode cX5_readNumber 51 = .ok (.goto 4, 3) := by decide +kernel
theorem dX5_readNumber_54 : decode cX5_readNumber 54 = .ok (.iconst 0, 1) := by decide +kernel
theorem dX5_readNumber_55 : decode cX5_readNumber 55 = .ok (.ireturn, 1) := by decide +kernel
theorem dX5_readTwo_0 : decode cX5_readTwo 0 = .ok (.aload_n 0, 1) := by decide +kernel
theorem dX5_readTwo_1 : decode cX5_readTwo 1 = .ok (.iconst 0, 1) := by decide +kernel
theorem dX5_readTwo_2 : decode cX5_readTwo 2 = .ok (.ldc 93, 2) := by decide +kernel
theorem dX5_readTwo_4 : decode cX5_readTwo 4 = .ok (.invokevirtual 94, 3) := by decide +kernel
theorem dX5_readTwo_7 : decode cX5_readTwo 7 = .ok (.ifCond .ne 5, 3) := by decide +kernel
theorem dX5_readTwo_10 : decode cX5_readTwo 10 = .ok (.iconst 0, 1) := by decide +kernel
theorem dX5_readTwo_11 : decode cX5_readTwo 11 = .ok (.ireturn, 1) := by decide +kernel
theorem dX5_readTwo_12 : decode cX5_readTwo 12 = .ok (.aload_n 0, 1) := by decide +kernel
theorem dX5_readTwo_13 : decode cX5_readTwo 13 = .ok (.getfield 60, 3) := by decide +kernel
theorem dX5_readTwo_16 : decode cX5_readTwo 16 = .ok (.istore_n 1, 1) := by decide +kernel
theorem dX5_readTwo_17 : decode cX5_readTwo 17 = .ok (.aload_n 0, 1) := by decide +kernel
theorem dX5_readTwo_18 : decode cX5_readTwo 18 = .ok (.getfield 57, 3) := by decide +kernel
theorem dX5_readTwo_21 : decode cX5_readTwo 21 = .ok (.istore_n 2, 1) := by decide +kernel
theorem dX5_readTwo_22 : decode cX5_readTwo 22 = .ok (.aload_n 0, 1) := by decide +kernel
theorem dX5_readTwo_23 : decode cX5_readTwo 23 = .ok (.iconst 1, 1) := by decide +kernel
theorem dX5_readTwo_24 : decode cX5_readTwo 24 = .ok (.sipush 9999, 3) := by decide +kernel
theorem dX5_readTwo_27 : decode cX5_readTwo 27 = .ok (.invokevirtual 94, 3) := by decide +kernel
theorem dX5_readTwo_30 : decode cX5_readTwo 30 = .ok (.ifCond .ne 5, 3) := by decide +kernel
theorem dX5_readTwo_33 : decode cX5_readTwo 33 = .ok (.iconst 0, 1) := by decide +kernel
theorem dX5_readTwo_34 : decode cX5_readTwo 34 = .ok (.ireturn, 1) := by decide +kernel
theorem dX5_readTwo_35 : decode cX5_readTwo 35 = .ok (.aload_n 0, 1) := by decide +kernel
theorem dX5_readTwo_36 : decode cX5_readTwo 36 = .ok (.iload_n 1, 1) := by decide +kernel
theorem dX5_readTwo_37 : decode cX5_readTwo 37 = .ok (.aload_n 0, 1) := by decide +kernel
theorem dX5_readTwo_38 : decode cX5_readTwo 38 = .ok (.getfield 60, 3) := by decide +kernel
theorem dX5_readTwo_41 : decode cX5_readTwo 41 = .ok (.invokestatic 97, 3) := by decide +kernel
theorem dX5_readTwo_44 : decode cX5_readTwo 44 = .ok (.putfield 60, 3) := by decide +kernel
theorem dX5_readTwo_47 : decode cX5_readTwo 47 = .ok (.aload_n 0, 1) := by decide +kernel
theorem dX5_readTwo_48 : decode cX5_readTwo 48 = .ok (.iload_n 2, 1) := by decide +kernel
theorem dX5_readTwo_49 : decode cX5_readTwo 49 = .ok (.putfield 57, 3) := by decide +kernel
theorem dX5_readTwo_52 : decode cX5_readTwo 52 = .ok (.iconst 1, 1) := by decide +kernel
theorem dX5_readTwo_53 : decode cX5_readTwo 53 = .ok (.ireturn, 1) := by decide +kernel
theorem dX5_readHand_0 : decode cX5_readHand 0 = .ok (.aload_n 0, 1) := by decide +kernel
theorem dX5_readHand_1 : decode cX5_readHand 1 = .ok (.getfield 22, 3) := by decide +kernel
theorem dX5_readHand_4 : decode cX5_readHand 4 = .ok (.getfield 102, 3) := by decide +kernel
theorem dX5_readHand_7 : decode cX5_readHand 7 = .ok (.iconst 5, 1) := by decide +kernel
theorem dX5_readHand_8 : decode cX5_readHand 8 = .ok (.if_icmp .lt 13, 3) := by decide +kernel
theorem dX5_readHand_11 : decode cX5_readHand 11 = .ok (.aload_n 0, 1) := by decide +kernel
theorem dX5_readHand_12 : decode cX5_readHand 12 = .ok (.iconst 2, 1) := by decide +kernel
theorem dX5_readHand_13 : decode cX5_readHand 13 = .ok (.aload_n 0, 1) := by decide +kernel
theorem dX5_readHand_14 : decode cX5_readHand 14 = .ok (.getfield 57, 3) := by decide +kernel
theorem dX5_readHand_17 : decode cX5_readHand 17 = .ok (.invokevirtual 79, 3) := by decide +kernel
theorem dX5_readHand_20 : decode cX5_readHand 20 = .ok (.ireturn, 1) := by decide +kernel
theorem dX5_readHand_21 : decode cX5_readHand 21 = .ok (.aload_n 0, 1) := by decide +kernel
theorem dX5_readHand_22 : decode cX5_readHand 22 = .ok (.invokevirtual 105, 3) := by decide +kernel
theorem dX5_readHand_25 : decode cX5_readHand 25 = .ok (.ifCond .ne 5, 3) := by decide +kernel
theorem dX5_readHand_28 : decode cX5_readHand 28 = .ok (.iconst 0, 1) := by decide +kernel
theorem dX5_readHand_29 : decode cX5_readHand 29 = .ok (.ireturn, 1) := by decide +kernel
theorem dX5_readHand_30 : decode cX5_readHand 30 = .ok (.aload_n 0, 1) := by decide +kernel
theorem dX5_readHand_31 : decode cX5_readHand 31 = .ok (.getfield 22, 3) := by decide +kernel
theorem dX5_readHand_34 : decode cX5_readHand 34 = .ok (.aload_n 0, 1) := by decide +kernel
theorem dX5_readHand_35 : decode cX5_readHand 35 = .ok (.getfield 60, 3) := by decide +kernel
theorem dX5_readHand_38 : decode cX5_readHand 38 = .ok (.invokevirtual 108, 3) := by decide +kernel
theorem dX5_readHand_41 : decode cX5_readHand 41 = .ok (.iconst (-1), 1) := by decide +kernel
theorem dX5_readHand_42 : decode cX5_readHand 42 = .ok (.if_icmp .eq 13, 3) := by decide +kernel
theorem dX5_readHand_45 : decode cX5_readHand 45 = .ok (.aload_n 0, 1) := by decide +kernel
theorem dX5_readHand_46 : decode cX5_readHand 46 = .ok (.iconst 3, 1) := by decide +kernel
theorem dX5_readHand_47 : decode cX5_readHand 47 = .ok (.aload_n 0, 1) := by decide +kernel
theorem dX5_readHand_48 : decode cX5_readHand 48 = .ok (.getfield 57, 3) := by decide +kernel
theorem dX5_readHand_51 : decode cX5_readHand 51 = .ok (.invokevirtual 79, 3) := by decide +kernel
theorem dX5_readHand_54 : decode cX5_readHand 54 = .ok (.ireturn, 1) := by decide +kernel
theorem dX5_readHand_55 : decode cX5_readHand 55 = .ok (.aload_n 0, 1) := by decide +kernel
theorem dX5_readHand_56 : decode cX5_readHand 56 = .ok (.getfield 22, 3) := by decide +kernel
theorem dX5_readHand_59 : decode cX5_readHand 59 = .ok (.aload_n 0, 1) := by decide +kernel
theorem dX5_readHand_60 : decode cX5_readHand 60 = .ok (.getfield 60, 3) := by decide +kernel
theorem dX5_readHand_63 : decode cX5_readHand 63 = .ok (.invokevirtual 112, 3) := by decide +kernel
theorem dX5_readHand_66 : decode cX5_readHand 66 = .ok (.iconst 1, 1) := by decide +kernel
theorem dX5_readHand_67 : decode cX5_readHand 67 = .ok (.ireturn, 1) := by decide +kernel
theorem dX5_readKey_0 : decode cX5_readKey 0 = .ok (.aload_n 0, 1) := by decide +kernel
theorem dX5_readKey_1 : decode cX5_readKey 1 = .ok (.getfield 22, 3) := by decide +kernel
theorem dX5_readKey_4 : decode cX5_readKey 4 = .ok (.getfield 116, 3) := by decide +kernel
theorem dX5_readKey_7 : decode cX5_readKey 7 = .ok (.getfield 120, 3) := by decide +kernel
theorem dX5_readKey_10 : decode cX5_readKey 10 = .ok (.bipush 16, 2) := by decide +kernel
theorem dX5_readKey_12 : decode cX5_readKey 12 = .ok (.if_icmp .lt 13, 3) := by decide +kernel
theorem dX5_readKey_15 : decode cX5_readKey 15 = .ok (.aload_n 0, 1) := by decide +kernel
theorem dX5_readKey_16 : decode cX5_readKey 16 = .ok (.iconst 2, 1) := by decide +kernel
theorem dX5_readKey_17 : decode cX5_readKey 17 = .ok (.aload_n 0, 1) := by decide +kernel
theorem dX5_readKey_18 : decode cX5_readKey 18 = .ok (.getfield 57, 3) := by decide +kernel
theorem dX5_readKey_21 : decode cX5_readKey 21 = .ok (.invokevirtual 79, 3) := by decide +kernel
theorem dX5_readKey_24 : decode cX5_readKey 24 = .ok (.ireturn, 1) := by decide +kernel
theorem dX5_readKey_25 : decode cX5_readKey 25 = .ok (.aload_n 0, 1) := by decide +kernel
theorem dX5_readKey_26 : decode cX5_readKey 26 = .ok (.invokevirtual 125, 3) := by decide +kernel
theorem dX5_readKey_29 : decode cX5_readKey 29 = .ok (.ifCond .ne 5, 3) := by decide +kernel
theorem dX5_readKey_32 : decode cX5_readKey 32 = .ok (.iconst 0, 1) := by decide +kernel
theorem dX5_readKey_33 : decode cX5_readKey 33 = .ok (.ireturn, 1) := by decide +kernel
theorem dX5_readKey_34 : decode cX5_readKey 34 = .ok (.aload_n 0, 1) := by decide +kernel
theorem dX5_readKey_35 : decode cX5_readKey 35 = .ok (.getfield 60, 3) := by decide +kernel
theorem dX5_readKey_38 : decode cX5_readKey 38 = .ok (.istore_n 1, 1) := by decide +kernel
theorem dX5_readKey_39 : decode cX5_readKey 39 = .ok (.aload_n 0, 1) := by decide +kernel
theorem dX5_readKey_40 : decode cX5_readKey 40 = .ok (.getfield 22, 3) := by decide +kernel
theorem dX5_readKey_43 : decode cX5_readKey 43 = .ok (.iload_n 1, 1) := by decide +kernel
theorem dX5_readKey_44 : decode cX5_readKey 44 = .ok (.invokevirtual 128, 3) := by decide +kernel
theorem dX5_readKey_47 : decode cX5_readKey 47 = .ok (.ifCond .eq 13, 3) := by decide +kernel
theorem dX5_readKey_50 : decode cX5_readKey 50 = .ok (.aload_n 0, 1) := by decide +kernel
theorem dX5_readKey_51 : decode cX5_readKey 51 = .ok (.iconst 3, 1) := by decide +kernel
theorem dX5_readKey_52 : decode cX5_readKey 52 = .ok (.aload_n 0, 1) := by decide +kernel
theorem dX5_readKey_53 : decode cX5_readKey 53 = .ok (.getfield 57, 3) := by decide +kernel
theorem dX5_readKey_56 : decode cX5_readKey 56 = .ok (.invokevirtual 79, 3) := by decide +kernel
theorem dX5_readKey_59 : decode cX5_readKey 59 = .ok (.ireturn, 1) := by decide +kernel
theorem dX5_readKey_60 : decode cX5_readKey 60 = .ok (.aload_n 0, 1) := by decide +kernel
theorem dX5_readKey_61 : decode cX5_readKey 61 = .ok (.iconst 0, 1) := by decide +kernel
theorem dX5_readKey_62 : decode cX5_readKey 62 = .ok (.sipush 9999, 3) := by decide +kernel
theorem dX5_readKey_65 : decode cX5_readKey 65 = .ok (.invokevirtual 94, 3) := by decide +kernel
theorem dX5_readKey_68 : decode cX5_readKey 68 = .ok (.ifCond .ne 5, 3) := by decide +kernel
theorem dX5_readKey_71 : decode cX5_readKey 71 = .ok (.iconst 0, 1) := by decide +kernel
theorem dX5_readKey_72 : decode cX5_readKey 72 = .ok (.ireturn, 1) := by decide +kernel
theorem dX5_readKey_73 : decode cX5_readKey 73 = .ok (.aload_n 0, 1) := by decide +kernel
theorem dX5_readKey_74 : decode cX5_readKey 74 = .ok (.getfield 22, 3) := by decide +kernel
theorem dX5_readKey_77 : decode cX5_readKey 77 = .ok (.iload_n 1, 1) := by decide +kernel
theorem dX5_readKey_78 : decode cX5_readKey 78 = .ok (.aload_n 0, 1) := by decide +kernel
theorem dX5_readKey_79 : decode cX5_readKey 79 = .ok (.getfield 60, 3) := by decide +kernel
theorem dX5_readKey_82 : decode cX5_readKey 82 = .ok (.invokevirtual 131, 3) := by decide +kernel
theorem dX5_readKey_85 : decode cX5_readKey 85 = .ok (.iconst 1, 1) := by decide +kernel
theorem dX5_readKey_86 : decode cX5_readKey 86 = .ok (.ireturn, 1) := by decide +kernel
theorem dX5_readStep_0 : decode cX5_readStep 0 = .ok (.aload_n 0, 1) := by decide +kernel
theorem dX5_readStep_1 : decode cX5_readStep 1 = .ok (.getfield 22, 3) := by decide +kernel
theorem dX5_readStep_4 : decode cX5_readStep 4 = .ok (.getfield 135, 3) := by decide +kernel
theorem dX5_readStep_7 : decode cX5_readStep 7 = .ok (.bipush 24, 2) := by decide +kernel
theorem dX5_readStep_9 : decode cX5_readStep 9 = .ok (.if_icmp .lt 13, 3) := by decide +kernel
theorem dX5_readStep_12 : decode cX5_readStep 12 = .ok (.aload_n 0, 1) := by decide +kernel
theorem dX5_readStep_13 : decode cX5_readStep 13 = .ok (.iconst 2, 1) := by decide +kernel
theorem dX5_readStep_14 : decode cX5_readStep 14 = .ok (.aload_n 0, 1) := by decide +kernel
theorem dX5_readStep_15 : decode cX5_readStep 15 = .ok (.getfield 57, 3) := by decide +kernel
theorem dX5_readStep_18 : decode cX5_readStep 18 = .ok (.invokevirtual 79, 3) := by decide +kernel
theorem dX5_readStep_21 : decode cX5_readStep 21 = .ok (.ireturn, 1) := by decide +kernel
theorem dX5_readStep_22 : decode cX5_readStep 22 = .ok (.aload_n 0, 1) := by decide +kernel
theorem dX5_readStep_23 : decode cX5_readStep 23 = .ok (.invokevirtual 105, 3) := by decide +kernel
theorem dX5_readStep_26 : decode cX5_readStep 26 = .ok (.ifCond .ne 5, 3) := by decide +kernel
theorem dX5_readStep_29 : decode cX5_readStep 29 = .ok (.iconst 0, 1) := by decide +kernel
theorem dX5_readStep_30 : decode cX5_readStep 30 = .ok (.ireturn, 1) := by decide +kernel
theorem dX5_readStep_31 : decode cX5_readStep 31 = .ok (.aload_n 0, 1) := by decide +kernel
theorem dX5_readStep_32 : decode cX5_readStep 32 = .ok (.getfield 22, 3) := by decide +kernel
theorem dX5_readStep_35 : decode cX5_readStep 35 = .ok (.aload_n 0, 1) := by decide +kernel
theorem dX5_readStep_36 : decode cX5_readStep 36 = .ok (.getfield 60, 3) := by decide +kernel
theorem dX5_readStep_39 : decode cX5_readStep 39 = .ok (.invokevirtual 108, 3) := by decide +kernel
theorem dX5_readStep_42 : decode cX5_readStep 42 = .ok (.istore_n 2, 1) := by decide +kernel
theorem dX5_readStep_43 : decode cX5_readStep 43 = .ok (.iload_n 2, 1) := by decide +kernel
theorem dX5_readStep_44 : decode cX5_readStep 44 = .ok (.iconst (-1), 1) := by decide +kernel
theorem dX5_readStep_45 : decode cX5_readStep 45 = .ok (.if_icmp .ne 13, 3) := by decide +kernel
theorem dX5_readStep_48 : decode cX5_readStep 48 = .ok (.aload_n 0, 1) := by decide +kernel
theorem dX5_readStep_49 : decode cX5_readStep 49 = .ok (.iconst 4, 1) := by decide +kernel
theorem dX5_readStep_50 : decode cX5_readStep 50 = .ok (.aload_n 0, 1) := by decide +kernel
theorem dX5_readStep_51 : decode cX5_readStep 51 = .ok (.getfield 57, 3) := by decide +kernel
theorem dX5_readStep_54 : decode cX5_readStep 54 = .ok (.invokevirtual 79, 3) := by decide +kernel
theorem dX5_readStep_57 : decode cX5_readStep 57 = .ok (.ireturn, 1) := by decide +kernel
theorem dX5_readStep_58 : decode cX5_readStep 58 = .ok (.iload_n 1, 1) := by decide +kernel
theorem dX5_readStep_59 : decode cX5_readStep 59 = .ok (.ifCond .eq 15, 3) := by decide +kernel
theorem dX5_readStep_62 : decode cX5_readStep 62 = .ok (.iload_n 1, 1) := by decide +kernel
theorem dX5_readStep_63 : decode cX5_readStep 63 = .ok (.bipush 7, 2) := by decide +kernel
theorem dX5_readStep_65 : decode cX5_readStep 65 = .ok (.if_icmp .eq 9, 3) := by decide +kernel
theorem dX5_readStep_68 : decode cX5_readStep 68 = .ok (.iload_n 1, 1) := by decide +kernel
theorem dX5_readStep_69 : decode cX5_readStep 69 = .ok (.bipush 8, 2) := by decide +kernel
theorem dX5_readStep_71 : decode cX5_readStep 71 = .ok (.if_icmp .ne 17, 3) := by decide +kernel
theorem dX5_readStep_74 : decode cX5_readStep 74 = .ok (.aload_n 0, 1) := by decide +kernel
theorem dX5_readStep_75 : decode cX5_readStep 75 = .ok (.getfield 22, 3) := by decide +kernel
theorem dX5_readStep_78 : decode cX5_readStep 78 = .ok (.iload_n 1, 1) := by decide +kernel
theorem dX5_readStep_79 : decode cX5_readStep 79 = .ok (.iload_n 2, 1) := by decide +kernel
theorem dX5_readStep_80 : decode cX5_readStep 80 = .ok (.iconst 0, 1) := by decide +kernel
theorem dX5_readStep_81 : decode cX5_readStep 81 = .ok (.iconst 0, 1) := by decide +kernel
theorem dX5_readStep_82 : decode cX5_readStep 82 = .ok (.iconst 0, 1) := by decide +kernel
theorem dX5_readStep_83 : decode cX5_readStep 83 = .ok (.invokevirtual 138, 3) := by decide +kernel
theorem dX5_readStep_86 : decode cX5_readStep 86 = .ok (.iconst 1, 1) := by decide +kernel
theorem dX5_readStep_87 : decode cX5_readStep 87 = .ok (.ireturn, 1) := by decide +kernel
theorem dX5_readStep_88 : decode cX5_readStep 88 = .ok (.aload_n 0, 1) := by decide +kernel
theorem dX5_readStep_89 : decode cX5_readStep 89 = .ok (.invokevirtual 125, 3) := by decide +kernel
theorem dX5_readStep_92 : decode cX5_readStep 92 = .ok (.ifCond .ne 5, 3) := by decide +kernel
theorem dX5_readStep_95 : decode cX5_readStep 95 = .ok (.iconst 0, 1) := by decide +kernel
theorem dX5_readStep_96 : decode cX5_readStep 96 = .ok (.ireturn, 1) := by decide +kernel
theorem dX5_readStep_97 : decode cX5_readStep 97 = .ok (.aload_n 0, 1) := by decide +kernel
theorem dX5_readStep_98 : decode cX5_readStep 98 = .ok (.getfield 60, 3) := by decide +kernel
theorem dX5_readStep_101 : decode cX5_readStep 101 = .ok (.istore_n 3, 1) := by decide +kernel
theorem dX5_readStep_102 : decode cX5_readStep 102 = .ok (.iload_n 3, 1) := by decide +kernel
theorem dX5_readStep_103 : decode cX5_readStep 103 = .ok (.istore 4, 2) := by decide +kernel
theorem dX5_readStep_105 : decode cX5_readStep 105 = .ok (.iload_n 1, 1) := by decide +kernel
theorem dX5_readStep_106 : decode cX5_readStep 106 = .ok (.iconst 1, 1) := by decide +kernel
theorem dX5_readStep_107 : decode cX5_readStep 107 = .ok (.if_icmp .ne 34, 3) := by decide +kernel
theorem dX5_readStep_110 : decode cX5_readStep 110 = .ok (.aload_n 0, 1) := by decide +kernel
theorem dX5_readStep_111 : decode cX5_readStep 111 = .ok (.invokevirtual 125, 3) := by decide +kernel
theorem dX5_readStep_114 : decode cX5_readStep 114 = .ok (.ifCond .ne 5, 3) := by decide +kernel
theorem dX5_readStep_117 : decode cX5_readStep 117 = .ok (.iconst 0, 1) := by decide +kernel
theorem dX5_readStep_118 : decode cX5_readStep 118 = .ok (.ireturn, 1) := by decide +kernel
theorem dX5_readStep_119 : decode cX5_readStep 119 = .ok (.aload_n 0, 1) := by decide +kernel
theorem dX5_readStep_120 : decode cX5_readStep 120 = .ok (.getfield 60, 3) := by decide +kernel
theorem dX5_readStep_123 : decode cX5_readStep 123 = .ok (.istore 4, 2) := by decide +kernel
theorem dX5_readStep_125 : decode cX5_readStep 125 = .ok (.iload_n 3, 1) := by decide +kernel
theorem dX5_readStep_126 : decode cX5_readStep 126 = .ok (.iload 4, 2) := by decide +kernel
theorem dX5_readStep_128 : decode cX5_readStep 128 = .ok (.if_icmp .le 13, 3) := by decide +kernel
theorem dX5_readStep_131 : decode cX5_readStep 131 = .ok (.aload_n 0, 1) := by decide +kernel
theorem dX5_readStep_132 : decode cX5_readStep 132 = .ok (.iconst 5, 1) := by decide +kernel
theorem dX5_readStep_133 : decode cX5_readStep 133 = .ok (.aload_n 0, 1) := by decide +kernel
theorem dX5_readStep_134 : decode cX5_readStep 134 = .ok (.getfield 57, 3) := by decide +kernel
theorem dX5_readStep_137 : decode cX5_readStep 137 = .ok (.invokevirtual 79, 3) := by decide +kernel
theorem dX5_readStep_140 : decode cX5_readStep 140 = .ok (.ireturn, 1) := by decide +kernel
theorem dX5_readStep_141 : decode cX5_readStep 141 = .ok (.iload_n 1, 1) := by decide +kernel
theorem dX5_readStep_142 : decode cX5_readStep 142 = .ok (.iconst 4, 1) := by decide +kernel
theorem dX5_readStep_143 : decode cX5_readStep 143 = .ok (.if_icmp .eq 8, 3) := by decide +kernel
theorem dX5_readStep_146 : decode cX5_readStep 146 = .ok (.iload_n 1, 1) := by decide +kernel
theorem dX5_readStep_147 : decode cX5_readStep 147 = .ok (.iconst 5, 1) := by decide +kernel
theorem dX5_readStep_148 : decode cX5_readStep 148 = .ok (.if_icmp .ne 7, 3) := by decide +kernel
theorem dX5_readStep_151 : decode cX5_readStep 151 = .ok (.iconst 1, 1) := by decide +kernel
theorem dX5_readStep_152 : decode cX5_readStep 152 = .ok (.goto 4, 3) := by decide +kernel
theorem dX5_readStep_155 : decode cX5_readStep 155 = .ok (.iconst 0, 1) := by decide +kernel
theorem dX5_readStep_156 : decode cX5_readStep 156 = .ok (.istore 5, 2) := by decide +kernel
theorem dX5_readStep_158 : decode cX5_readStep 158 = .ok (.iload 5, 2) := by decide +kernel
theorem dX5_readStep_160 : decode cX5_readStep 160 = .ok (.ifCond .eq 16, 3) := by decide +kernel
theorem dX5_readStep_163 : decode cX5_readStep 163 = .ok (.aload_n 0, 1) := by decide +kernel
theorem dX5_readStep_164 : decode cX5_readStep 164 = .ok (.iconst 0, 1) := by decide +kernel
theorem dX5_readStep_165 : decode cX5_readStep 165 = .ok (.sipush 9999, 3) := by decide +kernel
theorem dX5_readStep_168 : decode cX5_readStep 168 = .ok (.invokevirtual 94, 3) := by decide +kernel
theorem dX5_readStep_171 : decode cX5_readStep 171 = .ok (.ifCond .ne 5, 3) := by decide +kernel
theorem dX5_readStep_174 : decode cX5_readStep 174 = .ok (.iconst 0, 1) := by decide +kernel
theorem dX5_readStep_175 : decode cX5_readStep 175 = .ok (.ireturn, 1) := by decide +kernel
theorem dX5_readStep_176 : decode cX5_readStep 176 = .ok (.aload_n 0, 1) := by decide +kernel
theorem dX5_readStep_177 : decode cX5_readStep 177 = .ok (.getfield 22, 3) := by decide +kernel
theorem dX5_readStep_180 : decode cX5_readStep 180 = .ok (.iload_n 1, 1) := by decide +kernel
theorem dX5_readStep_181 : decode cX5_readStep 181 = .ok (.iload_n 2, 1) := by decide +kernel
theorem dX5_readStep_182 : decode cX5_readStep 182 = .ok (.iload_n 3, 1) := by decide +kernel
theorem dX5_readStep_183 : decode cX5_readStep 183 = .ok (.iload 4, 2) := by decide +kernel
theorem dX5_readStep_185 : decode cX5_readStep 185 = .ok (.iload 5, 2) := by decide +kernel
theorem dX5_readStep_187 : decode cX5_readStep 187 = .ok (.ifCond .eq 10, 3) := by decide +kernel
theorem dX5_readStep_190 : decode cX5_readStep 190 = .ok (.aload_n 0, 1) := by decide +kernel
theorem dX5_readStep_191 : decode cX5_readStep 191 = .ok (.getfield 60, 3) := by decide +kernel
theorem dX5_readStep_194 : decode cX5_readStep 194 = .ok (.goto 4, 3) := by decide +kernel
theorem dX5_readStep_197 : decode cX5_readStep 197 = .ok (.iconst 0, 1) := by decide +kernel
theorem dX5_readStep_198 : decode cX5_readStep 198 = .ok (.invokevirtual 138, 3) := by decide +kernel
theorem dX5_readStep_201 : decode cX5_readStep 201 = .ok (.iconst 1, 1) := by decide +kernel
theorem dX5_readStep_202 : decode cX5_readStep 202 = .ok (.ireturn, 1) := by decide +kernel
theorem dX6_init_0 : decode cX6_init 0 = .ok (.aload_n 0, 1) := by decide +kernel
theorem dX6_init_1 : decode cX6_init 1 = .ok (.invokespecial 3, 3) := by decide +kernel
theorem dX6_init_4 : decode cX6_init 4 = .ok (.aload_n 0, 1) := by decide +kernel
theorem dX6_init_5 : decode cX6_init 5 = .ok (.new 9, 3) := by decide +kernel
theorem dX6_init_8 : decode cX6_init 8 = .ok (.dup, 1) := by decide +kernel
theorem dX6_init_9 : decode cX6_init 9 = .ok (.invokespecial 11, 3) := by decide +kernel
theorem dX6_init_12 : decode cX6_init 12 = .ok (.putfield 12, 3) := by decide +kernel
theorem dX6_init_15 : decode cX6_init 15 = .ok (.aload_n 0, 1) := by decide +kernel
theorem dX6_init_16 : decode cX6_init 16 = .ok (.iconst 5, 1) := by decide +kernel
theorem dX6_init_17 : decode cX6_init 17 = .ok (.newarray .int, 2) := by decide +kernel
theorem dX6_init_19 : decode cX6_init 19 = .ok (.putfield 18, 3) := by decide +kernel
theorem dX6_init_22 : decode cX6_init 22 = .ok (.aload_n 0, 1) := by decide +kernel
theorem dX6_init_23 : decode cX6_init 23 = .ok (.bipush 24, 2) := by decide +kernel
theorem dX6_init_25 : decode cX6_init 25 = .ok (.newarray .int, 2) := by decide +kernel
theorem dX6_init_27 : decode cX6_init 27 = .ok (.putfield 22, 3) := by decide +kernel
theorem dX6_init_30 : decode cX6_init 30 = .ok (.aload_n 0, 1) := by decide +kernel
theorem dX6_init_31 : decode cX6_init 31 = .ok (.bipush 24, 2) := by decide +kernel
theorem dX6_init_33 : decode cX6_init 33 = .ok (.newarray .int, 2) := by decide +kernel
theorem dX6_init_35 : decode cX6_init 35 = .ok (.putfield 25, 3) := by decide +kernel
theorem dX6_init_38 : decode cX6_init 38 = .ok (.aload_n 0, 1) := by decide +kernel
theorem dX6_init_39 : decode cX6_init 39 = .ok (.bipush 24, 2) := by decide +kernel
theorem dX6_init_41 : decode cX6_init 41 = .ok (.newarray .int, 2) := by decide +kernel
theorem dX6_init_43 : decode cX6_init 43 = .ok (.putfield 28, 3) := by decide +kernel
theorem dX6_init_46 : decode cX6_init 46 = .ok (.aload_n 0, 1) := by decide +kernel
theorem dX6_init_47 : decode cX6_init 47 = .ok (.bipush 24, 2) := by decide +kernel
theorem dX6_init_49 : decode cX6_init 49 = .ok (.newarray .int, 2) := by decide +kernel
theorem dX6_init_51 : decode cX6_init 51 = .ok (.putfield 31, 3) := by decide +kernel
theorem dX6_init_54 : decode cX6_init 54 = .ok (.aload_n 0, 1) := by decide +kernel
theorem dX6_init_55 : decode cX6_init 55 = .ok (.bipush 24, 2) := by decide +kernel
theorem dX6_init_57 : decode cX6_init 57 = .ok (.newarray .int, 2) := by decide +kernel
theorem dX6_init_59 : decode cX6_init 59 = .ok (.putfield 34, 3) := by decide +kernel
theorem dX6_init_62 : decode cX6_init 62 = .ok (.return_, 1) := by decide +kernel
theorem dX6_clear_0 : decode cX6_clear 0 = .ok (.aload_n 0, 1) := by decide +kernel
theorem dX6_clear_1 : decode cX6_clear 1 = .ok (.iconst 0, 1) := by decide +kernel
theorem dX6_clear_2 : decode cX6_clear 2 = .ok (.putfield 37, 3) := by decide +kernel
theorem dX6_clear_5 : decode cX6_clear 5 = .ok (.aload_n 0, 1) := by decide +kernel
theorem dX6_clear_6 : decode cX6_clear 6 = .ok (.iconst 0, 1) := by decide +kernel
theorem dX6_clear_7 : decode cX6_clear 7 = .ok (.putfield 41, 3) := by decide +kernel
theorem dX6_clear_10 : decode cX6_clear 10 = .ok (.aload_n 0, 1) := by decide +kernel
theorem dX6_clear_11 : decode cX6_clear 11 = .ok (.iconst 0, 1) := by decide +kernel
theorem dX6_clear_12 : decode cX6_clear 12 = .ok (.putfield 44, 3) := by decide +kernel
theorem dX6_clear_15 : decode cX6_clear 15 = .ok (.aload_n 0, 1) := by decide +kernel
theorem dX6_clear_16 : decode cX6_clear 16 = .ok (.getfield 12, 3) := by decide +kernel
theorem dX6_clear_19 : decode cX6_clear 19 = .ok (.iconst 0, 1) := by decide +kernel
theorem dX6_clear_20 : decode cX6_clear 20 = .ok (.putfield 47, 3) := by decide +kernel
theorem dX6_clear_23 : decode cX6_clear 23 = .ok (.return_, 1) := by decide +kernel
theorem dX6_handNamed_0 : decode cX6_handNamed 0 = .ok (.iconst 0, 1) := by decide +kernel
theorem dX6_handNamed_1 : decode cX6_handNamed 1 = .ok (.istore_n 2, 1) := by decide +kernel
theorem dX6_handNamed_2 : decode cX6_handNamed 2 = .ok (.iload_n 2, 1) := by decide +kernel
theorem dX6_handNamed_3 : decode cX6_handNamed 3 = .ok (.aload_n 0, 1) := by decide +kernel
theorem dX6_handNamed_4 : decode cX6_handNamed 4 = .ok (.getfield 41, 3) := by decide +kernel
theorem dX6_handNamed_7 : decode cX6_handNamed 7 = .ok (.if_icmp .ge 21, 3) := by decide +kernel
theorem dX6_handNamed_10 : decode cX6_handNamed 10 = .ok (.aload_n 0, 1) := by decide +kernel
theorem dX6_handNamed_11 : decode cX6_handNamed 11 = .ok (.getfield 18, 3) := by decide +kernel
theorem dX6_handNamed_14 : decode cX6_handNamed 14 = .ok (.iload_n 2, 1) := by decide +kernel
theorem dX6_handNamed_15 : decode cX6_handNamed 15 = .ok (.iaload, 1) := by decide +kernel
theorem dX6_handNamed_16 : decode cX6_handNamed 16 = .ok (.iload_n 1, 1) := by decide +kernel
theorem dX6_handNamed_17 : decode cX6_handNamed 17 = .ok (.if_icmp .ne 5, 3) := by decide +kernel
theorem dX6_handNamed_20 : decode cX6_handNamed 20 = .ok (.iload_n 2, 1) := by decide +kernel
theorem dX6_handNamed_21 : decode cX6_handNamed 21 = .ok (.ireturn, 1) := by decide +kernel
theorem dX6_handNamed_22 : decode cX6_handNamed 22 = .ok (.iinc 2 1, 3) := by decide +kernel
theorem dX6_handNamed_25 : decode cX6_handNamed 25 = .ok (.goto (-23), 3) := by decide +kernel
theorem dX6_handNamed_28 : decode cX6_handNamed 28 = .ok (.iconst (-1), 1) := by decide +kernel
theorem dX6_handNamed_29 : decode cX6_handNamed 29 = .ok (.ireturn, 1) := by decide +kernel
theorem dX6_tellsKey_0 : decode cX6_tellsKey 0 = .ok (.aload_n 0, 1) := by decide +kernel
theorem dX6_tellsKey_1 : decode cX6_tellsKey 1 = .ok (.getfield 12, 3) := by decide +kernel
theorem dX6_tellsKey_4 : decode cX6_tellsKey 4 = .ok (.aload_n 0, 1) := by decide +kernel
theorem dX6_tellsKey_5 : decode cX6_tellsKey 5 = .ok (.getfield 12, 3) := by decide +kernel
theorem dX6_tellsKey_8 : decode cX6_tellsKey 8 = .ok (.iload_n 1, 1) := by decide +kernel
theorem dX6_tellsKey_9 : decode cX6_tellsKey 9 = .ok (.invokevirtual 50, 3) := by decide +kernel
theorem dX6_tellsKey_12 : decode cX6_tellsKey 12 = .ok (.iload_n 1, 1) := by decide +kernel
theorem dX6_tellsKey_13 : decode cX6_tellsKey 13 = .ok (.invokevirtual 54, 3) := by decide +kernel
theorem dX6_tellsKey_16 : decode cX6_tellsKey 16 = .ok (.ireturn, 1) := by decide +kernel
theorem dX6_addHand_0 : decode cX6_addHand 0 = .ok (.aload_n 0, 1) := by decide +kernel
theorem dX6_addHand_1 : decode cX6_addHand 1 = .ok (.getfield 41, 3) := by decide +kernel
theorem dX6_addHand_4 : decode cX6_addHand 4 = .ok (.iconst 5, 1) := by decide +kernel
theorem dX6_addHand_5 : decode cX6_addHand 5 = .ok (.if_icmp .ge 23, 3) := by decide +kernel
theorem dX6_addHand_8 : decode cX6_addHand 8 = .ok (.aload_n 0, 1) := by decide +kernel
theorem dX6_addHand_9 : decode cX6_addHand 9 = .ok (.getfield 18, 3) := by decide +kernel
theorem dX6_addHand_12 : decode cX6_addHand 12 = .ok (.aload_n 0, 1) := by decide +kernel
theorem dX6_addHand_13 : decode cX6_addHand 13 = .ok (.getfield 41, 3) := by decide +kernel
theorem dX6_addHand_16 : decode cX6_addHand 16 = .ok (.iload_n 1, 1) := by decide +kernel
theorem dX6_addHand_17 : decode cX6_addHand 17 = .ok (.iastore, 1) := by decide +kernel
theorem dX6_addHand_18 : decode cX6_addHand 18 = .ok (.aload_n 0, 1) := by decide +kernel
theorem dX6_addHand_19 : decode cX6_addHand 19 = .ok (.dup, 1) := by decide +kernel
theorem dX6_addHand_20 : decode cX6_addHand 20 = .ok (.getfield 41, 3) := by decide +kernel
theorem dX6_addHand_23 : decode cX6_addHand 23 = .ok (.iconst 1, 1) := by decide +kernel
theorem dX6_addHand_24 : decode cX6_addHand 24 = .ok (.iadd, 1) := by decide +kernel
theorem dX6_addHand_25 : decode cX6_addHand 25 = .ok (.putfield 41, 3) := by decide +kernel
theorem dX6_addHand_28 : decode cX6_addHand 28 = .ok (.return_, 1) := by decide +kernel
theorem dX6_addKey_0 : decode cX6_addKey 0 = .ok (.aload_n 0, 1) := by decide +kernel
theorem dX6_addKey_1 : decode cX6_addKey 1 = .ok (.getfield 12, 3) := by decide +kernel
theorem dX6_addKey_4 : decode cX6_addKey 4 = .ok (.aload_n 0, 1) := by decide +kernel
theorem dX6_addKey_5 : decode cX6_addKey 5 = .ok (.getfield 12, 3) := by decide +kernel
theorem dX6_addKey_8 : decode cX6_addKey 8 = .ok (.iload_n 1, 1) := by decide +kernel
theorem dX6_addKey_9 : decode cX6_addKey 9 = .ok (.invokevirtual 50, 3) := by decide +kernel
theorem dX6_addKey_12 : decode cX6_addKey 12 = .ok (.iload_n 1, 1) := by decide +kernel
theorem dX6_addKey_13 : decode cX6_addKey 13 = .ok (.iload_n 2, 1) := by decide +kernel
theorem dX6_addKey_14 : decode cX6_addKey 14 = .ok (.invokevirtual 58, 3) := by decide +kernel
theorem dX6_addKey_17 : decode cX6_addKey 17 = .ok (.return_, 1) := by decide +kernel
theorem dX6_addStep_0 : decode cX6_addStep 0 = .ok (.aload_n 0, 1) := by decide +kernel
theorem dX6_addStep_1 : decode cX6_addStep 1 = .ok (.getfield 44, 3) := by decide +kernel
theorem dX6_addStep_4 : decode cX6_addStep 4 = .ok (.bipush 24, 2) := by decide +kernel
theorem dX6_addStep_6 : decode cX6_addStep 6 = .ok (.if_icmp .ge 65, 3) := by decide +kernel
theorem dX6_addStep_9 : decode cX6_addStep 9 = .ok (.aload_n 0, 1) := by decide +kernel
theorem dX6_addStep_10 : decode cX6_addStep 10 = .ok (.getfield 22, 3) := by decide +kernel
theorem dX6_addStep_13 : decode cX6_addStep 13 = .ok (.aload_n 0, 1) := by decide +kernel
theorem dX6_addStep_14 : decode cX6_addStep 14 = .ok (.getfield 44, 3) := by decide +kernel
theorem dX6_addStep_17 : decode cX6_addStep 17 = .ok (.iload_n 1, 1) := by decide +kernel
theorem dX6_addStep_18 : decode cX6_addStep 18 = .ok (.iastore, 1) := by decide +kernel
theorem dX6_addStep_19 : decode cX6_addStep 19 = .ok (.aload_n 0, 1) := by decide +kernel
theorem dX6_addStep_20 : decode cX6_addStep 20 = .ok (.getfield 25, 3) := by decide +kernel
theorem dX6_addStep_23 : decode cX6_addStep 23 = .ok (.aload_n 0, 1) := by decide +kernel
theorem dX6_addStep_24 : decode cX6_addStep 24 = .ok (.getfield 44, 3) := by decide +kernel
theorem dX6_addStep_27 : decode cX6_addStep 27 = .ok (.iload_n 2, 1) := by decide +kernel
theorem dX6_addStep_28 : decode cX6_addStep 28 = .ok (.iastore, 1) := by decide +kernel
theorem dX6_addStep_29 : decode cX6_addStep 29 = .ok (.aload_n 0, 1) := by decide +kernel
theorem dX6_addStep_30 : decode cX6_addStep 30 = .ok (.getfield 28, 3) := by decide +kernel
theorem dX6_addStep_33 : decode cX6_addStep 33 = .ok (.aload_n 0, 1) := by decide +kernel
theorem dX6_addStep_34 : decode cX6_addStep 34 = .ok (.getfield 44, 3) := by decide +kernel
theorem dX6_addStep_37 : decode cX6_addStep 37 = .ok (.iload_n 3, 1) := by decide +kernel
theorem dX6_addStep_38 : decode cX6_addStep 38 = .ok (.iastore, 1) := by decide +kernel
theorem dX6_addStep_39 : decode cX6_addStep 39 = .ok (.aload_n 0, 1) := by decide +kernel
theorem dX6_addStep_40 : decode cX6_addStep 40 = .ok (.getfield 31, 3) := by decide +kernel
theorem dX6_addStep_43 : decode cX6_addStep 43 = .ok (.aload_n 0, 1) := by decide +kernel
theorem dX6_addStep_44 : decode cX6_addStep 44 = .ok (.getfield 44, 3) := by decide +kernel
theorem dX6_addStep_47 : decode cX6_addStep 47 = .ok (.iload 4, 2) := by decide +kernel
theorem dX6_addStep_49 : decode cX6_addStep 49 = .ok (.iastore, 1) := by decide +kernel
theorem dX6_addStep_50 : decode cX6_addStep 50 = .ok (.aload_n 0, 1) := by decide +kernel
theorem dX6_addStep_51 : decode cX6_addStep 51 = .ok (.getfield 34, 3) := by decide +kernel
theorem dX6_addStep_54 : decode cX6_addStep 54 = .ok (.aload_n 0, 1) := by decide +kernel
theorem dX6_addStep_55 : decode cX6_addStep 55 = .ok (.getfield 44, 3) := by decide +kernel
theorem dX6_addStep_58 : decode cX6_addStep 58 = .ok (.iload 5, 2) := by decide +kernel
theorem dX6_addStep_60 : decode cX6_addStep 60 = .ok (.iastore, 1) := by decide +kernel
theorem dX6_addStep_61 : decode cX6_addStep 61 = .ok (.aload_n 0, 1) := by decide +kernel
theorem dX6_addStep_62 : decode cX6_addStep 62 = .ok (.dup, 1) := by decide +kernel
theorem dX6_addStep_63 : decode cX6_addStep 63 = .ok (.getfield 44, 3) := by decide +kernel
theorem dX6_addStep_66 : decode cX6_addStep 66 = .ok (.iconst 1, 1) := by decide +kernel
theorem dX6_addStep_67 : decode cX6_addStep 67 = .ok (.iadd, 1) := by decide +kernel
theorem dX6_addStep_68 : decode cX6_addStep 68 = .ok (.putfield 44, 3) := by decide +kernel
theorem dX6_addStep_71 : decode cX6_addStep 71 = .ok (.return_, 1) := by decide +kernel
theorem dX7_init_0 : decode cX7_init 0 = .ok (.aload_n 0, 1) := by decide +kernel
theorem dX7_init_1 : decode cX7_init 1 = .ok (.invokespecial 3, 3) := by decide +kernel
theorem dX7_init_4 : decode cX7_init 4 = .ok (.aload_n 0, 1) := by decide +kernel
theorem dX7_init_5 : decode cX7_init 5 = .ok (.bipush 24, 2) := by decide +kernel
theorem dX7_init_7 : decode cX7_init 7 = .ok (.newarray .int, 2) := by decide +kernel
theorem dX7_init_9 : decode cX7_init 9 = .ok (.putfield 9, 3) := by decide +kernel
theorem dX7_init_12 : decode cX7_init 12 = .ok (.aload_n 0, 1) := by decide +kernel
theorem dX7_init_13 : decode cX7_init 13 = .ok (.bipush 24, 2) := by decide +kernel
theorem dX7_init_15 : decode cX7_init 15 = .ok (.newarray .int, 2) := by decide +kernel
theorem dX7_init_17 : decode cX7_init 17 = .ok (.putfield 15, 3) := by decide +kernel
theorem dX7_init_20 : decode cX7_init 20 = .ok (.aload_n 0, 1) := by decide +kernel
theorem dX7_init_21 : decode cX7_init 21 = .ok (.bipush 24, 2) := by decide +kernel
theorem dX7_init_23 : decode cX7_init 23 = .ok (.newarray .int, 2) := by decide +kernel
theorem dX7_init_25 : decode cX7_init 25 = .ok (.putfield 18, 3) := by decide +kernel
theorem dX7_init_28 : decode cX7_init 28 = .ok (.aload_n 0, 1) := by decide +kernel
theorem dX7_init_29 : decode cX7_init 29 = .ok (.bipush 24, 2) := by decide +kernel
theorem dX7_init_31 : decode cX7_init 31 = .ok (.newarray .int, 2) := by decide +kernel
theorem dX7_init_33 : decode cX7_init 33 = .ok (.putfield 21, 3) := by decide +kernel
theorem dX7_init_36 : decode cX7_init 36 = .ok (.aload_n 0, 1) := by decide +kernel
theorem dX7_init_37 : decode cX7_init 37 = .ok (.bipush 25, 2) := by decide +kernel
theorem dX7_init_39 : decode cX7_init 39 = .ok (.newarray .int, 2) := by decide +kernel
theorem dX7_init_41 : decode cX7_init 41 = .ok (.putfield 24, 3) := by decide +kernel
theorem dX7_init_44 : decode cX7_init 44 = .ok (.aload_n 0, 1) := by decide +kernel
theorem dX7_init_45 : decode cX7_init 45 = .ok (.bipush 24, 2) := by decide +kernel
theorem dX7_init_47 : decode cX7_init 47 = .ok (.newarray .int, 2) := by decide +kernel
theorem dX7_init_49 : decode cX7_init 49 = .ok (.putfield 27, 3) := by decide +kernel
theorem dX7_init_52 : decode cX7_init 52 = .ok (.aload_n 0, 1) := by decide +kernel
theorem dX7_init_53 : decode cX7_init 53 = .ok (.bipush 24, 2) := by decide +kernel
theorem dX7_init_55 : decode cX7_init 55 = .ok (.newarray .int, 2) := by decide +kernel
theorem dX7_init_57 : decode cX7_init 57 = .ok (.putfield 30, 3) := by decide +kernel
theorem dX7_init_60 : decode cX7_init 60 = .ok (.return_, 1) := by decide +kernel
theorem dX7_copyFrom_0 : decode cX7_copyFrom 0 = .ok (.aload_n 0, 1) := by decide +kernel
theorem dX7_copyFrom_1 : decode cX7_copyFrom 1 = .ok (.aload_n 1, 1) := by decide +kernel
theorem dX7_copyFrom_2 : decode cX7_copyFrom 2 = .ok (.getfield 33, 3) := by decide +kernel
theorem dX7_copyFrom_5 : decode cX7_copyFrom 5 = .ok (.putfield 33, 3) := by decide +kernel
theorem dX7_copyFrom_8 : decode cX7_copyFrom 8 = .ok (.aload_n 1, 1) := by decide +kernel
theorem dX7_copyFrom_9 : decode cX7_copyFrom 9 = .ok (.getfield 9, 3) := by decide +kernel
theorem dX7_copyFrom_12 : decode cX7_copyFrom 12 = .ok (.iconst 0, 1) := by decide +kernel
theorem dX7_copyFrom_13 : decode cX7_copyFrom 13 = .ok (.aload_n 0, 1) := by decide +kernel
theorem dX7_copyFrom_14 : decode cX7_copyFrom 14 = .ok (.getfield 9, 3) := by decide +kernel
theorem dX7_copyFrom_17 : decode cX7_copyFrom 17 = .ok (.iconst 0, 1) := by decide +kernel
theorem dX7_copyFrom_18 : decode cX7_copyFrom 18 = .ok (.bipush 24, 2) := by decide +kernel
theorem dX7_copyFrom_20 : decode cX7_copyFrom 20 = .ok (.invokestatic 37, 3) := by decide +kernel
theorem dX7_copyFrom_23 : decode cX7_copyFrom 23 = .ok (.aload_n 1, 1) := by decide +kernel
theorem dX7_copyFrom_24 : decode cX7_copyFrom 24 = .ok (.getfield 15, 3) := by decide +kernel
theorem dX7_copyFrom_27 : decode cX7_copyFrom 27 = .ok (.iconst 0, 1) := by decide +kernel
theorem dX7_copyFrom_28 : decode cX7_copyFrom 28 = .ok (.aload_n 0, 1) := by decide +kernel
theorem dX7_copyFrom_29 : decode cX7_copyFrom 29 = .ok (.getfield 15, 3) := by decide +kernel
theorem dX7_copyFrom_32 : decode cX7_copyFrom 32 = .ok (.iconst 0, 1) := by decide +kernel
theorem dX7_copyFrom_33 : decode cX7_copyFrom 33 = .ok (.bipush 24, 2) := by decide +kernel
theorem dX7_copyFrom_35 : decode cX7_copyFrom 35 = .ok (.invokestatic 37, 3) := by decide +kernel
theorem dX7_copyFrom_38 : decode cX7_copyFrom 38 = .ok (.aload_n 1, 1) := by decide +kernel
theorem dX7_copyFrom_39 : decode cX7_copyFrom 39 = .ok (.getfield 18, 3) := by decide +kernel
theorem dX7_copyFrom_42 : decode cX7_copyFrom 42 = .ok (.iconst 0, 1) := by decide +kernel
theorem dX7_copyFrom_43 : decode cX7_copyFrom 43 = .ok (.aload_n 0, 1) := by decide +kernel
theorem dX7_copyFrom_44 : decode cX7_copyFrom 44 = .ok (.getfield 18, 3) := by decide +kernel
theorem dX7_copyFrom_47 : decode cX7_copyFrom 47 = .ok (.iconst 0, 1) := by decide +kernel
theorem dX7_copyFrom_48 : decode cX7_copyFrom 48 = .ok (.bipush 24, 2) := by decide +kernel
theorem dX7_copyFrom_50 : decode cX7_copyFrom 50 = .ok (.invokestatic 37, 3) := by decide +kernel
theorem dX7_copyFrom_53 : decode cX7_copyFrom 53 = .ok (.aload_n 1, 1) := by decide +kernel
theorem dX7_copyFrom_54 : decode cX7_copyFrom 54 = .ok (.getfield 21, 3) := by decide +kernel
theorem dX7_copyFrom_57 : decode cX7_copyFrom 57 = .ok (.iconst 0, 1) := by decide +kernel
theorem dX7_copyFrom_58 : decode cX7_copyFrom 58 = .ok (.aload_n 0, 1) := by decide +kernel
theorem dX7_copyFrom_59 : decode cX7_copyFrom 59 = .ok (.getfield 21, 3) := by decide +kernel
theorem dX7_copyFrom_62 : decode cX7_copyFrom 62 = .ok (.iconst 0, 1) := by decide +kernel
theorem dX7_copyFrom_63 : decode cX7_copyFrom 63 = .ok (.bipush 24, 2) := by decide +kernel
theorem dX7_copyFrom_65 : decode cX7_copyFrom 65 = .ok (.invokestatic 37, 3) := by decide +kernel
theorem dX7_copyFrom_68 : decode cX7_copyFrom 68 = .ok (.aload_n 1, 1) := by decide +kernel
theorem dX7_copyFrom_69 : decode cX7_copyFrom 69 = .ok (.getfield 24, 3) := by decide +kernel
theorem dX7_copyFrom_72 : decode cX7_copyFrom 72 = .ok (.iconst 0, 1) := by decide +kernel
theorem dX7_copyFrom_73 : decode cX7_copyFrom 73 = .ok (.aload_n 0, 1) := by decide +kernel
theorem dX7_copyFrom_74 : decode cX7_copyFrom 74 = .ok (.getfield 24, 3) := by decide +kernel
theorem dX7_copyFrom_77 : decode cX7_copyFrom 77 = .ok (.iconst 0, 1) := by decide +kernel
theorem dX7_copyFrom_78 : decode cX7_copyFrom 78 = .ok (.bipush 25, 2) := by decide +kernel
theorem dX7_copyFrom_80 : decode cX7_copyFrom 80 = .ok (.invokestatic 37, 3) := by decide +kernel
theorem dX7_copyFrom_83 : decode cX7_copyFrom 83 = .ok (.aload_n 1, 1) := by decide +kernel
theorem dX7_copyFrom_84 : decode cX7_copyFrom 84 = .ok (.getfield 27, 3) := by decide +kernel
theorem dX7_copyFrom_87 : decode cX7_copyFrom 87 = .ok (.iconst 0, 1) := by decide +kernel
theorem dX7_copyFrom_88 : decode cX7_copyFrom 88 = .ok (.aload_n 0, 1) := by decide +kernel
theorem dX7_copyFrom_89 : decode cX7_copyFrom 89 = .ok (.getfield 27, 3) := by decide +kernel
theorem dX7_copyFrom_92 : decode cX7_copyFrom 92 = .ok (.iconst 0, 1) := by decide +kernel
theorem dX7_copyFrom_93 : decode cX7_copyFrom 93 = .ok (.bipush 24, 2) := by decide +kernel
theorem dX7_copyFrom_95 : decode cX7_copyFrom 95 = .ok (.invokestatic 37, 3) := by decide +kernel
theorem dX7_copyFrom_98 : decode cX7_copyFrom 98 = .ok (.aload_n 1, 1) := by decide +kernel
theorem dX7_copyFrom_99 : decode cX7_copyFrom 99 = .ok (.getfield 30, 3) := by decide +kernel
theorem dX7_copyFrom_102 : decode cX7_copyFrom 102 = .ok (.iconst 0, 1) := by decide +kernel
theorem dX7_copyFrom_103 : decode cX7_copyFrom 103 = .ok (.aload_n 0, 1) := by decide +kernel
theorem dX7_copyFrom_104 : decode cX7_copyFrom 104 = .ok (.getfield 30, 3) := by decide +kernel
theorem dX7_copyFrom_107 : decode cX7_copyFrom 107 = .ok (.iconst 0, 1) := by decide +kernel
theorem dX7_copyFrom_108 : decode cX7_copyFrom 108 = .ok (.bipush 24, 2) := by decide +kernel
theorem dX7_copyFrom_110 : decode cX7_copyFrom 110 = .ok (.invokestatic 37, 3) := by decide +kernel
theorem dX7_copyFrom_113 : decode cX7_copyFrom 113 = .ok (.return_, 1) := by decide +kernel
theorem dX7_placeFrom_0 : decode cX7_placeFrom 0 = .ok (.iconst 0, 1) := by decide +kernel
theorem dX7_placeFrom_1 : decode cX7_placeFrom 1 = .ok (.istore_n 2, 1) := by decide +kernel
theorem dX7_placeFrom_2 : decode cX7_placeFrom 2 = .ok (.iload_n 2, 1) := by decide +kernel
theorem dX7_placeFrom_3 : decode cX7_placeFrom 3 = .ok (.aload_n 0, 1) := by decide +kernel
theorem dX7_placeFrom_4 : decode cX7_placeFrom 4 = .ok (.getfield 33, 3) := by decide +kernel
theorem dX7_placeFrom_7 : decode cX7_placeFrom 7 = .ok (.if_icmp .ge 19, 3) := by decide +kernel
theorem dX7_placeFrom_10 : decode cX7_placeFrom 10 = .ok (.aload_n 0, 1) := by decide +kernel
theorem dX7_placeFrom_11 : decode cX7_placeFrom 11 = .ok (.getfield 9, 3) := by decide +kernel
theorem dX7_placeFrom_14 : decode cX7_placeFrom 14 = .ok (.iload_n 2, 1) := by decide +kernel
theorem dX7_placeFrom_15 : decode cX7_placeFrom 15 = .ok (.iaload, 1) := by decide +kernel
theorem dX7_placeFrom_16 : decode cX7_placeFrom 16 = .ok (.iload_n 1, 1) := by decide +kernel
theorem dX7_placeFrom_17 : decode cX7_placeFrom 17 = .ok (.if_icmp .ge 9, 3) := by decide +kernel
theorem dX7_placeFrom_20 : decode cX7_placeFrom 20 = .ok (.iinc 2 1, 3) := by decide +kernel
theorem dX7_placeFrom_23 : decode cX7_placeFrom 23 = .ok (.goto (-21), 3) := by decide +kernel
theorem dX7_placeFrom_26 : decode cX7_placeFrom 26 = .ok (.iload_n 2, 1) := by decide +kernel
theorem dX7_placeFrom_27 : decode cX7_placeFrom 27 = .ok (.ireturn, 1) := by decide +kernel
theorem dX7_hasAt_0 : decode cX7_hasAt 0 = .ok (.iload_n 1, 1) := by decide +kernel
theorem dX7_hasAt_1 : decode cX7_hasAt 1 = .ok (.aload_n 0, 1) := by decide +kernel
theorem dX7_hasAt_2 : decode cX7_hasAt 2 = .ok (.getfield 33, 3) := by decide +kernel
theorem dX7_hasAt_5 : decode cX7_hasAt 5 = .ok (.if_icmp .ge 17, 3) := by decide +kernel
theorem dX7_hasAt_8 : decode cX7_hasAt 8 = .ok (.aload_n 0, 1) := by decide +kernel
theorem dX7_hasAt_9 : decode cX7_hasAt 9 = .ok (.getfield 9, 3) := by decide +kernel
theorem dX7_hasAt_12 : decode cX7_hasAt 12 = .ok (.iload_n 1, 1) := by decide +kernel
theorem dX7_hasAt_13 : decode cX7_hasAt 13 = .ok (.iaload, 1) := by decide +kernel
theorem dX7_hasAt_14 : decode cX7_hasAt 14 = .ok (.iload_n 2, 1) := by decide +kernel
theorem dX7_hasAt_15 : decode cX7_hasAt 15 = .ok (.if_icmp .ne 7, 3) := by decide +kernel
theorem dX7_hasAt_18 : decode cX7_hasAt 18 = .ok (.iconst 1, 1) := by decide +kernel
theorem dX7_hasAt_19 : decode cX7_hasAt 19 = .ok (.goto 4, 3) := by decide +kernel
theorem dX7_hasAt_22 : decode cX7_hasAt 22 = .ok (.iconst 0, 1) := by decide +kernel
theorem dX7_hasAt_23 : decode cX7_hasAt 23 = .ok (.ireturn, 1) := by decide +kernel
theorem dX7_insert_0 : decode cX7_insert 0 = .ok (.aload_n 0, 1) := by decide +kernel
theorem dX7_insert_1 : decode cX7_insert 1 = .ok (.getfield 33, 3) := by decide +kernel
theorem dX7_insert_4 : decode cX7_insert 4 = .ok (.bipush 24, 2) := by decide +kernel
theorem dX7_insert_6 : decode cX7_insert 6 = .ok (.if_icmp .ge 15, 3) := by decide +kernel
theorem dX7_insert_9 : decode cX7_insert 9 = .ok (.iload_n 1, 1) := by decide +kernel
theorem dX7_insert_10 : decode cX7_insert 10 = .ok (.ifCond .lt 11, 3) := by decide +kernel
theorem dX7_insert_13 : decode cX7_insert 13 = .ok (.iload_n 1, 1) := by decide +kernel
theorem dX7_insert_14 : decode cX7_insert 14 = .ok (.aload_n 0, 1) := by decide +kernel
theorem dX7_insert_15 : decode cX7_insert 15 = .ok (.getfield 33, 3) := by decide +kernel
theorem dX7_insert_18 : decode cX7_insert 18 = .ok (.if_icmp .le 4, 3) := by decide +kernel
theorem dX7_insert_21 : decode cX7_insert 21 = .ok (.return_, 1) := by decide +kernel
theorem dX7_insert_22 : decode cX7_insert 22 = .ok (.aload_n 0, 1) := by decide +kernel
theorem dX7_insert_23 : decode cX7_insert 23 = .ok (.getfield 24, 3) := by decide +kernel
theorem dX7_insert_26 : decode cX7_insert 26 = .ok (.aload_n 0, 1) := by decide +kernel
theorem dX7_insert_27 : decode cX7_insert 27 = .ok (.getfield 33, 3) := by decide +kernel
theorem dX7_insert_30 : decode cX7_insert 30 = .ok (.iconst 1, 1) := by decide +kernel
theorem dX7_insert_31 : decode cX7_insert 31 = .ok (.iadd, 1) := by decide +kernel
theorem dX7_insert_32 : decode cX7_insert 32 = .ok (.aload_n 0, 1) := by decide +kernel
theorem dX7_insert_33 : decode cX7_insert 33 = .ok (.getfield 24, 3) := by decide +kernel
theorem dX7_insert_36 : decode cX7_insert 36 = .ok (.aload_n 0, 1) := by decide +kernel
theorem dX7_insert_37 : decode cX7_insert 37 = .ok (.getfield 33, 3) := by decide +kernel
theorem dX7_insert_40 : decode cX7_insert 40 = .ok (.iaload, 1) := by decide +kernel
theorem dX7_insert_41 : decode cX7_insert 41 = .ok (.iastore, 1) := by decide +kernel
theorem dX7_insert_42 : decode cX7_insert 42 = .ok (.aload_n 0, 1) := by decide +kernel
theorem dX7_insert_43 : decode cX7_insert 43 = .ok (.getfield 33, 3) := by decide +kernel
theorem dX7_insert_46 : decode cX7_insert 46 = .ok (.istore 4, 2) := by decide +kernel
theorem dX7_insert_48 : decode cX7_insert 48 = .ok (.iload 4, 2) := by decide +kernel
theorem dX7_insert_50 : decode cX7_insert 50 = .ok (.iload_n 1, 1) := by decide +kernel
theorem dX7_insert_51 : decode cX7_insert 51 = .ok (.if_icmp .le 121, 3) := by decide +kernel
theorem dX7_insert_54 : decode cX7_insert 54 = .ok (.aload_n 0, 1) := by decide +kernel
theorem dX7_insert_55 : decode cX7_insert 55 = .ok (.getfield 9, 3) := by decide +kernel
theorem dX7_insert_58 : decode cX7_insert 58 = .ok (.iload 4, 2) := by decide +kernel
theorem dX7_insert_60 : decode cX7_insert 60 = .ok (.aload_n 0, 1) := by decide +kernel
theorem dX7_insert_61 : decode cX7_insert 61 = .ok (.getfield 9, 3) := by decide +kernel
theorem dX7_insert_64 : decode cX7_insert 64 = .ok (.iload 4, 2) := by decide +kernel
theorem dX7_insert_66 : decode cX7_insert 66 = .ok (.iconst 1, 1) := by decide +kernel
theorem dX7_insert_67 : decode cX7_insert 67 = .ok (.isub, 1) := by decide +kernel
theorem dX7_insert_68 : decode cX7_insert 68 = .ok (.iaload, 1) := by decide +kernel
theorem dX7_insert_69 : decode cX7_insert 69 = .ok (.iastore, 1) := by decide +kernel
theorem dX7_insert_70 : decode cX7_insert 70 = .ok (.aload_n 0, 1) := by decide +kernel
theorem dX7_insert_71 : decode cX7_insert 71 = .ok (.getfield 15, 3) := by decide +kernel
theorem dX7_insert_74 : decode cX7_insert 74 = .ok (.iload 4, 2) := by decide +kernel
theorem dX7_insert_76 : decode cX7_insert 76 = .ok (.aload_n 0, 1) := by decide +kernel
theorem dX7_insert_77 : decode cX7_insert 77 = .ok (.getfield 15, 3) := by decide +kernel
theorem dX7_insert_80 : decode cX7_insert 80 = .ok (.iload 4, 2) := by decide +kernel
theorem dX7_insert_82 : decode cX7_insert 82 = .ok (.iconst 1, 1) := by decide +kernel
theorem dX7_insert_83 : decode cX7_insert 83 = .ok (.isub, 1) := by decide +kernel
theorem dX7_insert_84 : decode cX7_insert 84 = .ok (.iaload, 1) := by decide +kernel
theorem dX7_insert_85 : decode cX7_insert 85 = .ok (.iastore, 1) := by decide +kernel
theorem dX7_insert_86 : decode cX7_insert 86 = .ok (.aload_n 0, 1) := by decide +kernel
theorem dX7_insert_87 : decode cX7_insert 87 = .ok (.getfield 18, 3) := by decide +kernel
theorem dX7_insert_90 : decode cX7_insert 90 = .ok (.iload 4, 2) := by decide +kernel
theorem dX7_insert_92 : decode cX7_insert 92 = .ok (.aload_n 0, 1) := by decide +kernel
theorem dX7_insert_93 : decode cX7_insert 93 = .ok (.getfield 18, 3) := by decide +kernel
theorem dX7_insert_96 : decode cX7_insert 96 = .ok (.iload 4, 2) := by decide +kernel
theorem dX7_insert_98 : decode cX7_insert 98 = .ok (.iconst 1, 1) := by decide +kernel
theorem dX7_insert_99 : decode cX7_insert 99 = .ok (.isub, 1) := by decide +kernel
theorem dX7_insert_100 : decode cX7_insert 100 = .ok (.iaload, 1) := by decide +kernel
theorem dX7_insert_101 : decode cX7_insert 101 = .ok (.iastore, 1) := by decide +kernel
theorem dX7_insert_102 : decode cX7_insert 102 = .ok (.aload_n 0, 1) := by decide +kernel
theorem dX7_insert_103 : decode cX7_insert 103 = .ok (.getfield 21, 3) := by decide +kernel
theorem dX7_insert_106 : decode cX7_insert 106 = .ok (.iload 4, 2) := by decide +kernel
theorem dX7_insert_108 : decode cX7_insert 108 = .ok (.aload_n 0, 1) := by decide +kernel
theorem dX7_insert_109 : decode cX7_insert 109 = .ok (.getfield 21, 3) := by decide +kernel
theorem dX7_insert_112 : decode cX7_insert 112 = .ok (.iload 4, 2) := by decide +kernel
theorem dX7_insert_114 : decode cX7_insert 114 = .ok (.iconst 1, 1) := by decide +kernel
theorem dX7_insert_115 : decode cX7_insert 115 = .ok (.isub, 1) := by decide +kernel
theorem dX7_insert_116 : decode cX7_insert 116 = .ok (.iaload, 1) := by decide +kernel
theorem dX7_insert_117 : decode cX7_insert 117 = .ok (.iastore, 1) := by decide +kernel
theorem dX7_insert_118 : decode cX7_insert 118 = .ok (.aload_n 0, 1) := by decide +kernel
theorem dX7_insert_119 : decode cX7_insert 119 = .ok (.getfield 24, 3) := by decide +kernel
theorem dX7_insert_122 : decode cX7_insert 122 = .ok (.iload 4, 2) := by decide +kernel
theorem dX7_insert_124 : decode cX7_insert 124 = .ok (.aload_n 0, 1) := by decide +kernel
theorem dX7_insert_125 : decode cX7_insert 125 = .ok (.getfield 24, 3) := by decide +kernel
theorem dX7_insert_128 : decode cX7_insert 128 = .ok (.iload 4, 2) := by decide +kernel
theorem dX7_insert_130 : decode cX7_insert 130 = .ok (.iconst 1, 1) := by decide +kernel
theorem dX7_insert_131 : decode cX7_insert 131 = .ok (.isub, 1) := by decide +kernel
theorem dX7_insert_132 : decode cX7_insert 132 = .ok (.iaload, 1) := by decide +kernel
theorem dX7_insert_133 : decode cX7_insert 133 = .ok (.iastore, 1) := by decide +kernel
theorem dX7_insert_134 : decode cX7_insert 134 = .ok (.aload_n 0, 1) := by decide +kernel
theorem dX7_insert_135 : decode cX7_insert 135 = .ok (.getfield 27, 3) := by decide +kernel
theorem dX7_insert_138 : decode cX7_insert 138 = .ok (.iload 4, 2) := by decide +kernel
theorem dX7_insert_140 : decode cX7_insert 140 = .ok (.aload_n 0, 1) := by decide +kernel
theorem dX7_insert_141 : decode cX7_insert 141 = .ok (.getfield 27, 3) := by decide +kernel
theorem dX7_insert_144 : decode cX7_insert 144 = .ok (.iload 4, 2) := by decide +kernel
theorem dX7_insert_146 : decode cX7_insert 146 = .ok (.iconst 1, 1) := by decide +kernel
theorem dX7_insert_147 : decode cX7_insert 147 = .ok (.isub, 1) := by decide +kernel
theorem dX7_insert_148 : decode cX7_insert 148 = .ok (.iaload, 1) := by decide +kernel
theorem dX7_insert_149 : decode cX7_insert 149 = .ok (.iastore, 1) := by decide +kernel
theorem dX7_insert_150 : decode cX7_insert 150 = .ok (.aload_n 0, 1) := by decide +kernel
theorem dX7_insert_151 : decode cX7_insert 151 = .ok (.getfield 30, 3) := by decide +kernel
theorem dX7_insert_154 : decode cX7_insert 154 = .ok (.iload 4, 2) := by decide +kernel
theorem dX7_insert_156 : decode cX7_insert 156 = .ok (.aload_n 0, 1) := by decide +kernel
theorem dX7_insert_157 : decode cX7_insert 157 = .ok (.getfield 30, 3) := by decide +kernel
theorem dX7_insert_160 : decode cX7_insert 160 = .ok (.iload 4, 2) := by decide +kernel
theorem dX7_insert_162 : decode cX7_insert 162 = .ok (.iconst 1, 1) := by decide +kernel
theorem dX7_insert_163 : decode cX7_insert 163 = .ok (.isub, 1) := by decide +kernel
theorem dX7_insert_164 : decode cX7_insert 164 = .ok (.iaload, 1) := by decide +kernel
theorem dX7_insert_165 : decode cX7_insert 165 = .ok (.iastore, 1) := by decide +kernel
theorem dX7_insert_166 : decode cX7_insert 166 = .ok (.iinc 4 (-1), 3) := by decide +kernel
theorem dX7_insert_169 : decode cX7_insert 169 = .ok (.goto (-121), 3) := by decide +kernel
theorem dX7_insert_172 : decode cX7_insert 172 = .ok (.aload_n 0, 1) := by decide +kernel
theorem dX7_insert_173 : decode cX7_insert 173 = .ok (.getfield 9, 3) := by decide +kernel
theorem dX7_insert_176 : decode cX7_insert 176 = .ok (.iload_n 1, 1) := by decide +kernel
theorem dX7_insert_177 : decode cX7_insert 177 = .ok (.iload_n 2, 1) := by decide +kernel
theorem dX7_insert_178 : decode cX7_insert 178 = .ok (.iastore, 1) := by decide +kernel
theorem dX7_insert_179 : decode cX7_insert 179 = .ok (.aload_n 0, 1) := by decide +kernel
theorem dX7_insert_180 : decode cX7_insert 180 = .ok (.getfield 15, 3) := by decide +kernel
theorem dX7_insert_183 : decode cX7_insert 183 = .ok (.iload_n 1, 1) := by decide +kernel
theorem dX7_insert_184 : decode cX7_insert 184 = .ok (.iload_n 3, 1) := by decide +kernel
theorem dX7_insert_185 : decode cX7_insert 185 = .ok (.iastore, 1) := by decide +kernel
theorem dX7_insert_186 : decode cX7_insert 186 = .ok (.aload_n 0, 1) := by decide +kernel
theorem dX7_insert_187 : decode cX7_insert 187 = .ok (.getfield 18, 3) := by decide +kernel
theorem dX7_insert_190 : decode cX7_insert 190 = .ok (.iload_n 1, 1) := by decide +kernel
theorem dX7_insert_191 : decode cX7_insert 191 = .ok (.bipush (-2), 2) := by decide +kernel
theorem dX7_insert_193 : decode cX7_insert 193 = .ok (.iastore, 1) := by decide +kernel
theorem dX7_insert_194 : decode cX7_insert 194 = .ok (.aload_n 0, 1) := by decide +kernel
theorem dX7_insert_195 : decode cX7_insert 195 = .ok (.getfield 21, 3) := by decide +kernel
theorem dX7_insert_198 : decode cX7_insert 198 = .ok (.iload_n 1, 1) := by decide +kernel
theorem dX7_insert_199 : decode cX7_insert 199 = .ok (.bipush (-2), 2) := by decide +kernel
theorem dX7_insert_201 : decode cX7_insert 201 = .ok (.iastore, 1) := by decide +kernel
theorem dX7_insert_202 : decode cX7_insert 202 = .ok (.aload_n 0, 1) := by decide +kernel
theorem dX7_insert_203 : decode cX7_insert 203 = .ok (.getfield 27, 3) := by decide +kernel
theorem dX7_insert_206 : decode cX7_insert 206 = .ok (.iload_n 1, 1) := by decide +kernel
theorem dX7_insert_207 : decode cX7_insert 207 = .ok (.iconst 0, 1) := by decide +kernel
theorem dX7_insert_208 : decode cX7_insert 208 = .ok (.iastore, 1) := by decide +kernel
theorem dX7_insert_209 : decode cX7_insert 209 = .ok (.aload_n 0, 1) := by decide +kernel
theorem dX7_insert_210 : decode cX7_insert 210 = .ok (.getfield 30, 3) := by decide +kernel
theorem dX7_insert_213 : decode cX7_insert 213 = .ok (.iload_n 1, 1) := by decide +kernel
theorem dX7_insert_214 : decode cX7_insert 214 = .ok (.iconst 0, 1) := by decide +kernel
theorem dX7_insert_215 : decode cX7_insert 215 = .ok (.iastore, 1) := by decide +kernel
theorem dX7_insert_216 : decode cX7_insert 216 = .ok (.aload_n 0, 1) := by decide +kernel
theorem dX7_insert_217 : decode cX7_insert 217 = .ok (.dup, 1) := by decide +kernel
theorem dX7_insert_218 : decode cX7_insert 218 = .ok (.getfield 33, 3) := by decide +kernel
theorem dX7_insert_221 : decode cX7_insert 221 = .ok (.iconst 1, 1) := by decide +kernel
theorem dX7_insert_222 : decode cX7_insert 222 = .ok (.iadd, 1) := by decide +kernel
theorem dX7_insert_223 : decode cX7_insert 223 = .ok (.putfield 33, 3) := by decide +kernel
theorem dX7_insert_226 : decode cX7_insert 226 = .ok (.return_, 1) := by decide +kernel
theorem dX7_vanish_0 : decode cX7_vanish 0 = .ok (.iload_n 1, 1) := by decide +kernel
theorem dX7_vanish_1 : decode cX7_vanish 1 = .ok (.ifCond .lt 11, 3) := by decide +kernel
theorem dX7_vanish_4 : decode cX7_vanish 4 = .ok (.iload_n 1, 1) := by decide +kernel
theorem dX7_vanish_5 : decode cX7_vanish 5 = .ok (.aload_n 0, 1) := by decide +kernel
theorem dX7_vanish_6 : decode cX7_vanish 6 = .ok (.getfield 33, 3) := by decide +kernel
theorem dX7_vanish_9 : decode cX7_vanish 9 = .ok (.if_icmp .lt 4, 3) := by decide +kernel
theorem dX7_vanish_12 : decode cX7_vanish 12 = .ok (.return_, 1) := by decide +kernel
theorem dX7_vanish_13 : decode cX7_vanish 13 = .ok (.aload_n 0, 1) := by decide +kernel
theorem dX7_vanish_14 : decode cX7_vanish 14 = .ok (.getfield 24, 3) := by decide +kernel
theorem dX7_vanish_17 : decode cX7_vanish 17 = .ok (.iload_n 1, 1) := by decide +kernel
theorem dX7_vanish_18 : decode cX7_vanish 18 = .ok (.iconst 1, 1) := by decide +kernel
theorem dX7_vanish_19 : decode cX7_vanish 19 = .ok (.iadd, 1) := by decide +kernel
theorem dX7_vanish_20 : decode cX7_vanish 20 = .ok (.dup2, 1) := by decide +kernel
theorem dX7_vanish_21 : decode cX7_vanish 21 = .ok (.iaload, 1) := by decide +kernel
theorem dX7_vanish_22 : decode cX7_vanish 22 = .ok (.aload_n 0, 1) := by decide +kernel
theorem dX7_vanish_23 : decode cX7_vanish 23 = .ok (.getfield 24, 3) := by decide +kernel
theorem dX7_vanish_26 : decode cX7_vanish 26 = .ok (.iload_n 1, 1) := by decide +kernel
theorem dX7_vanish_27 : decode cX7_vanish 27 = .ok (.iaload, 1) := by decide +kernel
theorem dX7_vanish_28 : decode cX7_vanish 28 = .ok (.aload_n 0, 1) := by decide +kernel
theorem dX7_vanish_29 : decode cX7_vanish 29 = .ok (.getfield 27, 3) := by decide +kernel
theorem dX7_vanish_32 : decode cX7_vanish 32 = .ok (.iload_n 1, 1) := by decide +kernel
theorem dX7_vanish_33 : decode cX7_vanish 33 = .ok (.iaload, 1) := by decide +kernel
theorem dX7_vanish_34 : decode cX7_vanish 34 = .ok (.ior, 1) := by decide +kernel
theorem dX7_vanish_35 : decode cX7_vanish 35 = .ok (.iconst 1, 1) := by decide +kernel
theorem dX7_vanish_36 : decode cX7_vanish 36 = .ok (.iload_n 2, 1) := by decide +kernel
theorem dX7_vanish_37 : decode cX7_vanish 37 = .ok (.ishl, 1) := by decide +kernel
theorem dX7_vanish_38 : decode cX7_vanish 38 = .ok (.iconst (-1), 1) := by decide +kernel
theorem dX7_vanish_39 : decode cX7_vanish 39 = .ok (.ixor, 1) := by decide +kernel
theorem dX7_vanish_40 : decode cX7_vanish 40 = .ok (.iand, 1) := by decide +kernel
theorem dX7_vanish_41 : decode cX7_vanish 41 = .ok (.ior, 1) := by decide +kernel
theorem dX7_vanish_42 : decode cX7_vanish 42 = .ok (.iastore, 1) := by decide +kernel
theorem dX7_vanish_43 : decode cX7_vanish 43 = .ok (.aload_n 0, 1) := by decide +kernel
theorem dX7_vanish_44 : decode cX7_vanish 44 = .ok (.dup, 1) := by decide +kernel
theorem dX7_vanish_45 : decode cX7_vanish 45 = .ok (.getfield 33, 3) := by decide +kernel
theorem dX7_vanish_48 : decode cX7_vanish 48 = .ok (.iconst 1, 1) := by decide +kernel
theorem dX7_vanish_49 : decode cX7_vanish 49 = .ok (.isub, 1) := by decide +kernel
theorem dX7_vanish_50 : decode cX7_vanish 50 = .ok (.putfield 33, 3) := by decide +kernel
theorem dX7_vanish_53 : decode cX7_vanish 53 = .ok (.iload_n 1, 1) := by decide +kernel
theorem dX7_vanish_54 : decode cX7_vanish 54 = .ok (.istore_n 3, 1) := by decide +kernel
theorem dX7_vanish_55 : decode cX7_vanish 55 = .ok (.iload_n 3, 1) := by decide +kernel
theorem dX7_vanish_56 : decode cX7_vanish 56 = .ok (.aload_n 0, 1) := by decide +kernel
theorem dX7_vanish_57 : decode cX7_vanish 57 = .ok (.getfield 33, 3) := by decide +kernel
theorem dX7_vanish_60 : decode cX7_vanish 60 = .ok (.if_icmp .ge 107, 3) := by decide +kernel
theorem dX7_vanish_63 : decode cX7_vanish 63 = .ok (.aload_n 0, 1) := by decide +kernel
theorem dX7_vanish_64 : decode cX7_vanish 64 = .ok (.getfield 9, 3) := by decide +kernel
theorem dX7_vanish_67 : decode cX7_vanish 67 = .ok (.iload_n 3, 1) := by decide +kernel
theorem dX7_vanish_68 : decode cX7_vanish 68 = .ok (.aload_n 0, 1) := by decide +kernel
theorem dX7_vanish_69 : decode cX7_vanish 69 = .ok (.getfield 9, 3) := by decide +kernel
theorem dX7_vanish_72 : decode cX7_vanish 72 = .ok (.iload_n 3, 1) := by decide +kernel
theorem dX7_vanish_73 : decode cX7_vanish 73 = .ok (.iconst 1, 1) := by decide +kernel
theorem dX7_vanish_74 : decode cX7_vanish 74 = .ok (.iadd, 1) := by decide +kernel
theorem dX7_vanish_75 : decode cX7_vanish 75 = .ok (.iaload, 1) := by decide +kernel
theorem dX7_vanish_76 : decode cX7_vanish 76 = .ok (.iastore, 1) := by decide +kernel
theorem dX7_vanish_77 : decode cX7_vanish 77 = .ok (.aload_n 0, 1) := by decide +kernel
theorem dX7_vanish_78 : decode cX7_vanish 78 = .ok (.getfield 15, 3) := by decide +kernel
theorem dX7_vanish_81 : decode cX7_vanish 81 = .ok (.iload_n 3, 1) := by decide +kernel
theorem dX7_vanish_82 : decode cX7_vanish 82 = .ok (.aload_n 0, 1) := by decide +kernel
theorem dX7_vanish_83 : decode cX7_vanish 83 = .ok (.getfield 15, 3) := by decide +kernel
theorem dX7_vanish_86 : decode cX7_vanish 86 = .ok (.iload_n 3, 1) := by decide +kernel
theorem dX7_vanish_87 : decode cX7_vanish 87 = .ok (.iconst 1, 1) := by decide +kernel
theorem dX7_vanish_88 : decode cX7_vanish 88 = .ok (.iadd, 1) := by decide +kernel
theorem dX7_vanish_89 : decode cX7_vanish 89 = .ok (.iaload, 1) := by decide +kernel
theorem dX7_vanish_90 : decode cX7_vanish 90 = .ok (.iastore, 1) := by decide +kernel
theorem dX7_vanish_91 : decode cX7_vanish 91 = .ok (.aload_n 0, 1) := by decide +kernel
theorem dX7_vanish_92 : decode cX7_vanish 92 = .ok (.getfield 18, 3) := by decide +kernel
theorem dX7_vanish_95 : decode cX7_vanish 95 = .ok (.iload_n 3, 1) := by decide +kernel
theorem dX7_vanish_96 : decode cX7_vanish 96 = .ok (.aload_n 0, 1) := by decide +kernel
theorem dX7_vanish_97 : decode cX7_vanish 97 = .ok (.getfield 18, 3) := by decide +kernel
theorem dX7_vanish_100 : decode cX7_vanish 100 = .ok (.iload_n 3, 1) := by decide +kernel
theorem dX7_vanish_101 : decode cX7_vanish 101 = .ok (.iconst 1, 1) := by decide +kernel
theorem dX7_vanish_102 : decode cX7_vanish 102 = .ok (.iadd, 1) := by decide +kernel
theorem dX7_vanish_103 : decode cX7_vanish 103 = .ok (.iaload, 1) := by decide +kernel
theorem dX7_vanish_104 : decode cX7_vanish 104 = .ok (.iastore, 1) := by decide +kernel
theorem dX7_vanish_105 : decode cX7_vanish 105 = .ok (.aload_n 0, 1) := by decide +kernel
theorem dX7_vanish_106 : decode cX7_vanish 106 = .ok (.getfield 21, 3) := by decide +kernel
theorem dX7_vanish_109 : decode cX7_vanish 109 = .ok (.iload_n 3, 1) := by decide +kernel
theorem dX7_vanish_110 : decode cX7_vanish 110 = .ok (.aload_n 0, 1) := by decide +kernel
theorem dX7_vanish_111 : decode cX7_vanish 111 = .ok (.getfield 21, 3) := by decide +kernel
theorem dX7_vanish_114 : decode cX7_vanish 114 = .ok (.iload_n 3, 1) := by decide +kernel
theorem dX7_vanish_115 : decode cX7_vanish 115 = .ok (.iconst 1, 1) := by decide +kernel
theorem dX7_vanish_116 : decode cX7_vanish 116 = .ok (.iadd, 1) := by decide +kernel
theorem dX7_vanish_117 : decode cX7_vanish 117 = .ok (.iaload, 1) := by decide +kernel
theorem dX7_vanish_118 : decode cX7_vanish 118 = .ok (.iastore, 1) := by decide +kernel
theorem dX7_vanish_119 : decode cX7_vanish 119 = .ok (.aload_n 0, 1) := by decide +kernel
theorem dX7_vanish_120 : decode cX7_vanish 120 = .ok (.getfield 24, 3) := by decide +kernel
theorem dX7_vanish_123 : decode cX7_vanish 123 = .ok (.iload_n 3, 1) := by decide +kernel
theorem dX7_vanish_124 : decode cX7_vanish 124 = .ok (.aload_n 0, 1) := by decide +kernel
theorem dX7_vanish_125 : decode cX7_vanish 125 = .ok (.getfield 24, 3) := by decide +kernel
theorem dX7_vanish_128 : decode cX7_vanish 128 = .ok (.iload_n 3, 1) := by decide +kernel
theorem dX7_vanish_129 : decode cX7_vanish 129 = .ok (.iconst 1, 1) := by decide +kernel
theorem dX7_vanish_130 : decode cX7_vanish 130 = .ok (.iadd, 1) := by decide +kernel
theorem dX7_vanish_131 : decode cX7_vanish 131 = .ok (.iaload, 1) := by decide +kernel
theorem dX7_vanish_132 : decode cX7_vanish 132 = .ok (.iastore, 1) := by decide +kernel
theorem dX7_vanish_133 : decode cX7_vanish 133 = .ok (.aload_n 0, 1) := by decide +kernel
theorem dX7_vanish_134 : decode cX7_vanish 134 = .ok (.getfield 27, 3) := by decide +kernel
theorem dX7_vanish_137 : decode cX7_vanish 137 = .ok (.iload_n 3, 1) := by decide +kernel
theorem dX7_vanish_138 : decode cX7_vanish 138 = .ok (.aload_n 0, 1) := by decide +kernel
theorem dX7_vanish_139 : decode cX7_vanish 139 = .ok (.getfield 27, 3) := by decide +kernel
theorem dX7_vanish_142 : decode cX7_vanish 142 = .ok (.iload_n 3, 1) := by decide +kernel
theorem dX7_vanish_143 : decode cX7_vanish 143 = .ok (.iconst 1, 1) := by decide +kernel
theorem dX7_vanish_144 : decode cX7_vanish 144 = .ok (.iadd, 1) := by decide +kernel
theorem dX7_vanish_145 : decode cX7_vanish 145 = .ok (.iaload, 1) := by decide +kernel
theorem dX7_vanish_146 : decode cX7_vanish 146 = .ok (.iastore, 1) := by decide +kernel
theorem dX7_vanish_147 : decode cX7_vanish 147 = .ok (.aload_n 0, 1) := by decide +kernel
theorem dX7_vanish_148 : decode cX7_vanish 148 = .ok (.getfield 30, 3) := by decide +kernel
theorem dX7_vanish_151 : decode cX7_vanish 151 = .ok (.iload_n 3, 1) := by decide +kernel
theorem dX7_vanish_152 : decode cX7_vanish 152 = .ok (.aload_n 0, 1) := by decide +kernel
theorem dX7_vanish_153 : decode cX7_vanish 153 = .ok (.getfield 30, 3) := by decide +kernel
theorem dX7_vanish_156 : decode cX7_vanish 156 = .ok (.iload_n 3, 1) := by decide +kernel
theorem dX7_vanish_157 : decode cX7_vanish 157 = .ok (.iconst 1, 1) := by decide +kernel
theorem dX7_vanish_158 : decode cX7_vanish 158 = .ok (.iadd, 1) := by decide +kernel
theorem dX7_vanish_159 : decode cX7_vanish 159 = .ok (.iaload, 1) := by decide +kernel
theorem dX7_vanish_160 : decode cX7_vanish 160 = .ok (.iastore, 1) := by decide +kernel
theorem dX7_vanish_161 : decode cX7_vanish 161 = .ok (.iinc 3 1, 3) := by decide +kernel
theorem dX7_vanish_164 : decode cX7_vanish 164 = .ok (.goto (-109), 3) := by decide +kernel
theorem dX7_vanish_167 : decode cX7_vanish 167 = .ok (.aload_n 0, 1) := by decide +kernel
theorem dX7_vanish_168 : decode cX7_vanish 168 = .ok (.getfield 24, 3) := by decide +kernel
theorem dX7_vanish_171 : decode cX7_vanish 171 = .ok (.aload_n 0, 1) := by decide +kernel
theorem dX7_vanish_172 : decode cX7_vanish 172 = .ok (.getfield 33, 3) := by decide +kernel
theorem dX7_vanish_175 : decode cX7_vanish 175 = .ok (.aload_n 0, 1) := by decide +kernel
theorem dX7_vanish_176 : decode cX7_vanish 176 = .ok (.getfield 24, 3) := by decide +kernel
theorem dX7_vanish_179 : decode cX7_vanish 179 = .ok (.aload_n 0, 1) := by decide +kernel
theorem dX7_vanish_180 : decode cX7_vanish 180 = .ok (.getfield 33, 3) := by decide +kernel
theorem dX7_vanish_183 : decode cX7_vanish 183 = .ok (.iconst 1, 1) := by decide +kernel
theorem dX7_vanish_184 : decode cX7_vanish 184 = .ok (.iadd, 1) := by decide +kernel
theorem dX7_vanish_185 : decode cX7_vanish 185 = .ok (.iaload, 1) := by decide +kernel
theorem dX7_vanish_186 : decode cX7_vanish 186 = .ok (.iastore, 1) := by decide +kernel
theorem dX7_vanish_187 : decode cX7_vanish 187 = .ok (.return_, 1) := by decide +kernel
theorem dX7_release_0 : decode cX7_release 0 = .ok (.iconst 1, 1) := by decide +kernel
theorem dX7_release_1 : decode cX7_release 1 = .ok (.iload_n 1, 1) := by decide +kernel
theorem dX7_release_2 : decode cX7_release 2 = .ok (.ishl, 1) := by decide +kernel
theorem dX7_release_3 : decode cX7_release 3 = .ok (.iconst (-1), 1) := by decide +kernel
theorem dX7_release_4 : decode cX7_release 4 = .ok (.ixor, 1) := by decide +kernel
theorem dX7_release_5 : decode cX7_release 5 = .ok (.istore_n 2, 1) := by decide +kernel
theorem dX7_release_6 : decode cX7_release 6 = .ok (.aload_n 0, 1) := by decide +kernel
theorem dX7_release_7 : decode cX7_release 7 = .ok (.getfield 24, 3) := by decide +kernel
theorem dX7_release_10 : decode cX7_release 10 = .ok (.aload_n 0, 1) := by decide +kernel
theorem dX7_release_11 : decode cX7_release 11 = .ok (.getfield 33, 3) := by decide +kernel
theorem dX7_release_14 : decode cX7_release 14 = .ok (.dup2, 1) := by decide +kernel
theorem dX7_release_15 : decode cX7_release 15 = .ok (.iaload, 1) := by decide +kernel
theorem dX7_release_16 : decode cX7_release 16 = .ok (.iload_n 2, 1) := by decide +kernel
theorem dX7_release_17 : decode cX7_release 17 = .ok (.iand, 1) := by decide +kernel
theorem dX7_release_18 : decode cX7_release 18 = .ok (.iastore, 1) := by decide +kernel
theorem dX7_release_19 : decode cX7_release 19 = .ok (.iconst 0, 1) := by decide +kernel
theorem dX7_release_20 : decode cX7_release 20 = .ok (.istore_n 3, 1) := by decide +kernel
theorem dX7_release_21 : decode cX7_release 21 = .ok (.iload_n 3, 1) := by decide +kernel
theorem dX7_release_22 : decode cX7_release 22 = .ok (.aload_n 0, 1) := by decide +kernel
theorem dX7_release_23 : decode cX7_release 23 = .ok (.getfield 33, 3) := by decide +kernel
theorem dX7_release_26 : decode cX7_release 26 = .ok (.if_icmp .ge 57, 3) := by decide +kernel
theorem dX7_release_29 : decode cX7_release 29 = .ok (.aload_n 0, 1) := by decide +kernel
theorem dX7_release_30 : decode cX7_release 30 = .ok (.getfield 24, 3) := by decide +kernel
theorem dX7_release_33 : decode cX7_release 33 = .ok (.iload_n 3, 1) := by decide +kernel
theorem dX7_release_34 : decode cX7_release 34 = .ok (.dup2, 1) := by decide +kernel
theorem dX7_release_35 : decode cX7_release 35 = .ok (.iaload, 1) := by decide +kernel
theorem dX7_release_36 : decode cX7_release 36 = .ok (.iload_n 2, 1) := by decide +kernel
theorem dX7_release_37 : decode cX7_release 37 = .ok (.iand, 1) := by decide +kernel
theorem dX7_release_38 : decode cX7_release 38 = .ok (.iastore, 1) := by decide +kernel
theorem dX7_release_39 : decode cX7_release 39 = .ok (.aload_n 0, 1) := by decide +kernel
theorem dX7_release_40 : decode cX7_release 40 = .ok (.getfield 27, 3) := by decide +kernel
theorem dX7_release_43 : decode cX7_release 43 = .ok (.iload_n 3, 1) := by decide +kernel
theorem dX7_release_44 : decode cX7_release 44 = .ok (.dup2, 1) := by decide +kernel
theorem dX7_release_45 : decode cX7_release 45 = .ok (.iaload, 1) := by decide +kernel
theorem dX7_release_46 : decode cX7_release 46 = .ok (.iload_n 2, 1) := by decide +kernel
theorem dX7_release_47 : decode cX7_release 47 = .ok (.iand, 1) := by decide +kernel
theorem dX7_release_48 : decode cX7_release 48 = .ok (.iastore, 1) := by decide +kernel
theorem dX7_release_49 : decode cX7_release 49 = .ok (.aload_n 0, 1) := by decide +kernel
theorem dX7_release_50 : decode cX7_release 50 = .ok (.getfield 30, 3) := by decide +kernel
theorem dX7_release_53 : decode cX7_release 53 = .ok (.iload_n 3, 1) := by decide +kernel
theorem dX7_release_54 : decode cX7_release 54 = .ok (.dup2, 1) := by decide +kernel
theorem dX7_release_55 : decode cX7_release 55 = .ok (.iaload, 1) := by decide +kernel
theorem dX7_release_56 : decode cX7_release 56 = .ok (.iload_n 2, 1) := by decide +kernel
theorem dX7_release_57 : decode cX7_release 57 = .ok (.iand, 1) := by decide +kernel
theorem dX7_release_58 : decode cX7_release 58 = .ok (.iastore, 1) := by decide +kernel
theorem dX7_release_59 : decode cX7_release 59 = .ok (.aload_n 0, 1) := by decide +kernel
theorem dX7_release_60 : decode cX7_release 60 = .ok (.getfield 21, 3) := by decide +kernel
theorem dX7_release_63 : decode cX7_release 63 = .ok (.iload_n 3, 1) := by decide +kernel
theorem dX7_release_64 : decode cX7_release 64 = .ok (.iaload, 1) := by decide +kernel
theorem dX7_release_65 : decode cX7_release 65 = .ok (.iload_n 1, 1) := by decide +kernel
theorem dX7_release_66 : decode cX7_release 66 = .ok (.if_icmp .ne 11, 3) := by decide +kernel
theorem dX7_release_69 : decode cX7_release 69 = .ok (.aload_n 0, 1) := by decide +kernel
theorem dX7_release_70 : decode cX7_release 70 = .ok (.getfield 21, 3) := by decide +kernel
theorem dX7_release_73 : decode cX7_release 73 = .ok (.iload_n 3, 1) := by decide +kernel
theorem dX7_release_74 : decode cX7_release 74 = .ok (.bipush (-2), 2) := by decide +kernel
theorem dX7_release_76 : decode cX7_release 76 = .ok (.iastore, 1) := by decide +kernel
theorem dX7_release_77 : decode cX7_release 77 = .ok (.iinc 3 1, 3) := by decide +kernel
theorem dX7_release_80 : decode cX7_release 80 = .ok (.goto (-59), 3) := by decide +kernel
theorem dX7_release_83 : decode cX7_release 83 = .ok (.return_, 1) := by decide +kernel
theorem dX7_blockers_0 : decode cX7_blockers 0 = .ok (.iconst 0, 1) := by decide +kernel
theorem dX7_blockers_1 : decode cX7_blockers 1 = .ok (.istore 4, 2) := by decide +kernel
theorem dX7_blockers_3 : decode cX7_blockers 3 = .ok (.iload 4, 2) := by decide +kernel
theorem dX7_blockers_5 : decode cX7_blockers 5 = .ok (.aload_n 0, 1) := by decide +kernel
theorem dX7_blockers_6 : decode cX7_blockers 6 = .ok (.getfield 33, 3) := by decide +kernel
theorem dX7_blockers_9 : decode cX7_blockers 9 = .ok (.if_icmp .ge 20, 3) := by decide +kernel
theorem dX7_blockers_12 : decode cX7_blockers 12 = .ok (.aload_n 0, 1) := by decide +kernel
theorem dX7_blockers_13 : decode cX7_blockers 13 = .ok (.getfield 9, 3) := by decide +kernel
theorem dX7_blockers_16 : decode cX7_blockers 16 = .ok (.iload 4, 2) := by decide +kernel
theorem dX7_blockers_18 : decode cX7_blockers 18 = .ok (.iaload, 1) := by decide +kernel
theorem dX7_blockers_19 : decode cX7_blockers 19 = .ok (.iload_n 3, 1) := by decide +kernel
theorem dX7_blockers_20 : decode cX7_blockers 20 = .ok (.if_icmp .ge 9, 3) := by decide +kernel
theorem dX7_blockers_23 : decode cX7_blockers 23 = .ok (.iinc 4 1, 3) := by decide +kernel
theorem dX7_blockers_26 : decode cX7_blockers 26 = .ok (.goto (-23), 3) := by decide +kernel
theorem dX7_blockers_29 : decode cX7_blockers 29 = .ok (.iconst 0, 1) := by decide +kernel
theorem dX7_blockers_30 : decode cX7_blockers 30 = .ok (.istore 5, 2) := by decide +kernel
theorem dX7_blockers_32 : decode cX7_blockers 32 = .ok (.iload_n 2, 1) := by decide +kernel
theorem dX7_blockers_33 : decode cX7_blockers 33 = .ok (.iconst 3, 1) := by decide +kernel
theorem dX7_blockers_34 : decode cX7_blockers 34 = .ok (.if_icmp .ne 15, 3) := by decide +kernel
theorem dX7_blockers_37 : decode cX7_blockers 37 = .ok (.aload_n 0, 1) := by decide +kernel
theorem dX7_blockers_38 : decode cX7_blockers 38 = .ok (.getfield 24, 3) := by decide +kernel
theorem dX7_blockers_41 : decode cX7_blockers 41 = .ok (.iload 4, 2) := by decide +kernel
theorem dX7_blockers_43 : decode cX7_blockers 43 = .ok (.iaload, 1) := by decide +kernel
theorem dX7_blockers_44 : decode cX7_blockers 44 = .ok (.istore 5, 2) := by decide +kernel
theorem dX7_blockers_46 : decode cX7_blockers 46 = .ok (.goto 47, 3) := by decide +kernel
theorem dX7_blockers_49 : decode cX7_blockers 49 = .ok (.iload 4, 2) := by decide +kernel
theorem dX7_blockers_51 : decode cX7_blockers 51 = .ok (.aload_n 0, 1) := by decide +kernel
theorem dX7_blockers_52 : decode cX7_blockers 52 = .ok (.getfield 33, 3) := by decide +kernel
theorem dX7_blockers_55 : decode cX7_blockers 55 = .ok (.if_icmp .ge 38, 3) := by decide +kernel
theorem dX7_blockers_58 : decode cX7_blockers 58 = .ok (.aload_n 0, 1) := by decide +kernel
theorem dX7_blockers_59 : decode cX7_blockers 59 = .ok (.getfield 9, 3) := by decide +kernel
theorem dX7_blockers_62 : decode cX7_blockers 62 = .ok (.iload 4, 2) := by decide +kernel
theorem dX7_blockers_64 : decode cX7_blockers 64 = .ok (.iaload, 1) := by decide +kernel
theorem dX7_blockers_65 : decode cX7_blockers 65 = .ok (.iload_n 3, 1) := by decide +kernel
theorem dX7_blockers_66 : decode cX7_blockers 66 = .ok (.if_icmp .ne 27, 3) := by decide +kernel
theorem dX7_blockers_69 : decode cX7_blockers 69 = .ok (.iload_n 2, 1) := by decide +kernel
theorem dX7_blockers_70 : decode cX7_blockers 70 = .ok (.iconst 2, 1) := by decide +kernel
theorem dX7_blockers_71 : decode cX7_blockers 71 = .ok (.if_icmp .ne 13, 3) := by decide +kernel
theorem dX7_blockers_74 : decode cX7_blockers 74 = .ok (.aload_n 0, 1) := by decide +kernel
theorem dX7_blockers_75 : decode cX7_blockers 75 = .ok (.getfield 27, 3) := by decide +kernel
theorem dX7_blockers_78 : decode cX7_blockers 78 = .ok (.iload 4, 2) := by decide +kernel
theorem dX7_blockers_80 : decode cX7_blockers 80 = .ok (.iaload, 1) := by decide +kernel
theorem dX7_blockers_81 : decode cX7_blockers 81 = .ok (.goto 10, 3) := by decide +kernel
theorem dX7_blockers_84 : decode cX7_blockers 84 = .ok (.aload_n 0, 1) := by decide +kernel
theorem dX7_blockers_85 : decode cX7_blockers 85 = .ok (.getfield 30, 3) := by decide +kernel
theorem dX7_blockers_88 : decode cX7_blockers 88 = .ok (.iload 4, 2) := by decide +kernel
theorem dX7_blockers_90 : decode cX7_blockers 90 = .ok (.iaload, 1) := by decide +kernel
theorem dX7_blockers_91 : decode cX7_blockers 91 = .ok (.istore 5, 2) := by decide +kernel
theorem dX7_blockers_93 : decode cX7_blockers 93 = .ok (.iload 5, 2) := by decide +kernel
theorem dX7_blockers_95 : decode cX7_blockers 95 = .ok (.iconst 1, 1) := by decide +kernel
theorem dX7_blockers_96 : decode cX7_blockers 96 = .ok (.iload_n 1, 1) := by decide +kernel
theorem dX7_blockers_97 : decode cX7_blockers 97 = .ok (.ishl, 1) := by decide +kernel
theorem dX7_blockers_98 : decode cX7_blockers 98 = .ok (.iconst (-1), 1) := by decide +kernel
theorem dX7_blockers_99 : decode cX7_blockers 99 = .ok (.ixor, 1) := by decide +kernel
theorem dX7_blockers_100 : decode cX7_blockers 100 = .ok (.iand, 1) := by decide +kernel
theorem dX7_blockers_101 : decode cX7_blockers 101 = .ok (.ireturn, 1) := by decide +kernel
theorem dX7_levelAt_0 : decode cX7_levelAt 0 = .ok (.iload_n 1, 1) := by decide +kernel
theorem dX7_levelAt_1 : decode cX7_levelAt 1 = .ok (.aload_n 0, 1) := by decide +kernel
theorem dX7_levelAt_2 : decode cX7_levelAt 2 = .ok (.getfield 33, 3) := by decide +kernel
theorem dX7_levelAt_5 : decode cX7_levelAt 5 = .ok (.if_icmp .ge 27, 3) := by decide +kernel
theorem dX7_levelAt_8 : decode cX7_levelAt 8 = .ok (.aload_n 0, 1) := by decide +kernel
theorem dX7_levelAt_9 : decode cX7_levelAt 9 = .ok (.getfield 27, 3) := by decide +kernel
theorem dX7_levelAt_12 : decode cX7_levelAt 12 = .ok (.iload_n 1, 1) := by decide +kernel
theorem dX7_levelAt_13 : decode cX7_levelAt 13 = .ok (.iaload, 1) := by decide +kernel
theorem dX7_levelAt_14 : decode cX7_levelAt 14 = .ok (.iload_n 2, 1) := by decide +kernel
theorem dX7_levelAt_15 : decode cX7_levelAt 15 = .ok (.ishr, 1) := by decide +kernel
theorem dX7_levelAt_16 : decode cX7_levelAt 16 = .ok (.iconst 1, 1) := by decide +kernel
theorem dX7_levelAt_17 : decode cX7_levelAt 17 = .ok (.iand, 1) := by decide +kernel
theorem dX7_levelAt_18 : decode cX7_levelAt 18 = .ok (.aload_n 0, 1) := by decide +kernel
theorem dX7_levelAt_19 : decode cX7_levelAt 19 = .ok (.getfield 30, 3) := by decide +kernel
theorem dX7_levelAt_22 : decode cX7_levelAt 22 = .ok (.iload_n 1, 1) := by decide +kernel
theorem dX7_levelAt_23 : decode cX7_levelAt 23 = .ok (.iaload, 1) := by decide +kernel
theorem dX7_levelAt_24 : decode cX7_levelAt 24 = .ok (.iload_n 2, 1) := by decide +kernel
theorem dX7_levelAt_25 : decode cX7_levelAt 25 = .ok (.ishr, 1) := by decide +kernel
theorem dX7_levelAt_26 : decode cX7_levelAt 26 = .ok (.iconst 1, 1) := by decide +kernel
theorem dX7_levelAt_27 : decode cX7_levelAt 27 = .ok (.iand, 1) := by decide +kernel
theorem dX7_levelAt_28 : decode cX7_levelAt 28 = .ok (.iadd, 1) := by decide +kernel
theorem dX7_levelAt_29 : decode cX7_levelAt 29 = .ok (.goto 4, 3) := by decide +kernel
theorem dX7_levelAt_32 : decode cX7_levelAt 32 = .ok (.iconst 0, 1) := by decide +kernel
theorem dX7_levelAt_33 : decode cX7_levelAt 33 = .ok (.ireturn, 1) := by decide +kernel
theorem dX7_locksOf_0 : decode cX7_locksOf 0 = .ok (.aload_n 0, 1) := by decide +kernel
theorem dX7_locksOf_1 : decode cX7_locksOf 1 = .ok (.getfield 24, 3) := by decide +kernel
theorem dX7_locksOf_4 : decode cX7_locksOf 4 = .ok (.aload_n 0, 1) := by decide +kernel
theorem dX7_locksOf_5 : decode cX7_locksOf 5 = .ok (.getfield 33, 3) := by decide +kernel
theorem dX7_locksOf_8 : decode cX7_locksOf 8 = .ok (.iaload, 1) := by decide +kernel
theorem dX7_locksOf_9 : decode cX7_locksOf 9 = .ok (.iload_n 1, 1) := by decide +kernel
theorem dX7_locksOf_10 : decode cX7_locksOf 10 = .ok (.ishr, 1) := by decide +kernel
theorem dX7_locksOf_11 : decode cX7_locksOf 11 = .ok (.iconst 1, 1) := by decide +kernel
theorem dX7_locksOf_12 : decode cX7_locksOf 12 = .ok (.iand, 1) := by decide +kernel
theorem dX7_locksOf_13 : decode cX7_locksOf 13 = .ok (.istore_n 2, 1) := by decide +kernel
theorem dX7_locksOf_14 : decode cX7_locksOf 14 = .ok (.iconst 0, 1) := by decide +kernel
theorem dX7_locksOf_15 : decode cX7_locksOf 15 = .ok (.istore_n 3, 1) := by decide +kernel
theorem dX7_locksOf_16 : decode cX7_locksOf 16 = .ok (.iload_n 3, 1) := by decide +kernel
theorem dX7_locksOf_17 : decode cX7_locksOf 17 = .ok (.aload_n 0, 1) := by decide +kernel
theorem dX7_locksOf_18 : decode cX7_locksOf 18 = .ok (.getfield 33, 3) := by decide +kernel
theorem dX7_locksOf_21 : decode cX7_locksOf 21 = .ok (.if_icmp .ge 33, 3) := by decide +kernel
theorem dX7_locksOf_24 : decode cX7_locksOf 24 = .ok (.iload_n 2, 1) := by decide +kernel
theorem dX7_locksOf_25 : decode cX7_locksOf 25 = .ok (.aload_n 0, 1) := by decide +kernel
theorem dX7_locksOf_26 : decode cX7_locksOf 26 = .ok (.getfield 24, 3) := by decide +kernel
theorem dX7_locksOf_29 : decode cX7_locksOf 29 = .ok (.iload_n 3, 1) := by decide +kernel
theorem dX7_locksOf_30 : decode cX7_locksOf 30 = .ok (.iaload, 1) := by decide +kernel
theorem dX7_locksOf_31 : decode cX7_locksOf 31 = .ok (.iload_n 1, 1) := by decide +kernel
theorem dX7_locksOf_32 : decode cX7_locksOf 32 = .ok (.ishr, 1) := by decide +kernel
theorem dX7_locksOf_33 : decode cX7_locksOf 33 = .ok (.iconst 1, 1) := by decide +kernel
theorem dX7_locksOf_34 : decode cX7_locksOf 34 = .ok (.iand, 1) := by decide +kernel
theorem dX7_locksOf_35 : decode cX7_locksOf 35 = .ok (.aload_n 0, 1) := by decide +kernel
theorem dX7_locksOf_36 : decode cX7_locksOf 36 = .ok (.getfield 27, 3) := by decide +kernel
theorem dX7_locksOf_39 : decode cX7_locksOf 39 = .ok (.iload_n 3, 1) := by decide +kernel
theorem dX7_locksOf_40 : decode cX7_locksOf 40 = .ok (.iaload, 1) := by decide +kernel
theorem dX7_locksOf_41 : decode cX7_locksOf 41 = .ok (.iload_n 1, 1) := by decide +kernel
theorem dX7_locksOf_42 : decode cX7_locksOf 42 = .ok (.ishr, 1) := by decide +kernel
theorem dX7_locksOf_43 : decode cX7_locksOf 43 = .ok (.iconst 1, 1) := by decide +kernel
theorem dX7_locksOf_44 : decode cX7_locksOf 44 = .ok (.iand, 1) := by decide +kernel
theorem dX7_locksOf_45 : decode cX7_locksOf 45 = .ok (.iadd, 1) := by decide +kernel
theorem dX7_locksOf_46 : decode cX7_locksOf 46 = .ok (.iadd, 1) := by decide +kernel
theorem dX7_locksOf_47 : decode cX7_locksOf 47 = .ok (.istore_n 2, 1) := by decide +kernel
theorem dX7_locksOf_48 : decode cX7_locksOf 48 = .ok (.iinc 3 1, 3) := by decide +kernel
theorem dX7_locksOf_51 : decode cX7_locksOf 51 = .ok (.goto (-35), 3) := by decide +kernel
theorem dX7_locksOf_54 : decode cX7_locksOf 54 = .ok (.iload_n 2, 1) := by decide +kernel
theorem dX7_locksOf_55 : decode cX7_locksOf 55 = .ok (.ireturn, 1) := by decide +kernel
theorem dX7_lockByNumber_0 : decode cX7_lockByNumber 0 = .ok (.iload_n 2, 1) := by decide +kernel
theorem dX7_lockByNumber_1 : decode cX7_lockByNumber 1 = .ok (.istore_n 3, 1) := by decide +kernel
theorem dX7_lockByNumber_2 : decode cX7_lockByNumber 2 = .ok (.iconst 0, 1) := by decide +kernel
theorem dX7_lockByNumber_3 : decode cX7_lockByNumber 3 = .ok (.istore 4, 2) := by decide +kernel
theorem dX7_lockByNumber_5 : decode cX7_lockByNumber 5 = .ok (.iload 4, 2) := by decide +kernel
theorem dX7_lockByNumber_7 : decode cX7_lockByNumber 7 = .ok (.aload_n 0, 1) := by decide +kernel
theorem dX7_lockByNumber_8 : decode cX7_lockByNumber 8 = .ok (.getfield 33, 3) := by decide +kernel
theorem dX7_lockByNumber_11 : decode cX7_lockByNumber 11 = .ok (.if_icmp .gt 66, 3) := by decide +kernel
theorem dX7_lockByNumber_14 : decode cX7_lockByNumber 14 = .ok (.aload_n 0, 1) := by decide +kernel
theorem dX7_lockByNumber_15 : decode cX7_lockByNumber 15 = .ok (.getfield 24, 3) := by decide +kernel
theorem dX7_lockByNumber_18 : decode cX7_lockByNumber 18 = .ok (.iload 4, 2) := by decide +kernel
theorem dX7_lockByNumber_20 : decode cX7_lockByNumber 20 = .ok (.iaload, 1) := by decide +kernel
theorem dX7_lockByNumber_21 : decode cX7_lockByNumber 21 = .ok (.iload_n 1, 1) := by decide +kernel
theorem dX7_lockByNumber_22 : decode cX7_lockByNumber 22 = .ok (.ishr, 1) := by decide +kernel
theorem dX7_lockByNumber_23 : decode cX7_lockByNumber 23 = .ok (.iconst 1, 1) := by decide +kernel
theorem dX7_lockByNumber_24 : decode cX7_lockByNumber 24 = .ok (.iand, 1) := by decide +kernel
theorem dX7_lockByNumber_25 : decode cX7_lockByNumber 25 = .ok (.ifCond .eq 16, 3) := by decide +kernel
theorem dX7_lockByNumber_28 : decode cX7_lockByNumber 28 = .ok (.iload_n 3, 1) := by decide +kernel
theorem dX7_lockByNumber_29 : decode cX7_lockByNumber 29 = .ok (.ifCond .ne 9, 3) := by decide +kernel
theorem dX7_lockByNumber_32 : decode cX7_lockByNumber 32 = .ok (.bipush 10, 2) := by decide +kernel
theorem dX7_lockByNumber_34 : decode cX7_lockByNumber 34 = .ok (.iload 4, 2) := by decide +kernel
theorem dX7_lockByNumber_36 : decode cX7_lockByNumber 36 = .ok (.imul, 1) := by decide +kernel
theorem dX7_lockByNumber_37 : decode cX7_lockByNumber 37 = .ok (.ireturn, 1) := by decide +kernel
theorem dX7_lockByNumber_38 : decode cX7_lockByNumber 38 = .ok (.iinc 3 (-1), 3) := by decide +kernel
theorem dX7_lockByNumber_41 : decode cX7_lockByNumber 41 = .ok (.aload_n 0, 1) := by decide +kernel
theorem dX7_lockByNumber_42 : decode cX7_lockByNumber 42 = .ok (.iload 4, 2) := by decide +kernel
theorem dX7_lockByNumber_44 : decode cX7_lockByNumber 44 = .ok (.iload_n 1, 1) := by decide +kernel
theorem dX7_lockByNumber_45 : decode cX7_lockByNumber 45 = .ok (.invokevirtual 43, 3) := by decide +kernel
theorem dX7_lockByNumber_48 : decode cX7_lockByNumber 48 = .ok (.istore 5, 2) := by decide +kernel
theorem dX7_lockByNumber_50 : decode cX7_lockByNumber 50 = .ok (.iload 5, 2) := by decide +kernel
theorem dX7_lockByNumber_52 : decode cX7_lockByNumber 52 = .ok (.ifCond .eq 19, 3) := by decide +kernel
theorem dX7_lockByNumber_55 : decode cX7_lockByNumber 55 = .ok (.iload_n 3, 1) := by decide +kernel
theorem dX7_lockByNumber_56 : decode cX7_lockByNumber 56 = .ok (.ifCond .ne 12, 3) := by decide +kernel
theorem dX7_lockByNumber_59 : decode cX7_lockByNumber 59 = .ok (.bipush 10, 2) := by decide +kernel
theorem dX7_lockByNumber_61 : decode cX7_lockByNumber 61 = .ok (.iload 4, 2) := by decide +kernel
theorem dX7_lockByNumber_63 : decode cX7_lockByNumber 63 = .ok (.imul, 1) := by decide +kernel
theorem dX7_lockByNumber_64 : decode cX7_lockByNumber 64 = .ok (.iload 5, 2) := by decide +kernel
theorem dX7_lockByNumber_66 : decode cX7_lockByNumber 66 = .ok (.iadd, 1) := by decide +kernel
theorem dX7_lockByNumber_67 : decode cX7_lockByNumber 67 = .ok (.ireturn, 1) := by decide +kernel
theorem dX7_lockByNumber_68 : decode cX7_lockByNumber 68 = .ok (.iinc 3 (-1), 3) := by decide +kernel
theorem dX7_lockByNumber_71 : decode cX7_lockByNumber 71 = .ok (.iinc 4 1, 3) := by decide +kernel
theorem dX7_lockByNumber_74 : decode cX7_lockByNumber 74 = .ok (.goto (-69), 3) := by decide +kernel
theorem dX7_lockByNumber_77 : decode cX7_lockByNumber 77 = .ok (.bipush (-2), 2) := by decide +kernel
theorem dX7_lockByNumber_79 : decode cX7_lockByNumber 79 = .ok (.ireturn, 1) := by decide +kernel
theorem dX7_leavesGap_0 : decode cX7_leavesGap 0 = .ok (.iload_n 2, 1) := by decide +kernel
theorem dX7_leavesGap_1 : decode cX7_leavesGap 1 = .ok (.istore 4, 2) := by decide +kernel
theorem dX7_leavesGap_3 : decode cX7_leavesGap 3 = .ok (.iload 4, 2) := by decide +kernel
theorem dX7_leavesGap_5 : decode cX7_leavesGap 5 = .ok (.aload_n 0, 1) := by decide +kernel
theorem dX7_leavesGap_6 : decode cX7_leavesGap 6 = .ok (.getfield 33, 3) := by decide +kernel
theorem dX7_leavesGap_9 : decode cX7_leavesGap 9 = .ok (.if_icmp .gt 49, 3) := by decide +kernel
theorem dX7_leavesGap_12 : decode cX7_leavesGap 12 = .ok (.aload_n 0, 1) := by decide +kernel
theorem dX7_leavesGap_13 : decode cX7_leavesGap 13 = .ok (.getfield 24, 3) := by decide +kernel
theorem dX7_leavesGap_16 : decode cX7_leavesGap 16 = .ok (.iload 4, 2) := by decide +kernel
theorem dX7_leavesGap_18 : decode cX7_leavesGap 18 = .ok (.iaload, 1) := by decide +kernel
theorem dX7_leavesGap_19 : decode cX7_leavesGap 19 = .ok (.iconst 1, 1) := by decide +kernel
theorem dX7_leavesGap_20 : decode cX7_leavesGap 20 = .ok (.iload_n 1, 1) := by decide +kernel
theorem dX7_leavesGap_21 : decode cX7_leavesGap 21 = .ok (.ishl, 1) := by decide +kernel
theorem dX7_leavesGap_22 : decode cX7_leavesGap 22 = .ok (.iconst (-1), 1) := by decide +kernel
theorem dX7_leavesGap_23 : decode cX7_leavesGap 23 = .ok (.ixor, 1) := by decide +kernel
theorem dX7_leavesGap_24 : decode cX7_leavesGap 24 = .ok (.iand, 1) := by decide +kernel
theorem dX7_leavesGap_25 : decode cX7_leavesGap 25 = .ok (.ifCond .ne 5, 3) := by decide +kernel
theorem dX7_leavesGap_28 : decode cX7_leavesGap 28 = .ok (.iconst 1, 1) := by decide +kernel
theorem dX7_leavesGap_29 : decode cX7_leavesGap 29 = .ok (.ireturn, 1) := by decide +kernel
theorem dX7_leavesGap_30 : decode cX7_leavesGap 30 = .ok (.iload 4, 2) := by decide +kernel
theorem dX7_leavesGap_32 : decode cX7_leavesGap 32 = .ok (.aload_n 0, 1) := by decide +kernel
theorem dX7_leavesGap_33 : decode cX7_leavesGap 33 = .ok (.getfield 33, 3) := by decide +kernel
theorem dX7_leavesGap_36 : decode cX7_leavesGap 36 = .ok (.if_icmp .ge 16, 3) := by decide +kernel
theorem dX7_leavesGap_39 : decode cX7_leavesGap 39 = .ok (.aload_n 0, 1) := by decide +kernel
theorem dX7_leavesGap_40 : decode cX7_leavesGap 40 = .ok (.getfield 9, 3) := by decide +kernel
theorem dX7_leavesGap_43 : decode cX7_leavesGap 43 = .ok (.iload 4, 2) := by decide +kernel
theorem dX7_leavesGap_45 : decode cX7_leavesGap 45 = .ok (.iaload, 1) := by decide +kernel
theorem dX7_leavesGap_46 : decode cX7_leavesGap 46 = .ok (.iload_n 3, 1) := by decide +kernel
theorem dX7_leavesGap_47 : decode cX7_leavesGap 47 = .ok (.if_icmp .le 5, 3) := by decide +kernel
theorem dX7_leavesGap_50 : decode cX7_leavesGap 50 = .ok (.iconst 0, 1) := by decide +kernel
theorem dX7_leavesGap_51 : decode cX7_leavesGap 51 = .ok (.ireturn, 1) := by decide +kernel
theorem dX7_leavesGap_52 : decode cX7_leavesGap 52 = .ok (.iinc 4 1, 3) := by decide +kernel
theorem dX7_leavesGap_55 : decode cX7_leavesGap 55 = .ok (.goto (-52), 3) := by decide +kernel
theorem dX7_leavesGap_58 : decode cX7_leavesGap 58 = .ok (.iconst 0, 1) := by decide +kernel
theorem dX7_leavesGap_59 : decode cX7_leavesGap 59 = .ok (.ireturn, 1) := by decide +kernel
theorem dX7_widthAt_0 : decode cX7_widthAt 0 = .ok (.iload_n 1, 1) := by decide +kernel
theorem dX7_widthAt_1 : decode cX7_widthAt 1 = .ok (.ifCond .le 17, 3) := by decide +kernel
theorem dX7_widthAt_4 : decode cX7_widthAt 4 = .ok (.aload_n 0, 1) := by decide +kernel
theorem dX7_widthAt_5 : decode cX7_widthAt 5 = .ok (.getfield 9, 3) := by decide +kernel
theorem dX7_widthAt_8 : decode cX7_widthAt 8 = .ok (.iload_n 1, 1) := by decide +kernel
theorem dX7_widthAt_9 : decode cX7_widthAt 9 = .ok (.iconst 1, 1) := by decide +kernel
theorem dX7_widthAt_10 : decode cX7_widthAt 10 = .ok (.isub, 1) := by decide +kernel
theorem dX7_widthAt_11 : decode cX7_widthAt 11 = .ok (.iaload, 1) := by decide +kernel
theorem dX7_widthAt_12 : decode cX7_widthAt 12 = .ok (.invokestatic 47, 3) := by decide +kernel
theorem dX7_widthAt_15 : decode cX7_widthAt 15 = .ok (.goto 4, 3) := by decide +kernel
theorem dX7_widthAt_18 : decode cX7_widthAt 18 = .ok (.fconst 0, 1) := by decide +kernel
theorem dX7_widthAt_19 : decode cX7_widthAt 19 = .ok (.fstore_n 2, 1) := by decide +kernel
theorem dX7_widthAt_20 : decode cX7_widthAt 20 = .ok (.aload_n 0, 1) := by decide +kernel
theorem dX7_widthAt_21 : decode cX7_widthAt 21 = .ok (.getfield 9, 3) := by decide +kernel
theorem dX7_widthAt_24 : decode cX7_widthAt 24 = .ok (.iload_n 1, 1) := by decide +kernel
theorem dX7_widthAt_25 : decode cX7_widthAt 25 = .ok (.iaload, 1) := by decide +kernel
theorem dX7_widthAt_26 : decode cX7_widthAt 26 = .ok (.invokestatic 47, 3) := by decide +kernel
theorem dX7_widthAt_29 : decode cX7_widthAt 29 = .ok (.fload_n 2, 1) := by decide +kernel
theorem dX7_widthAt_30 : decode cX7_widthAt 30 = .ok (.fsub, 1) := by decide +kernel
theorem dX7_widthAt_31 : decode cX7_widthAt 31 = .ok (.freturn, 1) := by decide +kernel
theorem dX7_middleAt_0 : decode cX7_middleAt 0 = .ok (.iload_n 1, 1) := by decide +kernel
theorem dX7_middleAt_1 : decode cX7_middleAt 1 = .ok (.ifCond .le 17, 3) := by decide +kernel
theorem dX7_middleAt_4 : decode cX7_middleAt 4 = .ok (.aload_n 0, 1) := by decide +kernel
theorem dX7_middleAt_5 : decode cX7_middleAt 5 = .ok (.getfield 9, 3) := by decide +kernel
theorem dX7_middleAt_8 : decode cX7_middleAt 8 = .ok (.iload_n 1, 1) := by decide +kernel
theorem dX7_middleAt_9 : decode cX7_middleAt 9 = .ok (.iconst 1, 1) := by decide +kernel
theorem dX7_middleAt_10 : decode cX7_middleAt 10 = .ok (.isub, 1) := by decide +kernel
theorem dX7_middleAt_11 : decode cX7_middleAt 11 = .ok (.iaload, 1) := by decide +kernel
theorem dX7_middleAt_12 : decode cX7_middleAt 12 = .ok (.invokestatic 47, 3) := by decide +kernel
theorem dX7_middleAt_15 : decode cX7_middleAt 15 = .ok (.goto 4, 3) := by decide +kernel
theorem dX7_middleAt_18 : decode cX7_middleAt 18 = .ok (.fconst 0, 1) := by decide +kernel
theorem dX7_middleAt_19 : decode cX7_middleAt 19 = .ok (.fstore_n 2, 1) := by decide +kernel
theorem dX7_middleAt_20 : decode cX7_middleAt 20 = .ok (.fload_n 2, 1) := by decide +kernel
theorem dX7_middleAt_21 : decode cX7_middleAt 21 = .ok (.aload_n 0, 1) := by decide +kernel
theorem dX7_middleAt_22 : decode cX7_middleAt 22 = .ok (.getfield 9, 3) := by decide +kernel
theorem dX7_middleAt_25 : decode cX7_middleAt 25 = .ok (.iload_n 1, 1) := by decide +kernel
theorem dX7_middleAt_26 : decode cX7_middleAt 26 = .ok (.iaload, 1) := by decide +kernel
theorem dX7_middleAt_27 : decode cX7_middleAt 27 = .ok (.invokestatic 47, 3) := by decide +kernel
theorem dX7_middleAt_30 : decode cX7_middleAt 30 = .ok (.fadd, 1) := by decide +kernel
theorem dX7_middleAt_31 : decode cX7_middleAt 31 = .ok (.fconst 2, 1) := by decide +kernel
theorem dX7_middleAt_32 : decode cX7_middleAt 32 = .ok (.fdiv, 1) := by decide +kernel
theorem dX7_middleAt_33 : decode cX7_middleAt 33 = .ok (.freturn, 1) := by decide +kernel
theorem dX7_keySum_0 : decode cX7_keySum 0 = .ok (.fconst 0, 1) := by decide +kernel
theorem dX7_keySum_1 : decode cX7_keySum 1 = .ok (.fstore_n 1, 1) := by decide +kernel
theorem dX7_keySum_2 : decode cX7_keySum 2 = .ok (.iconst 0, 1) := by decide +kernel
theorem dX7_keySum_3 : decode cX7_keySum 3 = .ok (.istore_n 2, 1) := by decide +kernel
theorem dX7_keySum_4 : decode cX7_keySum 4 = .ok (.iload_n 2, 1) := by decide +kernel
theorem dX7_keySum_5 : decode cX7_keySum 5 = .ok (.aload_n 0, 1) := by decide +kernel
theorem dX7_keySum_6 : decode cX7_keySum 6 = .ok (.getfield 33, 3) := by decide +kernel
theorem dX7_keySum_9 : decode cX7_keySum 9 = .ok (.if_icmp .ge 21, 3) := by decide +kernel
theorem dX7_keySum_12 : decode cX7_keySum 12 = .ok (.fload_n 1, 1) := by decide +kernel
theorem dX7_keySum_13 : decode cX7_keySum 13 = .ok (.aload_n 0, 1) := by decide +kernel
theorem dX7_keySum_14 : decode cX7_keySum 14 = .ok (.getfield 9, 3) := by decide +kernel
theorem dX7_keySum_17 : decode cX7_keySum 17 = .ok (.iload_n 2, 1) := by decide +kernel
theorem dX7_keySum_18 : decode cX7_keySum 18 = .ok (.iaload, 1) := by decide +kernel
theorem dX7_keySum_19 : decode cX7_keySum 19 = .ok (.invokestatic 47, 3) := by decide +kernel
theorem dX7_keySum_22 : decode cX7_keySum 22 = .ok (.fadd, 1) := by decide +kernel
theorem dX7_keySum_23 : decode cX7_keySum 23 = .ok (.fstore_n 1, 1) := by decide +kernel
theorem dX7_keySum_24 : decode cX7_keySum 24 = .ok (.iinc 2 1, 3) := by decide +kernel
theorem dX7_keySum_27 : decode cX7_keySum 27 = .ok (.goto (-23), 3) := by decide +kernel
theorem dX7_keySum_30 : decode cX7_keySum 30 = .ok (.fload_n 1, 1) := by decide +kernel
theorem dX7_keySum_31 : decode cX7_keySum 31 = .ok (.freturn, 1) := by decide +kernel
theorem dX7_valueSum_0 : decode cX7_valueSum 0 = .ok (.iconst 0, 1) := by decide +kernel
theorem dX7_valueSum_1 : decode cX7_valueSum 1 = .ok (.istore_n 1, 1) := by decide +kernel
theorem dX7_valueSum_2 : decode cX7_valueSum 2 = .ok (.iconst 0, 1) := by decide +kernel
theorem dX7_valueSum_3 : decode cX7_valueSum 3 = .ok (.istore_n 2, 1) := by decide +kernel
theorem dX7_valueSum_4 : decode cX7_valueSum 4 = .ok (.iload_n 2, 1) := by decide +kernel
theorem dX7_valueSum_5 : decode cX7_valueSum 5 = .ok (.aload_n 0, 1) := by decide +kernel
theorem dX7_valueSum_6 : decode cX7_valueSum 6 = .ok (.getfield 33, 3) := by decide +kernel
theorem dX7_valueSum_9 : decode cX7_valueSum 9 = .ok (.if_icmp .ge 18, 3) := by decide +kernel
theorem dX7_valueSum_12 : decode cX7_valueSum 12 = .ok (.iload_n 1, 1) := by decide +kernel
theorem dX7_valueSum_13 : decode cX7_valueSum 13 = .ok (.aload_n 0, 1) := by decide +kernel
theorem dX7_valueSum_14 : decode cX7_valueSum 14 = .ok (.getfield 15, 3) := by decide +kernel
theorem dX7_valueSum_17 : decode cX7_valueSum 17 = .ok (.iload_n 2, 1) := by decide +kernel
theorem dX7_valueSum_18 : decode cX7_valueSum 18 = .ok (.iaload, 1) := by decide +kernel
theorem dX7_valueSum_19 : decode cX7_valueSum 19 = .ok (.iadd, 1) := by decide +kernel
theorem dX7_valueSum_20 : decode cX7_valueSum 20 = .ok (.istore_n 1, 1) := by decide +kernel
theorem dX7_valueSum_21 : decode cX7_valueSum 21 = .ok (.iinc 2 1, 3) := by decide +kernel
theorem dX7_valueSum_24 : decode cX7_valueSum 24 = .ok (.goto (-20), 3) := by decide +kernel
theorem dX7_valueSum_27 : decode cX7_valueSum 27 = .ok (.iload_n 1, 1) := by decide +kernel
theorem dX7_valueSum_28 : decode cX7_valueSum 28 = .ok (.ireturn, 1) := by decide +kernel
theorem dX7_cutKeys_0 : decode cX7_cutKeys 0 = .ok (.iconst 0, 1) := by decide +kernel
theorem dX7_cutKeys_1 : decode cX7_cutKeys 1 = .ok (.istore_n 1, 1) := by decide +kernel
theorem dX7_cutKeys_2 : decode cX7_cutKeys 2 = .ok (.iconst 0, 1) := by decide +kernel
theorem dX7_cutKeys_3 : decode cX7_cutKeys 3 = .ok (.istore_n 2, 1) := by decide +kernel
theorem dX7_cutKeys_4 : decode cX7_cutKeys 4 = .ok (.iload_n 2, 1) := by decide +kernel
theorem dX7_cutKeys_5 : decode cX7_cutKeys 5 = .ok (.aload_n 0, 1) := by decide +kernel
