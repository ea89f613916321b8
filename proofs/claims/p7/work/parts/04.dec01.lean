theorem dX7_cutKeys_6 : decode cX7_cutKeys 6 = .ok (.getfield 33, 3) := by decide +kernel
theorem dX7_cutKeys_9 : decode cX7_cutKeys 9 = .ok (.if_icmp .ge 28, 3) := by decide +kernel
theorem dX7_cutKeys_12 : decode cX7_cutKeys 12 = .ok (.iload_n 1, 1) := by decide +kernel
theorem dX7_cutKeys_13 : decode cX7_cutKeys 13 = .ok (.aload_n 0, 1) := by decide +kernel
theorem dX7_cutKeys_14 : decode cX7_cutKeys 14 = .ok (.getfield 18, 3) := by decide +kernel
theorem dX7_cutKeys_17 : decode cX7_cutKeys 17 = .ok (.iload_n 2, 1) := by decide +kernel
theorem dX7_cutKeys_18 : decode cX7_cutKeys 18 = .ok (.iaload, 1) := by decide +kernel
theorem dX7_cutKeys_19 : decode cX7_cutKeys 19 = .ok (.bipush (-2), 2) := by decide +kernel
theorem dX7_cutKeys_21 : decode cX7_cutKeys 21 = .ok (.if_icmp .ne 7, 3) := by decide +kernel
theorem dX7_cutKeys_24 : decode cX7_cutKeys 24 = .ok (.iconst 0, 1) := by decide +kernel
theorem dX7_cutKeys_25 : decode cX7_cutKeys 25 = .ok (.goto 4, 3) := by decide +kernel
theorem dX7_cutKeys_28 : decode cX7_cutKeys 28 = .ok (.iconst 1, 1) := by decide +kernel
theorem dX7_cutKeys_29 : decode cX7_cutKeys 29 = .ok (.iadd, 1) := by decide +kernel
theorem dX7_cutKeys_30 : decode cX7_cutKeys 30 = .ok (.istore_n 1, 1) := by decide +kernel
theorem dX7_cutKeys_31 : decode cX7_cutKeys 31 = .ok (.iinc 2 1, 3) := by decide +kernel
theorem dX7_cutKeys_34 : decode cX7_cutKeys 34 = .ok (.goto (-30), 3) := by decide +kernel
theorem dX7_cutKeys_37 : decode cX7_cutKeys 37 = .ok (.iload_n 1, 1) := by decide +kernel
theorem dX7_cutKeys_38 : decode cX7_cutKeys 38 = .ok (.ireturn, 1) := by decide +kernel
theorem dX8_init_0 : decode cX8_init 0 = .ok (.aload_n 0, 1) := by decide +kernel
theorem dX8_init_1 : decode cX8_init 1 = .ok (.invokespecial 3, 3) := by decide +kernel
theorem dX8_init_4 : decode cX8_init 4 = .ok (.aload_n 0, 1) := by decide +kernel
theorem dX8_init_5 : decode cX8_init 5 = .ok (.new 9, 3) := by decide +kernel
theorem dX8_init_8 : decode cX8_init 8 = .ok (.dup, 1) := by decide +kernel
theorem dX8_init_9 : decode cX8_init 9 = .ok (.invokespecial 11, 3) := by decide +kernel
theorem dX8_init_12 : decode cX8_init 12 = .ok (.putfield 12, 3) := by decide +kernel
theorem dX8_init_15 : decode cX8_init 15 = .ok (.aload_n 0, 1) := by decide +kernel
theorem dX8_init_16 : decode cX8_init 16 = .ok (.iconst 5, 1) := by decide +kernel
theorem dX8_init_17 : decode cX8_init 17 = .ok (.newarray .int, 2) := by decide +kernel
theorem dX8_init_19 : decode cX8_init 19 = .ok (.putfield 18, 3) := by decide +kernel
theorem dX8_init_22 : decode cX8_init 22 = .ok (.aload_n 0, 1) := by decide +kernel
theorem dX8_init_23 : decode cX8_init 23 = .ok (.iconst 5, 1) := by decide +kernel
theorem dX8_init_24 : decode cX8_init 24 = .ok (.newarray .int, 2) := by decide +kernel
theorem dX8_init_26 : decode cX8_init 26 = .ok (.putfield 22, 3) := by decide +kernel
theorem dX8_init_29 : decode cX8_init 29 = .ok (.aload_n 0, 1) := by decide +kernel
theorem dX8_init_30 : decode cX8_init 30 = .ok (.new 25, 3) := by decide +kernel
theorem dX8_init_33 : decode cX8_init 33 = .ok (.dup, 1) := by decide +kernel
theorem dX8_init_34 : decode cX8_init 34 = .ok (.invokespecial 27, 3) := by decide +kernel
theorem dX8_init_37 : decode cX8_init 37 = .ok (.putfield 28, 3) := by decide +kernel
theorem dX8_init_40 : decode cX8_init 40 = .ok (.return_, 1) := by decide +kernel
theorem dX8_hindered_0 : decode cX8_hindered 0 = .ok (.aload_n 0, 1) := by decide +kernel
theorem dX8_hindered_1 : decode cX8_hindered 1 = .ok (.getfield 12, 3) := by decide +kernel
theorem dX8_hindered_4 : decode cX8_hindered 4 = .ok (.aload_n 1, 1) := by decide +kernel
theorem dX8_hindered_5 : decode cX8_hindered 5 = .ok (.invokevirtual 32, 3) := by decide +kernel
theorem dX8_hindered_8 : decode cX8_hindered 8 = .ok (.aload_n 0, 1) := by decide +kernel
theorem dX8_hindered_9 : decode cX8_hindered 9 = .ok (.getfield 12, 3) := by decide +kernel
theorem dX8_hindered_12 : decode cX8_hindered 12 = .ok (.getfield 36, 3) := by decide +kernel
theorem dX8_hindered_15 : decode cX8_hindered 15 = .ok (.iload_n 2, 1) := by decide +kernel
theorem dX8_hindered_16 : decode cX8_hindered 16 = .ok (.iconst 1, 1) := by decide +kernel
theorem dX8_hindered_17 : decode cX8_hindered 17 = .ok (.if_icmp .ne 7, 3) := by decide +kernel
theorem dX8_hindered_20 : decode cX8_hindered 20 = .ok (.iconst 1, 1) := by decide +kernel
theorem dX8_hindered_21 : decode cX8_hindered 21 = .ok (.goto 4, 3) := by decide +kernel
theorem dX8_hindered_24 : decode cX8_hindered 24 = .ok (.iconst 0, 1) := by decide +kernel
theorem dX8_hindered_25 : decode cX8_hindered 25 = .ok (.putfield 40, 3) := by decide +kernel
theorem dX8_hindered_28 : decode cX8_hindered 28 = .ok (.aload_n 0, 1) := by decide +kernel
theorem dX8_hindered_29 : decode cX8_hindered 29 = .ok (.getfield 12, 3) := by decide +kernel
theorem dX8_hindered_32 : decode cX8_hindered 32 = .ok (.getfield 36, 3) := by decide +kernel
theorem dX8_hindered_35 : decode cX8_hindered 35 = .ok (.iload_n 2, 1) := by decide +kernel
theorem dX8_hindered_36 : decode cX8_hindered 36 = .ok (.iconst 3, 1) := by decide +kernel
theorem dX8_hindered_37 : decode cX8_hindered 37 = .ok (.if_icmp .ne 7, 3) := by decide +kernel
theorem dX8_hindered_40 : decode cX8_hindered 40 = .ok (.iconst 1, 1) := by decide +kernel
theorem dX8_hindered_41 : decode cX8_hindered 41 = .ok (.goto 4, 3) := by decide +kernel
theorem dX8_hindered_44 : decode cX8_hindered 44 = .ok (.iconst 0, 1) := by decide +kernel
theorem dX8_hindered_45 : decode cX8_hindered 45 = .ok (.putfield 46, 3) := by decide +kernel
theorem dX8_hindered_48 : decode cX8_hindered 48 = .ok (.aload_n 0, 1) := by decide +kernel
theorem dX8_hindered_49 : decode cX8_hindered 49 = .ok (.getfield 12, 3) := by decide +kernel
theorem dX8_hindered_52 : decode cX8_hindered 52 = .ok (.getfield 36, 3) := by decide +kernel
theorem dX8_hindered_55 : decode cX8_hindered 55 = .ok (.iload_n 2, 1) := by decide +kernel
theorem dX8_hindered_56 : decode cX8_hindered 56 = .ok (.iconst 4, 1) := by decide +kernel
theorem dX8_hindered_57 : decode cX8_hindered 57 = .ok (.if_icmp .ne 7, 3) := by decide +kernel
theorem dX8_hindered_60 : decode cX8_hindered 60 = .ok (.iconst 1, 1) := by decide +kernel
theorem dX8_hindered_61 : decode cX8_hindered 61 = .ok (.goto 4, 3) := by decide +kernel
theorem dX8_hindered_64 : decode cX8_hindered 64 = .ok (.iconst 0, 1) := by decide +kernel
theorem dX8_hindered_65 : decode cX8_hindered 65 = .ok (.putfield 49, 3) := by decide +kernel
theorem dX8_hindered_68 : decode cX8_hindered 68 = .ok (.iconst 0, 1) := by decide +kernel
theorem dX8_hindered_69 : decode cX8_hindered 69 = .ok (.istore 4, 2) := by decide +kernel
theorem dX8_hindered_71 : decode cX8_hindered 71 = .ok (.iload 4, 2) := by decide +kernel
theorem dX8_hindered_73 : decode cX8_hindered 73 = .ok (.aload_n 1, 1) := by decide +kernel
theorem dX8_hindered_74 : decode cX8_hindered 74 = .ok (.getfield 52, 3) := by decide +kernel
theorem dX8_hindered_77 : decode cX8_hindered 77 = .ok (.if_icmp .ge 36, 3) := by decide +kernel
theorem dX8_hindered_80 : decode cX8_hindered 80 = .ok (.iload_n 2, 1) := by decide +kernel
theorem dX8_hindered_81 : decode cX8_hindered 81 = .ok (.iconst 2, 1) := by decide +kernel
theorem dX8_hindered_82 : decode cX8_hindered 82 = .ok (.if_icmp .ne 25, 3) := by decide +kernel
theorem dX8_hindered_85 : decode cX8_hindered 85 = .ok (.aload_n 1, 1) := by decide +kernel
theorem dX8_hindered_86 : decode cX8_hindered 86 = .ok (.getfield 58, 3) := by decide +kernel
theorem dX8_hindered_89 : decode cX8_hindered 89 = .ok (.iload 4, 2) := by decide +kernel
theorem dX8_hindered_91 : decode cX8_hindered 91 = .ok (.iaload, 1) := by decide +kernel
theorem dX8_hindered_92 : decode cX8_hindered 92 = .ok (.iload_n 3, 1) := by decide +kernel
theorem dX8_hindered_93 : decode cX8_hindered 93 = .ok (.if_icmp .ne 14, 3) := by decide +kernel
theorem dX8_hindered_96 : decode cX8_hindered 96 = .ok (.aload_n 0, 1) := by decide +kernel
theorem dX8_hindered_97 : decode cX8_hindered 97 = .ok (.getfield 12, 3) := by decide +kernel
theorem dX8_hindered_100 : decode cX8_hindered 100 = .ok (.getfield 61, 3) := by decide +kernel
theorem dX8_hindered_103 : decode cX8_hindered 103 = .ok (.iload 4, 2) := by decide +kernel
theorem dX8_hindered_105 : decode cX8_hindered 105 = .ok (.iconst 3, 1) := by decide +kernel
theorem dX8_hindered_106 : decode cX8_hindered 106 = .ok (.iastore, 1) := by decide +kernel
theorem dX8_hindered_107 : decode cX8_hindered 107 = .ok (.iinc 4 1, 3) := by decide +kernel
theorem dX8_hindered_110 : decode cX8_hindered 110 = .ok (.goto (-39), 3) := by decide +kernel
theorem dX8_hindered_113 : decode cX8_hindered 113 = .ok (.aload_n 0, 1) := by decide +kernel
theorem dX8_hindered_114 : decode cX8_hindered 114 = .ok (.getfield 12, 3) := by decide +kernel
theorem dX8_hindered_117 : decode cX8_hindered 117 = .ok (.aload_n 1, 1) := by decide +kernel
theorem dX8_hindered_118 : decode cX8_hindered 118 = .ok (.bipush 24, 2) := by decide +kernel
theorem dX8_hindered_120 : decode cX8_hindered 120 = .ok (.invokevirtual 64, 3) := by decide +kernel
theorem dX8_hindered_123 : decode cX8_hindered 123 = .ok (.aload_n 0, 1) := by decide +kernel
theorem dX8_hindered_124 : decode cX8_hindered 124 = .ok (.getfield 12, 3) := by decide +kernel
theorem dX8_hindered_127 : decode cX8_hindered 127 = .ok (.aload_n 1, 1) := by decide +kernel
theorem dX8_hindered_128 : decode cX8_hindered 128 = .ok (.invokevirtual 68, 3) := by decide +kernel
theorem dX8_hindered_131 : decode cX8_hindered 131 = .ok (.ireturn, 1) := by decide +kernel
theorem dX8_hinderedSwapped_0 : decode cX8_hinderedSwapped 0 = .ok (.aload_n 0, 1) := by decide +kernel
theorem dX8_hinderedSwapped_1 : decode cX8_hinderedSwapped 1 = .ok (.getfield 12, 3) := by decide +kernel
theorem dX8_hinderedSwapped_4 : decode cX8_hinderedSwapped 4 = .ok (.aload_n 1, 1) := by decide +kernel
theorem dX8_hinderedSwapped_5 : decode cX8_hinderedSwapped 5 = .ok (.invokevirtual 32, 3) := by decide +kernel
theorem dX8_hinderedSwapped_8 : decode cX8_hinderedSwapped 8 = .ok (.aload_n 0, 1) := by decide +kernel
theorem dX8_hinderedSwapped_9 : decode cX8_hinderedSwapped 9 = .ok (.getfield 12, 3) := by decide +kernel
theorem dX8_hinderedSwapped_12 : decode cX8_hinderedSwapped 12 = .ok (.iload_n 2, 1) := by decide +kernel
theorem dX8_hinderedSwapped_13 : decode cX8_hinderedSwapped 13 = .ok (.putfield 72, 3) := by decide +kernel
theorem dX8_hinderedSwapped_16 : decode cX8_hinderedSwapped 16 = .ok (.aload_n 0, 1) := by decide +kernel
theorem dX8_hinderedSwapped_17 : decode cX8_hinderedSwapped 17 = .ok (.getfield 12, 3) := by decide +kernel
theorem dX8_hinderedSwapped_20 : decode cX8_hinderedSwapped 20 = .ok (.aload_n 1, 1) := by decide +kernel
theorem dX8_hinderedSwapped_21 : decode cX8_hinderedSwapped 21 = .ok (.bipush 24, 2) := by decide +kernel
theorem dX8_hinderedSwapped_23 : decode cX8_hinderedSwapped 23 = .ok (.invokevirtual 64, 3) := by decide +kernel
theorem dX8_hinderedSwapped_26 : decode cX8_hinderedSwapped 26 = .ok (.aload_n 0, 1) := by decide +kernel
theorem dX8_hinderedSwapped_27 : decode cX8_hinderedSwapped 27 = .ok (.getfield 12, 3) := by decide +kernel
theorem dX8_hinderedSwapped_30 : decode cX8_hinderedSwapped 30 = .ok (.aload_n 1, 1) := by decide +kernel
theorem dX8_hinderedSwapped_31 : decode cX8_hinderedSwapped 31 = .ok (.invokevirtual 68, 3) := by decide +kernel
theorem dX8_hinderedSwapped_34 : decode cX8_hinderedSwapped 34 = .ok (.ireturn, 1) := by decide +kernel
theorem dX8_firstCulprit_0 : decode cX8_firstCulprit 0 = .ok (.aload_n 0, 1) := by decide +kernel
theorem dX8_firstCulprit_1 : decode cX8_firstCulprit 1 = .ok (.getfield 12, 3) := by decide +kernel
theorem dX8_firstCulprit_4 : decode cX8_firstCulprit 4 = .ok (.aload_n 1, 1) := by decide +kernel
theorem dX8_firstCulprit_5 : decode cX8_firstCulprit 5 = .ok (.invokevirtual 32, 3) := by decide +kernel
theorem dX8_firstCulprit_8 : decode cX8_firstCulprit 8 = .ok (.aload_n 0, 1) := by decide +kernel
theorem dX8_firstCulprit_9 : decode cX8_firstCulprit 9 = .ok (.getfield 12, 3) := by decide +kernel
theorem dX8_firstCulprit_12 : decode cX8_firstCulprit 12 = .ok (.aload_n 1, 1) := by decide +kernel
theorem dX8_firstCulprit_13 : decode cX8_firstCulprit 13 = .ok (.bipush 24, 2) := by decide +kernel
theorem dX8_firstCulprit_15 : decode cX8_firstCulprit 15 = .ok (.invokevirtual 64, 3) := by decide +kernel
theorem dX8_firstCulprit_18 : decode cX8_firstCulprit 18 = .ok (.aload_n 0, 1) := by decide +kernel
theorem dX8_firstCulprit_19 : decode cX8_firstCulprit 19 = .ok (.getfield 12, 3) := by decide +kernel
theorem dX8_firstCulprit_22 : decode cX8_firstCulprit 22 = .ok (.getfield 36, 3) := by decide +kernel
theorem dX8_firstCulprit_25 : decode cX8_firstCulprit 25 = .ok (.getfield 75, 3) := by decide +kernel
theorem dX8_firstCulprit_28 : decode cX8_firstCulprit 28 = .ok (.invokevirtual 79, 3) := by decide +kernel
theorem dX8_firstCulprit_31 : decode cX8_firstCulprit 31 = .ok (.ifCond .ne 6, 3) := by decide +kernel
theorem dX8_firstCulprit_34 : decode cX8_firstCulprit 34 = .ok (.bipush (-2), 2) := by decide +kernel
theorem dX8_firstCulprit_36 : decode cX8_firstCulprit 36 = .ok (.ireturn, 1) := by decide +kernel
theorem dX8_firstCulprit_37 : decode cX8_firstCulprit 37 = .ok (.iconst 0, 1) := by decide +kernel
theorem dX8_firstCulprit_38 : decode cX8_firstCulprit 38 = .ok (.istore_n 2, 1) := by decide +kernel
theorem dX8_firstCulprit_39 : decode cX8_firstCulprit 39 = .ok (.iload_n 2, 1) := by decide +kernel
theorem dX8_firstCulprit_40 : decode cX8_firstCulprit 40 = .ok (.aload_n 1, 1) := by decide +kernel
theorem dX8_firstCulprit_41 : decode cX8_firstCulprit 41 = .ok (.getfield 52, 3) := by decide +kernel
theorem dX8_firstCulprit_44 : decode cX8_firstCulprit 44 = .ok (.if_icmp .ge 55, 3) := by decide +kernel
theorem dX8_firstCulprit_47 : decode cX8_firstCulprit 47 = .ok (.aload_n 0, 1) := by decide +kernel
theorem dX8_firstCulprit_48 : decode cX8_firstCulprit 48 = .ok (.getfield 12, 3) := by decide +kernel
theorem dX8_firstCulprit_51 : decode cX8_firstCulprit 51 = .ok (.aload_n 1, 1) := by decide +kernel
theorem dX8_firstCulprit_52 : decode cX8_firstCulprit 52 = .ok (.invokevirtual 32, 3) := by decide +kernel
theorem dX8_firstCulprit_55 : decode cX8_firstCulprit 55 = .ok (.aload_n 0, 1) := by decide +kernel
theorem dX8_firstCulprit_56 : decode cX8_firstCulprit 56 = .ok (.getfield 12, 3) := by decide +kernel
theorem dX8_firstCulprit_59 : decode cX8_firstCulprit 59 = .ok (.getfield 61, 3) := by decide +kernel
theorem dX8_firstCulprit_62 : decode cX8_firstCulprit 62 = .ok (.iload_n 2, 1) := by decide +kernel
theorem dX8_firstCulprit_63 : decode cX8_firstCulprit 63 = .ok (.iconst 3, 1) := by decide +kernel
theorem dX8_firstCulprit_64 : decode cX8_firstCulprit 64 = .ok (.iastore, 1) := by decide +kernel
theorem dX8_firstCulprit_65 : decode cX8_firstCulprit 65 = .ok (.aload_n 0, 1) := by decide +kernel
theorem dX8_firstCulprit_66 : decode cX8_firstCulprit 66 = .ok (.getfield 12, 3) := by decide +kernel
theorem dX8_firstCulprit_69 : decode cX8_firstCulprit 69 = .ok (.aload_n 1, 1) := by decide +kernel
theorem dX8_firstCulprit_70 : decode cX8_firstCulprit 70 = .ok (.bipush 24, 2) := by decide +kernel
theorem dX8_firstCulprit_72 : decode cX8_firstCulprit 72 = .ok (.invokevirtual 64, 3) := by decide +kernel
theorem dX8_firstCulprit_75 : decode cX8_firstCulprit 75 = .ok (.aload_n 0, 1) := by decide +kernel
theorem dX8_firstCulprit_76 : decode cX8_firstCulprit 76 = .ok (.getfield 12, 3) := by decide +kernel
theorem dX8_firstCulprit_79 : decode cX8_firstCulprit 79 = .ok (.getfield 36, 3) := by decide +kernel
theorem dX8_firstCulprit_82 : decode cX8_firstCulprit 82 = .ok (.getfield 75, 3) := by decide +kernel
theorem dX8_firstCulprit_85 : decode cX8_firstCulprit 85 = .ok (.invokevirtual 79, 3) := by decide +kernel
theorem dX8_firstCulprit_88 : decode cX8_firstCulprit 88 = .ok (.ifCond .ne 5, 3) := by decide +kernel
theorem dX8_firstCulprit_91 : decode cX8_firstCulprit 91 = .ok (.iload_n 2, 1) := by decide +kernel
theorem dX8_firstCulprit_92 : decode cX8_firstCulprit 92 = .ok (.ireturn, 1) := by decide +kernel
theorem dX8_firstCulprit_93 : decode cX8_firstCulprit 93 = .ok (.iinc 2 1, 3) := by decide +kernel
theorem dX8_firstCulprit_96 : decode cX8_firstCulprit 96 = .ok (.goto (-57), 3) := by decide +kernel
theorem dX8_firstCulprit_99 : decode cX8_firstCulprit 99 = .ok (.bipush (-3), 2) := by decide +kernel
theorem dX8_firstCulprit_101 : decode cX8_firstCulprit 101 = .ok (.ireturn, 1) := by decide +kernel
theorem dX8_deadlyPlays_0 : decode cX8_deadlyPlays 0 = .ok (.iload_n 2, 1) := by decide +kernel
theorem dX8_deadlyPlays_1 : decode cX8_deadlyPlays 1 = .ok (.istore_n 3, 1) := by decide +kernel
theorem dX8_deadlyPlays_2 : decode cX8_deadlyPlays 2 = .ok (.iconst 0, 1) := by decide +kernel
theorem dX8_deadlyPlays_3 : decode cX8_deadlyPlays 3 = .ok (.istore 4, 2) := by decide +kernel
theorem dX8_deadlyPlays_5 : decode cX8_deadlyPlays 5 = .ok (.iconst 0, 1) := by decide +kernel
theorem dX8_deadlyPlays_6 : decode cX8_deadlyPlays 6 = .ok (.istore 5, 2) := by decide +kernel
theorem dX8_deadlyPlays_8 : decode cX8_deadlyPlays 8 = .ok (.iload 5, 2) := by decide +kernel
theorem dX8_deadlyPlays_10 : decode cX8_deadlyPlays 10 = .ok (.bipush 10, 2) := by decide +kernel
theorem dX8_deadlyPlays_12 : decode cX8_deadlyPlays 12 = .ok (.if_icmp .ge 42, 3) := by decide +kernel
theorem dX8_deadlyPlays_15 : decode cX8_deadlyPlays 15 = .ok (.aload_n 0, 1) := by decide +kernel
theorem dX8_deadlyPlays_16 : decode cX8_deadlyPlays 16 = .ok (.aload_n 1, 1) := by decide +kernel
theorem dX8_deadlyPlays_17 : decode cX8_deadlyPlays 17 = .ok (.iload_n 3, 1) := by decide +kernel
theorem dX8_deadlyPlays_18 : decode cX8_deadlyPlays 18 = .ok (.invokevirtual 85, 3) := by decide +kernel
theorem dX8_deadlyPlays_21 : decode cX8_deadlyPlays 21 = .ok (.istore_n 3, 1) := by decide +kernel
theorem dX8_deadlyPlays_22 : decode cX8_deadlyPlays 22 = .ok (.iload 4, 2) := by decide +kernel
theorem dX8_deadlyPlays_24 : decode cX8_deadlyPlays 24 = .ok (.aload_n 0, 1) := by decide +kernel
theorem dX8_deadlyPlays_25 : decode cX8_deadlyPlays 25 = .ok (.getfield 12, 3) := by decide +kernel
theorem dX8_deadlyPlays_28 : decode cX8_deadlyPlays 28 = .ok (.getfield 36, 3) := by decide +kernel
theorem dX8_deadlyPlays_31 : decode cX8_deadlyPlays 31 = .ok (.getfield 75, 3) := by decide +kernel
theorem dX8_deadlyPlays_34 : decode cX8_deadlyPlays 34 = .ok (.invokevirtual 79, 3) := by decide +kernel
theorem dX8_deadlyPlays_37 : decode cX8_deadlyPlays 37 = .ok (.ifCond .le 7, 3) := by decide +kernel
theorem dX8_deadlyPlays_40 : decode cX8_deadlyPlays 40 = .ok (.iconst 1, 1) := by decide +kernel
theorem dX8_deadlyPlays_41 : decode cX8_deadlyPlays 41 = .ok (.goto 4, 3) := by decide +kernel
theorem dX8_deadlyPlays_44 : decode cX8_deadlyPlays 44 = .ok (.iconst 0, 1) := by decide +kernel
theorem dX8_deadlyPlays_45 : decode cX8_deadlyPlays 45 = .ok (.iadd, 1) := by decide +kernel
theorem dX8_deadlyPlays_46 : decode cX8_deadlyPlays 46 = .ok (.istore 4, 2) := by decide +kernel
theorem dX8_deadlyPlays_48 : decode cX8_deadlyPlays 48 = .ok (.iinc 5 1, 3) := by decide +kernel
theorem dX8_deadlyPlays_51 : decode cX8_deadlyPlays 51 = .ok (.goto (-43), 3) := by decide +kernel
theorem dX8_deadlyPlays_54 : decode cX8_deadlyPlays 54 = .ok (.iload 4, 2) := by decide +kernel
theorem dX8_deadlyPlays_56 : decode cX8_deadlyPlays 56 = .ok (.ireturn, 1) := by decide +kernel
theorem dX8_play_0 : decode cX8_play 0 = .ok (.aload_n 0, 1) := by decide +kernel
theorem dX8_play_1 : decode cX8_play 1 = .ok (.getfield 12, 3) := by decide +kernel
theorem dX8_play_4 : decode cX8_play 4 = .ok (.aload_n 1, 1) := by decide +kernel
theorem dX8_play_5 : decode cX8_play 5 = .ok (.invokevirtual 32, 3) := by decide +kernel
theorem dX8_play_8 : decode cX8_play 8 = .ok (.iload_n 2, 1) := by decide +kernel
theorem dX8_play_9 : decode cX8_play 9 = .ok (.istore_n 3, 1) := by decide +kernel
theorem dX8_play_10 : decode cX8_play 10 = .ok (.iconst 0, 1) := by decide +kernel
theorem dX8_play_11 : decode cX8_play 11 = .ok (.istore 4, 2) := by decide +kernel
theorem dX8_play_13 : decode cX8_play 13 = .ok (.iload 4, 2) := by decide +kernel
theorem dX8_play_15 : decode cX8_play 15 = .ok (.bipush 24, 2) := by decide +kernel
theorem dX8_play_17 : decode cX8_play 17 = .ok (.if_icmp .ge 144, 3) := by decide +kernel
theorem dX8_play_20 : decode cX8_play 20 = .ok (.aload_n 0, 1) := by decide +kernel
theorem dX8_play_21 : decode cX8_play 21 = .ok (.aload_n 1, 1) := by decide +kernel
theorem dX8_play_22 : decode cX8_play 22 = .ok (.invokevirtual 89, 3) := by decide +kernel
theorem dX8_play_25 : decode cX8_play 25 = .ok (.istore 5, 2) := by decide +kernel
theorem dX8_play_27 : decode cX8_play 27 = .ok (.iload 5, 2) := by decide +kernel
theorem dX8_play_29 : decode cX8_play 29 = .ok (.invokestatic 92, 3) := by decide +kernel
theorem dX8_play_32 : decode cX8_play 32 = .ok (.istore 6, 2) := by decide +kernel
theorem dX8_play_34 : decode cX8_play 34 = .ok (.iload 6, 2) := by decide +kernel
theorem dX8_play_36 : decode cX8_play 36 = .ok (.ifCond .ne 6, 3) := by decide +kernel
theorem dX8_play_39 : decode cX8_play 39 = .ok (.goto 122, 3) := by decide +kernel
theorem dX8_play_42 : decode cX8_play 42 = .ok (.iload_n 3, 1) := by decide +kernel
theorem dX8_play_43 : decode cX8_play 43 = .ok (.i2l, 1) := by decide +kernel
theorem dX8_play_44 : decode cX8_play 44 = .ok (.ldc2_w 98, 3) := by decide +kernel
theorem dX8_play_47 : decode cX8_play 47 = .ok (.lmul, 1) := by decide +kernel
theorem dX8_play_48 : decode cX8_play 48 = .ok (.ldc2_w 100, 3) := by decide +kernel
theorem dX8_play_51 : decode cX8_play 51 = .ok (.ladd, 1) := by decide +kernel
theorem dX8_play_52 : decode cX8_play 52 = .ok (.ldc2_w 102, 3) := by decide +kernel
theorem dX8_play_55 : decode cX8_play 55 = .ok (.land, 1) := by decide +kernel
theorem dX8_play_56 : decode cX8_play 56 = .ok (.l2i, 1) := by decide +kernel
theorem dX8_play_57 : decode cX8_play 57 = .ok (.istore_n 3, 1) := by decide +kernel
theorem dX8_play_58 : decode cX8_play 58 = .ok (.aload_n 0, 1) := by decide +kernel
theorem dX8_play_59 : decode cX8_play 59 = .ok (.getfield 12, 3) := by decide +kernel
theorem dX8_play_62 : decode cX8_play 62 = .ok (.aload_n 1, 1) := by decide +kernel
theorem dX8_play_63 : decode cX8_play 63 = .ok (.iload 5, 2) := by decide +kernel
theorem dX8_play_65 : decode cX8_play 65 = .ok (.iload_n 3, 1) := by decide +kernel
theorem dX8_play_66 : decode cX8_play 66 = .ok (.ldc 104, 2) := by decide +kernel
theorem dX8_play_68 : decode cX8_play 68 = .ok (.idiv, 1) := by decide +kernel
theorem dX8_play_69 : decode cX8_play 69 = .ok (.iload 6, 2) := by decide +kernel
theorem dX8_play_71 : decode cX8_play 71 = .ok (.irem, 1) := by decide +kernel
theorem dX8_play_72 : decode cX8_play 72 = .ok (.invokestatic 105, 3) := by decide +kernel
theorem dX8_play_75 : decode cX8_play 75 = .ok (.invokevirtual 109, 3) := by decide +kernel
theorem dX8_play_78 : decode cX8_play 78 = .ok (.istore 7, 2) := by decide +kernel
theorem dX8_play_80 : decode cX8_play 80 = .ok (.iload 7, 2) := by decide +kernel
theorem dX8_play_82 : decode cX8_play 82 = .ok (.iconst (-1), 1) := by decide +kernel
theorem dX8_play_83 : decode cX8_play 83 = .ok (.if_icmp .ne 6, 3) := by decide +kernel
theorem dX8_play_86 : decode cX8_play 86 = .ok (.goto 75, 3) := by decide +kernel
theorem dX8_play_89 : decode cX8_play 89 = .ok (.aload_n 0, 1) := by decide +kernel
theorem dX8_play_90 : decode cX8_play 90 = .ok (.getfield 12, 3) := by decide +kernel
theorem dX8_play_93 : decode cX8_play 93 = .ok (.getfield 61, 3) := by decide +kernel
theorem dX8_play_96 : decode cX8_play 96 = .ok (.iload 7, 2) := by decide +kernel
theorem dX8_play_98 : decode cX8_play 98 = .ok (.iconst 2, 1) := by decide +kernel
theorem dX8_play_99 : decode cX8_play 99 = .ok (.iastore, 1) := by decide +kernel
theorem dX8_play_100 : decode cX8_play 100 = .ok (.aload_n 0, 1) := by decide +kernel
theorem dX8_play_101 : decode cX8_play 101 = .ok (.getfield 12, 3) := by decide +kernel
theorem dX8_play_104 : decode cX8_play 104 = .ok (.getfield 112, 3) := by decide +kernel
theorem dX8_play_107 : decode cX8_play 107 = .ok (.iload 7, 2) := by decide +kernel
theorem dX8_play_109 : decode cX8_play 109 = .ok (.aload_n 0, 1) := by decide +kernel
theorem dX8_play_110 : decode cX8_play 110 = .ok (.getfield 12, 3) := by decide +kernel
theorem dX8_play_113 : decode cX8_play 113 = .ok (.getfield 36, 3) := by decide +kernel
theorem dX8_play_116 : decode cX8_play 116 = .ok (.aload_n 1, 1) := by decide +kernel
theorem dX8_play_117 : decode cX8_play 117 = .ok (.getfield 58, 3) := by decide +kernel
theorem dX8_play_120 : decode cX8_play 120 = .ok (.iload 7, 2) := by decide +kernel
theorem dX8_play_122 : decode cX8_play 122 = .ok (.iaload, 1) := by decide +kernel
theorem dX8_play_123 : decode cX8_play 123 = .ok (.aload_n 1, 1) := by decide +kernel
theorem dX8_play_124 : decode cX8_play 124 = .ok (.getfield 115, 3) := by decide +kernel
theorem dX8_play_127 : decode cX8_play 127 = .ok (.iload 7, 2) := by decide +kernel
theorem dX8_play_129 : decode cX8_play 129 = .ok (.iaload, 1) := by decide +kernel
theorem dX8_play_130 : decode cX8_play 130 = .ok (.aload_n 1, 1) := by decide +kernel
theorem dX8_play_131 : decode cX8_play 131 = .ok (.getfield 118, 3) := by decide +kernel
theorem dX8_play_134 : decode cX8_play 134 = .ok (.iload 7, 2) := by decide +kernel
theorem dX8_play_136 : decode cX8_play 136 = .ok (.iaload, 1) := by decide +kernel
theorem dX8_play_137 : decode cX8_play 137 = .ok (.aload_n 1, 1) := by decide +kernel
theorem dX8_play_138 : decode cX8_play 138 = .ok (.getfield 121, 3) := by decide +kernel
theorem dX8_play_141 : decode cX8_play 141 = .ok (.iload 7, 2) := by decide +kernel
theorem dX8_play_143 : decode cX8_play 143 = .ok (.iaload, 1) := by decide +kernel
theorem dX8_play_144 : decode cX8_play 144 = .ok (.aload_n 1, 1) := by decide +kernel
theorem dX8_play_145 : decode cX8_play 145 = .ok (.getfield 124, 3) := by decide +kernel
theorem dX8_play_148 : decode cX8_play 148 = .ok (.iload 7, 2) := by decide +kernel
theorem dX8_play_150 : decode cX8_play 150 = .ok (.iaload, 1) := by decide +kernel
theorem dX8_play_151 : decode cX8_play 151 = .ok (.invokevirtual 127, 3) := by decide +kernel
theorem dX8_play_154 : decode cX8_play 154 = .ok (.iastore, 1) := by decide +kernel
theorem dX8_play_155 : decode cX8_play 155 = .ok (.iinc 4 1, 3) := by decide +kernel
theorem dX8_play_158 : decode cX8_play 158 = .ok (.goto (-145), 3) := by decide +kernel
theorem dX8_play_161 : decode cX8_play 161 = .ok (.iload_n 3, 1) := by decide +kernel
theorem dX8_play_162 : decode cX8_play 162 = .ok (.ireturn, 1) := by decide +kernel
theorem dX8_ableHands_0 : decode cX8_ableHands 0 = .ok (.iconst 0, 1) := by decide +kernel
theorem dX8_ableHands_1 : decode cX8_ableHands 1 = .ok (.istore_n 2, 1) := by decide +kernel
theorem dX8_ableHands_2 : decode cX8_ableHands 2 = .ok (.iconst 0, 1) := by decide +kernel
theorem dX8_ableHands_3 : decode cX8_ableHands 3 = .ok (.istore_n 3, 1) := by decide +kernel
theorem dX8_ableHands_4 : decode cX8_ableHands 4 = .ok (.iload_n 3, 1) := by decide +kernel
theorem dX8_ableHands_5 : decode cX8_ableHands 5 = .ok (.aload_n 1, 1) := by decide +kernel
theorem dX8_ableHands_6 : decode cX8_ableHands 6 = .ok (.getfield 52, 3) := by decide +kernel
theorem dX8_ableHands_9 : decode cX8_ableHands 9 = .ok (.if_icmp .ge 56, 3) := by decide +kernel
theorem dX8_ableHands_12 : decode cX8_ableHands 12 = .ok (.aload_n 0, 1) := by decide +kernel
theorem dX8_ableHands_13 : decode cX8_ableHands 13 = .ok (.getfield 12, 3) := by decide +kernel
theorem dX8_ableHands_16 : decode cX8_ableHands 16 = .ok (.getfield 61, 3) := by decide +kernel
theorem dX8_ableHands_19 : decode cX8_ableHands 19 = .ok (.iload_n 3, 1) := by decide +kernel
theorem dX8_ableHands_20 : decode cX8_ableHands 20 = .ok (.iaload, 1) := by decide +kernel
theorem dX8_ableHands_21 : decode cX8_ableHands 21 = .ok (.ifCond .ne 38, 3) := by decide +kernel
theorem dX8_ableHands_24 : decode cX8_ableHands 24 = .ok (.aload_n 0, 1) := by decide +kernel
theorem dX8_ableHands_25 : decode cX8_ableHands 25 = .ok (.getfield 12, 3) := by decide +kernel
theorem dX8_ableHands_28 : decode cX8_ableHands 28 = .ok (.getfield 36, 3) := by decide +kernel
theorem dX8_ableHands_31 : decode cX8_ableHands 31 = .ok (.getfield 75, 3) := by decide +kernel
theorem dX8_ableHands_34 : decode cX8_ableHands 34 = .ok (.getfield 131, 3) := by decide +kernel
theorem dX8_ableHands_37 : decode cX8_ableHands 37 = .ok (.aload_n 1, 1) := by decide +kernel
theorem dX8_ableHands_38 : decode cX8_ableHands 38 = .ok (.getfield 58, 3) := by decide +kernel
theorem dX8_ableHands_41 : decode cX8_ableHands 41 = .ok (.iload_n 3, 1) := by decide +kernel
theorem dX8_ableHands_42 : decode cX8_ableHands 42 = .ok (.iaload, 1) := by decide +kernel
theorem dX8_ableHands_43 : decode cX8_ableHands 43 = .ok (.iaload, 1) := by decide +kernel
theorem dX8_ableHands_44 : decode cX8_ableHands 44 = .ok (.iconst 2, 1) := by decide +kernel
theorem dX8_ableHands_45 : decode cX8_ableHands 45 = .ok (.if_icmp .eq 14, 3) := by decide +kernel
theorem dX8_ableHands_48 : decode cX8_ableHands 48 = .ok (.iload_n 2, 1) := by decide +kernel
theorem dX8_ableHands_49 : decode cX8_ableHands 49 = .ok (.iconst 1, 1) := by decide +kernel
theorem dX8_ableHands_50 : decode cX8_ableHands 50 = .ok (.aload_n 1, 1) := by decide +kernel
theorem dX8_ableHands_51 : decode cX8_ableHands 51 = .ok (.getfield 58, 3) := by decide +kernel
theorem dX8_ableHands_54 : decode cX8_ableHands 54 = .ok (.iload_n 3, 1) := by decide +kernel
theorem dX8_ableHands_55 : decode cX8_ableHands 55 = .ok (.iaload, 1) := by decide +kernel
theorem dX8_ableHands_56 : decode cX8_ableHands 56 = .ok (.ishl, 1) := by decide +kernel
theorem dX8_ableHands_57 : decode cX8_ableHands 57 = .ok (.ior, 1) := by decide +kernel
theorem dX8_ableHands_58 : decode cX8_ableHands 58 = .ok (.istore_n 2, 1) := by decide +kernel
theorem dX8_ableHands_59 : decode cX8_ableHands 59 = .ok (.iinc 3 1, 3) := by decide +kernel
theorem dX8_ableHands_62 : decode cX8_ableHands 62 = .ok (.goto (-58), 3) := by decide +kernel
theorem dX8_ableHands_65 : decode cX8_ableHands 65 = .ok (.iload_n 2, 1) := by decide +kernel
theorem dX8_ableHands_66 : decode cX8_ableHands 66 = .ok (.ireturn, 1) := by decide +kernel
theorem dX8_bitAt_0 : decode cX8_bitAt 0 = .ok (.iload_n 1, 1) := by decide +kernel
theorem dX8_bitAt_1 : decode cX8_bitAt 1 = .ok (.istore_n 2, 1) := by decide +kernel
theorem dX8_bitAt_2 : decode cX8_bitAt 2 = .ok (.iconst 0, 1) := by decide +kernel
theorem dX8_bitAt_3 : decode cX8_bitAt 3 = .ok (.istore_n 3, 1) := by decide +kernel
theorem dX8_bitAt_4 : decode cX8_bitAt 4 = .ok (.iload_n 3, 1) := by decide +kernel
theorem dX8_bitAt_5 : decode cX8_bitAt 5 = .ok (.bipush 31, 2) := by decide +kernel
theorem dX8_bitAt_7 : decode cX8_bitAt 7 = .ok (.if_icmp .ge 26, 3) := by decide +kernel
theorem dX8_bitAt_10 : decode cX8_bitAt 10 = .ok (.iload_n 0, 1) := by decide +kernel
theorem dX8_bitAt_11 : decode cX8_bitAt 11 = .ok (.iload_n 3, 1) := by decide +kernel
theorem dX8_bitAt_12 : decode cX8_bitAt 12 = .ok (.ishr, 1) := by decide +kernel
theorem dX8_bitAt_13 : decode cX8_bitAt 13 = .ok (.iconst 1, 1) := by decide +kernel
theorem dX8_bitAt_14 : decode cX8_bitAt 14 = .ok (.iand, 1) := by decide +kernel
theorem dX8_bitAt_15 : decode cX8_bitAt 15 = .ok (.ifCond .eq 12, 3) := by decide +kernel
theorem dX8_bitAt_18 : decode cX8_bitAt 18 = .ok (.iload_n 2, 1) := by decide +kernel
theorem dX8_bitAt_19 : decode cX8_bitAt 19 = .ok (.ifCond .ne 5, 3) := by decide +kernel
theorem dX8_bitAt_22 : decode cX8_bitAt 22 = .ok (.iload_n 3, 1) := by decide +kernel
theorem dX8_bitAt_23 : decode cX8_bitAt 23 = .ok (.ireturn, 1) := by decide +kernel
theorem dX8_bitAt_24 : decode cX8_bitAt 24 = .ok (.iinc 2 (-1), 3) := by decide +kernel
theorem dX8_bitAt_27 : decode cX8_bitAt 27 = .ok (.iinc 3 1, 3) := by decide +kernel
theorem dX8_bitAt_30 : decode cX8_bitAt 30 = .ok (.goto (-26), 3) := by decide +kernel
theorem dX8_bitAt_33 : decode cX8_bitAt 33 = .ok (.iconst (-1), 1) := by decide +kernel
theorem dX8_bitAt_34 : decode cX8_bitAt 34 = .ok (.ireturn, 1) := by decide +kernel
theorem dX8_runOut_0 : decode cX8_runOut 0 = .ok (.aload_n 0, 1) := by decide +kernel
theorem dX8_runOut_1 : decode cX8_runOut 1 = .ok (.getfield 134, 3) := by decide +kernel
theorem dX8_runOut_4 : decode cX8_runOut 4 = .ok (.ifCond .eq 4, 3) := by decide +kernel
theorem dX8_runOut_7 : decode cX8_runOut 7 = .ok (.return_, 1) := by decide +kernel
theorem dX8_runOut_8 : decode cX8_runOut 8 = .ok (.aload_n 0, 1) := by decide +kernel
theorem dX8_runOut_9 : decode cX8_runOut 9 = .ok (.getfield 12, 3) := by decide +kernel
theorem dX8_runOut_12 : decode cX8_runOut 12 = .ok (.aload_n 1, 1) := by decide +kernel
theorem dX8_runOut_13 : decode cX8_runOut 13 = .ok (.invokevirtual 32, 3) := by decide +kernel
theorem dX8_runOut_16 : decode cX8_runOut 16 = .ok (.aload_n 0, 1) := by decide +kernel
theorem dX8_runOut_17 : decode cX8_runOut 17 = .ok (.getfield 12, 3) := by decide +kernel
theorem dX8_runOut_20 : decode cX8_runOut 20 = .ok (.aload_n 1, 1) := by decide +kernel
theorem dX8_runOut_21 : decode cX8_runOut 21 = .ok (.bipush 24, 2) := by decide +kernel
theorem dX8_runOut_23 : decode cX8_runOut 23 = .ok (.invokevirtual 64, 3) := by decide +kernel
theorem dX8_runOut_26 : decode cX8_runOut 26 = .ok (.iconst 0, 1) := by decide +kernel
theorem dX8_runOut_27 : decode cX8_runOut 27 = .ok (.istore_n 2, 1) := by decide +kernel
theorem dX8_runOut_28 : decode cX8_runOut 28 = .ok (.iload_n 2, 1) := by decide +kernel
theorem dX8_runOut_29 : decode cX8_runOut 29 = .ok (.ldc 137, 2) := by decide +kernel
theorem dX8_runOut_31 : decode cX8_runOut 31 = .ok (.if_icmp .ge 57, 3) := by decide +kernel
theorem dX8_runOut_34 : decode cX8_runOut 34 = .ok (.aload_n 0, 1) := by decide +kernel
theorem dX8_runOut_35 : decode cX8_runOut 35 = .ok (.getfield 12, 3) := by decide +kernel
theorem dX8_runOut_38 : decode cX8_runOut 38 = .ok (.getfield 36, 3) := by decide +kernel
theorem dX8_runOut_41 : decode cX8_runOut 41 = .ok (.getfield 75, 3) := by decide +kernel
theorem dX8_runOut_44 : decode cX8_runOut 44 = .ok (.invokevirtual 138, 3) := by decide +kernel
theorem dX8_runOut_47 : decode cX8_runOut 47 = .ok (.istore_n 3, 1) := by decide +kernel
theorem dX8_runOut_48 : decode cX8_runOut 48 = .ok (.iload_n 3, 1) := by decide +kernel
theorem dX8_runOut_49 : decode cX8_runOut 49 = .ok (.iconst (-1), 1) := by decide +kernel
theorem dX8_runOut_50 : decode cX8_runOut 50 = .ok (.if_icmp .ne 6, 3) := by decide +kernel
theorem dX8_runOut_53 : decode cX8_runOut 53 = .ok (.goto 35, 3) := by decide +kernel
theorem dX8_runOut_56 : decode cX8_runOut 56 = .ok (.aload_n 0, 1) := by decide +kernel
theorem dX8_runOut_57 : decode cX8_runOut 57 = .ok (.getfield 12, 3) := by decide +kernel
theorem dX8_runOut_60 : decode cX8_runOut 60 = .ok (.getfield 36, 3) := by decide +kernel
theorem dX8_runOut_63 : decode cX8_runOut 63 = .ok (.iload_n 3, 1) := by decide +kernel
theorem dX8_runOut_64 : decode cX8_runOut 64 = .ok (.bipush 7, 2) := by decide +kernel
theorem dX8_runOut_66 : decode cX8_runOut 66 = .ok (.iconst 0, 1) := by decide +kernel
theorem dX8_runOut_67 : decode cX8_runOut 67 = .ok (.iconst 0, 1) := by decide +kernel
theorem dX8_runOut_68 : decode cX8_runOut 68 = .ok (.iconst 0, 1) := by decide +kernel
theorem dX8_runOut_69 : decode cX8_runOut 69 = .ok (.invokevirtual 127, 3) := by decide +kernel
theorem dX8_runOut_72 : decode cX8_runOut 72 = .ok (.pop, 1) := by decide +kernel
theorem dX8_runOut_73 : decode cX8_runOut 73 = .ok (.aload_n 0, 1) := by decide +kernel
theorem dX8_runOut_74 : decode cX8_runOut 74 = .ok (.getfield 12, 3) := by decide +kernel
theorem dX8_runOut_77 : decode cX8_runOut 77 = .ok (.aload_n 1, 1) := by decide +kernel
theorem dX8_runOut_78 : decode cX8_runOut 78 = .ok (.iconst 0, 1) := by decide +kernel
theorem dX8_runOut_79 : decode cX8_runOut 79 = .ok (.invokevirtual 64, 3) := by decide +kernel
theorem dX8_runOut_82 : decode cX8_runOut 82 = .ok (.iinc 2 1, 3) := by decide +kernel
theorem dX8_runOut_85 : decode cX8_runOut 85 = .ok (.goto (-57), 3) := by decide +kernel
theorem dX8_runOut_88 : decode cX8_runOut 88 = .ok (.aload_n 0, 1) := by decide +kernel
theorem dX8_runOut_89 : decode cX8_runOut 89 = .ok (.getfield 28, 3) := by decide +kernel
theorem dX8_runOut_92 : decode cX8_runOut 92 = .ok (.aload_n 0, 1) := by decide +kernel
theorem dX8_runOut_93 : decode cX8_runOut 93 = .ok (.getfield 12, 3) := by decide +kernel
theorem dX8_runOut_96 : decode cX8_runOut 96 = .ok (.getfield 36, 3) := by decide +kernel
theorem dX8_runOut_99 : decode cX8_runOut 99 = .ok (.getfield 141, 3) := by decide +kernel
theorem dX8_runOut_102 : decode cX8_runOut 102 = .ok (.invokevirtual 144, 3) := by decide +kernel
theorem dX8_runOut_105 : decode cX8_runOut 105 = .ok (.return_, 1) := by decide +kernel
theorem dX8_matchOrders_0 : decode cX8_matchOrders 0 = .ok (.aload_n 0, 1) := by decide +kernel
theorem dX8_matchOrders_1 : decode cX8_matchOrders 1 = .ok (.getfield 134, 3) := by decide +kernel
theorem dX8_matchOrders_4 : decode cX8_matchOrders 4 = .ok (.ifCond .eq 4, 3) := by decide +kernel
theorem dX8_matchOrders_7 : decode cX8_matchOrders 7 = .ok (.return_, 1) := by decide +kernel
theorem dX8_matchOrders_8 : decode cX8_matchOrders 8 = .ok (.aload_n 0, 1) := by decide +kernel
theorem dX8_matchOrders_9 : decode cX8_matchOrders 9 = .ok (.iconst 1, 1) := by decide +kernel
theorem dX8_matchOrders_10 : decode cX8_matchOrders 10 = .ok (.putfield 134, 3) := by decide +kernel
theorem dX8_matchOrders_13 : decode cX8_matchOrders 13 = .ok (.aload_n 0, 1) := by decide +kernel
theorem dX8_matchOrders_14 : decode cX8_matchOrders 14 = .ok (.iconst 0, 1) := by decide +kernel
theorem dX8_matchOrders_15 : decode cX8_matchOrders 15 = .ok (.putfield 148, 3) := by decide +kernel
theorem dX8_matchOrders_18 : decode cX8_matchOrders 18 = .ok (.iconst 0, 1) := by decide +kernel
theorem dX8_matchOrders_19 : decode cX8_matchOrders 19 = .ok (.istore_n 2, 1) := by decide +kernel
theorem dX8_matchOrders_20 : decode cX8_matchOrders 20 = .ok (.iload_n 2, 1) := by decide +kernel
theorem dX8_matchOrders_21 : decode cX8_matchOrders 21 = .ok (.aload_n 1, 1) := by decide +kernel
theorem dX8_matchOrders_22 : decode cX8_matchOrders 22 = .ok (.getfield 151, 3) := by decide +kernel
theorem dX8_matchOrders_25 : decode cX8_matchOrders 25 = .ok (.if_icmp .ge 16, 3) := by decide +kernel
theorem dX8_matchOrders_28 : decode cX8_matchOrders 28 = .ok (.aload_n 0, 1) := by decide +kernel
theorem dX8_matchOrders_29 : decode cX8_matchOrders 29 = .ok (.getfield 22, 3) := by decide +kernel
theorem dX8_matchOrders_32 : decode cX8_matchOrders 32 = .ok (.iload_n 2, 1) := by decide +kernel
theorem dX8_matchOrders_33 : decode cX8_matchOrders 33 = .ok (.iload_n 2, 1) := by decide +kernel
theorem dX8_matchOrders_34 : decode cX8_matchOrders 34 = .ok (.iastore, 1) := by decide +kernel
theorem dX8_matchOrders_35 : decode cX8_matchOrders 35 = .ok (.iinc 2 1, 3) := by decide +kernel
theorem dX8_matchOrders_38 : decode cX8_matchOrders 38 = .ok (.goto (-18), 3) := by decide +kernel
theorem dX8_matchOrders_41 : decode cX8_matchOrders 41 = .ok (.iconst 1, 1) := by decide +kernel
theorem dX8_matchOrders_42 : decode cX8_matchOrders 42 = .ok (.istore_n 2, 1) := by decide +kernel
theorem dX8_matchOrders_43 : decode cX8_matchOrders 43 = .ok (.iconst 0, 1) := by decide +kernel
theorem dX8_matchOrders_44 : decode cX8_matchOrders 44 = .ok (.istore_n 3, 1) := by decide +kernel
theorem dX8_matchOrders_45 : decode cX8_matchOrders 45 = .ok (.iload_n 3, 1) := by decide +kernel
theorem dX8_matchOrders_46 : decode cX8_matchOrders 46 = .ok (.ldc 137, 2) := by decide +kernel
theorem dX8_matchOrders_48 : decode cX8_matchOrders 48 = .ok (.if_icmp .ge 65, 3) := by decide +kernel
theorem dX8_matchOrders_51 : decode cX8_matchOrders 51 = .ok (.iload_n 2, 1) := by decide +kernel
theorem dX8_matchOrders_52 : decode cX8_matchOrders 52 = .ok (.ifCond .eq 61, 3) := by decide +kernel
theorem dX8_matchOrders_55 : decode cX8_matchOrders 55 = .ok (.aload_n 0, 1) := by decide +kernel
theorem dX8_matchOrders_56 : decode cX8_matchOrders 56 = .ok (.aload_n 1, 1) := by decide +kernel
theorem dX8_matchOrders_57 : decode cX8_matchOrders 57 = .ok (.invokevirtual 154, 3) := by decide +kernel
theorem dX8_matchOrders_60 : decode cX8_matchOrders 60 = .ok (.aload_n 0, 1) := by decide +kernel
theorem dX8_matchOrders_61 : decode cX8_matchOrders 61 = .ok (.invokevirtual 157, 3) := by decide +kernel
theorem dX8_matchOrders_64 : decode cX8_matchOrders 64 = .ok (.ifCond .eq 34, 3) := by decide +kernel
theorem dX8_matchOrders_67 : decode cX8_matchOrders 67 = .ok (.aload_n 0, 1) := by decide +kernel
theorem dX8_matchOrders_68 : decode cX8_matchOrders 68 = .ok (.getfield 148, 3) := by decide +kernel
theorem dX8_matchOrders_71 : decode cX8_matchOrders 71 = .ok (.ifCond .ne 17, 3) := by decide +kernel
theorem dX8_matchOrders_74 : decode cX8_matchOrders 74 = .ok (.aload_n 0, 1) := by decide +kernel
theorem dX8_matchOrders_75 : decode cX8_matchOrders 75 = .ok (.getfield 22, 3) := by decide +kernel
theorem dX8_matchOrders_78 : decode cX8_matchOrders 78 = .ok (.iconst 0, 1) := by decide +kernel
theorem dX8_matchOrders_79 : decode cX8_matchOrders 79 = .ok (.aload_n 0, 1) := by decide +kernel
theorem dX8_matchOrders_80 : decode cX8_matchOrders 80 = .ok (.getfield 18, 3) := by decide +kernel
theorem dX8_matchOrders_83 : decode cX8_matchOrders 83 = .ok (.iconst 0, 1) := by decide +kernel
theorem dX8_matchOrders_84 : decode cX8_matchOrders 84 = .ok (.iconst 5, 1) := by decide +kernel
theorem dX8_matchOrders_85 : decode cX8_matchOrders 85 = .ok (.invokestatic 161, 3) := by decide +kernel
theorem dX8_matchOrders_88 : decode cX8_matchOrders 88 = .ok (.aload_n 0, 1) := by decide +kernel
theorem dX8_matchOrders_89 : decode cX8_matchOrders 89 = .ok (.dup, 1) := by decide +kernel
theorem dX8_matchOrders_90 : decode cX8_matchOrders 90 = .ok (.getfield 148, 3) := by decide +kernel
theorem dX8_matchOrders_93 : decode cX8_matchOrders 93 = .ok (.iconst 1, 1) := by decide +kernel
theorem dX8_matchOrders_94 : decode cX8_matchOrders 94 = .ok (.iadd, 1) := by decide +kernel
theorem dX8_matchOrders_95 : decode cX8_matchOrders 95 = .ok (.putfield 148, 3) := by decide +kernel
theorem dX8_matchOrders_98 : decode cX8_matchOrders 98 = .ok (.aload_n 0, 1) := by decide +kernel
theorem dX8_matchOrders_99 : decode cX8_matchOrders 99 = .ok (.aload_n 1, 1) := by decide +kernel
theorem dX8_matchOrders_100 : decode cX8_matchOrders 100 = .ok (.getfield 151, 3) := by decide +kernel
theorem dX8_matchOrders_103 : decode cX8_matchOrders 103 = .ok (.invokevirtual 167, 3) := by decide +kernel
theorem dX8_matchOrders_106 : decode cX8_matchOrders 106 = .ok (.istore_n 2, 1) := by decide +kernel
theorem dX8_matchOrders_107 : decode cX8_matchOrders 107 = .ok (.iinc 3 1, 3) := by decide +kernel
theorem dX8_matchOrders_110 : decode cX8_matchOrders 110 = .ok (.goto (-65), 3) := by decide +kernel
theorem dX8_matchOrders_113 : decode cX8_matchOrders 113 = .ok (.return_, 1) := by decide +kernel
theorem dX8_goAlone_0 : decode cX8_goAlone 0 = .ok (.aload_n 0, 1) := by decide +kernel
theorem dX8_goAlone_1 : decode cX8_goAlone 1 = .ok (.getfield 12, 3) := by decide +kernel
theorem dX8_goAlone_4 : decode cX8_goAlone 4 = .ok (.getfield 36, 3) := by decide +kernel
theorem dX8_goAlone_7 : decode cX8_goAlone 7 = .ok (.astore_n 2, 1) := by decide +kernel
theorem dX8_goAlone_8 : decode cX8_goAlone 8 = .ok (.aload_n 2, 1) := by decide +kernel
theorem dX8_goAlone_9 : decode cX8_goAlone 9 = .ok (.aload_n 1, 1) := by decide +kernel
theorem dX8_goAlone_10 : decode cX8_goAlone 10 = .ok (.invokevirtual 171, 3) := by decide +kernel
theorem dX8_goAlone_13 : decode cX8_goAlone 13 = .ok (.iconst 0, 1) := by decide +kernel
theorem dX8_goAlone_14 : decode cX8_goAlone 14 = .ok (.istore_n 3, 1) := by decide +kernel
theorem dX8_goAlone_15 : decode cX8_goAlone 15 = .ok (.iload_n 3, 1) := by decide +kernel
theorem dX8_goAlone_16 : decode cX8_goAlone 16 = .ok (.aload_n 1, 1) := by decide +kernel
theorem dX8_goAlone_17 : decode cX8_goAlone 17 = .ok (.getfield 151, 3) := by decide +kernel
theorem dX8_goAlone_20 : decode cX8_goAlone 20 = .ok (.if_icmp .ge 94, 3) := by decide +kernel
theorem dX8_goAlone_23 : decode cX8_goAlone 23 = .ok (.aload_n 0, 1) := by decide +kernel
theorem dX8_goAlone_24 : decode cX8_goAlone 24 = .ok (.getfield 22, 3) := by decide +kernel
theorem dX8_goAlone_27 : decode cX8_goAlone 27 = .ok (.iload_n 3, 1) := by decide +kernel
theorem dX8_goAlone_28 : decode cX8_goAlone 28 = .ok (.iaload, 1) := by decide +kernel
theorem dX8_goAlone_29 : decode cX8_goAlone 29 = .ok (.istore 4, 2) := by decide +kernel
theorem dX8_goAlone_31 : decode cX8_goAlone 31 = .ok (.iconst 0, 1) := by decide +kernel
theorem dX8_goAlone_32 : decode cX8_goAlone 32 = .ok (.istore 5, 2) := by decide +kernel
theorem dX8_goAlone_34 : decode cX8_goAlone 34 = .ok (.iload 5, 2) := by decide +kernel
theorem dX8_goAlone_36 : decode cX8_goAlone 36 = .ok (.aload_n 1, 1) := by decide +kernel
theorem dX8_goAlone_37 : decode cX8_goAlone 37 = .ok (.getfield 52, 3) := by decide +kernel
theorem dX8_goAlone_40 : decode cX8_goAlone 40 = .ok (.if_icmp .ge 56, 3) := by decide +kernel
theorem dX8_goAlone_43 : decode cX8_goAlone 43 = .ok (.aload_n 1, 1) := by decide +kernel
theorem dX8_goAlone_44 : decode cX8_goAlone 44 = .ok (.getfield 58, 3) := by decide +kernel
theorem dX8_goAlone_47 : decode cX8_goAlone 47 = .ok (.iload 5, 2) := by decide +kernel
theorem dX8_goAlone_49 : decode cX8_goAlone 49 = .ok (.iaload, 1) := by decide +kernel
theorem dX8_goAlone_50 : decode cX8_goAlone 50 = .ok (.iload 4, 2) := by decide +kernel
theorem dX8_goAlone_52 : decode cX8_goAlone 52 = .ok (.if_icmp .ne 38, 3) := by decide +kernel
theorem dX8_goAlone_55 : decode cX8_goAlone 55 = .ok (.aload_n 2, 1) := by decide +kernel
theorem dX8_goAlone_56 : decode cX8_goAlone 56 = .ok (.iload 4, 2) := by decide +kernel
theorem dX8_goAlone_58 : decode cX8_goAlone 58 = .ok (.aload_n 1, 1) := by decide +kernel
theorem dX8_goAlone_59 : decode cX8_goAlone 59 = .ok (.getfield 115, 3) := by decide +kernel
theorem dX8_goAlone_62 : decode cX8_goAlone 62 = .ok (.iload 5, 2) := by decide +kernel
theorem dX8_goAlone_64 : decode cX8_goAlone 64 = .ok (.iaload, 1) := by decide +kernel
theorem dX8_goAlone_65 : decode cX8_goAlone 65 = .ok (.aload_n 1, 1) := by decide +kernel
theorem dX8_goAlone_66 : decode cX8_goAlone 66 = .ok (.getfield 118, 3) := by decide +kernel
theorem dX8_goAlone_69 : decode cX8_goAlone 69 = .ok (.iload 5, 2) := by decide +kernel
theorem dX8_goAlone_71 : decode cX8_goAlone 71 = .ok (.iaload, 1) := by decide +kernel
theorem dX8_goAlone_72 : decode cX8_goAlone 72 = .ok (.aload_n 1, 1) := by decide +kernel
theorem dX8_goAlone_73 : decode cX8_goAlone 73 = .ok (.getfield 121, 3) := by decide +kernel
theorem dX8_goAlone_76 : decode cX8_goAlone 76 = .ok (.iload 5, 2) := by decide +kernel
theorem dX8_goAlone_78 : decode cX8_goAlone 78 = .ok (.iaload, 1) := by decide +kernel
theorem dX8_goAlone_79 : decode cX8_goAlone 79 = .ok (.aload_n 1, 1) := by decide +kernel
theorem dX8_goAlone_80 : decode cX8_goAlone 80 = .ok (.getfield 124, 3) := by decide +kernel
theorem dX8_goAlone_83 : decode cX8_goAlone 83 = .ok (.iload 5, 2) := by decide +kernel
theorem dX8_goAlone_85 : decode cX8_goAlone 85 = .ok (.iaload, 1) := by decide +kernel
theorem dX8_goAlone_86 : decode cX8_goAlone 86 = .ok (.invokevirtual 127, 3) := by decide +kernel
theorem dX8_goAlone_89 : decode cX8_goAlone 89 = .ok (.pop, 1) := by decide +kernel
theorem dX8_goAlone_90 : decode cX8_goAlone 90 = .ok (.iinc 5 1, 3) := by decide +kernel
theorem dX8_goAlone_93 : decode cX8_goAlone 93 = .ok (.goto (-59), 3) := by decide +kernel
theorem dX8_goAlone_96 : decode cX8_goAlone 96 = .ok (.aload_n 2, 1) := by decide +kernel
theorem dX8_goAlone_97 : decode cX8_goAlone 97 = .ok (.iload 4, 2) := by decide +kernel
theorem dX8_goAlone_99 : decode cX8_goAlone 99 = .ok (.bipush 7, 2) := by decide +kernel
theorem dX8_goAlone_101 : decode cX8_goAlone 101 = .ok (.iconst 0, 1) := by decide +kernel
theorem dX8_goAlone_102 : decode cX8_goAlone 102 = .ok (.iconst 0, 1) := by decide +kernel
theorem dX8_goAlone_103 : decode cX8_goAlone 103 = .ok (.iconst 0, 1) := by decide +kernel
theorem dX8_goAlone_104 : decode cX8_goAlone 104 = .ok (.invokevirtual 127, 3) := by decide +kernel
theorem dX8_goAlone_107 : decode cX8_goAlone 107 = .ok (.pop, 1) := by decide +kernel
theorem dX8_goAlone_108 : decode cX8_goAlone 108 = .ok (.iinc 3 1, 3) := by decide +kernel
theorem dX8_goAlone_111 : decode cX8_goAlone 111 = .ok (.goto (-96), 3) := by decide +kernel
theorem dX8_goAlone_114 : decode cX8_goAlone 114 = .ok (.return_, 1) := by decide +kernel
theorem dX8_comesToAim_0 : decode cX8_comesToAim 0 = .ok (.aload_n 0, 1) := by decide +kernel
theorem dX8_comesToAim_1 : decode cX8_comesToAim 1 = .ok (.getfield 12, 3) := by decide +kernel
theorem dX8_comesToAim_4 : decode cX8_comesToAim 4 = .ok (.getfield 36, 3) := by decide +kernel
theorem dX8_comesToAim_7 : decode cX8_comesToAim 7 = .ok (.getfield 141, 3) := by decide +kernel
theorem dX8_comesToAim_10 : decode cX8_comesToAim 10 = .ok (.astore_n 1, 1) := by decide +kernel
theorem dX8_comesToAim_11 : decode cX8_comesToAim 11 = .ok (.aload_n 1, 1) := by decide +kernel
theorem dX8_comesToAim_12 : decode cX8_comesToAim 12 = .ok (.getfield 172, 3) := by decide +kernel
theorem dX8_comesToAim_15 : decode cX8_comesToAim 15 = .ok (.aload_n 0, 1) := by decide +kernel
theorem dX8_comesToAim_16 : decode cX8_comesToAim 16 = .ok (.getfield 28, 3) := by decide +kernel
theorem dX8_comesToAim_19 : decode cX8_comesToAim 19 = .ok (.getfield 172, 3) := by decide +kernel
theorem dX8_comesToAim_22 : decode cX8_comesToAim 22 = .ok (.if_icmp .eq 5, 3) := by decide +kernel
theorem dX8_comesToAim_25 : decode cX8_comesToAim 25 = .ok (.iconst 0, 1) := by decide +kernel
theorem dX8_comesToAim_26 : decode cX8_comesToAim 26 = .ok (.ireturn, 1) := by decide +kernel
theorem dX8_comesToAim_27 : decode cX8_comesToAim 27 = .ok (.iconst 0, 1) := by decide +kernel
theorem dX8_comesToAim_28 : decode cX8_comesToAim 28 = .ok (.istore_n 2, 1) := by decide +kernel
theorem dX8_comesToAim_29 : decode cX8_comesToAim 29 = .ok (.iload_n 2, 1) := by decide +kernel
theorem dX8_comesToAim_30 : decode cX8_comesToAim 30 = .ok (.aload_n 0, 1) := by decide +kernel
theorem dX8_comesToAim_31 : decode cX8_comesToAim 31 = .ok (.getfield 28, 3) := by decide +kernel
theorem dX8_comesToAim_34 : decode cX8_comesToAim 34 = .ok (.getfield 172, 3) := by decide +kernel
theorem dX8_comesToAim_37 : decode cX8_comesToAim 37 = .ok (.if_icmp .ge 47, 3) := by decide +kernel
theorem dX8_comesToAim_40 : decode cX8_comesToAim 40 = .ok (.aload_n 1, 1) := by decide +kernel
theorem dX8_comesToAim_41 : decode cX8_comesToAim 41 = .ok (.getfield 175, 3) := by decide +kernel
theorem dX8_comesToAim_44 : decode cX8_comesToAim 44 = .ok (.iload_n 2, 1) := by decide +kernel
theorem dX8_comesToAim_45 : decode cX8_comesToAim 45 = .ok (.iaload, 1) := by decide +kernel
theorem dX8_comesToAim_46 : decode cX8_comesToAim 46 = .ok (.aload_n 0, 1) := by decide +kernel
theorem dX8_comesToAim_47 : decode cX8_comesToAim 47 = .ok (.getfield 28, 3) := by decide +kernel
theorem dX8_comesToAim_50 : decode cX8_comesToAim 50 = .ok (.getfield 175, 3) := by decide +kernel
theorem dX8_comesToAim_53 : decode cX8_comesToAim 53 = .ok (.iload_n 2, 1) := by decide +kernel
theorem dX8_comesToAim_54 : decode cX8_comesToAim 54 = .ok (.iaload, 1) := by decide +kernel
theorem dX8_comesToAim_55 : decode cX8_comesToAim 55 = .ok (.if_icmp .ne 21, 3) := by decide +kernel
theorem dX8_comesToAim_58 : decode cX8_comesToAim 58 = .ok (.aload_n 1, 1) := by decide +kernel
theorem dX8_comesToAim_59 : decode cX8_comesToAim 59 = .ok (.getfield 178, 3) := by decide +kernel
theorem dX8_comesToAim_62 : decode cX8_comesToAim 62 = .ok (.iload_n 2, 1) := by decide +kernel
theorem dX8_comesToAim_63 : decode cX8_comesToAim 63 = .ok (.iaload, 1) := by decide +kernel
theorem dX8_comesToAim_64 : decode cX8_comesToAim 64 = .ok (.aload_n 0, 1) := by decide +kernel
theorem dX8_comesToAim_65 : decode cX8_comesToAim 65 = .ok (.getfield 28, 3) := by decide +kernel
theorem dX8_comesToAim_68 : decode cX8_comesToAim 68 = .ok (.getfield 178, 3) := by decide +kernel
theorem dX8_comesToAim_71 : decode cX8_comesToAim 71 = .ok (.iload_n 2, 1) := by decide +kernel
theorem dX8_comesToAim_72 : decode cX8_comesToAim 72 = .ok (.iaload, 1) := by decide +kernel
theorem dX8_comesToAim_73 : decode cX8_comesToAim 73 = .ok (.if_icmp .eq 5, 3) := by decide +kernel
theorem dX8_comesToAim_76 : decode cX8_comesToAim 76 = .ok (.iconst 0, 1) := by decide +kernel
theorem dX8_comesToAim_77 : decode cX8_comesToAim 77 = .ok (.ireturn, 1) := by decide +kernel
theorem dX8_comesToAim_78 : decode cX8_comesToAim 78 = .ok (.iinc 2 1, 3) := by decide +kernel
theorem dX8_comesToAim_81 : decode cX8_comesToAim 81 = .ok (.goto (-52), 3) := by decide +kernel
theorem dX8_comesToAim_84 : decode cX8_comesToAim 84 = .ok (.iconst 1, 1) := by decide +kernel
theorem dX8_comesToAim_85 : decode cX8_comesToAim 85 = .ok (.ireturn, 1) := by decide +kernel
theorem dX8_nextOrder_0 : decode cX8_nextOrder 0 = .ok (.iload_n 1, 1) := by decide +kernel
theorem dX8_nextOrder_1 : decode cX8_nextOrder 1 = .ok (.iconst 2, 1) := by decide +kernel
theorem dX8_nextOrder_2 : decode cX8_nextOrder 2 = .ok (.isub, 1) := by decide +kernel
theorem dX8_nextOrder_3 : decode cX8_nextOrder 3 = .ok (.istore_n 2, 1) := by decide +kernel
theorem dX8_nextOrder_4 : decode cX8_nextOrder 4 = .ok (.iload_n 2, 1) := by decide +kernel
theorem dX8_nextOrder_5 : decode cX8_nextOrder 5 = .ok (.ifCond .lt 26, 3) := by decide +kernel
theorem dX8_nextOrder_8 : decode cX8_nextOrder 8 = .ok (.aload_n 0, 1) := by decide +kernel
theorem dX8_nextOrder_9 : decode cX8_nextOrder 9 = .ok (.getfield 22, 3) := by decide +kernel
theorem dX8_nextOrder_12 : decode cX8_nextOrder 12 = .ok (.iload_n 2, 1) := by decide +kernel
theorem dX8_nextOrder_13 : decode cX8_nextOrder 13 = .ok (.iaload, 1) := by decide +kernel
theorem dX8_nextOrder_14 : decode cX8_nextOrder 14 = .ok (.aload_n 0, 1) := by decide +kernel
theorem dX8_nextOrder_15 : decode cX8_nextOrder 15 = .ok (.getfield 22, 3) := by decide +kernel
theorem dX8_nextOrder_18 : decode cX8_nextOrder 18 = .ok (.iload_n 2, 1) := by decide +kernel
theorem dX8_nextOrder_19 : decode cX8_nextOrder 19 = .ok (.iconst 1, 1) := by decide +kernel
theorem dX8_nextOrder_20 : decode cX8_nextOrder 20 = .ok (.iadd, 1) := by decide +kernel
theorem dX8_nextOrder_21 : decode cX8_nextOrder 21 = .ok (.iaload, 1) := by decide +kernel
theorem dX8_nextOrder_22 : decode cX8_nextOrder 22 = .ok (.if_icmp .le 9, 3) := by decide +kernel
theorem dX8_nextOrder_25 : decode cX8_nextOrder 25 = .ok (.iinc 2 (-1), 3) := by decide +kernel
theorem dX8_nextOrder_28 : decode cX8_nextOrder 28 = .ok (.goto (-24), 3) := by decide +kernel
theorem dX8_nextOrder_31 : decode cX8_nextOrder 31 = .ok (.iload_n 2, 1) := by decide +kernel
theorem dX8_nextOrder_32 : decode cX8_nextOrder 32 = .ok (.ifCond .ge 5, 3) := by decide +kernel
theorem dX8_nextOrder_35 : decode cX8_nextOrder 35 = .ok (.iconst 0, 1) := by decide +kernel
theorem dX8_nextOrder_36 : decode cX8_nextOrder 36 = .ok (.ireturn, 1) := by decide +kernel
theorem dX8_nextOrder_37 : decode cX8_nextOrder 37 = .ok (.iload_n 1, 1) := by decide +kernel
theorem dX8_nextOrder_38 : decode cX8_nextOrder 38 = .ok (.iconst 1, 1) := by decide +kernel
theorem dX8_nextOrder_39 : decode cX8_nextOrder 39 = .ok (.isub, 1) := by decide +kernel
theorem dX8_nextOrder_40 : decode cX8_nextOrder 40 = .ok (.istore_n 3, 1) := by decide +kernel
theorem dX8_nextOrder_41 : decode cX8_nextOrder 41 = .ok (.iload_n 3, 1) := by decide +kernel
theorem dX8_nextOrder_42 : decode cX8_nextOrder 42 = .ok (.iload_n 2, 1) := by decide +kernel
theorem dX8_nextOrder_43 : decode cX8_nextOrder 43 = .ok (.if_icmp .le 24, 3) := by decide +kernel
theorem dX8_nextOrder_46 : decode cX8_nextOrder 46 = .ok (.aload_n 0, 1) := by decide +kernel
theorem dX8_nextOrder_47 : decode cX8_nextOrder 47 = .ok (.getfield 22, 3) := by decide +kernel
theorem dX8_nextOrder_50 : decode cX8_nextOrder 50 = .ok (.iload_n 3, 1) := by decide +kernel
theorem dX8_nextOrder_51 : decode cX8_nextOrder 51 = .ok (.iaload, 1) := by decide +kernel
theorem dX8_nextOrder_52 : decode cX8_nextOrder 52 = .ok (.aload_n 0, 1) := by decide +kernel
theorem dX8_nextOrder_53 : decode cX8_nextOrder 53 = .ok (.getfield 22, 3) := by decide +kernel
theorem dX8_nextOrder_56 : decode cX8_nextOrder 56 = .ok (.iload_n 2, 1) := by decide +kernel
theorem dX8_nextOrder_57 : decode cX8_nextOrder 57 = .ok (.iaload, 1) := by decide +kernel
theorem dX8_nextOrder_58 : decode cX8_nextOrder 58 = .ok (.if_icmp .ge 9, 3) := by decide +kernel
theorem dX8_nextOrder_61 : decode cX8_nextOrder 61 = .ok (.iinc 3 (-1), 3) := by decide +kernel
theorem dX8_nextOrder_64 : decode cX8_nextOrder 64 = .ok (.goto (-23), 3) := by decide +kernel
theorem dX8_nextOrder_67 : decode cX8_nextOrder 67 = .ok (.aload_n 0, 1) := by decide +kernel
theorem dX8_nextOrder_68 : decode cX8_nextOrder 68 = .ok (.iload_n 2, 1) := by decide +kernel
theorem dX8_nextOrder_69 : decode cX8_nextOrder 69 = .ok (.iload_n 3, 1) := by decide +kernel
theorem dX8_nextOrder_70 : decode cX8_nextOrder 70 = .ok (.invokevirtual 179, 3) := by decide +kernel
theorem dX8_nextOrder_73 : decode cX8_nextOrder 73 = .ok (.iload_n 1, 1) := by decide +kernel
theorem dX8_nextOrder_74 : decode cX8_nextOrder 74 = .ok (.iconst 1, 1) := by decide +kernel
theorem dX8_nextOrder_75 : decode cX8_nextOrder 75 = .ok (.isub, 1) := by decide +kernel
theorem dX8_nextOrder_76 : decode cX8_nextOrder 76 = .ok (.istore 4, 2) := by decide +kernel
theorem dX8_nextOrder_78 : decode cX8_nextOrder 78 = .ok (.iload_n 2, 1) := by decide +kernel
theorem dX8_nextOrder_79 : decode cX8_nextOrder 79 = .ok (.iconst 1, 1) := by decide +kernel
theorem dX8_nextOrder_80 : decode cX8_nextOrder 80 = .ok (.iadd, 1) := by decide +kernel
theorem dX8_nextOrder_81 : decode cX8_nextOrder 81 = .ok (.istore 5, 2) := by decide +kernel
theorem dX8_nextOrder_83 : decode cX8_nextOrder 83 = .ok (.iload 5, 2) := by decide +kernel
theorem dX8_nextOrder_85 : decode cX8_nextOrder 85 = .ok (.iload 4, 2) := by decide +kernel
theorem dX8_nextOrder_87 : decode cX8_nextOrder 87 = .ok (.if_icmp .ge 20, 3) := by decide +kernel
theorem dX8_nextOrder_90 : decode cX8_nextOrder 90 = .ok (.aload_n 0, 1) := by decide +kernel
theorem dX8_nextOrder_91 : decode cX8_nextOrder 91 = .ok (.iload 5, 2) := by decide +kernel
theorem dX8_nextOrder_93 : decode cX8_nextOrder 93 = .ok (.iload 4, 2) := by decide +kernel
theorem dX8_nextOrder_95 : decode cX8_nextOrder 95 = .ok (.invokevirtual 179, 3) := by decide +kernel
theorem dX8_nextOrder_98 : decode cX8_nextOrder 98 = .ok (.iinc 4 (-1), 3) := by decide +kernel
theorem dX8_nextOrder_101 : decode cX8_nextOrder 101 = .ok (.iinc 5 1, 3) := by decide +kernel
theorem dX8_nextOrder_104 : decode cX8_nextOrder 104 = .ok (.goto (-21), 3) := by decide +kernel
theorem dX8_nextOrder_107 : decode cX8_nextOrder 107 = .ok (.iconst 1, 1) := by decide +kernel
theorem dX8_nextOrder_108 : decode cX8_nextOrder 108 = .ok (.ireturn, 1) := by decide +kernel
theorem dX8_exchange_0 : decode cX8_exchange 0 = .ok (.aload_n 0, 1) := by decide +kernel
theorem dX8_exchange_1 : decode cX8_exchange 1 = .ok (.getfield 22, 3) := by decide +kernel
theorem dX8_exchange_4 : decode cX8_exchange 4 = .ok (.iload_n 1, 1) := by decide +kernel
theorem dX8_exchange_5 : decode cX8_exchange 5 = .ok (.iaload, 1) := by decide +kernel
theorem dX8_exchange_6 : decode cX8_exchange 6 = .ok (.istore_n 3, 1) := by decide +kernel
theorem dX8_exchange_7 : decode cX8_exchange 7 = .ok (.aload_n 0, 1) := by decide +kernel
theorem dX8_exchange_8 : decode cX8_exchange 8 = .ok (.getfield 22, 3) := by decide +kernel
theorem dX8_exchange_11 : decode cX8_exchange 11 = .ok (.iload_n 1, 1) := by decide +kernel
theorem dX8_exchange_12 : decode cX8_exchange 12 = .ok (.aload_n 0, 1) := by decide +kernel
theorem dX8_exchange_13 : decode cX8_exchange 13 = .ok (.getfield 22, 3) := by decide +kernel
theorem dX8_exchange_16 : decode cX8_exchange 16 = .ok (.iload_n 2, 1) := by decide +kernel
theorem dX8_exchange_17 : decode cX8_exchange 17 = .ok (.iaload, 1) := by decide +kernel
theorem dX8_exchange_18 : decode cX8_exchange 18 = .ok (.iastore, 1) := by decide +kernel
theorem dX8_exchange_19 : decode cX8_exchange 19 = .ok (.aload_n 0, 1) := by decide +kernel
theorem dX8_exchange_20 : decode cX8_exchange 20 = .ok (.getfield 22, 3) := by decide +kernel
theorem dX8_exchange_23 : decode cX8_exchange 23 = .ok (.iload_n 2, 1) := by decide +kernel
theorem dX8_exchange_24 : decode cX8_exchange 24 = .ok (.iload_n 3, 1) := by decide +kernel
theorem dX8_exchange_25 : decode cX8_exchange 25 = .ok (.iastore, 1) := by decide +kernel
theorem dX8_exchange_26 : decode cX8_exchange 26 = .ok (.return_, 1) := by decide +kernel
theorem dX9_init_0 : decode cX9_init 0 = .ok (.aload_n 0, 1) := by decide +kernel
theorem dX9_init_1 : decode cX9_init 1 = .ok (.invokespecial 3, 3) := by decide +kernel
theorem dX9_init_4 : decode cX9_init 4 = .ok (.aload_n 0, 1) := by decide +kernel
theorem dX9_init_5 : decode cX9_init 5 = .ok (.new 9, 3) := by decide +kernel
theorem dX9_init_8 : decode cX9_init 8 = .ok (.dup, 1) := by decide +kernel
theorem dX9_init_9 : decode cX9_init 9 = .ok (.invokespecial 11, 3) := by decide +kernel
theorem dX9_init_12 : decode cX9_init 12 = .ok (.putfield 12, 3) := by decide +kernel
theorem dX9_init_15 : decode cX9_init 15 = .ok (.aload_n 0, 1) := by decide +kernel
theorem dX9_init_16 : decode cX9_init 16 = .ok (.new 18, 3) := by decide +kernel
theorem dX9_init_19 : decode cX9_init 19 = .ok (.dup, 1) := by decide +kernel
theorem dX9_init_20 : decode cX9_init 20 = .ok (.invokespecial 20, 3) := by decide +kernel
theorem dX9_init_23 : decode cX9_init 23 = .ok (.putfield 21, 3) := by decide +kernel
theorem dX9_init_26 : decode cX9_init 26 = .ok (.aload_n 0, 1) := by decide +kernel
theorem dX9_init_27 : decode cX9_init 27 = .ok (.new 25, 3) := by decide +kernel
theorem dX9_init_30 : decode cX9_init 30 = .ok (.dup, 1) := by decide +kernel
theorem dX9_init_31 : decode cX9_init 31 = .ok (.invokespecial 27, 3) := by decide +kernel
theorem dX9_init_34 : decode cX9_init 34 = .ok (.putfield 28, 3) := by decide +kernel
theorem dX9_init_37 : decode cX9_init 37 = .ok (.return_, 1) := by decide +kernel
theorem dX9_begin_0 : decode cX9_begin 0 = .ok (.aload_n 0, 1) := by decide +kernel
theorem dX9_begin_1 : decode cX9_begin 1 = .ok (.getfield 12, 3) := by decide +kernel
theorem dX9_begin_4 : decode cX9_begin 4 = .ok (.aload_n 1, 1) := by decide +kernel
theorem dX9_begin_5 : decode cX9_begin 5 = .ok (.getfield 32, 3) := by decide +kernel
theorem dX9_begin_8 : decode cX9_begin 8 = .ok (.invokevirtual 37, 3) := by decide +kernel
theorem dX9_begin_11 : decode cX9_begin 11 = .ok (.aload_n 0, 1) := by decide +kernel
theorem dX9_begin_12 : decode cX9_begin 12 = .ok (.getfield 21, 3) := by decide +kernel
theorem dX9_begin_15 : decode cX9_begin 15 = .ok (.aload_n 1, 1) := by decide +kernel
theorem dX9_begin_16 : decode cX9_begin 16 = .ok (.getfield 41, 3) := by decide +kernel
theorem dX9_begin_19 : decode cX9_begin 19 = .ok (.invokevirtual 45, 3) := by decide +kernel
theorem dX9_begin_22 : decode cX9_begin 22 = .ok (.aload_n 0, 1) := by decide +kernel
theorem dX9_begin_23 : decode cX9_begin 23 = .ok (.getfield 28, 3) := by decide +kernel
theorem dX9_begin_26 : decode cX9_begin 26 = .ok (.iconst 0, 1) := by decide +kernel
theorem dX9_begin_27 : decode cX9_begin 27 = .ok (.putfield 49, 3) := by decide +kernel
theorem dX9_begin_30 : decode cX9_begin 30 = .ok (.aload_n 0, 1) := by decide +kernel
theorem dX9_begin_31 : decode cX9_begin 31 = .ok (.iconst 0, 1) := by decide +kernel
theorem dX9_begin_32 : decode cX9_begin 32 = .ok (.putfield 52, 3) := by decide +kernel
theorem dX9_begin_35 : decode cX9_begin 35 = .ok (.aload_n 0, 1) := by decide +kernel
theorem dX9_begin_36 : decode cX9_begin 36 = .ok (.iconst 0, 1) := by decide +kernel
theorem dX9_begin_37 : decode cX9_begin 37 = .ok (.putfield 56, 3) := by decide +kernel
theorem dX9_begin_40 : decode cX9_begin 40 = .ok (.aload_n 0, 1) := by decide +kernel
theorem dX9_begin_41 : decode cX9_begin 41 = .ok (.iconst 0, 1) := by decide +kernel
theorem dX9_begin_42 : decode cX9_begin 42 = .ok (.putfield 59, 3) := by decide +kernel
theorem dX9_begin_45 : decode cX9_begin 45 = .ok (.return_, 1) := by decide +kernel
theorem dX9_copyFrom_0 : decode cX9_copyFrom 0 = .ok (.aload_n 0, 1) := by decide +kernel
theorem dX9_copyFrom_1 : decode cX9_copyFrom 1 = .ok (.getfield 12, 3) := by decide +kernel
theorem dX9_copyFrom_4 : decode cX9_copyFrom 4 = .ok (.aload_n 1, 1) := by decide +kernel
theorem dX9_copyFrom_5 : decode cX9_copyFrom 5 = .ok (.getfield 12, 3) := by decide +kernel
theorem dX9_copyFrom_8 : decode cX9_copyFrom 8 = .ok (.invokevirtual 37, 3) := by decide +kernel
theorem dX9_copyFrom_11 : decode cX9_copyFrom 11 = .ok (.aload_n 0, 1) := by decide +kernel
theorem dX9_copyFrom_12 : decode cX9_copyFrom 12 = .ok (.getfield 21, 3) := by decide +kernel
theorem dX9_copyFrom_15 : decode cX9_copyFrom 15 = .ok (.aload_n 1, 1) := by decide +kernel
theorem dX9_copyFrom_16 : decode cX9_copyFrom 16 = .ok (.getfield 21, 3) := by decide +kernel
theorem dX9_copyFrom_19 : decode cX9_copyFrom 19 = .ok (.invokevirtual 62, 3) := by decide +kernel
theorem dX9_copyFrom_22 : decode cX9_copyFrom 22 = .ok (.aload_n 0, 1) := by decide +kernel
theorem dX9_copyFrom_23 : decode cX9_copyFrom 23 = .ok (.getfield 28, 3) := by decide +kernel
theorem dX9_copyFrom_26 : decode cX9_copyFrom 26 = .ok (.aload_n 1, 1) := by decide +kernel
theorem dX9_copyFrom_27 : decode cX9_copyFrom 27 = .ok (.getfield 28, 3) := by decide +kernel
theorem dX9_copyFrom_30 : decode cX9_copyFrom 30 = .ok (.invokevirtual 65, 3) := by decide +kernel
theorem dX9_copyFrom_33 : decode cX9_copyFrom 33 = .ok (.aload_n 0, 1) := by decide +kernel
theorem dX9_copyFrom_34 : decode cX9_copyFrom 34 = .ok (.aload_n 1, 1) := by decide +kernel
theorem dX9_copyFrom_35 : decode cX9_copyFrom 35 = .ok (.getfield 52, 3) := by decide +kernel
theorem dX9_copyFrom_38 : decode cX9_copyFrom 38 = .ok (.putfield 52, 3) := by decide +kernel
theorem dX9_copyFrom_41 : decode cX9_copyFrom 41 = .ok (.aload_n 0, 1) := by decide +kernel
theorem dX9_copyFrom_42 : decode cX9_copyFrom 42 = .ok (.aload_n 1, 1) := by decide +kernel
theorem dX9_copyFrom_43 : decode cX9_copyFrom 43 = .ok (.getfield 56, 3) := by decide +kernel
theorem dX9_copyFrom_46 : decode cX9_copyFrom 46 = .ok (.putfield 56, 3) := by decide +kernel
theorem dX9_copyFrom_49 : decode cX9_copyFrom 49 = .ok (.aload_n 0, 1) := by decide +kernel
theorem dX9_copyFrom_50 : decode cX9_copyFrom 50 = .ok (.aload_n 1, 1) := by decide +kernel
theorem dX9_copyFrom_51 : decode cX9_copyFrom 51 = .ok (.getfield 59, 3) := by decide +kernel
theorem dX9_copyFrom_54 : decode cX9_copyFrom 54 = .ok (.putfield 59, 3) := by decide +kernel
theorem dX9_copyFrom_57 : decode cX9_copyFrom 57 = .ok (.return_, 1) := by decide +kernel
theorem dX9_act_0 : decode cX9_act 0 = .ok (.aload_n 0, 1) := by decide +kernel
theorem dX9_act_1 : decode cX9_act 1 = .ok (.getfield 21, 3) := by decide +kernel
theorem dX9_act_4 : decode cX9_act 4 = .ok (.iload_n 1, 1) := by decide +kernel
theorem dX9_act_5 : decode cX9_act 5 = .ok (.iload_n 2, 1) := by decide +kernel
theorem dX9_act_6 : decode cX9_act 6 = .ok (.invokevirtual 68, 3) := by decide +kernel
theorem dX9_act_9 : decode cX9_act 9 = .ok (.ifCond .ne 5, 3) := by decide +kernel
theorem dX9_act_12 : decode cX9_act 12 = .ok (.iconst (-1), 1) := by decide +kernel
theorem dX9_act_13 : decode cX9_act 13 = .ok (.ireturn, 1) := by decide +kernel
theorem dX9_act_14 : decode cX9_act 14 = .ok (.iconst 0, 1) := by decide +kernel
theorem dX9_act_15 : decode cX9_act 15 = .ok (.istore 6, 2) := by decide +kernel
theorem dX9_act_17 : decode cX9_act 17 = .ok (.iload_n 2, 1) := by decide +kernel
theorem dX9_act_18 : decode cX9_act 18 = .ok (.ifCond .ne 16, 3) := by decide +kernel
theorem dX9_act_21 : decode cX9_act 21 = .ok (.aload_n 0, 1) := by decide +kernel
theorem dX9_act_22 : decode cX9_act 22 = .ok (.getfield 21, 3) := by decide +kernel
theorem dX9_act_25 : decode cX9_act 25 = .ok (.getfield 72, 3) := by decide +kernel
theorem dX9_act_28 : decode cX9_act 28 = .ok (.iload_n 1, 1) := by decide +kernel
theorem dX9_act_29 : decode cX9_act 29 = .ok (.iconst 1, 1) := by decide +kernel
theorem dX9_act_30 : decode cX9_act 30 = .ok (.iastore, 1) := by decide +kernel
theorem dX9_act_31 : decode cX9_act 31 = .ok (.goto 81, 3) := by decide +kernel
theorem dX9_act_34 : decode cX9_act 34 = .ok (.iload_n 2, 1) := by decide +kernel
theorem dX9_act_35 : decode cX9_act 35 = .ok (.bipush 7, 2) := by decide +kernel
theorem dX9_act_37 : decode cX9_act 37 = .ok (.if_icmp .ne 16, 3) := by decide +kernel
theorem dX9_act_40 : decode cX9_act 40 = .ok (.aload_n 0, 1) := by decide +kernel
theorem dX9_act_41 : decode cX9_act 41 = .ok (.iload_n 1, 1) := by decide +kernel
theorem dX9_act_42 : decode cX9_act 42 = .ok (.invokevirtual 76, 3) := by decide +kernel
theorem dX9_act_45 : decode cX9_act 45 = .ok (.aload_n 0, 1) := by decide +kernel
theorem dX9_act_46 : decode cX9_act 46 = .ok (.iload_n 1, 1) := by decide +kernel
theorem dX9_act_47 : decode cX9_act 47 = .ok (.invokevirtual 79, 3) := by decide +kernel
theorem dX9_act_50 : decode cX9_act 50 = .ok (.goto 62, 3) := by decide +kernel
theorem dX9_act_53 : decode cX9_act 53 = .ok (.iload_n 2, 1) := by decide +kernel
theorem dX9_act_54 : decode cX9_act 54 = .ok (.bipush 8, 2) := by decide +kernel
theorem dX9_act_56 : decode cX9_act 56 = .ok (.if_icmp .ne 16, 3) := by decide +kernel
theorem dX9_act_59 : decode cX9_act 59 = .ok (.aload_n 0, 1) := by decide +kernel
theorem dX9_act_60 : decode cX9_act 60 = .ok (.iload_n 1, 1) := by decide +kernel
theorem dX9_act_61 : decode cX9_act 61 = .ok (.invokevirtual 82, 3) := by decide +kernel
theorem dX9_act_64 : decode cX9_act 64 = .ok (.aload_n 0, 1) := by decide +kernel
theorem dX9_act_65 : decode cX9_act 65 = .ok (.iload_n 1, 1) := by decide +kernel
theorem dX9_act_66 : decode cX9_act 66 = .ok (.invokevirtual 79, 3) := by decide +kernel
theorem dX9_act_69 : decode cX9_act 69 = .ok (.goto 43, 3) := by decide +kernel
theorem dX9_act_72 : decode cX9_act 72 = .ok (.aload_n 0, 1) := by decide +kernel
theorem dX9_act_73 : decode cX9_act 73 = .ok (.getfield 21, 3) := by decide +kernel
theorem dX9_act_76 : decode cX9_act 76 = .ok (.iload_n 1, 1) := by decide +kernel
theorem dX9_act_77 : decode cX9_act 77 = .ok (.iload_n 2, 1) := by decide +kernel
theorem dX9_act_78 : decode cX9_act 78 = .ok (.iload_n 3, 1) := by decide +kernel
theorem dX9_act_79 : decode cX9_act 79 = .ok (.iload 4, 2) := by decide +kernel
theorem dX9_act_81 : decode cX9_act 81 = .ok (.iload 5, 2) := by decide +kernel
theorem dX9_act_83 : decode cX9_act 83 = .ok (.invokevirtual 85, 3) := by decide +kernel
theorem dX9_act_86 : decode cX9_act 86 = .ok (.aload_n 0, 1) := by decide +kernel
theorem dX9_act_87 : decode cX9_act 87 = .ok (.iload_n 1, 1) := by decide +kernel
theorem dX9_act_88 : decode cX9_act 88 = .ok (.invokevirtual 89, 3) := by decide +kernel
theorem dX9_act_91 : decode cX9_act 91 = .ok (.istore 6, 2) := by decide +kernel
theorem dX9_act_93 : decode cX9_act 93 = .ok (.iload 6, 2) := by decide +kernel
theorem dX9_act_95 : decode cX9_act 95 = .ok (.bipush (-2), 2) := by decide +kernel
theorem dX9_act_97 : decode cX9_act 97 = .ok (.if_icmp .ne 11, 3) := by decide +kernel
theorem dX9_act_100 : decode cX9_act 100 = .ok (.aload_n 0, 1) := by decide +kernel
theorem dX9_act_101 : decode cX9_act 101 = .ok (.iload_n 1, 1) := by decide +kernel
theorem dX9_act_102 : decode cX9_act 102 = .ok (.invokevirtual 93, 3) := by decide +kernel
theorem dX9_act_105 : decode cX9_act 105 = .ok (.goto 5, 3) := by decide +kernel
theorem dX9_act_108 : decode cX9_act 108 = .ok (.iload 6, 2) := by decide +kernel
theorem dX9_act_110 : decode cX9_act 110 = .ok (.istore 6, 2) := by decide +kernel
theorem dX9_act_112 : decode cX9_act 112 = .ok (.iload 6, 2) := by decide +kernel
theorem dX9_act_114 : decode cX9_act 114 = .ok (.iconst (-1), 1) := by decide +kernel
theorem dX9_act_115 : decode cX9_act 115 = .ok (.if_icmp .ne 5, 3) := by decide +kernel
theorem dX9_act_118 : decode cX9_act 118 = .ok (.iconst (-1), 1) := by decide +kernel
theorem dX9_act_119 : decode cX9_act 119 = .ok (.ireturn, 1) := by decide +kernel
theorem dX9_act_120 : decode cX9_act 120 = .ok (.aload_n 0, 1) := by decide +kernel
theorem dX9_act_121 : decode cX9_act 121 = .ok (.getfield 21, 3) := by decide +kernel
theorem dX9_act_124 : decode cX9_act 124 = .ok (.getfield 96, 3) := by decide +kernel
theorem dX9_act_127 : decode cX9_act 127 = .ok (.iload_n 1, 1) := by decide +kernel
theorem dX9_act_128 : decode cX9_act 128 = .ok (.iload 6, 2) := by decide +kernel
theorem dX9_act_130 : decode cX9_act 130 = .ok (.iastore, 1) := by decide +kernel
theorem dX9_act_131 : decode cX9_act 131 = .ok (.iload_n 2, 1) := by decide +kernel
theorem dX9_act_132 : decode cX9_act 132 = .ok (.bipush 7, 2) := by decide +kernel
theorem dX9_act_134 : decode cX9_act 134 = .ok (.if_icmp .eq 16, 3) := by decide +kernel
theorem dX9_act_137 : decode cX9_act 137 = .ok (.iload_n 2, 1) := by decide +kernel
theorem dX9_act_138 : decode cX9_act 138 = .ok (.bipush 8, 2) := by decide +kernel
theorem dX9_act_140 : decode cX9_act 140 = .ok (.if_icmp .eq 10, 3) := by decide +kernel
theorem dX9_act_143 : decode cX9_act 143 = .ok (.iload 6, 2) := by decide +kernel
theorem dX9_act_145 : decode cX9_act 145 = .ok (.bipush (-3), 2) := by decide +kernel
theorem dX9_act_147 : decode cX9_act 147 = .ok (.if_icmp .ne 7, 3) := by decide +kernel
theorem dX9_act_150 : decode cX9_act 150 = .ok (.aload_n 0, 1) := by decide +kernel
theorem dX9_act_151 : decode cX9_act 151 = .ok (.invokevirtual 99, 3) := by decide +kernel
theorem dX9_act_154 : decode cX9_act 154 = .ok (.iload 6, 2) := by decide +kernel
theorem dX9_act_156 : decode cX9_act 156 = .ok (.ireturn, 1) := by decide +kernel
theorem dX9_wake_0 : decode cX9_wake 0 = .ok (.iconst 0, 1) := by decide +kernel
theorem dX9_wake_1 : decode cX9_wake 1 = .ok (.istore_n 1, 1) := by decide +kernel
theorem dX9_wake_2 : decode cX9_wake 2 = .ok (.iconst 0, 1) := by decide +kernel
theorem dX9_wake_3 : decode cX9_wake 3 = .ok (.istore_n 2, 1) := by decide +kernel
theorem dX9_wake_4 : decode cX9_wake 4 = .ok (.iload_n 2, 1) := by decide +kernel
theorem dX9_wake_5 : decode cX9_wake 5 = .ok (.ldc 102, 2) := by decide +kernel
theorem dX9_wake_7 : decode cX9_wake 7 = .ok (.if_icmp .ge 128, 3) := by decide +kernel
theorem dX9_wake_10 : decode cX9_wake 10 = .ok (.iload_n 1, 1) := by decide +kernel
theorem dX9_wake_11 : decode cX9_wake 11 = .ok (.aload_n 0, 1) := by decide +kernel
theorem dX9_wake_12 : decode cX9_wake 12 = .ok (.getfield 21, 3) := by decide +kernel
theorem dX9_wake_15 : decode cX9_wake 15 = .ok (.getfield 103, 3) := by decide +kernel
theorem dX9_wake_18 : decode cX9_wake 18 = .ok (.if_icmp .ge 117, 3) := by decide +kernel
theorem dX9_wake_21 : decode cX9_wake 21 = .ok (.aload_n 0, 1) := by decide +kernel
theorem dX9_wake_22 : decode cX9_wake 22 = .ok (.getfield 21, 3) := by decide +kernel
theorem dX9_wake_25 : decode cX9_wake 25 = .ok (.getfield 106, 3) := by decide +kernel
theorem dX9_wake_28 : decode cX9_wake 28 = .ok (.iload_n 1, 1) := by decide +kernel
theorem dX9_wake_29 : decode cX9_wake 29 = .ok (.iaload, 1) := by decide +kernel
theorem dX9_wake_30 : decode cX9_wake 30 = .ok (.istore_n 3, 1) := by decide +kernel
theorem dX9_wake_31 : decode cX9_wake 31 = .ok (.aload_n 0, 1) := by decide +kernel
theorem dX9_wake_32 : decode cX9_wake 32 = .ok (.iload_n 3, 1) := by decide +kernel
theorem dX9_wake_33 : decode cX9_wake 33 = .ok (.invokevirtual 89, 3) := by decide +kernel
theorem dX9_wake_36 : decode cX9_wake 36 = .ok (.istore 4, 2) := by decide +kernel
theorem dX9_wake_38 : decode cX9_wake 38 = .ok (.iload 4, 2) := by decide +kernel
theorem dX9_wake_40 : decode cX9_wake 40 = .ok (.bipush (-2), 2) := by decide +kernel
theorem dX9_wake_42 : decode cX9_wake 42 = .ok (.if_icmp .ne 41, 3) := by decide +kernel
theorem dX9_wake_45 : decode cX9_wake 45 = .ok (.aload_n 0, 1) := by decide +kernel
theorem dX9_wake_46 : decode cX9_wake 46 = .ok (.getfield 109, 3) := by decide +kernel
theorem dX9_wake_49 : decode cX9_wake 49 = .ok (.aload_n 0, 1) := by decide +kernel
theorem dX9_wake_50 : decode cX9_wake 50 = .ok (.getfield 21, 3) := by decide +kernel
theorem dX9_wake_53 : decode cX9_wake 53 = .ok (.getfield 112, 3) := by decide +kernel
theorem dX9_wake_56 : decode cX9_wake 56 = .ok (.iload_n 3, 1) := by decide +kernel
theorem dX9_wake_57 : decode cX9_wake 57 = .ok (.iaload, 1) := by decide +kernel
theorem dX9_wake_58 : decode cX9_wake 58 = .ok (.if_icmp .ne 25, 3) := by decide +kernel
theorem dX9_wake_61 : decode cX9_wake 61 = .ok (.aload_n 0, 1) := by decide +kernel
theorem dX9_wake_62 : decode cX9_wake 62 = .ok (.getfield 114, 3) := by decide +kernel
theorem dX9_wake_65 : decode cX9_wake 65 = .ok (.aload_n 0, 1) := by decide +kernel
theorem dX9_wake_66 : decode cX9_wake 66 = .ok (.getfield 21, 3) := by decide +kernel
theorem dX9_wake_69 : decode cX9_wake 69 = .ok (.getfield 117, 3) := by decide +kernel
theorem dX9_wake_72 : decode cX9_wake 72 = .ok (.iload_n 3, 1) := by decide +kernel
theorem dX9_wake_73 : decode cX9_wake 73 = .ok (.iaload, 1) := by decide +kernel
theorem dX9_wake_74 : decode cX9_wake 74 = .ok (.if_icmp .ne 9, 3) := by decide +kernel
theorem dX9_wake_77 : decode cX9_wake 77 = .ok (.iinc 1 1, 3) := by decide +kernel
theorem dX9_wake_80 : decode cX9_wake 80 = .ok (.goto 49, 3) := by decide +kernel
theorem dX9_wake_83 : decode cX9_wake 83 = .ok (.aload_n 0, 1) := by decide +kernel
theorem dX9_wake_84 : decode cX9_wake 84 = .ok (.getfield 21, 3) := by decide +kernel
theorem dX9_wake_87 : decode cX9_wake 87 = .ok (.iload_n 3, 1) := by decide +kernel
theorem dX9_wake_88 : decode cX9_wake 88 = .ok (.invokevirtual 119, 3) := by decide +kernel
theorem dX9_wake_91 : decode cX9_wake 91 = .ok (.aload_n 0, 1) := by decide +kernel
theorem dX9_wake_92 : decode cX9_wake 92 = .ok (.getfield 21, 3) := by decide +kernel
theorem dX9_wake_95 : decode cX9_wake 95 = .ok (.getfield 72, 3) := by decide +kernel
theorem dX9_wake_98 : decode cX9_wake 98 = .ok (.iload_n 3, 1) := by decide +kernel
theorem dX9_wake_99 : decode cX9_wake 99 = .ok (.iconst 1, 1) := by decide +kernel
theorem dX9_wake_100 : decode cX9_wake 100 = .ok (.iastore, 1) := by decide +kernel
theorem dX9_wake_101 : decode cX9_wake 101 = .ok (.aload_n 0, 1) := by decide +kernel
theorem dX9_wake_102 : decode cX9_wake 102 = .ok (.getfield 21, 3) := by decide +kernel
theorem dX9_wake_105 : decode cX9_wake 105 = .ok (.getfield 96, 3) := by decide +kernel
theorem dX9_wake_108 : decode cX9_wake 108 = .ok (.iload_n 3, 1) := by decide +kernel
theorem dX9_wake_109 : decode cX9_wake 109 = .ok (.iload 4, 2) := by decide +kernel
theorem dX9_wake_111 : decode cX9_wake 111 = .ok (.bipush (-2), 2) := by decide +kernel
theorem dX9_wake_113 : decode cX9_wake 113 = .ok (.if_icmp .ne 11, 3) := by decide +kernel
theorem dX9_wake_116 : decode cX9_wake 116 = .ok (.aload_n 0, 1) := by decide +kernel
theorem dX9_wake_117 : decode cX9_wake 117 = .ok (.iload_n 3, 1) := by decide +kernel
theorem dX9_wake_118 : decode cX9_wake 118 = .ok (.invokevirtual 93, 3) := by decide +kernel
theorem dX9_wake_121 : decode cX9_wake 121 = .ok (.goto 5, 3) := by decide +kernel
theorem dX9_wake_124 : decode cX9_wake 124 = .ok (.iload 4, 2) := by decide +kernel
theorem dX9_wake_126 : decode cX9_wake 126 = .ok (.iastore, 1) := by decide +kernel
theorem dX9_wake_127 : decode cX9_wake 127 = .ok (.iconst 0, 1) := by decide +kernel
theorem dX9_wake_128 : decode cX9_wake 128 = .ok (.istore_n 1, 1) := by decide +kernel
theorem dX9_wake_129 : decode cX9_wake 129 = .ok (.iinc 2 1, 3) := by decide +kernel
theorem dX9_wake_132 : decode cX9_wake 132 = .ok (.goto (-128), 3) := by decide +kernel
theorem dX9_wake_135 : decode cX9_wake 135 = .ok (.return_, 1) := by decide +kernel
theorem dX9_attempt_0 : decode cX9_attempt 0 = .ok (.aload_n 0, 1) := by decide +kernel
theorem dX9_attempt_1 : decode cX9_attempt 1 = .ok (.getfield 21, 3) := by decide +kernel
theorem dX9_attempt_4 : decode cX9_attempt 4 = .ok (.getfield 122, 3) := by decide +kernel
theorem dX9_attempt_7 : decode cX9_attempt 7 = .ok (.iload_n 1, 1) := by decide +kernel
theorem dX9_attempt_8 : decode cX9_attempt 8 = .ok (.iaload, 1) := by decide +kernel
theorem dX9_attempt_9 : decode cX9_attempt 9 = .ok (.lookupswitch 39 #[(1, 27), (5, 33)], 27) := by decide +kernel
theorem dX9_attempt_36 : decode cX9_attempt 36 = .ok (.aload_n 0, 1) := by decide +kernel
theorem dX9_attempt_37 : decode cX9_attempt 37 = .ok (.iload_n 1, 1) := by decide +kernel
theorem dX9_attempt_38 : decode cX9_attempt 38 = .ok (.invokevirtual 125, 3) := by decide +kernel
theorem dX9_attempt_41 : decode cX9_attempt 41 = .ok (.ireturn, 1) := by decide +kernel
theorem dX9_attempt_42 : decode cX9_attempt 42 = .ok (.aload_n 0, 1) := by decide +kernel
theorem dX9_attempt_43 : decode cX9_attempt 43 = .ok (.iload_n 1, 1) := by decide +kernel
theorem dX9_attempt_44 : decode cX9_attempt 44 = .ok (.invokevirtual 128, 3) := by decide +kernel
theorem dX9_attempt_47 : decode cX9_attempt 47 = .ok (.ireturn, 1) := by decide +kernel
theorem dX9_attempt_48 : decode cX9_attempt 48 = .ok (.aload_n 0, 1) := by decide +kernel
theorem dX9_attempt_49 : decode cX9_attempt 49 = .ok (.iload_n 1, 1) := by decide +kernel
theorem dX9_attempt_50 : decode cX9_attempt 50 = .ok (.invokevirtual 131, 3) := by decide +kernel
theorem dX9_attempt_53 : decode cX9_attempt 53 = .ok (.ireturn, 1) := by decide +kernel
theorem dX9_stoppedAt_0 : decode cX9_stoppedAt 0 = .ok (.aload_n 0, 1) := by decide +kernel
theorem dX9_stoppedAt_1 : decode cX9_stoppedAt 1 = .ok (.iload_n 1, 1) := by decide +kernel
theorem dX9_stoppedAt_2 : decode cX9_stoppedAt 2 = .ok (.putfield 109, 3) := by decide +kernel
theorem dX9_stoppedAt_5 : decode cX9_stoppedAt 5 = .ok (.aload_n 0, 1) := by decide +kernel
theorem dX9_stoppedAt_6 : decode cX9_stoppedAt 6 = .ok (.iload_n 2, 1) := by decide +kernel
theorem dX9_stoppedAt_7 : decode cX9_stoppedAt 7 = .ok (.putfield 114, 3) := by decide +kernel
theorem dX9_stoppedAt_10 : decode cX9_stoppedAt 10 = .ok (.bipush (-2), 2) := by decide +kernel
theorem dX9_stoppedAt_12 : decode cX9_stoppedAt 12 = .ok (.ireturn, 1) := by decide +kernel
theorem dX9_readThrough_0 : decode cX9_readThrough 0 = .ok (.iconst 1, 1) := by decide +kernel
theorem dX9_readThrough_1 : decode cX9_readThrough 1 = .ok (.iload_n 1, 1) := by decide +kernel
theorem dX9_readThrough_2 : decode cX9_readThrough 2 = .ok (.ishl, 1) := by decide +kernel
theorem dX9_readThrough_3 : decode cX9_readThrough 3 = .ok (.istore_n 2, 1) := by decide +kernel
theorem dX9_readThrough_4 : decode cX9_readThrough 4 = .ok (.iconst 0, 1) := by decide +kernel
theorem dX9_readThrough_5 : decode cX9_readThrough 5 = .ok (.istore_n 3, 1) := by decide +kernel
theorem dX9_readThrough_6 : decode cX9_readThrough 6 = .ok (.aload_n 0, 1) := by decide +kernel
theorem dX9_readThrough_7 : decode cX9_readThrough 7 = .ok (.getfield 12, 3) := by decide +kernel
theorem dX9_readThrough_10 : decode cX9_readThrough 10 = .ok (.aload_n 0, 1) := by decide +kernel
theorem dX9_readThrough_11 : decode cX9_readThrough 11 = .ok (.getfield 21, 3) := by decide +kernel
theorem dX9_readThrough_14 : decode cX9_readThrough 14 = .ok (.getfield 134, 3) := by decide +kernel
theorem dX9_readThrough_17 : decode cX9_readThrough 17 = .ok (.iload_n 1, 1) := by decide +kernel
theorem dX9_readThrough_18 : decode cX9_readThrough 18 = .ok (.iaload, 1) := by decide +kernel
theorem dX9_readThrough_19 : decode cX9_readThrough 19 = .ok (.invokevirtual 137, 3) := by decide +kernel
theorem dX9_readThrough_22 : decode cX9_readThrough 22 = .ok (.istore 4, 2) := by decide +kernel
theorem dX9_readThrough_24 : decode cX9_readThrough 24 = .ok (.iload 4, 2) := by decide +kernel
theorem dX9_readThrough_26 : decode cX9_readThrough 26 = .ok (.aload_n 0, 1) := by decide +kernel
theorem dX9_readThrough_27 : decode cX9_readThrough 27 = .ok (.getfield 12, 3) := by decide +kernel
theorem dX9_readThrough_30 : decode cX9_readThrough 30 = .ok (.getfield 140, 3) := by decide +kernel
theorem dX9_readThrough_33 : decode cX9_readThrough 33 = .ok (.if_icmp .ge 130, 3) := by decide +kernel
theorem dX9_readThrough_36 : decode cX9_readThrough 36 = .ok (.aload_n 0, 1) := by decide +kernel
theorem dX9_readThrough_37 : decode cX9_readThrough 37 = .ok (.getfield 12, 3) := by decide +kernel
theorem dX9_readThrough_40 : decode cX9_readThrough 40 = .ok (.getfield 143, 3) := by decide +kernel
theorem dX9_readThrough_43 : decode cX9_readThrough 43 = .ok (.iload 4, 2) := by decide +kernel
theorem dX9_readThrough_45 : decode cX9_readThrough 45 = .ok (.iaload, 1) := by decide +kernel
theorem dX9_readThrough_46 : decode cX9_readThrough 46 = .ok (.aload_n 0, 1) := by decide +kernel
theorem dX9_readThrough_47 : decode cX9_readThrough 47 = .ok (.getfield 21, 3) := by decide +kernel
theorem dX9_readThrough_50 : decode cX9_readThrough 50 = .ok (.getfield 146, 3) := by decide +kernel
theorem dX9_readThrough_53 : decode cX9_readThrough 53 = .ok (.iload_n 1, 1) := by decide +kernel
theorem dX9_readThrough_54 : decode cX9_readThrough 54 = .ok (.iaload, 1) := by decide +kernel
theorem dX9_readThrough_55 : decode cX9_readThrough 55 = .ok (.if_icmp .gt 108, 3) := by decide +kernel
theorem dX9_readThrough_58 : decode cX9_readThrough 58 = .ok (.aload_n 0, 1) := by decide +kernel
theorem dX9_readThrough_59 : decode cX9_readThrough 59 = .ok (.getfield 56, 3) := by decide +kernel
theorem dX9_readThrough_62 : decode cX9_readThrough 62 = .ok (.ifCond .ne 64, 3) := by decide +kernel
theorem dX9_readThrough_65 : decode cX9_readThrough 65 = .ok (.aload_n 0, 1) := by decide +kernel
theorem dX9_readThrough_66 : decode cX9_readThrough 66 = .ok (.getfield 12, 3) := by decide +kernel
theorem dX9_readThrough_69 : decode cX9_readThrough 69 = .ok (.getfield 149, 3) := by decide +kernel
theorem dX9_readThrough_72 : decode cX9_readThrough 72 = .ok (.iload 4, 2) := by decide +kernel
theorem dX9_readThrough_74 : decode cX9_readThrough 74 = .ok (.dup2, 1) := by decide +kernel
theorem dX9_readThrough_75 : decode cX9_readThrough 75 = .ok (.iaload, 1) := by decide +kernel
theorem dX9_readThrough_76 : decode cX9_readThrough 76 = .ok (.iload_n 2, 1) := by decide +kernel
theorem dX9_readThrough_77 : decode cX9_readThrough 77 = .ok (.ior, 1) := by decide +kernel
theorem dX9_readThrough_78 : decode cX9_readThrough 78 = .ok (.iastore, 1) := by decide +kernel
theorem dX9_readThrough_79 : decode cX9_readThrough 79 = .ok (.aload_n 0, 1) := by decide +kernel
theorem dX9_readThrough_80 : decode cX9_readThrough 80 = .ok (.getfield 12, 3) := by decide +kernel
theorem dX9_readThrough_83 : decode cX9_readThrough 83 = .ok (.getfield 152, 3) := by decide +kernel
theorem dX9_readThrough_86 : decode cX9_readThrough 86 = .ok (.iload 4, 2) := by decide +kernel
theorem dX9_readThrough_88 : decode cX9_readThrough 88 = .ok (.iaload, 1) := by decide +kernel
theorem dX9_readThrough_89 : decode cX9_readThrough 89 = .ok (.iload_n 2, 1) := by decide +kernel
theorem dX9_readThrough_90 : decode cX9_readThrough 90 = .ok (.iconst (-1), 1) := by decide +kernel
theorem dX9_readThrough_91 : decode cX9_readThrough 91 = .ok (.ixor, 1) := by decide +kernel
theorem dX9_readThrough_92 : decode cX9_readThrough 92 = .ok (.iand, 1) := by decide +kernel
theorem dX9_readThrough_93 : decode cX9_readThrough 93 = .ok (.ifCond .eq 19, 3) := by decide +kernel
theorem dX9_readThrough_96 : decode cX9_readThrough 96 = .ok (.aload_n 0, 1) := by decide +kernel
theorem dX9_readThrough_97 : decode cX9_readThrough 97 = .ok (.iconst 1, 1) := by decide +kernel
theorem dX9_readThrough_98 : decode cX9_readThrough 98 = .ok (.aload_n 0, 1) := by decide +kernel
theorem dX9_readThrough_99 : decode cX9_readThrough 99 = .ok (.getfield 12, 3) := by decide +kernel
theorem dX9_readThrough_102 : decode cX9_readThrough 102 = .ok (.getfield 143, 3) := by decide +kernel
theorem dX9_readThrough_105 : decode cX9_readThrough 105 = .ok (.iload 4, 2) := by decide +kernel
theorem dX9_readThrough_107 : decode cX9_readThrough 107 = .ok (.iaload, 1) := by decide +kernel
theorem dX9_readThrough_108 : decode cX9_readThrough 108 = .ok (.invokevirtual 155, 3) := by decide +kernel
theorem dX9_readThrough_111 : decode cX9_readThrough 111 = .ok (.ireturn, 1) := by decide +kernel
theorem dX9_readThrough_112 : decode cX9_readThrough 112 = .ok (.aload_n 0, 1) := by decide +kernel
theorem dX9_readThrough_113 : decode cX9_readThrough 113 = .ok (.getfield 12, 3) := by decide +kernel
theorem dX9_readThrough_116 : decode cX9_readThrough 116 = .ok (.getfield 159, 3) := by decide +kernel
theorem dX9_readThrough_119 : decode cX9_readThrough 119 = .ok (.iload 4, 2) := by decide +kernel
theorem dX9_readThrough_121 : decode cX9_readThrough 121 = .ok (.dup2, 1) := by decide +kernel
theorem dX9_readThrough_122 : decode cX9_readThrough 122 = .ok (.iaload, 1) := by decide +kernel
theorem dX9_readThrough_123 : decode cX9_readThrough 123 = .ok (.iload_n 2, 1) := by decide +kernel
theorem dX9_readThrough_124 : decode cX9_readThrough 124 = .ok (.ior, 1) := by decide +kernel
theorem dX9_readThrough_125 : decode cX9_readThrough 125 = .ok (.iastore, 1) := by decide +kernel
theorem dX9_readThrough_126 : decode cX9_readThrough 126 = .ok (.iload_n 3, 1) := by decide +kernel
theorem dX9_readThrough_127 : decode cX9_readThrough 127 = .ok (.aload_n 0, 1) := by decide +kernel
theorem dX9_readThrough_128 : decode cX9_readThrough 128 = .ok (.getfield 12, 3) := by decide +kernel
theorem dX9_readThrough_131 : decode cX9_readThrough 131 = .ok (.getfield 162, 3) := by decide +kernel
theorem dX9_readThrough_134 : decode cX9_readThrough 134 = .ok (.iload 4, 2) := by decide +kernel
theorem dX9_readThrough_136 : decode cX9_readThrough 136 = .ok (.iaload, 1) := by decide +kernel
theorem dX9_readThrough_137 : decode cX9_readThrough 137 = .ok (.iload_n 1, 1) := by decide +kernel
theorem dX9_readThrough_138 : decode cX9_readThrough 138 = .ok (.if_icmp .ne 7, 3) := by decide +kernel
theorem dX9_readThrough_141 : decode cX9_readThrough 141 = .ok (.iconst 0, 1) := by decide +kernel
theorem dX9_readThrough_142 : decode cX9_readThrough 142 = .ok (.goto 13, 3) := by decide +kernel
theorem dX9_readThrough_145 : decode cX9_readThrough 145 = .ok (.aload_n 0, 1) := by decide +kernel
theorem dX9_readThrough_146 : decode cX9_readThrough 146 = .ok (.getfield 12, 3) := by decide +kernel
theorem dX9_readThrough_149 : decode cX9_readThrough 149 = .ok (.getfield 165, 3) := by decide +kernel
theorem dX9_readThrough_152 : decode cX9_readThrough 152 = .ok (.iload 4, 2) := by decide +kernel
theorem dX9_readThrough_154 : decode cX9_readThrough 154 = .ok (.iaload, 1) := by decide +kernel
theorem dX9_readThrough_155 : decode cX9_readThrough 155 = .ok (.iadd, 1) := by decide +kernel
theorem dX9_readThrough_156 : decode cX9_readThrough 156 = .ok (.istore_n 3, 1) := by decide +kernel
theorem dX9_readThrough_157 : decode cX9_readThrough 157 = .ok (.iinc 4 1, 3) := by decide +kernel
theorem dX9_readThrough_160 : decode cX9_readThrough 160 = .ok (.goto (-136), 3) := by decide +kernel
theorem dX9_readThrough_163 : decode cX9_readThrough 163 = .ok (.aload_n 0, 1) := by decide +kernel
theorem dX9_readThrough_164 : decode cX9_readThrough 164 = .ok (.getfield 56, 3) := by decide +kernel
theorem dX9_readThrough_167 : decode cX9_readThrough 167 = .ok (.ifCond .ne 17, 3) := by decide +kernel
theorem dX9_readThrough_170 : decode cX9_readThrough 170 = .ok (.aload_n 0, 1) := by decide +kernel
theorem dX9_readThrough_171 : decode cX9_readThrough 171 = .ok (.getfield 12, 3) := by decide +kernel
theorem dX9_readThrough_174 : decode cX9_readThrough 174 = .ok (.getfield 149, 3) := by decide +kernel
theorem dX9_readThrough_177 : decode cX9_readThrough 177 = .ok (.iload 4, 2) := by decide +kernel
theorem dX9_readThrough_179 : decode cX9_readThrough 179 = .ok (.dup2, 1) := by decide +kernel
theorem dX9_readThrough_180 : decode cX9_readThrough 180 = .ok (.iaload, 1) := by decide +kernel
theorem dX9_readThrough_181 : decode cX9_readThrough 181 = .ok (.iload_n 2, 1) := by decide +kernel
theorem dX9_readThrough_182 : decode cX9_readThrough 182 = .ok (.ior, 1) := by decide +kernel
theorem dX9_readThrough_183 : decode cX9_readThrough 183 = .ok (.iastore, 1) := by decide +kernel
theorem dX9_readThrough_184 : decode cX9_readThrough 184 = .ok (.iload_n 3, 1) := by decide +kernel
theorem dX9_readThrough_185 : decode cX9_readThrough 185 = .ok (.ireturn, 1) := by decide +kernel
theorem dX9_reach_0 : decode cX9_reach 0 = .ok (.aload_n 0, 1) := by decide +kernel
theorem dX9_reach_1 : decode cX9_reach 1 = .ok (.getfield 21, 3) := by decide +kernel
theorem dX9_reach_4 : decode cX9_reach 4 = .ok (.getfield 122, 3) := by decide +kernel
theorem dX9_reach_7 : decode cX9_reach 7 = .ok (.iload_n 1, 1) := by decide +kernel
theorem dX9_reach_8 : decode cX9_reach 8 = .ok (.iaload, 1) := by decide +kernel
theorem dX9_reach_9 : decode cX9_reach 9 = .ok (.istore_n 2, 1) := by decide +kernel
theorem dX9_reach_10 : decode cX9_reach 10 = .ok (.aload_n 0, 1) := by decide +kernel
theorem dX9_reach_11 : decode cX9_reach 11 = .ok (.getfield 21, 3) := by decide +kernel
theorem dX9_reach_14 : decode cX9_reach 14 = .ok (.getfield 134, 3) := by decide +kernel
theorem dX9_reach_17 : decode cX9_reach 17 = .ok (.iload_n 1, 1) := by decide +kernel
theorem dX9_reach_18 : decode cX9_reach 18 = .ok (.iaload, 1) := by decide +kernel
theorem dX9_reach_19 : decode cX9_reach 19 = .ok (.istore_n 3, 1) := by decide +kernel
theorem dX9_reach_20 : decode cX9_reach 20 = .ok (.aload_n 0, 1) := by decide +kernel
theorem dX9_reach_21 : decode cX9_reach 21 = .ok (.getfield 12, 3) := by decide +kernel
theorem dX9_reach_24 : decode cX9_reach 24 = .ok (.iload_n 3, 1) := by decide +kernel
theorem dX9_reach_25 : decode cX9_reach 25 = .ok (.invokevirtual 137, 3) := by decide +kernel
theorem dX9_reach_28 : decode cX9_reach 28 = .ok (.istore 4, 2) := by decide +kernel
theorem dX9_reach_30 : decode cX9_reach 30 = .ok (.aload_n 0, 1) := by decide +kernel
theorem dX9_reach_31 : decode cX9_reach 31 = .ok (.getfield 12, 3) := by decide +kernel
theorem dX9_reach_34 : decode cX9_reach 34 = .ok (.iload 4, 2) := by decide +kernel
theorem dX9_reach_36 : decode cX9_reach 36 = .ok (.iload_n 3, 1) := by decide +kernel
theorem dX9_reach_37 : decode cX9_reach 37 = .ok (.invokevirtual 168, 3) := by decide +kernel
theorem dX9_reach_40 : decode cX9_reach 40 = .ok (.istore 5, 2) := by decide +kernel
theorem dX9_reach_42 : decode cX9_reach 42 = .ok (.iload_n 2, 1) := by decide +kernel
theorem dX9_reach_43 : decode cX9_reach 43 = .ok (.iconst 2, 1) := by decide +kernel
theorem dX9_reach_44 : decode cX9_reach 44 = .ok (.if_icmp .ne 10, 3) := by decide +kernel
theorem dX9_reach_47 : decode cX9_reach 47 = .ok (.aload_n 0, 1) := by decide +kernel
theorem dX9_reach_48 : decode cX9_reach 48 = .ok (.getfield 56, 3) := by decide +kernel
theorem dX9_reach_51 : decode cX9_reach 51 = .ok (.ifCond .ne 63, 3) := by decide +kernel
theorem dX9_reach_54 : decode cX9_reach 54 = .ok (.iload 5, 2) := by decide +kernel
theorem dX9_reach_56 : decode cX9_reach 56 = .ok (.ifCond .ne 22, 3) := by decide +kernel
theorem dX9_reach_59 : decode cX9_reach 59 = .ok (.aload_n 0, 1) := by decide +kernel
theorem dX9_reach_60 : decode cX9_reach 60 = .ok (.getfield 12, 3) := by decide +kernel
theorem dX9_reach_63 : decode cX9_reach 63 = .ok (.getfield 149, 3) := by decide +kernel
theorem dX9_reach_66 : decode cX9_reach 66 = .ok (.iload 4, 2) := by decide +kernel
theorem dX9_reach_68 : decode cX9_reach 68 = .ok (.dup2, 1) := by decide +kernel
theorem dX9_reach_69 : decode cX9_reach 69 = .ok (.iaload, 1) := by decide +kernel
theorem dX9_reach_70 : decode cX9_reach 70 = .ok (.iconst 1, 1) := by decide +kernel
theorem dX9_reach_71 : decode cX9_reach 71 = .ok (.iload_n 1, 1) := by decide +kernel
theorem dX9_reach_72 : decode cX9_reach 72 = .ok (.ishl, 1) := by decide +kernel
theorem dX9_reach_73 : decode cX9_reach 73 = .ok (.ior, 1) := by decide +kernel
theorem dX9_reach_74 : decode cX9_reach 74 = .ok (.iastore, 1) := by decide +kernel
theorem dX9_reach_75 : decode cX9_reach 75 = .ok (.goto 39, 3) := by decide +kernel
theorem dX9_reach_78 : decode cX9_reach 78 = .ok (.aload_n 0, 1) := by decide +kernel
theorem dX9_reach_79 : decode cX9_reach 79 = .ok (.iload_n 1, 1) := by decide +kernel
theorem dX9_reach_80 : decode cX9_reach 80 = .ok (.iload 4, 2) := by decide +kernel
theorem dX9_reach_82 : decode cX9_reach 82 = .ok (.iload_n 2, 1) := by decide +kernel
theorem dX9_reach_83 : decode cX9_reach 83 = .ok (.iconst 2, 1) := by decide +kernel
theorem dX9_reach_84 : decode cX9_reach 84 = .ok (.if_icmp .eq 7, 3) := by decide +kernel
theorem dX9_reach_87 : decode cX9_reach 87 = .ok (.iconst 1, 1) := by decide +kernel
theorem dX9_reach_88 : decode cX9_reach 88 = .ok (.goto 4, 3) := by decide +kernel
theorem dX9_reach_91 : decode cX9_reach 91 = .ok (.iconst 0, 1) := by decide +kernel
theorem dX9_reach_92 : decode cX9_reach 92 = .ok (.invokevirtual 171, 3) := by decide +kernel
theorem dX9_reach_95 : decode cX9_reach 95 = .ok (.ifCond .ne 19, 3) := by decide +kernel
theorem dX9_reach_98 : decode cX9_reach 98 = .ok (.aload_n 0, 1) := by decide +kernel
theorem dX9_reach_99 : decode cX9_reach 99 = .ok (.iload_n 2, 1) := by decide +kernel
theorem dX9_reach_100 : decode cX9_reach 100 = .ok (.iconst 2, 1) := by decide +kernel
theorem dX9_reach_101 : decode cX9_reach 101 = .ok (.if_icmp .ne 7, 3) := by decide +kernel
theorem dX9_reach_104 : decode cX9_reach 104 = .ok (.iconst 1, 1) := by decide +kernel
theorem dX9_reach_105 : decode cX9_reach 105 = .ok (.goto 4, 3) := by decide +kernel
theorem dX9_reach_108 : decode cX9_reach 108 = .ok (.iconst 2, 1) := by decide +kernel
theorem dX9_reach_109 : decode cX9_reach 109 = .ok (.iload_n 3, 1) := by decide +kernel
theorem dX9_reach_110 : decode cX9_reach 110 = .ok (.invokevirtual 155, 3) := by decide +kernel
theorem dX9_reach_113 : decode cX9_reach 113 = .ok (.ireturn, 1) := by decide +kernel
theorem dX9_reach_114 : decode cX9_reach 114 = .ok (.iload 5, 2) := by decide +kernel
theorem dX9_reach_116 : decode cX9_reach 116 = .ok (.ifCond .eq 17, 3) := by decide +kernel
theorem dX9_reach_119 : decode cX9_reach 119 = .ok (.aload_n 0, 1) := by decide +kernel
theorem dX9_reach_120 : decode cX9_reach 120 = .ok (.getfield 12, 3) := by decide +kernel
theorem dX9_reach_123 : decode cX9_reach 123 = .ok (.getfield 162, 3) := by decide +kernel
theorem dX9_reach_126 : decode cX9_reach 126 = .ok (.iload 4, 2) := by decide +kernel
theorem dX9_reach_128 : decode cX9_reach 128 = .ok (.iaload, 1) := by decide +kernel
theorem dX9_reach_129 : decode cX9_reach 129 = .ok (.iload_n 1, 1) := by decide +kernel
theorem dX9_reach_130 : decode cX9_reach 130 = .ok (.if_icmp .ne 6, 3) := by decide +kernel
theorem dX9_reach_133 : decode cX9_reach 133 = .ok (.bipush (-4), 2) := by decide +kernel
theorem dX9_reach_135 : decode cX9_reach 135 = .ok (.ireturn, 1) := by decide +kernel
theorem dX9_reach_136 : decode cX9_reach 136 = .ok (.aload_n 0, 1) := by decide +kernel
theorem dX9_reach_137 : decode cX9_reach 137 = .ok (.getfield 12, 3) := by decide +kernel
theorem dX9_reach_140 : decode cX9_reach 140 = .ok (.getfield 165, 3) := by decide +kernel
theorem dX9_reach_143 : decode cX9_reach 143 = .ok (.iload 4, 2) := by decide +kernel
theorem dX9_reach_145 : decode cX9_reach 145 = .ok (.iaload, 1) := by decide +kernel
theorem dX9_reach_146 : decode cX9_reach 146 = .ok (.istore 6, 2) := by decide +kernel
theorem dX9_reach_148 : decode cX9_reach 148 = .ok (.iload_n 2, 1) := by decide +kernel
theorem dX9_reach_149 : decode cX9_reach 149 = .ok (.iconst 4, 1) := by decide +kernel
theorem dX9_reach_150 : decode cX9_reach 150 = .ok (.if_icmp .ne 37, 3) := by decide +kernel
theorem dX9_reach_153 : decode cX9_reach 153 = .ok (.aload_n 0, 1) := by decide +kernel
theorem dX9_reach_154 : decode cX9_reach 154 = .ok (.getfield 28, 3) := by decide +kernel
theorem dX9_reach_157 : decode cX9_reach 157 = .ok (.iload_n 1, 1) := by decide +kernel
theorem dX9_reach_158 : decode cX9_reach 158 = .ok (.iconst 0, 1) := by decide +kernel
theorem dX9_reach_159 : decode cX9_reach 159 = .ok (.iload_n 3, 1) := by decide +kernel
theorem dX9_reach_160 : decode cX9_reach 160 = .ok (.iload 6, 2) := by decide +kernel
theorem dX9_reach_162 : decode cX9_reach 162 = .ok (.invokevirtual 175, 3) := by decide +kernel
theorem dX9_reach_165 : decode cX9_reach 165 = .ok (.aload_n 0, 1) := by decide +kernel
theorem dX9_reach_166 : decode cX9_reach 166 = .ok (.getfield 12, 3) := by decide +kernel
theorem dX9_reach_169 : decode cX9_reach 169 = .ok (.getfield 165, 3) := by decide +kernel
theorem dX9_reach_172 : decode cX9_reach 172 = .ok (.iload 4, 2) := by decide +kernel
theorem dX9_reach_174 : decode cX9_reach 174 = .ok (.aload_n 0, 1) := by decide +kernel
theorem dX9_reach_175 : decode cX9_reach 175 = .ok (.getfield 21, 3) := by decide +kernel
theorem dX9_reach_178 : decode cX9_reach 178 = .ok (.getfield 179, 3) := by decide +kernel
theorem dX9_reach_181 : decode cX9_reach 181 = .ok (.iload_n 1, 1) := by decide +kernel
theorem dX9_reach_182 : decode cX9_reach 182 = .ok (.iaload, 1) := by decide +kernel
theorem dX9_reach_183 : decode cX9_reach 183 = .ok (.iastore, 1) := by decide +kernel
theorem dX9_reach_184 : decode cX9_reach 184 = .ok (.goto 32, 3) := by decide +kernel
theorem dX9_reach_187 : decode cX9_reach 187 = .ok (.iload_n 2, 1) := by decide +kernel
theorem dX9_reach_188 : decode cX9_reach 188 = .ok (.bipush 6, 2) := by decide +kernel
theorem dX9_reach_190 : decode cX9_reach 190 = .ok (.if_icmp .ne 26, 3) := by decide +kernel
theorem dX9_reach_193 : decode cX9_reach 193 = .ok (.aload_n 0, 1) := by decide +kernel
theorem dX9_reach_194 : decode cX9_reach 194 = .ok (.getfield 28, 3) := by decide +kernel
theorem dX9_reach_197 : decode cX9_reach 197 = .ok (.iload_n 1, 1) := by decide +kernel
theorem dX9_reach_198 : decode cX9_reach 198 = .ok (.iconst 1, 1) := by decide +kernel
theorem dX9_reach_199 : decode cX9_reach 199 = .ok (.iload_n 3, 1) := by decide +kernel
theorem dX9_reach_200 : decode cX9_reach 200 = .ok (.iload 6, 2) := by decide +kernel
theorem dX9_reach_202 : decode cX9_reach 202 = .ok (.invokevirtual 175, 3) := by decide +kernel
theorem dX9_reach_205 : decode cX9_reach 205 = .ok (.aload_n 0, 1) := by decide +kernel
theorem dX9_reach_206 : decode cX9_reach 206 = .ok (.getfield 12, 3) := by decide +kernel
theorem dX9_reach_209 : decode cX9_reach 209 = .ok (.getfield 162, 3) := by decide +kernel
theorem dX9_reach_212 : decode cX9_reach 212 = .ok (.iload 4, 2) := by decide +kernel
theorem dX9_reach_214 : decode cX9_reach 214 = .ok (.iload_n 1, 1) := by decide +kernel
theorem dX9_reach_215 : decode cX9_reach 215 = .ok (.iastore, 1) := by decide +kernel
theorem dX9_reach_216 : decode cX9_reach 216 = .ok (.iload 6, 2) := by decide +kernel
theorem dX9_reach_218 : decode cX9_reach 218 = .ok (.ireturn, 1) := by decide +kernel
theorem dX9_locked_0 : decode cX9_locked 0 = .ok (.iconst 1, 1) := by decide +kernel
theorem dX9_locked_1 : decode cX9_locked 1 = .ok (.iload_n 1, 1) := by decide +kernel
theorem dX9_locked_2 : decode cX9_locked 2 = .ok (.ishl, 1) := by decide +kernel
theorem dX9_locked_3 : decode cX9_locked 3 = .ok (.istore 4, 2) := by decide +kernel
theorem dX9_locked_5 : decode cX9_locked 5 = .ok (.iload_n 3, 1) := by decide +kernel
theorem dX9_locked_6 : decode cX9_locked 6 = .ok (.ifCond .eq 15, 3) := by decide +kernel
theorem dX9_locked_9 : decode cX9_locked 9 = .ok (.aload_n 0, 1) := by decide +kernel
theorem dX9_locked_10 : decode cX9_locked 10 = .ok (.getfield 12, 3) := by decide +kernel
theorem dX9_locked_13 : decode cX9_locked 13 = .ok (.getfield 159, 3) := by decide +kernel
theorem dX9_locked_16 : decode cX9_locked 16 = .ok (.iload_n 2, 1) := by decide +kernel
theorem dX9_locked_17 : decode cX9_locked 17 = .ok (.iaload, 1) := by decide +kernel
theorem dX9_locked_18 : decode cX9_locked 18 = .ok (.goto 12, 3) := by decide +kernel
theorem dX9_locked_21 : decode cX9_locked 21 = .ok (.aload_n 0, 1) := by decide +kernel
theorem dX9_locked_22 : decode cX9_locked 22 = .ok (.getfield 12, 3) := by decide +kernel
theorem dX9_locked_25 : decode cX9_locked 25 = .ok (.getfield 152, 3) := by decide +kernel
theorem dX9_locked_28 : decode cX9_locked 28 = .ok (.iload_n 2, 1) := by decide +kernel
theorem dX9_locked_29 : decode cX9_locked 29 = .ok (.iaload, 1) := by decide +kernel
theorem dX9_locked_30 : decode cX9_locked 30 = .ok (.iload 4, 2) := by decide +kernel
theorem dX9_locked_32 : decode cX9_locked 32 = .ok (.iconst (-1), 1) := by decide +kernel
theorem dX9_locked_33 : decode cX9_locked 33 = .ok (.ixor, 1) := by decide +kernel
theorem dX9_locked_34 : decode cX9_locked 34 = .ok (.iand, 1) := by decide +kernel
theorem dX9_locked_35 : decode cX9_locked 35 = .ok (.ifCond .eq 5, 3) := by decide +kernel
theorem dX9_locked_38 : decode cX9_locked 38 = .ok (.iconst 0, 1) := by decide +kernel
theorem dX9_locked_39 : decode cX9_locked 39 = .ok (.ireturn, 1) := by decide +kernel
theorem dX9_locked_40 : decode cX9_locked 40 = .ok (.aload_n 0, 1) := by decide +kernel
theorem dX9_locked_41 : decode cX9_locked 41 = .ok (.getfield 12, 3) := by decide +kernel
theorem dX9_locked_44 : decode cX9_locked 44 = .ok (.getfield 159, 3) := by decide +kernel
theorem dX9_locked_47 : decode cX9_locked 47 = .ok (.iload_n 2, 1) := by decide +kernel
theorem dX9_locked_48 : decode cX9_locked 48 = .ok (.dup2, 1) := by decide +kernel
theorem dX9_locked_49 : decode cX9_locked 49 = .ok (.iaload, 1) := by decide +kernel
theorem dX9_locked_50 : decode cX9_locked 50 = .ok (.iload 4, 2) := by decide +kernel
theorem dX9_locked_52 : decode cX9_locked 52 = .ok (.ior, 1) := by decide +kernel
theorem dX9_locked_53 : decode cX9_locked 53 = .ok (.iastore, 1) := by decide +kernel
theorem dX9_locked_54 : decode cX9_locked 54 = .ok (.aload_n 0, 1) := by decide +kernel
theorem dX9_locked_55 : decode cX9_locked 55 = .ok (.getfield 12, 3) := by decide +kernel
theorem dX9_locked_58 : decode cX9_locked 58 = .ok (.getfield 152, 3) := by decide +kernel
theorem dX9_locked_61 : decode cX9_locked 61 = .ok (.iload_n 2, 1) := by decide +kernel
theorem dX9_locked_62 : decode cX9_locked 62 = .ok (.dup2, 1) := by decide +kernel
theorem dX9_locked_63 : decode cX9_locked 63 = .ok (.iaload, 1) := by decide +kernel
theorem dX9_locked_64 : decode cX9_locked 64 = .ok (.iload_n 3, 1) := by decide +kernel
theorem dX9_locked_65 : decode cX9_locked 65 = .ok (.ifCond .eq 8, 3) := by decide +kernel
theorem dX9_locked_68 : decode cX9_locked 68 = .ok (.iload 4, 2) := by decide +kernel
theorem dX9_locked_70 : decode cX9_locked 70 = .ok (.goto 4, 3) := by decide +kernel
theorem dX9_locked_73 : decode cX9_locked 73 = .ok (.iconst 0, 1) := by decide +kernel
theorem dX9_locked_74 : decode cX9_locked 74 = .ok (.ior, 1) := by decide +kernel
theorem dX9_locked_75 : decode cX9_locked 75 = .ok (.iastore, 1) := by decide +kernel
theorem dX9_locked_76 : decode cX9_locked 76 = .ok (.iconst 1, 1) := by decide +kernel
theorem dX9_locked_77 : decode cX9_locked 77 = .ok (.ireturn, 1) := by decide +kernel
theorem dX9_bring_0 : decode cX9_bring 0 = .ok (.aload_n 0, 1) := by decide +kernel
theorem dX9_bring_1 : decode cX9_bring 1 = .ok (.getfield 21, 3) := by decide +kernel
theorem dX9_bring_4 : decode cX9_bring 4 = .ok (.getfield 134, 3) := by decide +kernel
theorem dX9_bring_7 : decode cX9_bring 7 = .ok (.iload_n 1, 1) := by decide +kernel
theorem dX9_bring_8 : decode cX9_bring 8 = .ok (.iaload, 1) := by decide +kernel
theorem dX9_bring_9 : decode cX9_bring 9 = .ok (.istore_n 2, 1) := by decide +kernel
theorem dX9_bring_10 : decode cX9_bring 10 = .ok (.aload_n 0, 1) := by decide +kernel
theorem dX9_bring_11 : decode cX9_bring 11 = .ok (.getfield 12, 3) := by decide +kernel
theorem dX9_bring_14 : decode cX9_bring 14 = .ok (.iload_n 2, 1) := by decide +kernel
theorem dX9_bring_15 : decode cX9_bring 15 = .ok (.invokevirtual 137, 3) := by decide +kernel
theorem dX9_bring_18 : decode cX9_bring 18 = .ok (.istore_n 3, 1) := by decide +kernel
theorem dX9_bring_19 : decode cX9_bring 19 = .ok (.aload_n 0, 1) := by decide +kernel
theorem dX9_bring_20 : decode cX9_bring 20 = .ok (.getfield 12, 3) := by decide +kernel
theorem dX9_bring_23 : decode cX9_bring 23 = .ok (.iload_n 3, 1) := by decide +kernel
theorem dX9_bring_24 : decode cX9_bring 24 = .ok (.iload_n 2, 1) := by decide +kernel
theorem dX9_bring_25 : decode cX9_bring 25 = .ok (.invokevirtual 168, 3) := by decide +kernel
theorem dX9_bring_28 : decode cX9_bring 28 = .ok (.ifCond .eq 94, 3) := by decide +kernel
theorem dX9_bring_31 : decode cX9_bring 31 = .ok (.aload_n 0, 1) := by decide +kernel
theorem dX9_bring_32 : decode cX9_bring 32 = .ok (.getfield 12, 3) := by decide +kernel
theorem dX9_bring_35 : decode cX9_bring 35 = .ok (.getfield 162, 3) := by decide +kernel
theorem dX9_bring_38 : decode cX9_bring 38 = .ok (.iload_n 3, 1) := by decide +kernel
theorem dX9_bring_39 : decode cX9_bring 39 = .ok (.iaload, 1) := by decide +kernel
theorem dX9_bring_40 : decode cX9_bring 40 = .ok (.iload_n 1, 1) := by decide +kernel
theorem dX9_bring_41 : decode cX9_bring 41 = .ok (.if_icmp .ne 59, 3) := by decide +kernel
theorem dX9_bring_44 : decode cX9_bring 44 = .ok (.aload_n 0, 1) := by decide +kernel
theorem dX9_bring_45 : decode cX9_bring 45 = .ok (.getfield 28, 3) := by decide +kernel
theorem dX9_bring_48 : decode cX9_bring 48 = .ok (.iload_n 1, 1) := by decide +kernel
theorem dX9_bring_49 : decode cX9_bring 49 = .ok (.iconst 3, 1) := by decide +kernel
theorem dX9_bring_50 : decode cX9_bring 50 = .ok (.iload_n 2, 1) := by decide +kernel
theorem dX9_bring_51 : decode cX9_bring 51 = .ok (.aload_n 0, 1) := by decide +kernel
theorem dX9_bring_52 : decode cX9_bring 52 = .ok (.getfield 12, 3) := by decide +kernel
theorem dX9_bring_55 : decode cX9_bring 55 = .ok (.getfield 165, 3) := by decide +kernel
theorem dX9_bring_58 : decode cX9_bring 58 = .ok (.iload_n 3, 1) := by decide +kernel
theorem dX9_bring_59 : decode cX9_bring 59 = .ok (.iaload, 1) := by decide +kernel
theorem dX9_bring_60 : decode cX9_bring 60 = .ok (.invokevirtual 175, 3) := by decide +kernel
theorem dX9_bring_63 : decode cX9_bring 63 = .ok (.aload_n 0, 1) := by decide +kernel
theorem dX9_bring_64 : decode cX9_bring 64 = .ok (.getfield 12, 3) := by decide +kernel
theorem dX9_bring_67 : decode cX9_bring 67 = .ok (.getfield 162, 3) := by decide +kernel
theorem dX9_bring_70 : decode cX9_bring 70 = .ok (.iload_n 3, 1) := by decide +kernel
theorem dX9_bring_71 : decode cX9_bring 71 = .ok (.bipush (-2), 2) := by decide +kernel
theorem dX9_bring_73 : decode cX9_bring 73 = .ok (.iastore, 1) := by decide +kernel
theorem dX9_bring_74 : decode cX9_bring 74 = .ok (.aload_n 0, 1) := by decide +kernel
theorem dX9_bring_75 : decode cX9_bring 75 = .ok (.getfield 12, 3) := by decide +kernel
theorem dX9_bring_78 : decode cX9_bring 78 = .ok (.getfield 165, 3) := by decide +kernel
theorem dX9_bring_81 : decode cX9_bring 81 = .ok (.iload_n 3, 1) := by decide +kernel
theorem dX9_bring_82 : decode cX9_bring 82 = .ok (.aload_n 0, 1) := by decide +kernel
theorem dX9_bring_83 : decode cX9_bring 83 = .ok (.getfield 21, 3) := by decide +kernel
theorem dX9_bring_86 : decode cX9_bring 86 = .ok (.getfield 179, 3) := by decide +kernel
theorem dX9_bring_89 : decode cX9_bring 89 = .ok (.iload_n 1, 1) := by decide +kernel
theorem dX9_bring_90 : decode cX9_bring 90 = .ok (.iaload, 1) := by decide +kernel
theorem dX9_bring_91 : decode cX9_bring 91 = .ok (.iastore, 1) := by decide +kernel
theorem dX9_bring_92 : decode cX9_bring 92 = .ok (.aload_n 0, 1) := by decide +kernel
theorem dX9_bring_93 : decode cX9_bring 93 = .ok (.getfield 12, 3) := by decide +kernel
theorem dX9_bring_96 : decode cX9_bring 96 = .ok (.getfield 140, 3) := by decide +kernel
theorem dX9_bring_99 : decode cX9_bring 99 = .ok (.ireturn, 1) := by decide +kernel
theorem dX9_bring_100 : decode cX9_bring 100 = .ok (.aload_n 0, 1) := by decide +kernel
theorem dX9_bring_101 : decode cX9_bring 101 = .ok (.iload_n 1, 1) := by decide +kernel
theorem dX9_bring_102 : decode cX9_bring 102 = .ok (.iload_n 3, 1) := by decide +kernel
theorem dX9_bring_103 : decode cX9_bring 103 = .ok (.iconst 0, 1) := by decide +kernel
theorem dX9_bring_104 : decode cX9_bring 104 = .ok (.invokevirtual 171, 3) := by decide +kernel
theorem dX9_bring_107 : decode cX9_bring 107 = .ok (.ifCond .eq 8, 3) := by decide +kernel
theorem dX9_bring_110 : decode cX9_bring 110 = .ok (.bipush (-4), 2) := by decide +kernel
theorem dX9_bring_112 : decode cX9_bring 112 = .ok (.goto 9, 3) := by decide +kernel
theorem dX9_bring_115 : decode cX9_bring 115 = .ok (.aload_n 0, 1) := by decide +kernel
theorem dX9_bring_116 : decode cX9_bring 116 = .ok (.iconst 1, 1) := by decide +kernel
theorem dX9_bring_117 : decode cX9_bring 117 = .ok (.iload_n 2, 1) := by decide +kernel
theorem dX9_bring_118 : decode cX9_bring 118 = .ok (.invokevirtual 155, 3) := by decide +kernel
theorem dX9_bring_121 : decode cX9_bring 121 = .ok (.ireturn, 1) := by decide +kernel
theorem dX9_bring_122 : decode cX9_bring 122 = .ok (.aload_n 0, 1) := by decide +kernel
theorem dX9_bring_123 : decode cX9_bring 123 = .ok (.getfield 12, 3) := by decide +kernel
theorem dX9_bring_126 : decode cX9_bring 126 = .ok (.getfield 140, 3) := by decide +kernel
theorem dX9_bring_129 : decode cX9_bring 129 = .ok (.bipush 24, 2) := by decide +kernel
theorem dX9_bring_131 : decode cX9_bring 131 = .ok (.if_icmp .lt 5, 3) := by decide +kernel
theorem dX9_bring_134 : decode cX9_bring 134 = .ok (.iconst (-1), 1) := by decide +kernel
theorem dX9_bring_135 : decode cX9_bring 135 = .ok (.ireturn, 1) := by decide +kernel
theorem dX9_bring_136 : decode cX9_bring 136 = .ok (.aload_n 0, 1) := by decide +kernel
theorem dX9_bring_137 : decode cX9_bring 137 = .ok (.getfield 52, 3) := by decide +kernel
theorem dX9_bring_140 : decode cX9_bring 140 = .ok (.ifCond .ne 28, 3) := by decide +kernel
theorem dX9_bring_143 : decode cX9_bring 143 = .ok (.aload_n 0, 1) := by decide +kernel
theorem dX9_bring_144 : decode cX9_bring 144 = .ok (.getfield 12, 3) := by decide +kernel
theorem dX9_bring_147 : decode cX9_bring 147 = .ok (.getfield 149, 3) := by decide +kernel
theorem dX9_bring_150 : decode cX9_bring 150 = .ok (.iload_n 3, 1) := by decide +kernel
theorem dX9_bring_151 : decode cX9_bring 151 = .ok (.iaload, 1) := by decide +kernel
theorem dX9_bring_152 : decode cX9_bring 152 = .ok (.iconst 1, 1) := by decide +kernel
theorem dX9_bring_153 : decode cX9_bring 153 = .ok (.iload_n 1, 1) := by decide +kernel
theorem dX9_bring_154 : decode cX9_bring 154 = .ok (.ishl, 1) := by decide +kernel
theorem dX9_bring_155 : decode cX9_bring 155 = .ok (.iconst (-1), 1) := by decide +kernel
theorem dX9_bring_156 : decode cX9_bring 156 = .ok (.ixor, 1) := by decide +kernel
theorem dX9_bring_157 : decode cX9_bring 157 = .ok (.iand, 1) := by decide +kernel
theorem dX9_bring_158 : decode cX9_bring 158 = .ok (.ifCond .eq 10, 3) := by decide +kernel
theorem dX9_bring_161 : decode cX9_bring 161 = .ok (.aload_n 0, 1) := by decide +kernel
theorem dX9_bring_162 : decode cX9_bring 162 = .ok (.iconst 3, 1) := by decide +kernel
theorem dX9_bring_163 : decode cX9_bring 163 = .ok (.iload_n 2, 1) := by decide +kernel
theorem dX9_bring_164 : decode cX9_bring 164 = .ok (.invokevirtual 155, 3) := by decide +kernel
theorem dX9_bring_167 : decode cX9_bring 167 = .ok (.ireturn, 1) := by decide +kernel
theorem dX9_bring_168 : decode cX9_bring 168 = .ok (.aload_n 0, 1) := by decide +kernel
theorem dX9_bring_169 : decode cX9_bring 169 = .ok (.getfield 28, 3) := by decide +kernel
theorem dX9_bring_172 : decode cX9_bring 172 = .ok (.iload_n 1, 1) := by decide +kernel
theorem dX9_bring_173 : decode cX9_bring 173 = .ok (.iconst 2, 1) := by decide +kernel
theorem dX9_bring_174 : decode cX9_bring 174 = .ok (.iload_n 2, 1) := by decide +kernel
theorem dX9_bring_175 : decode cX9_bring 175 = .ok (.iconst 0, 1) := by decide +kernel
theorem dX9_bring_176 : decode cX9_bring 176 = .ok (.invokevirtual 175, 3) := by decide +kernel
theorem dX9_bring_179 : decode cX9_bring 179 = .ok (.aload_n 0, 1) := by decide +kernel
theorem dX9_bring_180 : decode cX9_bring 180 = .ok (.getfield 12, 3) := by decide +kernel
theorem dX9_bring_183 : decode cX9_bring 183 = .ok (.iload_n 3, 1) := by decide +kernel
theorem dX9_bring_184 : decode cX9_bring 184 = .ok (.iload_n 2, 1) := by decide +kernel
theorem dX9_bring_185 : decode cX9_bring 185 = .ok (.aload_n 0, 1) := by decide +kernel
theorem dX9_bring_186 : decode cX9_bring 186 = .ok (.getfield 21, 3) := by decide +kernel
theorem dX9_bring_189 : decode cX9_bring 189 = .ok (.getfield 179, 3) := by decide +kernel
theorem dX9_bring_192 : decode cX9_bring 192 = .ok (.iload_n 1, 1) := by decide +kernel
theorem dX9_bring_193 : decode cX9_bring 193 = .ok (.iaload, 1) := by decide +kernel
theorem dX9_bring_194 : decode cX9_bring 194 = .ok (.invokevirtual 180, 3) := by decide +kernel
theorem dX9_bring_197 : decode cX9_bring 197 = .ok (.aload_n 0, 1) := by decide +kernel
theorem dX9_bring_198 : decode cX9_bring 198 = .ok (.getfield 12, 3) := by decide +kernel
theorem dX9_bring_201 : decode cX9_bring 201 = .ok (.getfield 184, 3) := by decide +kernel
theorem dX9_bring_204 : decode cX9_bring 204 = .ok (.iload_n 3, 1) := by decide +kernel
theorem dX9_bring_205 : decode cX9_bring 205 = .ok (.iload_n 1, 1) := by decide +kernel
theorem dX9_bring_206 : decode cX9_bring 206 = .ok (.iastore, 1) := by decide +kernel
theorem dX9_bring_207 : decode cX9_bring 207 = .ok (.aload_n 0, 1) := by decide +kernel
theorem dX9_bring_208 : decode cX9_bring 208 = .ok (.iload_n 1, 1) := by decide +kernel
theorem dX9_bring_209 : decode cX9_bring 209 = .ok (.iload_n 3, 1) := by decide +kernel
theorem dX9_bring_210 : decode cX9_bring 210 = .ok (.iconst 1, 1) := by decide +kernel
theorem dX9_bring_211 : decode cX9_bring 211 = .ok (.invokevirtual 171, 3) := by decide +kernel
theorem dX9_bring_214 : decode cX9_bring 214 = .ok (.pop, 1) := by decide +kernel
theorem dX9_bring_215 : decode cX9_bring 215 = .ok (.aload_n 0, 1) := by decide +kernel
theorem dX9_bring_216 : decode cX9_bring 216 = .ok (.getfield 12, 3) := by decide +kernel
theorem dX9_bring_219 : decode cX9_bring 219 = .ok (.getfield 140, 3) := by decide +kernel
theorem dX9_bring_222 : decode cX9_bring 222 = .ok (.ireturn, 1) := by decide +kernel
theorem dX9_waitOrDie_0 : decode cX9_waitOrDie 0 = .ok (.aload_n 0, 1) := by decide +kernel
theorem dX9_waitOrDie_1 : decode cX9_waitOrDie 1 = .ok (.getfield 59, 3) := by decide +kernel
theorem dX9_waitOrDie_4 : decode cX9_waitOrDie 4 = .ok (.ifCond .ne 27, 3) := by decide +kernel
theorem dX9_waitOrDie_7 : decode cX9_waitOrDie 7 = .ok (.aload_n 0, 1) := by decide +kernel
theorem dX9_waitOrDie_8 : decode cX9_waitOrDie 8 = .ok (.aload_n 0, 1) := by decide +kernel
theorem dX9_waitOrDie_9 : decode cX9_waitOrDie 9 = .ok (.getfield 12, 3) := by decide +kernel
theorem dX9_waitOrDie_12 : decode cX9_waitOrDie 12 = .ok (.iload_n 1, 1) := by decide +kernel
theorem dX9_waitOrDie_13 : decode cX9_waitOrDie 13 = .ok (.aload_n 0, 1) := by decide +kernel
theorem dX9_waitOrDie_14 : decode cX9_waitOrDie 14 = .ok (.getfield 109, 3) := by decide +kernel
theorem dX9_waitOrDie_17 : decode cX9_waitOrDie 17 = .ok (.aload_n 0, 1) := by decide +kernel
theorem dX9_waitOrDie_18 : decode cX9_waitOrDie 18 = .ok (.getfield 114, 3) := by decide +kernel
theorem dX9_waitOrDie_21 : decode cX9_waitOrDie 21 = .ok (.invokevirtual 187, 3) := by decide +kernel
theorem dX9_waitOrDie_24 : decode cX9_waitOrDie 24 = .ok (.iload_n 1, 1) := by decide +kernel
theorem dX9_waitOrDie_25 : decode cX9_waitOrDie 25 = .ok (.invokevirtual 191, 3) := by decide +kernel
theorem dX9_waitOrDie_28 : decode cX9_waitOrDie 28 = .ok (.ifCond .eq 29, 3) := by decide +kernel
theorem dX9_waitOrDie_31 : decode cX9_waitOrDie 31 = .ok (.aload_n 0, 1) := by decide +kernel
theorem dX9_waitOrDie_32 : decode cX9_waitOrDie 32 = .ok (.iload_n 1, 1) := by decide +kernel
theorem dX9_waitOrDie_33 : decode cX9_waitOrDie 33 = .ok (.invokevirtual 82, 3) := by decide +kernel
theorem dX9_waitOrDie_36 : decode cX9_waitOrDie 36 = .ok (.aload_n 0, 1) := by decide +kernel
theorem dX9_waitOrDie_37 : decode cX9_waitOrDie 37 = .ok (.iload_n 1, 1) := by decide +kernel
theorem dX9_waitOrDie_38 : decode cX9_waitOrDie 38 = .ok (.invokevirtual 79, 3) := by decide +kernel
theorem dX9_waitOrDie_41 : decode cX9_waitOrDie 41 = .ok (.aload_n 0, 1) := by decide +kernel
theorem dX9_waitOrDie_42 : decode cX9_waitOrDie 42 = .ok (.getfield 21, 3) := by decide +kernel
theorem dX9_waitOrDie_45 : decode cX9_waitOrDie 45 = .ok (.getfield 194, 3) := by decide +kernel
theorem dX9_waitOrDie_48 : decode cX9_waitOrDie 48 = .ok (.iload_n 1, 1) := by decide +kernel
theorem dX9_waitOrDie_49 : decode cX9_waitOrDie 49 = .ok (.dup2, 1) := by decide +kernel
theorem dX9_waitOrDie_50 : decode cX9_waitOrDie 50 = .ok (.iaload, 1) := by decide +kernel
theorem dX9_waitOrDie_51 : decode cX9_waitOrDie 51 = .ok (.iconst 1, 1) := by decide +kernel
theorem dX9_waitOrDie_52 : decode cX9_waitOrDie 52 = .ok (.iadd, 1) := by decide +kernel
theorem dX9_waitOrDie_53 : decode cX9_waitOrDie 53 = .ok (.iastore, 1) := by decide +kernel
theorem dX9_waitOrDie_54 : decode cX9_waitOrDie 54 = .ok (.bipush (-3), 2) := by decide +kernel
theorem dX9_waitOrDie_56 : decode cX9_waitOrDie 56 = .ok (.ireturn, 1) := by decide +kernel
theorem dX9_waitOrDie_57 : decode cX9_waitOrDie 57 = .ok (.aload_n 0, 1) := by decide +kernel
theorem dX9_waitOrDie_58 : decode cX9_waitOrDie 58 = .ok (.getfield 21, 3) := by decide +kernel
theorem dX9_waitOrDie_61 : decode cX9_waitOrDie 61 = .ok (.iload_n 1, 1) := by decide +kernel
theorem dX9_waitOrDie_62 : decode cX9_waitOrDie 62 = .ok (.aload_n 0, 1) := by decide +kernel
theorem dX9_waitOrDie_63 : decode cX9_waitOrDie 63 = .ok (.getfield 109, 3) := by decide +kernel
theorem dX9_waitOrDie_66 : decode cX9_waitOrDie 66 = .ok (.aload_n 0, 1) := by decide +kernel
theorem dX9_waitOrDie_67 : decode cX9_waitOrDie 67 = .ok (.getfield 114, 3) := by decide +kernel
theorem dX9_waitOrDie_70 : decode cX9_waitOrDie 70 = .ok (.invokevirtual 197, 3) := by decide +kernel
theorem dX9_waitOrDie_73 : decode cX9_waitOrDie 73 = .ok (.bipush (-2), 2) := by decide +kernel
theorem dX9_waitOrDie_75 : decode cX9_waitOrDie 75 = .ok (.ireturn, 1) := by decide +kernel
theorem dX9_reaches_0 : decode cX9_reaches 0 = .ok (.iload_n 1, 1) := by decide +kernel
theorem dX9_reaches_1 : decode cX9_reaches 1 = .ok (.istore_n 3, 1) := by decide +kernel
theorem dX9_reaches_2 : decode cX9_reaches 2 = .ok (.iconst 0, 1) := by decide +kernel
theorem dX9_reaches_3 : decode cX9_reaches 3 = .ok (.istore 4, 2) := by decide +kernel
theorem dX9_reaches_5 : decode cX9_reaches 5 = .ok (.iload 4, 2) := by decide +kernel
theorem dX9_reaches_7 : decode cX9_reaches 7 = .ok (.iconst 5, 1) := by decide +kernel
theorem dX9_reaches_8 : decode cX9_reaches 8 = .ok (.if_icmp .ge 91, 3) := by decide +kernel
theorem dX9_reaches_11 : decode cX9_reaches 11 = .ok (.iconst 0, 1) := by decide +kernel
theorem dX9_reaches_12 : decode cX9_reaches 12 = .ok (.istore 5, 2) := by decide +kernel
theorem dX9_reaches_14 : decode cX9_reaches 14 = .ok (.iload 5, 2) := by decide +kernel
theorem dX9_reaches_16 : decode cX9_reaches 16 = .ok (.aload_n 0, 1) := by decide +kernel
theorem dX9_reaches_17 : decode cX9_reaches 17 = .ok (.getfield 21, 3) := by decide +kernel
theorem dX9_reaches_20 : decode cX9_reaches 20 = .ok (.getfield 200, 3) := by decide +kernel
theorem dX9_reaches_23 : decode cX9_reaches 23 = .ok (.if_icmp .ge 70, 3) := by decide +kernel
theorem dX9_reaches_26 : decode cX9_reaches 26 = .ok (.iload 5, 2) := by decide +kernel
theorem dX9_reaches_28 : decode cX9_reaches 28 = .ok (.iload_n 2, 1) := by decide +kernel
theorem dX9_reaches_29 : decode cX9_reaches 29 = .ok (.if_icmp .eq 58, 3) := by decide +kernel
theorem dX9_reaches_32 : decode cX9_reaches 32 = .ok (.iload_n 3, 1) := by decide +kernel
theorem dX9_reaches_33 : decode cX9_reaches 33 = .ok (.iload 5, 2) := by decide +kernel
theorem dX9_reaches_35 : decode cX9_reaches 35 = .ok (.ishr, 1) := by decide +kernel
theorem dX9_reaches_36 : decode cX9_reaches 36 = .ok (.iconst 1, 1) := by decide +kernel
theorem dX9_reaches_37 : decode cX9_reaches 37 = .ok (.iand, 1) := by decide +kernel
theorem dX9_reaches_38 : decode cX9_reaches 38 = .ok (.ifCond .eq 49, 3) := by decide +kernel
theorem dX9_reaches_41 : decode cX9_reaches 41 = .ok (.aload_n 0, 1) := by decide +kernel
theorem dX9_reaches_42 : decode cX9_reaches 42 = .ok (.getfield 21, 3) := by decide +kernel
theorem dX9_reaches_45 : decode cX9_reaches 45 = .ok (.getfield 72, 3) := by decide +kernel
theorem dX9_reaches_48 : decode cX9_reaches 48 = .ok (.iload 5, 2) := by decide +kernel
theorem dX9_reaches_50 : decode cX9_reaches 50 = .ok (.iaload, 1) := by decide +kernel
theorem dX9_reaches_51 : decode cX9_reaches 51 = .ok (.iconst 2, 1) := by decide +kernel
theorem dX9_reaches_52 : decode cX9_reaches 52 = .ok (.if_icmp .ne 35, 3) := by decide +kernel
theorem dX9_reaches_55 : decode cX9_reaches 55 = .ok (.iload_n 3, 1) := by decide +kernel
theorem dX9_reaches_56 : decode cX9_reaches 56 = .ok (.aload_n 0, 1) := by decide +kernel
theorem dX9_reaches_57 : decode cX9_reaches 57 = .ok (.getfield 12, 3) := by decide +kernel
theorem dX9_reaches_60 : decode cX9_reaches 60 = .ok (.iload 5, 2) := by decide +kernel
theorem dX9_reaches_62 : decode cX9_reaches 62 = .ok (.aload_n 0, 1) := by decide +kernel
theorem dX9_reaches_63 : decode cX9_reaches 63 = .ok (.getfield 21, 3) := by decide +kernel
theorem dX9_reaches_66 : decode cX9_reaches 66 = .ok (.getfield 112, 3) := by decide +kernel
theorem dX9_reaches_69 : decode cX9_reaches 69 = .ok (.iload 5, 2) := by decide +kernel
theorem dX9_reaches_71 : decode cX9_reaches 71 = .ok (.iaload, 1) := by decide +kernel
theorem dX9_reaches_72 : decode cX9_reaches 72 = .ok (.aload_n 0, 1) := by decide +kernel
theorem dX9_reaches_73 : decode cX9_reaches 73 = .ok (.getfield 21, 3) := by decide +kernel
theorem dX9_reaches_76 : decode cX9_reaches 76 = .ok (.getfield 117, 3) := by decide +kernel
theorem dX9_reaches_79 : decode cX9_reaches 79 = .ok (.iload 5, 2) := by decide +kernel
theorem dX9_reaches_81 : decode cX9_reaches 81 = .ok (.iaload, 1) := by decide +kernel
theorem dX9_reaches_82 : decode cX9_reaches 82 = .ok (.invokevirtual 187, 3) := by decide +kernel
theorem dX9_reaches_85 : decode cX9_reaches 85 = .ok (.ior, 1) := by decide +kernel
theorem dX9_reaches_86 : decode cX9_reaches 86 = .ok (.istore_n 3, 1) := by decide +kernel
theorem dX9_reaches_87 : decode cX9_reaches 87 = .ok (.iinc 5 1, 3) := by decide +kernel
theorem dX9_reaches_90 : decode cX9_reaches 90 = .ok (.goto (-76), 3) := by decide +kernel
theorem dX9_reaches_93 : decode cX9_reaches 93 = .ok (.iinc 4 1, 3) := by decide +kernel
theorem dX9_reaches_96 : decode cX9_reaches 96 = .ok (.goto (-91), 3) := by decide +kernel
theorem dX9_reaches_99 : decode cX9_reaches 99 = .ok (.iload_n 3, 1) := by decide +kernel
theorem dX9_reaches_100 : decode cX9_reaches 100 = .ok (.iload_n 2, 1) := by decide +kernel
theorem dX9_reaches_101 : decode cX9_reaches 101 = .ok (.ishr, 1) := by decide +kernel
theorem dX9_reaches_102 : decode cX9_reaches 102 = .ok (.iconst 1, 1) := by decide +kernel
theorem dX9_reaches_103 : decode cX9_reaches 103 = .ok (.iand, 1) := by decide +kernel
theorem dX9_reaches_104 : decode cX9_reaches 104 = .ok (.ifCond .eq 7, 3) := by decide +kernel
theorem dX9_reaches_107 : decode cX9_reaches 107 = .ok (.iconst 1, 1) := by decide +kernel
theorem dX9_reaches_108 : decode cX9_reaches 108 = .ok (.goto 4, 3) := by decide +kernel
theorem dX9_reaches_111 : decode cX9_reaches 111 = .ok (.iconst 0, 1) := by decide +kernel
theorem dX9_reaches_112 : decode cX9_reaches 112 = .ok (.ireturn, 1) := by decide +kernel
theorem dX9_waitsFor_0 : decode cX9_waitsFor 0 = .ok (.aload_n 0, 1) := by decide +kernel
theorem dX9_waitsFor_1 : decode cX9_waitsFor 1 = .ok (.getfield 21, 3) := by decide +kernel
theorem dX9_waitsFor_4 : decode cX9_waitsFor 4 = .ok (.getfield 72, 3) := by decide +kernel
theorem dX9_waitsFor_7 : decode cX9_waitsFor 7 = .ok (.iload_n 1, 1) := by decide +kernel
theorem dX9_waitsFor_8 : decode cX9_waitsFor 8 = .ok (.iaload, 1) := by decide +kernel
theorem dX9_waitsFor_9 : decode cX9_waitsFor 9 = .ok (.iconst 2, 1) := by decide +kernel
theorem dX9_waitsFor_10 : decode cX9_waitsFor 10 = .ok (.if_icmp .eq 5, 3) := by decide +kernel
theorem dX9_waitsFor_13 : decode cX9_waitsFor 13 = .ok (.iconst 0, 1) := by decide +kernel
theorem dX9_waitsFor_14 : decode cX9_waitsFor 14 = .ok (.ireturn, 1) := by decide +kernel
theorem dX9_waitsFor_15 : decode cX9_waitsFor 15 = .ok (.aload_n 0, 1) := by decide +kernel
theorem dX9_waitsFor_16 : decode cX9_waitsFor 16 = .ok (.getfield 12, 3) := by decide +kernel
theorem dX9_waitsFor_19 : decode cX9_waitsFor 19 = .ok (.iload_n 1, 1) := by decide +kernel
theorem dX9_waitsFor_20 : decode cX9_waitsFor 20 = .ok (.aload_n 0, 1) := by decide +kernel
theorem dX9_waitsFor_21 : decode cX9_waitsFor 21 = .ok (.getfield 21, 3) := by decide +kernel
theorem dX9_waitsFor_24 : decode cX9_waitsFor 24 = .ok (.getfield 112, 3) := by decide +kernel
theorem dX9_waitsFor_27 : decode cX9_waitsFor 27 = .ok (.iload_n 1, 1) := by decide +kernel
theorem dX9_waitsFor_28 : decode cX9_waitsFor 28 = .ok (.iaload, 1) := by decide +kernel
theorem dX9_waitsFor_29 : decode cX9_waitsFor 29 = .ok (.aload_n 0, 1) := by decide +kernel
theorem dX9_waitsFor_30 : decode cX9_waitsFor 30 = .ok (.getfield 21, 3) := by decide +kernel
theorem dX9_waitsFor_33 : decode cX9_waitsFor 33 = .ok (.getfield 117, 3) := by decide +kernel
theorem dX9_waitsFor_36 : decode cX9_waitsFor 36 = .ok (.iload_n 1, 1) := by decide +kernel
theorem dX9_waitsFor_37 : decode cX9_waitsFor 37 = .ok (.iaload, 1) := by decide +kernel
theorem dX9_waitsFor_38 : decode cX9_waitsFor 38 = .ok (.invokevirtual 187, 3) := by decide +kernel
theorem dX9_waitsFor_41 : decode cX9_waitsFor 41 = .ok (.ireturn, 1) := by decide +kernel
theorem dX9_dropCut_0 : decode cX9_dropCut 0 = .ok (.iconst 0, 1) := by decide +kernel
theorem dX9_dropCut_1 : decode cX9_dropCut 1 = .ok (.istore_n 2, 1) := by decide +kernel
theorem dX9_dropCut_2 : decode cX9_dropCut 2 = .ok (.iconst 0, 1) := by decide +kernel
theorem dX9_dropCut_3 : decode cX9_dropCut 3 = .ok (.istore_n 3, 1) := by decide +kernel
theorem dX9_dropCut_4 : decode cX9_dropCut 4 = .ok (.iload_n 3, 1) := by decide +kernel
theorem dX9_dropCut_5 : decode cX9_dropCut 5 = .ok (.bipush 24, 2) := by decide +kernel
theorem dX9_dropCut_7 : decode cX9_dropCut 7 = .ok (.if_icmp .ge 48, 3) := by decide +kernel
theorem dX9_dropCut_10 : decode cX9_dropCut 10 = .ok (.iload_n 2, 1) := by decide +kernel
theorem dX9_dropCut_11 : decode cX9_dropCut 11 = .ok (.aload_n 0, 1) := by decide +kernel
theorem dX9_dropCut_12 : decode cX9_dropCut 12 = .ok (.getfield 12, 3) := by decide +kernel
theorem dX9_dropCut_15 : decode cX9_dropCut 15 = .ok (.getfield 140, 3) := by decide +kernel
theorem dX9_dropCut_18 : decode cX9_dropCut 18 = .ok (.if_icmp .ge 37, 3) := by decide +kernel
theorem dX9_dropCut_21 : decode cX9_dropCut 21 = .ok (.aload_n 0, 1) := by decide +kernel
theorem dX9_dropCut_22 : decode cX9_dropCut 22 = .ok (.getfield 12, 3) := by decide +kernel
theorem dX9_dropCut_25 : decode cX9_dropCut 25 = .ok (.getfield 162, 3) := by decide +kernel
theorem dX9_dropCut_28 : decode cX9_dropCut 28 = .ok (.iload_n 2, 1) := by decide +kernel
theorem dX9_dropCut_29 : decode cX9_dropCut 29 = .ok (.iaload, 1) := by decide +kernel
theorem dX9_dropCut_30 : decode cX9_dropCut 30 = .ok (.iload_n 1, 1) := by decide +kernel
theorem dX9_dropCut_31 : decode cX9_dropCut 31 = .ok (.if_icmp .ne 15, 3) := by decide +kernel
theorem dX9_dropCut_34 : decode cX9_dropCut 34 = .ok (.aload_n 0, 1) := by decide +kernel
theorem dX9_dropCut_35 : decode cX9_dropCut 35 = .ok (.getfield 12, 3) := by decide +kernel
theorem dX9_dropCut_38 : decode cX9_dropCut 38 = .ok (.iload_n 2, 1) := by decide +kernel
theorem dX9_dropCut_39 : decode cX9_dropCut 39 = .ok (.iload_n 1, 1) := by decide +kernel
theorem dX9_dropCut_40 : decode cX9_dropCut 40 = .ok (.invokevirtual 201, 3) := by decide +kernel
theorem dX9_dropCut_43 : decode cX9_dropCut 43 = .ok (.goto 6, 3) := by decide +kernel
theorem dX9_dropCut_46 : decode cX9_dropCut 46 = .ok (.iinc 2 1, 3) := by decide +kernel
theorem dX9_dropCut_49 : decode cX9_dropCut 49 = .ok (.iinc 3 1, 3) := by decide +kernel
theorem dX9_dropCut_52 : decode cX9_dropCut 52 = .ok (.goto (-48), 3) := by decide +kernel
theorem dX9_dropCut_55 : decode cX9_dropCut 55 = .ok (.return_, 1) := by decide +kernel
theorem dX9_undo_0 : decode cX9_undo 0 = .ok (.aload_n 0, 1) := by decide +kernel
theorem dX9_undo_1 : decode cX9_undo 1 = .ok (.getfield 28, 3) := by decide +kernel
theorem dX9_undo_4 : decode cX9_undo 4 = .ok (.getfield 49, 3) := by decide +kernel
theorem dX9_undo_7 : decode cX9_undo 7 = .ok (.iconst 1, 1) := by decide +kernel
theorem dX9_undo_8 : decode cX9_undo 8 = .ok (.isub, 1) := by decide +kernel
theorem dX9_undo_9 : decode cX9_undo 9 = .ok (.istore_n 2, 1) := by decide +kernel
theorem dX9_undo_10 : decode cX9_undo 10 = .ok (.iload_n 2, 1) := by decide +kernel
theorem dX9_undo_11 : decode cX9_undo 11 = .ok (.ifCond .lt 172, 3) := by decide +kernel
theorem dX9_undo_14 : decode cX9_undo 14 = .ok (.aload_n 0, 1) := by decide +kernel
theorem dX9_undo_15 : decode cX9_undo 15 = .ok (.getfield 12, 3) := by decide +kernel
theorem dX9_undo_18 : decode cX9_undo 18 = .ok (.aload_n 0, 1) := by decide +kernel
theorem dX9_undo_19 : decode cX9_undo 19 = .ok (.getfield 28, 3) := by decide +kernel
theorem dX9_undo_22 : decode cX9_undo 22 = .ok (.iload_n 2, 1) := by decide +kernel
theorem dX9_undo_23 : decode cX9_undo 23 = .ok (.invokevirtual 205, 3) := by decide +kernel
theorem dX9_undo_26 : decode cX9_undo 26 = .ok (.invokevirtual 137, 3) := by decide +kernel
theorem dX9_undo_29 : decode cX9_undo 29 = .ok (.istore_n 3, 1) := by decide +kernel
theorem dX9_undo_30 : decode cX9_undo 30 = .ok (.aload_n 0, 1) := by decide +kernel
theorem dX9_undo_31 : decode cX9_undo 31 = .ok (.getfield 28, 3) := by decide +kernel
theorem dX9_undo_34 : decode cX9_undo 34 = .ok (.iload_n 2, 1) := by decide +kernel
theorem dX9_undo_35 : decode cX9_undo 35 = .ok (.invokevirtual 208, 3) := by decide +kernel
theorem dX9_undo_38 : decode cX9_undo 38 = .ok (.iload_n 1, 1) := by decide +kernel
theorem dX9_undo_39 : decode cX9_undo 39 = .ok (.if_icmp .ne 138, 3) := by decide +kernel
theorem dX9_undo_42 : decode cX9_undo 42 = .ok (.aload_n 0, 1) := by decide +kernel
theorem dX9_undo_43 : decode cX9_undo 43 = .ok (.getfield 12, 3) := by decide +kernel
theorem dX9_undo_46 : decode cX9_undo 46 = .ok (.iload_n 3, 1) := by decide +kernel
theorem dX9_undo_47 : decode cX9_undo 47 = .ok (.aload_n 0, 1) := by decide +kernel
theorem dX9_undo_48 : decode cX9_undo 48 = .ok (.getfield 28, 3) := by decide +kernel
theorem dX9_undo_51 : decode cX9_undo 51 = .ok (.iload_n 2, 1) := by decide +kernel
theorem dX9_undo_52 : decode cX9_undo 52 = .ok (.invokevirtual 205, 3) := by decide +kernel
theorem dX9_undo_55 : decode cX9_undo 55 = .ok (.invokevirtual 168, 3) := by decide +kernel
theorem dX9_undo_58 : decode cX9_undo 58 = .ok (.ifCond .ne 6, 3) := by decide +kernel
theorem dX9_undo_61 : decode cX9_undo 61 = .ok (.goto 116, 3) := by decide +kernel
theorem dX9_undo_64 : decode cX9_undo 64 = .ok (.aload_n 0, 1) := by decide +kernel
theorem dX9_undo_65 : decode cX9_undo 65 = .ok (.getfield 28, 3) := by decide +kernel
theorem dX9_undo_68 : decode cX9_undo 68 = .ok (.iload_n 2, 1) := by decide +kernel
theorem dX9_undo_69 : decode cX9_undo 69 = .ok (.invokevirtual 211, 3) := by decide +kernel
theorem dX9_undo_72 : decode cX9_undo 72 = .ok (.tableswitch 96 0 3 #[32, 52, 96, 66], 32) := by decide +kernel
theorem dX9_undo_104 : decode cX9_undo 104 = .ok (.aload_n 0, 1) := by decide +kernel
theorem dX9_undo_105 : decode cX9_undo 105 = .ok (.getfield 12, 3) := by decide +kernel
theorem dX9_undo_108 : decode cX9_undo 108 = .ok (.getfield 165, 3) := by decide +kernel
theorem dX9_undo_111 : decode cX9_undo 111 = .ok (.iload_n 3, 1) := by decide +kernel
theorem dX9_undo_112 : decode cX9_undo 112 = .ok (.aload_n 0, 1) := by decide +kernel
theorem dX9_undo_113 : decode cX9_undo 113 = .ok (.getfield 28, 3) := by decide +kernel
theorem dX9_undo_116 : decode cX9_undo 116 = .ok (.iload_n 2, 1) := by decide +kernel
theorem dX9_undo_117 : decode cX9_undo 117 = .ok (.invokevirtual 214, 3) := by decide +kernel
theorem dX9_undo_120 : decode cX9_undo 120 = .ok (.iastore, 1) := by decide +kernel
theorem dX9_undo_121 : decode cX9_undo 121 = .ok (.goto 56, 3) := by decide +kernel
theorem dX9_undo_124 : decode cX9_undo 124 = .ok (.aload_n 0, 1) := by decide +kernel
theorem dX9_undo_125 : decode cX9_undo 125 = .ok (.getfield 12, 3) := by decide +kernel
theorem dX9_undo_128 : decode cX9_undo 128 = .ok (.getfield 162, 3) := by decide +kernel
theorem dX9_undo_131 : decode cX9_undo 131 = .ok (.iload_n 3, 1) := by decide +kernel
theorem dX9_undo_132 : decode cX9_undo 132 = .ok (.bipush (-2), 2) := by decide +kernel
theorem dX9_undo_134 : decode cX9_undo 134 = .ok (.iastore, 1) := by decide +kernel
theorem dX9_undo_135 : decode cX9_undo 135 = .ok (.goto 42, 3) := by decide +kernel
theorem dX9_undo_138 : decode cX9_undo 138 = .ok (.aload_n 0, 1) := by decide +kernel
theorem dX9_undo_139 : decode cX9_undo 139 = .ok (.getfield 12, 3) := by decide +kernel
theorem dX9_undo_142 : decode cX9_undo 142 = .ok (.getfield 165, 3) := by decide +kernel
theorem dX9_undo_145 : decode cX9_undo 145 = .ok (.iload_n 3, 1) := by decide +kernel
theorem dX9_undo_146 : decode cX9_undo 146 = .ok (.aload_n 0, 1) := by decide +kernel
theorem dX9_undo_147 : decode cX9_undo 147 = .ok (.getfield 28, 3) := by decide +kernel
theorem dX9_undo_150 : decode cX9_undo 150 = .ok (.iload_n 2, 1) := by decide +kernel
theorem dX9_undo_151 : decode cX9_undo 151 = .ok (.invokevirtual 214, 3) := by decide +kernel
theorem dX9_undo_154 : decode cX9_undo 154 = .ok (.iastore, 1) := by decide +kernel
theorem dX9_undo_155 : decode cX9_undo 155 = .ok (.aload_n 0, 1) := by decide +kernel
theorem dX9_undo_156 : decode cX9_undo 156 = .ok (.getfield 12, 3) := by decide +kernel
theorem dX9_undo_159 : decode cX9_undo 159 = .ok (.getfield 162, 3) := by decide +kernel
theorem dX9_undo_162 : decode cX9_undo 162 = .ok (.iload_n 3, 1) := by decide +kernel
theorem dX9_undo_163 : decode cX9_undo 163 = .ok (.iload_n 1, 1) := by decide +kernel
theorem dX9_undo_164 : decode cX9_undo 164 = .ok (.iastore, 1) := by decide +kernel
theorem dX9_undo_165 : decode cX9_undo 165 = .ok (.goto 12, 3) := by decide +kernel
theorem dX9_undo_168 : decode cX9_undo 168 = .ok (.aload_n 0, 1) := by decide +kernel
theorem dX9_undo_169 : decode cX9_undo 169 = .ok (.getfield 12, 3) := by decide +kernel
theorem dX9_undo_172 : decode cX9_undo 172 = .ok (.iload_n 3, 1) := by decide +kernel
theorem dX9_undo_173 : decode cX9_undo 173 = .ok (.iload_n 1, 1) := by decide +kernel
theorem dX9_undo_174 : decode cX9_undo 174 = .ok (.invokevirtual 201, 3) := by decide +kernel
theorem dX9_undo_177 : decode cX9_undo 177 = .ok (.iinc 2 (-1), 3) := by decide +kernel
theorem dX9_undo_180 : decode cX9_undo 180 = .ok (.goto (-170), 3) := by decide +kernel
theorem dX9_undo_183 : decode cX9_undo 183 = .ok (.return_, 1) := by decide +kernel
theorem dX9_shut_0 : decode cX9_shut 0 = .ok (.aload_n 0, 1) := by decide +kernel
theorem dX9_shut_1 : decode cX9_shut 1 = .ok (.getfield 21, 3) := by decide +kernel
theorem dX9_shut_4 : decode cX9_shut 4 = .ok (.iload_n 1, 1) := by decide +kernel
theorem dX9_shut_5 : decode cX9_shut 5 = .ok (.invokevirtual 119, 3) := by decide +kernel
theorem dX9_shut_8 : decode cX9_shut 8 = .ok (.aload_n 0, 1) := by decide +kernel
theorem dX9_shut_9 : decode cX9_shut 9 = .ok (.getfield 21, 3) := by decide +kernel
theorem dX9_shut_12 : decode cX9_shut 12 = .ok (.getfield 72, 3) := by decide +kernel
theorem dX9_shut_15 : decode cX9_shut 15 = .ok (.iload_n 1, 1) := by decide +kernel
theorem dX9_shut_16 : decode cX9_shut 16 = .ok (.iconst 0, 1) := by decide +kernel
theorem dX9_shut_17 : decode cX9_shut 17 = .ok (.iastore, 1) := by decide +kernel
theorem dX9_shut_18 : decode cX9_shut 18 = .ok (.aload_n 0, 1) := by decide +kernel
theorem dX9_shut_19 : decode cX9_shut 19 = .ok (.getfield 12, 3) := by decide +kernel
theorem dX9_shut_22 : decode cX9_shut 22 = .ok (.iload_n 1, 1) := by decide +kernel
theorem dX9_shut_23 : decode cX9_shut 23 = .ok (.invokevirtual 217, 3) := by decide +kernel
theorem dX9_shut_26 : decode cX9_shut 26 = .ok (.aload_n 0, 1) := by decide +kernel
theorem dX9_shut_27 : decode cX9_shut 27 = .ok (.getfield 28, 3) := by decide +kernel
theorem dX9_shut_30 : decode cX9_shut 30 = .ok (.iload_n 1, 1) := by decide +kernel
theorem dX9_shut_31 : decode cX9_shut 31 = .ok (.invokevirtual 220, 3) := by decide +kernel
theorem dX9_shut_34 : decode cX9_shut 34 = .ok (.return_, 1) := by decide +kernel
theorem dX9_allLocks_0 : decode cX9_allLocks 0 = .ok (.iconst 0, 1) := by decide +kernel
theorem dX9_allLocks_1 : decode cX9_allLocks 1 = .ok (.istore_n 1, 1) := by decide +kernel
theorem dX9_allLocks_2 : decode cX9_allLocks 2 = .ok (.iconst 0, 1) := by decide +kernel
theorem dX9_allLocks_3 : decode cX9_allLocks 3 = .ok (.istore_n 2, 1) := by decide +kernel
theorem dX9_allLocks_4 : decode cX9_allLocks 4 = .ok (.iload_n 2, 1) := by decide +kernel
theorem dX9_allLocks_5 : decode cX9_allLocks 5 = .ok (.aload_n 0, 1) := by decide +kernel
theorem dX9_allLocks_6 : decode cX9_allLocks 6 = .ok (.getfield 21, 3) := by decide +kernel
theorem dX9_allLocks_9 : decode cX9_allLocks 9 = .ok (.getfield 200, 3) := by decide +kernel
theorem dX9_allLocks_12 : decode cX9_allLocks 12 = .ok (.if_icmp .ge 20, 3) := by decide +kernel
theorem dX9_allLocks_15 : decode cX9_allLocks 15 = .ok (.iload_n 1, 1) := by decide +kernel
theorem dX9_allLocks_16 : decode cX9_allLocks 16 = .ok (.aload_n 0, 1) := by decide +kernel
theorem dX9_allLocks_17 : decode cX9_allLocks 17 = .ok (.getfield 12, 3) := by decide +kernel
theorem dX9_allLocks_20 : decode cX9_allLocks 20 = .ok (.iload_n 2, 1) := by decide +kernel
theorem dX9_allLocks_21 : decode cX9_allLocks 21 = .ok (.invokevirtual 223, 3) := by decide +kernel
theorem dX9_allLocks_24 : decode cX9_allLocks 24 = .ok (.iadd, 1) := by decide +kernel
theorem dX9_allLocks_25 : decode cX9_allLocks 25 = .ok (.istore_n 1, 1) := by decide +kernel
theorem dX9_allLocks_26 : decode cX9_allLocks 26 = .ok (.iinc 2 1, 3) := by decide +kernel
theorem dX9_allLocks_29 : decode cX9_allLocks 29 = .ok (.goto (-25), 3) := by decide +kernel
theorem dX9_allLocks_32 : decode cX9_allLocks 32 = .ok (.iload_n 1, 1) := by decide +kernel
theorem dX9_allLocks_33 : decode cX9_allLocks 33 = .ok (.ireturn, 1) := by decide +kernel
theorem dX10_init_0 : decode cX10_init 0 = .ok (.aload_n 0, 1) := by decide +kernel
theorem dX10_init_1 : decode cX10_init 1 = .ok (.invokespecial 1, 3) := by decide +kernel
theorem dX10_init_4 : decode cX10_init 4 = .ok (.aload_n 0, 1) := by decide +kernel
theorem dX10_init_5 : decode cX10_init 5 = .ok (.new 7, 3) := by decide +kernel
theorem dX10_init_8 : decode cX10_init 8 = .ok (.dup, 1) := by decide +kernel
theorem dX10_init_9 : decode cX10_init 9 = .ok (.invokespecial 9, 3) := by decide +kernel
theorem dX10_init_12 : decode cX10_init 12 = .ok (.putfield 10, 3) := by decide +kernel
theorem dX10_init_15 : decode cX10_init 15 = .ok (.aload_n 0, 1) := by decide +kernel
theorem dX10_init_16 : decode cX10_init 16 = .ok (.new 16, 3) := by decide +kernel
theorem dX10_init_19 : decode cX10_init 19 = .ok (.dup, 1) := by decide +kernel
theorem dX10_init_20 : decode cX10_init 20 = .ok (.invokespecial 18, 3) := by decide +kernel
theorem dX10_init_23 : decode cX10_init 23 = .ok (.putfield 19, 3) := by decide +kernel
theorem dX10_init_26 : decode cX10_init 26 = .ok (.aload_n 0, 1) := by decide +kernel
theorem dX10_init_27 : decode cX10_init 27 = .ok (.new 23, 3) := by decide +kernel
theorem dX10_init_30 : decode cX10_init 30 = .ok (.dup, 1) := by decide +kernel
theorem dX10_init_31 : decode cX10_init 31 = .ok (.invokespecial 25, 3) := by decide +kernel
theorem dX10_init_34 : decode cX10_init 34 = .ok (.putfield 26, 3) := by decide +kernel
theorem dX10_init_37 : decode cX10_init 37 = .ok (.aload_n 0, 1) := by decide +kernel
theorem dX10_init_38 : decode cX10_init 38 = .ok (.bipush 16, 2) := by decide +kernel
theorem dX10_init_40 : decode cX10_init 40 = .ok (.anewarray 23, 3) := by decide +kernel
theorem dX10_init_43 : decode cX10_init 43 = .ok (.putfield 30, 3) := by decide +kernel
theorem dX10_init_46 : decode cX10_init 46 = .ok (.aload_n 0, 1) := by decide +kernel
theorem dX10_init_47 : decode cX10_init 47 = .ok (.new 34, 3) := by decide +kernel
theorem dX10_init_50 : decode cX10_init 50 = .ok (.dup, 1) := by decide +kernel
theorem dX10_init_51 : decode cX10_init 51 = .ok (.invokespecial 36, 3) := by decide +kernel
theorem dX10_init_54 : decode cX10_init 54 = .ok (.putfield 37, 3) := by decide +kernel
theorem dX10_init_57 : decode cX10_init 57 = .ok (.aload_n 0, 1) := by decide +kernel
theorem dX10_init_58 : decode cX10_init 58 = .ok (.new 34, 3) := by decide +kernel
theorem dX10_init_61 : decode cX10_init 61 = .ok (.dup, 1) := by decide +kernel
theorem dX10_init_62 : decode cX10_init 62 = .ok (.invokespecial 36, 3) := by decide +kernel
theorem dX10_init_65 : decode cX10_init 65 = .ok (.putfield 41, 3) := by decide +kernel
theorem dX10_init_68 : decode cX10_init 68 = .ok (.return_, 1) := by decide +kernel
theorem dX10_feed_0 : decode cX10_feed 0 = .ok (.aload_n 0, 1) := by decide +kernel
theorem dX10_feed_1 : decode cX10_feed 1 = .ok (.getfield 26, 3) := by decide +kernel
theorem dX10_feed_4 : decode cX10_feed 4 = .ok (.getfield 44, 3) := by decide +kernel
theorem dX10_feed_7 : decode cX10_feed 7 = .ok (.sipush 680, 3) := by decide +kernel
theorem dX10_feed_10 : decode cX10_feed 10 = .ok (.if_icmp .le 5, 3) := by decide +kernel
theorem dX10_feed_13 : decode cX10_feed 13 = .ok (.iconst (-1), 1) := by decide +kernel
theorem dX10_feed_14 : decode cX10_feed 14 = .ok (.ireturn, 1) := by decide +kernel
theorem dX10_feed_15 : decode cX10_feed 15 = .ok (.aload_n 0, 1) := by decide +kernel
theorem dX10_feed_16 : decode cX10_feed 16 = .ok (.getfield 26, 3) := by decide +kernel
theorem dX10_feed_19 : decode cX10_feed 19 = .ok (.iload_n 1, 1) := by decide +kernel
theorem dX10_feed_20 : decode cX10_feed 20 = .ok (.invokevirtual 48, 3) := by decide +kernel
theorem dX10_feed_23 : decode cX10_feed 23 = .ok (.aload_n 0, 1) := by decide +kernel
theorem dX10_feed_24 : decode cX10_feed 24 = .ok (.getfield 26, 3) := by decide +kernel
theorem dX10_feed_27 : decode cX10_feed 27 = .ok (.iload_n 2, 1) := by decide +kernel
theorem dX10_feed_28 : decode cX10_feed 28 = .ok (.invokevirtual 48, 3) := by decide +kernel
theorem dX10_feed_31 : decode cX10_feed 31 = .ok (.aload_n 0, 1) := by decide +kernel
theorem dX10_feed_32 : decode cX10_feed 32 = .ok (.getfield 26, 3) := by decide +kernel
theorem dX10_feed_35 : decode cX10_feed 35 = .ok (.iload_n 3, 1) := by decide +kernel
theorem dX10_feed_36 : decode cX10_feed 36 = .ok (.invokevirtual 48, 3) := by decide +kernel
theorem dX10_feed_39 : decode cX10_feed 39 = .ok (.aload_n 0, 1) := by decide +kernel
theorem dX10_feed_40 : decode cX10_feed 40 = .ok (.getfield 26, 3) := by decide +kernel
theorem dX10_feed_43 : decode cX10_feed 43 = .ok (.iload 4, 2) := by decide +kernel
theorem dX10_feed_45 : decode cX10_feed 45 = .ok (.invokevirtual 48, 3) := by decide +kernel
theorem dX10_feed_48 : decode cX10_feed 48 = .ok (.aload_n 0, 1) := by decide +kernel
theorem dX10_feed_49 : decode cX10_feed 49 = .ok (.getfield 26, 3) := by decide +kernel
theorem dX10_feed_52 : decode cX10_feed 52 = .ok (.iload 5, 2) := by decide +kernel
theorem dX10_feed_54 : decode cX10_feed 54 = .ok (.invokevirtual 48, 3) := by decide +kernel
theorem dX10_feed_57 : decode cX10_feed 57 = .ok (.aload_n 0, 1) := by decide +kernel
theorem dX10_feed_58 : decode cX10_feed 58 = .ok (.getfield 26, 3) := by decide +kernel
theorem dX10_feed_61 : decode cX10_feed 61 = .ok (.getfield 44, 3) := by decide +kernel
theorem dX10_feed_64 : decode cX10_feed 64 = .ok (.ireturn, 1) := by decide +kernel
theorem dX10_text_0 : decode cX10_text 0 = .ok (.iload_n 1, 1) := by decide +kernel
theorem dX10_text_1 : decode cX10_text 1 = .ok (.ifCond .lt 14, 3) := by decide +kernel
theorem dX10_text_4 : decode cX10_text 4 = .ok (.iload_n 1, 1) := by decide +kernel
theorem dX10_text_5 : decode cX10_text 5 = .ok (.aload_n 0, 1) := by decide +kernel
theorem dX10_text_6 : decode cX10_text 6 = .ok (.getfield 26, 3) := by decide +kernel
theorem dX10_text_9 : decode cX10_text 9 = .ok (.getfield 44, 3) := by decide +kernel
theorem dX10_text_12 : decode cX10_text 12 = .ok (.if_icmp .le 6, 3) := by decide +kernel
theorem dX10_text_15 : decode cX10_text 15 = .ok (.bipush (-2), 2) := by decide +kernel
theorem dX10_text_17 : decode cX10_text 17 = .ok (.ireturn, 1) := by decide +kernel
theorem dX10_text_18 : decode cX10_text 18 = .ok (.aload_n 0, 1) := by decide +kernel
theorem dX10_text_19 : decode cX10_text 19 = .ok (.getfield 10, 3) := by decide +kernel
theorem dX10_text_22 : decode cX10_text 22 = .ok (.aload_n 0, 1) := by decide +kernel
theorem dX10_text_23 : decode cX10_text 23 = .ok (.getfield 41, 3) := by decide +kernel
theorem dX10_text_26 : decode cX10_text 26 = .ok (.aload_n 0, 1) := by decide +kernel
theorem dX10_text_27 : decode cX10_text 27 = .ok (.getfield 26, 3) := by decide +kernel
theorem dX10_text_30 : decode cX10_text 30 = .ok (.getfield 52, 3) := by decide +kernel
theorem dX10_text_33 : decode cX10_text 33 = .ok (.iload_n 1, 1) := by decide +kernel
theorem dX10_text_34 : decode cX10_text 34 = .ok (.invokevirtual 56, 3) := by decide +kernel
theorem dX10_text_37 : decode cX10_text 37 = .ok (.istore_n 2, 1) := by decide +kernel
theorem dX10_text_38 : decode cX10_text 38 = .ok (.aload_n 0, 1) := by decide +kernel
theorem dX10_text_39 : decode cX10_text 39 = .ok (.getfield 26, 3) := by decide +kernel
theorem dX10_text_42 : decode cX10_text 42 = .ok (.iconst 0, 1) := by decide +kernel
theorem dX10_text_43 : decode cX10_text 43 = .ok (.putfield 44, 3) := by decide +kernel
theorem dX10_text_46 : decode cX10_text 46 = .ok (.iload_n 2, 1) := by decide +kernel
theorem dX10_text_47 : decode cX10_text 47 = .ok (.ifCond .ne 5, 3) := by decide +kernel
theorem dX10_text_50 : decode cX10_text 50 = .ok (.iconst (-1), 1) := by decide +kernel
theorem dX10_text_51 : decode cX10_text 51 = .ok (.ireturn, 1) := by decide +kernel
theorem dX10_text_52 : decode cX10_text 52 = .ok (.aload_n 0, 1) := by decide +kernel
theorem dX10_text_53 : decode cX10_text 53 = .ok (.getfield 37, 3) := by decide +kernel
theorem dX10_text_56 : decode cX10_text 56 = .ok (.astore_n 3, 1) := by decide +kernel
theorem dX10_text_57 : decode cX10_text 57 = .ok (.aload_n 0, 1) := by decide +kernel
theorem dX10_text_58 : decode cX10_text 58 = .ok (.aload_n 0, 1) := by decide +kernel
theorem dX10_text_59 : decode cX10_text 59 = .ok (.getfield 41, 3) := by decide +kernel
theorem dX10_text_62 : decode cX10_text 62 = .ok (.putfield 37, 3) := by decide +kernel
theorem dX10_text_65 : decode cX10_text 65 = .ok (.aload_n 0, 1) := by decide +kernel
theorem dX10_text_66 : decode cX10_text 66 = .ok (.aload_n 3, 1) := by decide +kernel
theorem dX10_text_67 : decode cX10_text 67 = .ok (.putfield 41, 3) := by decide +kernel
theorem dX10_text_70 : decode cX10_text 70 = .ok (.aload_n 0, 1) := by decide +kernel
theorem dX10_text_71 : decode cX10_text 71 = .ok (.getfield 26, 3) := by decide +kernel
theorem dX10_text_74 : decode cX10_text 74 = .ok (.getfield 60, 3) := by decide +kernel
theorem dX10_text_77 : decode cX10_text 77 = .ok (.aload_n 0, 1) := by decide +kernel
theorem dX10_text_78 : decode cX10_text 78 = .ok (.getfield 37, 3) := by decide +kernel
theorem dX10_text_81 : decode cX10_text 81 = .ok (.invokevirtual 64, 3) := by decide +kernel
theorem dX10_text_84 : decode cX10_text 84 = .ok (.aload_n 0, 1) := by decide +kernel
theorem dX10_text_85 : decode cX10_text 85 = .ok (.iconst 0, 1) := by decide +kernel
theorem dX10_text_86 : decode cX10_text 86 = .ok (.putfield 70, 3) := by decide +kernel
theorem dX10_text_89 : decode cX10_text 89 = .ok (.aload_n 0, 1) := by decide +kernel
theorem dX10_text_90 : decode cX10_text 90 = .ok (.getfield 19, 3) := by decide +kernel
theorem dX10_text_93 : decode cX10_text 93 = .ok (.iconst 0, 1) := by decide +kernel
theorem dX10_text_94 : decode cX10_text 94 = .ok (.putfield 73, 3) := by decide +kernel
theorem dX10_text_97 : decode cX10_text 97 = .ok (.aload_n 0, 1) := by decide +kernel
theorem dX10_text_98 : decode cX10_text 98 = .ok (.getfield 37, 3) := by decide +kernel
theorem dX10_text_101 : decode cX10_text 101 = .ok (.getfield 77, 3) := by decide +kernel
theorem dX10_text_104 : decode cX10_text 104 = .ok (.ireturn, 1) := by decide +kernel
theorem dX10_fault_0 : decode cX10_fault 0 = .ok (.iload_n 1, 1) := by decide +kernel
theorem dX10_fault_1 : decode cX10_fault 1 = .ok (.ifCond .ne 11, 3) := by decide +kernel
theorem dX10_fault_4 : decode cX10_fault 4 = .ok (.aload_n 0, 1) := by decide +kernel
theorem dX10_fault_5 : decode cX10_fault 5 = .ok (.getfield 10, 3) := by decide +kernel
theorem dX10_fault_8 : decode cX10_fault 8 = .ok (.getfield 80, 3) := by decide +kernel
theorem dX10_fault_11 : decode cX10_fault 11 = .ok (.ireturn, 1) := by decide +kernel
theorem dX10_fault_12 : decode cX10_fault 12 = .ok (.iload_n 1, 1) := by decide +kernel
theorem dX10_fault_13 : decode cX10_fault 13 = .ok (.iconst 1, 1) := by decide +kernel
theorem dX10_fault_14 : decode cX10_fault 14 = .ok (.if_icmp .ne 13, 3) := by decide +kernel
theorem dX10_fault_17 : decode cX10_fault 17 = .ok (.aload_n 0, 1) := by decide +kernel
theorem dX10_fault_18 : decode cX10_fault 18 = .ok (.getfield 10, 3) := by decide +kernel
theorem dX10_fault_21 : decode cX10_fault 21 = .ok (.getfield 83, 3) := by decide +kernel
theorem dX10_fault_24 : decode cX10_fault 24 = .ok (.goto 4, 3) := by decide +kernel
theorem dX10_fault_27 : decode cX10_fault 27 = .ok (.iconst (-1), 1) := by decide +kernel
theorem dX10_fault_28 : decode cX10_fault 28 = .ok (.ireturn, 1) := by decide +kernel
theorem dX10_named_0 : decode cX10_named 0 = .ok (.aload_n 0, 1) := by decide +kernel
theorem dX10_named_1 : decode cX10_named 1 = .ok (.getfield 37, 3) := by decide +kernel
theorem dX10_named_4 : decode cX10_named 4 = .ok (.iload_n 1, 1) := by decide +kernel
theorem dX10_named_5 : decode cX10_named 5 = .ok (.invokevirtual 86, 3) := by decide +kernel
theorem dX10_named_8 : decode cX10_named 8 = .ok (.ireturn, 1) := by decide +kernel
theorem dX10_key_0 : decode cX10_key 0 = .ok (.aload_n 0, 1) := by decide +kernel
theorem dX10_key_1 : decode cX10_key 1 = .ok (.getfield 26, 3) := by decide +kernel
theorem dX10_key_4 : decode cX10_key 4 = .ok (.getfield 60, 3) := by decide +kernel
theorem dX10_key_7 : decode cX10_key 7 = .ok (.getfield 90, 3) := by decide +kernel
theorem dX10_key_10 : decode cX10_key 10 = .ok (.getfield 94, 3) := by decide +kernel
theorem dX10_key_13 : decode cX10_key 13 = .ok (.astore_n 3, 1) := by decide +kernel
theorem dX10_key_14 : decode cX10_key 14 = .ok (.iload_n 1, 1) := by decide +kernel
theorem dX10_key_15 : decode cX10_key 15 = .ok (.ifCond .lt 11, 3) := by decide +kernel
theorem dX10_key_18 : decode cX10_key 18 = .ok (.iload_n 1, 1) := by decide +kernel
theorem dX10_key_19 : decode cX10_key 19 = .ok (.aload_n 3, 1) := by decide +kernel
theorem dX10_key_20 : decode cX10_key 20 = .ok (.getfield 100, 3) := by decide +kernel
theorem dX10_key_23 : decode cX10_key 23 = .ok (.if_icmp .lt 13, 3) := by decide +kernel
theorem dX10_key_26 : decode cX10_key 26 = .ok (.new 105, 3) := by decide +kernel
theorem dX10_key_29 : decode cX10_key 29 = .ok (.dup, 1) := by decide +kernel
theorem dX10_key_30 : decode cX10_key 30 = .ok (.ldc 107, 2) := by decide +kernel
theorem dX10_key_32 : decode cX10_key 32 = .ok (.invokespecial 109, 3) := by decide +kernel
theorem dX10_key_35 : decode cX10_key 35 = .ok (.athrow, 1) := by decide +kernel
theorem dX10_key_36 : decode cX10_key 36 = .ok (.iload_n 2, 1) := by decide +kernel
theorem dX10_key_37 : decode cX10_key 37 = .ok (.tableswitch 59 0 3 #[31, 38, 45, 52], 31) := by decide +kernel
theorem dX10_key_68 : decode cX10_key 68 = .ok (.aload_n 3, 1) := by decide +kernel
theorem dX10_key_69 : decode cX10_key 69 = .ok (.getfield 112, 3) := by decide +kernel
theorem dX10_key_72 : decode cX10_key 72 = .ok (.iload_n 1, 1) := by decide +kernel
theorem dX10_key_73 : decode cX10_key 73 = .ok (.iaload, 1) := by decide +kernel
theorem dX10_key_74 : decode cX10_key 74 = .ok (.ireturn, 1) := by decide +kernel
theorem dX10_key_75 : decode cX10_key 75 = .ok (.aload_n 3, 1) := by decide +kernel
theorem dX10_key_76 : decode cX10_key 76 = .ok (.getfield 116, 3) := by decide +kernel
theorem dX10_key_79 : decode cX10_key 79 = .ok (.iload_n 1, 1) := by decide +kernel
theorem dX10_key_80 : decode cX10_key 80 = .ok (.iaload, 1) := by decide +kernel
theorem dX10_key_81 : decode cX10_key 81 = .ok (.ireturn, 1) := by decide +kernel
theorem dX10_key_82 : decode cX10_key 82 = .ok (.aload_n 3, 1) := by decide +kernel
theorem dX10_key_83 : decode cX10_key 83 = .ok (.getfield 119, 3) := by decide +kernel
theorem dX10_key_86 : decode cX10_key 86 = .ok (.iload_n 1, 1) := by decide +kernel
theorem dX10_key_87 : decode cX10_key 87 = .ok (.iaload, 1) := by decide +kernel
theorem dX10_key_88 : decode cX10_key 88 = .ok (.ireturn, 1) := by decide +kernel
theorem dX10_key_89 : decode cX10_key 89 = .ok (.aload_n 3, 1) := by decide +kernel
theorem dX10_key_90 : decode cX10_key 90 = .ok (.getfield 122, 3) := by decide +kernel
theorem dX10_key_93 : decode cX10_key 93 = .ok (.iload_n 1, 1) := by decide +kernel
theorem dX10_key_94 : decode cX10_key 94 = .ok (.iaload, 1) := by decide +kernel
theorem dX10_key_95 : decode cX10_key 95 = .ok (.ireturn, 1) := by decide +kernel
theorem dX10_key_96 : decode cX10_key 96 = .ok (.new 125, 3) := by decide +kernel
theorem dX10_key_99 : decode cX10_key 99 = .ok (.dup, 1) := by decide +kernel
theorem dX10_key_100 : decode cX10_key 100 = .ok (.ldc 127, 2) := by decide +kernel
theorem dX10_key_102 : decode cX10_key 102 = .ok (.invokespecial 129, 3) := by decide +kernel
theorem dX10_key_105 : decode cX10_key 105 = .ok (.athrow, 1) := by decide +kernel
theorem dX10_bits_0 : decode cX10_bits 0 = .ok (.iload_n 1, 1) := by decide +kernel
theorem dX10_bits_1 : decode cX10_bits 1 = .ok (.iload_n 2, 1) := by decide +kernel
theorem dX10_bits_2 : decode cX10_bits 2 = .ok (.invokestatic 130, 3) := by decide +kernel
theorem dX10_bits_5 : decode cX10_bits 5 = .ok (.ireturn, 1) := by decide +kernel
theorem dX10_place_0 : decode cX10_place 0 = .ok (.iload_n 1, 1) := by decide +kernel
theorem dX10_place_1 : decode cX10_place 1 = .ok (.iload_n 2, 1) := by decide +kernel
theorem dX10_place_2 : decode cX10_place 2 = .ok (.invokestatic 130, 3) := by decide +kernel
theorem dX10_place_5 : decode cX10_place 5 = .ok (.istore_n 3, 1) := by decide +kernel
theorem dX10_place_6 : decode cX10_place 6 = .ok (.iload_n 3, 1) := by decide +kernel
theorem dX10_place_7 : decode cX10_place 7 = .ok (.iconst (-1), 1) := by decide +kernel
theorem dX10_place_8 : decode cX10_place 8 = .ok (.if_icmp .ne 7, 3) := by decide +kernel
theorem dX10_place_11 : decode cX10_place 11 = .ok (.iconst (-1), 1) := by decide +kernel
theorem dX10_place_12 : decode cX10_place 12 = .ok (.goto 20, 3) := by decide +kernel
theorem dX10_place_15 : decode cX10_place 15 = .ok (.aload_n 0, 1) := by decide +kernel
theorem dX10_place_16 : decode cX10_place 16 = .ok (.getfield 26, 3) := by decide +kernel
theorem dX10_place_19 : decode cX10_place 19 = .ok (.getfield 60, 3) := by decide +kernel
theorem dX10_place_22 : decode cX10_place 22 = .ok (.getfield 90, 3) := by decide +kernel
theorem dX10_place_25 : decode cX10_place 25 = .ok (.getfield 94, 3) := by decide +kernel
theorem dX10_place_28 : decode cX10_place 28 = .ok (.iload_n 3, 1) := by decide +kernel
theorem dX10_place_29 : decode cX10_place 29 = .ok (.invokevirtual 136, 3) := by decide +kernel
theorem dX10_place_32 : decode cX10_place 32 = .ok (.ireturn, 1) := by decide +kernel
theorem dX10_width_0 : decode cX10_width 0 = .ok (.aload_n 0, 1) := by decide +kernel
theorem dX10_width_1 : decode cX10_width 1 = .ok (.getfield 26, 3) := by decide +kernel
theorem dX10_width_4 : decode cX10_width 4 = .ok (.getfield 60, 3) := by decide +kernel
theorem dX10_width_7 : decode cX10_width 7 = .ok (.getfield 90, 3) := by decide +kernel
theorem dX10_width_10 : decode cX10_width 10 = .ok (.getfield 94, 3) := by decide +kernel
theorem dX10_width_13 : decode cX10_width 13 = .ok (.astore_n 3, 1) := by decide +kernel
theorem dX10_width_14 : decode cX10_width 14 = .ok (.iload_n 1, 1) := by decide +kernel
theorem dX10_width_15 : decode cX10_width 15 = .ok (.ifCond .lt 20, 3) := by decide +kernel
theorem dX10_width_18 : decode cX10_width 18 = .ok (.iload_n 1, 1) := by decide +kernel
theorem dX10_width_19 : decode cX10_width 19 = .ok (.aload_n 3, 1) := by decide +kernel
theorem dX10_width_20 : decode cX10_width 20 = .ok (.getfield 100, 3) := by decide +kernel
theorem dX10_width_23 : decode cX10_width 23 = .ok (.if_icmp .ge 12, 3) := by decide +kernel
theorem dX10_width_26 : decode cX10_width 26 = .ok (.iload_n 2, 1) := by decide +kernel
theorem dX10_width_27 : decode cX10_width 27 = .ok (.ifCond .lt 8, 3) := by decide +kernel
theorem dX10_width_30 : decode cX10_width 30 = .ok (.iload_n 2, 1) := by decide +kernel
theorem dX10_width_31 : decode cX10_width 31 = .ok (.iconst 1, 1) := by decide +kernel
theorem dX10_width_32 : decode cX10_width 32 = .ok (.if_icmp .le 5, 3) := by decide +kernel
theorem dX10_width_35 : decode cX10_width 35 = .ok (.iconst (-1), 1) := by decide +kernel
theorem dX10_width_36 : decode cX10_width 36 = .ok (.ireturn, 1) := by decide +kernel
theorem dX10_width_37 : decode cX10_width 37 = .ok (.iload_n 2, 1) := by decide +kernel
theorem dX10_width_38 : decode cX10_width 38 = .ok (.ifCond .ne 11, 3) := by decide +kernel
theorem dX10_width_41 : decode cX10_width 41 = .ok (.aload_n 3, 1) := by decide +kernel
theorem dX10_width_42 : decode cX10_width 42 = .ok (.iload_n 1, 1) := by decide +kernel
theorem dX10_width_43 : decode cX10_width 43 = .ok (.invokevirtual 139, 3) := by decide +kernel
theorem dX10_width_46 : decode cX10_width 46 = .ok (.goto 8, 3) := by decide +kernel
theorem dX10_width_49 : decode cX10_width 49 = .ok (.aload_n 3, 1) := by decide +kernel
theorem dX10_width_50 : decode cX10_width 50 = .ok (.iload_n 1, 1) := by decide +kernel
theorem dX10_width_51 : decode cX10_width 51 = .ok (.invokevirtual 143, 3) := by decide +kernel
theorem dX10_width_54 : decode cX10_width 54 = .ok (.invokestatic 146, 3) := by decide +kernel
theorem dX10_width_57 : decode cX10_width 57 = .ok (.ireturn, 1) := by decide +kernel
theorem dX10_sum_0 : decode cX10_sum 0 = .ok (.aload_n 0, 1) := by decide +kernel
theorem dX10_sum_1 : decode cX10_sum 1 = .ok (.getfield 26, 3) := by decide +kernel
theorem dX10_sum_4 : decode cX10_sum 4 = .ok (.getfield 60, 3) := by decide +kernel
theorem dX10_sum_7 : decode cX10_sum 7 = .ok (.getfield 90, 3) := by decide +kernel
theorem dX10_sum_10 : decode cX10_sum 10 = .ok (.getfield 94, 3) := by decide +kernel
theorem dX10_sum_13 : decode cX10_sum 13 = .ok (.invokevirtual 150, 3) := by decide +kernel
theorem dX10_sum_16 : decode cX10_sum 16 = .ok (.invokestatic 146, 3) := by decide +kernel
theorem dX10_sum_19 : decode cX10_sum 19 = .ok (.ireturn, 1) := by decide +kernel
theorem dX10_widest_0 : decode cX10_widest 0 = .ok (.aload_n 0, 1) := by decide +kernel
theorem dX10_widest_1 : decode cX10_widest 1 = .ok (.getfield 26, 3) := by decide +kernel
theorem dX10_widest_4 : decode cX10_widest 4 = .ok (.getfield 60, 3) := by decide +kernel
theorem dX10_widest_7 : decode cX10_widest 7 = .ok (.getfield 90, 3) := by decide +kernel
theorem dX10_widest_10 : decode cX10_widest 10 = .ok (.getfield 94, 3) := by decide +kernel
theorem dX10_widest_13 : decode cX10_widest 13 = .ok (.astore_n 1, 1) := by decide +kernel
theorem dX10_widest_14 : decode cX10_widest 14 = .ok (.bipush (-2), 2) := by decide +kernel
theorem dX10_widest_16 : decode cX10_widest 16 = .ok (.istore_n 2, 1) := by decide +kernel
theorem dX10_widest_17 : decode cX10_widest 17 = .ok (.fconst 0, 1) := by decide +kernel
theorem dX10_widest_18 : decode cX10_widest 18 = .ok (.fstore_n 3, 1) := by decide +kernel
theorem dX10_widest_19 : decode cX10_widest 19 = .ok (.iconst 0, 1) := by decide +kernel
theorem dX10_widest_20 : decode cX10_widest 20 = .ok (.istore 4, 2) := by decide +kernel
theorem dX10_widest_22 : decode cX10_widest 22 = .ok (.iload 4, 2) := by decide +kernel
theorem dX10_widest_24 : decode cX10_widest 24 = .ok (.aload_n 1, 1) := by decide +kernel
theorem dX10_widest_25 : decode cX10_widest 25 = .ok (.getfield 100, 3) := by decide +kernel
theorem dX10_widest_28 : decode cX10_widest 28 = .ok (.if_icmp .ge 34, 3) := by decide +kernel
theorem dX10_widest_31 : decode cX10_widest 31 = .ok (.aload_n 1, 1) := by decide +kernel
theorem dX10_widest_32 : decode cX10_widest 32 = .ok (.iload 4, 2) := by decide +kernel
theorem dX10_widest_34 : decode cX10_widest 34 = .ok (.invokevirtual 139, 3) := by decide +kernel
theorem dX10_widest_37 : decode cX10_widest 37 = .ok (.fstore 5, 2) := by decide +kernel
theorem dX10_widest_39 : decode cX10_widest 39 = .ok (.iload_n 2, 1) := by decide +kernel
theorem dX10_widest_40 : decode cX10_widest 40 = .ok (.ifCond .lt 10, 3) := by decide +kernel
theorem dX10_widest_43 : decode cX10_widest 43 = .ok (.fload 5, 2) := by decide +kernel
theorem dX10_widest_45 : decode cX10_widest 45 = .ok (.fload_n 3, 1) := by decide +kernel
theorem dX10_widest_46 : decode cX10_widest 46 = .ok (.fcmp .l, 1) := by decide +kernel
theorem dX10_widest_47 : decode cX10_widest 47 = .ok (.ifCond .le 9, 3) := by decide +kernel
theorem dX10_widest_50 : decode cX10_widest 50 = .ok (.iload 4, 2) := by decide +kernel
theorem dX10_widest_52 : decode cX10_widest 52 = .ok (.istore_n 2, 1) := by decide +kernel
theorem dX10_widest_53 : decode cX10_widest 53 = .ok (.fload 5, 2) := by decide +kernel
theorem dX10_widest_55 : decode cX10_widest 55 = .ok (.fstore_n 3, 1) := by decide +kernel
theorem dX10_widest_56 : decode cX10_widest 56 = .ok (.iinc 4 1, 3) := by decide +kernel
theorem dX10_widest_59 : decode cX10_widest 59 = .ok (.goto (-37), 3) := by decide +kernel
theorem dX10_widest_62 : decode cX10_widest 62 = .ok (.iload_n 2, 1) := by decide +kernel
theorem dX10_widest_63 : decode cX10_widest 63 = .ok (.ireturn, 1) := by decide +kernel
theorem dX10_lock_0 : decode cX10_lock 0 = .ok (.aload_n 0, 1) := by decide +kernel
theorem dX10_lock_1 : decode cX10_lock 1 = .ok (.getfield 26, 3) := by decide +kernel
theorem dX10_lock_4 : decode cX10_lock 4 = .ok (.getfield 60, 3) := by decide +kernel
theorem dX10_lock_7 : decode cX10_lock 7 = .ok (.getfield 90, 3) := by decide +kernel
theorem dX10_lock_10 : decode cX10_lock 10 = .ok (.astore 4, 2) := by decide +kernel
theorem dX10_lock_12 : decode cX10_lock 12 = .ok (.aload 4, 2) := by decide +kernel
theorem dX10_lock_14 : decode cX10_lock 14 = .ok (.getfield 154, 3) := by decide +kernel
theorem dX10_lock_17 : decode cX10_lock 17 = .ok (.iload_n 1, 1) := by decide +kernel
theorem dX10_lock_18 : decode cX10_lock 18 = .ok (.invokevirtual 158, 3) := by decide +kernel
theorem dX10_lock_21 : decode cX10_lock 21 = .ok (.ifCond .eq 28, 3) := by decide +kernel
theorem dX10_lock_24 : decode cX10_lock 24 = .ok (.iload_n 2, 1) := by decide +kernel
theorem dX10_lock_25 : decode cX10_lock 25 = .ok (.ifCond .lt 24, 3) := by decide +kernel
theorem dX10_lock_28 : decode cX10_lock 28 = .ok (.iload_n 2, 1) := by decide +kernel
theorem dX10_lock_29 : decode cX10_lock 29 = .ok (.aload 4, 2) := by decide +kernel
theorem dX10_lock_31 : decode cX10_lock 31 = .ok (.getfield 94, 3) := by decide +kernel
theorem dX10_lock_34 : decode cX10_lock 34 = .ok (.getfield 100, 3) := by decide +kernel
theorem dX10_lock_37 : decode cX10_lock 37 = .ok (.if_icmp .gt 12, 3) := by decide +kernel
theorem dX10_lock_40 : decode cX10_lock 40 = .ok (.iload_n 3, 1) := by decide +kernel
theorem dX10_lock_41 : decode cX10_lock 41 = .ok (.ifCond .lt 8, 3) := by decide +kernel
theorem dX10_lock_44 : decode cX10_lock 44 = .ok (.iload_n 3, 1) := by decide +kernel
theorem dX10_lock_45 : decode cX10_lock 45 = .ok (.iconst 1, 1) := by decide +kernel
theorem dX10_lock_46 : decode cX10_lock 46 = .ok (.if_icmp .le 5, 3) := by decide +kernel
theorem dX10_lock_49 : decode cX10_lock 49 = .ok (.iconst (-1), 1) := by decide +kernel
theorem dX10_lock_50 : decode cX10_lock 50 = .ok (.ireturn, 1) := by decide +kernel
theorem dX10_lock_51 : decode cX10_lock 51 = .ok (.iload_n 3, 1) := by decide +kernel
theorem dX10_lock_52 : decode cX10_lock 52 = .ok (.ifCond .ne 20, 3) := by decide +kernel
theorem dX10_lock_55 : decode cX10_lock 55 = .ok (.aload 4, 2) := by decide +kernel
theorem dX10_lock_57 : decode cX10_lock 57 = .ok (.getfield 94, 3) := by decide +kernel
theorem dX10_lock_60 : decode cX10_lock 60 = .ok (.getfield 164, 3) := by decide +kernel
theorem dX10_lock_63 : decode cX10_lock 63 = .ok (.iload_n 2, 1) := by decide +kernel
theorem dX10_lock_64 : decode cX10_lock 64 = .ok (.iaload, 1) := by decide +kernel
theorem dX10_lock_65 : decode cX10_lock 65 = .ok (.iload_n 1, 1) := by decide +kernel
theorem dX10_lock_66 : decode cX10_lock 66 = .ok (.ishr, 1) := by decide +kernel
theorem dX10_lock_67 : decode cX10_lock 67 = .ok (.iconst 1, 1) := by decide +kernel
theorem dX10_lock_68 : decode cX10_lock 68 = .ok (.iand, 1) := by decide +kernel
theorem dX10_lock_69 : decode cX10_lock 69 = .ok (.goto 13, 3) := by decide +kernel
theorem dX10_lock_72 : decode cX10_lock 72 = .ok (.aload 4, 2) := by decide +kernel
theorem dX10_lock_74 : decode cX10_lock 74 = .ok (.getfield 94, 3) := by decide +kernel
theorem dX10_lock_77 : decode cX10_lock 77 = .ok (.iload_n 2, 1) := by decide +kernel
theorem dX10_lock_78 : decode cX10_lock 78 = .ok (.iload_n 1, 1) := by decide +kernel
theorem dX10_lock_79 : decode cX10_lock 79 = .ok (.invokevirtual 167, 3) := by decide +kernel
theorem dX10_lock_82 : decode cX10_lock 82 = .ok (.ireturn, 1) := by decide +kernel
theorem dX10_hand_0 : decode cX10_hand 0 = .ok (.aload_n 0, 1) := by decide +kernel
theorem dX10_hand_1 : decode cX10_hand 1 = .ok (.getfield 26, 3) := by decide +kernel
theorem dX10_hand_4 : decode cX10_hand 4 = .ok (.getfield 60, 3) := by decide +kernel
theorem dX10_hand_7 : decode cX10_hand 7 = .ok (.getfield 90, 3) := by decide +kernel
theorem dX10_hand_10 : decode cX10_hand 10 = .ok (.astore_n 3, 1) := by decide +kernel
theorem dX10_hand_11 : decode cX10_hand 11 = .ok (.aload_n 3, 1) := by decide +kernel
theorem dX10_hand_12 : decode cX10_hand 12 = .ok (.getfield 154, 3) := by decide +kernel
theorem dX10_hand_15 : decode cX10_hand 15 = .ok (.iload_n 1, 1) := by decide +kernel
theorem dX10_hand_16 : decode cX10_hand 16 = .ok (.invokevirtual 158, 3) := by decide +kernel
theorem dX10_hand_19 : decode cX10_hand 19 = .ok (.ifCond .ne 5, 3) := by decide +kernel
theorem dX10_hand_22 : decode cX10_hand 22 = .ok (.iconst (-1), 1) := by decide +kernel
theorem dX10_hand_23 : decode cX10_hand 23 = .ok (.ireturn, 1) := by decide +kernel
theorem dX10_hand_24 : decode cX10_hand 24 = .ok (.iload_n 2, 1) := by decide +kernel
theorem dX10_hand_25 : decode cX10_hand 25 = .ok (.tableswitch 79 0 4 #[35, 45, 51, 60, 70], 35) := by decide +kernel
theorem dX10_hand_60 : decode cX10_hand 60 = .ok (.aload_n 3, 1) := by decide +kernel
theorem dX10_hand_61 : decode cX10_hand 61 = .ok (.getfield 154, 3) := by decide +kernel
theorem dX10_hand_64 : decode cX10_hand 64 = .ok (.getfield 170, 3) := by decide +kernel
theorem dX10_hand_67 : decode cX10_hand 67 = .ok (.iload_n 1, 1) := by decide +kernel
theorem dX10_hand_68 : decode cX10_hand 68 = .ok (.iaload, 1) := by decide +kernel
theorem dX10_hand_69 : decode cX10_hand 69 = .ok (.ireturn, 1) := by decide +kernel
theorem dX10_hand_70 : decode cX10_hand 70 = .ok (.aload_n 3, 1) := by decide +kernel
theorem dX10_hand_71 : decode cX10_hand 71 = .ok (.iload_n 1, 1) := by decide +kernel
theorem dX10_hand_72 : decode cX10_hand 72 = .ok (.invokevirtual 173, 3) := by decide +kernel
theorem dX10_hand_75 : decode cX10_hand 75 = .ok (.ireturn, 1) := by decide +kernel
theorem dX10_hand_76 : decode cX10_hand 76 = .ok (.aload_n 3, 1) := by decide +kernel
theorem dX10_hand_77 : decode cX10_hand 77 = .ok (.getfield 94, 3) := by decide +kernel
theorem dX10_hand_80 : decode cX10_hand 80 = .ok (.iload_n 1, 1) := by decide +kernel
theorem dX10_hand_81 : decode cX10_hand 81 = .ok (.invokevirtual 176, 3) := by decide +kernel
theorem dX10_hand_84 : decode cX10_hand 84 = .ok (.ireturn, 1) := by decide +kernel
theorem dX10_hand_85 : decode cX10_hand 85 = .ok (.aload_n 3, 1) := by decide +kernel
theorem dX10_hand_86 : decode cX10_hand 86 = .ok (.getfield 154, 3) := by decide +kernel
theorem dX10_hand_89 : decode cX10_hand 89 = .ok (.getfield 179, 3) := by decide +kernel
theorem dX10_hand_92 : decode cX10_hand 92 = .ok (.iload_n 1, 1) := by decide +kernel
theorem dX10_hand_93 : decode cX10_hand 93 = .ok (.iaload, 1) := by decide +kernel
theorem dX10_hand_94 : decode cX10_hand 94 = .ok (.ireturn, 1) := by decide +kernel
theorem dX10_hand_95 : decode cX10_hand 95 = .ok (.aload_n 3, 1) := by decide +kernel
theorem dX10_hand_96 : decode cX10_hand 96 = .ok (.getfield 182, 3) := by decide +kernel
theorem dX10_hand_99 : decode cX10_hand 99 = .ok (.iload_n 1, 1) := by decide +kernel
theorem dX10_hand_100 : decode cX10_hand 100 = .ok (.invokevirtual 186, 3) := by decide +kernel
theorem dX10_hand_103 : decode cX10_hand 103 = .ok (.ireturn, 1) := by decide +kernel
theorem dX10_hand_104 : decode cX10_hand 104 = .ok (.iconst (-1), 1) := by decide +kernel
theorem dX10_hand_105 : decode cX10_hand 105 = .ok (.ireturn, 1) := by decide +kernel
theorem dX10_queue_0 : decode cX10_queue 0 = .ok (.aload_n 0, 1) := by decide +kernel
theorem dX10_queue_1 : decode cX10_queue 1 = .ok (.getfield 26, 3) := by decide +kernel
theorem dX10_queue_4 : decode cX10_queue 4 = .ok (.getfield 60, 3) := by decide +kernel
theorem dX10_queue_7 : decode cX10_queue 7 = .ok (.getfield 90, 3) := by decide +kernel
theorem dX10_queue_10 : decode cX10_queue 10 = .ok (.getfield 154, 3) := by decide +kernel
theorem dX10_queue_13 : decode cX10_queue 13 = .ok (.astore_n 2, 1) := by decide +kernel
theorem dX10_queue_14 : decode cX10_queue 14 = .ok (.iload_n 1, 1) := by decide +kernel
theorem dX10_queue_15 : decode cX10_queue 15 = .ok (.ifCond .ge 5, 3) := by decide +kernel
theorem dX10_queue_18 : decode cX10_queue 18 = .ok (.iconst (-1), 1) := by decide +kernel
theorem dX10_queue_19 : decode cX10_queue 19 = .ok (.ireturn, 1) := by decide +kernel
theorem dX10_queue_20 : decode cX10_queue 20 = .ok (.iload_n 1, 1) := by decide +kernel
theorem dX10_queue_21 : decode cX10_queue 21 = .ok (.aload_n 2, 1) := by decide +kernel
theorem dX10_queue_22 : decode cX10_queue 22 = .ok (.getfield 191, 3) := by decide +kernel
theorem dX10_queue_25 : decode cX10_queue 25 = .ok (.if_icmp .ge 12, 3) := by decide +kernel
theorem dX10_queue_28 : decode cX10_queue 28 = .ok (.aload_n 2, 1) := by decide +kernel
theorem dX10_queue_29 : decode cX10_queue 29 = .ok (.getfield 194, 3) := by decide +kernel
theorem dX10_queue_32 : decode cX10_queue 32 = .ok (.iload_n 1, 1) := by decide +kernel
theorem dX10_queue_33 : decode cX10_queue 33 = .ok (.iaload, 1) := by decide +kernel
theorem dX10_queue_34 : decode cX10_queue 34 = .ok (.goto 5, 3) := by decide +kernel
theorem dX10_queue_37 : decode cX10_queue 37 = .ok (.bipush (-2), 2) := by decide +kernel
theorem dX10_queue_39 : decode cX10_queue 39 = .ok (.ireturn, 1) := by decide +kernel
theorem dX10_stops_0 : decode cX10_stops 0 = .ok (.aload_n 0, 1) := by decide +kernel
theorem dX10_stops_1 : decode cX10_stops 1 = .ok (.getfield 26, 3) := by decide +kernel
theorem dX10_stops_4 : decode cX10_stops 4 = .ok (.getfield 60, 3) := by decide +kernel
theorem dX10_stops_7 : decode cX10_stops 7 = .ok (.getfield 90, 3) := by decide +kernel
theorem dX10_stops_10 : decode cX10_stops 10 = .ok (.astore 5, 2) := by decide +kernel
theorem dX10_stops_12 : decode cX10_stops 12 = .ok (.iload_n 2, 1) := by decide +kernel
theorem dX10_stops_13 : decode cX10_stops 13 = .ok (.iload_n 3, 1) := by decide +kernel
theorem dX10_stops_14 : decode cX10_stops 14 = .ok (.invokestatic 130, 3) := by decide +kernel
theorem dX10_stops_17 : decode cX10_stops 17 = .ok (.istore 6, 2) := by decide +kernel
theorem dX10_stops_19 : decode cX10_stops 19 = .ok (.aload 5, 2) := by decide +kernel
theorem dX10_stops_21 : decode cX10_stops 21 = .ok (.getfield 154, 3) := by decide +kernel
theorem dX10_stops_24 : decode cX10_stops 24 = .ok (.iload_n 1, 1) := by decide +kernel
theorem dX10_stops_25 : decode cX10_stops 25 = .ok (.invokevirtual 158, 3) := by decide +kernel
theorem dX10_stops_28 : decode cX10_stops 28 = .ok (.ifCond .eq 20, 3) := by decide +kernel
theorem dX10_stops_31 : decode cX10_stops 31 = .ok (.iload 6, 2) := by decide +kernel
theorem dX10_stops_33 : decode cX10_stops 33 = .ok (.iconst (-1), 1) := by decide +kernel
theorem dX10_stops_34 : decode cX10_stops 34 = .ok (.if_icmp .eq 14, 3) := by decide +kernel
theorem dX10_stops_37 : decode cX10_stops 37 = .ok (.iload 4, 2) := by decide +kernel
theorem dX10_stops_39 : decode cX10_stops 39 = .ok (.ifCond .lt 9, 3) := by decide +kernel
theorem dX10_stops_42 : decode cX10_stops 42 = .ok (.iload 4, 2) := by decide +kernel
theorem dX10_stops_44 : decode cX10_stops 44 = .ok (.iconst 2, 1) := by decide +kernel
theorem dX10_stops_45 : decode cX10_stops 45 = .ok (.if_icmp .le 5, 3) := by decide +kernel
theorem dX10_stops_48 : decode cX10_stops 48 = .ok (.iconst (-1), 1) := by decide +kernel
theorem dX10_stops_49 : decode cX10_stops 49 = .ok (.ireturn, 1) := by decide +kernel
theorem dX10_stops_50 : decode cX10_stops 50 = .ok (.aload 5, 2) := by decide +kernel
theorem dX10_stops_52 : decode cX10_stops 52 = .ok (.getfield 94, 3) := by decide +kernel
theorem dX10_stops_55 : decode cX10_stops 55 = .ok (.astore 7, 2) := by decide +kernel
theorem dX10_stops_57 : decode cX10_stops 57 = .ok (.aload 7, 2) := by decide +kernel
theorem dX10_stops_59 : decode cX10_stops 59 = .ok (.iload 6, 2) := by decide +kernel
theorem dX10_stops_61 : decode cX10_stops 61 = .ok (.invokevirtual 136, 3) := by decide +kernel
theorem dX10_stops_64 : decode cX10_stops 64 = .ok (.istore 8, 2) := by decide +kernel
theorem dX10_stops_66 : decode cX10_stops 66 = .ok (.iload 4, 2) := by decide +kernel
theorem dX10_stops_68 : decode cX10_stops 68 = .ok (.ifCond .ne 7, 3) := by decide +kernel
theorem dX10_stops_71 : decode cX10_stops 71 = .ok (.iconst 1, 1) := by decide +kernel
theorem dX10_stops_72 : decode cX10_stops 72 = .ok (.goto 4, 3) := by decide +kernel
theorem dX10_stops_75 : decode cX10_stops 75 = .ok (.iconst 2, 1) := by decide +kernel
theorem dX10_stops_76 : decode cX10_stops 76 = .ok (.istore 9, 2) := by decide +kernel
theorem dX10_stops_78 : decode cX10_stops 78 = .ok (.iload 4, 2) := by decide +kernel
theorem dX10_stops_80 : decode cX10_stops 80 = .ok (.iconst 2, 1) := by decide +kernel
theorem dX10_stops_81 : decode cX10_stops 81 = .ok (.if_icmp .ne 45, 3) := by decide +kernel
theorem dX10_stops_84 : decode cX10_stops 84 = .ok (.aload 7, 2) := by decide +kernel
theorem dX10_stops_86 : decode cX10_stops 86 = .ok (.iload 8, 2) := by decide +kernel
theorem dX10_stops_88 : decode cX10_stops 88 = .ok (.iload 6, 2) := by decide +kernel
theorem dX10_stops_90 : decode cX10_stops 90 = .ok (.invokevirtual 197, 3) := by decide +kernel
theorem dX10_stops_93 : decode cX10_stops 93 = .ok (.istore 10, 2) := by decide +kernel
theorem dX10_stops_95 : decode cX10_stops 95 = .ok (.iload 10, 2) := by decide +kernel
theorem dX10_stops_97 : decode cX10_stops 97 = .ok (.ifCond .eq 17, 3) := by decide +kernel
theorem dX10_stops_100 : decode cX10_stops 100 = .ok (.aload 7, 2) := by decide +kernel
theorem dX10_stops_102 : decode cX10_stops 102 = .ok (.getfield 119, 3) := by decide +kernel
theorem dX10_stops_105 : decode cX10_stops 105 = .ok (.iload 8, 2) := by decide +kernel
theorem dX10_stops_107 : decode cX10_stops 107 = .ok (.iaload, 1) := by decide +kernel
theorem dX10_stops_108 : decode cX10_stops 108 = .ok (.iload_n 1, 1) := by decide +kernel
theorem dX10_stops_109 : decode cX10_stops 109 = .ok (.if_icmp .ne 5, 3) := by decide +kernel
theorem dX10_stops_112 : decode cX10_stops 112 = .ok (.iconst 0, 1) := by decide +kernel
theorem dX10_stops_113 : decode cX10_stops 113 = .ok (.ireturn, 1) := by decide +kernel
theorem dX10_stops_114 : decode cX10_stops 114 = .ok (.iload 10, 2) := by decide +kernel
theorem dX10_stops_116 : decode cX10_stops 116 = .ok (.ifCond .eq 7, 3) := by decide +kernel
theorem dX10_stops_119 : decode cX10_stops 119 = .ok (.iconst 1, 1) := by decide +kernel
theorem dX10_stops_120 : decode cX10_stops 120 = .ok (.goto 4, 3) := by decide +kernel
theorem dX10_stops_123 : decode cX10_stops 123 = .ok (.iconst 3, 1) := by decide +kernel
theorem dX10_stops_124 : decode cX10_stops 124 = .ok (.istore 9, 2) := by decide +kernel
theorem dX10_stops_126 : decode cX10_stops 126 = .ok (.aload 7, 2) := by decide +kernel
theorem dX10_stops_128 : decode cX10_stops 128 = .ok (.iload_n 1, 1) := by decide +kernel
theorem dX10_stops_129 : decode cX10_stops 129 = .ok (.iload 9, 2) := by decide +kernel
theorem dX10_stops_131 : decode cX10_stops 131 = .ok (.iload 6, 2) := by decide +kernel
theorem dX10_stops_133 : decode cX10_stops 133 = .ok (.invokevirtual 201, 3) := by decide +kernel
theorem dX10_stops_136 : decode cX10_stops 136 = .ok (.ireturn, 1) := by decide +kernel
theorem dX10_ring_0 : decode cX10_ring 0 = .ok (.aload_n 0, 1) := by decide +kernel
theorem dX10_ring_1 : decode cX10_ring 1 = .ok (.getfield 26, 3) := by decide +kernel
theorem dX10_ring_4 : decode cX10_ring 4 = .ok (.getfield 60, 3) := by decide +kernel
theorem dX10_ring_7 : decode cX10_ring 7 = .ok (.getfield 90, 3) := by decide +kernel
theorem dX10_ring_10 : decode cX10_ring 10 = .ok (.astore_n 3, 1) := by decide +kernel
theorem dX10_ring_11 : decode cX10_ring 11 = .ok (.aload_n 3, 1) := by decide +kernel
theorem dX10_ring_12 : decode cX10_ring 12 = .ok (.getfield 154, 3) := by decide +kernel
theorem dX10_ring_15 : decode cX10_ring 15 = .ok (.astore 4, 2) := by decide +kernel
theorem dX10_ring_17 : decode cX10_ring 17 = .ok (.aload 4, 2) := by decide +kernel
theorem dX10_ring_19 : decode cX10_ring 19 = .ok (.iload_n 1, 1) := by decide +kernel
theorem dX10_ring_20 : decode cX10_ring 20 = .ok (.invokevirtual 158, 3) := by decide +kernel
theorem dX10_ring_23 : decode cX10_ring 23 = .ok (.ifCond .eq 28, 3) := by decide +kernel
theorem dX10_ring_26 : decode cX10_ring 26 = .ok (.aload 4, 2) := by decide +kernel
theorem dX10_ring_28 : decode cX10_ring 28 = .ok (.iload_n 2, 1) := by decide +kernel
theorem dX10_ring_29 : decode cX10_ring 29 = .ok (.invokevirtual 158, 3) := by decide +kernel
theorem dX10_ring_32 : decode cX10_ring 32 = .ok (.ifCond .eq 19, 3) := by decide +kernel
theorem dX10_ring_35 : decode cX10_ring 35 = .ok (.iload_n 1, 1) := by decide +kernel
theorem dX10_ring_36 : decode cX10_ring 36 = .ok (.iload_n 2, 1) := by decide +kernel
theorem dX10_ring_37 : decode cX10_ring 37 = .ok (.if_icmp .eq 14, 3) := by decide +kernel
theorem dX10_ring_40 : decode cX10_ring 40 = .ok (.aload 4, 2) := by decide +kernel
theorem dX10_ring_42 : decode cX10_ring 42 = .ok (.getfield 170, 3) := by decide +kernel
theorem dX10_ring_45 : decode cX10_ring 45 = .ok (.iload_n 1, 1) := by decide +kernel
theorem dX10_ring_46 : decode cX10_ring 46 = .ok (.iaload, 1) := by decide +kernel
theorem dX10_ring_47 : decode cX10_ring 47 = .ok (.iconst 1, 1) := by decide +kernel
theorem dX10_ring_48 : decode cX10_ring 48 = .ok (.if_icmp .eq 5, 3) := by decide +kernel
theorem dX10_ring_51 : decode cX10_ring 51 = .ok (.iconst (-1), 1) := by decide +kernel
theorem dX10_ring_52 : decode cX10_ring 52 = .ok (.ireturn, 1) := by decide +kernel
theorem dX10_ring_53 : decode cX10_ring 53 = .ok (.aload_n 3, 1) := by decide +kernel
theorem dX10_ring_54 : decode cX10_ring 54 = .ok (.iconst 1, 1) := by decide +kernel
theorem dX10_ring_55 : decode cX10_ring 55 = .ok (.iload_n 2, 1) := by decide +kernel
theorem dX10_ring_56 : decode cX10_ring 56 = .ok (.ishl, 1) := by decide +kernel
theorem dX10_ring_57 : decode cX10_ring 57 = .ok (.iload_n 1, 1) := by decide +kernel
theorem dX10_ring_58 : decode cX10_ring 58 = .ok (.invokevirtual 205, 3) := by decide +kernel
theorem dX10_ring_61 : decode cX10_ring 61 = .ok (.ifCond .eq 7, 3) := by decide +kernel
theorem dX10_ring_64 : decode cX10_ring 64 = .ok (.iconst 1, 1) := by decide +kernel
theorem dX10_ring_65 : decode cX10_ring 65 = .ok (.goto 4, 3) := by decide +kernel
theorem dX10_ring_68 : decode cX10_ring 68 = .ok (.iconst 0, 1) := by decide +kernel
theorem dX10_ring_69 : decode cX10_ring 69 = .ok (.ireturn, 1) := by decide +kernel
theorem dX10_free_0 : decode cX10_free 0 = .ok (.aload_n 0, 1) := by decide +kernel
theorem dX10_free_1 : decode cX10_free 1 = .ok (.getfield 26, 3) := by decide +kernel
theorem dX10_free_4 : decode cX10_free 4 = .ok (.getfield 60, 3) := by decide +kernel
theorem dX10_free_7 : decode cX10_free 7 = .ok (.getfield 90, 3) := by decide +kernel
theorem dX10_free_10 : decode cX10_free 10 = .ok (.getfield 94, 3) := by decide +kernel
theorem dX10_free_13 : decode cX10_free 13 = .ok (.astore_n 1, 1) := by decide +kernel
theorem dX10_free_14 : decode cX10_free 14 = .ok (.iconst 0, 1) := by decide +kernel
theorem dX10_free_15 : decode cX10_free 15 = .ok (.istore_n 2, 1) := by decide +kernel
theorem dX10_free_16 : decode cX10_free 16 = .ok (.iconst 0, 1) := by decide +kernel
theorem dX10_free_17 : decode cX10_free 17 = .ok (.istore_n 3, 1) := by decide +kernel
theorem dX10_free_18 : decode cX10_free 18 = .ok (.iload_n 3, 1) := by decide +kernel
theorem dX10_free_19 : decode cX10_free 19 = .ok (.aload_n 1, 1) := by decide +kernel
theorem dX10_free_20 : decode cX10_free 20 = .ok (.getfield 100, 3) := by decide +kernel
theorem dX10_free_23 : decode cX10_free 23 = .ok (.if_icmp .gt 28, 3) := by decide +kernel
theorem dX10_free_26 : decode cX10_free 26 = .ok (.iload_n 2, 1) := by decide +kernel
theorem dX10_free_27 : decode cX10_free 27 = .ok (.aload_n 1, 1) := by decide +kernel
theorem dX10_free_28 : decode cX10_free 28 = .ok (.getfield 164, 3) := by decide +kernel
theorem dX10_free_31 : decode cX10_free 31 = .ok (.iload_n 3, 1) := by decide +kernel
theorem dX10_free_32 : decode cX10_free 32 = .ok (.iaload, 1) := by decide +kernel
theorem dX10_free_33 : decode cX10_free 33 = .ok (.ifCond .ne 9, 3) := by decide +kernel
theorem dX10_free_36 : decode cX10_free 36 = .ok (.iconst 1, 1) := by decide +kernel
theorem dX10_free_37 : decode cX10_free 37 = .ok (.iload_n 3, 1) := by decide +kernel
theorem dX10_free_38 : decode cX10_free 38 = .ok (.ishl, 1) := by decide +kernel
theorem dX10_free_39 : decode cX10_free 39 = .ok (.goto 4, 3) := by decide +kernel
theorem dX10_free_42 : decode cX10_free 42 = .ok (.iconst 0, 1) := by decide +kernel
theorem dX10_free_43 : decode cX10_free 43 = .ok (.ior, 1) := by decide +kernel
theorem dX10_free_44 : decode cX10_free 44 = .ok (.istore_n 2, 1) := by decide +kernel
theorem dX10_free_45 : decode cX10_free 45 = .ok (.iinc 3 1, 3) := by decide +kernel
theorem dX10_free_48 : decode cX10_free 48 = .ok (.goto (-30), 3) := by decide +kernel
theorem dX10_free_51 : decode cX10_free 51 = .ok (.iload_n 2, 1) := by decide +kernel
theorem dX10_free_52 : decode cX10_free 52 = .ok (.ireturn, 1) := by decide +kernel
theorem dX10_open_0 : decode cX10_open 0 = .ok (.aload_n 0, 1) := by decide +kernel
theorem dX10_open_1 : decode cX10_open 1 = .ok (.getfield 26, 3) := by decide +kernel
theorem dX10_open_4 : decode cX10_open 4 = .ok (.getfield 60, 3) := by decide +kernel
theorem dX10_open_7 : decode cX10_open 7 = .ok (.getfield 90, 3) := by decide +kernel
theorem dX10_open_10 : decode cX10_open 10 = .ok (.iload_n 1, 1) := by decide +kernel
theorem dX10_open_11 : decode cX10_open 11 = .ok (.iconst 0, 1) := by decide +kernel
theorem dX10_open_12 : decode cX10_open 12 = .ok (.iconst 0, 1) := by decide +kernel
theorem dX10_open_13 : decode cX10_open 13 = .ok (.iconst 0, 1) := by decide +kernel
theorem dX10_open_14 : decode cX10_open 14 = .ok (.iconst 0, 1) := by decide +kernel
theorem dX10_open_15 : decode cX10_open 15 = .ok (.invokevirtual 208, 3) := by decide +kernel
theorem dX10_open_18 : decode cX10_open 18 = .ok (.ireturn, 1) := by decide +kernel
theorem dX10_scan_0 : decode cX10_scan 0 = .ok (.iload_n 2, 1) := by decide +kernel
theorem dX10_scan_1 : decode cX10_scan 1 = .ok (.invokestatic 212, 3) := by decide +kernel
theorem dX10_scan_4 : decode cX10_scan 4 = .ok (.istore 4, 2) := by decide +kernel
theorem dX10_scan_6 : decode cX10_scan 6 = .ok (.iload_n 3, 1) := by decide +kernel
theorem dX10_scan_7 : decode cX10_scan 7 = .ok (.invokestatic 212, 3) := by decide +kernel
theorem dX10_scan_10 : decode cX10_scan 10 = .ok (.istore 5, 2) := by decide +kernel
theorem dX10_scan_12 : decode cX10_scan 12 = .ok (.iload 4, 2) := by decide +kernel
theorem dX10_scan_14 : decode cX10_scan 14 = .ok (.iconst (-1), 1) := by decide +kernel
theorem dX10_scan_15 : decode cX10_scan 15 = .ok (.if_icmp .eq 16, 3) := by decide +kernel
theorem dX10_scan_18 : decode cX10_scan 18 = .ok (.iload 5, 2) := by decide +kernel
theorem dX10_scan_20 : decode cX10_scan 20 = .ok (.iconst (-1), 1) := by decide +kernel
theorem dX10_scan_21 : decode cX10_scan 21 = .ok (.if_icmp .eq 10, 3) := by decide +kernel
theorem dX10_scan_24 : decode cX10_scan 24 = .ok (.iload 4, 2) := by decide +kernel
theorem dX10_scan_26 : decode cX10_scan 26 = .ok (.iload 5, 2) := by decide +kernel
theorem dX10_scan_28 : decode cX10_scan 28 = .ok (.if_icmp .le 5, 3) := by decide +kernel
theorem dX10_scan_31 : decode cX10_scan 31 = .ok (.iconst (-1), 1) := by decide +kernel
theorem dX10_scan_32 : decode cX10_scan 32 = .ok (.ireturn, 1) := by decide +kernel
theorem dX10_scan_33 : decode cX10_scan 33 = .ok (.aload_n 0, 1) := by decide +kernel
theorem dX10_scan_34 : decode cX10_scan 34 = .ok (.getfield 26, 3) := by decide +kernel
theorem dX10_scan_37 : decode cX10_scan 37 = .ok (.getfield 60, 3) := by decide +kernel
theorem dX10_scan_40 : decode cX10_scan 40 = .ok (.getfield 90, 3) := by decide +kernel
theorem dX10_scan_43 : decode cX10_scan 43 = .ok (.iload_n 1, 1) := by decide +kernel
theorem dX10_scan_44 : decode cX10_scan 44 = .ok (.iconst 1, 1) := by decide +kernel
theorem dX10_scan_45 : decode cX10_scan 45 = .ok (.iload 4, 2) := by decide +kernel
theorem dX10_scan_47 : decode cX10_scan 47 = .ok (.iload 5, 2) := by decide +kernel
theorem dX10_scan_49 : decode cX10_scan 49 = .ok (.iconst 0, 1) := by decide +kernel
theorem dX10_scan_50 : decode cX10_scan 50 = .ok (.invokevirtual 208, 3) := by decide +kernel
theorem dX10_scan_53 : decode cX10_scan 53 = .ok (.ireturn, 1) := by decide +kernel
theorem dX10_seek_0 : decode cX10_seek 0 = .ok (.aload_n 0, 1) := by decide +kernel
theorem dX10_seek_1 : decode cX10_seek 1 = .ok (.iload_n 1, 1) := by decide +kernel
theorem dX10_seek_2 : decode cX10_seek 2 = .ok (.iconst 2, 1) := by decide +kernel
theorem dX10_seek_3 : decode cX10_seek 3 = .ok (.iload_n 2, 1) := by decide +kernel
theorem dX10_seek_4 : decode cX10_seek 4 = .ok (.iload_n 3, 1) := by decide +kernel
theorem dX10_seek_5 : decode cX10_seek 5 = .ok (.invokestatic 130, 3) := by decide +kernel
theorem dX10_seek_8 : decode cX10_seek 8 = .ok (.iconst 0, 1) := by decide +kernel
theorem dX10_seek_9 : decode cX10_seek 9 = .ok (.invokevirtual 215, 3) := by decide +kernel
theorem dX10_seek_12 : decode cX10_seek 12 = .ok (.ireturn, 1) := by decide +kernel
theorem dX10_grab_0 : decode cX10_grab 0 = .ok (.aload_n 0, 1) := by decide +kernel
theorem dX10_grab_1 : decode cX10_grab 1 = .ok (.iload_n 1, 1) := by decide +kernel
theorem dX10_grab_2 : decode cX10_grab 2 = .ok (.iconst 3, 1) := by decide +kernel
theorem dX10_grab_3 : decode cX10_grab 3 = .ok (.iload_n 2, 1) := by decide +kernel
theorem dX10_grab_4 : decode cX10_grab 4 = .ok (.iload_n 3, 1) := by decide +kernel
theorem dX10_grab_5 : decode cX10_grab 5 = .ok (.invokestatic 130, 3) := by decide +kernel
theorem dX10_grab_8 : decode cX10_grab 8 = .ok (.iconst 0, 1) := by decide +kernel
theorem dX10_grab_9 : decode cX10_grab 9 = .ok (.invokevirtual 215, 3) := by decide +kernel
theorem dX10_grab_12 : decode cX10_grab 12 = .ok (.ireturn, 1) := by decide +kernel
theorem dX10_set_0 : decode cX10_set 0 = .ok (.aload_n 0, 1) := by decide +kernel
theorem dX10_set_1 : decode cX10_set 1 = .ok (.iload_n 1, 1) := by decide +kernel
theorem dX10_set_2 : decode cX10_set 2 = .ok (.iconst 4, 1) := by decide +kernel
theorem dX10_set_3 : decode cX10_set 3 = .ok (.iload_n 2, 1) := by decide +kernel
theorem dX10_set_4 : decode cX10_set 4 = .ok (.iload_n 3, 1) := by decide +kernel
theorem dX10_set_5 : decode cX10_set 5 = .ok (.invokestatic 130, 3) := by decide +kernel
theorem dX10_set_8 : decode cX10_set 8 = .ok (.iload 4, 2) := by decide +kernel
theorem dX10_set_10 : decode cX10_set 10 = .ok (.invokevirtual 215, 3) := by decide +kernel
theorem dX10_set_13 : decode cX10_set 13 = .ok (.ireturn, 1) := by decide +kernel
theorem dX10_put_0 : decode cX10_put 0 = .ok (.aload_n 0, 1) := by decide +kernel
theorem dX10_put_1 : decode cX10_put 1 = .ok (.iload_n 1, 1) := by decide +kernel
theorem dX10_put_2 : decode cX10_put 2 = .ok (.iconst 5, 1) := by decide +kernel
theorem dX10_put_3 : decode cX10_put 3 = .ok (.iload_n 2, 1) := by decide +kernel
theorem dX10_put_4 : decode cX10_put 4 = .ok (.iload_n 3, 1) := by decide +kernel
theorem dX10_put_5 : decode cX10_put 5 = .ok (.invokestatic 130, 3) := by decide +kernel
theorem dX10_put_8 : decode cX10_put 8 = .ok (.iload 4, 2) := by decide +kernel
theorem dX10_put_10 : decode cX10_put 10 = .ok (.invokevirtual 215, 3) := by decide +kernel
theorem dX10_put_13 : decode cX10_put 13 = .ok (.ireturn, 1) := by decide +kernel
theorem dX10_cut_0 : decode cX10_cut 0 = .ok (.aload_n 0, 1) := by decide +kernel
theorem dX10_cut_1 : decode cX10_cut 1 = .ok (.iload_n 1, 1) := by decide +kernel
theorem dX10_cut_2 : decode cX10_cut 2 = .ok (.bipush 6, 2) := by decide +kernel
theorem dX10_cut_4 : decode cX10_cut 4 = .ok (.iload_n 2, 1) := by decide +kernel
theorem dX10_cut_5 : decode cX10_cut 5 = .ok (.iload_n 3, 1) := by decide +kernel
theorem dX10_cut_6 : decode cX10_cut 6 = .ok (.invokestatic 130, 3) := by decide +kernel
theorem dX10_cut_9 : decode cX10_cut 9 = .ok (.iconst 0, 1) := by decide +kernel
theorem dX10_cut_10 : decode cX10_cut 10 = .ok (.invokevirtual 215, 3) := by decide +kernel
theorem dX10_cut_13 : decode cX10_cut 13 = .ok (.ireturn, 1) := by decide +kernel
theorem dX10_end_0 : decode cX10_end 0 = .ok (.aload_n 0, 1) := by decide +kernel
theorem dX10_end_1 : decode cX10_end 1 = .ok (.getfield 26, 3) := by decide +kernel
theorem dX10_end_4 : decode cX10_end 4 = .ok (.getfield 60, 3) := by decide +kernel
theorem dX10_end_7 : decode cX10_end 7 = .ok (.getfield 90, 3) := by decide +kernel
theorem dX10_end_10 : decode cX10_end 10 = .ok (.iload_n 1, 1) := by decide +kernel
theorem dX10_end_11 : decode cX10_end 11 = .ok (.bipush 7, 2) := by decide +kernel
theorem dX10_end_13 : decode cX10_end 13 = .ok (.iconst 0, 1) := by decide +kernel
theorem dX10_end_14 : decode cX10_end 14 = .ok (.iconst 0, 1) := by decide +kernel
theorem dX10_end_15 : decode cX10_end 15 = .ok (.iconst 0, 1) := by decide +kernel
theorem dX10_end_16 : decode cX10_end 16 = .ok (.invokevirtual 208, 3) := by decide +kernel
theorem dX10_end_19 : decode cX10_end 19 = .ok (.ireturn, 1) := by decide +kernel
theorem dX10_quit_0 : decode cX10_quit 0 = .ok (.aload_n 0, 1) := by decide +kernel
theorem dX10_quit_1 : decode cX10_quit 1 = .ok (.getfield 26, 3) := by decide +kernel
theorem dX10_quit_4 : decode cX10_quit 4 = .ok (.getfield 60, 3) := by decide +kernel
theorem dX10_quit_7 : decode cX10_quit 7 = .ok (.getfield 90, 3) := by decide +kernel
theorem dX10_quit_10 : decode cX10_quit 10 = .ok (.iload_n 1, 1) := by decide +kernel
theorem dX10_quit_11 : decode cX10_quit 11 = .ok (.bipush 8, 2) := by decide +kernel
theorem dX10_quit_13 : decode cX10_quit 13 = .ok (.iconst 0, 1) := by decide +kernel
theorem dX10_quit_14 : decode cX10_quit 14 = .ok (.iconst 0, 1) := by decide +kernel
theorem dX10_quit_15 : decode cX10_quit 15 = .ok (.iconst 0, 1) := by decide +kernel
theorem dX10_quit_16 : decode cX10_quit 16 = .ok (.invokevirtual 208, 3) := by decide +kernel
theorem dX10_quit_19 : decode cX10_quit 19 = .ok (.ireturn, 1) := by decide +kernel
theorem dX10_outcome_0 : decode cX10_outcome 0 = .ok (.aload_n 0, 1) := by decide +kernel
theorem dX10_outcome_1 : decode cX10_outcome 1 = .ok (.getfield 26, 3) := by decide +kernel
theorem dX10_outcome_4 : decode cX10_outcome 4 = .ok (.getfield 60, 3) := by decide +kernel
theorem dX10_outcome_7 : decode cX10_outcome 7 = .ok (.getfield 90, 3) := by decide +kernel
theorem dX10_outcome_10 : decode cX10_outcome 10 = .ok (.getfield 154, 3) := by decide +kernel
theorem dX10_outcome_13 : decode cX10_outcome 13 = .ok (.astore_n 2, 1) := by decide +kernel
theorem dX10_outcome_14 : decode cX10_outcome 14 = .ok (.aload_n 2, 1) := by decide +kernel
theorem dX10_outcome_15 : decode cX10_outcome 15 = .ok (.iload_n 1, 1) := by decide +kernel
theorem dX10_outcome_16 : decode cX10_outcome 16 = .ok (.invokevirtual 158, 3) := by decide +kernel
theorem dX10_outcome_19 : decode cX10_outcome 19 = .ok (.ifCond .eq 12, 3) := by decide +kernel
theorem dX10_outcome_22 : decode cX10_outcome 22 = .ok (.aload_n 2, 1) := by decide +kernel
theorem dX10_outcome_23 : decode cX10_outcome 23 = .ok (.getfield 219, 3) := by decide +kernel
theorem dX10_outcome_26 : decode cX10_outcome 26 = .ok (.iload_n 1, 1) := by decide +kernel
theorem dX10_outcome_27 : decode cX10_outcome 27 = .ok (.iaload, 1) := by decide +kernel
theorem dX10_outcome_28 : decode cX10_outcome 28 = .ok (.goto 5, 3) := by decide +kernel
theorem dX10_outcome_31 : decode cX10_outcome 31 = .ok (.bipush (-5), 2) := by decide +kernel
theorem dX10_outcome_33 : decode cX10_outcome 33 = .ok (.ireturn, 1) := by decide +kernel
theorem dX10_run_0 : decode cX10_run 0 = .ok (.iload_n 1, 1) := by decide +kernel
theorem dX10_run_1 : decode cX10_run 1 = .ok (.ifCond .lt 9, 3) := by decide +kernel
theorem dX10_run_4 : decode cX10_run 4 = .ok (.iload_n 1, 1) := by decide +kernel
theorem dX10_run_5 : decode cX10_run 5 = .ok (.bipush 24, 2) := by decide +kernel
theorem dX10_run_7 : decode cX10_run 7 = .ok (.if_icmp .le 5, 3) := by decide +kernel
theorem dX10_run_10 : decode cX10_run 10 = .ok (.iconst (-1), 1) := by decide +kernel
theorem dX10_run_11 : decode cX10_run 11 = .ok (.ireturn, 1) := by decide +kernel
theorem dX10_run_12 : decode cX10_run 12 = .ok (.aload_n 0, 1) := by decide +kernel
theorem dX10_run_13 : decode cX10_run 13 = .ok (.getfield 26, 3) := by decide +kernel
theorem dX10_run_16 : decode cX10_run 16 = .ok (.getfield 60, 3) := by decide +kernel
theorem dX10_run_19 : decode cX10_run 19 = .ok (.aload_n 0, 1) := by decide +kernel
theorem dX10_run_20 : decode cX10_run 20 = .ok (.getfield 37, 3) := by decide +kernel
theorem dX10_run_23 : decode cX10_run 23 = .ok (.iload_n 1, 1) := by decide +kernel
theorem dX10_run_24 : decode cX10_run 24 = .ok (.invokevirtual 222, 3) := by decide +kernel
theorem dX10_run_27 : decode cX10_run 27 = .ok (.aload_n 0, 1) := by decide +kernel
theorem dX10_run_28 : decode cX10_run 28 = .ok (.getfield 37, 3) := by decide +kernel
theorem dX10_run_31 : decode cX10_run 31 = .ok (.getfield 226, 3) := by decide +kernel
theorem dX10_run_34 : decode cX10_run 34 = .ok (.aload_n 0, 1) := by decide +kernel
theorem dX10_run_35 : decode cX10_run 35 = .ok (.getfield 26, 3) := by decide +kernel
theorem dX10_run_38 : decode cX10_run 38 = .ok (.getfield 60, 3) := by decide +kernel
theorem dX10_run_41 : decode cX10_run 41 = .ok (.aload_n 0, 1) := by decide +kernel
theorem dX10_run_42 : decode cX10_run 42 = .ok (.getfield 37, 3) := by decide +kernel
theorem dX10_run_45 : decode cX10_run 45 = .ok (.iconst 2, 1) := by decide +kernel
theorem dX10_run_46 : decode cX10_run 46 = .ok (.invokevirtual 229, 3) := by decide +kernel
theorem dX10_run_49 : decode cX10_run 49 = .ok (.isub, 1) := by decide +kernel
theorem dX10_run_50 : decode cX10_run 50 = .ok (.ireturn, 1) := by decide +kernel
theorem dX10_answer_0 : decode cX10_answer 0 = .ok (.iload_n 1, 1) := by decide +kernel
theorem dX10_answer_1 : decode cX10_answer 1 = .ok (.ifCond .lt 14, 3) := by decide +kernel
theorem dX10_answer_4 : decode cX10_answer 4 = .ok (.iload_n 1, 1) := by decide +kernel
theorem dX10_answer_5 : decode cX10_answer 5 = .ok (.aload_n 0, 1) := by decide +kernel
theorem dX10_answer_6 : decode cX10_answer 6 = .ok (.getfield 37, 3) := by decide +kernel
theorem dX10_answer_9 : decode cX10_answer 9 = .ok (.getfield 226, 3) := by decide +kernel
theorem dX10_answer_12 : decode cX10_answer 12 = .ok (.if_icmp .lt 8, 3) := by decide +kernel
theorem dX10_answer_15 : decode cX10_answer 15 = .ok (.bipush (-6), 2) := by decide +kernel
theorem dX10_answer_17 : decode cX10_answer 17 = .ok (.goto 15, 3) := by decide +kernel
theorem dX10_answer_20 : decode cX10_answer 20 = .ok (.aload_n 0, 1) := by decide +kernel
theorem dX10_answer_21 : decode cX10_answer 21 = .ok (.getfield 26, 3) := by decide +kernel
theorem dX10_answer_24 : decode cX10_answer 24 = .ok (.getfield 60, 3) := by decide +kernel
theorem dX10_answer_27 : decode cX10_answer 27 = .ok (.getfield 233, 3) := by decide +kernel
theorem dX10_answer_30 : decode cX10_answer 30 = .ok (.iload_n 1, 1) := by decide +kernel
theorem dX10_answer_31 : decode cX10_answer 31 = .ok (.iaload, 1) := by decide +kernel
theorem dX10_answer_32 : decode cX10_answer 32 = .ok (.ireturn, 1) := by decide +kernel
theorem dX10_same_0 : decode cX10_same 0 = .ok (.aload_n 0, 1) := by decide +kernel
theorem dX10_same_1 : decode cX10_same 1 = .ok (.getfield 19, 3) := by decide +kernel
theorem dX10_same_4 : decode cX10_same 4 = .ok (.aload_n 0, 1) := by decide +kernel
theorem dX10_same_5 : decode cX10_same 5 = .ok (.getfield 37, 3) := by decide +kernel
theorem dX10_same_8 : decode cX10_same 8 = .ok (.invokevirtual 236, 3) := by decide +kernel
theorem dX10_same_11 : decode cX10_same 11 = .ok (.aload_n 0, 1) := by decide +kernel
theorem dX10_same_12 : decode cX10_same 12 = .ok (.getfield 19, 3) := by decide +kernel
theorem dX10_same_15 : decode cX10_same 15 = .ok (.aload_n 0, 1) := by decide +kernel
theorem dX10_same_16 : decode cX10_same 16 = .ok (.getfield 37, 3) := by decide +kernel
theorem dX10_same_19 : decode cX10_same 19 = .ok (.invokevirtual 239, 3) := by decide +kernel
theorem dX10_same_22 : decode cX10_same 22 = .ok (.aload_n 0, 1) := by decide +kernel
theorem dX10_same_23 : decode cX10_same 23 = .ok (.getfield 19, 3) := by decide +kernel
theorem dX10_same_26 : decode cX10_same 26 = .ok (.getfield 242, 3) := by decide +kernel
theorem dX10_same_29 : decode cX10_same 29 = .ok (.ireturn, 1) := by decide +kernel
theorem dX10_chance_0 : decode cX10_chance 0 = .ok (.iload_n 1, 1) := by decide +kernel
theorem dX10_chance_1 : decode cX10_chance 1 = .ok (.ifCond .ge 7, 3) := by decide +kernel
theorem dX10_chance_4 : decode cX10_chance 4 = .ok (.iconst (-1), 1) := by decide +kernel
theorem dX10_chance_5 : decode cX10_chance 5 = .ok (.goto 15, 3) := by decide +kernel
theorem dX10_chance_8 : decode cX10_chance 8 = .ok (.aload_n 0, 1) := by decide +kernel
theorem dX10_chance_9 : decode cX10_chance 9 = .ok (.getfield 19, 3) := by decide +kernel
theorem dX10_chance_12 : decode cX10_chance 12 = .ok (.aload_n 0, 1) := by decide +kernel
theorem dX10_chance_13 : decode cX10_chance 13 = .ok (.getfield 37, 3) := by decide +kernel
theorem dX10_chance_16 : decode cX10_chance 16 = .ok (.iload_n 1, 1) := by decide +kernel
theorem dX10_chance_17 : decode cX10_chance 17 = .ok (.invokevirtual 245, 3) := by decide +kernel
theorem dX10_chance_20 : decode cX10_chance 20 = .ok (.ireturn, 1) := by decide +kernel
theorem dX10_tried_0 : decode cX10_tried 0 = .ok (.iload_n 1, 1) := by decide +kernel
theorem dX10_tried_1 : decode cX10_tried 1 = .ok (.iconst 2, 1) := by decide +kernel
theorem dX10_tried_2 : decode cX10_tried 2 = .ok (.if_icmp .ne 26, 3) := by decide +kernel
theorem dX10_tried_5 : decode cX10_tried 5 = .ok (.iload_n 2, 1) := by decide +kernel
theorem dX10_tried_6 : decode cX10_tried 6 = .ok (.ifCond .lt 18, 3) := by decide +kernel
theorem dX10_tried_9 : decode cX10_tried 9 = .ok (.iload_n 2, 1) := by decide +kernel
theorem dX10_tried_10 : decode cX10_tried 10 = .ok (.aload_n 0, 1) := by decide +kernel
theorem dX10_tried_11 : decode cX10_tried 11 = .ok (.getfield 37, 3) := by decide +kernel
theorem dX10_tried_14 : decode cX10_tried 14 = .ok (.getfield 248, 3) := by decide +kernel
theorem dX10_tried_17 : decode cX10_tried 17 = .ok (.if_icmp .ge 7, 3) := by decide +kernel
theorem dX10_tried_20 : decode cX10_tried 20 = .ok (.iconst 1, 1) := by decide +kernel
theorem dX10_tried_21 : decode cX10_tried 21 = .ok (.goto 25, 3) := by decide +kernel
theorem dX10_tried_24 : decode cX10_tried 24 = .ok (.iconst 0, 1) := by decide +kernel
theorem dX10_tried_25 : decode cX10_tried 25 = .ok (.goto 21, 3) := by decide +kernel
theorem dX10_tried_28 : decode cX10_tried 28 = .ok (.iload_n 1, 1) := by decide +kernel
theorem dX10_tried_29 : decode cX10_tried 29 = .ok (.ifCond .lt 16, 3) := by decide +kernel
theorem dX10_tried_32 : decode cX10_tried 32 = .ok (.iload_n 1, 1) := by decide +kernel
theorem dX10_tried_33 : decode cX10_tried 33 = .ok (.iconst 4, 1) := by decide +kernel
theorem dX10_tried_34 : decode cX10_tried 34 = .ok (.if_icmp .gt 11, 3) := by decide +kernel
theorem dX10_tried_37 : decode cX10_tried 37 = .ok (.iload_n 2, 1) := by decide +kernel
theorem dX10_tried_38 : decode cX10_tried 38 = .ok (.ifCond .ne 7, 3) := by decide +kernel
theorem dX10_tried_41 : decode cX10_tried 41 = .ok (.iconst 1, 1) := by decide +kernel
theorem dX10_tried_42 : decode cX10_tried 42 = .ok (.goto 4, 3) := by decide +kernel
theorem dX10_tried_45 : decode cX10_tried 45 = .ok (.iconst 0, 1) := by decide +kernel
theorem dX10_tried_46 : decode cX10_tried 46 = .ok (.istore_n 3, 1) := by decide +kernel
theorem dX10_tried_47 : decode cX10_tried 47 = .ok (.iload_n 3, 1) := by decide +kernel
theorem dX10_tried_48 : decode cX10_tried 48 = .ok (.ifCond .eq 19, 3) := by decide +kernel
theorem dX10_tried_51 : decode cX10_tried 51 = .ok (.aload_n 0, 1) := by decide +kernel
theorem dX10_tried_52 : decode cX10_tried 52 = .ok (.getfield 19, 3) := by decide +kernel
theorem dX10_tried_55 : decode cX10_tried 55 = .ok (.aload_n 0, 1) := by decide +kernel
theorem dX10_tried_56 : decode cX10_tried 56 = .ok (.getfield 37, 3) := by decide +kernel
theorem dX10_tried_59 : decode cX10_tried 59 = .ok (.iload_n 1, 1) := by decide +kernel
theorem dX10_tried_60 : decode cX10_tried 60 = .ok (.iload_n 2, 1) := by decide +kernel
theorem dX10_tried_61 : decode cX10_tried 61 = .ok (.invokevirtual 251, 3) := by decide +kernel
theorem dX10_tried_64 : decode cX10_tried 64 = .ok (.goto 4, 3) := by decide +kernel
theorem dX10_tried_67 : decode cX10_tried 67 = .ok (.iconst (-1), 1) := by decide +kernel
theorem dX10_tried_68 : decode cX10_tried 68 = .ok (.ireturn, 1) := by decide +kernel
theorem dX10_held_0 : decode cX10_held 0 = .ok (.aload_n 0, 1) := by decide +kernel
theorem dX10_held_1 : decode cX10_held 1 = .ok (.getfield 26, 3) := by decide +kernel
theorem dX10_held_4 : decode cX10_held 4 = .ok (.getfield 60, 3) := by decide +kernel
theorem dX10_held_7 : decode cX10_held 7 = .ok (.getfield 90, 3) := by decide +kernel
theorem dX10_held_10 : decode cX10_held 10 = .ok (.astore_n 3, 1) := by decide +kernel
theorem dX10_held_11 : decode cX10_held 11 = .ok (.aload_n 3, 1) := by decide +kernel
theorem dX10_held_12 : decode cX10_held 12 = .ok (.getfield 154, 3) := by decide +kernel
theorem dX10_held_15 : decode cX10_held 15 = .ok (.iload_n 1, 1) := by decide +kernel
theorem dX10_held_16 : decode cX10_held 16 = .ok (.invokevirtual 158, 3) := by decide +kernel
theorem dX10_held_19 : decode cX10_held 19 = .ok (.ifCond .eq 7, 3) := by decide +kernel
theorem dX10_held_22 : decode cX10_held 22 = .ok (.iload_n 2, 1) := by decide +kernel
theorem dX10_held_23 : decode cX10_held 23 = .ok (.ifCond .ge 5, 3) := by decide +kernel
theorem dX10_held_26 : decode cX10_held 26 = .ok (.iconst (-1), 1) := by decide +kernel
theorem dX10_held_27 : decode cX10_held 27 = .ok (.ireturn, 1) := by decide +kernel
theorem dX10_held_28 : decode cX10_held 28 = .ok (.aload_n 3, 1) := by decide +kernel
theorem dX10_held_29 : decode cX10_held 29 = .ok (.getfield 94, 3) := by decide +kernel
theorem dX10_held_32 : decode cX10_held 32 = .ok (.iload_n 1, 1) := by decide +kernel
theorem dX10_held_33 : decode cX10_held 33 = .ok (.iload_n 2, 1) := by decide +kernel
theorem dX10_held_34 : decode cX10_held 34 = .ok (.invokevirtual 255, 3) := by decide +kernel
theorem dX10_held_37 : decode cX10_held 37 = .ok (.ireturn, 1) := by decide +kernel
theorem dX10_range_0 : decode cX10_range 0 = .ok (.iload_n 1, 1) := by decide +kernel
theorem dX10_range_1 : decode cX10_range 1 = .ok (.invokestatic 212, 3) := by decide +kernel
theorem dX10_range_4 : decode cX10_range 4 = .ok (.istore 4, 2) := by decide +kernel
theorem dX10_range_6 : decode cX10_range 6 = .ok (.iload_n 2, 1) := by decide +kernel
theorem dX10_range_7 : decode cX10_range 7 = .ok (.invokestatic 212, 3) := by decide +kernel
theorem dX10_range_10 : decode cX10_range 10 = .ok (.istore 5, 2) := by decide +kernel
theorem dX10_range_12 : decode cX10_range 12 = .ok (.iload 4, 2) := by decide +kernel
theorem dX10_range_14 : decode cX10_range 14 = .ok (.iconst (-1), 1) := by decide +kernel
theorem dX10_range_15 : decode cX10_range 15 = .ok (.if_icmp .eq 25, 3) := by decide +kernel
theorem dX10_range_18 : decode cX10_range 18 = .ok (.iload 5, 2) := by decide +kernel
theorem dX10_range_20 : decode cX10_range 20 = .ok (.iconst (-1), 1) := by decide +kernel
theorem dX10_range_21 : decode cX10_range 21 = .ok (.if_icmp .eq 19, 3) := by decide +kernel
theorem dX10_range_24 : decode cX10_range 24 = .ok (.iload 4, 2) := by decide +kernel
theorem dX10_range_26 : decode cX10_range 26 = .ok (.iload 5, 2) := by decide +kernel
theorem dX10_range_28 : decode cX10_range 28 = .ok (.if_icmp .gt 12, 3) := by decide +kernel
theorem dX10_range_31 : decode cX10_range 31 = .ok (.iload_n 3, 1) := by decide +kernel
theorem dX10_range_32 : decode cX10_range 32 = .ok (.ifCond .lt 8, 3) := by decide +kernel
theorem dX10_range_35 : decode cX10_range 35 = .ok (.iload_n 3, 1) := by decide +kernel
theorem dX10_range_36 : decode cX10_range 36 = .ok (.iconst 2, 1) := by decide +kernel
theorem dX10_range_37 : decode cX10_range 37 = .ok (.if_icmp .le 5, 3) := by decide +kernel
theorem dX10_range_40 : decode cX10_range 40 = .ok (.iconst (-1), 1) := by decide +kernel
theorem dX10_range_41 : decode cX10_range 41 = .ok (.ireturn, 1) := by decide +kernel
theorem dX10_range_42 : decode cX10_range 42 = .ok (.aload_n 0, 1) := by decide +kernel
theorem dX10_range_43 : decode cX10_range 43 = .ok (.getfield 26, 3) := by decide +kernel
theorem dX10_range_46 : decode cX10_range 46 = .ok (.getfield 60, 3) := by decide +kernel
theorem dX10_range_49 : decode cX10_range 49 = .ok (.getfield 90, 3) := by decide +kernel
theorem dX10_range_52 : decode cX10_range 52 = .ok (.getfield 94, 3) := by decide +kernel
theorem dX10_range_55 : decode cX10_range 55 = .ok (.astore 6, 2) := by decide +kernel
theorem dX10_range_57 : decode cX10_range 57 = .ok (.iconst 0, 1) := by decide +kernel
theorem dX10_range_58 : decode cX10_range 58 = .ok (.istore 7, 2) := by decide +kernel
theorem dX10_range_60 : decode cX10_range 60 = .ok (.aload 6, 2) := by decide +kernel
theorem dX10_range_62 : decode cX10_range 62 = .ok (.iload 4, 2) := by decide +kernel
theorem dX10_range_64 : decode cX10_range 64 = .ok (.invokevirtual 136, 3) := by decide +kernel
theorem dX10_range_67 : decode cX10_range 67 = .ok (.istore 8, 2) := by decide +kernel
theorem dX10_range_69 : decode cX10_range 69 = .ok (.iload 8, 2) := by decide +kernel
theorem dX10_range_71 : decode cX10_range 71 = .ok (.aload 6, 2) := by decide +kernel
theorem dX10_range_73 : decode cX10_range 73 = .ok (.getfield 100, 3) := by decide +kernel
theorem dX10_range_76 : decode cX10_range 76 = .ok (.if_icmp .ge 63, 3) := by decide +kernel
theorem dX10_range_79 : decode cX10_range 79 = .ok (.aload 6, 2) := by decide +kernel
theorem dX10_range_81 : decode cX10_range 81 = .ok (.getfield 112, 3) := by decide +kernel
theorem dX10_range_84 : decode cX10_range 84 = .ok (.iload 8, 2) := by decide +kernel
theorem dX10_range_86 : decode cX10_range 86 = .ok (.iaload, 1) := by decide +kernel
theorem dX10_range_87 : decode cX10_range 87 = .ok (.iload 5, 2) := by decide +kernel
theorem dX10_range_89 : decode cX10_range 89 = .ok (.if_icmp .gt 50, 3) := by decide +kernel
theorem dX10_range_92 : decode cX10_range 92 = .ok (.iload_n 3, 1) := by decide +kernel
theorem dX10_range_93 : decode cX10_range 93 = .ok (.iconst 1, 1) := by decide +kernel
theorem dX10_range_94 : decode cX10_range 94 = .ok (.if_icmp .ne 19, 3) := by decide +kernel
theorem dX10_range_97 : decode cX10_range 97 = .ok (.iload 7, 2) := by decide +kernel
theorem dX10_range_99 : decode cX10_range 99 = .ok (.aload 6, 2) := by decide +kernel
theorem dX10_range_101 : decode cX10_range 101 = .ok (.getfield 116, 3) := by decide +kernel
theorem dX10_range_104 : decode cX10_range 104 = .ok (.iload 8, 2) := by decide +kernel
theorem dX10_range_106 : decode cX10_range 106 = .ok (.iaload, 1) := by decide +kernel
theorem dX10_range_107 : decode cX10_range 107 = .ok (.iadd, 1) := by decide +kernel
theorem dX10_range_108 : decode cX10_range 108 = .ok (.istore 7, 2) := by decide +kernel
theorem dX10_range_110 : decode cX10_range 110 = .ok (.goto 23, 3) := by decide +kernel
theorem dX10_range_113 : decode cX10_range 113 = .ok (.iload_n 3, 1) := by decide +kernel
theorem dX10_range_114 : decode cX10_range 114 = .ok (.ifCond .eq 16, 3) := by decide +kernel
theorem dX10_range_117 : decode cX10_range 117 = .ok (.aload 6, 2) := by decide +kernel
theorem dX10_range_119 : decode cX10_range 119 = .ok (.getfield 119, 3) := by decide +kernel
theorem dX10_range_122 : decode cX10_range 122 = .ok (.iload 8, 2) := by decide +kernel
theorem dX10_range_124 : decode cX10_range 124 = .ok (.iaload, 1) := by decide +kernel
theorem dX10_range_125 : decode cX10_range 125 = .ok (.bipush (-2), 2) := by decide +kernel
theorem dX10_range_127 : decode cX10_range 127 = .ok (.if_icmp .eq 6, 3) := by decide +kernel
theorem dX10_range_130 : decode cX10_range 130 = .ok (.iinc 7 1, 3) := by decide +kernel
theorem dX10_range_133 : decode cX10_range 133 = .ok (.iinc 8 1, 3) := by decide +kernel
theorem dX10_range_136 : decode cX10_range 136 = .ok (.goto (-67), 3) := by decide +kernel
theorem dX10_range_139 : decode cX10_range 139 = .ok (.iload 7, 2) := by decide +kernel
theorem dX10_range_141 : decode cX10_range 141 = .ok (.ireturn, 1) := by decide +kernel
theorem dX10_phantoms_0 : decode cX10_phantoms 0 = .ok (.aload_n 0, 1) := by decide +kernel
theorem dX10_phantoms_1 : decode cX10_phantoms 1 = .ok (.getfield 26, 3) := by decide +kernel
theorem dX10_phantoms_4 : decode cX10_phantoms 4 = .ok (.getfield 60, 3) := by decide +kernel
theorem dX10_phantoms_7 : decode cX10_phantoms 7 = .ok (.getfield 90, 3) := by decide +kernel
theorem dX10_phantoms_10 : decode cX10_phantoms 10 = .ok (.astore 4, 2) := by decide +kernel
theorem dX10_phantoms_12 : decode cX10_phantoms 12 = .ok (.iload_n 2, 1) := by decide +kernel
theorem dX10_phantoms_13 : decode cX10_phantoms 13 = .ok (.invokestatic 212, 3) := by decide +kernel
theorem dX10_phantoms_16 : decode cX10_phantoms 16 = .ok (.istore 5, 2) := by decide +kernel
theorem dX10_phantoms_18 : decode cX10_phantoms 18 = .ok (.iload_n 3, 1) := by decide +kernel
theorem dX10_phantoms_19 : decode cX10_phantoms 19 = .ok (.invokestatic 212, 3) := by decide +kernel
theorem dX10_phantoms_22 : decode cX10_phantoms 22 = .ok (.istore 6, 2) := by decide +kernel
theorem dX10_phantoms_24 : decode cX10_phantoms 24 = .ok (.aload 4, 2) := by decide +kernel
theorem dX10_phantoms_26 : decode cX10_phantoms 26 = .ok (.getfield 154, 3) := by decide +kernel
theorem dX10_phantoms_29 : decode cX10_phantoms 29 = .ok (.iload_n 1, 1) := by decide +kernel
theorem dX10_phantoms_30 : decode cX10_phantoms 30 = .ok (.invokevirtual 158, 3) := by decide +kernel
theorem dX10_phantoms_33 : decode cX10_phantoms 33 = .ok (.ifCond .eq 22, 3) := by decide +kernel
theorem dX10_phantoms_36 : decode cX10_phantoms 36 = .ok (.iload 5, 2) := by decide +kernel
theorem dX10_phantoms_38 : decode cX10_phantoms 38 = .ok (.iconst (-1), 1) := by decide +kernel
theorem dX10_phantoms_39 : decode cX10_phantoms 39 = .ok (.if_icmp .eq 16, 3) := by decide +kernel
theorem dX10_phantoms_42 : decode cX10_phantoms 42 = .ok (.iload 6, 2) := by decide +kernel
theorem dX10_phantoms_44 : decode cX10_phantoms 44 = .ok (.iconst (-1), 1) := by decide +kernel
theorem dX10_phantoms_45 : decode cX10_phantoms 45 = .ok (.if_icmp .eq 10, 3) := by decide +kernel
theorem dX10_phantoms_48 : decode cX10_phantoms 48 = .ok (.iload 5, 2) := by decide +kernel
theorem dX10_phantoms_50 : decode cX10_phantoms 50 = .ok (.iload 6, 2) := by decide +kernel
theorem dX10_phantoms_52 : decode cX10_phantoms 52 = .ok (.if_icmp .le 5, 3) := by decide +kernel
theorem dX10_phantoms_55 : decode cX10_phantoms 55 = .ok (.iconst (-1), 1) := by decide +kernel
theorem dX10_phantoms_56 : decode cX10_phantoms 56 = .ok (.ireturn, 1) := by decide +kernel
theorem dX10_phantoms_57 : decode cX10_phantoms 57 = .ok (.aload 4, 2) := by decide +kernel
theorem dX10_phantoms_59 : decode cX10_phantoms 59 = .ok (.getfield 94, 3) := by decide +kernel
theorem dX10_phantoms_62 : decode cX10_phantoms 62 = .ok (.iload 5, 2) := by decide +kernel
theorem dX10_phantoms_64 : decode cX10_phantoms 64 = .ok (.invokevirtual 136, 3) := by decide +kernel
theorem dX10_phantoms_67 : decode cX10_phantoms 67 = .ok (.istore 7, 2) := by decide +kernel
theorem dX10_phantoms_69 : decode cX10_phantoms 69 = .ok (.iconst 0, 1) := by decide +kernel
theorem dX10_phantoms_70 : decode cX10_phantoms 70 = .ok (.istore 8, 2) := by decide +kernel
theorem dX10_phantoms_72 : decode cX10_phantoms 72 = .ok (.iconst 0, 1) := by decide +kernel
theorem dX10_phantoms_73 : decode cX10_phantoms 73 = .ok (.istore 9, 2) := by decide +kernel
theorem dX10_phantoms_75 : decode cX10_phantoms 75 = .ok (.iload 9, 2) := by decide +kernel
theorem dX10_phantoms_77 : decode cX10_phantoms 77 = .ok (.aload 4, 2) := by decide +kernel
theorem dX10_phantoms_79 : decode cX10_phantoms 79 = .ok (.getfield 154, 3) := by decide +kernel
theorem dX10_phantoms_82 : decode cX10_phantoms 82 = .ok (.getfield 258, 3) := by decide +kernel
theorem dX10_phantoms_85 : decode cX10_phantoms 85 = .ok (.if_icmp .ge 68, 3) := by decide +kernel
theorem dX10_phantoms_88 : decode cX10_phantoms 88 = .ok (.iload 9, 2) := by decide +kernel
theorem dX10_phantoms_90 : decode cX10_phantoms 90 = .ok (.iload_n 1, 1) := by decide +kernel
theorem dX10_phantoms_91 : decode cX10_phantoms 91 = .ok (.if_icmp .eq 22, 3) := by decide +kernel
theorem dX10_phantoms_94 : decode cX10_phantoms 94 = .ok (.aload 4, 2) := by decide +kernel
theorem dX10_phantoms_96 : decode cX10_phantoms 96 = .ok (.getfield 154, 3) := by decide +kernel
theorem dX10_phantoms_99 : decode cX10_phantoms 99 = .ok (.getfield 170, 3) := by decide +kernel
theorem dX10_phantoms_102 : decode cX10_phantoms 102 = .ok (.iload 9, 2) := by decide +kernel
theorem dX10_phantoms_104 : decode cX10_phantoms 104 = .ok (.iaload, 1) := by decide +kernel
theorem dX10_phantoms_105 : decode cX10_phantoms 105 = .ok (.iconst 1, 1) := by decide +kernel
theorem dX10_phantoms_106 : decode cX10_phantoms 106 = .ok (.if_icmp .ne 7, 3) := by decide +kernel
theorem dX10_phantoms_109 : decode cX10_phantoms 109 = .ok (.iconst 1, 1) := by decide +kernel
theorem dX10_phantoms_110 : decode cX10_phantoms 110 = .ok (.goto 4, 3) := by decide +kernel
theorem dX10_phantoms_113 : decode cX10_phantoms 113 = .ok (.iconst 0, 1) := by decide +kernel
theorem dX10_phantoms_114 : decode cX10_phantoms 114 = .ok (.istore 10, 2) := by decide +kernel
theorem dX10_phantoms_116 : decode cX10_phantoms 116 = .ok (.iload 10, 2) := by decide +kernel
theorem dX10_phantoms_118 : decode cX10_phantoms 118 = .ok (.ifCond .eq 29, 3) := by decide +kernel
theorem dX10_phantoms_121 : decode cX10_phantoms 121 = .ok (.aload 4, 2) := by decide +kernel
theorem dX10_phantoms_123 : decode cX10_phantoms 123 = .ok (.getfield 94, 3) := by decide +kernel
theorem dX10_phantoms_126 : decode cX10_phantoms 126 = .ok (.iload 9, 2) := by decide +kernel
theorem dX10_phantoms_128 : decode cX10_phantoms 128 = .ok (.iload 7, 2) := by decide +kernel
theorem dX10_phantoms_130 : decode cX10_phantoms 130 = .ok (.iload 6, 2) := by decide +kernel
theorem dX10_phantoms_132 : decode cX10_phantoms 132 = .ok (.invokevirtual 259, 3) := by decide +kernel
theorem dX10_phantoms_135 : decode cX10_phantoms 135 = .ok (.ifCond .eq 12, 3) := by decide +kernel
theorem dX10_phantoms_138 : decode cX10_phantoms 138 = .ok (.iload 8, 2) := by decide +kernel
theorem dX10_phantoms_140 : decode cX10_phantoms 140 = .ok (.iconst 1, 1) := by decide +kernel
theorem dX10_phantoms_141 : decode cX10_phantoms 141 = .ok (.iload 9, 2) := by decide +kernel
theorem dX10_phantoms_143 : decode cX10_phantoms 143 = .ok (.ishl, 1) := by decide +kernel
theorem dX10_phantoms_144 : decode cX10_phantoms 144 = .ok (.ior, 1) := by decide +kernel
theorem dX10_phantoms_145 : decode cX10_phantoms 145 = .ok (.istore 8, 2) := by decide +kernel
theorem dX10_phantoms_147 : decode cX10_phantoms 147 = .ok (.iinc 9 1, 3) := by decide +kernel
theorem dX10_phantoms_150 : decode cX10_phantoms 150 = .ok (.goto (-75), 3) := by decide +kernel
theorem dX10_phantoms_153 : decode cX10_phantoms 153 = .ok (.iload 8, 2) := by decide +kernel
theorem dX10_phantoms_155 : decode cX10_phantoms 155 = .ok (.ireturn, 1) := by decide +kernel
theorem dX10_between_0 : decode cX10_between 0 = .ok (.aload_n 0, 1) := by decide +kernel
theorem dX10_between_1 : decode cX10_between 1 = .ok (.getfield 26, 3) := by decide +kernel
theorem dX10_between_4 : decode cX10_between 4 = .ok (.getfield 60, 3) := by decide +kernel
theorem dX10_between_7 : decode cX10_between 7 = .ok (.getfield 90, 3) := by decide +kernel
theorem dX10_between_10 : decode cX10_between 10 = .ok (.getfield 94, 3) := by decide +kernel
theorem dX10_between_13 : decode cX10_between 13 = .ok (.astore_n 2, 1) := by decide +kernel
theorem dX10_between_14 : decode cX10_between 14 = .ok (.iload_n 1, 1) := by decide +kernel
theorem dX10_between_15 : decode cX10_between 15 = .ok (.ifCond .lt 11, 3) := by decide +kernel
theorem dX10_between_18 : decode cX10_between 18 = .ok (.iload_n 1, 1) := by decide +kernel
theorem dX10_between_19 : decode cX10_between 19 = .ok (.aload_n 2, 1) := by decide +kernel
theorem dX10_between_20 : decode cX10_between 20 = .ok (.getfield 100, 3) := by decide +kernel
theorem dX10_between_23 : decode cX10_between 23 = .ok (.if_icmp .lt 5, 3) := by decide +kernel
