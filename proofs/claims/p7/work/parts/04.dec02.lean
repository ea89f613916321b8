theorem dX10_between_26 : decode cX10_between 26 = .ok (.iconst (-1), 1) := by decide +kernel
theorem dX10_between_27 : decode cX10_between 27 = .ok (.ireturn, 1) := by decide +kernel
theorem dX10_between_28 : decode cX10_between 28 = .ok (.iload_n 1, 1) := by decide +kernel
theorem dX10_between_29 : decode cX10_between 29 = .ok (.ifCond .ne 7, 3) := by decide +kernel
theorem dX10_between_32 : decode cX10_between 32 = .ok (.iconst 0, 1) := by decide +kernel
theorem dX10_between_33 : decode cX10_between 33 = .ok (.goto 11, 3) := by decide +kernel
theorem dX10_between_36 : decode cX10_between 36 = .ok (.aload_n 2, 1) := by decide +kernel
theorem dX10_between_37 : decode cX10_between 37 = .ok (.getfield 112, 3) := by decide +kernel
theorem dX10_between_40 : decode cX10_between 40 = .ok (.iload_n 1, 1) := by decide +kernel
theorem dX10_between_41 : decode cX10_between 41 = .ok (.iconst 1, 1) := by decide +kernel
theorem dX10_between_42 : decode cX10_between 42 = .ok (.isub, 1) := by decide +kernel
theorem dX10_between_43 : decode cX10_between 43 = .ok (.iaload, 1) := by decide +kernel
theorem dX10_between_44 : decode cX10_between 44 = .ok (.istore_n 3, 1) := by decide +kernel
theorem dX10_between_45 : decode cX10_between 45 = .ok (.aload_n 2, 1) := by decide +kernel
theorem dX10_between_46 : decode cX10_between 46 = .ok (.getfield 112, 3) := by decide +kernel
theorem dX10_between_49 : decode cX10_between 49 = .ok (.iload_n 1, 1) := by decide +kernel
theorem dX10_between_50 : decode cX10_between 50 = .ok (.iaload, 1) := by decide +kernel
theorem dX10_between_51 : decode cX10_between 51 = .ok (.iload_n 3, 1) := by decide +kernel
theorem dX10_between_52 : decode cX10_between 52 = .ok (.if_icmp .ne 7, 3) := by decide +kernel
theorem dX10_between_55 : decode cX10_between 55 = .ok (.iconst 0, 1) := by decide +kernel
theorem dX10_between_56 : decode cX10_between 56 = .ok (.goto 13, 3) := by decide +kernel
theorem dX10_between_59 : decode cX10_between 59 = .ok (.aload_n 2, 1) := by decide +kernel
theorem dX10_between_60 : decode cX10_between 60 = .ok (.getfield 112, 3) := by decide +kernel
theorem dX10_between_63 : decode cX10_between 63 = .ok (.iload_n 1, 1) := by decide +kernel
theorem dX10_between_64 : decode cX10_between 64 = .ok (.iaload, 1) := by decide +kernel
theorem dX10_between_65 : decode cX10_between 65 = .ok (.iload_n 3, 1) := by decide +kernel
theorem dX10_between_66 : decode cX10_between 66 = .ok (.isub, 1) := by decide +kernel
theorem dX10_between_67 : decode cX10_between 67 = .ok (.iconst 1, 1) := by decide +kernel
theorem dX10_between_68 : decode cX10_between 68 = .ok (.isub, 1) := by decide +kernel
theorem dX10_between_69 : decode cX10_between 69 = .ok (.ireturn, 1) := by decide +kernel
theorem dX10_putNext_0 : decode cX10_putNext 0 = .ok (.aload_n 0, 1) := by decide +kernel
theorem dX10_putNext_1 : decode cX10_putNext 1 = .ok (.getfield 26, 3) := by decide +kernel
theorem dX10_putNext_4 : decode cX10_putNext 4 = .ok (.getfield 60, 3) := by decide +kernel
theorem dX10_putNext_7 : decode cX10_putNext 7 = .ok (.getfield 90, 3) := by decide +kernel
theorem dX10_putNext_10 : decode cX10_putNext 10 = .ok (.getfield 94, 3) := by decide +kernel
theorem dX10_putNext_13 : decode cX10_putNext 13 = .ok (.astore 4, 2) := by decide +kernel
theorem dX10_putNext_15 : decode cX10_putNext 15 = .ok (.iload_n 2, 1) := by decide +kernel
theorem dX10_putNext_16 : decode cX10_putNext 16 = .ok (.ifCond .lt 12, 3) := by decide +kernel
theorem dX10_putNext_19 : decode cX10_putNext 19 = .ok (.iload_n 2, 1) := by decide +kernel
theorem dX10_putNext_20 : decode cX10_putNext 20 = .ok (.aload 4, 2) := by decide +kernel
theorem dX10_putNext_22 : decode cX10_putNext 22 = .ok (.getfield 100, 3) := by decide +kernel
theorem dX10_putNext_25 : decode cX10_putNext 25 = .ok (.if_icmp .lt 5, 3) := by decide +kernel
theorem dX10_putNext_28 : decode cX10_putNext 28 = .ok (.iconst (-1), 1) := by decide +kernel
theorem dX10_putNext_29 : decode cX10_putNext 29 = .ok (.ireturn, 1) := by decide +kernel
theorem dX10_putNext_30 : decode cX10_putNext 30 = .ok (.aload_n 0, 1) := by decide +kernel
theorem dX10_putNext_31 : decode cX10_putNext 31 = .ok (.iload_n 1, 1) := by decide +kernel
theorem dX10_putNext_32 : decode cX10_putNext 32 = .ok (.iconst 5, 1) := by decide +kernel
theorem dX10_putNext_33 : decode cX10_putNext 33 = .ok (.aload 4, 2) := by decide +kernel
theorem dX10_putNext_35 : decode cX10_putNext 35 = .ok (.getfield 112, 3) := by decide +kernel
theorem dX10_putNext_38 : decode cX10_putNext 38 = .ok (.iload_n 2, 1) := by decide +kernel
theorem dX10_putNext_39 : decode cX10_putNext 39 = .ok (.iaload, 1) := by decide +kernel
theorem dX10_putNext_40 : decode cX10_putNext 40 = .ok (.iconst 1, 1) := by decide +kernel
theorem dX10_putNext_41 : decode cX10_putNext 41 = .ok (.iadd, 1) := by decide +kernel
theorem dX10_putNext_42 : decode cX10_putNext 42 = .ok (.iload_n 3, 1) := by decide +kernel
theorem dX10_putNext_43 : decode cX10_putNext 43 = .ok (.invokevirtual 215, 3) := by decide +kernel
theorem dX10_putNext_46 : decode cX10_putNext 46 = .ok (.ireturn, 1) := by decide +kernel
theorem dX10_mean_0 : decode cX10_mean 0 = .ok (.aload_n 0, 1) := by decide +kernel
theorem dX10_mean_1 : decode cX10_mean 1 = .ok (.getfield 26, 3) := by decide +kernel
theorem dX10_mean_4 : decode cX10_mean 4 = .ok (.getfield 60, 3) := by decide +kernel
theorem dX10_mean_7 : decode cX10_mean 7 = .ok (.getfield 90, 3) := by decide +kernel
theorem dX10_mean_10 : decode cX10_mean 10 = .ok (.getfield 94, 3) := by decide +kernel
theorem dX10_mean_13 : decode cX10_mean 13 = .ok (.astore_n 1, 1) := by decide +kernel
theorem dX10_mean_14 : decode cX10_mean 14 = .ok (.aload_n 1, 1) := by decide +kernel
theorem dX10_mean_15 : decode cX10_mean 15 = .ok (.getfield 100, 3) := by decide +kernel
theorem dX10_mean_18 : decode cX10_mean 18 = .ok (.ifCond .ne 8, 3) := by decide +kernel
theorem dX10_mean_21 : decode cX10_mean 21 = .ok (.bipush (-2), 2) := by decide +kernel
theorem dX10_mean_23 : decode cX10_mean 23 = .ok (.goto 16, 3) := by decide +kernel
theorem dX10_mean_26 : decode cX10_mean 26 = .ok (.aload_n 1, 1) := by decide +kernel
theorem dX10_mean_27 : decode cX10_mean 27 = .ok (.invokevirtual 150, 3) := by decide +kernel
theorem dX10_mean_30 : decode cX10_mean 30 = .ok (.aload_n 1, 1) := by decide +kernel
theorem dX10_mean_31 : decode cX10_mean 31 = .ok (.getfield 100, 3) := by decide +kernel
theorem dX10_mean_34 : decode cX10_mean 34 = .ok (.i2f, 1) := by decide +kernel
theorem dX10_mean_35 : decode cX10_mean 35 = .ok (.fdiv, 1) := by decide +kernel
theorem dX10_mean_36 : decode cX10_mean 36 = .ok (.invokestatic 146, 3) := by decide +kernel
theorem dX10_mean_39 : decode cX10_mean 39 = .ok (.ireturn, 1) := by decide +kernel
theorem dX10_ratio_0 : decode cX10_ratio 0 = .ok (.aload_n 0, 1) := by decide +kernel
theorem dX10_ratio_1 : decode cX10_ratio 1 = .ok (.getfield 26, 3) := by decide +kernel
theorem dX10_ratio_4 : decode cX10_ratio 4 = .ok (.getfield 60, 3) := by decide +kernel
theorem dX10_ratio_7 : decode cX10_ratio 7 = .ok (.getfield 90, 3) := by decide +kernel
theorem dX10_ratio_10 : decode cX10_ratio 10 = .ok (.getfield 94, 3) := by decide +kernel
theorem dX10_ratio_13 : decode cX10_ratio 13 = .ok (.astore_n 3, 1) := by decide +kernel
theorem dX10_ratio_14 : decode cX10_ratio 14 = .ok (.iload_n 1, 1) := by decide +kernel
theorem dX10_ratio_15 : decode cX10_ratio 15 = .ok (.ifCond .lt 23, 3) := by decide +kernel
theorem dX10_ratio_18 : decode cX10_ratio 18 = .ok (.iload_n 1, 1) := by decide +kernel
theorem dX10_ratio_19 : decode cX10_ratio 19 = .ok (.aload_n 3, 1) := by decide +kernel
theorem dX10_ratio_20 : decode cX10_ratio 20 = .ok (.getfield 100, 3) := by decide +kernel
theorem dX10_ratio_23 : decode cX10_ratio 23 = .ok (.if_icmp .ge 15, 3) := by decide +kernel
theorem dX10_ratio_26 : decode cX10_ratio 26 = .ok (.iload_n 2, 1) := by decide +kernel
theorem dX10_ratio_27 : decode cX10_ratio 27 = .ok (.ifCond .lt 11, 3) := by decide +kernel
theorem dX10_ratio_30 : decode cX10_ratio 30 = .ok (.iload_n 2, 1) := by decide +kernel
theorem dX10_ratio_31 : decode cX10_ratio 31 = .ok (.aload_n 3, 1) := by decide +kernel
theorem dX10_ratio_32 : decode cX10_ratio 32 = .ok (.getfield 100, 3) := by decide +kernel
theorem dX10_ratio_35 : decode cX10_ratio 35 = .ok (.if_icmp .lt 5, 3) := by decide +kernel
theorem dX10_ratio_38 : decode cX10_ratio 38 = .ok (.iconst (-1), 1) := by decide +kernel
theorem dX10_ratio_39 : decode cX10_ratio 39 = .ok (.ireturn, 1) := by decide +kernel
theorem dX10_ratio_40 : decode cX10_ratio 40 = .ok (.aload_n 3, 1) := by decide +kernel
theorem dX10_ratio_41 : decode cX10_ratio 41 = .ok (.getfield 112, 3) := by decide +kernel
theorem dX10_ratio_44 : decode cX10_ratio 44 = .ok (.iload_n 2, 1) := by decide +kernel
theorem dX10_ratio_45 : decode cX10_ratio 45 = .ok (.iaload, 1) := by decide +kernel
theorem dX10_ratio_46 : decode cX10_ratio 46 = .ok (.invokestatic 263, 3) := by decide +kernel
theorem dX10_ratio_49 : decode cX10_ratio 49 = .ok (.fstore 4, 2) := by decide +kernel
theorem dX10_ratio_51 : decode cX10_ratio 51 = .ok (.fload 4, 2) := by decide +kernel
theorem dX10_ratio_53 : decode cX10_ratio 53 = .ok (.fconst 0, 1) := by decide +kernel
theorem dX10_ratio_54 : decode cX10_ratio 54 = .ok (.fcmp .l, 1) := by decide +kernel
theorem dX10_ratio_55 : decode cX10_ratio 55 = .ok (.ifCond .le 21, 3) := by decide +kernel
theorem dX10_ratio_58 : decode cX10_ratio 58 = .ok (.aload_n 3, 1) := by decide +kernel
theorem dX10_ratio_59 : decode cX10_ratio 59 = .ok (.getfield 112, 3) := by decide +kernel
theorem dX10_ratio_62 : decode cX10_ratio 62 = .ok (.iload_n 1, 1) := by decide +kernel
theorem dX10_ratio_63 : decode cX10_ratio 63 = .ok (.iaload, 1) := by decide +kernel
theorem dX10_ratio_64 : decode cX10_ratio 64 = .ok (.invokestatic 263, 3) := by decide +kernel
theorem dX10_ratio_67 : decode cX10_ratio 67 = .ok (.fload 4, 2) := by decide +kernel
theorem dX10_ratio_69 : decode cX10_ratio 69 = .ok (.fdiv, 1) := by decide +kernel
theorem dX10_ratio_70 : decode cX10_ratio 70 = .ok (.invokestatic 146, 3) := by decide +kernel
theorem dX10_ratio_73 : decode cX10_ratio 73 = .ok (.goto 5, 3) := by decide +kernel
theorem dX10_ratio_76 : decode cX10_ratio 76 = .ok (.bipush (-2), 2) := by decide +kernel
theorem dX10_ratio_78 : decode cX10_ratio 78 = .ok (.ireturn, 1) := by decide +kernel
theorem dX10_culprit_0 : decode cX10_culprit 0 = .ok (.aload_n 0, 1) := by decide +kernel
theorem dX10_culprit_1 : decode cX10_culprit 1 = .ok (.getfield 19, 3) := by decide +kernel
theorem dX10_culprit_4 : decode cX10_culprit 4 = .ok (.aload_n 0, 1) := by decide +kernel
theorem dX10_culprit_5 : decode cX10_culprit 5 = .ok (.getfield 37, 3) := by decide +kernel
theorem dX10_culprit_8 : decode cX10_culprit 8 = .ok (.invokevirtual 266, 3) := by decide +kernel
theorem dX10_culprit_11 : decode cX10_culprit 11 = .ok (.ireturn, 1) := by decide +kernel
theorem dX10_swapped_0 : decode cX10_swapped 0 = .ok (.iload_n 1, 1) := by decide +kernel
theorem dX10_swapped_1 : decode cX10_swapped 1 = .ok (.ifCond .lt 16, 3) := by decide +kernel
theorem dX10_swapped_4 : decode cX10_swapped 4 = .ok (.iload_n 1, 1) := by decide +kernel
theorem dX10_swapped_5 : decode cX10_swapped 5 = .ok (.aload_n 0, 1) := by decide +kernel
theorem dX10_swapped_6 : decode cX10_swapped 6 = .ok (.getfield 37, 3) := by decide +kernel
theorem dX10_swapped_9 : decode cX10_swapped 9 = .ok (.getfield 226, 3) := by decide +kernel
theorem dX10_swapped_12 : decode cX10_swapped 12 = .ok (.iconst 1, 1) := by decide +kernel
theorem dX10_swapped_13 : decode cX10_swapped 13 = .ok (.isub, 1) := by decide +kernel
theorem dX10_swapped_14 : decode cX10_swapped 14 = .ok (.if_icmp .lt 7, 3) := by decide +kernel
theorem dX10_swapped_17 : decode cX10_swapped 17 = .ok (.iconst (-1), 1) := by decide +kernel
theorem dX10_swapped_18 : decode cX10_swapped 18 = .ok (.goto 15, 3) := by decide +kernel
theorem dX10_swapped_21 : decode cX10_swapped 21 = .ok (.aload_n 0, 1) := by decide +kernel
theorem dX10_swapped_22 : decode cX10_swapped 22 = .ok (.getfield 19, 3) := by decide +kernel
theorem dX10_swapped_25 : decode cX10_swapped 25 = .ok (.aload_n 0, 1) := by decide +kernel
theorem dX10_swapped_26 : decode cX10_swapped 26 = .ok (.getfield 37, 3) := by decide +kernel
theorem dX10_swapped_29 : decode cX10_swapped 29 = .ok (.iload_n 1, 1) := by decide +kernel
theorem dX10_swapped_30 : decode cX10_swapped 30 = .ok (.invokevirtual 270, 3) := by decide +kernel
theorem dX10_swapped_33 : decode cX10_swapped 33 = .ok (.ireturn, 1) := by decide +kernel
theorem dX10_fate_0 : decode cX10_fate 0 = .ok (.iload_n 1, 1) := by decide +kernel
theorem dX10_fate_1 : decode cX10_fate 1 = .ok (.ifCond .ge 5, 3) := by decide +kernel
theorem dX10_fate_4 : decode cX10_fate 4 = .ok (.iconst (-1), 1) := by decide +kernel
theorem dX10_fate_5 : decode cX10_fate 5 = .ok (.ireturn, 1) := by decide +kernel
theorem dX10_fate_6 : decode cX10_fate 6 = .ok (.iload_n 2, 1) := by decide +kernel
theorem dX10_fate_7 : decode cX10_fate 7 = .ok (.ifCond .lt 14, 3) := by decide +kernel
theorem dX10_fate_10 : decode cX10_fate 10 = .ok (.iload_n 2, 1) := by decide +kernel
theorem dX10_fate_11 : decode cX10_fate 11 = .ok (.aload_n 0, 1) := by decide +kernel
theorem dX10_fate_12 : decode cX10_fate 12 = .ok (.getfield 37, 3) := by decide +kernel
theorem dX10_fate_15 : decode cX10_fate 15 = .ok (.getfield 248, 3) := by decide +kernel
theorem dX10_fate_18 : decode cX10_fate 18 = .ok (.if_icmp .lt 6, 3) := by decide +kernel
theorem dX10_fate_21 : decode cX10_fate 21 = .ok (.bipush (-5), 2) := by decide +kernel
theorem dX10_fate_23 : decode cX10_fate 23 = .ok (.ireturn, 1) := by decide +kernel
theorem dX10_fate_24 : decode cX10_fate 24 = .ok (.aload_n 0, 1) := by decide +kernel
theorem dX10_fate_25 : decode cX10_fate 25 = .ok (.getfield 19, 3) := by decide +kernel
theorem dX10_fate_28 : decode cX10_fate 28 = .ok (.aload_n 0, 1) := by decide +kernel
theorem dX10_fate_29 : decode cX10_fate 29 = .ok (.getfield 37, 3) := by decide +kernel
theorem dX10_fate_32 : decode cX10_fate 32 = .ok (.iload_n 1, 1) := by decide +kernel
theorem dX10_fate_33 : decode cX10_fate 33 = .ok (.invokevirtual 273, 3) := by decide +kernel
theorem dX10_fate_36 : decode cX10_fate 36 = .ok (.pop, 1) := by decide +kernel
theorem dX10_fate_37 : decode cX10_fate 37 = .ok (.aload_n 0, 1) := by decide +kernel
theorem dX10_fate_38 : decode cX10_fate 38 = .ok (.getfield 19, 3) := by decide +kernel
theorem dX10_fate_41 : decode cX10_fate 41 = .ok (.getfield 276, 3) := by decide +kernel
theorem dX10_fate_44 : decode cX10_fate 44 = .ok (.getfield 90, 3) := by decide +kernel
theorem dX10_fate_47 : decode cX10_fate 47 = .ok (.getfield 154, 3) := by decide +kernel
theorem dX10_fate_50 : decode cX10_fate 50 = .ok (.getfield 219, 3) := by decide +kernel
theorem dX10_fate_53 : decode cX10_fate 53 = .ok (.iload_n 2, 1) := by decide +kernel
theorem dX10_fate_54 : decode cX10_fate 54 = .ok (.iaload, 1) := by decide +kernel
theorem dX10_fate_55 : decode cX10_fate 55 = .ok (.ireturn, 1) := by decide +kernel
theorem dX10_wakes_0 : decode cX10_wakes 0 = .ok (.aload_n 0, 1) := by decide +kernel
theorem dX10_wakes_1 : decode cX10_wakes 1 = .ok (.getfield 26, 3) := by decide +kernel
theorem dX10_wakes_4 : decode cX10_wakes 4 = .ok (.getfield 60, 3) := by decide +kernel
theorem dX10_wakes_7 : decode cX10_wakes 7 = .ok (.getfield 90, 3) := by decide +kernel
theorem dX10_wakes_10 : decode cX10_wakes 10 = .ok (.getfield 154, 3) := by decide +kernel
theorem dX10_wakes_13 : decode cX10_wakes 13 = .ok (.astore_n 2, 1) := by decide +kernel
theorem dX10_wakes_14 : decode cX10_wakes 14 = .ok (.aload_n 2, 1) := by decide +kernel
theorem dX10_wakes_15 : decode cX10_wakes 15 = .ok (.iload_n 1, 1) := by decide +kernel
theorem dX10_wakes_16 : decode cX10_wakes 16 = .ok (.invokevirtual 158, 3) := by decide +kernel
theorem dX10_wakes_19 : decode cX10_wakes 19 = .ok (.ifCond .eq 12, 3) := by decide +kernel
theorem dX10_wakes_22 : decode cX10_wakes 22 = .ok (.aload_n 2, 1) := by decide +kernel
theorem dX10_wakes_23 : decode cX10_wakes 23 = .ok (.getfield 170, 3) := by decide +kernel
theorem dX10_wakes_26 : decode cX10_wakes 26 = .ok (.iload_n 1, 1) := by decide +kernel
theorem dX10_wakes_27 : decode cX10_wakes 27 = .ok (.iaload, 1) := by decide +kernel
theorem dX10_wakes_28 : decode cX10_wakes 28 = .ok (.ifCond .ne 5, 3) := by decide +kernel
theorem dX10_wakes_31 : decode cX10_wakes 31 = .ok (.iconst (-1), 1) := by decide +kernel
theorem dX10_wakes_32 : decode cX10_wakes 32 = .ok (.ireturn, 1) := by decide +kernel
theorem dX10_wakes_33 : decode cX10_wakes 33 = .ok (.aload_n 0, 1) := by decide +kernel
theorem dX10_wakes_34 : decode cX10_wakes 34 = .ok (.iload_n 1, 1) := by decide +kernel
theorem dX10_wakes_35 : decode cX10_wakes 35 = .ok (.invokevirtual 277, 3) := by decide +kernel
theorem dX10_wakes_38 : decode cX10_wakes 38 = .ok (.getfield 154, 3) := by decide +kernel
theorem dX10_wakes_41 : decode cX10_wakes 41 = .ok (.astore_n 3, 1) := by decide +kernel
theorem dX10_wakes_42 : decode cX10_wakes 42 = .ok (.iconst 0, 1) := by decide +kernel
theorem dX10_wakes_43 : decode cX10_wakes 43 = .ok (.istore 4, 2) := by decide +kernel
theorem dX10_wakes_45 : decode cX10_wakes 45 = .ok (.iconst 0, 1) := by decide +kernel
theorem dX10_wakes_46 : decode cX10_wakes 46 = .ok (.istore 5, 2) := by decide +kernel
theorem dX10_wakes_48 : decode cX10_wakes 48 = .ok (.iload 5, 2) := by decide +kernel
theorem dX10_wakes_50 : decode cX10_wakes 50 = .ok (.aload_n 2, 1) := by decide +kernel
theorem dX10_wakes_51 : decode cX10_wakes 51 = .ok (.getfield 258, 3) := by decide +kernel
theorem dX10_wakes_54 : decode cX10_wakes 54 = .ok (.if_icmp .ge 62, 3) := by decide +kernel
theorem dX10_wakes_57 : decode cX10_wakes 57 = .ok (.aload_n 2, 1) := by decide +kernel
theorem dX10_wakes_58 : decode cX10_wakes 58 = .ok (.getfield 170, 3) := by decide +kernel
theorem dX10_wakes_61 : decode cX10_wakes 61 = .ok (.iload 5, 2) := by decide +kernel
theorem dX10_wakes_63 : decode cX10_wakes 63 = .ok (.iaload, 1) := by decide +kernel
theorem dX10_wakes_64 : decode cX10_wakes 64 = .ok (.iconst 2, 1) := by decide +kernel
theorem dX10_wakes_65 : decode cX10_wakes 65 = .ok (.if_icmp .ne 18, 3) := by decide +kernel
theorem dX10_wakes_68 : decode cX10_wakes 68 = .ok (.aload_n 3, 1) := by decide +kernel
theorem dX10_wakes_69 : decode cX10_wakes 69 = .ok (.getfield 170, 3) := by decide +kernel
theorem dX10_wakes_72 : decode cX10_wakes 72 = .ok (.iload 5, 2) := by decide +kernel
theorem dX10_wakes_74 : decode cX10_wakes 74 = .ok (.iaload, 1) := by decide +kernel
theorem dX10_wakes_75 : decode cX10_wakes 75 = .ok (.iconst 2, 1) := by decide +kernel
theorem dX10_wakes_76 : decode cX10_wakes 76 = .ok (.if_icmp .eq 7, 3) := by decide +kernel
theorem dX10_wakes_79 : decode cX10_wakes 79 = .ok (.iconst 1, 1) := by decide +kernel
theorem dX10_wakes_80 : decode cX10_wakes 80 = .ok (.goto 4, 3) := by decide +kernel
theorem dX10_wakes_83 : decode cX10_wakes 83 = .ok (.iconst 0, 1) := by decide +kernel
theorem dX10_wakes_84 : decode cX10_wakes 84 = .ok (.istore 6, 2) := by decide +kernel
theorem dX10_wakes_86 : decode cX10_wakes 86 = .ok (.iload 4, 2) := by decide +kernel
theorem dX10_wakes_88 : decode cX10_wakes 88 = .ok (.iload 6, 2) := by decide +kernel
theorem dX10_wakes_90 : decode cX10_wakes 90 = .ok (.ifCond .eq 16, 3) := by decide +kernel
theorem dX10_wakes_93 : decode cX10_wakes 93 = .ok (.iload 5, 2) := by decide +kernel
theorem dX10_wakes_95 : decode cX10_wakes 95 = .ok (.iload_n 1, 1) := by decide +kernel
theorem dX10_wakes_96 : decode cX10_wakes 96 = .ok (.if_icmp .eq 10, 3) := by decide +kernel
theorem dX10_wakes_99 : decode cX10_wakes 99 = .ok (.iconst 1, 1) := by decide +kernel
theorem dX10_wakes_100 : decode cX10_wakes 100 = .ok (.iload 5, 2) := by decide +kernel
theorem dX10_wakes_102 : decode cX10_wakes 102 = .ok (.ishl, 1) := by decide +kernel
theorem dX10_wakes_103 : decode cX10_wakes 103 = .ok (.goto 4, 3) := by decide +kernel
theorem dX10_wakes_106 : decode cX10_wakes 106 = .ok (.iconst 0, 1) := by decide +kernel
theorem dX10_wakes_107 : decode cX10_wakes 107 = .ok (.ior, 1) := by decide +kernel
theorem dX10_wakes_108 : decode cX10_wakes 108 = .ok (.istore 4, 2) := by decide +kernel
theorem dX10_wakes_110 : decode cX10_wakes 110 = .ok (.iinc 5 1, 3) := by decide +kernel
theorem dX10_wakes_113 : decode cX10_wakes 113 = .ok (.goto (-65), 3) := by decide +kernel
theorem dX10_wakes_116 : decode cX10_wakes 116 = .ok (.iload 4, 2) := by decide +kernel
theorem dX10_wakes_118 : decode cX10_wakes 118 = .ok (.ireturn, 1) := by decide +kernel
theorem dX10_loses_0 : decode cX10_loses 0 = .ok (.aload_n 0, 1) := by decide +kernel
theorem dX10_loses_1 : decode cX10_loses 1 = .ok (.getfield 26, 3) := by decide +kernel
theorem dX10_loses_4 : decode cX10_loses 4 = .ok (.getfield 60, 3) := by decide +kernel
theorem dX10_loses_7 : decode cX10_loses 7 = .ok (.getfield 90, 3) := by decide +kernel
theorem dX10_loses_10 : decode cX10_loses 10 = .ok (.astore_n 2, 1) := by decide +kernel
theorem dX10_loses_11 : decode cX10_loses 11 = .ok (.aload_n 2, 1) := by decide +kernel
theorem dX10_loses_12 : decode cX10_loses 12 = .ok (.getfield 154, 3) := by decide +kernel
theorem dX10_loses_15 : decode cX10_loses 15 = .ok (.iload_n 1, 1) := by decide +kernel
theorem dX10_loses_16 : decode cX10_loses 16 = .ok (.invokevirtual 158, 3) := by decide +kernel
theorem dX10_loses_19 : decode cX10_loses 19 = .ok (.ifCond .eq 15, 3) := by decide +kernel
theorem dX10_loses_22 : decode cX10_loses 22 = .ok (.aload_n 2, 1) := by decide +kernel
theorem dX10_loses_23 : decode cX10_loses 23 = .ok (.getfield 154, 3) := by decide +kernel
theorem dX10_loses_26 : decode cX10_loses 26 = .ok (.getfield 170, 3) := by decide +kernel
theorem dX10_loses_29 : decode cX10_loses 29 = .ok (.iload_n 1, 1) := by decide +kernel
theorem dX10_loses_30 : decode cX10_loses 30 = .ok (.iaload, 1) := by decide +kernel
theorem dX10_loses_31 : decode cX10_loses 31 = .ok (.ifCond .ne 7, 3) := by decide +kernel
theorem dX10_loses_34 : decode cX10_loses 34 = .ok (.ldc_w 283, 3) := by decide +kernel
theorem dX10_loses_37 : decode cX10_loses 37 = .ok (.ireturn, 1) := by decide +kernel
theorem dX10_loses_38 : decode cX10_loses 38 = .ok (.aload_n 0, 1) := by decide +kernel
theorem dX10_loses_39 : decode cX10_loses 39 = .ok (.iload_n 1, 1) := by decide +kernel
theorem dX10_loses_40 : decode cX10_loses 40 = .ok (.invokevirtual 277, 3) := by decide +kernel
theorem dX10_loses_43 : decode cX10_loses 43 = .ok (.getfield 94, 3) := by decide +kernel
theorem dX10_loses_46 : decode cX10_loses 46 = .ok (.invokevirtual 284, 3) := by decide +kernel
theorem dX10_loses_49 : decode cX10_loses 49 = .ok (.aload_n 2, 1) := by decide +kernel
theorem dX10_loses_50 : decode cX10_loses 50 = .ok (.getfield 94, 3) := by decide +kernel
theorem dX10_loses_53 : decode cX10_loses 53 = .ok (.invokevirtual 284, 3) := by decide +kernel
theorem dX10_loses_56 : decode cX10_loses 56 = .ok (.isub, 1) := by decide +kernel
theorem dX10_loses_57 : decode cX10_loses 57 = .ok (.ireturn, 1) := by decide +kernel
theorem dX10_nearest_0 : decode cX10_nearest 0 = .ok (.iload_n 1, 1) := by decide +kernel
theorem dX10_nearest_1 : decode cX10_nearest 1 = .ok (.iload_n 2, 1) := by decide +kernel
theorem dX10_nearest_2 : decode cX10_nearest 2 = .ok (.invokestatic 130, 3) := by decide +kernel
theorem dX10_nearest_5 : decode cX10_nearest 5 = .ok (.istore_n 3, 1) := by decide +kernel
theorem dX10_nearest_6 : decode cX10_nearest 6 = .ok (.iload_n 3, 1) := by decide +kernel
theorem dX10_nearest_7 : decode cX10_nearest 7 = .ok (.iconst (-1), 1) := by decide +kernel
theorem dX10_nearest_8 : decode cX10_nearest 8 = .ok (.if_icmp .ne 5, 3) := by decide +kernel
theorem dX10_nearest_11 : decode cX10_nearest 11 = .ok (.iconst (-1), 1) := by decide +kernel
theorem dX10_nearest_12 : decode cX10_nearest 12 = .ok (.ireturn, 1) := by decide +kernel
theorem dX10_nearest_13 : decode cX10_nearest 13 = .ok (.aload_n 0, 1) := by decide +kernel
theorem dX10_nearest_14 : decode cX10_nearest 14 = .ok (.getfield 26, 3) := by decide +kernel
theorem dX10_nearest_17 : decode cX10_nearest 17 = .ok (.getfield 60, 3) := by decide +kernel
theorem dX10_nearest_20 : decode cX10_nearest 20 = .ok (.getfield 90, 3) := by decide +kernel
theorem dX10_nearest_23 : decode cX10_nearest 23 = .ok (.getfield 94, 3) := by decide +kernel
theorem dX10_nearest_26 : decode cX10_nearest 26 = .ok (.astore 4, 2) := by decide +kernel
theorem dX10_nearest_28 : decode cX10_nearest 28 = .ok (.iload_n 3, 1) := by decide +kernel
theorem dX10_nearest_29 : decode cX10_nearest 29 = .ok (.invokestatic 263, 3) := by decide +kernel
theorem dX10_nearest_32 : decode cX10_nearest 32 = .ok (.fstore 5, 2) := by decide +kernel
theorem dX10_nearest_34 : decode cX10_nearest 34 = .ok (.fconst 0, 1) := by decide +kernel
theorem dX10_nearest_35 : decode cX10_nearest 35 = .ok (.fstore 6, 2) := by decide +kernel
theorem dX10_nearest_37 : decode cX10_nearest 37 = .ok (.bipush (-2), 2) := by decide +kernel
theorem dX10_nearest_39 : decode cX10_nearest 39 = .ok (.istore 7, 2) := by decide +kernel
theorem dX10_nearest_41 : decode cX10_nearest 41 = .ok (.iconst 0, 1) := by decide +kernel
theorem dX10_nearest_42 : decode cX10_nearest 42 = .ok (.istore 8, 2) := by decide +kernel
theorem dX10_nearest_44 : decode cX10_nearest 44 = .ok (.iload 8, 2) := by decide +kernel
theorem dX10_nearest_46 : decode cX10_nearest 46 = .ok (.aload 4, 2) := by decide +kernel
theorem dX10_nearest_48 : decode cX10_nearest 48 = .ok (.getfield 100, 3) := by decide +kernel
theorem dX10_nearest_51 : decode cX10_nearest 51 = .ok (.if_icmp .ge 63, 3) := by decide +kernel
theorem dX10_nearest_54 : decode cX10_nearest 54 = .ok (.aload 4, 2) := by decide +kernel
theorem dX10_nearest_56 : decode cX10_nearest 56 = .ok (.getfield 112, 3) := by decide +kernel
theorem dX10_nearest_59 : decode cX10_nearest 59 = .ok (.iload 8, 2) := by decide +kernel
theorem dX10_nearest_61 : decode cX10_nearest 61 = .ok (.iaload, 1) := by decide +kernel
theorem dX10_nearest_62 : decode cX10_nearest 62 = .ok (.invokestatic 263, 3) := by decide +kernel
theorem dX10_nearest_65 : decode cX10_nearest 65 = .ok (.fload 5, 2) := by decide +kernel
theorem dX10_nearest_67 : decode cX10_nearest 67 = .ok (.fsub, 1) := by decide +kernel
theorem dX10_nearest_68 : decode cX10_nearest 68 = .ok (.fstore 9, 2) := by decide +kernel
theorem dX10_nearest_70 : decode cX10_nearest 70 = .ok (.fload 9, 2) := by decide +kernel
theorem dX10_nearest_72 : decode cX10_nearest 72 = .ok (.fconst 0, 1) := by decide +kernel
theorem dX10_nearest_73 : decode cX10_nearest 73 = .ok (.fcmp .g, 1) := by decide +kernel
theorem dX10_nearest_74 : decode cX10_nearest 74 = .ok (.ifCond .ge 9, 3) := by decide +kernel
theorem dX10_nearest_77 : decode cX10_nearest 77 = .ok (.fload 9, 2) := by decide +kernel
theorem dX10_nearest_79 : decode cX10_nearest 79 = .ok (.fneg, 1) := by decide +kernel
theorem dX10_nearest_80 : decode cX10_nearest 80 = .ok (.goto 5, 3) := by decide +kernel
theorem dX10_nearest_83 : decode cX10_nearest 83 = .ok (.fload 9, 2) := by decide +kernel
theorem dX10_nearest_85 : decode cX10_nearest 85 = .ok (.fstore 9, 2) := by decide +kernel
theorem dX10_nearest_87 : decode cX10_nearest 87 = .ok (.iload 7, 2) := by decide +kernel
theorem dX10_nearest_89 : decode cX10_nearest 89 = .ok (.ifCond .lt 11, 3) := by decide +kernel
theorem dX10_nearest_92 : decode cX10_nearest 92 = .ok (.fload 9, 2) := by decide +kernel
theorem dX10_nearest_94 : decode cX10_nearest 94 = .ok (.fload 6, 2) := by decide +kernel
theorem dX10_nearest_96 : decode cX10_nearest 96 = .ok (.fcmp .g, 1) := by decide +kernel
theorem dX10_nearest_97 : decode cX10_nearest 97 = .ok (.ifCond .ge 11, 3) := by decide +kernel
theorem dX10_nearest_100 : decode cX10_nearest 100 = .ok (.iload 8, 2) := by decide +kernel
theorem dX10_nearest_102 : decode cX10_nearest 102 = .ok (.istore 7, 2) := by decide +kernel
theorem dX10_nearest_104 : decode cX10_nearest 104 = .ok (.fload 9, 2) := by decide +kernel
theorem dX10_nearest_106 : decode cX10_nearest 106 = .ok (.fstore 6, 2) := by decide +kernel
theorem dX10_nearest_108 : decode cX10_nearest 108 = .ok (.iinc 8 1, 3) := by decide +kernel
theorem dX10_nearest_111 : decode cX10_nearest 111 = .ok (.goto (-67), 3) := by decide +kernel
theorem dX10_nearest_114 : decode cX10_nearest 114 = .ok (.iload 7, 2) := by decide +kernel
theorem dX10_nearest_116 : decode cX10_nearest 116 = .ok (.ireturn, 1) := by decide +kernel
theorem dX10_sameOrder_0 : decode cX10_sameOrder 0 = .ok (.iload_n 1, 1) := by decide +kernel
theorem dX10_sameOrder_1 : decode cX10_sameOrder 1 = .ok (.ifCond .ge 5, 3) := by decide +kernel
theorem dX10_sameOrder_4 : decode cX10_sameOrder 4 = .ok (.iconst (-1), 1) := by decide +kernel
theorem dX10_sameOrder_5 : decode cX10_sameOrder 5 = .ok (.ireturn, 1) := by decide +kernel
theorem dX10_sameOrder_6 : decode cX10_sameOrder 6 = .ok (.aload_n 0, 1) := by decide +kernel
theorem dX10_sameOrder_7 : decode cX10_sameOrder 7 = .ok (.getfield 19, 3) := by decide +kernel
theorem dX10_sameOrder_10 : decode cX10_sameOrder 10 = .ok (.aload_n 0, 1) := by decide +kernel
theorem dX10_sameOrder_11 : decode cX10_sameOrder 11 = .ok (.getfield 37, 3) := by decide +kernel
theorem dX10_sameOrder_14 : decode cX10_sameOrder 14 = .ok (.invokevirtual 236, 3) := by decide +kernel
theorem dX10_sameOrder_17 : decode cX10_sameOrder 17 = .ok (.aload_n 0, 1) := by decide +kernel
theorem dX10_sameOrder_18 : decode cX10_sameOrder 18 = .ok (.getfield 19, 3) := by decide +kernel
theorem dX10_sameOrder_21 : decode cX10_sameOrder 21 = .ok (.aload_n 0, 1) := by decide +kernel
theorem dX10_sameOrder_22 : decode cX10_sameOrder 22 = .ok (.getfield 37, 3) := by decide +kernel
theorem dX10_sameOrder_25 : decode cX10_sameOrder 25 = .ok (.invokevirtual 239, 3) := by decide +kernel
theorem dX10_sameOrder_28 : decode cX10_sameOrder 28 = .ok (.aload_n 0, 1) := by decide +kernel
theorem dX10_sameOrder_29 : decode cX10_sameOrder 29 = .ok (.getfield 19, 3) := by decide +kernel
theorem dX10_sameOrder_32 : decode cX10_sameOrder 32 = .ok (.getfield 242, 3) := by decide +kernel
theorem dX10_sameOrder_35 : decode cX10_sameOrder 35 = .ok (.ifCond .eq 14, 3) := by decide +kernel
theorem dX10_sameOrder_38 : decode cX10_sameOrder 38 = .ok (.iload_n 1, 1) := by decide +kernel
theorem dX10_sameOrder_39 : decode cX10_sameOrder 39 = .ok (.aload_n 0, 1) := by decide +kernel
theorem dX10_sameOrder_40 : decode cX10_sameOrder 40 = .ok (.getfield 37, 3) := by decide +kernel
theorem dX10_sameOrder_43 : decode cX10_sameOrder 43 = .ok (.getfield 248, 3) := by decide +kernel
theorem dX10_sameOrder_46 : decode cX10_sameOrder 46 = .ok (.if_icmp .lt 8, 3) := by decide +kernel
theorem dX10_sameOrder_49 : decode cX10_sameOrder 49 = .ok (.bipush (-2), 2) := by decide +kernel
theorem dX10_sameOrder_51 : decode cX10_sameOrder 51 = .ok (.goto 12, 3) := by decide +kernel
theorem dX10_sameOrder_54 : decode cX10_sameOrder 54 = .ok (.aload_n 0, 1) := by decide +kernel
theorem dX10_sameOrder_55 : decode cX10_sameOrder 55 = .ok (.getfield 19, 3) := by decide +kernel
theorem dX10_sameOrder_58 : decode cX10_sameOrder 58 = .ok (.getfield 288, 3) := by decide +kernel
theorem dX10_sameOrder_61 : decode cX10_sameOrder 61 = .ok (.iload_n 1, 1) := by decide +kernel
theorem dX10_sameOrder_62 : decode cX10_sameOrder 62 = .ok (.iaload, 1) := by decide +kernel
theorem dX10_sameOrder_63 : decode cX10_sameOrder 63 = .ok (.ireturn, 1) := by decide +kernel
theorem dX10_take_0 : decode cX10_take 0 = .ok (.aload_n 0, 1) := by decide +kernel
theorem dX10_take_1 : decode cX10_take 1 = .ok (.getfield 70, 3) := by decide +kernel
theorem dX10_take_4 : decode cX10_take 4 = .ok (.bipush 16, 2) := by decide +kernel
theorem dX10_take_6 : decode cX10_take 6 = .ok (.if_icmp .lt 5, 3) := by decide +kernel
theorem dX10_take_9 : decode cX10_take 9 = .ok (.iconst (-1), 1) := by decide +kernel
theorem dX10_take_10 : decode cX10_take 10 = .ok (.ireturn, 1) := by decide +kernel
theorem dX10_take_11 : decode cX10_take 11 = .ok (.aload_n 0, 1) := by decide +kernel
theorem dX10_take_12 : decode cX10_take 12 = .ok (.getfield 30, 3) := by decide +kernel
theorem dX10_take_15 : decode cX10_take 15 = .ok (.aload_n 0, 1) := by decide +kernel
theorem dX10_take_16 : decode cX10_take 16 = .ok (.getfield 70, 3) := by decide +kernel
theorem dX10_take_19 : decode cX10_take 19 = .ok (.aaload, 1) := by decide +kernel
theorem dX10_take_20 : decode cX10_take 20 = .ok (.ifnonnull 19, 3) := by decide +kernel
theorem dX10_take_23 : decode cX10_take 23 = .ok (.aload_n 0, 1) := by decide +kernel
theorem dX10_take_24 : decode cX10_take 24 = .ok (.getfield 30, 3) := by decide +kernel
theorem dX10_take_27 : decode cX10_take 27 = .ok (.aload_n 0, 1) := by decide +kernel
theorem dX10_take_28 : decode cX10_take 28 = .ok (.getfield 70, 3) := by decide +kernel
theorem dX10_take_31 : decode cX10_take 31 = .ok (.new 23, 3) := by decide +kernel
theorem dX10_take_34 : decode cX10_take 34 = .ok (.dup, 1) := by decide +kernel
theorem dX10_take_35 : decode cX10_take 35 = .ok (.invokespecial 25, 3) := by decide +kernel
theorem dX10_take_38 : decode cX10_take 38 = .ok (.aastore, 1) := by decide +kernel
theorem dX10_take_39 : decode cX10_take 39 = .ok (.aload_n 0, 1) := by decide +kernel
theorem dX10_take_40 : decode cX10_take 40 = .ok (.getfield 30, 3) := by decide +kernel
theorem dX10_take_43 : decode cX10_take 43 = .ok (.aload_n 0, 1) := by decide +kernel
theorem dX10_take_44 : decode cX10_take 44 = .ok (.getfield 70, 3) := by decide +kernel
theorem dX10_take_47 : decode cX10_take 47 = .ok (.aaload, 1) := by decide +kernel
theorem dX10_take_48 : decode cX10_take 48 = .ok (.aload_n 0, 1) := by decide +kernel
theorem dX10_take_49 : decode cX10_take 49 = .ok (.getfield 26, 3) := by decide +kernel
theorem dX10_take_52 : decode cX10_take 52 = .ok (.invokevirtual 291, 3) := by decide +kernel
theorem dX10_take_55 : decode cX10_take 55 = .ok (.aload_n 0, 1) := by decide +kernel
theorem dX10_take_56 : decode cX10_take 56 = .ok (.dup, 1) := by decide +kernel
theorem dX10_take_57 : decode cX10_take 57 = .ok (.getfield 70, 3) := by decide +kernel
theorem dX10_take_60 : decode cX10_take 60 = .ok (.iconst 1, 1) := by decide +kernel
theorem dX10_take_61 : decode cX10_take 61 = .ok (.iadd, 1) := by decide +kernel
theorem dX10_take_62 : decode cX10_take 62 = .ok (.putfield 70, 3) := by decide +kernel
theorem dX10_take_65 : decode cX10_take 65 = .ok (.aload_n 0, 1) := by decide +kernel
theorem dX10_take_66 : decode cX10_take 66 = .ok (.getfield 70, 3) := by decide +kernel
theorem dX10_take_69 : decode cX10_take 69 = .ok (.ireturn, 1) := by decide +kernel
theorem dX10_back_0 : decode cX10_back 0 = .ok (.aload_n 0, 1) := by decide +kernel
theorem dX10_back_1 : decode cX10_back 1 = .ok (.getfield 70, 3) := by decide +kernel
theorem dX10_back_4 : decode cX10_back 4 = .ok (.ifCond .le 17, 3) := by decide +kernel
theorem dX10_back_7 : decode cX10_back 7 = .ok (.aload_n 0, 1) := by decide +kernel
theorem dX10_back_8 : decode cX10_back 8 = .ok (.getfield 30, 3) := by decide +kernel
theorem dX10_back_11 : decode cX10_back 11 = .ok (.aload_n 0, 1) := by decide +kernel
theorem dX10_back_12 : decode cX10_back 12 = .ok (.getfield 70, 3) := by decide +kernel
theorem dX10_back_15 : decode cX10_back 15 = .ok (.iconst 1, 1) := by decide +kernel
theorem dX10_back_16 : decode cX10_back 16 = .ok (.isub, 1) := by decide +kernel
theorem dX10_back_17 : decode cX10_back 17 = .ok (.aaload, 1) := by decide +kernel
theorem dX10_back_18 : decode cX10_back 18 = .ok (.ifnonnull 5, 3) := by decide +kernel
theorem dX10_back_21 : decode cX10_back 21 = .ok (.iconst (-1), 1) := by decide +kernel
theorem dX10_back_22 : decode cX10_back 22 = .ok (.ireturn, 1) := by decide +kernel
theorem dX10_back_23 : decode cX10_back 23 = .ok (.aload_n 0, 1) := by decide +kernel
theorem dX10_back_24 : decode cX10_back 24 = .ok (.dup, 1) := by decide +kernel
theorem dX10_back_25 : decode cX10_back 25 = .ok (.getfield 70, 3) := by decide +kernel
theorem dX10_back_28 : decode cX10_back 28 = .ok (.iconst 1, 1) := by decide +kernel
theorem dX10_back_29 : decode cX10_back 29 = .ok (.isub, 1) := by decide +kernel
theorem dX10_back_30 : decode cX10_back 30 = .ok (.putfield 70, 3) := by decide +kernel
theorem dX10_back_33 : decode cX10_back 33 = .ok (.aload_n 0, 1) := by decide +kernel
theorem dX10_back_34 : decode cX10_back 34 = .ok (.getfield 26, 3) := by decide +kernel
theorem dX10_back_37 : decode cX10_back 37 = .ok (.aload_n 0, 1) := by decide +kernel
theorem dX10_back_38 : decode cX10_back 38 = .ok (.getfield 30, 3) := by decide +kernel
theorem dX10_back_41 : decode cX10_back 41 = .ok (.aload_n 0, 1) := by decide +kernel
theorem dX10_back_42 : decode cX10_back 42 = .ok (.getfield 70, 3) := by decide +kernel
theorem dX10_back_45 : decode cX10_back 45 = .ok (.aaload, 1) := by decide +kernel
theorem dX10_back_46 : decode cX10_back 46 = .ok (.invokevirtual 291, 3) := by decide +kernel
theorem dX10_back_49 : decode cX10_back 49 = .ok (.aload_n 0, 1) := by decide +kernel
theorem dX10_back_50 : decode cX10_back 50 = .ok (.getfield 70, 3) := by decide +kernel
theorem dX10_back_53 : decode cX10_back 53 = .ok (.ireturn, 1) := by decide +kernel
theorem dX10_count_0 : decode cX10_count 0 = .ok (.aload_n 0, 1) := by decide +kernel
theorem dX10_count_1 : decode cX10_count 1 = .ok (.getfield 26, 3) := by decide +kernel
theorem dX10_count_4 : decode cX10_count 4 = .ok (.getfield 60, 3) := by decide +kernel
theorem dX10_count_7 : decode cX10_count 7 = .ok (.getfield 90, 3) := by decide +kernel
theorem dX10_count_10 : decode cX10_count 10 = .ok (.astore_n 2, 1) := by decide +kernel
theorem dX10_count_11 : decode cX10_count 11 = .ok (.iload_n 1, 1) := by decide +kernel
theorem dX10_count_12 : decode cX10_count 12 = .ok (.tableswitch 172 0 11 #[64, 72, 80, 88, 104, 120, 125, 134, 143, 151, 159, 167], 64) := by decide +kernel
theorem dX10_count_76 : decode cX10_count 76 = .ok (.aload_n 0, 1) := by decide +kernel
theorem dX10_count_77 : decode cX10_count 77 = .ok (.getfield 37, 3) := by decide +kernel
theorem dX10_count_80 : decode cX10_count 80 = .ok (.getfield 248, 3) := by decide +kernel
theorem dX10_count_83 : decode cX10_count 83 = .ok (.ireturn, 1) := by decide +kernel
theorem dX10_count_84 : decode cX10_count 84 = .ok (.aload_n 2, 1) := by decide +kernel
theorem dX10_count_85 : decode cX10_count 85 = .ok (.getfield 94, 3) := by decide +kernel
theorem dX10_count_88 : decode cX10_count 88 = .ok (.getfield 100, 3) := by decide +kernel
theorem dX10_count_91 : decode cX10_count 91 = .ok (.ireturn, 1) := by decide +kernel
theorem dX10_count_92 : decode cX10_count 92 = .ok (.aload_n 0, 1) := by decide +kernel
theorem dX10_count_93 : decode cX10_count 93 = .ok (.getfield 37, 3) := by decide +kernel
theorem dX10_count_96 : decode cX10_count 96 = .ok (.getfield 226, 3) := by decide +kernel
theorem dX10_count_99 : decode cX10_count 99 = .ok (.ireturn, 1) := by decide +kernel
theorem dX10_count_100 : decode cX10_count 100 = .ok (.aload_n 0, 1) := by decide +kernel
theorem dX10_count_101 : decode cX10_count 101 = .ok (.getfield 26, 3) := by decide +kernel
theorem dX10_count_104 : decode cX10_count 104 = .ok (.getfield 60, 3) := by decide +kernel
theorem dX10_count_107 : decode cX10_count 107 = .ok (.aload_n 0, 1) := by decide +kernel
theorem dX10_count_108 : decode cX10_count 108 = .ok (.getfield 37, 3) := by decide +kernel
theorem dX10_count_111 : decode cX10_count 111 = .ok (.iconst 2, 1) := by decide +kernel
theorem dX10_count_112 : decode cX10_count 112 = .ok (.invokevirtual 229, 3) := by decide +kernel
theorem dX10_count_115 : decode cX10_count 115 = .ok (.ireturn, 1) := by decide +kernel
theorem dX10_count_116 : decode cX10_count 116 = .ok (.aload_n 0, 1) := by decide +kernel
theorem dX10_count_117 : decode cX10_count 117 = .ok (.getfield 26, 3) := by decide +kernel
theorem dX10_count_120 : decode cX10_count 120 = .ok (.getfield 60, 3) := by decide +kernel
theorem dX10_count_123 : decode cX10_count 123 = .ok (.aload_n 0, 1) := by decide +kernel
theorem dX10_count_124 : decode cX10_count 124 = .ok (.getfield 37, 3) := by decide +kernel
theorem dX10_count_127 : decode cX10_count 127 = .ok (.iconst 1, 1) := by decide +kernel
theorem dX10_count_128 : decode cX10_count 128 = .ok (.invokevirtual 229, 3) := by decide +kernel
theorem dX10_count_131 : decode cX10_count 131 = .ok (.ireturn, 1) := by decide +kernel
theorem dX10_count_132 : decode cX10_count 132 = .ok (.aload_n 2, 1) := by decide +kernel
theorem dX10_count_133 : decode cX10_count 133 = .ok (.invokevirtual 295, 3) := by decide +kernel
theorem dX10_count_136 : decode cX10_count 136 = .ok (.ireturn, 1) := by decide +kernel
theorem dX10_count_137 : decode cX10_count 137 = .ok (.aload_n 2, 1) := by decide +kernel
theorem dX10_count_138 : decode cX10_count 138 = .ok (.getfield 154, 3) := by decide +kernel
theorem dX10_count_141 : decode cX10_count 141 = .ok (.iconst 1, 1) := by decide +kernel
theorem dX10_count_142 : decode cX10_count 142 = .ok (.invokevirtual 298, 3) := by decide +kernel
theorem dX10_count_145 : decode cX10_count 145 = .ok (.ireturn, 1) := by decide +kernel
theorem dX10_count_146 : decode cX10_count 146 = .ok (.aload_n 2, 1) := by decide +kernel
theorem dX10_count_147 : decode cX10_count 147 = .ok (.getfield 154, 3) := by decide +kernel
theorem dX10_count_150 : decode cX10_count 150 = .ok (.iconst 2, 1) := by decide +kernel
theorem dX10_count_151 : decode cX10_count 151 = .ok (.invokevirtual 298, 3) := by decide +kernel
theorem dX10_count_154 : decode cX10_count 154 = .ok (.ireturn, 1) := by decide +kernel
theorem dX10_count_155 : decode cX10_count 155 = .ok (.aload_n 2, 1) := by decide +kernel
theorem dX10_count_156 : decode cX10_count 156 = .ok (.getfield 154, 3) := by decide +kernel
theorem dX10_count_159 : decode cX10_count 159 = .ok (.invokevirtual 301, 3) := by decide +kernel
theorem dX10_count_162 : decode cX10_count 162 = .ok (.ireturn, 1) := by decide +kernel
theorem dX10_count_163 : decode cX10_count 163 = .ok (.aload_n 2, 1) := by decide +kernel
theorem dX10_count_164 : decode cX10_count 164 = .ok (.getfield 94, 3) := by decide +kernel
theorem dX10_count_167 : decode cX10_count 167 = .ok (.invokevirtual 284, 3) := by decide +kernel
theorem dX10_count_170 : decode cX10_count 170 = .ok (.ireturn, 1) := by decide +kernel
theorem dX10_count_171 : decode cX10_count 171 = .ok (.aload_n 2, 1) := by decide +kernel
theorem dX10_count_172 : decode cX10_count 172 = .ok (.getfield 94, 3) := by decide +kernel
theorem dX10_count_175 : decode cX10_count 175 = .ok (.invokevirtual 304, 3) := by decide +kernel
theorem dX10_count_178 : decode cX10_count 178 = .ok (.ireturn, 1) := by decide +kernel
theorem dX10_count_179 : decode cX10_count 179 = .ok (.aload_n 0, 1) := by decide +kernel
theorem dX10_count_180 : decode cX10_count 180 = .ok (.getfield 70, 3) := by decide +kernel
theorem dX10_count_183 : decode cX10_count 183 = .ok (.ireturn, 1) := by decide +kernel
theorem dX10_count_184 : decode cX10_count 184 = .ok (.iconst (-1), 1) := by decide +kernel
theorem dX10_count_185 : decode cX10_count 185 = .ok (.ireturn, 1) := by decide +kernel
theorem dX10_actOnKey_0 : decode cX10_actOnKey 0 = .ok (.iload_n 3, 1) := by decide +kernel
theorem dX10_actOnKey_1 : decode cX10_actOnKey 1 = .ok (.iconst (-1), 1) := by decide +kernel
theorem dX10_actOnKey_2 : decode cX10_actOnKey 2 = .ok (.if_icmp .eq 16, 3) := by decide +kernel
theorem dX10_actOnKey_5 : decode cX10_actOnKey 5 = .ok (.iload 4, 2) := by decide +kernel
theorem dX10_actOnKey_7 : decode cX10_actOnKey 7 = .ok (.ifCond .lt 11, 3) := by decide +kernel
theorem dX10_actOnKey_10 : decode cX10_actOnKey 10 = .ok (.iload 4, 2) := by decide +kernel
theorem dX10_actOnKey_12 : decode cX10_actOnKey 12 = .ok (.sipush 9999, 3) := by decide +kernel
theorem dX10_actOnKey_15 : decode cX10_actOnKey 15 = .ok (.if_icmp .le 5, 3) := by decide +kernel
theorem dX10_actOnKey_18 : decode cX10_actOnKey 18 = .ok (.iconst (-1), 1) := by decide +kernel
theorem dX10_actOnKey_19 : decode cX10_actOnKey 19 = .ok (.ireturn, 1) := by decide +kernel
theorem dX10_actOnKey_20 : decode cX10_actOnKey 20 = .ok (.aload_n 0, 1) := by decide +kernel
theorem dX10_actOnKey_21 : decode cX10_actOnKey 21 = .ok (.getfield 26, 3) := by decide +kernel
theorem dX10_actOnKey_24 : decode cX10_actOnKey 24 = .ok (.getfield 60, 3) := by decide +kernel
theorem dX10_actOnKey_27 : decode cX10_actOnKey 27 = .ok (.getfield 90, 3) := by decide +kernel
theorem dX10_actOnKey_30 : decode cX10_actOnKey 30 = .ok (.iload_n 1, 1) := by decide +kernel
theorem dX10_actOnKey_31 : decode cX10_actOnKey 31 = .ok (.iload_n 2, 1) := by decide +kernel
theorem dX10_actOnKey_32 : decode cX10_actOnKey 32 = .ok (.iload_n 3, 1) := by decide +kernel
theorem dX10_actOnKey_33 : decode cX10_actOnKey 33 = .ok (.iload_n 3, 1) := by decide +kernel
theorem dX10_actOnKey_34 : decode cX10_actOnKey 34 = .ok (.iload 4, 2) := by decide +kernel
theorem dX10_actOnKey_36 : decode cX10_actOnKey 36 = .ok (.invokevirtual 208, 3) := by decide +kernel
theorem dX10_actOnKey_39 : decode cX10_actOnKey 39 = .ok (.ireturn, 1) := by decide +kernel
theorem dX10_worldWithout_0 : decode cX10_worldWithout 0 = .ok (.aload_n 0, 1) := by decide +kernel
theorem dX10_worldWithout_1 : decode cX10_worldWithout 1 = .ok (.getfield 19, 3) := by decide +kernel
theorem dX10_worldWithout_4 : decode cX10_worldWithout 4 = .ok (.getfield 276, 3) := by decide +kernel
theorem dX10_worldWithout_7 : decode cX10_worldWithout 7 = .ok (.aload_n 0, 1) := by decide +kernel
theorem dX10_worldWithout_8 : decode cX10_worldWithout 8 = .ok (.getfield 26, 3) := by decide +kernel
theorem dX10_worldWithout_11 : decode cX10_worldWithout 11 = .ok (.getfield 60, 3) := by decide +kernel
theorem dX10_worldWithout_14 : decode cX10_worldWithout 14 = .ok (.invokevirtual 307, 3) := by decide +kernel
theorem dX10_worldWithout_17 : decode cX10_worldWithout 17 = .ok (.aload_n 0, 1) := by decide +kernel
theorem dX10_worldWithout_18 : decode cX10_worldWithout 18 = .ok (.getfield 19, 3) := by decide +kernel
theorem dX10_worldWithout_21 : decode cX10_worldWithout 21 = .ok (.getfield 276, 3) := by decide +kernel
theorem dX10_worldWithout_24 : decode cX10_worldWithout 24 = .ok (.getfield 90, 3) := by decide +kernel
theorem dX10_worldWithout_27 : decode cX10_worldWithout 27 = .ok (.iload_n 1, 1) := by decide +kernel
theorem dX10_worldWithout_28 : decode cX10_worldWithout 28 = .ok (.bipush 8, 2) := by decide +kernel
theorem dX10_worldWithout_30 : decode cX10_worldWithout 30 = .ok (.iconst 0, 1) := by decide +kernel
theorem dX10_worldWithout_31 : decode cX10_worldWithout 31 = .ok (.iconst 0, 1) := by decide +kernel
theorem dX10_worldWithout_32 : decode cX10_worldWithout 32 = .ok (.iconst 0, 1) := by decide +kernel
theorem dX10_worldWithout_33 : decode cX10_worldWithout 33 = .ok (.invokevirtual 208, 3) := by decide +kernel
theorem dX10_worldWithout_36 : decode cX10_worldWithout 36 = .ok (.pop, 1) := by decide +kernel
theorem dX10_worldWithout_37 : decode cX10_worldWithout 37 = .ok (.aload_n 0, 1) := by decide +kernel
theorem dX10_worldWithout_38 : decode cX10_worldWithout 38 = .ok (.getfield 19, 3) := by decide +kernel
theorem dX10_worldWithout_41 : decode cX10_worldWithout 41 = .ok (.getfield 276, 3) := by decide +kernel
theorem dX10_worldWithout_44 : decode cX10_worldWithout 44 = .ok (.getfield 90, 3) := by decide +kernel
theorem dX10_worldWithout_47 : decode cX10_worldWithout 47 = .ok (.areturn, 1) := by decide +kernel
theorem dX11_init_0 : decode cX11_init 0 = .ok (.aload_n 0, 1) := by decide +kernel
theorem dX11_init_1 : decode cX11_init 1 = .ok (.invokespecial 1, 3) := by decide +kernel
theorem dX11_init_4 : decode cX11_init 4 = .ok (.aload_n 0, 1) := by decide +kernel
theorem dX11_init_5 : decode cX11_init 5 = .ok (.sipush 700, 3) := by decide +kernel
theorem dX11_init_8 : decode cX11_init 8 = .ok (.newarray .int, 2) := by decide +kernel
theorem dX11_init_10 : decode cX11_init 10 = .ok (.putfield 7, 3) := by decide +kernel
theorem dX11_init_13 : decode cX11_init 13 = .ok (.aload_n 0, 1) := by decide +kernel
theorem dX11_init_14 : decode cX11_init 14 = .ok (.bipush 50, 2) := by decide +kernel
theorem dX11_init_16 : decode cX11_init 16 = .ok (.newarray .int, 2) := by decide +kernel
theorem dX11_init_18 : decode cX11_init 18 = .ok (.dup, 1) := by decide +kernel
theorem dX11_init_19 : decode cX11_init 19 = .ok (.iconst 0, 1) := by decide +kernel
theorem dX11_init_20 : decode cX11_init 20 = .ok (.bipush 104, 2) := by decide +kernel
theorem dX11_init_22 : decode cX11_init 22 = .ok (.iastore, 1) := by decide +kernel
theorem dX11_init_23 : decode cX11_init 23 = .ok (.dup, 1) := by decide +kernel
theorem dX11_init_24 : decode cX11_init 24 = .ok (.iconst 1, 1) := by decide +kernel
theorem dX11_init_25 : decode cX11_init 25 = .ok (.bipush 97, 2) := by decide +kernel
theorem dX11_init_27 : decode cX11_init 27 = .ok (.iastore, 1) := by decide +kernel
theorem dX11_init_28 : decode cX11_init 28 = .ok (.dup, 1) := by decide +kernel
theorem dX11_init_29 : decode cX11_init 29 = .ok (.iconst 2, 1) := by decide +kernel
theorem dX11_init_30 : decode cX11_init 30 = .ok (.bipush 110, 2) := by decide +kernel
theorem dX11_init_32 : decode cX11_init 32 = .ok (.iastore, 1) := by decide +kernel
theorem dX11_init_33 : decode cX11_init 33 = .ok (.dup, 1) := by decide +kernel
theorem dX11_init_34 : decode cX11_init 34 = .ok (.iconst 3, 1) := by decide +kernel
theorem dX11_init_35 : decode cX11_init 35 = .ok (.bipush 100, 2) := by decide +kernel
theorem dX11_init_37 : decode cX11_init 37 = .ok (.iastore, 1) := by decide +kernel
theorem dX11_init_38 : decode cX11_init 38 = .ok (.dup, 1) := by decide +kernel
theorem dX11_init_39 : decode cX11_init 39 = .ok (.iconst 4, 1) := by decide +kernel
theorem dX11_init_40 : decode cX11_init 40 = .ok (.bipush 32, 2) := by decide +kernel
theorem dX11_init_42 : decode cX11_init 42 = .ok (.iastore, 1) := by decide +kernel
theorem dX11_init_43 : decode cX11_init 43 = .ok (.dup, 1) := by decide +kernel
theorem dX11_init_44 : decode cX11_init 44 = .ok (.iconst 5, 1) := by decide +kernel
theorem dX11_init_45 : decode cX11_init 45 = .ok (.bipush 107, 2) := by decide +kernel
theorem dX11_init_47 : decode cX11_init 47 = .ok (.iastore, 1) := by decide +kernel
theorem dX11_init_48 : decode cX11_init 48 = .ok (.dup, 1) := by decide +kernel
theorem dX11_init_49 : decode cX11_init 49 = .ok (.bipush 6, 2) := by decide +kernel
theorem dX11_init_51 : decode cX11_init 51 = .ok (.bipush 101, 2) := by decide +kernel
theorem dX11_init_53 : decode cX11_init 53 = .ok (.iastore, 1) := by decide +kernel
theorem dX11_init_54 : decode cX11_init 54 = .ok (.dup, 1) := by decide +kernel
theorem dX11_init_55 : decode cX11_init 55 = .ok (.bipush 7, 2) := by decide +kernel
theorem dX11_init_57 : decode cX11_init 57 = .ok (.bipush 121, 2) := by decide +kernel
theorem dX11_init_59 : decode cX11_init 59 = .ok (.iastore, 1) := by decide +kernel
theorem dX11_init_60 : decode cX11_init 60 = .ok (.dup, 1) := by decide +kernel
theorem dX11_init_61 : decode cX11_init 61 = .ok (.bipush 8, 2) := by decide +kernel
theorem dX11_init_63 : decode cX11_init 63 = .ok (.bipush 32, 2) := by decide +kernel
theorem dX11_init_65 : decode cX11_init 65 = .ok (.iastore, 1) := by decide +kernel
theorem dX11_init_66 : decode cX11_init 66 = .ok (.dup, 1) := by decide +kernel
theorem dX11_init_67 : decode cX11_init 67 = .ok (.bipush 9, 2) := by decide +kernel
theorem dX11_init_69 : decode cX11_init 69 = .ok (.bipush 111, 2) := by decide +kernel
theorem dX11_init_71 : decode cX11_init 71 = .ok (.iastore, 1) := by decide +kernel
theorem dX11_init_72 : decode cX11_init 72 = .ok (.dup, 1) := by decide +kernel
theorem dX11_init_73 : decode cX11_init 73 = .ok (.bipush 10, 2) := by decide +kernel
theorem dX11_init_75 : decode cX11_init 75 = .ok (.bipush 112, 2) := by decide +kernel
theorem dX11_init_77 : decode cX11_init 77 = .ok (.iastore, 1) := by decide +kernel
theorem dX11_init_78 : decode cX11_init 78 = .ok (.dup, 1) := by decide +kernel
theorem dX11_init_79 : decode cX11_init 79 = .ok (.bipush 11, 2) := by decide +kernel
theorem dX11_init_81 : decode cX11_init 81 = .ok (.bipush 101, 2) := by decide +kernel
theorem dX11_init_83 : decode cX11_init 83 = .ok (.iastore, 1) := by decide +kernel
theorem dX11_init_84 : decode cX11_init 84 = .ok (.dup, 1) := by decide +kernel
theorem dX11_init_85 : decode cX11_init 85 = .ok (.bipush 12, 2) := by decide +kernel
theorem dX11_init_87 : decode cX11_init 87 = .ok (.bipush 110, 2) := by decide +kernel
theorem dX11_init_89 : decode cX11_init 89 = .ok (.iastore, 1) := by decide +kernel
theorem dX11_init_90 : decode cX11_init 90 = .ok (.dup, 1) := by decide +kernel
theorem dX11_init_91 : decode cX11_init 91 = .ok (.bipush 13, 2) := by decide +kernel
theorem dX11_init_93 : decode cX11_init 93 = .ok (.bipush 32, 2) := by decide +kernel
theorem dX11_init_95 : decode cX11_init 95 = .ok (.iastore, 1) := by decide +kernel
theorem dX11_init_96 : decode cX11_init 96 = .ok (.dup, 1) := by decide +kernel
theorem dX11_init_97 : decode cX11_init 97 = .ok (.bipush 14, 2) := by decide +kernel
theorem dX11_init_99 : decode cX11_init 99 = .ok (.bipush 115, 2) := by decide +kernel
theorem dX11_init_101 : decode cX11_init 101 = .ok (.iastore, 1) := by decide +kernel
theorem dX11_init_102 : decode cX11_init 102 = .ok (.dup, 1) := by decide +kernel
theorem dX11_init_103 : decode cX11_init 103 = .ok (.bipush 15, 2) := by decide +kernel
theorem dX11_init_105 : decode cX11_init 105 = .ok (.bipush 99, 2) := by decide +kernel
theorem dX11_init_107 : decode cX11_init 107 = .ok (.iastore, 1) := by decide +kernel
theorem dX11_init_108 : decode cX11_init 108 = .ok (.dup, 1) := by decide +kernel
theorem dX11_init_109 : decode cX11_init 109 = .ok (.bipush 16, 2) := by decide +kernel
theorem dX11_init_111 : decode cX11_init 111 = .ok (.bipush 97, 2) := by decide +kernel
theorem dX11_init_113 : decode cX11_init 113 = .ok (.iastore, 1) := by decide +kernel
theorem dX11_init_114 : decode cX11_init 114 = .ok (.dup, 1) := by decide +kernel
theorem dX11_init_115 : decode cX11_init 115 = .ok (.bipush 17, 2) := by decide +kernel
theorem dX11_init_117 : decode cX11_init 117 = .ok (.bipush 110, 2) := by decide +kernel
theorem dX11_init_119 : decode cX11_init 119 = .ok (.iastore, 1) := by decide +kernel
theorem dX11_init_120 : decode cX11_init 120 = .ok (.dup, 1) := by decide +kernel
theorem dX11_init_121 : decode cX11_init 121 = .ok (.bipush 18, 2) := by decide +kernel
theorem dX11_init_123 : decode cX11_init 123 = .ok (.bipush 32, 2) := by decide +kernel
theorem dX11_init_125 : decode cX11_init 125 = .ok (.iastore, 1) := by decide +kernel
theorem dX11_init_126 : decode cX11_init 126 = .ok (.dup, 1) := by decide +kernel
theorem dX11_init_127 : decode cX11_init 127 = .ok (.bipush 19, 2) := by decide +kernel
theorem dX11_init_129 : decode cX11_init 129 = .ok (.bipush 115, 2) := by decide +kernel
theorem dX11_init_131 : decode cX11_init 131 = .ok (.iastore, 1) := by decide +kernel
theorem dX11_init_132 : decode cX11_init 132 = .ok (.dup, 1) := by decide +kernel
theorem dX11_init_133 : decode cX11_init 133 = .ok (.bipush 20, 2) := by decide +kernel
theorem dX11_init_135 : decode cX11_init 135 = .ok (.bipush 101, 2) := by decide +kernel
theorem dX11_init_137 : decode cX11_init 137 = .ok (.iastore, 1) := by decide +kernel
theorem dX11_init_138 : decode cX11_init 138 = .ok (.dup, 1) := by decide +kernel
theorem dX11_init_139 : decode cX11_init 139 = .ok (.bipush 21, 2) := by decide +kernel
theorem dX11_init_141 : decode cX11_init 141 = .ok (.bipush 101, 2) := by decide +kernel
theorem dX11_init_143 : decode cX11_init 143 = .ok (.iastore, 1) := by decide +kernel
theorem dX11_init_144 : decode cX11_init 144 = .ok (.dup, 1) := by decide +kernel
theorem dX11_init_145 : decode cX11_init 145 = .ok (.bipush 22, 2) := by decide +kernel
theorem dX11_init_147 : decode cX11_init 147 = .ok (.bipush 107, 2) := by decide +kernel
theorem dX11_init_149 : decode cX11_init 149 = .ok (.iastore, 1) := by decide +kernel
theorem dX11_init_150 : decode cX11_init 150 = .ok (.dup, 1) := by decide +kernel
theorem dX11_init_151 : decode cX11_init 151 = .ok (.bipush 23, 2) := by decide +kernel
theorem dX11_init_153 : decode cX11_init 153 = .ok (.bipush 32, 2) := by decide +kernel
theorem dX11_init_155 : decode cX11_init 155 = .ok (.iastore, 1) := by decide +kernel
theorem dX11_init_156 : decode cX11_init 156 = .ok (.dup, 1) := by decide +kernel
theorem dX11_init_157 : decode cX11_init 157 = .ok (.bipush 24, 2) := by decide +kernel
theorem dX11_init_159 : decode cX11_init 159 = .ok (.bipush 103, 2) := by decide +kernel
theorem dX11_init_161 : decode cX11_init 161 = .ok (.iastore, 1) := by decide +kernel
theorem dX11_init_162 : decode cX11_init 162 = .ok (.dup, 1) := by decide +kernel
theorem dX11_init_163 : decode cX11_init 163 = .ok (.bipush 25, 2) := by decide +kernel
theorem dX11_init_165 : decode cX11_init 165 = .ok (.bipush 114, 2) := by decide +kernel
theorem dX11_init_167 : decode cX11_init 167 = .ok (.iastore, 1) := by decide +kernel
theorem dX11_init_168 : decode cX11_init 168 = .ok (.dup, 1) := by decide +kernel
theorem dX11_init_169 : decode cX11_init 169 = .ok (.bipush 26, 2) := by decide +kernel
theorem dX11_init_171 : decode cX11_init 171 = .ok (.bipush 97, 2) := by decide +kernel
theorem dX11_init_173 : decode cX11_init 173 = .ok (.iastore, 1) := by decide +kernel
theorem dX11_init_174 : decode cX11_init 174 = .ok (.dup, 1) := by decide +kernel
theorem dX11_init_175 : decode cX11_init 175 = .ok (.bipush 27, 2) := by decide +kernel
theorem dX11_init_177 : decode cX11_init 177 = .ok (.bipush 98, 2) := by decide +kernel
theorem dX11_init_179 : decode cX11_init 179 = .ok (.iastore, 1) := by decide +kernel
theorem dX11_init_180 : decode cX11_init 180 = .ok (.dup, 1) := by decide +kernel
theorem dX11_init_181 : decode cX11_init 181 = .ok (.bipush 28, 2) := by decide +kernel
theorem dX11_init_183 : decode cX11_init 183 = .ok (.bipush 32, 2) := by decide +kernel
theorem dX11_init_185 : decode cX11_init 185 = .ok (.iastore, 1) := by decide +kernel
theorem dX11_init_186 : decode cX11_init 186 = .ok (.dup, 1) := by decide +kernel
theorem dX11_init_187 : decode cX11_init 187 = .ok (.bipush 29, 2) := by decide +kernel
theorem dX11_init_189 : decode cX11_init 189 = .ok (.bipush 115, 2) := by decide +kernel
theorem dX11_init_191 : decode cX11_init 191 = .ok (.iastore, 1) := by decide +kernel
theorem dX11_init_192 : decode cX11_init 192 = .ok (.dup, 1) := by decide +kernel
theorem dX11_init_193 : decode cX11_init 193 = .ok (.bipush 30, 2) := by decide +kernel
theorem dX11_init_195 : decode cX11_init 195 = .ok (.bipush 101, 2) := by decide +kernel
theorem dX11_init_197 : decode cX11_init 197 = .ok (.iastore, 1) := by decide +kernel
theorem dX11_init_198 : decode cX11_init 198 = .ok (.dup, 1) := by decide +kernel
theorem dX11_init_199 : decode cX11_init 199 = .ok (.bipush 31, 2) := by decide +kernel
theorem dX11_init_201 : decode cX11_init 201 = .ok (.bipush 116, 2) := by decide +kernel
theorem dX11_init_203 : decode cX11_init 203 = .ok (.iastore, 1) := by decide +kernel
theorem dX11_init_204 : decode cX11_init 204 = .ok (.dup, 1) := by decide +kernel
theorem dX11_init_205 : decode cX11_init 205 = .ok (.bipush 32, 2) := by decide +kernel
theorem dX11_init_207 : decode cX11_init 207 = .ok (.bipush 32, 2) := by decide +kernel
theorem dX11_init_209 : decode cX11_init 209 = .ok (.iastore, 1) := by decide +kernel
theorem dX11_init_210 : decode cX11_init 210 = .ok (.dup, 1) := by decide +kernel
theorem dX11_init_211 : decode cX11_init 211 = .ok (.bipush 33, 2) := by decide +kernel
theorem dX11_init_213 : decode cX11_init 213 = .ok (.bipush 112, 2) := by decide +kernel
theorem dX11_init_215 : decode cX11_init 215 = .ok (.iastore, 1) := by decide +kernel
theorem dX11_init_216 : decode cX11_init 216 = .ok (.dup, 1) := by decide +kernel
theorem dX11_init_217 : decode cX11_init 217 = .ok (.bipush 34, 2) := by decide +kernel
theorem dX11_init_219 : decode cX11_init 219 = .ok (.bipush 117, 2) := by decide +kernel
theorem dX11_init_221 : decode cX11_init 221 = .ok (.iastore, 1) := by decide +kernel
theorem dX11_init_222 : decode cX11_init 222 = .ok (.dup, 1) := by decide +kernel
theorem dX11_init_223 : decode cX11_init 223 = .ok (.bipush 35, 2) := by decide +kernel
theorem dX11_init_225 : decode cX11_init 225 = .ok (.bipush 116, 2) := by decide +kernel
theorem dX11_init_227 : decode cX11_init 227 = .ok (.iastore, 1) := by decide +kernel
theorem dX11_init_228 : decode cX11_init 228 = .ok (.dup, 1) := by decide +kernel
theorem dX11_init_229 : decode cX11_init 229 = .ok (.bipush 36, 2) := by decide +kernel
theorem dX11_init_231 : decode cX11_init 231 = .ok (.bipush 32, 2) := by decide +kernel
theorem dX11_init_233 : decode cX11_init 233 = .ok (.iastore, 1) := by decide +kernel
theorem dX11_init_234 : decode cX11_init 234 = .ok (.dup, 1) := by decide +kernel
theorem dX11_init_235 : decode cX11_init 235 = .ok (.bipush 37, 2) := by decide +kernel
theorem dX11_init_237 : decode cX11_init 237 = .ok (.bipush 99, 2) := by decide +kernel
theorem dX11_init_239 : decode cX11_init 239 = .ok (.iastore, 1) := by decide +kernel
theorem dX11_init_240 : decode cX11_init 240 = .ok (.dup, 1) := by decide +kernel
theorem dX11_init_241 : decode cX11_init 241 = .ok (.bipush 38, 2) := by decide +kernel
theorem dX11_init_243 : decode cX11_init 243 = .ok (.bipush 117, 2) := by decide +kernel
theorem dX11_init_245 : decode cX11_init 245 = .ok (.iastore, 1) := by decide +kernel
theorem dX11_init_246 : decode cX11_init 246 = .ok (.dup, 1) := by decide +kernel
theorem dX11_init_247 : decode cX11_init 247 = .ok (.bipush 39, 2) := by decide +kernel
theorem dX11_init_249 : decode cX11_init 249 = .ok (.bipush 116, 2) := by decide +kernel
theorem dX11_init_251 : decode cX11_init 251 = .ok (.iastore, 1) := by decide +kernel
theorem dX11_init_252 : decode cX11_init 252 = .ok (.dup, 1) := by decide +kernel
theorem dX11_init_253 : decode cX11_init 253 = .ok (.bipush 40, 2) := by decide +kernel
theorem dX11_init_255 : decode cX11_init 255 = .ok (.bipush 32, 2) := by decide +kernel
theorem dX11_init_257 : decode cX11_init 257 = .ok (.iastore, 1) := by decide +kernel
theorem dX11_init_258 : decode cX11_init 258 = .ok (.dup, 1) := by decide +kernel
theorem dX11_init_259 : decode cX11_init 259 = .ok (.bipush 41, 2) := by decide +kernel
theorem dX11_init_261 : decode cX11_init 261 = .ok (.bipush 101, 2) := by decide +kernel
theorem dX11_init_263 : decode cX11_init 263 = .ok (.iastore, 1) := by decide +kernel
theorem dX11_init_264 : decode cX11_init 264 = .ok (.dup, 1) := by decide +kernel
theorem dX11_init_265 : decode cX11_init 265 = .ok (.bipush 42, 2) := by decide +kernel
theorem dX11_init_267 : decode cX11_init 267 = .ok (.bipush 110, 2) := by decide +kernel
theorem dX11_init_269 : decode cX11_init 269 = .ok (.iastore, 1) := by decide +kernel
theorem dX11_init_270 : decode cX11_init 270 = .ok (.dup, 1) := by decide +kernel
theorem dX11_init_271 : decode cX11_init 271 = .ok (.bipush 43, 2) := by decide +kernel
theorem dX11_init_273 : decode cX11_init 273 = .ok (.bipush 100, 2) := by decide +kernel
theorem dX11_init_275 : decode cX11_init 275 = .ok (.iastore, 1) := by decide +kernel
theorem dX11_init_276 : decode cX11_init 276 = .ok (.dup, 1) := by decide +kernel
theorem dX11_init_277 : decode cX11_init 277 = .ok (.bipush 44, 2) := by decide +kernel
theorem dX11_init_279 : decode cX11_init 279 = .ok (.bipush 32, 2) := by decide +kernel
theorem dX11_init_281 : decode cX11_init 281 = .ok (.iastore, 1) := by decide +kernel
theorem dX11_init_282 : decode cX11_init 282 = .ok (.dup, 1) := by decide +kernel
theorem dX11_init_283 : decode cX11_init 283 = .ok (.bipush 45, 2) := by decide +kernel
theorem dX11_init_285 : decode cX11_init 285 = .ok (.bipush 113, 2) := by decide +kernel
theorem dX11_init_287 : decode cX11_init 287 = .ok (.iastore, 1) := by decide +kernel
theorem dX11_init_288 : decode cX11_init 288 = .ok (.dup, 1) := by decide +kernel
theorem dX11_init_289 : decode cX11_init 289 = .ok (.bipush 46, 2) := by decide +kernel
theorem dX11_init_291 : decode cX11_init 291 = .ok (.bipush 117, 2) := by decide +kernel
theorem dX11_init_293 : decode cX11_init 293 = .ok (.iastore, 1) := by decide +kernel
theorem dX11_init_294 : decode cX11_init 294 = .ok (.dup, 1) := by decide +kernel
theorem dX11_init_295 : decode cX11_init 295 = .ok (.bipush 47, 2) := by decide +kernel
theorem dX11_init_297 : decode cX11_init 297 = .ok (.bipush 105, 2) := by decide +kernel
theorem dX11_init_299 : decode cX11_init 299 = .ok (.iastore, 1) := by decide +kernel
theorem dX11_init_300 : decode cX11_init 300 = .ok (.dup, 1) := by decide +kernel
theorem dX11_init_301 : decode cX11_init 301 = .ok (.bipush 48, 2) := by decide +kernel
theorem dX11_init_303 : decode cX11_init 303 = .ok (.bipush 116, 2) := by decide +kernel
theorem dX11_init_305 : decode cX11_init 305 = .ok (.iastore, 1) := by decide +kernel
theorem dX11_init_306 : decode cX11_init 306 = .ok (.dup, 1) := by decide +kernel
theorem dX11_init_307 : decode cX11_init 307 = .ok (.bipush 49, 2) := by decide +kernel
theorem dX11_init_309 : decode cX11_init 309 = .ok (.bipush 32, 2) := by decide +kernel
theorem dX11_init_311 : decode cX11_init 311 = .ok (.iastore, 1) := by decide +kernel
theorem dX11_init_312 : decode cX11_init 312 = .ok (.putfield 13, 3) := by decide +kernel
theorem dX11_init_315 : decode cX11_init 315 = .ok (.aload_n 0, 1) := by decide +kernel
theorem dX11_init_316 : decode cX11_init 316 = .ok (.iconst (-1), 1) := by decide +kernel
theorem dX11_init_317 : decode cX11_init 317 = .ok (.putfield 16, 3) := by decide +kernel
theorem dX11_init_320 : decode cX11_init 320 = .ok (.aload_n 0, 1) := by decide +kernel
theorem dX11_init_321 : decode cX11_init 321 = .ok (.bipush 10, 2) := by decide +kernel
theorem dX11_init_323 : decode cX11_init 323 = .ok (.newarray .int, 2) := by decide +kernel
theorem dX11_init_325 : decode cX11_init 325 = .ok (.putfield 20, 3) := by decide +kernel
theorem dX11_init_328 : decode cX11_init 328 = .ok (.aload_n 0, 1) := by decide +kernel
theorem dX11_init_329 : decode cX11_init 329 = .ok (.bipush 32, 2) := by decide +kernel
theorem dX11_init_331 : decode cX11_init 331 = .ok (.newarray .int, 2) := by decide +kernel
theorem dX11_init_333 : decode cX11_init 333 = .ok (.putfield 23, 3) := by decide +kernel
theorem dX11_init_336 : decode cX11_init 336 = .ok (.aload_n 0, 1) := by decide +kernel
theorem dX11_init_337 : decode cX11_init 337 = .ok (.bipush 32, 2) := by decide +kernel
theorem dX11_init_339 : decode cX11_init 339 = .ok (.newarray .int, 2) := by decide +kernel
theorem dX11_init_341 : decode cX11_init 341 = .ok (.putfield 26, 3) := by decide +kernel
theorem dX11_init_344 : decode cX11_init 344 = .ok (.aload_n 0, 1) := by decide +kernel
theorem dX11_init_345 : decode cX11_init 345 = .ok (.bipush 48, 2) := by decide +kernel
theorem dX11_init_347 : decode cX11_init 347 = .ok (.newarray .int, 2) := by decide +kernel
theorem dX11_init_349 : decode cX11_init 349 = .ok (.putfield 29, 3) := by decide +kernel
theorem dX11_init_352 : decode cX11_init 352 = .ok (.aload_n 0, 1) := by decide +kernel
theorem dX11_init_353 : decode cX11_init 353 = .ok (.bipush 48, 2) := by decide +kernel
theorem dX11_init_355 : decode cX11_init 355 = .ok (.newarray .int, 2) := by decide +kernel
theorem dX11_init_357 : decode cX11_init 357 = .ok (.putfield 32, 3) := by decide +kernel
theorem dX11_init_360 : decode cX11_init 360 = .ok (.aload_n 0, 1) := by decide +kernel
theorem dX11_init_361 : decode cX11_init 361 = .ok (.bipush 48, 2) := by decide +kernel
theorem dX11_init_363 : decode cX11_init 363 = .ok (.newarray .int, 2) := by decide +kernel
theorem dX11_init_365 : decode cX11_init 365 = .ok (.putfield 35, 3) := by decide +kernel
theorem dX11_init_368 : decode cX11_init 368 = .ok (.aload_n 0, 1) := by decide +kernel
theorem dX11_init_369 : decode cX11_init 369 = .ok (.bipush 48, 2) := by decide +kernel
theorem dX11_init_371 : decode cX11_init 371 = .ok (.newarray .int, 2) := by decide +kernel
theorem dX11_init_373 : decode cX11_init 373 = .ok (.putfield 38, 3) := by decide +kernel
theorem dX11_init_376 : decode cX11_init 376 = .ok (.aload_n 0, 1) := by decide +kernel
theorem dX11_init_377 : decode cX11_init 377 = .ok (.bipush 48, 2) := by decide +kernel
theorem dX11_init_379 : decode cX11_init 379 = .ok (.newarray .int, 2) := by decide +kernel
theorem dX11_init_381 : decode cX11_init 381 = .ok (.putfield 41, 3) := by decide +kernel
theorem dX11_init_384 : decode cX11_init 384 = .ok (.aload_n 0, 1) := by decide +kernel
theorem dX11_init_385 : decode cX11_init 385 = .ok (.sipush 5760, 3) := by decide +kernel
theorem dX11_init_388 : decode cX11_init 388 = .ok (.newarray .int, 2) := by decide +kernel
theorem dX11_init_390 : decode cX11_init 390 = .ok (.putfield 44, 3) := by decide +kernel
theorem dX11_init_393 : decode cX11_init 393 = .ok (.aload_n 0, 1) := by decide +kernel
theorem dX11_init_394 : decode cX11_init 394 = .ok (.sipush 1200, 3) := by decide +kernel
theorem dX11_init_397 : decode cX11_init 397 = .ok (.newarray .int, 2) := by decide +kernel
theorem dX11_init_399 : decode cX11_init 399 = .ok (.putfield 47, 3) := by decide +kernel
theorem dX11_init_402 : decode cX11_init 402 = .ok (.aload_n 0, 1) := by decide +kernel
theorem dX11_init_403 : decode cX11_init 403 = .ok (.sipush 1200, 3) := by decide +kernel
theorem dX11_init_406 : decode cX11_init 406 = .ok (.newarray .int, 2) := by decide +kernel
theorem dX11_init_408 : decode cX11_init 408 = .ok (.putfield 50, 3) := by decide +kernel
theorem dX11_init_411 : decode cX11_init 411 = .ok (.aload_n 0, 1) := by decide +kernel
theorem dX11_init_412 : decode cX11_init 412 = .ok (.sipush 1200, 3) := by decide +kernel
theorem dX11_init_415 : decode cX11_init 415 = .ok (.newarray .int, 2) := by decide +kernel
theorem dX11_init_417 : decode cX11_init 417 = .ok (.putfield 53, 3) := by decide +kernel
theorem dX11_init_420 : decode cX11_init 420 = .ok (.aload_n 0, 1) := by decide +kernel
theorem dX11_init_421 : decode cX11_init 421 = .ok (.sipush 1200, 3) := by decide +kernel
theorem dX11_init_424 : decode cX11_init 424 = .ok (.newarray .int, 2) := by decide +kernel
theorem dX11_init_426 : decode cX11_init 426 = .ok (.putfield 56, 3) := by decide +kernel
theorem dX11_init_429 : decode cX11_init 429 = .ok (.aload_n 0, 1) := by decide +kernel
theorem dX11_init_430 : decode cX11_init 430 = .ok (.bipush 24, 2) := by decide +kernel
theorem dX11_init_432 : decode cX11_init 432 = .ok (.newarray .int, 2) := by decide +kernel
theorem dX11_init_434 : decode cX11_init 434 = .ok (.putfield 59, 3) := by decide +kernel
theorem dX11_init_437 : decode cX11_init 437 = .ok (.aload_n 0, 1) := by decide +kernel
theorem dX11_init_438 : decode cX11_init 438 = .ok (.bipush 49, 2) := by decide +kernel
theorem dX11_init_440 : decode cX11_init 440 = .ok (.newarray .int, 2) := by decide +kernel
theorem dX11_init_442 : decode cX11_init 442 = .ok (.putfield 62, 3) := by decide +kernel
theorem dX11_init_445 : decode cX11_init 445 = .ok (.aload_n 0, 1) := by decide +kernel
theorem dX11_init_446 : decode cX11_init 446 = .ok (.iconst 5, 1) := by decide +kernel
theorem dX11_init_447 : decode cX11_init 447 = .ok (.newarray .int, 2) := by decide +kernel
theorem dX11_init_449 : decode cX11_init 449 = .ok (.putfield 65, 3) := by decide +kernel
theorem dX11_init_452 : decode cX11_init 452 = .ok (.aload_n 0, 1) := by decide +kernel
theorem dX11_init_453 : decode cX11_init 453 = .ok (.iconst 5, 1) := by decide +kernel
theorem dX11_init_454 : decode cX11_init 454 = .ok (.newarray .int, 2) := by decide +kernel
theorem dX11_init_456 : decode cX11_init 456 = .ok (.putfield 68, 3) := by decide +kernel
theorem dX11_init_459 : decode cX11_init 459 = .ok (.aload_n 0, 1) := by decide +kernel
theorem dX11_init_460 : decode cX11_init 460 = .ok (.invokevirtual 71, 3) := by decide +kernel
theorem dX11_init_463 : decode cX11_init 463 = .ok (.aload_n 0, 1) := by decide +kernel
theorem dX11_init_464 : decode cX11_init 464 = .ok (.invokevirtual 74, 3) := by decide +kernel
theorem dX11_init_467 : decode cX11_init 467 = .ok (.return_, 1) := by decide +kernel
theorem dX11_feed_0 : decode cX11_feed 0 = .ok (.aload_n 0, 1) := by decide +kernel
theorem dX11_feed_1 : decode cX11_feed 1 = .ok (.iconst 0, 1) := by decide +kernel
theorem dX11_feed_2 : decode cX11_feed 2 = .ok (.putfield 77, 3) := by decide +kernel
theorem dX11_feed_5 : decode cX11_feed 5 = .ok (.aload_n 0, 1) := by decide +kernel
theorem dX11_feed_6 : decode cX11_feed 6 = .ok (.getfield 80, 3) := by decide +kernel
theorem dX11_feed_9 : decode cX11_feed 9 = .ok (.bipush 20, 2) := by decide +kernel
theorem dX11_feed_11 : decode cX11_feed 11 = .ok (.iadd, 1) := by decide +kernel
theorem dX11_feed_12 : decode cX11_feed 12 = .ok (.sipush 700, 3) := by decide +kernel
theorem dX11_feed_15 : decode cX11_feed 15 = .ok (.if_icmp .le 5, 3) := by decide +kernel
theorem dX11_feed_18 : decode cX11_feed 18 = .ok (.iconst (-1), 1) := by decide +kernel
theorem dX11_feed_19 : decode cX11_feed 19 = .ok (.ireturn, 1) := by decide +kernel
theorem dX11_feed_20 : decode cX11_feed 20 = .ok (.iconst 0, 1) := by decide +kernel
theorem dX11_feed_21 : decode cX11_feed 21 = .ok (.istore 6, 2) := by decide +kernel
theorem dX11_feed_23 : decode cX11_feed 23 = .ok (.iload 6, 2) := by decide +kernel
theorem dX11_feed_25 : decode cX11_feed 25 = .ok (.bipush 20, 2) := by decide +kernel
theorem dX11_feed_27 : decode cX11_feed 27 = .ok (.if_icmp .ge 86, 3) := by decide +kernel
theorem dX11_feed_30 : decode cX11_feed 30 = .ok (.iload 6, 2) := by decide +kernel
theorem dX11_feed_32 : decode cX11_feed 32 = .ok (.iconst 4, 1) := by decide +kernel
theorem dX11_feed_33 : decode cX11_feed 33 = .ok (.if_icmp .ge 7, 3) := by decide +kernel
theorem dX11_feed_36 : decode cX11_feed 36 = .ok (.iload_n 1, 1) := by decide +kernel
theorem dX11_feed_37 : decode cX11_feed 37 = .ok (.goto 39, 3) := by decide +kernel
theorem dX11_feed_40 : decode cX11_feed 40 = .ok (.iload 6, 2) := by decide +kernel
theorem dX11_feed_42 : decode cX11_feed 42 = .ok (.bipush 8, 2) := by decide +kernel
theorem dX11_feed_44 : decode cX11_feed 44 = .ok (.if_icmp .ge 7, 3) := by decide +kernel
theorem dX11_feed_47 : decode cX11_feed 47 = .ok (.iload_n 2, 1) := by decide +kernel
theorem dX11_feed_48 : decode cX11_feed 48 = .ok (.goto 28, 3) := by decide +kernel
theorem dX11_feed_51 : decode cX11_feed 51 = .ok (.iload 6, 2) := by decide +kernel
theorem dX11_feed_53 : decode cX11_feed 53 = .ok (.bipush 12, 2) := by decide +kernel
theorem dX11_feed_55 : decode cX11_feed 55 = .ok (.if_icmp .ge 7, 3) := by decide +kernel
theorem dX11_feed_58 : decode cX11_feed 58 = .ok (.iload_n 3, 1) := by decide +kernel
theorem dX11_feed_59 : decode cX11_feed 59 = .ok (.goto 17, 3) := by decide +kernel
theorem dX11_feed_62 : decode cX11_feed 62 = .ok (.iload 6, 2) := by decide +kernel
theorem dX11_feed_64 : decode cX11_feed 64 = .ok (.bipush 16, 2) := by decide +kernel
theorem dX11_feed_66 : decode cX11_feed 66 = .ok (.if_icmp .ge 8, 3) := by decide +kernel
theorem dX11_feed_69 : decode cX11_feed 69 = .ok (.iload 4, 2) := by decide +kernel
theorem dX11_feed_71 : decode cX11_feed 71 = .ok (.goto 5, 3) := by decide +kernel
theorem dX11_feed_74 : decode cX11_feed 74 = .ok (.iload 5, 2) := by decide +kernel
theorem dX11_feed_76 : decode cX11_feed 76 = .ok (.istore 7, 2) := by decide +kernel
theorem dX11_feed_78 : decode cX11_feed 78 = .ok (.aload_n 0, 1) := by decide +kernel
theorem dX11_feed_79 : decode cX11_feed 79 = .ok (.getfield 7, 3) := by decide +kernel
theorem dX11_feed_82 : decode cX11_feed 82 = .ok (.aload_n 0, 1) := by decide +kernel
theorem dX11_feed_83 : decode cX11_feed 83 = .ok (.getfield 80, 3) := by decide +kernel
theorem dX11_feed_86 : decode cX11_feed 86 = .ok (.iload 6, 2) := by decide +kernel
theorem dX11_feed_88 : decode cX11_feed 88 = .ok (.iadd, 1) := by decide +kernel
theorem dX11_feed_89 : decode cX11_feed 89 = .ok (.iload 7, 2) := by decide +kernel
theorem dX11_feed_91 : decode cX11_feed 91 = .ok (.bipush 24, 2) := by decide +kernel
theorem dX11_feed_93 : decode cX11_feed 93 = .ok (.bipush 8, 2) := by decide +kernel
theorem dX11_feed_95 : decode cX11_feed 95 = .ok (.iload 6, 2) := by decide +kernel
theorem dX11_feed_97 : decode cX11_feed 97 = .ok (.iconst 4, 1) := by decide +kernel
theorem dX11_feed_98 : decode cX11_feed 98 = .ok (.irem, 1) := by decide +kernel
theorem dX11_feed_99 : decode cX11_feed 99 = .ok (.imul, 1) := by decide +kernel
theorem dX11_feed_100 : decode cX11_feed 100 = .ok (.isub, 1) := by decide +kernel
theorem dX11_feed_101 : decode cX11_feed 101 = .ok (.ishr, 1) := by decide +kernel
theorem dX11_feed_102 : decode cX11_feed 102 = .ok (.sipush 255, 3) := by decide +kernel
theorem dX11_feed_105 : decode cX11_feed 105 = .ok (.iand, 1) := by decide +kernel
theorem dX11_feed_106 : decode cX11_feed 106 = .ok (.iastore, 1) := by decide +kernel
theorem dX11_feed_107 : decode cX11_feed 107 = .ok (.iinc 6 1, 3) := by decide +kernel
theorem dX11_feed_110 : decode cX11_feed 110 = .ok (.goto (-87), 3) := by decide +kernel
theorem dX11_feed_113 : decode cX11_feed 113 = .ok (.aload_n 0, 1) := by decide +kernel
theorem dX11_feed_114 : decode cX11_feed 114 = .ok (.dup, 1) := by decide +kernel
theorem dX11_feed_115 : decode cX11_feed 115 = .ok (.getfield 80, 3) := by decide +kernel
theorem dX11_feed_118 : decode cX11_feed 118 = .ok (.bipush 20, 2) := by decide +kernel
theorem dX11_feed_120 : decode cX11_feed 120 = .ok (.iadd, 1) := by decide +kernel
theorem dX11_feed_121 : decode cX11_feed 121 = .ok (.putfield 80, 3) := by decide +kernel
theorem dX11_feed_124 : decode cX11_feed 124 = .ok (.aload_n 0, 1) := by decide +kernel
theorem dX11_feed_125 : decode cX11_feed 125 = .ok (.getfield 80, 3) := by decide +kernel
theorem dX11_feed_128 : decode cX11_feed 128 = .ok (.ireturn, 1) := by decide +kernel
theorem dX11_isIn_0 : decode cX11_isIn 0 = .ok (.iload_n 0, 1) := by decide +kernel
theorem dX11_isIn_1 : decode cX11_isIn 1 = .ok (.iload_n 1, 1) := by decide +kernel
theorem dX11_isIn_2 : decode cX11_isIn 2 = .ok (.if_icmp .lt 12, 3) := by decide +kernel
theorem dX11_isIn_5 : decode cX11_isIn 5 = .ok (.iload_n 0, 1) := by decide +kernel
theorem dX11_isIn_6 : decode cX11_isIn 6 = .ok (.iload_n 2, 1) := by decide +kernel
theorem dX11_isIn_7 : decode cX11_isIn 7 = .ok (.if_icmp .gt 7, 3) := by decide +kernel
theorem dX11_isIn_10 : decode cX11_isIn 10 = .ok (.iconst 1, 1) := by decide +kernel
theorem dX11_isIn_11 : decode cX11_isIn 11 = .ok (.goto 4, 3) := by decide +kernel
theorem dX11_isIn_14 : decode cX11_isIn 14 = .ok (.iconst 0, 1) := by decide +kernel
theorem dX11_isIn_15 : decode cX11_isIn 15 = .ok (.ireturn, 1) := by decide +kernel
theorem dX11_isOf_0 : decode cX11_isOf 0 = .ok (.iload_n 0, 1) := by decide +kernel
theorem dX11_isOf_1 : decode cX11_isOf 1 = .ok (.iload_n 1, 1) := by decide +kernel
theorem dX11_isOf_2 : decode cX11_isOf 2 = .ok (.ishr, 1) := by decide +kernel
theorem dX11_isOf_3 : decode cX11_isOf 3 = .ok (.iconst 1, 1) := by decide +kernel
theorem dX11_isOf_4 : decode cX11_isOf 4 = .ok (.iand, 1) := by decide +kernel
theorem dX11_isOf_5 : decode cX11_isOf 5 = .ok (.iconst 1, 1) := by decide +kernel
theorem dX11_isOf_6 : decode cX11_isOf 6 = .ok (.if_icmp .ne 7, 3) := by decide +kernel
theorem dX11_isOf_9 : decode cX11_isOf 9 = .ok (.iconst 1, 1) := by decide +kernel
theorem dX11_isOf_10 : decode cX11_isOf 10 = .ok (.goto 4, 3) := by decide +kernel
theorem dX11_isOf_13 : decode cX11_isOf 13 = .ok (.iconst 0, 1) := by decide +kernel
theorem dX11_isOf_14 : decode cX11_isOf 14 = .ok (.ireturn, 1) := by decide +kernel
theorem dX11_wrong_0 : decode cX11_wrong 0 = .ok (.aload_n 0, 1) := by decide +kernel
theorem dX11_wrong_1 : decode cX11_wrong 1 = .ok (.iload_n 1, 1) := by decide +kernel
theorem dX11_wrong_2 : decode cX11_wrong 2 = .ok (.putfield 83, 3) := by decide +kernel
theorem dX11_wrong_5 : decode cX11_wrong 5 = .ok (.aload_n 0, 1) := by decide +kernel
theorem dX11_wrong_6 : decode cX11_wrong 6 = .ok (.aload_n 0, 1) := by decide +kernel
theorem dX11_wrong_7 : decode cX11_wrong 7 = .ok (.getfield 86, 3) := by decide +kernel
theorem dX11_wrong_10 : decode cX11_wrong 10 = .ok (.putfield 16, 3) := by decide +kernel
theorem dX11_wrong_13 : decode cX11_wrong 13 = .ok (.iconst 0, 1) := by decide +kernel
theorem dX11_wrong_14 : decode cX11_wrong 14 = .ok (.ireturn, 1) := by decide +kernel
theorem dX11_wordAt_0 : decode cX11_wordAt 0 = .ok (.iconst 0, 1) := by decide +kernel
theorem dX11_wordAt_1 : decode cX11_wordAt 1 = .ok (.istore_n 3, 1) := by decide +kernel
theorem dX11_wordAt_2 : decode cX11_wordAt 2 = .ok (.iconst 0, 1) := by decide +kernel
theorem dX11_wordAt_3 : decode cX11_wordAt 3 = .ok (.istore 4, 2) := by decide +kernel
theorem dX11_wordAt_5 : decode cX11_wordAt 5 = .ok (.iload 4, 2) := by decide +kernel
theorem dX11_wordAt_7 : decode cX11_wordAt 7 = .ok (.aload_n 0, 1) := by decide +kernel
theorem dX11_wordAt_8 : decode cX11_wordAt 8 = .ok (.getfield 13, 3) := by decide +kernel
theorem dX11_wordAt_11 : decode cX11_wordAt 11 = .ok (.arraylength, 1) := by decide +kernel
theorem dX11_wordAt_12 : decode cX11_wordAt 12 = .ok (.if_icmp .ge 114, 3) := by decide +kernel
theorem dX11_wordAt_15 : decode cX11_wordAt 15 = .ok (.iconst 0, 1) := by decide +kernel
theorem dX11_wordAt_16 : decode cX11_wordAt 16 = .ok (.istore 5, 2) := by decide +kernel
theorem dX11_wordAt_18 : decode cX11_wordAt 18 = .ok (.aload_n 0, 1) := by decide +kernel
theorem dX11_wordAt_19 : decode cX11_wordAt 19 = .ok (.getfield 13, 3) := by decide +kernel
theorem dX11_wordAt_22 : decode cX11_wordAt 22 = .ok (.iload 4, 2) := by decide +kernel
theorem dX11_wordAt_24 : decode cX11_wordAt 24 = .ok (.iload 5, 2) := by decide +kernel
theorem dX11_wordAt_26 : decode cX11_wordAt 26 = .ok (.iadd, 1) := by decide +kernel
theorem dX11_wordAt_27 : decode cX11_wordAt 27 = .ok (.iaload, 1) := by decide +kernel
theorem dX11_wordAt_28 : decode cX11_wordAt 28 = .ok (.bipush 32, 2) := by decide +kernel
theorem dX11_wordAt_30 : decode cX11_wordAt 30 = .ok (.if_icmp .eq 9, 3) := by decide +kernel
theorem dX11_wordAt_33 : decode cX11_wordAt 33 = .ok (.iinc 5 1, 3) := by decide +kernel
theorem dX11_wordAt_36 : decode cX11_wordAt 36 = .ok (.goto (-18), 3) := by decide +kernel
theorem dX11_wordAt_39 : decode cX11_wordAt 39 = .ok (.iload 5, 2) := by decide +kernel
theorem dX11_wordAt_41 : decode cX11_wordAt 41 = .ok (.iload_n 2, 1) := by decide +kernel
theorem dX11_wordAt_42 : decode cX11_wordAt 42 = .ok (.iload_n 1, 1) := by decide +kernel
theorem dX11_wordAt_43 : decode cX11_wordAt 43 = .ok (.isub, 1) := by decide +kernel
theorem dX11_wordAt_44 : decode cX11_wordAt 44 = .ok (.if_icmp .ne 7, 3) := by decide +kernel
theorem dX11_wordAt_47 : decode cX11_wordAt 47 = .ok (.iconst 1, 1) := by decide +kernel
theorem dX11_wordAt_48 : decode cX11_wordAt 48 = .ok (.goto 4, 3) := by decide +kernel
theorem dX11_wordAt_51 : decode cX11_wordAt 51 = .ok (.iconst 0, 1) := by decide +kernel
theorem dX11_wordAt_52 : decode cX11_wordAt 52 = .ok (.istore 6, 2) := by decide +kernel
theorem dX11_wordAt_54 : decode cX11_wordAt 54 = .ok (.iconst 0, 1) := by decide +kernel
theorem dX11_wordAt_55 : decode cX11_wordAt 55 = .ok (.istore 7, 2) := by decide +kernel
theorem dX11_wordAt_57 : decode cX11_wordAt 57 = .ok (.iload 7, 2) := by decide +kernel
theorem dX11_wordAt_59 : decode cX11_wordAt 59 = .ok (.iload 5, 2) := by decide +kernel
theorem dX11_wordAt_61 : decode cX11_wordAt 61 = .ok (.if_icmp .ge 43, 3) := by decide +kernel
theorem dX11_wordAt_64 : decode cX11_wordAt 64 = .ok (.iload 6, 2) := by decide +kernel
theorem dX11_wordAt_66 : decode cX11_wordAt 66 = .ok (.ifCond .eq 38, 3) := by decide +kernel
theorem dX11_wordAt_69 : decode cX11_wordAt 69 = .ok (.aload_n 0, 1) := by decide +kernel
theorem dX11_wordAt_70 : decode cX11_wordAt 70 = .ok (.getfield 13, 3) := by decide +kernel
theorem dX11_wordAt_73 : decode cX11_wordAt 73 = .ok (.iload 4, 2) := by decide +kernel
theorem dX11_wordAt_75 : decode cX11_wordAt 75 = .ok (.iload 7, 2) := by decide +kernel
theorem dX11_wordAt_77 : decode cX11_wordAt 77 = .ok (.iadd, 1) := by decide +kernel
theorem dX11_wordAt_78 : decode cX11_wordAt 78 = .ok (.iaload, 1) := by decide +kernel
theorem dX11_wordAt_79 : decode cX11_wordAt 79 = .ok (.aload_n 0, 1) := by decide +kernel
theorem dX11_wordAt_80 : decode cX11_wordAt 80 = .ok (.getfield 7, 3) := by decide +kernel
theorem dX11_wordAt_83 : decode cX11_wordAt 83 = .ok (.iload_n 1, 1) := by decide +kernel
theorem dX11_wordAt_84 : decode cX11_wordAt 84 = .ok (.iload 7, 2) := by decide +kernel
theorem dX11_wordAt_86 : decode cX11_wordAt 86 = .ok (.iadd, 1) := by decide +kernel
theorem dX11_wordAt_87 : decode cX11_wordAt 87 = .ok (.iaload, 1) := by decide +kernel
theorem dX11_wordAt_88 : decode cX11_wordAt 88 = .ok (.if_icmp .ne 7, 3) := by decide +kernel
theorem dX11_wordAt_91 : decode cX11_wordAt 91 = .ok (.iconst 1, 1) := by decide +kernel
theorem dX11_wordAt_92 : decode cX11_wordAt 92 = .ok (.goto 4, 3) := by decide +kernel
theorem dX11_wordAt_95 : decode cX11_wordAt 95 = .ok (.iconst 0, 1) := by decide +kernel
theorem dX11_wordAt_96 : decode cX11_wordAt 96 = .ok (.istore 6, 2) := by decide +kernel
theorem dX11_wordAt_98 : decode cX11_wordAt 98 = .ok (.iinc 7 1, 3) := by decide +kernel
theorem dX11_wordAt_101 : decode cX11_wordAt 101 = .ok (.goto (-44), 3) := by decide +kernel
theorem dX11_wordAt_104 : decode cX11_wordAt 104 = .ok (.iload 6, 2) := by decide +kernel
theorem dX11_wordAt_106 : decode cX11_wordAt 106 = .ok (.ifCond .eq 5, 3) := by decide +kernel
theorem dX11_wordAt_109 : decode cX11_wordAt 109 = .ok (.iload_n 3, 1) := by decide +kernel
theorem dX11_wordAt_110 : decode cX11_wordAt 110 = .ok (.ireturn, 1) := by decide +kernel
theorem dX11_wordAt_111 : decode cX11_wordAt 111 = .ok (.iload 4, 2) := by decide +kernel
theorem dX11_wordAt_113 : decode cX11_wordAt 113 = .ok (.iload 5, 2) := by decide +kernel
theorem dX11_wordAt_115 : decode cX11_wordAt 115 = .ok (.iconst 1, 1) := by decide +kernel
theorem dX11_wordAt_116 : decode cX11_wordAt 116 = .ok (.iadd, 1) := by decide +kernel
theorem dX11_wordAt_117 : decode cX11_wordAt 117 = .ok (.iadd, 1) := by decide +kernel
theorem dX11_wordAt_118 : decode cX11_wordAt 118 = .ok (.istore 4, 2) := by decide +kernel
theorem dX11_wordAt_120 : decode cX11_wordAt 120 = .ok (.iinc 3 1, 3) := by decide +kernel
theorem dX11_wordAt_123 : decode cX11_wordAt 123 = .ok (.goto (-118), 3) := by decide +kernel
theorem dX11_wordAt_126 : decode cX11_wordAt 126 = .ok (.iconst (-1), 1) := by decide +kernel
theorem dX11_wordAt_127 : decode cX11_wordAt 127 = .ok (.ireturn, 1) := by decide +kernel
theorem dX11_isSmall_0 : decode cX11_isSmall 0 = .ok (.iload_n 1, 1) := by decide +kernel
theorem dX11_isSmall_1 : decode cX11_isSmall 1 = .ok (.aload_n 0, 1) := by decide +kernel
theorem dX11_isSmall_2 : decode cX11_isSmall 2 = .ok (.getfield 89, 3) := by decide +kernel
theorem dX11_isSmall_5 : decode cX11_isSmall 5 = .ok (.if_icmp .ge 29, 3) := by decide +kernel
theorem dX11_isSmall_8 : decode cX11_isSmall 8 = .ok (.aload_n 0, 1) := by decide +kernel
theorem dX11_isSmall_9 : decode cX11_isSmall 9 = .ok (.getfield 7, 3) := by decide +kernel
theorem dX11_isSmall_12 : decode cX11_isSmall 12 = .ok (.iload_n 1, 1) := by decide +kernel
theorem dX11_isSmall_13 : decode cX11_isSmall 13 = .ok (.iaload, 1) := by decide +kernel
theorem dX11_isSmall_14 : decode cX11_isSmall 14 = .ok (.bipush 97, 2) := by decide +kernel
theorem dX11_isSmall_16 : decode cX11_isSmall 16 = .ok (.if_icmp .lt 18, 3) := by decide +kernel
theorem dX11_isSmall_19 : decode cX11_isSmall 19 = .ok (.aload_n 0, 1) := by decide +kernel
theorem dX11_isSmall_20 : decode cX11_isSmall 20 = .ok (.getfield 7, 3) := by decide +kernel
theorem dX11_isSmall_23 : decode cX11_isSmall 23 = .ok (.iload_n 1, 1) := by decide +kernel
theorem dX11_isSmall_24 : decode cX11_isSmall 24 = .ok (.iaload, 1) := by decide +kernel
theorem dX11_isSmall_25 : decode cX11_isSmall 25 = .ok (.bipush 122, 2) := by decide +kernel
theorem dX11_isSmall_27 : decode cX11_isSmall 27 = .ok (.if_icmp .gt 7, 3) := by decide +kernel
theorem dX11_isSmall_30 : decode cX11_isSmall 30 = .ok (.iconst 1, 1) := by decide +kernel
theorem dX11_isSmall_31 : decode cX11_isSmall 31 = .ok (.goto 4, 3) := by decide +kernel
theorem dX11_isSmall_34 : decode cX11_isSmall 34 = .ok (.iconst 0, 1) := by decide +kernel
theorem dX11_isSmall_35 : decode cX11_isSmall 35 = .ok (.ireturn, 1) := by decide +kernel
theorem dX11_isDigit_0 : decode cX11_isDigit 0 = .ok (.iload_n 1, 1) := by decide +kernel
theorem dX11_isDigit_1 : decode cX11_isDigit 1 = .ok (.aload_n 0, 1) := by decide +kernel
theorem dX11_isDigit_2 : decode cX11_isDigit 2 = .ok (.getfield 89, 3) := by decide +kernel
theorem dX11_isDigit_5 : decode cX11_isDigit 5 = .ok (.if_icmp .ge 29, 3) := by decide +kernel
theorem dX11_isDigit_8 : decode cX11_isDigit 8 = .ok (.aload_n 0, 1) := by decide +kernel
theorem dX11_isDigit_9 : decode cX11_isDigit 9 = .ok (.getfield 7, 3) := by decide +kernel
theorem dX11_isDigit_12 : decode cX11_isDigit 12 = .ok (.iload_n 1, 1) := by decide +kernel
theorem dX11_isDigit_13 : decode cX11_isDigit 13 = .ok (.iaload, 1) := by decide +kernel
theorem dX11_isDigit_14 : decode cX11_isDigit 14 = .ok (.bipush 48, 2) := by decide +kernel
theorem dX11_isDigit_16 : decode cX11_isDigit 16 = .ok (.if_icmp .lt 18, 3) := by decide +kernel
theorem dX11_isDigit_19 : decode cX11_isDigit 19 = .ok (.aload_n 0, 1) := by decide +kernel
theorem dX11_isDigit_20 : decode cX11_isDigit 20 = .ok (.getfield 7, 3) := by decide +kernel
theorem dX11_isDigit_23 : decode cX11_isDigit 23 = .ok (.iload_n 1, 1) := by decide +kernel
theorem dX11_isDigit_24 : decode cX11_isDigit 24 = .ok (.iaload, 1) := by decide +kernel
theorem dX11_isDigit_25 : decode cX11_isDigit 25 = .ok (.bipush 57, 2) := by decide +kernel
theorem dX11_isDigit_27 : decode cX11_isDigit 27 = .ok (.if_icmp .gt 7, 3) := by decide +kernel
theorem dX11_isDigit_30 : decode cX11_isDigit 30 = .ok (.iconst 1, 1) := by decide +kernel
theorem dX11_isDigit_31 : decode cX11_isDigit 31 = .ok (.goto 4, 3) := by decide +kernel
theorem dX11_isDigit_34 : decode cX11_isDigit 34 = .ok (.iconst 0, 1) := by decide +kernel
theorem dX11_isDigit_35 : decode cX11_isDigit 35 = .ok (.ireturn, 1) := by decide +kernel
theorem dX11_token_0 : decode cX11_token 0 = .ok (.aload_n 0, 1) := by decide +kernel
theorem dX11_token_1 : decode cX11_token 1 = .ok (.getfield 92, 3) := by decide +kernel
theorem dX11_token_4 : decode cX11_token 4 = .ok (.aload_n 0, 1) := by decide +kernel
theorem dX11_token_5 : decode cX11_token 5 = .ok (.getfield 89, 3) := by decide +kernel
theorem dX11_token_8 : decode cX11_token 8 = .ok (.if_icmp .ge 44, 3) := by decide +kernel
theorem dX11_token_11 : decode cX11_token 11 = .ok (.aload_n 0, 1) := by decide +kernel
theorem dX11_token_12 : decode cX11_token 12 = .ok (.getfield 7, 3) := by decide +kernel
theorem dX11_token_15 : decode cX11_token 15 = .ok (.aload_n 0, 1) := by decide +kernel
theorem dX11_token_16 : decode cX11_token 16 = .ok (.getfield 92, 3) := by decide +kernel
theorem dX11_token_19 : decode cX11_token 19 = .ok (.iaload, 1) := by decide +kernel
theorem dX11_token_20 : decode cX11_token 20 = .ok (.bipush 10, 2) := by decide +kernel
theorem dX11_token_22 : decode cX11_token 22 = .ok (.if_icmp .eq 17, 3) := by decide +kernel
theorem dX11_token_25 : decode cX11_token 25 = .ok (.aload_n 0, 1) := by decide +kernel
theorem dX11_token_26 : decode cX11_token 26 = .ok (.getfield 7, 3) := by decide +kernel
theorem dX11_token_29 : decode cX11_token 29 = .ok (.aload_n 0, 1) := by decide +kernel
theorem dX11_token_30 : decode cX11_token 30 = .ok (.getfield 92, 3) := by decide +kernel
theorem dX11_token_33 : decode cX11_token 33 = .ok (.iaload, 1) := by decide +kernel
theorem dX11_token_34 : decode cX11_token 34 = .ok (.bipush 32, 2) := by decide +kernel
theorem dX11_token_36 : decode cX11_token 36 = .ok (.if_icmp .ne 16, 3) := by decide +kernel
theorem dX11_token_39 : decode cX11_token 39 = .ok (.aload_n 0, 1) := by decide +kernel
theorem dX11_token_40 : decode cX11_token 40 = .ok (.dup, 1) := by decide +kernel
theorem dX11_token_41 : decode cX11_token 41 = .ok (.getfield 92, 3) := by decide +kernel
theorem dX11_token_44 : decode cX11_token 44 = .ok (.iconst 1, 1) := by decide +kernel
theorem dX11_token_45 : decode cX11_token 45 = .ok (.iadd, 1) := by decide +kernel
theorem dX11_token_46 : decode cX11_token 46 = .ok (.putfield 92, 3) := by decide +kernel
theorem dX11_token_49 : decode cX11_token 49 = .ok (.goto (-49), 3) := by decide +kernel
theorem dX11_token_52 : decode cX11_token 52 = .ok (.aload_n 0, 1) := by decide +kernel
theorem dX11_token_53 : decode cX11_token 53 = .ok (.aload_n 0, 1) := by decide +kernel
theorem dX11_token_54 : decode cX11_token 54 = .ok (.getfield 92, 3) := by decide +kernel
theorem dX11_token_57 : decode cX11_token 57 = .ok (.putfield 86, 3) := by decide +kernel
theorem dX11_token_60 : decode cX11_token 60 = .ok (.aload_n 0, 1) := by decide +kernel
theorem dX11_token_61 : decode cX11_token 61 = .ok (.getfield 92, 3) := by decide +kernel
theorem dX11_token_64 : decode cX11_token 64 = .ok (.aload_n 0, 1) := by decide +kernel
theorem dX11_token_65 : decode cX11_token 65 = .ok (.getfield 89, 3) := by decide +kernel
theorem dX11_token_68 : decode cX11_token 68 = .ok (.if_icmp .ne 11, 3) := by decide +kernel
theorem dX11_token_71 : decode cX11_token 71 = .ok (.aload_n 0, 1) := by decide +kernel
theorem dX11_token_72 : decode cX11_token 72 = .ok (.iconst 0, 1) := by decide +kernel
theorem dX11_token_73 : decode cX11_token 73 = .ok (.putfield 95, 3) := by decide +kernel
theorem dX11_token_76 : decode cX11_token 76 = .ok (.goto 205, 3) := by decide +kernel
theorem dX11_token_79 : decode cX11_token 79 = .ok (.aload_n 0, 1) := by decide +kernel
theorem dX11_token_80 : decode cX11_token 80 = .ok (.aload_n 0, 1) := by decide +kernel
theorem dX11_token_81 : decode cX11_token 81 = .ok (.getfield 92, 3) := by decide +kernel
theorem dX11_token_84 : decode cX11_token 84 = .ok (.invokevirtual 98, 3) := by decide +kernel
theorem dX11_token_87 : decode cX11_token 87 = .ok (.ifCond .eq 105, 3) := by decide +kernel
theorem dX11_token_90 : decode cX11_token 90 = .ok (.aload_n 0, 1) := by decide +kernel
theorem dX11_token_91 : decode cX11_token 91 = .ok (.aload_n 0, 1) := by decide +kernel
theorem dX11_token_92 : decode cX11_token 92 = .ok (.getfield 92, 3) := by decide +kernel
theorem dX11_token_95 : decode cX11_token 95 = .ok (.invokevirtual 98, 3) := by decide +kernel
theorem dX11_token_98 : decode cX11_token 98 = .ok (.ifCond .eq 16, 3) := by decide +kernel
theorem dX11_token_101 : decode cX11_token 101 = .ok (.aload_n 0, 1) := by decide +kernel
theorem dX11_token_102 : decode cX11_token 102 = .ok (.dup, 1) := by decide +kernel
theorem dX11_token_103 : decode cX11_token 103 = .ok (.getfield 92, 3) := by decide +kernel
theorem dX11_token_106 : decode cX11_token 106 = .ok (.iconst 1, 1) := by decide +kernel
theorem dX11_token_107 : decode cX11_token 107 = .ok (.iadd, 1) := by decide +kernel
theorem dX11_token_108 : decode cX11_token 108 = .ok (.putfield 92, 3) := by decide +kernel
theorem dX11_token_111 : decode cX11_token 111 = .ok (.goto (-21), 3) := by decide +kernel
theorem dX11_token_114 : decode cX11_token 114 = .ok (.aload_n 0, 1) := by decide +kernel
theorem dX11_token_115 : decode cX11_token 115 = .ok (.aload_n 0, 1) := by decide +kernel
theorem dX11_token_116 : decode cX11_token 116 = .ok (.aload_n 0, 1) := by decide +kernel
theorem dX11_token_117 : decode cX11_token 117 = .ok (.getfield 86, 3) := by decide +kernel
theorem dX11_token_120 : decode cX11_token 120 = .ok (.aload_n 0, 1) := by decide +kernel
theorem dX11_token_121 : decode cX11_token 121 = .ok (.getfield 92, 3) := by decide +kernel
theorem dX11_token_124 : decode cX11_token 124 = .ok (.invokevirtual 102, 3) := by decide +kernel
theorem dX11_token_127 : decode cX11_token 127 = .ok (.putfield 106, 3) := by decide +kernel
theorem dX11_token_130 : decode cX11_token 130 = .ok (.aload_n 0, 1) := by decide +kernel
theorem dX11_token_131 : decode cX11_token 131 = .ok (.aload_n 0, 1) := by decide +kernel
theorem dX11_token_132 : decode cX11_token 132 = .ok (.getfield 106, 3) := by decide +kernel
theorem dX11_token_135 : decode cX11_token 135 = .ok (.ifCond .lt 7, 3) := by decide +kernel
theorem dX11_token_138 : decode cX11_token 138 = .ok (.iconst 1, 1) := by decide +kernel
theorem dX11_token_139 : decode cX11_token 139 = .ok (.goto 23, 3) := by decide +kernel
theorem dX11_token_142 : decode cX11_token 142 = .ok (.aload_n 0, 1) := by decide +kernel
theorem dX11_token_143 : decode cX11_token 143 = .ok (.getfield 92, 3) := by decide +kernel
theorem dX11_token_146 : decode cX11_token 146 = .ok (.aload_n 0, 1) := by decide +kernel
theorem dX11_token_147 : decode cX11_token 147 = .ok (.getfield 86, 3) := by decide +kernel
theorem dX11_token_150 : decode cX11_token 150 = .ok (.isub, 1) := by decide +kernel
theorem dX11_token_151 : decode cX11_token 151 = .ok (.bipush 6, 2) := by decide +kernel
theorem dX11_token_153 : decode cX11_token 153 = .ok (.if_icmp .le 8, 3) := by decide +kernel
theorem dX11_token_156 : decode cX11_token 156 = .ok (.bipush 6, 2) := by decide +kernel
theorem dX11_token_158 : decode cX11_token 158 = .ok (.goto 4, 3) := by decide +kernel
theorem dX11_token_161 : decode cX11_token 161 = .ok (.iconst 2, 1) := by decide +kernel
theorem dX11_token_162 : decode cX11_token 162 = .ok (.putfield 95, 3) := by decide +kernel
theorem dX11_token_165 : decode cX11_token 165 = .ok (.aload_n 0, 1) := by decide +kernel
theorem dX11_token_166 : decode cX11_token 166 = .ok (.getfield 95, 3) := by decide +kernel
theorem dX11_token_169 : decode cX11_token 169 = .ok (.iconst 2, 1) := by decide +kernel
theorem dX11_token_170 : decode cX11_token 170 = .ok (.if_icmp .ne 111, 3) := by decide +kernel
theorem dX11_token_173 : decode cX11_token 173 = .ok (.aload_n 0, 1) := by decide +kernel
theorem dX11_token_174 : decode cX11_token 174 = .ok (.aload_n 0, 1) := by decide +kernel
theorem dX11_token_175 : decode cX11_token 175 = .ok (.aload_n 0, 1) := by decide +kernel
theorem dX11_token_176 : decode cX11_token 176 = .ok (.getfield 86, 3) := by decide +kernel
theorem dX11_token_179 : decode cX11_token 179 = .ok (.aload_n 0, 1) := by decide +kernel
theorem dX11_token_180 : decode cX11_token 180 = .ok (.getfield 92, 3) := by decide +kernel
theorem dX11_token_183 : decode cX11_token 183 = .ok (.invokevirtual 109, 3) := by decide +kernel
theorem dX11_token_186 : decode cX11_token 186 = .ok (.putfield 106, 3) := by decide +kernel
theorem dX11_token_189 : decode cX11_token 189 = .ok (.goto 92, 3) := by decide +kernel
theorem dX11_token_192 : decode cX11_token 192 = .ok (.aload_n 0, 1) := by decide +kernel
theorem dX11_token_193 : decode cX11_token 193 = .ok (.aload_n 0, 1) := by decide +kernel
theorem dX11_token_194 : decode cX11_token 194 = .ok (.getfield 92, 3) := by decide +kernel
theorem dX11_token_197 : decode cX11_token 197 = .ok (.invokevirtual 112, 3) := by decide +kernel
theorem dX11_token_200 : decode cX11_token 200 = .ok (.ifCond .eq 77, 3) := by decide +kernel
theorem dX11_token_203 : decode cX11_token 203 = .ok (.aload_n 0, 1) := by decide +kernel
theorem dX11_token_204 : decode cX11_token 204 = .ok (.iconst 3, 1) := by decide +kernel
theorem dX11_token_205 : decode cX11_token 205 = .ok (.putfield 95, 3) := by decide +kernel
theorem dX11_token_208 : decode cX11_token 208 = .ok (.aload_n 0, 1) := by decide +kernel
theorem dX11_token_209 : decode cX11_token 209 = .ok (.iconst 0, 1) := by decide +kernel
theorem dX11_token_210 : decode cX11_token 210 = .ok (.putfield 106, 3) := by decide +kernel
theorem dX11_token_213 : decode cX11_token 213 = .ok (.aload_n 0, 1) := by decide +kernel
theorem dX11_token_214 : decode cX11_token 214 = .ok (.aload_n 0, 1) := by decide +kernel
theorem dX11_token_215 : decode cX11_token 215 = .ok (.getfield 92, 3) := by decide +kernel
theorem dX11_token_218 : decode cX11_token 218 = .ok (.invokevirtual 112, 3) := by decide +kernel
theorem dX11_token_221 : decode cX11_token 221 = .ok (.ifCond .eq 60, 3) := by decide +kernel
theorem dX11_token_224 : decode cX11_token 224 = .ok (.aload_n 0, 1) := by decide +kernel
theorem dX11_token_225 : decode cX11_token 225 = .ok (.aload_n 0, 1) := by decide +kernel
theorem dX11_token_226 : decode cX11_token 226 = .ok (.getfield 106, 3) := by decide +kernel
theorem dX11_token_229 : decode cX11_token 229 = .ok (.ldc 115, 2) := by decide +kernel
theorem dX11_token_231 : decode cX11_token 231 = .ok (.if_icmp .le 10, 3) := by decide +kernel
theorem dX11_token_234 : decode cX11_token 234 = .ok (.aload_n 0, 1) := by decide +kernel
theorem dX11_token_235 : decode cX11_token 235 = .ok (.getfield 106, 3) := by decide +kernel
theorem dX11_token_238 : decode cX11_token 238 = .ok (.goto 23, 3) := by decide +kernel
theorem dX11_token_241 : decode cX11_token 241 = .ok (.bipush 10, 2) := by decide +kernel
theorem dX11_token_243 : decode cX11_token 243 = .ok (.aload_n 0, 1) := by decide +kernel
theorem dX11_token_244 : decode cX11_token 244 = .ok (.getfield 106, 3) := by decide +kernel
theorem dX11_token_247 : decode cX11_token 247 = .ok (.imul, 1) := by decide +kernel
theorem dX11_token_248 : decode cX11_token 248 = .ok (.aload_n 0, 1) := by decide +kernel
theorem dX11_token_249 : decode cX11_token 249 = .ok (.getfield 7, 3) := by decide +kernel
theorem dX11_token_252 : decode cX11_token 252 = .ok (.aload_n 0, 1) := by decide +kernel
theorem dX11_token_253 : decode cX11_token 253 = .ok (.getfield 92, 3) := by decide +kernel
theorem dX11_token_256 : decode cX11_token 256 = .ok (.iaload, 1) := by decide +kernel
theorem dX11_token_257 : decode cX11_token 257 = .ok (.iadd, 1) := by decide +kernel
theorem dX11_token_258 : decode cX11_token 258 = .ok (.bipush 48, 2) := by decide +kernel
theorem dX11_token_260 : decode cX11_token 260 = .ok (.isub, 1) := by decide +kernel
theorem dX11_token_261 : decode cX11_token 261 = .ok (.putfield 106, 3) := by decide +kernel
theorem dX11_token_264 : decode cX11_token 264 = .ok (.aload_n 0, 1) := by decide +kernel
theorem dX11_token_265 : decode cX11_token 265 = .ok (.dup, 1) := by decide +kernel
theorem dX11_token_266 : decode cX11_token 266 = .ok (.getfield 92, 3) := by decide +kernel
theorem dX11_token_269 : decode cX11_token 269 = .ok (.iconst 1, 1) := by decide +kernel
theorem dX11_token_270 : decode cX11_token 270 = .ok (.iadd, 1) := by decide +kernel
theorem dX11_token_271 : decode cX11_token 271 = .ok (.putfield 92, 3) := by decide +kernel
theorem dX11_token_274 : decode cX11_token 274 = .ok (.goto (-61), 3) := by decide +kernel
theorem dX11_token_277 : decode cX11_token 277 = .ok (.aload_n 0, 1) := by decide +kernel
theorem dX11_token_278 : decode cX11_token 278 = .ok (.invokevirtual 116, 3) := by decide +kernel
theorem dX11_token_281 : decode cX11_token 281 = .ok (.return_, 1) := by decide +kernel
theorem dX11_signToken_0 : decode cX11_signToken 0 = .ok (.aload_n 0, 1) := by decide +kernel
theorem dX11_signToken_1 : decode cX11_signToken 1 = .ok (.aload_n 0, 1) := by decide +kernel
theorem dX11_signToken_2 : decode cX11_signToken 2 = .ok (.getfield 7, 3) := by decide +kernel
theorem dX11_signToken_5 : decode cX11_signToken 5 = .ok (.aload_n 0, 1) := by decide +kernel
theorem dX11_signToken_6 : decode cX11_signToken 6 = .ok (.getfield 92, 3) := by decide +kernel
theorem dX11_signToken_9 : decode cX11_signToken 9 = .ok (.iaload, 1) := by decide +kernel
theorem dX11_signToken_10 : decode cX11_signToken 10 = .ok (.putfield 106, 3) := by decide +kernel
theorem dX11_signToken_13 : decode cX11_signToken 13 = .ok (.aload_n 0, 1) := by decide +kernel
theorem dX11_signToken_14 : decode cX11_signToken 14 = .ok (.dup, 1) := by decide +kernel
theorem dX11_signToken_15 : decode cX11_signToken 15 = .ok (.getfield 92, 3) := by decide +kernel
theorem dX11_signToken_18 : decode cX11_signToken 18 = .ok (.iconst 1, 1) := by decide +kernel
theorem dX11_signToken_19 : decode cX11_signToken 19 = .ok (.iadd, 1) := by decide +kernel
theorem dX11_signToken_20 : decode cX11_signToken 20 = .ok (.putfield 92, 3) := by decide +kernel
theorem dX11_signToken_23 : decode cX11_signToken 23 = .ok (.aload_n 0, 1) := by decide +kernel
theorem dX11_signToken_24 : decode cX11_signToken 24 = .ok (.getfield 106, 3) := by decide +kernel
theorem dX11_signToken_27 : decode cX11_signToken 27 = .ok (.bipush 60, 2) := by decide +kernel
theorem dX11_signToken_29 : decode cX11_signToken 29 = .ok (.if_icmp .eq 21, 3) := by decide +kernel
theorem dX11_signToken_32 : decode cX11_signToken 32 = .ok (.aload_n 0, 1) := by decide +kernel
theorem dX11_signToken_33 : decode cX11_signToken 33 = .ok (.getfield 106, 3) := by decide +kernel
theorem dX11_signToken_36 : decode cX11_signToken 36 = .ok (.bipush 62, 2) := by decide +kernel
theorem dX11_signToken_38 : decode cX11_signToken 38 = .ok (.if_icmp .eq 12, 3) := by decide +kernel
theorem dX11_signToken_41 : decode cX11_signToken 41 = .ok (.aload_n 0, 1) := by decide +kernel
theorem dX11_signToken_42 : decode cX11_signToken 42 = .ok (.getfield 106, 3) := by decide +kernel
theorem dX11_signToken_45 : decode cX11_signToken 45 = .ok (.bipush 61, 2) := by decide +kernel
theorem dX11_signToken_47 : decode cX11_signToken 47 = .ok (.if_icmp .ne 151, 3) := by decide +kernel
theorem dX11_signToken_50 : decode cX11_signToken 50 = .ok (.aload_n 0, 1) := by decide +kernel
theorem dX11_signToken_51 : decode cX11_signToken 51 = .ok (.getfield 92, 3) := by decide +kernel
theorem dX11_signToken_54 : decode cX11_signToken 54 = .ok (.aload_n 0, 1) := by decide +kernel
theorem dX11_signToken_55 : decode cX11_signToken 55 = .ok (.getfield 89, 3) := by decide +kernel
theorem dX11_signToken_58 : decode cX11_signToken 58 = .ok (.if_icmp .ge 15, 3) := by decide +kernel
theorem dX11_signToken_61 : decode cX11_signToken 61 = .ok (.aload_n 0, 1) := by decide +kernel
theorem dX11_signToken_62 : decode cX11_signToken 62 = .ok (.getfield 7, 3) := by decide +kernel
theorem dX11_signToken_65 : decode cX11_signToken 65 = .ok (.aload_n 0, 1) := by decide +kernel
theorem dX11_signToken_66 : decode cX11_signToken 66 = .ok (.getfield 92, 3) := by decide +kernel
theorem dX11_signToken_69 : decode cX11_signToken 69 = .ok (.iaload, 1) := by decide +kernel
theorem dX11_signToken_70 : decode cX11_signToken 70 = .ok (.goto 4, 3) := by decide +kernel
theorem dX11_signToken_73 : decode cX11_signToken 73 = .ok (.iconst 0, 1) := by decide +kernel
theorem dX11_signToken_74 : decode cX11_signToken 74 = .ok (.istore_n 1, 1) := by decide +kernel
theorem dX11_signToken_75 : decode cX11_signToken 75 = .ok (.aload_n 0, 1) := by decide +kernel
theorem dX11_signToken_76 : decode cX11_signToken 76 = .ok (.getfield 106, 3) := by decide +kernel
theorem dX11_signToken_79 : decode cX11_signToken 79 = .ok (.bipush 61, 2) := by decide +kernel
theorem dX11_signToken_81 : decode cX11_signToken 81 = .ok (.if_icmp .eq 13, 3) := by decide +kernel
theorem dX11_signToken_84 : decode cX11_signToken 84 = .ok (.iload_n 1, 1) := by decide +kernel
theorem dX11_signToken_85 : decode cX11_signToken 85 = .ok (.bipush 61, 2) := by decide +kernel
theorem dX11_signToken_87 : decode cX11_signToken 87 = .ok (.if_icmp .ne 7, 3) := by decide +kernel
theorem dX11_signToken_90 : decode cX11_signToken 90 = .ok (.iconst 1, 1) := by decide +kernel
theorem dX11_signToken_91 : decode cX11_signToken 91 = .ok (.goto 4, 3) := by decide +kernel
theorem dX11_signToken_94 : decode cX11_signToken 94 = .ok (.iconst 0, 1) := by decide +kernel
theorem dX11_signToken_95 : decode cX11_signToken 95 = .ok (.istore_n 2, 1) := by decide +kernel
theorem dX11_signToken_96 : decode cX11_signToken 96 = .ok (.aload_n 0, 1) := by decide +kernel
theorem dX11_signToken_97 : decode cX11_signToken 97 = .ok (.getfield 106, 3) := by decide +kernel
theorem dX11_signToken_100 : decode cX11_signToken 100 = .ok (.bipush 60, 2) := by decide +kernel
theorem dX11_signToken_102 : decode cX11_signToken 102 = .ok (.if_icmp .ne 13, 3) := by decide +kernel
theorem dX11_signToken_105 : decode cX11_signToken 105 = .ok (.iload_n 1, 1) := by decide +kernel
theorem dX11_signToken_106 : decode cX11_signToken 106 = .ok (.bipush 62, 2) := by decide +kernel
theorem dX11_signToken_108 : decode cX11_signToken 108 = .ok (.if_icmp .ne 7, 3) := by decide +kernel
theorem dX11_signToken_111 : decode cX11_signToken 111 = .ok (.iconst 1, 1) := by decide +kernel
theorem dX11_signToken_112 : decode cX11_signToken 112 = .ok (.goto 4, 3) := by decide +kernel
theorem dX11_signToken_115 : decode cX11_signToken 115 = .ok (.iconst 0, 1) := by decide +kernel
theorem dX11_signToken_116 : decode cX11_signToken 116 = .ok (.istore_n 3, 1) := by decide +kernel
theorem dX11_signToken_117 : decode cX11_signToken 117 = .ok (.iload_n 2, 1) := by decide +kernel
theorem dX11_signToken_118 : decode cX11_signToken 118 = .ok (.ifCond .ne 7, 3) := by decide +kernel
theorem dX11_signToken_121 : decode cX11_signToken 121 = .ok (.iload_n 3, 1) := by decide +kernel
theorem dX11_signToken_122 : decode cX11_signToken 122 = .ok (.ifCond .eq 13, 3) := by decide +kernel
theorem dX11_signToken_125 : decode cX11_signToken 125 = .ok (.aload_n 0, 1) := by decide +kernel
theorem dX11_signToken_126 : decode cX11_signToken 126 = .ok (.dup, 1) := by decide +kernel
theorem dX11_signToken_127 : decode cX11_signToken 127 = .ok (.getfield 92, 3) := by decide +kernel
theorem dX11_signToken_130 : decode cX11_signToken 130 = .ok (.iconst 1, 1) := by decide +kernel
theorem dX11_signToken_131 : decode cX11_signToken 131 = .ok (.iadd, 1) := by decide +kernel
theorem dX11_signToken_132 : decode cX11_signToken 132 = .ok (.putfield 92, 3) := by decide +kernel
theorem dX11_signToken_135 : decode cX11_signToken 135 = .ok (.aload_n 0, 1) := by decide +kernel
theorem dX11_signToken_136 : decode cX11_signToken 136 = .ok (.iconst 5, 1) := by decide +kernel
theorem dX11_signToken_137 : decode cX11_signToken 137 = .ok (.putfield 95, 3) := by decide +kernel
theorem dX11_signToken_140 : decode cX11_signToken 140 = .ok (.aload_n 0, 1) := by decide +kernel
theorem dX11_signToken_141 : decode cX11_signToken 141 = .ok (.aload_n 0, 1) := by decide +kernel
theorem dX11_signToken_142 : decode cX11_signToken 142 = .ok (.getfield 106, 3) := by decide +kernel
theorem dX11_signToken_145 : decode cX11_signToken 145 = .ok (.bipush 61, 2) := by decide +kernel
theorem dX11_signToken_147 : decode cX11_signToken 147 = .ok (.if_icmp .ne 7, 3) := by decide +kernel
theorem dX11_signToken_150 : decode cX11_signToken 150 = .ok (.iconst 2, 1) := by decide +kernel
theorem dX11_signToken_151 : decode cX11_signToken 151 = .ok (.goto 41, 3) := by decide +kernel
theorem dX11_signToken_154 : decode cX11_signToken 154 = .ok (.aload_n 0, 1) := by decide +kernel
theorem dX11_signToken_155 : decode cX11_signToken 155 = .ok (.getfield 106, 3) := by decide +kernel
theorem dX11_signToken_158 : decode cX11_signToken 158 = .ok (.bipush 60, 2) := by decide +kernel
theorem dX11_signToken_160 : decode cX11_signToken 160 = .ok (.if_icmp .ne 23, 3) := by decide +kernel
theorem dX11_signToken_163 : decode cX11_signToken 163 = .ok (.iload_n 2, 1) := by decide +kernel
theorem dX11_signToken_164 : decode cX11_signToken 164 = .ok (.ifCond .eq 7, 3) := by decide +kernel
theorem dX11_signToken_167 : decode cX11_signToken 167 = .ok (.iconst 1, 1) := by decide +kernel
theorem dX11_signToken_168 : decode cX11_signToken 168 = .ok (.goto 24, 3) := by decide +kernel
theorem dX11_signToken_171 : decode cX11_signToken 171 = .ok (.iload_n 3, 1) := by decide +kernel
theorem dX11_signToken_172 : decode cX11_signToken 172 = .ok (.ifCond .eq 7, 3) := by decide +kernel
theorem dX11_signToken_175 : decode cX11_signToken 175 = .ok (.iconst 3, 1) := by decide +kernel
theorem dX11_signToken_176 : decode cX11_signToken 176 = .ok (.goto 16, 3) := by decide +kernel
theorem dX11_signToken_179 : decode cX11_signToken 179 = .ok (.iconst 0, 1) := by decide +kernel
theorem dX11_signToken_180 : decode cX11_signToken 180 = .ok (.goto 12, 3) := by decide +kernel
theorem dX11_signToken_183 : decode cX11_signToken 183 = .ok (.iload_n 2, 1) := by decide +kernel
theorem dX11_signToken_184 : decode cX11_signToken 184 = .ok (.ifCond .eq 7, 3) := by decide +kernel
theorem dX11_signToken_187 : decode cX11_signToken 187 = .ok (.iconst 4, 1) := by decide +kernel
theorem dX11_signToken_188 : decode cX11_signToken 188 = .ok (.goto 4, 3) := by decide +kernel
theorem dX11_signToken_191 : decode cX11_signToken 191 = .ok (.iconst 5, 1) := by decide +kernel
theorem dX11_signToken_192 : decode cX11_signToken 192 = .ok (.putfield 106, 3) := by decide +kernel
theorem dX11_signToken_195 : decode cX11_signToken 195 = .ok (.goto 95, 3) := by decide +kernel
theorem dX11_signToken_198 : decode cX11_signToken 198 = .ok (.aload_n 0, 1) := by decide +kernel
theorem dX11_signToken_199 : decode cX11_signToken 199 = .ok (.getfield 106, 3) := by decide +kernel
theorem dX11_signToken_202 : decode cX11_signToken 202 = .ok (.bipush 59, 2) := by decide +kernel
theorem dX11_signToken_204 : decode cX11_signToken 204 = .ok (.if_icmp .eq 66, 3) := by decide +kernel
theorem dX11_signToken_207 : decode cX11_signToken 207 = .ok (.aload_n 0, 1) := by decide +kernel
theorem dX11_signToken_208 : decode cX11_signToken 208 = .ok (.getfield 106, 3) := by decide +kernel
theorem dX11_signToken_211 : decode cX11_signToken 211 = .ok (.bipush 40, 2) := by decide +kernel
theorem dX11_signToken_213 : decode cX11_signToken 213 = .ok (.if_icmp .eq 57, 3) := by decide +kernel
theorem dX11_signToken_216 : decode cX11_signToken 216 = .ok (.aload_n 0, 1) := by decide +kernel
theorem dX11_signToken_217 : decode cX11_signToken 217 = .ok (.getfield 106, 3) := by decide +kernel
theorem dX11_signToken_220 : decode cX11_signToken 220 = .ok (.bipush 41, 2) := by decide +kernel
theorem dX11_signToken_222 : decode cX11_signToken 222 = .ok (.if_icmp .eq 48, 3) := by decide +kernel
theorem dX11_signToken_225 : decode cX11_signToken 225 = .ok (.aload_n 0, 1) := by decide +kernel
theorem dX11_signToken_226 : decode cX11_signToken 226 = .ok (.getfield 106, 3) := by decide +kernel
theorem dX11_signToken_229 : decode cX11_signToken 229 = .ok (.bipush 43, 2) := by decide +kernel
theorem dX11_signToken_231 : decode cX11_signToken 231 = .ok (.if_icmp .eq 39, 3) := by decide +kernel
theorem dX11_signToken_234 : decode cX11_signToken 234 = .ok (.aload_n 0, 1) := by decide +kernel
theorem dX11_signToken_235 : decode cX11_signToken 235 = .ok (.getfield 106, 3) := by decide +kernel
theorem dX11_signToken_238 : decode cX11_signToken 238 = .ok (.bipush 45, 2) := by decide +kernel
theorem dX11_signToken_240 : decode cX11_signToken 240 = .ok (.if_icmp .eq 30, 3) := by decide +kernel
theorem dX11_signToken_243 : decode cX11_signToken 243 = .ok (.aload_n 0, 1) := by decide +kernel
theorem dX11_signToken_244 : decode cX11_signToken 244 = .ok (.getfield 106, 3) := by decide +kernel
theorem dX11_signToken_247 : decode cX11_signToken 247 = .ok (.bipush 42, 2) := by decide +kernel
theorem dX11_signToken_249 : decode cX11_signToken 249 = .ok (.if_icmp .eq 21, 3) := by decide +kernel
theorem dX11_signToken_252 : decode cX11_signToken 252 = .ok (.aload_n 0, 1) := by decide +kernel
theorem dX11_signToken_253 : decode cX11_signToken 253 = .ok (.getfield 106, 3) := by decide +kernel
theorem dX11_signToken_256 : decode cX11_signToken 256 = .ok (.bipush 47, 2) := by decide +kernel
theorem dX11_signToken_258 : decode cX11_signToken 258 = .ok (.if_icmp .eq 12, 3) := by decide +kernel
theorem dX11_signToken_261 : decode cX11_signToken 261 = .ok (.aload_n 0, 1) := by decide +kernel
theorem dX11_signToken_262 : decode cX11_signToken 262 = .ok (.getfield 106, 3) := by decide +kernel
theorem dX11_signToken_265 : decode cX11_signToken 265 = .ok (.bipush 37, 2) := by decide +kernel
theorem dX11_signToken_267 : decode cX11_signToken 267 = .ok (.if_icmp .ne 7, 3) := by decide +kernel
theorem dX11_signToken_270 : decode cX11_signToken 270 = .ok (.iconst 1, 1) := by decide +kernel
theorem dX11_signToken_271 : decode cX11_signToken 271 = .ok (.goto 4, 3) := by decide +kernel
theorem dX11_signToken_274 : decode cX11_signToken 274 = .ok (.iconst 0, 1) := by decide +kernel
theorem dX11_signToken_275 : decode cX11_signToken 275 = .ok (.istore_n 1, 1) := by decide +kernel
theorem dX11_signToken_276 : decode cX11_signToken 276 = .ok (.aload_n 0, 1) := by decide +kernel
theorem dX11_signToken_277 : decode cX11_signToken 277 = .ok (.iload_n 1, 1) := by decide +kernel
theorem dX11_signToken_278 : decode cX11_signToken 278 = .ok (.ifCond .eq 7, 3) := by decide +kernel
theorem dX11_signToken_281 : decode cX11_signToken 281 = .ok (.iconst 4, 1) := by decide +kernel
theorem dX11_signToken_282 : decode cX11_signToken 282 = .ok (.goto 5, 3) := by decide +kernel
theorem dX11_signToken_285 : decode cX11_signToken 285 = .ok (.bipush 6, 2) := by decide +kernel
theorem dX11_signToken_287 : decode cX11_signToken 287 = .ok (.putfield 95, 3) := by decide +kernel
theorem dX11_signToken_290 : decode cX11_signToken 290 = .ok (.return_, 1) := by decide +kernel
theorem dX11_packed_0 : decode cX11_packed 0 = .ok (.iconst 0, 1) := by decide +kernel
theorem dX11_packed_1 : decode cX11_packed 1 = .ok (.istore_n 3, 1) := by decide +kernel
theorem dX11_packed_2 : decode cX11_packed 2 = .ok (.iload_n 1, 1) := by decide +kernel
theorem dX11_packed_3 : decode cX11_packed 3 = .ok (.istore 4, 2) := by decide +kernel
theorem dX11_packed_5 : decode cX11_packed 5 = .ok (.iload 4, 2) := by decide +kernel
theorem dX11_packed_7 : decode cX11_packed 7 = .ok (.iload_n 1, 1) := by decide +kernel
theorem dX11_packed_8 : decode cX11_packed 8 = .ok (.bipush 6, 2) := by decide +kernel
theorem dX11_packed_10 : decode cX11_packed 10 = .ok (.iadd, 1) := by decide +kernel
theorem dX11_packed_11 : decode cX11_packed 11 = .ok (.if_icmp .ge 34, 3) := by decide +kernel
theorem dX11_packed_14 : decode cX11_packed 14 = .ok (.iload_n 3, 1) := by decide +kernel
theorem dX11_packed_15 : decode cX11_packed 15 = .ok (.iconst 5, 1) := by decide +kernel
theorem dX11_packed_16 : decode cX11_packed 16 = .ok (.ishl, 1) := by decide +kernel
theorem dX11_packed_17 : decode cX11_packed 17 = .ok (.iload 4, 2) := by decide +kernel
theorem dX11_packed_19 : decode cX11_packed 19 = .ok (.iload_n 2, 1) := by decide +kernel
theorem dX11_packed_20 : decode cX11_packed 20 = .ok (.if_icmp .ge 16, 3) := by decide +kernel
theorem dX11_packed_23 : decode cX11_packed 23 = .ok (.aload_n 0, 1) := by decide +kernel
theorem dX11_packed_24 : decode cX11_packed 24 = .ok (.getfield 7, 3) := by decide +kernel
theorem dX11_packed_27 : decode cX11_packed 27 = .ok (.iload 4, 2) := by decide +kernel
theorem dX11_packed_29 : decode cX11_packed 29 = .ok (.iaload, 1) := by decide +kernel
theorem dX11_packed_30 : decode cX11_packed 30 = .ok (.bipush 96, 2) := by decide +kernel
theorem dX11_packed_32 : decode cX11_packed 32 = .ok (.isub, 1) := by decide +kernel
theorem dX11_packed_33 : decode cX11_packed 33 = .ok (.goto 4, 3) := by decide +kernel
theorem dX11_packed_36 : decode cX11_packed 36 = .ok (.iconst 0, 1) := by decide +kernel
theorem dX11_packed_37 : decode cX11_packed 37 = .ok (.ior, 1) := by decide +kernel
theorem dX11_packed_38 : decode cX11_packed 38 = .ok (.istore_n 3, 1) := by decide +kernel
theorem dX11_packed_39 : decode cX11_packed 39 = .ok (.iinc 4 1, 3) := by decide +kernel
theorem dX11_packed_42 : decode cX11_packed 42 = .ok (.goto (-37), 3) := by decide +kernel
theorem dX11_packed_45 : decode cX11_packed 45 = .ok (.iload_n 3, 1) := by decide +kernel
theorem dX11_packed_46 : decode cX11_packed 46 = .ok (.ireturn, 1) := by decide +kernel
theorem dX11_isSign_0 : decode cX11_isSign 0 = .ok (.aload_n 0, 1) := by decide +kernel
theorem dX11_isSign_1 : decode cX11_isSign 1 = .ok (.getfield 95, 3) := by decide +kernel
theorem dX11_isSign_4 : decode cX11_isSign 4 = .ok (.iconst 4, 1) := by decide +kernel
theorem dX11_isSign_5 : decode cX11_isSign 5 = .ok (.if_icmp .ne 15, 3) := by decide +kernel
theorem dX11_isSign_8 : decode cX11_isSign 8 = .ok (.aload_n 0, 1) := by decide +kernel
theorem dX11_isSign_9 : decode cX11_isSign 9 = .ok (.getfield 106, 3) := by decide +kernel
theorem dX11_isSign_12 : decode cX11_isSign 12 = .ok (.iload_n 1, 1) := by decide +kernel
theorem dX11_isSign_13 : decode cX11_isSign 13 = .ok (.if_icmp .ne 7, 3) := by decide +kernel
theorem dX11_isSign_16 : decode cX11_isSign 16 = .ok (.iconst 1, 1) := by decide +kernel
theorem dX11_isSign_17 : decode cX11_isSign 17 = .ok (.goto 4, 3) := by decide +kernel
theorem dX11_isSign_20 : decode cX11_isSign 20 = .ok (.iconst 0, 1) := by decide +kernel
theorem dX11_isSign_21 : decode cX11_isSign 21 = .ok (.ireturn, 1) := by decide +kernel
theorem dX11_number_0 : decode cX11_number 0 = .ok (.aload_n 0, 1) := by decide +kernel
theorem dX11_number_1 : decode cX11_number 1 = .ok (.getfield 95, 3) := by decide +kernel
theorem dX11_number_4 : decode cX11_number 4 = .ok (.iconst 3, 1) := by decide +kernel
theorem dX11_number_5 : decode cX11_number 5 = .ok (.if_icmp .eq 9, 3) := by decide +kernel
theorem dX11_number_8 : decode cX11_number 8 = .ok (.aload_n 0, 1) := by decide +kernel
theorem dX11_number_9 : decode cX11_number 9 = .ok (.iconst 1, 1) := by decide +kernel
theorem dX11_number_10 : decode cX11_number 10 = .ok (.invokevirtual 119, 3) := by decide +kernel
theorem dX11_number_13 : decode cX11_number 13 = .ok (.ireturn, 1) := by decide +kernel
theorem dX11_number_14 : decode cX11_number 14 = .ok (.aload_n 0, 1) := by decide +kernel
theorem dX11_number_15 : decode cX11_number 15 = .ok (.getfield 106, 3) := by decide +kernel
theorem dX11_number_18 : decode cX11_number 18 = .ok (.iload_n 1, 1) := by decide +kernel
theorem dX11_number_19 : decode cX11_number 19 = .ok (.iload_n 2, 1) := by decide +kernel
theorem dX11_number_20 : decode cX11_number 20 = .ok (.invokestatic 122, 3) := by decide +kernel
theorem dX11_number_23 : decode cX11_number 23 = .ok (.ifCond .ne 9, 3) := by decide +kernel
theorem dX11_number_26 : decode cX11_number 26 = .ok (.aload_n 0, 1) := by decide +kernel
theorem dX11_number_27 : decode cX11_number 27 = .ok (.iconst 2, 1) := by decide +kernel
theorem dX11_number_28 : decode cX11_number 28 = .ok (.invokevirtual 119, 3) := by decide +kernel
theorem dX11_number_31 : decode cX11_number 31 = .ok (.ireturn, 1) := by decide +kernel
theorem dX11_number_32 : decode cX11_number 32 = .ok (.aload_n 0, 1) := by decide +kernel
theorem dX11_number_33 : decode cX11_number 33 = .ok (.aload_n 0, 1) := by decide +kernel
theorem dX11_number_34 : decode cX11_number 34 = .ok (.getfield 106, 3) := by decide +kernel
theorem dX11_number_37 : decode cX11_number 37 = .ok (.putfield 126, 3) := by decide +kernel
theorem dX11_number_40 : decode cX11_number 40 = .ok (.aload_n 0, 1) := by decide +kernel
theorem dX11_number_41 : decode cX11_number 41 = .ok (.invokevirtual 129, 3) := by decide +kernel
theorem dX11_number_44 : decode cX11_number 44 = .ok (.iconst 1, 1) := by decide +kernel
theorem dX11_number_45 : decode cX11_number 45 = .ok (.ireturn, 1) := by decide +kernel
theorem dX11_packedFloat_0 : decode cX11_packedFloat 0 = .ok (.lload_n 0, 1) := by decide +kernel
theorem dX11_packedFloat_1 : decode cX11_packedFloat 1 = .ok (.lconst 0, 1) := by decide +kernel
theorem dX11_packedFloat_2 : decode cX11_packedFloat 2 = .ok (.lcmp, 1) := by decide +kernel
theorem dX11_packedFloat_3 : decode cX11_packedFloat 3 = .ok (.ifCond .ne 5, 3) := by decide +kernel
theorem dX11_packedFloat_6 : decode cX11_packedFloat 6 = .ok (.iconst 0, 1) := by decide +kernel
theorem dX11_packedFloat_7 : decode cX11_packedFloat 7 = .ok (.ireturn, 1) := by decide +kernel
theorem dX11_packedFloat_8 : decode cX11_packedFloat 8 = .ok (.iconst 0, 1) := by decide +kernel
theorem dX11_packedFloat_9 : decode cX11_packedFloat 9 = .ok (.istore_n 3, 1) := by decide +kernel
theorem dX11_packedFloat_10 : decode cX11_packedFloat 10 = .ok (.iload_n 3, 1) := by decide +kernel
theorem dX11_packedFloat_11 : decode cX11_packedFloat 11 = .ok (.bipush 62, 2) := by decide +kernel
theorem dX11_packedFloat_13 : decode cX11_packedFloat 13 = .ok (.if_icmp .ge 17, 3) := by decide +kernel
theorem dX11_packedFloat_16 : decode cX11_packedFloat 16 = .ok (.lload_n 0, 1) := by decide +kernel
theorem dX11_packedFloat_17 : decode cX11_packedFloat 17 = .ok (.iload_n 3, 1) := by decide +kernel
theorem dX11_packedFloat_18 : decode cX11_packedFloat 18 = .ok (.lshr, 1) := by decide +kernel
theorem dX11_packedFloat_19 : decode cX11_packedFloat 19 = .ok (.lconst 0, 1) := by decide +kernel
theorem dX11_packedFloat_20 : decode cX11_packedFloat 20 = .ok (.lcmp, 1) := by decide +kernel
theorem dX11_packedFloat_21 : decode cX11_packedFloat 21 = .ok (.ifCond .le 9, 3) := by decide +kernel
theorem dX11_packedFloat_24 : decode cX11_packedFloat 24 = .ok (.iinc 3 1, 3) := by decide +kernel
theorem dX11_packedFloat_27 : decode cX11_packedFloat 27 = .ok (.goto (-17), 3) := by decide +kernel
theorem dX11_packedFloat_30 : decode cX11_packedFloat 30 = .ok (.lload_n 0, 1) := by decide +kernel
theorem dX11_packedFloat_31 : decode cX11_packedFloat 31 = .ok (.lstore 4, 2) := by decide +kernel
theorem dX11_packedFloat_33 : decode cX11_packedFloat 33 = .ok (.iload_n 3, 1) := by decide +kernel
theorem dX11_packedFloat_34 : decode cX11_packedFloat 34 = .ok (.bipush 24, 2) := by decide +kernel
theorem dX11_packedFloat_36 : decode cX11_packedFloat 36 = .ok (.isub, 1) := by decide +kernel
theorem dX11_packedFloat_37 : decode cX11_packedFloat 37 = .ok (.istore 6, 2) := by decide +kernel
theorem dX11_packedFloat_39 : decode cX11_packedFloat 39 = .ok (.iload_n 2, 1) := by decide +kernel
theorem dX11_packedFloat_40 : decode cX11_packedFloat 40 = .ok (.iload 6, 2) := by decide +kernel
theorem dX11_packedFloat_42 : decode cX11_packedFloat 42 = .ok (.iadd, 1) := by decide +kernel
theorem dX11_packedFloat_43 : decode cX11_packedFloat 43 = .ok (.sipush (-149), 3) := by decide +kernel
theorem dX11_packedFloat_46 : decode cX11_packedFloat 46 = .ok (.if_icmp .ge 10, 3) := by decide +kernel
theorem dX11_packedFloat_49 : decode cX11_packedFloat 49 = .ok (.sipush (-149), 3) := by decide +kernel
theorem dX11_packedFloat_52 : decode cX11_packedFloat 52 = .ok (.iload_n 2, 1) := by decide +kernel
theorem dX11_packedFloat_53 : decode cX11_packedFloat 53 = .ok (.isub, 1) := by decide +kernel
theorem dX11_packedFloat_54 : decode cX11_packedFloat 54 = .ok (.istore 6, 2) := by decide +kernel
theorem dX11_packedFloat_56 : decode cX11_packedFloat 56 = .ok (.iload 6, 2) := by decide +kernel
theorem dX11_packedFloat_58 : decode cX11_packedFloat 58 = .ok (.bipush 62, 2) := by decide +kernel
theorem dX11_packedFloat_60 : decode cX11_packedFloat 60 = .ok (.if_icmp .le 5, 3) := by decide +kernel
theorem dX11_packedFloat_63 : decode cX11_packedFloat 63 = .ok (.iconst 0, 1) := by decide +kernel
theorem dX11_packedFloat_64 : decode cX11_packedFloat 64 = .ok (.ireturn, 1) := by decide +kernel
theorem dX11_packedFloat_65 : decode cX11_packedFloat 65 = .ok (.iload 6, 2) := by decide +kernel
theorem dX11_packedFloat_67 : decode cX11_packedFloat 67 = .ok (.ifCond .gt 13, 3) := by decide +kernel
theorem dX11_packedFloat_70 : decode cX11_packedFloat 70 = .ok (.lload_n 0, 1) := by decide +kernel
theorem dX11_packedFloat_71 : decode cX11_packedFloat 71 = .ok (.iload 6, 2) := by decide +kernel
theorem dX11_packedFloat_73 : decode cX11_packedFloat 73 = .ok (.ineg, 1) := by decide +kernel
theorem dX11_packedFloat_74 : decode cX11_packedFloat 74 = .ok (.lshl, 1) := by decide +kernel
theorem dX11_packedFloat_75 : decode cX11_packedFloat 75 = .ok (.lstore 4, 2) := by decide +kernel
theorem dX11_packedFloat_77 : decode cX11_packedFloat 77 = .ok (.goto 74, 3) := by decide +kernel
theorem dX11_packedFloat_80 : decode cX11_packedFloat 80 = .ok (.lload_n 0, 1) := by decide +kernel
theorem dX11_packedFloat_81 : decode cX11_packedFloat 81 = .ok (.iload 6, 2) := by decide +kernel
theorem dX11_packedFloat_83 : decode cX11_packedFloat 83 = .ok (.lshr, 1) := by decide +kernel
theorem dX11_packedFloat_84 : decode cX11_packedFloat 84 = .ok (.lstore 4, 2) := by decide +kernel
theorem dX11_packedFloat_86 : decode cX11_packedFloat 86 = .ok (.lload_n 0, 1) := by decide +kernel
theorem dX11_packedFloat_87 : decode cX11_packedFloat 87 = .ok (.lload 4, 2) := by decide +kernel
theorem dX11_packedFloat_89 : decode cX11_packedFloat 89 = .ok (.iload 6, 2) := by decide +kernel
theorem dX11_packedFloat_91 : decode cX11_packedFloat 91 = .ok (.lshl, 1) := by decide +kernel
theorem dX11_packedFloat_92 : decode cX11_packedFloat 92 = .ok (.lsub, 1) := by decide +kernel
theorem dX11_packedFloat_93 : decode cX11_packedFloat 93 = .ok (.lstore 7, 2) := by decide +kernel
theorem dX11_packedFloat_95 : decode cX11_packedFloat 95 = .ok (.lconst 1, 1) := by decide +kernel
theorem dX11_packedFloat_96 : decode cX11_packedFloat 96 = .ok (.iload 6, 2) := by decide +kernel
theorem dX11_packedFloat_98 : decode cX11_packedFloat 98 = .ok (.iconst 1, 1) := by decide +kernel
theorem dX11_packedFloat_99 : decode cX11_packedFloat 99 = .ok (.isub, 1) := by decide +kernel
theorem dX11_packedFloat_100 : decode cX11_packedFloat 100 = .ok (.lshl, 1) := by decide +kernel
theorem dX11_packedFloat_101 : decode cX11_packedFloat 101 = .ok (.lstore 9, 2) := by decide +kernel
theorem dX11_packedFloat_103 : decode cX11_packedFloat 103 = .ok (.lload 7, 2) := by decide +kernel
theorem dX11_packedFloat_105 : decode cX11_packedFloat 105 = .ok (.lload 9, 2) := by decide +kernel
theorem dX11_packedFloat_107 : decode cX11_packedFloat 107 = .ok (.lcmp, 1) := by decide +kernel
theorem dX11_packedFloat_108 : decode cX11_packedFloat 108 = .ok (.ifCond .gt 20, 3) := by decide +kernel
theorem dX11_packedFloat_111 : decode cX11_packedFloat 111 = .ok (.lload 7, 2) := by decide +kernel
theorem dX11_packedFloat_113 : decode cX11_packedFloat 113 = .ok (.lload 9, 2) := by decide +kernel
theorem dX11_packedFloat_115 : decode cX11_packedFloat 115 = .ok (.lcmp, 1) := by decide +kernel
theorem dX11_packedFloat_116 : decode cX11_packedFloat 116 = .ok (.ifCond .ne 18, 3) := by decide +kernel
theorem dX11_packedFloat_119 : decode cX11_packedFloat 119 = .ok (.lload 4, 2) := by decide +kernel
theorem dX11_packedFloat_121 : decode cX11_packedFloat 121 = .ok (.lconst 1, 1) := by decide +kernel
theorem dX11_packedFloat_122 : decode cX11_packedFloat 122 = .ok (.land, 1) := by decide +kernel
theorem dX11_packedFloat_123 : decode cX11_packedFloat 123 = .ok (.lconst 1, 1) := by decide +kernel
theorem dX11_packedFloat_124 : decode cX11_packedFloat 124 = .ok (.lcmp, 1) := by decide +kernel
theorem dX11_packedFloat_125 : decode cX11_packedFloat 125 = .ok (.ifCond .ne 9, 3) := by decide +kernel
theorem dX11_packedFloat_128 : decode cX11_packedFloat 128 = .ok (.lload 4, 2) := by decide +kernel
theorem dX11_packedFloat_130 : decode cX11_packedFloat 130 = .ok (.lconst 1, 1) := by decide +kernel
theorem dX11_packedFloat_131 : decode cX11_packedFloat 131 = .ok (.ladd, 1) := by decide +kernel
theorem dX11_packedFloat_132 : decode cX11_packedFloat 132 = .ok (.lstore 4, 2) := by decide +kernel
theorem dX11_packedFloat_134 : decode cX11_packedFloat 134 = .ok (.lload 4, 2) := by decide +kernel
theorem dX11_packedFloat_136 : decode cX11_packedFloat 136 = .ok (.ldc2_w 139, 3) := by decide +kernel
theorem dX11_packedFloat_139 : decode cX11_packedFloat 139 = .ok (.lcmp, 1) := by decide +kernel
theorem dX11_packedFloat_140 : decode cX11_packedFloat 140 = .ok (.ifCond .ne 11, 3) := by decide +kernel
theorem dX11_packedFloat_143 : decode cX11_packedFloat 143 = .ok (.ldc2_w 141, 3) := by decide +kernel
theorem dX11_packedFloat_146 : decode cX11_packedFloat 146 = .ok (.lstore 4, 2) := by decide +kernel
theorem dX11_packedFloat_148 : decode cX11_packedFloat 148 = .ok (.iinc 6 1, 3) := by decide +kernel
theorem dX11_packedFloat_151 : decode cX11_packedFloat 151 = .ok (.lload 4, 2) := by decide +kernel
theorem dX11_packedFloat_153 : decode cX11_packedFloat 153 = .ok (.ldc2_w 141, 3) := by decide +kernel
theorem dX11_packedFloat_156 : decode cX11_packedFloat 156 = .ok (.lcmp, 1) := by decide +kernel
theorem dX11_packedFloat_157 : decode cX11_packedFloat 157 = .ok (.ifCond .ge 7, 3) := by decide +kernel
theorem dX11_packedFloat_160 : decode cX11_packedFloat 160 = .ok (.lload 4, 2) := by decide +kernel
theorem dX11_packedFloat_162 : decode cX11_packedFloat 162 = .ok (.l2i, 1) := by decide +kernel
theorem dX11_packedFloat_163 : decode cX11_packedFloat 163 = .ok (.ireturn, 1) := by decide +kernel
theorem dX11_packedFloat_164 : decode cX11_packedFloat 164 = .ok (.iload_n 2, 1) := by decide +kernel
theorem dX11_packedFloat_165 : decode cX11_packedFloat 165 = .ok (.iload 6, 2) := by decide +kernel
theorem dX11_packedFloat_167 : decode cX11_packedFloat 167 = .ok (.iadd, 1) := by decide +kernel
theorem dX11_packedFloat_168 : decode cX11_packedFloat 168 = .ok (.bipush 104, 2) := by decide +kernel
theorem dX11_packedFloat_170 : decode cX11_packedFloat 170 = .ok (.if_icmp .le 8, 3) := by decide +kernel
theorem dX11_packedFloat_173 : decode cX11_packedFloat 173 = .ok (.ldc 143, 2) := by decide +kernel
theorem dX11_packedFloat_175 : decode cX11_packedFloat 175 = .ok (.goto 22, 3) := by decide +kernel
theorem dX11_packedFloat_178 : decode cX11_packedFloat 178 = .ok (.iload_n 2, 1) := by decide +kernel
theorem dX11_packedFloat_179 : decode cX11_packedFloat 179 = .ok (.iload 6, 2) := by decide +kernel
theorem dX11_packedFloat_181 : decode cX11_packedFloat 181 = .ok (.iadd, 1) := by decide +kernel
theorem dX11_packedFloat_182 : decode cX11_packedFloat 182 = .ok (.sipush 150, 3) := by decide +kernel
theorem dX11_packedFloat_185 : decode cX11_packedFloat 185 = .ok (.iadd, 1) := by decide +kernel
theorem dX11_packedFloat_186 : decode cX11_packedFloat 186 = .ok (.bipush 23, 2) := by decide +kernel
theorem dX11_packedFloat_188 : decode cX11_packedFloat 188 = .ok (.ishl, 1) := by decide +kernel
theorem dX11_packedFloat_189 : decode cX11_packedFloat 189 = .ok (.lload 4, 2) := by decide +kernel
theorem dX11_packedFloat_191 : decode cX11_packedFloat 191 = .ok (.ldc2_w 141, 3) := by decide +kernel
theorem dX11_packedFloat_194 : decode cX11_packedFloat 194 = .ok (.lsub, 1) := by decide +kernel
theorem dX11_packedFloat_195 : decode cX11_packedFloat 195 = .ok (.l2i, 1) := by decide +kernel
theorem dX11_packedFloat_196 : decode cX11_packedFloat 196 = .ok (.ior, 1) := by decide +kernel
theorem dX11_packedFloat_197 : decode cX11_packedFloat 197 = .ok (.ireturn, 1) := by decide +kernel
theorem dX11_wholeOf_0 : decode cX11_wholeOf 0 = .ok (.iload_n 0, 1) := by decide +kernel
theorem dX11_wholeOf_1 : decode cX11_wholeOf 1 = .ok (.ldc 144, 2) := by decide +kernel
theorem dX11_wholeOf_3 : decode cX11_wholeOf 3 = .ok (.iand, 1) := by decide +kernel
theorem dX11_wholeOf_4 : decode cX11_wholeOf 4 = .ok (.iload_n 0, 1) := by decide +kernel
theorem dX11_wholeOf_5 : decode cX11_wholeOf 5 = .ok (.ldc 145, 2) := by decide +kernel
theorem dX11_wholeOf_7 : decode cX11_wholeOf 7 = .ok (.if_icmp .ge 7, 3) := by decide +kernel
theorem dX11_wholeOf_10 : decode cX11_wholeOf 10 = .ok (.iconst 0, 1) := by decide +kernel
theorem dX11_wholeOf_11 : decode cX11_wholeOf 11 = .ok (.goto 5, 3) := by decide +kernel
theorem dX11_wholeOf_14 : decode cX11_wholeOf 14 = .ok (.ldc 145, 2) := by decide +kernel
theorem dX11_wholeOf_16 : decode cX11_wholeOf 16 = .ok (.ior, 1) := by decide +kernel
theorem dX11_wholeOf_17 : decode cX11_wholeOf 17 = .ok (.i2l, 1) := by decide +kernel
theorem dX11_wholeOf_18 : decode cX11_wholeOf 18 = .ok (.lreturn, 1) := by decide +kernel
theorem dX11_powerOf_0 : decode cX11_powerOf 0 = .ok (.iload_n 0, 1) := by decide +kernel
theorem dX11_powerOf_1 : decode cX11_powerOf 1 = .ok (.ldc 145, 2) := by decide +kernel
theorem dX11_powerOf_3 : decode cX11_powerOf 3 = .ok (.if_icmp .ge 9, 3) := by decide +kernel
theorem dX11_powerOf_6 : decode cX11_powerOf 6 = .ok (.sipush (-149), 3) := by decide +kernel
theorem dX11_powerOf_9 : decode cX11_powerOf 9 = .ok (.goto 11, 3) := by decide +kernel
theorem dX11_powerOf_12 : decode cX11_powerOf 12 = .ok (.iload_n 0, 1) := by decide +kernel
theorem dX11_powerOf_13 : decode cX11_powerOf 13 = .ok (.bipush 23, 2) := by decide +kernel
theorem dX11_powerOf_15 : decode cX11_powerOf 15 = .ok (.ishr, 1) := by decide +kernel
theorem dX11_powerOf_16 : decode cX11_powerOf 16 = .ok (.sipush 150, 3) := by decide +kernel
theorem dX11_powerOf_19 : decode cX11_powerOf 19 = .ok (.isub, 1) := by decide +kernel
theorem dX11_powerOf_20 : decode cX11_powerOf 20 = .ok (.ireturn, 1) := by decide +kernel
theorem dX11_shortBy_0 : decode cX11_shortBy 0 = .ok (.iconst 0, 1) := by decide +kernel
theorem dX11_shortBy_1 : decode cX11_shortBy 1 = .ok (.istore_n 1, 1) := by decide +kernel
theorem dX11_shortBy_2 : decode cX11_shortBy 2 = .ok (.iload_n 0, 1) := by decide +kernel
theorem dX11_shortBy_3 : decode cX11_shortBy 3 = .ok (.invokestatic 146, 3) := by decide +kernel
theorem dX11_shortBy_6 : decode cX11_shortBy 6 = .ok (.iload_n 1, 1) := by decide +kernel
theorem dX11_shortBy_7 : decode cX11_shortBy 7 = .ok (.lshl, 1) := by decide +kernel
theorem dX11_shortBy_8 : decode cX11_shortBy 8 = .ok (.ldc2_w 141, 3) := by decide +kernel
theorem dX11_shortBy_11 : decode cX11_shortBy 11 = .ok (.lcmp, 1) := by decide +kernel
theorem dX11_shortBy_12 : decode cX11_shortBy 12 = .ok (.ifCond .ge 9, 3) := by decide +kernel
theorem dX11_shortBy_15 : decode cX11_shortBy 15 = .ok (.iinc 1 1, 3) := by decide +kernel
theorem dX11_shortBy_18 : decode cX11_shortBy 18 = .ok (.goto (-16), 3) := by decide +kernel
theorem dX11_shortBy_21 : decode cX11_shortBy 21 = .ok (.iload_n 1, 1) := by decide +kernel
theorem dX11_shortBy_22 : decode cX11_shortBy 22 = .ok (.ireturn, 1) := by decide +kernel
theorem dX11_floatOf_0 : decode cX11_floatOf 0 = .ok (.iload_n 0, 1) := by decide +kernel
theorem dX11_floatOf_1 : decode cX11_floatOf 1 = .ok (.i2l, 1) := by decide +kernel
theorem dX11_floatOf_2 : decode cX11_floatOf 2 = .ok (.iconst 0, 1) := by decide +kernel
theorem dX11_floatOf_3 : decode cX11_floatOf 3 = .ok (.invokestatic 150, 3) := by decide +kernel
theorem dX11_floatOf_6 : decode cX11_floatOf 6 = .ok (.ireturn, 1) := by decide +kernel
theorem dX11_besides_0 : decode cX11_besides 0 = .ok (.iload_n 1, 1) := by decide +kernel
theorem dX11_besides_1 : decode cX11_besides 1 = .ok (.ifCond .ne 5, 3) := by decide +kernel
theorem dX11_besides_4 : decode cX11_besides 4 = .ok (.lconst 0, 1) := by decide +kernel
theorem dX11_besides_5 : decode cX11_besides 5 = .ok (.lreturn, 1) := by decide +kernel
theorem dX11_besides_6 : decode cX11_besides 6 = .ok (.iload_n 0, 1) := by decide +kernel
theorem dX11_besides_7 : decode cX11_besides 7 = .ok (.invokestatic 154, 3) := by decide +kernel
theorem dX11_besides_10 : decode cX11_besides 10 = .ok (.iload_n 1, 1) := by decide +kernel
theorem dX11_besides_11 : decode cX11_besides 11 = .ok (.invokestatic 154, 3) := by decide +kernel
theorem dX11_besides_14 : decode cX11_besides 14 = .ok (.isub, 1) := by decide +kernel
theorem dX11_besides_15 : decode cX11_besides 15 = .ok (.istore_n 2, 1) := by decide +kernel
theorem dX11_besides_16 : decode cX11_besides 16 = .ok (.iload_n 2, 1) := by decide +kernel
theorem dX11_besides_17 : decode cX11_besides 17 = .ok (.bipush 30, 2) := by decide +kernel
theorem dX11_besides_19 : decode cX11_besides 19 = .ok (.if_icmp .gt 15, 3) := by decide +kernel
theorem dX11_besides_22 : decode cX11_besides 22 = .ok (.iload_n 1, 1) := by decide +kernel
theorem dX11_besides_23 : decode cX11_besides 23 = .ok (.invokestatic 146, 3) := by decide +kernel
theorem dX11_besides_26 : decode cX11_besides 26 = .ok (.bipush 30, 2) := by decide +kernel
theorem dX11_besides_28 : decode cX11_besides 28 = .ok (.iload_n 2, 1) := by decide +kernel
theorem dX11_besides_29 : decode cX11_besides 29 = .ok (.isub, 1) := by decide +kernel
theorem dX11_besides_30 : decode cX11_besides 30 = .ok (.lshl, 1) := by decide +kernel
theorem dX11_besides_31 : decode cX11_besides 31 = .ok (.goto 22, 3) := by decide +kernel
theorem dX11_besides_34 : decode cX11_besides 34 = .ok (.iload_n 2, 1) := by decide +kernel
theorem dX11_besides_35 : decode cX11_besides 35 = .ok (.bipush 54, 2) := by decide +kernel
theorem dX11_besides_37 : decode cX11_besides 37 = .ok (.if_icmp .le 7, 3) := by decide +kernel
theorem dX11_besides_40 : decode cX11_besides 40 = .ok (.lconst 0, 1) := by decide +kernel
theorem dX11_besides_41 : decode cX11_besides 41 = .ok (.goto 12, 3) := by decide +kernel
theorem dX11_besides_44 : decode cX11_besides 44 = .ok (.iload_n 1, 1) := by decide +kernel
theorem dX11_besides_45 : decode cX11_besides 45 = .ok (.invokestatic 146, 3) := by decide +kernel
theorem dX11_besides_48 : decode cX11_besides 48 = .ok (.iload_n 2, 1) := by decide +kernel
theorem dX11_besides_49 : decode cX11_besides 49 = .ok (.bipush 30, 2) := by decide +kernel
theorem dX11_besides_51 : decode cX11_besides 51 = .ok (.isub, 1) := by decide +kernel
theorem dX11_besides_52 : decode cX11_besides 52 = .ok (.lshr, 1) := by decide +kernel
theorem dX11_besides_53 : decode cX11_besides 53 = .ok (.lreturn, 1) := by decide +kernel
theorem dX11_isMore_0 : decode cX11_isMore 0 = .ok (.iload_n 1, 1) := by decide +kernel
theorem dX11_isMore_1 : decode cX11_isMore 1 = .ok (.ifCond .ne 5, 3) := by decide +kernel
theorem dX11_isMore_4 : decode cX11_isMore 4 = .ok (.iconst 0, 1) := by decide +kernel
theorem dX11_isMore_5 : decode cX11_isMore 5 = .ok (.ireturn, 1) := by decide +kernel
theorem dX11_isMore_6 : decode cX11_isMore 6 = .ok (.iload_n 0, 1) := by decide +kernel
theorem dX11_isMore_7 : decode cX11_isMore 7 = .ok (.invokestatic 154, 3) := by decide +kernel
theorem dX11_isMore_10 : decode cX11_isMore 10 = .ok (.iload_n 1, 1) := by decide +kernel
theorem dX11_isMore_11 : decode cX11_isMore 11 = .ok (.invokestatic 154, 3) := by decide +kernel
theorem dX11_isMore_14 : decode cX11_isMore 14 = .ok (.isub, 1) := by decide +kernel
theorem dX11_isMore_15 : decode cX11_isMore 15 = .ok (.bipush 30, 2) := by decide +kernel
theorem dX11_isMore_17 : decode cX11_isMore 17 = .ok (.isub, 1) := by decide +kernel
theorem dX11_isMore_18 : decode cX11_isMore 18 = .ok (.istore_n 2, 1) := by decide +kernel
theorem dX11_isMore_19 : decode cX11_isMore 19 = .ok (.iload_n 2, 1) := by decide +kernel
theorem dX11_isMore_20 : decode cX11_isMore 20 = .ok (.bipush 24, 2) := by decide +kernel
theorem dX11_isMore_22 : decode cX11_isMore 22 = .ok (.if_icmp .gt 23, 3) := by decide +kernel
theorem dX11_isMore_25 : decode cX11_isMore 25 = .ok (.iload_n 2, 1) := by decide +kernel
theorem dX11_isMore_26 : decode cX11_isMore 26 = .ok (.ifCond .le 23, 3) := by decide +kernel
theorem dX11_isMore_29 : decode cX11_isMore 29 = .ok (.iload_n 1, 1) := by decide +kernel
theorem dX11_isMore_30 : decode cX11_isMore 30 = .ok (.invokestatic 146, 3) := by decide +kernel
theorem dX11_isMore_33 : decode cX11_isMore 33 = .ok (.iload_n 2, 1) := by decide +kernel
theorem dX11_isMore_34 : decode cX11_isMore 34 = .ok (.lshr, 1) := by decide +kernel
theorem dX11_isMore_35 : decode cX11_isMore 35 = .ok (.iload_n 2, 1) := by decide +kernel
theorem dX11_isMore_36 : decode cX11_isMore 36 = .ok (.lshl, 1) := by decide +kernel
theorem dX11_isMore_37 : decode cX11_isMore 37 = .ok (.iload_n 1, 1) := by decide +kernel
theorem dX11_isMore_38 : decode cX11_isMore 38 = .ok (.invokestatic 146, 3) := by decide +kernel
theorem dX11_isMore_41 : decode cX11_isMore 41 = .ok (.lcmp, 1) := by decide +kernel
theorem dX11_isMore_42 : decode cX11_isMore 42 = .ok (.ifCond .eq 7, 3) := by decide +kernel
theorem dX11_isMore_45 : decode cX11_isMore 45 = .ok (.iconst 1, 1) := by decide +kernel
theorem dX11_isMore_46 : decode cX11_isMore 46 = .ok (.goto 4, 3) := by decide +kernel
theorem dX11_isMore_49 : decode cX11_isMore 49 = .ok (.iconst 0, 1) := by decide +kernel
theorem dX11_isMore_50 : decode cX11_isMore 50 = .ok (.ireturn, 1) := by decide +kernel
theorem dX11_added_0 : decode cX11_added 0 = .ok (.iload_n 0, 1) := by decide +kernel
theorem dX11_added_1 : decode cX11_added 1 = .ok (.iload_n 1, 1) := by decide +kernel
theorem dX11_added_2 : decode cX11_added 2 = .ok (.if_icmp .le 7, 3) := by decide +kernel
theorem dX11_added_5 : decode cX11_added 5 = .ok (.iload_n 0, 1) := by decide +kernel
theorem dX11_added_6 : decode cX11_added 6 = .ok (.goto 4, 3) := by decide +kernel
theorem dX11_added_9 : decode cX11_added 9 = .ok (.iload_n 1, 1) := by decide +kernel
theorem dX11_added_10 : decode cX11_added 10 = .ok (.istore_n 2, 1) := by decide +kernel
theorem dX11_added_11 : decode cX11_added 11 = .ok (.iload_n 0, 1) := by decide +kernel
theorem dX11_added_12 : decode cX11_added 12 = .ok (.iload_n 1, 1) := by decide +kernel
theorem dX11_added_13 : decode cX11_added 13 = .ok (.if_icmp .le 7, 3) := by decide +kernel
theorem dX11_added_16 : decode cX11_added 16 = .ok (.iload_n 1, 1) := by decide +kernel
theorem dX11_added_17 : decode cX11_added 17 = .ok (.goto 4, 3) := by decide +kernel
theorem dX11_added_20 : decode cX11_added 20 = .ok (.iload_n 0, 1) := by decide +kernel
theorem dX11_added_21 : decode cX11_added 21 = .ok (.istore_n 3, 1) := by decide +kernel
theorem dX11_added_22 : decode cX11_added 22 = .ok (.iload_n 2, 1) := by decide +kernel
theorem dX11_added_23 : decode cX11_added 23 = .ok (.ifCond .ne 5, 3) := by decide +kernel
theorem dX11_added_26 : decode cX11_added 26 = .ok (.iconst 0, 1) := by decide +kernel
theorem dX11_added_27 : decode cX11_added 27 = .ok (.ireturn, 1) := by decide +kernel
theorem dX11_added_28 : decode cX11_added 28 = .ok (.iload_n 2, 1) := by decide +kernel
theorem dX11_added_29 : decode cX11_added 29 = .ok (.invokestatic 146, 3) := by decide +kernel
theorem dX11_added_32 : decode cX11_added 32 = .ok (.bipush 30, 2) := by decide +kernel
theorem dX11_added_34 : decode cX11_added 34 = .ok (.lshl, 1) := by decide +kernel
theorem dX11_added_35 : decode cX11_added 35 = .ok (.iload_n 2, 1) := by decide +kernel
theorem dX11_added_36 : decode cX11_added 36 = .ok (.iload_n 3, 1) := by decide +kernel
theorem dX11_added_37 : decode cX11_added 37 = .ok (.invokestatic 158, 3) := by decide +kernel
theorem dX11_added_40 : decode cX11_added 40 = .ok (.ladd, 1) := by decide +kernel
theorem dX11_added_41 : decode cX11_added 41 = .ok (.lstore 4, 2) := by decide +kernel
theorem dX11_added_43 : decode cX11_added 43 = .ok (.ldc2_w 162, 3) := by decide +kernel
theorem dX11_added_46 : decode cX11_added 46 = .ok (.lload 4, 2) := by decide +kernel
theorem dX11_added_48 : decode cX11_added 48 = .ok (.lmul, 1) := by decide +kernel
theorem dX11_added_49 : decode cX11_added 49 = .ok (.iload_n 2, 1) := by decide +kernel
theorem dX11_added_50 : decode cX11_added 50 = .ok (.iload_n 3, 1) := by decide +kernel
theorem dX11_added_51 : decode cX11_added 51 = .ok (.invokestatic 164, 3) := by decide +kernel
theorem dX11_added_54 : decode cX11_added 54 = .ok (.ifCond .eq 7, 3) := by decide +kernel
theorem dX11_added_57 : decode cX11_added 57 = .ok (.lconst 1, 1) := by decide +kernel
theorem dX11_added_58 : decode cX11_added 58 = .ok (.goto 4, 3) := by decide +kernel
theorem dX11_added_61 : decode cX11_added 61 = .ok (.lconst 0, 1) := by decide +kernel
theorem dX11_added_62 : decode cX11_added 62 = .ok (.ladd, 1) := by decide +kernel
theorem dX11_added_63 : decode cX11_added 63 = .ok (.iload_n 2, 1) := by decide +kernel
theorem dX11_added_64 : decode cX11_added 64 = .ok (.invokestatic 154, 3) := by decide +kernel
theorem dX11_added_67 : decode cX11_added 67 = .ok (.bipush 31, 2) := by decide +kernel
theorem dX11_added_69 : decode cX11_added 69 = .ok (.isub, 1) := by decide +kernel
theorem dX11_added_70 : decode cX11_added 70 = .ok (.invokestatic 150, 3) := by decide +kernel
theorem dX11_added_73 : decode cX11_added 73 = .ok (.ireturn, 1) := by decide +kernel
theorem dX11_apartBy_0 : decode cX11_apartBy 0 = .ok (.iload_n 0, 1) := by decide +kernel
theorem dX11_apartBy_1 : decode cX11_apartBy 1 = .ok (.iload_n 1, 1) := by decide +kernel
theorem dX11_apartBy_2 : decode cX11_apartBy 2 = .ok (.if_icmp .le 7, 3) := by decide +kernel
theorem dX11_apartBy_5 : decode cX11_apartBy 5 = .ok (.iload_n 0, 1) := by decide +kernel
theorem dX11_apartBy_6 : decode cX11_apartBy 6 = .ok (.goto 4, 3) := by decide +kernel
theorem dX11_apartBy_9 : decode cX11_apartBy 9 = .ok (.iload_n 1, 1) := by decide +kernel
theorem dX11_apartBy_10 : decode cX11_apartBy 10 = .ok (.istore_n 2, 1) := by decide +kernel
theorem dX11_apartBy_11 : decode cX11_apartBy 11 = .ok (.iload_n 0, 1) := by decide +kernel
theorem dX11_apartBy_12 : decode cX11_apartBy 12 = .ok (.iload_n 1, 1) := by decide +kernel
theorem dX11_apartBy_13 : decode cX11_apartBy 13 = .ok (.if_icmp .le 7, 3) := by decide +kernel
theorem dX11_apartBy_16 : decode cX11_apartBy 16 = .ok (.iload_n 1, 1) := by decide +kernel
theorem dX11_apartBy_17 : decode cX11_apartBy 17 = .ok (.goto 4, 3) := by decide +kernel
theorem dX11_apartBy_20 : decode cX11_apartBy 20 = .ok (.iload_n 0, 1) := by decide +kernel
theorem dX11_apartBy_21 : decode cX11_apartBy 21 = .ok (.istore_n 3, 1) := by decide +kernel
theorem dX11_apartBy_22 : decode cX11_apartBy 22 = .ok (.iload_n 2, 1) := by decide +kernel
theorem dX11_apartBy_23 : decode cX11_apartBy 23 = .ok (.ifCond .ne 5, 3) := by decide +kernel
theorem dX11_apartBy_26 : decode cX11_apartBy 26 = .ok (.iconst 0, 1) := by decide +kernel
theorem dX11_apartBy_27 : decode cX11_apartBy 27 = .ok (.ireturn, 1) := by decide +kernel
theorem dX11_apartBy_28 : decode cX11_apartBy 28 = .ok (.iload_n 2, 1) := by decide +kernel
theorem dX11_apartBy_29 : decode cX11_apartBy 29 = .ok (.invokestatic 146, 3) := by decide +kernel
theorem dX11_apartBy_32 : decode cX11_apartBy 32 = .ok (.bipush 30, 2) := by decide +kernel
theorem dX11_apartBy_34 : decode cX11_apartBy 34 = .ok (.lshl, 1) := by decide +kernel
theorem dX11_apartBy_35 : decode cX11_apartBy 35 = .ok (.iload_n 2, 1) := by decide +kernel
theorem dX11_apartBy_36 : decode cX11_apartBy 36 = .ok (.iload_n 3, 1) := by decide +kernel
theorem dX11_apartBy_37 : decode cX11_apartBy 37 = .ok (.invokestatic 158, 3) := by decide +kernel
theorem dX11_apartBy_40 : decode cX11_apartBy 40 = .ok (.lsub, 1) := by decide +kernel
theorem dX11_apartBy_41 : decode cX11_apartBy 41 = .ok (.lstore 4, 2) := by decide +kernel
theorem dX11_apartBy_43 : decode cX11_apartBy 43 = .ok (.ldc2_w 162, 3) := by decide +kernel
theorem dX11_apartBy_46 : decode cX11_apartBy 46 = .ok (.lload 4, 2) := by decide +kernel
theorem dX11_apartBy_48 : decode cX11_apartBy 48 = .ok (.lmul, 1) := by decide +kernel
theorem dX11_apartBy_49 : decode cX11_apartBy 49 = .ok (.iload_n 2, 1) := by decide +kernel
theorem dX11_apartBy_50 : decode cX11_apartBy 50 = .ok (.iload_n 3, 1) := by decide +kernel
theorem dX11_apartBy_51 : decode cX11_apartBy 51 = .ok (.invokestatic 164, 3) := by decide +kernel
theorem dX11_apartBy_54 : decode cX11_apartBy 54 = .ok (.ifCond .eq 7, 3) := by decide +kernel
theorem dX11_apartBy_57 : decode cX11_apartBy 57 = .ok (.lconst 1, 1) := by decide +kernel
theorem dX11_apartBy_58 : decode cX11_apartBy 58 = .ok (.goto 4, 3) := by decide +kernel
theorem dX11_apartBy_61 : decode cX11_apartBy 61 = .ok (.lconst 0, 1) := by decide +kernel
theorem dX11_apartBy_62 : decode cX11_apartBy 62 = .ok (.lsub, 1) := by decide +kernel
theorem dX11_apartBy_63 : decode cX11_apartBy 63 = .ok (.iload_n 2, 1) := by decide +kernel
theorem dX11_apartBy_64 : decode cX11_apartBy 64 = .ok (.invokestatic 154, 3) := by decide +kernel
theorem dX11_apartBy_67 : decode cX11_apartBy 67 = .ok (.bipush 31, 2) := by decide +kernel
theorem dX11_apartBy_69 : decode cX11_apartBy 69 = .ok (.isub, 1) := by decide +kernel
theorem dX11_apartBy_70 : decode cX11_apartBy 70 = .ok (.invokestatic 150, 3) := by decide +kernel
theorem dX11_apartBy_73 : decode cX11_apartBy 73 = .ok (.ireturn, 1) := by decide +kernel
theorem dX11_divided_0 : decode cX11_divided 0 = .ok (.iload_n 0, 1) := by decide +kernel
theorem dX11_divided_1 : decode cX11_divided 1 = .ok (.ifCond .ne 5, 3) := by decide +kernel
theorem dX11_divided_4 : decode cX11_divided 4 = .ok (.iconst 0, 1) := by decide +kernel
theorem dX11_divided_5 : decode cX11_divided 5 = .ok (.ireturn, 1) := by decide +kernel
theorem dX11_divided_6 : decode cX11_divided 6 = .ok (.iload_n 0, 1) := by decide +kernel
theorem dX11_divided_7 : decode cX11_divided 7 = .ok (.invokestatic 146, 3) := by decide +kernel
theorem dX11_divided_10 : decode cX11_divided 10 = .ok (.iload_n 0, 1) := by decide +kernel
theorem dX11_divided_11 : decode cX11_divided 11 = .ok (.invokestatic 167, 3) := by decide +kernel
theorem dX11_divided_14 : decode cX11_divided 14 = .ok (.lshl, 1) := by decide +kernel
theorem dX11_divided_15 : decode cX11_divided 15 = .ok (.lstore_n 2, 1) := by decide +kernel
theorem dX11_divided_16 : decode cX11_divided 16 = .ok (.iload_n 1, 1) := by decide +kernel
theorem dX11_divided_17 : decode cX11_divided 17 = .ok (.invokestatic 146, 3) := by decide +kernel
theorem dX11_divided_20 : decode cX11_divided 20 = .ok (.iload_n 1, 1) := by decide +kernel
theorem dX11_divided_21 : decode cX11_divided 21 = .ok (.invokestatic 167, 3) := by decide +kernel
theorem dX11_divided_24 : decode cX11_divided 24 = .ok (.lshl, 1) := by decide +kernel
theorem dX11_divided_25 : decode cX11_divided 25 = .ok (.lstore 4, 2) := by decide +kernel
theorem dX11_divided_27 : decode cX11_divided 27 = .ok (.lload_n 2, 1) := by decide +kernel
theorem dX11_divided_28 : decode cX11_divided 28 = .ok (.bipush 38, 2) := by decide +kernel
theorem dX11_divided_30 : decode cX11_divided 30 = .ok (.lshl, 1) := by decide +kernel
theorem dX11_divided_31 : decode cX11_divided 31 = .ok (.lload 4, 2) := by decide +kernel
theorem dX11_divided_33 : decode cX11_divided 33 = .ok (.ldiv, 1) := by decide +kernel
theorem dX11_divided_34 : decode cX11_divided 34 = .ok (.lstore 6, 2) := by decide +kernel
theorem dX11_divided_36 : decode cX11_divided 36 = .ok (.lload 6, 2) := by decide +kernel
theorem dX11_divided_38 : decode cX11_divided 38 = .ok (.lload 4, 2) := by decide +kernel
theorem dX11_divided_40 : decode cX11_divided 40 = .ok (.lmul, 1) := by decide +kernel
theorem dX11_divided_41 : decode cX11_divided 41 = .ok (.lload_n 2, 1) := by decide +kernel
theorem dX11_divided_42 : decode cX11_divided 42 = .ok (.bipush 38, 2) := by decide +kernel
theorem dX11_divided_44 : decode cX11_divided 44 = .ok (.lshl, 1) := by decide +kernel
theorem dX11_divided_45 : decode cX11_divided 45 = .ok (.lcmp, 1) := by decide +kernel
theorem dX11_divided_46 : decode cX11_divided 46 = .ok (.ifCond .ne 7, 3) := by decide +kernel
theorem dX11_divided_49 : decode cX11_divided 49 = .ok (.lconst 0, 1) := by decide +kernel
theorem dX11_divided_50 : decode cX11_divided 50 = .ok (.goto 4, 3) := by decide +kernel
theorem dX11_divided_53 : decode cX11_divided 53 = .ok (.lconst 1, 1) := by decide +kernel
theorem dX11_divided_54 : decode cX11_divided 54 = .ok (.lstore 8, 2) := by decide +kernel
theorem dX11_divided_56 : decode cX11_divided 56 = .ok (.ldc2_w 162, 3) := by decide +kernel
theorem dX11_divided_59 : decode cX11_divided 59 = .ok (.lload 6, 2) := by decide +kernel
theorem dX11_divided_61 : decode cX11_divided 61 = .ok (.lmul, 1) := by decide +kernel
theorem dX11_divided_62 : decode cX11_divided 62 = .ok (.lload 8, 2) := by decide +kernel
theorem dX11_divided_64 : decode cX11_divided 64 = .ok (.ladd, 1) := by decide +kernel
theorem dX11_divided_65 : decode cX11_divided 65 = .ok (.iload_n 0, 1) := by decide +kernel
theorem dX11_divided_66 : decode cX11_divided 66 = .ok (.invokestatic 154, 3) := by decide +kernel
theorem dX11_divided_69 : decode cX11_divided 69 = .ok (.iload_n 0, 1) := by decide +kernel
theorem dX11_divided_70 : decode cX11_divided 70 = .ok (.invokestatic 167, 3) := by decide +kernel
theorem dX11_divided_73 : decode cX11_divided 73 = .ok (.isub, 1) := by decide +kernel
theorem dX11_divided_74 : decode cX11_divided 74 = .ok (.iload_n 1, 1) := by decide +kernel
theorem dX11_divided_75 : decode cX11_divided 75 = .ok (.invokestatic 154, 3) := by decide +kernel
theorem dX11_divided_78 : decode cX11_divided 78 = .ok (.isub, 1) := by decide +kernel
theorem dX11_divided_79 : decode cX11_divided 79 = .ok (.iload_n 1, 1) := by decide +kernel
theorem dX11_divided_80 : decode cX11_divided 80 = .ok (.invokestatic 167, 3) := by decide +kernel
theorem dX11_divided_83 : decode cX11_divided 83 = .ok (.iadd, 1) := by decide +kernel
theorem dX11_divided_84 : decode cX11_divided 84 = .ok (.bipush 39, 2) := by decide +kernel
theorem dX11_divided_86 : decode cX11_divided 86 = .ok (.isub, 1) := by decide +kernel
theorem dX11_divided_87 : decode cX11_divided 87 = .ok (.invokestatic 150, 3) := by decide +kernel
theorem dX11_divided_90 : decode cX11_divided 90 = .ok (.ireturn, 1) := by decide +kernel
theorem dX11_keyOf_0 : decode cX11_keyOf 0 = .ok (.iload_n 0, 1) := by decide +kernel
theorem dX11_keyOf_1 : decode cX11_keyOf 1 = .ok (.ifCond .ne 7, 3) := by decide +kernel
theorem dX11_keyOf_4 : decode cX11_keyOf 4 = .ok (.iconst 0, 1) := by decide +kernel
theorem dX11_keyOf_5 : decode cX11_keyOf 5 = .ok (.goto 14, 3) := by decide +kernel
theorem dX11_keyOf_8 : decode cX11_keyOf 8 = .ok (.iload_n 0, 1) := by decide +kernel
theorem dX11_keyOf_9 : decode cX11_keyOf 9 = .ok (.invokestatic 170, 3) := by decide +kernel
theorem dX11_keyOf_12 : decode cX11_keyOf 12 = .ok (.iload_n 1, 1) := by decide +kernel
theorem dX11_keyOf_13 : decode cX11_keyOf 13 = .ok (.invokestatic 170, 3) := by decide +kernel
theorem dX11_keyOf_16 : decode cX11_keyOf 16 = .ok (.invokestatic 173, 3) := by decide +kernel
theorem dX11_keyOf_19 : decode cX11_keyOf 19 = .ok (.ireturn, 1) := by decide +kernel
theorem dX11_isKeyTold_0 : decode cX11_isKeyTold 0 = .ok (.iload_n 0, 1) := by decide +kernel
theorem dX11_isKeyTold_1 : decode cX11_isKeyTold 1 = .ok (.iconst 0, 1) := by decide +kernel
theorem dX11_isKeyTold_2 : decode cX11_isKeyTold 2 = .ok (.ldc 115, 2) := by decide +kernel
theorem dX11_isKeyTold_4 : decode cX11_isKeyTold 4 = .ok (.invokestatic 122, 3) := by decide +kernel
theorem dX11_isKeyTold_7 : decode cX11_isKeyTold 7 = .ok (.ifCond .eq 18, 3) := by decide +kernel
theorem dX11_isKeyTold_10 : decode cX11_isKeyTold 10 = .ok (.iload_n 1, 1) := by decide +kernel
theorem dX11_isKeyTold_11 : decode cX11_isKeyTold 11 = .ok (.iconst 1, 1) := by decide +kernel
theorem dX11_isKeyTold_12 : decode cX11_isKeyTold 12 = .ok (.sipush 9999, 3) := by decide +kernel
theorem dX11_isKeyTold_15 : decode cX11_isKeyTold 15 = .ok (.invokestatic 122, 3) := by decide +kernel
theorem dX11_isKeyTold_18 : decode cX11_isKeyTold 18 = .ok (.ifCond .eq 7, 3) := by decide +kernel
theorem dX11_isKeyTold_21 : decode cX11_isKeyTold 21 = .ok (.iconst 1, 1) := by decide +kernel
theorem dX11_isKeyTold_22 : decode cX11_isKeyTold 22 = .ok (.goto 4, 3) := by decide +kernel
theorem dX11_isKeyTold_25 : decode cX11_isKeyTold 25 = .ok (.iconst 0, 1) := by decide +kernel
theorem dX11_isKeyTold_26 : decode cX11_isKeyTold 26 = .ok (.ireturn, 1) := by decide +kernel
theorem dX11_keyByOne_0 : decode cX11_keyByOne 0 = .ok (.iload_n 0, 1) := by decide +kernel
theorem dX11_keyByOne_1 : decode cX11_keyByOne 1 = .ok (.ifCond .lt 21, 3) := by decide +kernel
theorem dX11_keyByOne_4 : decode cX11_keyByOne 4 = .ok (.iload_n 0, 1) := by decide +kernel
theorem dX11_keyByOne_5 : decode cX11_keyByOne 5 = .ok (.sipush 10000, 3) := by decide +kernel
theorem dX11_keyByOne_8 : decode cX11_keyByOne 8 = .ok (.idiv, 1) := by decide +kernel
theorem dX11_keyByOne_9 : decode cX11_keyByOne 9 = .ok (.ldc 176, 2) := by decide +kernel
theorem dX11_keyByOne_11 : decode cX11_keyByOne 11 = .ok (.if_icmp .gt 11, 3) := by decide +kernel
theorem dX11_keyByOne_14 : decode cX11_keyByOne 14 = .ok (.iload_n 0, 1) := by decide +kernel
theorem dX11_keyByOne_15 : decode cX11_keyByOne 15 = .ok (.sipush 10000, 3) := by decide +kernel
theorem dX11_keyByOne_18 : decode cX11_keyByOne 18 = .ok (.irem, 1) := by decide +kernel
theorem dX11_keyByOne_19 : decode cX11_keyByOne 19 = .ok (.ifCond .ne 5, 3) := by decide +kernel
theorem dX11_keyByOne_22 : decode cX11_keyByOne 22 = .ok (.iconst (-1), 1) := by decide +kernel
theorem dX11_keyByOne_23 : decode cX11_keyByOne 23 = .ok (.ireturn, 1) := by decide +kernel
theorem dX11_keyByOne_24 : decode cX11_keyByOne 24 = .ok (.iload_n 0, 1) := by decide +kernel
theorem dX11_keyByOne_25 : decode cX11_keyByOne 25 = .ok (.sipush 10000, 3) := by decide +kernel
theorem dX11_keyByOne_28 : decode cX11_keyByOne 28 = .ok (.idiv, 1) := by decide +kernel
theorem dX11_keyByOne_29 : decode cX11_keyByOne 29 = .ok (.iload_n 0, 1) := by decide +kernel
theorem dX11_keyByOne_30 : decode cX11_keyByOne 30 = .ok (.sipush 10000, 3) := by decide +kernel
theorem dX11_keyByOne_33 : decode cX11_keyByOne 33 = .ok (.irem, 1) := by decide +kernel
theorem dX11_keyByOne_34 : decode cX11_keyByOne 34 = .ok (.invokestatic 177, 3) := by decide +kernel
theorem dX11_keyByOne_37 : decode cX11_keyByOne 37 = .ok (.ireturn, 1) := by decide +kernel
theorem dX11_plain_0 : decode cX11_plain 0 = .ok (.aload_n 0, 1) := by decide +kernel
theorem dX11_plain_1 : decode cX11_plain 1 = .ok (.iconst 0, 1) := by decide +kernel
theorem dX11_plain_2 : decode cX11_plain 2 = .ok (.putfield 180, 3) := by decide +kernel
theorem dX11_plain_5 : decode cX11_plain 5 = .ok (.aload_n 0, 1) := by decide +kernel
theorem dX11_plain_6 : decode cX11_plain 6 = .ok (.iconst 0, 1) := by decide +kernel
theorem dX11_plain_7 : decode cX11_plain 7 = .ok (.putfield 183, 3) := by decide +kernel
theorem dX11_plain_10 : decode cX11_plain 10 = .ok (.aload_n 0, 1) := by decide +kernel
theorem dX11_plain_11 : decode cX11_plain 11 = .ok (.iconst 0, 1) := by decide +kernel
theorem dX11_plain_12 : decode cX11_plain 12 = .ok (.putfield 186, 3) := by decide +kernel
theorem dX11_plain_15 : decode cX11_plain 15 = .ok (.return_, 1) := by decide +kernel
theorem dX11_copies_0 : decode cX11_copies 0 = .ok (.iconst 0, 1) := by decide +kernel
theorem dX11_copies_1 : decode cX11_copies 1 = .ok (.istore_n 2, 1) := by decide +kernel
theorem dX11_copies_2 : decode cX11_copies 2 = .ok (.iload_n 2, 1) := by decide +kernel
theorem dX11_copies_3 : decode cX11_copies 3 = .ok (.iload_n 1, 1) := by decide +kernel
theorem dX11_copies_4 : decode cX11_copies 4 = .ok (.if_icmp .ge 17, 3) := by decide +kernel
theorem dX11_copies_7 : decode cX11_copies 7 = .ok (.aload_n 0, 1) := by decide +kernel
theorem dX11_copies_8 : decode cX11_copies 8 = .ok (.iload_n 2, 1) := by decide +kernel
theorem dX11_copies_9 : decode cX11_copies 9 = .ok (.aload_n 0, 1) := by decide +kernel
theorem dX11_copies_10 : decode cX11_copies 10 = .ok (.iload_n 1, 1) := by decide +kernel
theorem dX11_copies_11 : decode cX11_copies 11 = .ok (.iload_n 2, 1) := by decide +kernel
theorem dX11_copies_12 : decode cX11_copies 12 = .ok (.iadd, 1) := by decide +kernel
theorem dX11_copies_13 : decode cX11_copies 13 = .ok (.iaload, 1) := by decide +kernel
theorem dX11_copies_14 : decode cX11_copies 14 = .ok (.iastore, 1) := by decide +kernel
theorem dX11_copies_15 : decode cX11_copies 15 = .ok (.iinc 2 1, 3) := by decide +kernel
theorem dX11_copies_18 : decode cX11_copies 18 = .ok (.goto (-16), 3) := by decide +kernel
theorem dX11_copies_21 : decode cX11_copies 21 = .ok (.return_, 1) := by decide +kernel
theorem dX11_keepText_0 : decode cX11_keepText 0 = .ok (.aload_n 0, 1) := by decide +kernel
theorem dX11_keepText_1 : decode cX11_keepText 1 = .ok (.aload_n 0, 1) := by decide +kernel
theorem dX11_keepText_2 : decode cX11_keepText 2 = .ok (.getfield 180, 3) := by decide +kernel
theorem dX11_keepText_5 : decode cX11_keepText 5 = .ok (.putfield 189, 3) := by decide +kernel
theorem dX11_keepText_8 : decode cX11_keepText 8 = .ok (.aload_n 0, 1) := by decide +kernel
theorem dX11_keepText_9 : decode cX11_keepText 9 = .ok (.aload_n 0, 1) := by decide +kernel
theorem dX11_keepText_10 : decode cX11_keepText 10 = .ok (.getfield 183, 3) := by decide +kernel
theorem dX11_keepText_13 : decode cX11_keepText 13 = .ok (.putfield 192, 3) := by decide +kernel
theorem dX11_keepText_16 : decode cX11_keepText 16 = .ok (.aload_n 0, 1) := by decide +kernel
theorem dX11_keepText_17 : decode cX11_keepText 17 = .ok (.aload_n 0, 1) := by decide +kernel
theorem dX11_keepText_18 : decode cX11_keepText 18 = .ok (.getfield 186, 3) := by decide +kernel
theorem dX11_keepText_21 : decode cX11_keepText 21 = .ok (.putfield 195, 3) := by decide +kernel
theorem dX11_keepText_24 : decode cX11_keepText 24 = .ok (.aload_n 0, 1) := by decide +kernel
theorem dX11_keepText_25 : decode cX11_keepText 25 = .ok (.getfield 20, 3) := by decide +kernel
theorem dX11_keepText_28 : decode cX11_keepText 28 = .ok (.iconst 5, 1) := by decide +kernel
theorem dX11_keepText_29 : decode cX11_keepText 29 = .ok (.invokestatic 198, 3) := by decide +kernel
theorem dX11_keepText_32 : decode cX11_keepText 32 = .ok (.aload_n 0, 1) := by decide +kernel
theorem dX11_keepText_33 : decode cX11_keepText 33 = .ok (.getfield 23, 3) := by decide +kernel
theorem dX11_keepText_36 : decode cX11_keepText 36 = .ok (.bipush 16, 2) := by decide +kernel
theorem dX11_keepText_38 : decode cX11_keepText 38 = .ok (.invokestatic 198, 3) := by decide +kernel
theorem dX11_keepText_41 : decode cX11_keepText 41 = .ok (.aload_n 0, 1) := by decide +kernel
theorem dX11_keepText_42 : decode cX11_keepText 42 = .ok (.getfield 26, 3) := by decide +kernel
theorem dX11_keepText_45 : decode cX11_keepText 45 = .ok (.bipush 16, 2) := by decide +kernel
theorem dX11_keepText_47 : decode cX11_keepText 47 = .ok (.invokestatic 198, 3) := by decide +kernel
theorem dX11_keepText_50 : decode cX11_keepText 50 = .ok (.aload_n 0, 1) := by decide +kernel
theorem dX11_keepText_51 : decode cX11_keepText 51 = .ok (.getfield 29, 3) := by decide +kernel
theorem dX11_keepText_54 : decode cX11_keepText 54 = .ok (.bipush 24, 2) := by decide +kernel
theorem dX11_keepText_56 : decode cX11_keepText 56 = .ok (.invokestatic 198, 3) := by decide +kernel
theorem dX11_keepText_59 : decode cX11_keepText 59 = .ok (.aload_n 0, 1) := by decide +kernel
theorem dX11_keepText_60 : decode cX11_keepText 60 = .ok (.getfield 32, 3) := by decide +kernel
theorem dX11_keepText_63 : decode cX11_keepText 63 = .ok (.bipush 24, 2) := by decide +kernel
theorem dX11_keepText_65 : decode cX11_keepText 65 = .ok (.invokestatic 198, 3) := by decide +kernel
theorem dX11_keepText_68 : decode cX11_keepText 68 = .ok (.aload_n 0, 1) := by decide +kernel
theorem dX11_keepText_69 : decode cX11_keepText 69 = .ok (.getfield 35, 3) := by decide +kernel
theorem dX11_keepText_72 : decode cX11_keepText 72 = .ok (.bipush 24, 2) := by decide +kernel
theorem dX11_keepText_74 : decode cX11_keepText 74 = .ok (.invokestatic 198, 3) := by decide +kernel
theorem dX11_keepText_77 : decode cX11_keepText 77 = .ok (.aload_n 0, 1) := by decide +kernel
theorem dX11_keepText_78 : decode cX11_keepText 78 = .ok (.getfield 38, 3) := by decide +kernel
theorem dX11_keepText_81 : decode cX11_keepText 81 = .ok (.bipush 24, 2) := by decide +kernel
theorem dX11_keepText_83 : decode cX11_keepText 83 = .ok (.invokestatic 198, 3) := by decide +kernel
theorem dX11_keepText_86 : decode cX11_keepText 86 = .ok (.aload_n 0, 1) := by decide +kernel
theorem dX11_keepText_87 : decode cX11_keepText 87 = .ok (.getfield 41, 3) := by decide +kernel
theorem dX11_keepText_90 : decode cX11_keepText 90 = .ok (.bipush 24, 2) := by decide +kernel
theorem dX11_keepText_92 : decode cX11_keepText 92 = .ok (.invokestatic 198, 3) := by decide +kernel
theorem dX11_keepText_95 : decode cX11_keepText 95 = .ok (.aload_n 0, 1) := by decide +kernel
theorem dX11_keepText_96 : decode cX11_keepText 96 = .ok (.iconst 0, 1) := by decide +kernel
theorem dX11_keepText_97 : decode cX11_keepText 97 = .ok (.putfield 202, 3) := by decide +kernel
theorem dX11_keepText_100 : decode cX11_keepText 100 = .ok (.aload_n 0, 1) := by decide +kernel
theorem dX11_keepText_101 : decode cX11_keepText 101 = .ok (.invokevirtual 205, 3) := by decide +kernel
theorem dX11_keepText_104 : decode cX11_keepText 104 = .ok (.aload_n 0, 1) := by decide +kernel
theorem dX11_keepText_105 : decode cX11_keepText 105 = .ok (.iconst 0, 1) := by decide +kernel
theorem dX11_keepText_106 : decode cX11_keepText 106 = .ok (.putfield 208, 3) := by decide +kernel
theorem dX11_keepText_109 : decode cX11_keepText 109 = .ok (.return_, 1) := by decide +kernel
theorem dX11_find_0 : decode cX11_find 0 = .ok (.iconst 0, 1) := by decide +kernel
theorem dX11_find_1 : decode cX11_find 1 = .ok (.istore 4, 2) := by decide +kernel
theorem dX11_find_3 : decode cX11_find 3 = .ok (.iload 4, 2) := by decide +kernel
theorem dX11_find_5 : decode cX11_find 5 = .ok (.iload_n 2, 1) := by decide +kernel
theorem dX11_find_6 : decode cX11_find 6 = .ok (.if_icmp .ge 22, 3) := by decide +kernel
theorem dX11_find_9 : decode cX11_find 9 = .ok (.aload_n 0, 1) := by decide +kernel
theorem dX11_find_10 : decode cX11_find 10 = .ok (.iload_n 1, 1) := by decide +kernel
theorem dX11_find_11 : decode cX11_find 11 = .ok (.iload 4, 2) := by decide +kernel
theorem dX11_find_13 : decode cX11_find 13 = .ok (.iadd, 1) := by decide +kernel
theorem dX11_find_14 : decode cX11_find 14 = .ok (.iaload, 1) := by decide +kernel
theorem dX11_find_15 : decode cX11_find 15 = .ok (.iload_n 3, 1) := by decide +kernel
theorem dX11_find_16 : decode cX11_find 16 = .ok (.if_icmp .ne 6, 3) := by decide +kernel
theorem dX11_find_19 : decode cX11_find 19 = .ok (.iload 4, 2) := by decide +kernel
theorem dX11_find_21 : decode cX11_find 21 = .ok (.ireturn, 1) := by decide +kernel
theorem dX11_find_22 : decode cX11_find 22 = .ok (.iinc 4 1, 3) := by decide +kernel
theorem dX11_find_25 : decode cX11_find 25 = .ok (.goto (-22), 3) := by decide +kernel
theorem dX11_find_28 : decode cX11_find 28 = .ok (.iconst (-1), 1) := by decide +kernel
theorem dX11_find_29 : decode cX11_find 29 = .ok (.ireturn, 1) := by decide +kernel
theorem dX11_handLine_0 : decode cX11_handLine 0 = .ok (.aload_n 0, 1) := by decide +kernel
theorem dX11_handLine_1 : decode cX11_handLine 1 = .ok (.getfield 180, 3) := by decide +kernel
theorem dX11_handLine_4 : decode cX11_handLine 4 = .ok (.iconst 5, 1) := by decide +kernel
theorem dX11_handLine_5 : decode cX11_handLine 5 = .ok (.if_icmp .ne 9, 3) := by decide +kernel
theorem dX11_handLine_8 : decode cX11_handLine 8 = .ok (.aload_n 0, 1) := by decide +kernel
theorem dX11_handLine_9 : decode cX11_handLine 9 = .ok (.iconst 2, 1) := by decide +kernel
theorem dX11_handLine_10 : decode cX11_handLine 10 = .ok (.invokevirtual 119, 3) := by decide +kernel
theorem dX11_handLine_13 : decode cX11_handLine 13 = .ok (.ireturn, 1) := by decide +kernel
theorem dX11_handLine_14 : decode cX11_handLine 14 = .ok (.aload_n 0, 1) := by decide +kernel
theorem dX11_handLine_15 : decode cX11_handLine 15 = .ok (.invokevirtual 129, 3) := by decide +kernel
theorem dX11_handLine_18 : decode cX11_handLine 18 = .ok (.aload_n 0, 1) := by decide +kernel
theorem dX11_handLine_19 : decode cX11_handLine 19 = .ok (.getfield 95, 3) := by decide +kernel
theorem dX11_handLine_22 : decode cX11_handLine 22 = .ok (.iconst 2, 1) := by decide +kernel
theorem dX11_handLine_23 : decode cX11_handLine 23 = .ok (.if_icmp .eq 9, 3) := by decide +kernel
theorem dX11_handLine_26 : decode cX11_handLine 26 = .ok (.aload_n 0, 1) := by decide +kernel
theorem dX11_handLine_27 : decode cX11_handLine 27 = .ok (.iconst 1, 1) := by decide +kernel
theorem dX11_handLine_28 : decode cX11_handLine 28 = .ok (.invokevirtual 119, 3) := by decide +kernel
theorem dX11_handLine_31 : decode cX11_handLine 31 = .ok (.ireturn, 1) := by decide +kernel
theorem dX11_handLine_32 : decode cX11_handLine 32 = .ok (.aload_n 0, 1) := by decide +kernel
theorem dX11_handLine_33 : decode cX11_handLine 33 = .ok (.getfield 20, 3) := by decide +kernel
theorem dX11_handLine_36 : decode cX11_handLine 36 = .ok (.iconst 5, 1) := by decide +kernel
theorem dX11_handLine_37 : decode cX11_handLine 37 = .ok (.aload_n 0, 1) := by decide +kernel
theorem dX11_handLine_38 : decode cX11_handLine 38 = .ok (.getfield 180, 3) := by decide +kernel
theorem dX11_handLine_41 : decode cX11_handLine 41 = .ok (.aload_n 0, 1) := by decide +kernel
theorem dX11_handLine_42 : decode cX11_handLine 42 = .ok (.getfield 106, 3) := by decide +kernel
theorem dX11_handLine_45 : decode cX11_handLine 45 = .ok (.invokestatic 211, 3) := by decide +kernel
theorem dX11_handLine_48 : decode cX11_handLine 48 = .ok (.ifCond .lt 9, 3) := by decide +kernel
theorem dX11_handLine_51 : decode cX11_handLine 51 = .ok (.aload_n 0, 1) := by decide +kernel
theorem dX11_handLine_52 : decode cX11_handLine 52 = .ok (.iconst 3, 1) := by decide +kernel
theorem dX11_handLine_53 : decode cX11_handLine 53 = .ok (.invokevirtual 119, 3) := by decide +kernel
theorem dX11_handLine_56 : decode cX11_handLine 56 = .ok (.ireturn, 1) := by decide +kernel
theorem dX11_handLine_57 : decode cX11_handLine 57 = .ok (.aload_n 0, 1) := by decide +kernel
theorem dX11_handLine_58 : decode cX11_handLine 58 = .ok (.getfield 20, 3) := by decide +kernel
theorem dX11_handLine_61 : decode cX11_handLine 61 = .ok (.iconst 5, 1) := by decide +kernel
theorem dX11_handLine_62 : decode cX11_handLine 62 = .ok (.aload_n 0, 1) := by decide +kernel
theorem dX11_handLine_63 : decode cX11_handLine 63 = .ok (.getfield 180, 3) := by decide +kernel
theorem dX11_handLine_66 : decode cX11_handLine 66 = .ok (.iadd, 1) := by decide +kernel
theorem dX11_handLine_67 : decode cX11_handLine 67 = .ok (.aload_n 0, 1) := by decide +kernel
theorem dX11_handLine_68 : decode cX11_handLine 68 = .ok (.getfield 106, 3) := by decide +kernel
theorem dX11_handLine_71 : decode cX11_handLine 71 = .ok (.iastore, 1) := by decide +kernel
theorem dX11_handLine_72 : decode cX11_handLine 72 = .ok (.aload_n 0, 1) := by decide +kernel
theorem dX11_handLine_73 : decode cX11_handLine 73 = .ok (.dup, 1) := by decide +kernel
theorem dX11_handLine_74 : decode cX11_handLine 74 = .ok (.getfield 180, 3) := by decide +kernel
theorem dX11_handLine_77 : decode cX11_handLine 77 = .ok (.iconst 1, 1) := by decide +kernel
theorem dX11_handLine_78 : decode cX11_handLine 78 = .ok (.iadd, 1) := by decide +kernel
theorem dX11_handLine_79 : decode cX11_handLine 79 = .ok (.putfield 180, 3) := by decide +kernel
theorem dX11_handLine_82 : decode cX11_handLine 82 = .ok (.aload_n 0, 1) := by decide +kernel
theorem dX11_handLine_83 : decode cX11_handLine 83 = .ok (.invokevirtual 129, 3) := by decide +kernel
theorem dX11_handLine_86 : decode cX11_handLine 86 = .ok (.iconst 1, 1) := by decide +kernel
theorem dX11_handLine_87 : decode cX11_handLine 87 = .ok (.ireturn, 1) := by decide +kernel
theorem dX11_keyRead_0 : decode cX11_keyRead 0 = .ok (.aload_n 0, 1) := by decide +kernel
theorem dX11_keyRead_1 : decode cX11_keyRead 1 = .ok (.iconst 0, 1) := by decide +kernel
theorem dX11_keyRead_2 : decode cX11_keyRead 2 = .ok (.ldc 115, 2) := by decide +kernel
theorem dX11_keyRead_4 : decode cX11_keyRead 4 = .ok (.invokevirtual 135, 3) := by decide +kernel
theorem dX11_keyRead_7 : decode cX11_keyRead 7 = .ok (.ifCond .ne 5, 3) := by decide +kernel
theorem dX11_keyRead_10 : decode cX11_keyRead 10 = .ok (.iconst 0, 1) := by decide +kernel
theorem dX11_keyRead_11 : decode cX11_keyRead 11 = .ok (.ireturn, 1) := by decide +kernel
theorem dX11_keyRead_12 : decode cX11_keyRead 12 = .ok (.aload_n 0, 1) := by decide +kernel
theorem dX11_keyRead_13 : decode cX11_keyRead 13 = .ok (.getfield 126, 3) := by decide +kernel
theorem dX11_keyRead_16 : decode cX11_keyRead 16 = .ok (.istore_n 1, 1) := by decide +kernel
theorem dX11_keyRead_17 : decode cX11_keyRead 17 = .ok (.aload_n 0, 1) := by decide +kernel
theorem dX11_keyRead_18 : decode cX11_keyRead 18 = .ok (.iconst 1, 1) := by decide +kernel
theorem dX11_keyRead_19 : decode cX11_keyRead 19 = .ok (.sipush 9999, 3) := by decide +kernel
theorem dX11_keyRead_22 : decode cX11_keyRead 22 = .ok (.invokevirtual 135, 3) := by decide +kernel
theorem dX11_keyRead_25 : decode cX11_keyRead 25 = .ok (.ifCond .ne 5, 3) := by decide +kernel
theorem dX11_keyRead_28 : decode cX11_keyRead 28 = .ok (.iconst 0, 1) := by decide +kernel
theorem dX11_keyRead_29 : decode cX11_keyRead 29 = .ok (.ireturn, 1) := by decide +kernel
theorem dX11_keyRead_30 : decode cX11_keyRead 30 = .ok (.aload_n 0, 1) := by decide +kernel
theorem dX11_keyRead_31 : decode cX11_keyRead 31 = .ok (.iload_n 1, 1) := by decide +kernel
theorem dX11_keyRead_32 : decode cX11_keyRead 32 = .ok (.aload_n 0, 1) := by decide +kernel
theorem dX11_keyRead_33 : decode cX11_keyRead 33 = .ok (.getfield 126, 3) := by decide +kernel
theorem dX11_keyRead_36 : decode cX11_keyRead 36 = .ok (.invokestatic 177, 3) := by decide +kernel
theorem dX11_keyRead_39 : decode cX11_keyRead 39 = .ok (.putfield 215, 3) := by decide +kernel
theorem dX11_keyRead_42 : decode cX11_keyRead 42 = .ok (.iconst 1, 1) := by decide +kernel
theorem dX11_keyRead_43 : decode cX11_keyRead 43 = .ok (.ireturn, 1) := by decide +kernel
theorem dX11_toldLine_0 : decode cX11_toldLine 0 = .ok (.aload_n 0, 1) := by decide +kernel
theorem dX11_toldLine_1 : decode cX11_toldLine 1 = .ok (.getfield 183, 3) := by decide +kernel
theorem dX11_toldLine_4 : decode cX11_toldLine 4 = .ok (.bipush 16, 2) := by decide +kernel
theorem dX11_toldLine_6 : decode cX11_toldLine 6 = .ok (.if_icmp .ne 9, 3) := by decide +kernel
theorem dX11_toldLine_9 : decode cX11_toldLine 9 = .ok (.aload_n 0, 1) := by decide +kernel
theorem dX11_toldLine_10 : decode cX11_toldLine 10 = .ok (.iconst 2, 1) := by decide +kernel
theorem dX11_toldLine_11 : decode cX11_toldLine 11 = .ok (.invokevirtual 119, 3) := by decide +kernel
theorem dX11_toldLine_14 : decode cX11_toldLine 14 = .ok (.ireturn, 1) := by decide +kernel
theorem dX11_toldLine_15 : decode cX11_toldLine 15 = .ok (.aload_n 0, 1) := by decide +kernel
theorem dX11_toldLine_16 : decode cX11_toldLine 16 = .ok (.invokevirtual 129, 3) := by decide +kernel
theorem dX11_toldLine_19 : decode cX11_toldLine 19 = .ok (.aload_n 0, 1) := by decide +kernel
theorem dX11_toldLine_20 : decode cX11_toldLine 20 = .ok (.getfield 86, 3) := by decide +kernel
theorem dX11_toldLine_23 : decode cX11_toldLine 23 = .ok (.istore_n 1, 1) := by decide +kernel
theorem dX11_toldLine_24 : decode cX11_toldLine 24 = .ok (.aload_n 0, 1) := by decide +kernel
theorem dX11_toldLine_25 : decode cX11_toldLine 25 = .ok (.invokevirtual 218, 3) := by decide +kernel
theorem dX11_toldLine_28 : decode cX11_toldLine 28 = .ok (.ifCond .ne 5, 3) := by decide +kernel
theorem dX11_toldLine_31 : decode cX11_toldLine 31 = .ok (.iconst 0, 1) := by decide +kernel
theorem dX11_toldLine_32 : decode cX11_toldLine 32 = .ok (.ireturn, 1) := by decide +kernel
theorem dX11_toldLine_33 : decode cX11_toldLine 33 = .ok (.aload_n 0, 1) := by decide +kernel
theorem dX11_toldLine_34 : decode cX11_toldLine 34 = .ok (.getfield 23, 3) := by decide +kernel
theorem dX11_toldLine_37 : decode cX11_toldLine 37 = .ok (.bipush 16, 2) := by decide +kernel
theorem dX11_toldLine_39 : decode cX11_toldLine 39 = .ok (.aload_n 0, 1) := by decide +kernel
theorem dX11_toldLine_40 : decode cX11_toldLine 40 = .ok (.getfield 183, 3) := by decide +kernel
theorem dX11_toldLine_43 : decode cX11_toldLine 43 = .ok (.aload_n 0, 1) := by decide +kernel
theorem dX11_toldLine_44 : decode cX11_toldLine 44 = .ok (.getfield 215, 3) := by decide +kernel
theorem dX11_toldLine_47 : decode cX11_toldLine 47 = .ok (.invokestatic 211, 3) := by decide +kernel
theorem dX11_toldLine_50 : decode cX11_toldLine 50 = .ok (.ifCond .lt 14, 3) := by decide +kernel
theorem dX11_toldLine_53 : decode cX11_toldLine 53 = .ok (.aload_n 0, 1) := by decide +kernel
theorem dX11_toldLine_54 : decode cX11_toldLine 54 = .ok (.iload_n 1, 1) := by decide +kernel
theorem dX11_toldLine_55 : decode cX11_toldLine 55 = .ok (.putfield 86, 3) := by decide +kernel
theorem dX11_toldLine_58 : decode cX11_toldLine 58 = .ok (.aload_n 0, 1) := by decide +kernel
theorem dX11_toldLine_59 : decode cX11_toldLine 59 = .ok (.iconst 3, 1) := by decide +kernel
theorem dX11_toldLine_60 : decode cX11_toldLine 60 = .ok (.invokevirtual 119, 3) := by decide +kernel
theorem dX11_toldLine_63 : decode cX11_toldLine 63 = .ok (.ireturn, 1) := by decide +kernel
theorem dX11_toldLine_64 : decode cX11_toldLine 64 = .ok (.aload_n 0, 1) := by decide +kernel
theorem dX11_toldLine_65 : decode cX11_toldLine 65 = .ok (.getfield 23, 3) := by decide +kernel
theorem dX11_toldLine_68 : decode cX11_toldLine 68 = .ok (.bipush 16, 2) := by decide +kernel
theorem dX11_toldLine_70 : decode cX11_toldLine 70 = .ok (.aload_n 0, 1) := by decide +kernel
theorem dX11_toldLine_71 : decode cX11_toldLine 71 = .ok (.getfield 183, 3) := by decide +kernel
theorem dX11_toldLine_74 : decode cX11_toldLine 74 = .ok (.iadd, 1) := by decide +kernel
theorem dX11_toldLine_75 : decode cX11_toldLine 75 = .ok (.aload_n 0, 1) := by decide +kernel
theorem dX11_toldLine_76 : decode cX11_toldLine 76 = .ok (.getfield 215, 3) := by decide +kernel
theorem dX11_toldLine_79 : decode cX11_toldLine 79 = .ok (.iastore, 1) := by decide +kernel
theorem dX11_toldLine_80 : decode cX11_toldLine 80 = .ok (.aload_n 0, 1) := by decide +kernel
theorem dX11_toldLine_81 : decode cX11_toldLine 81 = .ok (.iconst 0, 1) := by decide +kernel
theorem dX11_toldLine_82 : decode cX11_toldLine 82 = .ok (.sipush 9999, 3) := by decide +kernel
theorem dX11_toldLine_85 : decode cX11_toldLine 85 = .ok (.invokevirtual 135, 3) := by decide +kernel
theorem dX11_toldLine_88 : decode cX11_toldLine 88 = .ok (.ifCond .ne 5, 3) := by decide +kernel
theorem dX11_toldLine_91 : decode cX11_toldLine 91 = .ok (.iconst 0, 1) := by decide +kernel
theorem dX11_toldLine_92 : decode cX11_toldLine 92 = .ok (.ireturn, 1) := by decide +kernel
theorem dX11_toldLine_93 : decode cX11_toldLine 93 = .ok (.aload_n 0, 1) := by decide +kernel
theorem dX11_toldLine_94 : decode cX11_toldLine 94 = .ok (.getfield 26, 3) := by decide +kernel
theorem dX11_toldLine_97 : decode cX11_toldLine 97 = .ok (.bipush 16, 2) := by decide +kernel
theorem dX11_toldLine_99 : decode cX11_toldLine 99 = .ok (.aload_n 0, 1) := by decide +kernel
theorem dX11_toldLine_100 : decode cX11_toldLine 100 = .ok (.getfield 183, 3) := by decide +kernel
theorem dX11_toldLine_103 : decode cX11_toldLine 103 = .ok (.iadd, 1) := by decide +kernel
theorem dX11_toldLine_104 : decode cX11_toldLine 104 = .ok (.aload_n 0, 1) := by decide +kernel
theorem dX11_toldLine_105 : decode cX11_toldLine 105 = .ok (.getfield 126, 3) := by decide +kernel
theorem dX11_toldLine_108 : decode cX11_toldLine 108 = .ok (.iastore, 1) := by decide +kernel
theorem dX11_toldLine_109 : decode cX11_toldLine 109 = .ok (.aload_n 0, 1) := by decide +kernel
theorem dX11_toldLine_110 : decode cX11_toldLine 110 = .ok (.dup, 1) := by decide +kernel
theorem dX11_toldLine_111 : decode cX11_toldLine 111 = .ok (.getfield 183, 3) := by decide +kernel
theorem dX11_toldLine_114 : decode cX11_toldLine 114 = .ok (.iconst 1, 1) := by decide +kernel
theorem dX11_toldLine_115 : decode cX11_toldLine 115 = .ok (.iadd, 1) := by decide +kernel
theorem dX11_toldLine_116 : decode cX11_toldLine 116 = .ok (.putfield 183, 3) := by decide +kernel
theorem dX11_toldLine_119 : decode cX11_toldLine 119 = .ok (.iconst 1, 1) := by decide +kernel
theorem dX11_toldLine_120 : decode cX11_toldLine 120 = .ok (.ireturn, 1) := by decide +kernel
theorem dX11_stepLine_0 : decode cX11_stepLine 0 = .ok (.aload_n 0, 1) := by decide +kernel
theorem dX11_stepLine_1 : decode cX11_stepLine 1 = .ok (.getfield 186, 3) := by decide +kernel
theorem dX11_stepLine_4 : decode cX11_stepLine 4 = .ok (.bipush 24, 2) := by decide +kernel
theorem dX11_stepLine_6 : decode cX11_stepLine 6 = .ok (.if_icmp .ne 9, 3) := by decide +kernel
theorem dX11_stepLine_9 : decode cX11_stepLine 9 = .ok (.aload_n 0, 1) := by decide +kernel
theorem dX11_stepLine_10 : decode cX11_stepLine 10 = .ok (.iconst 2, 1) := by decide +kernel
theorem dX11_stepLine_11 : decode cX11_stepLine 11 = .ok (.invokevirtual 119, 3) := by decide +kernel
theorem dX11_stepLine_14 : decode cX11_stepLine 14 = .ok (.ireturn, 1) := by decide +kernel
theorem dX11_stepLine_15 : decode cX11_stepLine 15 = .ok (.bipush 24, 2) := by decide +kernel
theorem dX11_stepLine_17 : decode cX11_stepLine 17 = .ok (.aload_n 0, 1) := by decide +kernel
theorem dX11_stepLine_18 : decode cX11_stepLine 18 = .ok (.getfield 186, 3) := by decide +kernel
theorem dX11_stepLine_21 : decode cX11_stepLine 21 = .ok (.iadd, 1) := by decide +kernel
theorem dX11_stepLine_22 : decode cX11_stepLine 22 = .ok (.istore_n 1, 1) := by decide +kernel
theorem dX11_stepLine_23 : decode cX11_stepLine 23 = .ok (.aload_n 0, 1) := by decide +kernel
theorem dX11_stepLine_24 : decode cX11_stepLine 24 = .ok (.getfield 106, 3) := by decide +kernel
theorem dX11_stepLine_27 : decode cX11_stepLine 27 = .ok (.istore_n 2, 1) := by decide +kernel
theorem dX11_stepLine_28 : decode cX11_stepLine 28 = .ok (.aload_n 0, 1) := by decide +kernel
theorem dX11_stepLine_29 : decode cX11_stepLine 29 = .ok (.getfield 29, 3) := by decide +kernel
theorem dX11_stepLine_32 : decode cX11_stepLine 32 = .ok (.iload_n 1, 1) := by decide +kernel
theorem dX11_stepLine_33 : decode cX11_stepLine 33 = .ok (.iload_n 2, 1) := by decide +kernel
theorem dX11_stepLine_34 : decode cX11_stepLine 34 = .ok (.iastore, 1) := by decide +kernel
theorem dX11_stepLine_35 : decode cX11_stepLine 35 = .ok (.aload_n 0, 1) := by decide +kernel
theorem dX11_stepLine_36 : decode cX11_stepLine 36 = .ok (.invokevirtual 129, 3) := by decide +kernel
theorem dX11_stepLine_39 : decode cX11_stepLine 39 = .ok (.aload_n 0, 1) := by decide +kernel
theorem dX11_stepLine_40 : decode cX11_stepLine 40 = .ok (.getfield 95, 3) := by decide +kernel
theorem dX11_stepLine_43 : decode cX11_stepLine 43 = .ok (.iconst 2, 1) := by decide +kernel
theorem dX11_stepLine_44 : decode cX11_stepLine 44 = .ok (.if_icmp .eq 9, 3) := by decide +kernel
theorem dX11_stepLine_47 : decode cX11_stepLine 47 = .ok (.aload_n 0, 1) := by decide +kernel
theorem dX11_stepLine_48 : decode cX11_stepLine 48 = .ok (.iconst 1, 1) := by decide +kernel
theorem dX11_stepLine_49 : decode cX11_stepLine 49 = .ok (.invokevirtual 119, 3) := by decide +kernel
theorem dX11_stepLine_52 : decode cX11_stepLine 52 = .ok (.ireturn, 1) := by decide +kernel
theorem dX11_stepLine_53 : decode cX11_stepLine 53 = .ok (.aload_n 0, 1) := by decide +kernel
theorem dX11_stepLine_54 : decode cX11_stepLine 54 = .ok (.getfield 20, 3) := by decide +kernel
theorem dX11_stepLine_57 : decode cX11_stepLine 57 = .ok (.iconst 5, 1) := by decide +kernel
theorem dX11_stepLine_58 : decode cX11_stepLine 58 = .ok (.aload_n 0, 1) := by decide +kernel
theorem dX11_stepLine_59 : decode cX11_stepLine 59 = .ok (.getfield 180, 3) := by decide +kernel
theorem dX11_stepLine_62 : decode cX11_stepLine 62 = .ok (.aload_n 0, 1) := by decide +kernel
theorem dX11_stepLine_63 : decode cX11_stepLine 63 = .ok (.getfield 106, 3) := by decide +kernel
theorem dX11_stepLine_66 : decode cX11_stepLine 66 = .ok (.invokestatic 211, 3) := by decide +kernel
theorem dX11_stepLine_69 : decode cX11_stepLine 69 = .ok (.istore_n 3, 1) := by decide +kernel
theorem dX11_stepLine_70 : decode cX11_stepLine 70 = .ok (.iload_n 3, 1) := by decide +kernel
theorem dX11_stepLine_71 : decode cX11_stepLine 71 = .ok (.ifCond .ge 9, 3) := by decide +kernel
theorem dX11_stepLine_74 : decode cX11_stepLine 74 = .ok (.aload_n 0, 1) := by decide +kernel
theorem dX11_stepLine_75 : decode cX11_stepLine 75 = .ok (.iconst 4, 1) := by decide +kernel
theorem dX11_stepLine_76 : decode cX11_stepLine 76 = .ok (.invokevirtual 119, 3) := by decide +kernel
theorem dX11_stepLine_79 : decode cX11_stepLine 79 = .ok (.ireturn, 1) := by decide +kernel
theorem dX11_stepLine_80 : decode cX11_stepLine 80 = .ok (.aload_n 0, 1) := by decide +kernel
theorem dX11_stepLine_81 : decode cX11_stepLine 81 = .ok (.getfield 32, 3) := by decide +kernel
theorem dX11_stepLine_84 : decode cX11_stepLine 84 = .ok (.iload_n 1, 1) := by decide +kernel
theorem dX11_stepLine_85 : decode cX11_stepLine 85 = .ok (.iload_n 3, 1) := by decide +kernel
theorem dX11_stepLine_86 : decode cX11_stepLine 86 = .ok (.iastore, 1) := by decide +kernel
theorem dX11_stepLine_87 : decode cX11_stepLine 87 = .ok (.aload_n 0, 1) := by decide +kernel
theorem dX11_stepLine_88 : decode cX11_stepLine 88 = .ok (.invokevirtual 129, 3) := by decide +kernel
theorem dX11_stepLine_91 : decode cX11_stepLine 91 = .ok (.iload_n 2, 1) := by decide +kernel
theorem dX11_stepLine_92 : decode cX11_stepLine 92 = .ok (.iconst 3, 1) := by decide +kernel
theorem dX11_stepLine_93 : decode cX11_stepLine 93 = .ok (.if_icmp .lt 28, 3) := by decide +kernel
theorem dX11_stepLine_96 : decode cX11_stepLine 96 = .ok (.iload_n 2, 1) := by decide +kernel
theorem dX11_stepLine_97 : decode cX11_stepLine 97 = .ok (.bipush 8, 2) := by decide +kernel
theorem dX11_stepLine_99 : decode cX11_stepLine 99 = .ok (.if_icmp .gt 22, 3) := by decide +kernel
theorem dX11_stepLine_102 : decode cX11_stepLine 102 = .ok (.aload_n 0, 1) := by decide +kernel
theorem dX11_stepLine_103 : decode cX11_stepLine 103 = .ok (.invokevirtual 218, 3) := by decide +kernel
theorem dX11_stepLine_106 : decode cX11_stepLine 106 = .ok (.ifCond .ne 5, 3) := by decide +kernel
theorem dX11_stepLine_109 : decode cX11_stepLine 109 = .ok (.iconst 0, 1) := by decide +kernel
theorem dX11_stepLine_110 : decode cX11_stepLine 110 = .ok (.ireturn, 1) := by decide +kernel
theorem dX11_stepLine_111 : decode cX11_stepLine 111 = .ok (.aload_n 0, 1) := by decide +kernel
theorem dX11_stepLine_112 : decode cX11_stepLine 112 = .ok (.getfield 35, 3) := by decide +kernel
theorem dX11_stepLine_115 : decode cX11_stepLine 115 = .ok (.iload_n 1, 1) := by decide +kernel
theorem dX11_stepLine_116 : decode cX11_stepLine 116 = .ok (.aload_n 0, 1) := by decide +kernel
theorem dX11_stepLine_117 : decode cX11_stepLine 117 = .ok (.getfield 215, 3) := by decide +kernel
theorem dX11_stepLine_120 : decode cX11_stepLine 120 = .ok (.iastore, 1) := by decide +kernel
theorem dX11_stepLine_121 : decode cX11_stepLine 121 = .ok (.iload_n 2, 1) := by decide +kernel
theorem dX11_stepLine_122 : decode cX11_stepLine 122 = .ok (.iconst 3, 1) := by decide +kernel
theorem dX11_stepLine_123 : decode cX11_stepLine 123 = .ok (.if_icmp .ne 53, 3) := by decide +kernel
theorem dX11_stepLine_126 : decode cX11_stepLine 126 = .ok (.aload_n 0, 1) := by decide +kernel
theorem dX11_stepLine_127 : decode cX11_stepLine 127 = .ok (.getfield 86, 3) := by decide +kernel
theorem dX11_stepLine_130 : decode cX11_stepLine 130 = .ok (.istore 4, 2) := by decide +kernel
theorem dX11_stepLine_132 : decode cX11_stepLine 132 = .ok (.aload_n 0, 1) := by decide +kernel
theorem dX11_stepLine_133 : decode cX11_stepLine 133 = .ok (.invokevirtual 218, 3) := by decide +kernel
theorem dX11_stepLine_136 : decode cX11_stepLine 136 = .ok (.ifCond .ne 5, 3) := by decide +kernel
theorem dX11_stepLine_139 : decode cX11_stepLine 139 = .ok (.iconst 0, 1) := by decide +kernel
theorem dX11_stepLine_140 : decode cX11_stepLine 140 = .ok (.ireturn, 1) := by decide +kernel
theorem dX11_stepLine_141 : decode cX11_stepLine 141 = .ok (.aload_n 0, 1) := by decide +kernel
theorem dX11_stepLine_142 : decode cX11_stepLine 142 = .ok (.getfield 38, 3) := by decide +kernel
theorem dX11_stepLine_145 : decode cX11_stepLine 145 = .ok (.iload_n 1, 1) := by decide +kernel
theorem dX11_stepLine_146 : decode cX11_stepLine 146 = .ok (.aload_n 0, 1) := by decide +kernel
theorem dX11_stepLine_147 : decode cX11_stepLine 147 = .ok (.getfield 215, 3) := by decide +kernel
theorem dX11_stepLine_150 : decode cX11_stepLine 150 = .ok (.iastore, 1) := by decide +kernel
theorem dX11_stepLine_151 : decode cX11_stepLine 151 = .ok (.aload_n 0, 1) := by decide +kernel
theorem dX11_stepLine_152 : decode cX11_stepLine 152 = .ok (.getfield 35, 3) := by decide +kernel
theorem dX11_stepLine_155 : decode cX11_stepLine 155 = .ok (.iload_n 1, 1) := by decide +kernel
theorem dX11_stepLine_156 : decode cX11_stepLine 156 = .ok (.iaload, 1) := by decide +kernel
theorem dX11_stepLine_157 : decode cX11_stepLine 157 = .ok (.aload_n 0, 1) := by decide +kernel
theorem dX11_stepLine_158 : decode cX11_stepLine 158 = .ok (.getfield 215, 3) := by decide +kernel
theorem dX11_stepLine_161 : decode cX11_stepLine 161 = .ok (.if_icmp .le 15, 3) := by decide +kernel
theorem dX11_stepLine_164 : decode cX11_stepLine 164 = .ok (.aload_n 0, 1) := by decide +kernel
theorem dX11_stepLine_165 : decode cX11_stepLine 165 = .ok (.iload 4, 2) := by decide +kernel
theorem dX11_stepLine_167 : decode cX11_stepLine 167 = .ok (.putfield 86, 3) := by decide +kernel
theorem dX11_stepLine_170 : decode cX11_stepLine 170 = .ok (.aload_n 0, 1) := by decide +kernel
theorem dX11_stepLine_171 : decode cX11_stepLine 171 = .ok (.iconst 5, 1) := by decide +kernel
theorem dX11_stepLine_172 : decode cX11_stepLine 172 = .ok (.invokevirtual 119, 3) := by decide +kernel
theorem dX11_stepLine_175 : decode cX11_stepLine 175 = .ok (.ireturn, 1) := by decide +kernel
theorem dX11_stepLine_176 : decode cX11_stepLine 176 = .ok (.iload_n 2, 1) := by decide +kernel
theorem dX11_stepLine_177 : decode cX11_stepLine 177 = .ok (.bipush 6, 2) := by decide +kernel
theorem dX11_stepLine_179 : decode cX11_stepLine 179 = .ok (.if_icmp .eq 9, 3) := by decide +kernel
theorem dX11_stepLine_182 : decode cX11_stepLine 182 = .ok (.iload_n 2, 1) := by decide +kernel
theorem dX11_stepLine_183 : decode cX11_stepLine 183 = .ok (.bipush 7, 2) := by decide +kernel
theorem dX11_stepLine_185 : decode cX11_stepLine 185 = .ok (.if_icmp .ne 26, 3) := by decide +kernel
theorem dX11_stepLine_188 : decode cX11_stepLine 188 = .ok (.aload_n 0, 1) := by decide +kernel
theorem dX11_stepLine_189 : decode cX11_stepLine 189 = .ok (.iconst 0, 1) := by decide +kernel
theorem dX11_stepLine_190 : decode cX11_stepLine 190 = .ok (.sipush 9999, 3) := by decide +kernel
theorem dX11_stepLine_193 : decode cX11_stepLine 193 = .ok (.invokevirtual 135, 3) := by decide +kernel
theorem dX11_stepLine_196 : decode cX11_stepLine 196 = .ok (.ifCond .ne 5, 3) := by decide +kernel
theorem dX11_stepLine_199 : decode cX11_stepLine 199 = .ok (.iconst 0, 1) := by decide +kernel
theorem dX11_stepLine_200 : decode cX11_stepLine 200 = .ok (.ireturn, 1) := by decide +kernel
theorem dX11_stepLine_201 : decode cX11_stepLine 201 = .ok (.aload_n 0, 1) := by decide +kernel
theorem dX11_stepLine_202 : decode cX11_stepLine 202 = .ok (.getfield 41, 3) := by decide +kernel
theorem dX11_stepLine_205 : decode cX11_stepLine 205 = .ok (.iload_n 1, 1) := by decide +kernel
theorem dX11_stepLine_206 : decode cX11_stepLine 206 = .ok (.aload_n 0, 1) := by decide +kernel
theorem dX11_stepLine_207 : decode cX11_stepLine 207 = .ok (.getfield 126, 3) := by decide +kernel
theorem dX11_stepLine_210 : decode cX11_stepLine 210 = .ok (.iastore, 1) := by decide +kernel
theorem dX11_stepLine_211 : decode cX11_stepLine 211 = .ok (.aload_n 0, 1) := by decide +kernel
theorem dX11_stepLine_212 : decode cX11_stepLine 212 = .ok (.dup, 1) := by decide +kernel
theorem dX11_stepLine_213 : decode cX11_stepLine 213 = .ok (.getfield 186, 3) := by decide +kernel
theorem dX11_stepLine_216 : decode cX11_stepLine 216 = .ok (.iconst 1, 1) := by decide +kernel
theorem dX11_stepLine_217 : decode cX11_stepLine 217 = .ok (.iadd, 1) := by decide +kernel
theorem dX11_stepLine_218 : decode cX11_stepLine 218 = .ok (.putfield 186, 3) := by decide +kernel
theorem dX11_stepLine_221 : decode cX11_stepLine 221 = .ok (.iconst 1, 1) := by decide +kernel
theorem dX11_stepLine_222 : decode cX11_stepLine 222 = .ok (.ireturn, 1) := by decide +kernel
theorem dX11_lineRead_0 : decode cX11_lineRead 0 = .ok (.aload_n 0, 1) := by decide +kernel
theorem dX11_lineRead_1 : decode cX11_lineRead 1 = .ok (.getfield 95, 3) := by decide +kernel
theorem dX11_lineRead_4 : decode cX11_lineRead 4 = .ok (.iconst 1, 1) := by decide +kernel
theorem dX11_lineRead_5 : decode cX11_lineRead 5 = .ok (.if_icmp .eq 9, 3) := by decide +kernel
theorem dX11_lineRead_8 : decode cX11_lineRead 8 = .ok (.aload_n 0, 1) := by decide +kernel
theorem dX11_lineRead_9 : decode cX11_lineRead 9 = .ok (.iconst 1, 1) := by decide +kernel
theorem dX11_lineRead_10 : decode cX11_lineRead 10 = .ok (.invokevirtual 119, 3) := by decide +kernel
theorem dX11_lineRead_13 : decode cX11_lineRead 13 = .ok (.ireturn, 1) := by decide +kernel
theorem dX11_lineRead_14 : decode cX11_lineRead 14 = .ok (.aload_n 0, 1) := by decide +kernel
theorem dX11_lineRead_15 : decode cX11_lineRead 15 = .ok (.getfield 106, 3) := by decide +kernel
theorem dX11_lineRead_18 : decode cX11_lineRead 18 = .ok (.lookupswitch 42 #[(0, 26), (1, 34)], 26) := by decide +kernel
theorem dX11_lineRead_44 : decode cX11_lineRead 44 = .ok (.aload_n 0, 1) := by decide +kernel
theorem dX11_lineRead_45 : decode cX11_lineRead 45 = .ok (.invokevirtual 222, 3) := by decide +kernel
theorem dX11_lineRead_48 : decode cX11_lineRead 48 = .ok (.istore_n 1, 1) := by decide +kernel
theorem dX11_lineRead_49 : decode cX11_lineRead 49 = .ok (.goto 16, 3) := by decide +kernel
theorem dX11_lineRead_52 : decode cX11_lineRead 52 = .ok (.aload_n 0, 1) := by decide +kernel
theorem dX11_lineRead_53 : decode cX11_lineRead 53 = .ok (.invokevirtual 225, 3) := by decide +kernel
theorem dX11_lineRead_56 : decode cX11_lineRead 56 = .ok (.istore_n 1, 1) := by decide +kernel
theorem dX11_lineRead_57 : decode cX11_lineRead 57 = .ok (.goto 8, 3) := by decide +kernel
theorem dX11_lineRead_60 : decode cX11_lineRead 60 = .ok (.aload_n 0, 1) := by decide +kernel
theorem dX11_lineRead_61 : decode cX11_lineRead 61 = .ok (.invokevirtual 228, 3) := by decide +kernel
theorem dX11_lineRead_64 : decode cX11_lineRead 64 = .ok (.istore_n 1, 1) := by decide +kernel
theorem dX11_lineRead_65 : decode cX11_lineRead 65 = .ok (.iload_n 1, 1) := by decide +kernel
theorem dX11_lineRead_66 : decode cX11_lineRead 66 = .ok (.ifCond .ne 5, 3) := by decide +kernel
theorem dX11_lineRead_69 : decode cX11_lineRead 69 = .ok (.iconst 0, 1) := by decide +kernel
theorem dX11_lineRead_70 : decode cX11_lineRead 70 = .ok (.ireturn, 1) := by decide +kernel
theorem dX11_lineRead_71 : decode cX11_lineRead 71 = .ok (.aload_n 0, 1) := by decide +kernel
theorem dX11_lineRead_72 : decode cX11_lineRead 72 = .ok (.bipush 59, 2) := by decide +kernel
theorem dX11_lineRead_74 : decode cX11_lineRead 74 = .ok (.invokevirtual 132, 3) := by decide +kernel
theorem dX11_lineRead_77 : decode cX11_lineRead 77 = .ok (.ifCond .ne 9, 3) := by decide +kernel
theorem dX11_lineRead_80 : decode cX11_lineRead 80 = .ok (.aload_n 0, 1) := by decide +kernel
theorem dX11_lineRead_81 : decode cX11_lineRead 81 = .ok (.iconst 1, 1) := by decide +kernel
theorem dX11_lineRead_82 : decode cX11_lineRead 82 = .ok (.invokevirtual 119, 3) := by decide +kernel
theorem dX11_lineRead_85 : decode cX11_lineRead 85 = .ok (.ireturn, 1) := by decide +kernel
theorem dX11_lineRead_86 : decode cX11_lineRead 86 = .ok (.aload_n 0, 1) := by decide +kernel
theorem dX11_lineRead_87 : decode cX11_lineRead 87 = .ok (.invokevirtual 129, 3) := by decide +kernel
theorem dX11_lineRead_90 : decode cX11_lineRead 90 = .ok (.iconst 1, 1) := by decide +kernel
theorem dX11_lineRead_91 : decode cX11_lineRead 91 = .ok (.ireturn, 1) := by decide +kernel
theorem dX11_text_0 : decode cX11_text 0 = .ok (.aload_n 0, 1) := by decide +kernel
theorem dX11_text_1 : decode cX11_text 1 = .ok (.iconst 0, 1) := by decide +kernel
theorem dX11_text_2 : decode cX11_text 2 = .ok (.putfield 77, 3) := by decide +kernel
theorem dX11_text_5 : decode cX11_text 5 = .ok (.iload_n 1, 1) := by decide +kernel
theorem dX11_text_6 : decode cX11_text 6 = .ok (.ifCond .lt 11, 3) := by decide +kernel
theorem dX11_text_9 : decode cX11_text 9 = .ok (.iload_n 1, 1) := by decide +kernel
theorem dX11_text_10 : decode cX11_text 10 = .ok (.aload_n 0, 1) := by decide +kernel
theorem dX11_text_11 : decode cX11_text 11 = .ok (.getfield 80, 3) := by decide +kernel
theorem dX11_text_14 : decode cX11_text 14 = .ok (.if_icmp .le 6, 3) := by decide +kernel
theorem dX11_text_17 : decode cX11_text 17 = .ok (.bipush (-2), 2) := by decide +kernel
theorem dX11_text_19 : decode cX11_text 19 = .ok (.ireturn, 1) := by decide +kernel
theorem dX11_text_20 : decode cX11_text 20 = .ok (.aload_n 0, 1) := by decide +kernel
theorem dX11_text_21 : decode cX11_text 21 = .ok (.iload_n 1, 1) := by decide +kernel
theorem dX11_text_22 : decode cX11_text 22 = .ok (.putfield 89, 3) := by decide +kernel
theorem dX11_text_25 : decode cX11_text 25 = .ok (.aload_n 0, 1) := by decide +kernel
theorem dX11_text_26 : decode cX11_text 26 = .ok (.iconst 0, 1) := by decide +kernel
theorem dX11_text_27 : decode cX11_text 27 = .ok (.putfield 80, 3) := by decide +kernel
theorem dX11_text_30 : decode cX11_text 30 = .ok (.aload_n 0, 1) := by decide +kernel
theorem dX11_text_31 : decode cX11_text 31 = .ok (.iconst 0, 1) := by decide +kernel
theorem dX11_text_32 : decode cX11_text 32 = .ok (.putfield 83, 3) := by decide +kernel
theorem dX11_text_35 : decode cX11_text 35 = .ok (.aload_n 0, 1) := by decide +kernel
theorem dX11_text_36 : decode cX11_text 36 = .ok (.iconst (-1), 1) := by decide +kernel
theorem dX11_text_37 : decode cX11_text 37 = .ok (.putfield 16, 3) := by decide +kernel
theorem dX11_text_40 : decode cX11_text 40 = .ok (.aload_n 0, 1) := by decide +kernel
theorem dX11_text_41 : decode cX11_text 41 = .ok (.iconst 0, 1) := by decide +kernel
theorem dX11_text_42 : decode cX11_text 42 = .ok (.putfield 92, 3) := by decide +kernel
theorem dX11_text_45 : decode cX11_text 45 = .ok (.aload_n 0, 1) := by decide +kernel
theorem dX11_text_46 : decode cX11_text 46 = .ok (.invokevirtual 71, 3) := by decide +kernel
theorem dX11_text_49 : decode cX11_text 49 = .ok (.aload_n 0, 1) := by decide +kernel
theorem dX11_text_50 : decode cX11_text 50 = .ok (.invokevirtual 129, 3) := by decide +kernel
theorem dX11_text_53 : decode cX11_text 53 = .ok (.iconst 0, 1) := by decide +kernel
theorem dX11_text_54 : decode cX11_text 54 = .ok (.istore_n 2, 1) := by decide +kernel
theorem dX11_text_55 : decode cX11_text 55 = .ok (.aload_n 0, 1) := by decide +kernel
theorem dX11_text_56 : decode cX11_text 56 = .ok (.getfield 95, 3) := by decide +kernel
theorem dX11_text_59 : decode cX11_text 59 = .ok (.ifCond .eq 18, 3) := by decide +kernel
theorem dX11_text_62 : decode cX11_text 62 = .ok (.aload_n 0, 1) := by decide +kernel
theorem dX11_text_63 : decode cX11_text 63 = .ok (.invokevirtual 231, 3) := by decide +kernel
theorem dX11_text_66 : decode cX11_text 66 = .ok (.ifCond .ne 5, 3) := by decide +kernel
theorem dX11_text_69 : decode cX11_text 69 = .ok (.iconst (-1), 1) := by decide +kernel
theorem dX11_text_70 : decode cX11_text 70 = .ok (.ireturn, 1) := by decide +kernel
theorem dX11_text_71 : decode cX11_text 71 = .ok (.iinc 2 1, 3) := by decide +kernel
theorem dX11_text_74 : decode cX11_text 74 = .ok (.goto (-19), 3) := by decide +kernel
theorem dX11_text_77 : decode cX11_text 77 = .ok (.aload_n 0, 1) := by decide +kernel
theorem dX11_text_78 : decode cX11_text 78 = .ok (.invokevirtual 74, 3) := by decide +kernel
theorem dX11_text_81 : decode cX11_text 81 = .ok (.iload_n 2, 1) := by decide +kernel
theorem dX11_text_82 : decode cX11_text 82 = .ok (.ireturn, 1) := by decide +kernel
theorem dX11_fault_0 : decode cX11_fault 0 = .ok (.aload_n 0, 1) := by decide +kernel
theorem dX11_fault_1 : decode cX11_fault 1 = .ok (.iconst 0, 1) := by decide +kernel
theorem dX11_fault_2 : decode cX11_fault 2 = .ok (.putfield 77, 3) := by decide +kernel
theorem dX11_fault_5 : decode cX11_fault 5 = .ok (.iload_n 1, 1) := by decide +kernel
theorem dX11_fault_6 : decode cX11_fault 6 = .ok (.ifCond .ne 10, 3) := by decide +kernel
theorem dX11_fault_9 : decode cX11_fault 9 = .ok (.aload_n 0, 1) := by decide +kernel
theorem dX11_fault_10 : decode cX11_fault 10 = .ok (.getfield 83, 3) := by decide +kernel
theorem dX11_fault_13 : decode cX11_fault 13 = .ok (.goto 16, 3) := by decide +kernel
theorem dX11_fault_16 : decode cX11_fault 16 = .ok (.iload_n 1, 1) := by decide +kernel
theorem dX11_fault_17 : decode cX11_fault 17 = .ok (.iconst 1, 1) := by decide +kernel
theorem dX11_fault_18 : decode cX11_fault 18 = .ok (.if_icmp .ne 10, 3) := by decide +kernel
theorem dX11_fault_21 : decode cX11_fault 21 = .ok (.aload_n 0, 1) := by decide +kernel
theorem dX11_fault_22 : decode cX11_fault 22 = .ok (.getfield 16, 3) := by decide +kernel
theorem dX11_fault_25 : decode cX11_fault 25 = .ok (.goto 4, 3) := by decide +kernel
theorem dX11_fault_28 : decode cX11_fault 28 = .ok (.iconst (-1), 1) := by decide +kernel
theorem dX11_fault_29 : decode cX11_fault 29 = .ok (.ireturn, 1) := by decide +kernel
theorem dX11_named_0 : decode cX11_named 0 = .ok (.aload_n 0, 1) := by decide +kernel
theorem dX11_named_1 : decode cX11_named 1 = .ok (.iconst 0, 1) := by decide +kernel
theorem dX11_named_2 : decode cX11_named 2 = .ok (.putfield 77, 3) := by decide +kernel
theorem dX11_named_5 : decode cX11_named 5 = .ok (.aload_n 0, 1) := by decide +kernel
theorem dX11_named_6 : decode cX11_named 6 = .ok (.getfield 20, 3) := by decide +kernel
theorem dX11_named_9 : decode cX11_named 9 = .ok (.iconst 0, 1) := by decide +kernel
theorem dX11_named_10 : decode cX11_named 10 = .ok (.aload_n 0, 1) := by decide +kernel
theorem dX11_named_11 : decode cX11_named 11 = .ok (.getfield 189, 3) := by decide +kernel
theorem dX11_named_14 : decode cX11_named 14 = .ok (.iload_n 1, 1) := by decide +kernel
theorem dX11_named_15 : decode cX11_named 15 = .ok (.invokestatic 211, 3) := by decide +kernel
theorem dX11_named_18 : decode cX11_named 18 = .ok (.ireturn, 1) := by decide +kernel
theorem dX11_of_0 : decode cX11_of 0 = .ok (.aload_n 0, 1) := by decide +kernel
theorem dX11_of_1 : decode cX11_of 1 = .ok (.getfield 44, 3) := by decide +kernel
theorem dX11_of_4 : decode cX11_of 4 = .ok (.sipush 320, 3) := by decide +kernel
theorem dX11_of_7 : decode cX11_of 7 = .ok (.aload_n 0, 1) := by decide +kernel
theorem dX11_of_8 : decode cX11_of 8 = .ok (.getfield 202, 3) := by decide +kernel
theorem dX11_of_11 : decode cX11_of 11 = .ok (.imul, 1) := by decide +kernel
theorem dX11_of_12 : decode cX11_of 12 = .ok (.iload_n 1, 1) := by decide +kernel
theorem dX11_of_13 : decode cX11_of 13 = .ok (.iadd, 1) := by decide +kernel
theorem dX11_of_14 : decode cX11_of 14 = .ok (.iaload, 1) := by decide +kernel
theorem dX11_of_15 : decode cX11_of 15 = .ok (.ireturn, 1) := by decide +kernel
theorem dX11_lay_0 : decode cX11_lay 0 = .ok (.aload_n 0, 1) := by decide +kernel
theorem dX11_lay_1 : decode cX11_lay 1 = .ok (.getfield 44, 3) := by decide +kernel
theorem dX11_lay_4 : decode cX11_lay 4 = .ok (.sipush 320, 3) := by decide +kernel
theorem dX11_lay_7 : decode cX11_lay 7 = .ok (.aload_n 0, 1) := by decide +kernel
theorem dX11_lay_8 : decode cX11_lay 8 = .ok (.getfield 202, 3) := by decide +kernel
theorem dX11_lay_11 : decode cX11_lay 11 = .ok (.imul, 1) := by decide +kernel
theorem dX11_lay_12 : decode cX11_lay 12 = .ok (.iload_n 1, 1) := by decide +kernel
theorem dX11_lay_13 : decode cX11_lay 13 = .ok (.iadd, 1) := by decide +kernel
theorem dX11_lay_14 : decode cX11_lay 14 = .ok (.iload_n 2, 1) := by decide +kernel
theorem dX11_lay_15 : decode cX11_lay 15 = .ok (.iastore, 1) := by decide +kernel
theorem dX11_lay_16 : decode cX11_lay 16 = .ok (.return_, 1) := by decide +kernel
theorem dX11_many_0 : decode cX11_many 0 = .ok (.aload_n 0, 1) := by decide +kernel
theorem dX11_many_1 : decode cX11_many 1 = .ok (.iconst 0, 1) := by decide +kernel
theorem dX11_many_2 : decode cX11_many 2 = .ok (.invokevirtual 234, 3) := by decide +kernel
theorem dX11_many_5 : decode cX11_many 5 = .ok (.ireturn, 1) := by decide +kernel
theorem dX11_isHand_0 : decode cX11_isHand 0 = .ok (.iload_n 1, 1) := by decide +kernel
theorem dX11_isHand_1 : decode cX11_isHand 1 = .ok (.ifCond .lt 15, 3) := by decide +kernel
theorem dX11_isHand_4 : decode cX11_isHand 4 = .ok (.iload_n 1, 1) := by decide +kernel
theorem dX11_isHand_5 : decode cX11_isHand 5 = .ok (.aload_n 0, 1) := by decide +kernel
theorem dX11_isHand_6 : decode cX11_isHand 6 = .ok (.getfield 189, 3) := by decide +kernel
theorem dX11_isHand_9 : decode cX11_isHand 9 = .ok (.if_icmp .ge 7, 3) := by decide +kernel
theorem dX11_isHand_12 : decode cX11_isHand 12 = .ok (.iconst 1, 1) := by decide +kernel
theorem dX11_isHand_13 : decode cX11_isHand 13 = .ok (.goto 4, 3) := by decide +kernel
theorem dX11_isHand_16 : decode cX11_isHand 16 = .ok (.iconst 0, 1) := by decide +kernel
theorem dX11_isHand_17 : decode cX11_isHand 17 = .ok (.ireturn, 1) := by decide +kernel
theorem dX11_byText_0 : decode cX11_byText 0 = .ok (.aload_n 0, 1) := by decide +kernel
theorem dX11_byText_1 : decode cX11_byText 1 = .ok (.iconst 0, 1) := by decide +kernel
theorem dX11_byText_2 : decode cX11_byText 2 = .ok (.putfield 237, 3) := by decide +kernel
theorem dX11_byText_5 : decode cX11_byText 5 = .ok (.aload_n 0, 1) := by decide +kernel
theorem dX11_byText_6 : decode cX11_byText 6 = .ok (.iconst 0, 1) := by decide +kernel
theorem dX11_byText_7 : decode cX11_byText 7 = .ok (.putfield 241, 3) := by decide +kernel
theorem dX11_byText_10 : decode cX11_byText 10 = .ok (.aload_n 0, 1) := by decide +kernel
theorem dX11_byText_11 : decode cX11_byText 11 = .ok (.iconst 0, 1) := by decide +kernel
theorem dX11_byText_12 : decode cX11_byText 12 = .ok (.putfield 244, 3) := by decide +kernel
theorem dX11_byText_15 : decode cX11_byText 15 = .ok (.aload_n 0, 1) := by decide +kernel
theorem dX11_byText_16 : decode cX11_byText 16 = .ok (.aload_n 0, 1) := by decide +kernel
theorem dX11_byText_17 : decode cX11_byText 17 = .ok (.getfield 195, 3) := by decide +kernel
theorem dX11_byText_20 : decode cX11_byText 20 = .ok (.putfield 247, 3) := by decide +kernel
theorem dX11_byText_23 : decode cX11_byText 23 = .ok (.iconst 0, 1) := by decide +kernel
theorem dX11_byText_24 : decode cX11_byText 24 = .ok (.istore_n 1, 1) := by decide +kernel
theorem dX11_byText_25 : decode cX11_byText 25 = .ok (.iload_n 1, 1) := by decide +kernel
theorem dX11_byText_26 : decode cX11_byText 26 = .ok (.bipush 24, 2) := by decide +kernel
theorem dX11_byText_28 : decode cX11_byText 28 = .ok (.if_icmp .ge 16, 3) := by decide +kernel
theorem dX11_byText_31 : decode cX11_byText 31 = .ok (.aload_n 0, 1) := by decide +kernel
theorem dX11_byText_32 : decode cX11_byText 32 = .ok (.getfield 59, 3) := by decide +kernel
theorem dX11_byText_35 : decode cX11_byText 35 = .ok (.iload_n 1, 1) := by decide +kernel
theorem dX11_byText_36 : decode cX11_byText 36 = .ok (.iload_n 1, 1) := by decide +kernel
theorem dX11_byText_37 : decode cX11_byText 37 = .ok (.iastore, 1) := by decide +kernel
theorem dX11_byText_38 : decode cX11_byText 38 = .ok (.iinc 1 1, 3) := by decide +kernel
theorem dX11_byText_41 : decode cX11_byText 41 = .ok (.goto (-16), 3) := by decide +kernel
theorem dX11_byText_44 : decode cX11_byText 44 = .ok (.return_, 1) := by decide +kernel
theorem dX11_begin_0 : decode cX11_begin 0 = .ok (.iconst 0, 1) := by decide +kernel
theorem dX11_begin_1 : decode cX11_begin 1 = .ok (.istore_n 1, 1) := by decide +kernel
theorem dX11_begin_2 : decode cX11_begin 2 = .ok (.iload_n 1, 1) := by decide +kernel
theorem dX11_begin_3 : decode cX11_begin 3 = .ok (.sipush 320, 3) := by decide +kernel
theorem dX11_begin_6 : decode cX11_begin 6 = .ok (.if_icmp .ge 15, 3) := by decide +kernel
theorem dX11_begin_9 : decode cX11_begin 9 = .ok (.aload_n 0, 1) := by decide +kernel
theorem dX11_begin_10 : decode cX11_begin 10 = .ok (.iload_n 1, 1) := by decide +kernel
theorem dX11_begin_11 : decode cX11_begin 11 = .ok (.iconst 0, 1) := by decide +kernel
theorem dX11_begin_12 : decode cX11_begin 12 = .ok (.invokevirtual 250, 3) := by decide +kernel
theorem dX11_begin_15 : decode cX11_begin 15 = .ok (.iinc 1 1, 3) := by decide +kernel
theorem dX11_begin_18 : decode cX11_begin 18 = .ok (.goto (-16), 3) := by decide +kernel
theorem dX11_begin_21 : decode cX11_begin 21 = .ok (.iconst 0, 1) := by decide +kernel
theorem dX11_begin_22 : decode cX11_begin 22 = .ok (.istore_n 1, 1) := by decide +kernel
theorem dX11_begin_23 : decode cX11_begin 23 = .ok (.iload_n 1, 1) := by decide +kernel
theorem dX11_begin_24 : decode cX11_begin 24 = .ok (.aload_n 0, 1) := by decide +kernel
theorem dX11_begin_25 : decode cX11_begin 25 = .ok (.getfield 192, 3) := by decide +kernel
theorem dX11_begin_28 : decode cX11_begin 28 = .ok (.if_icmp .ge 35, 3) := by decide +kernel
theorem dX11_begin_31 : decode cX11_begin 31 = .ok (.aload_n 0, 1) := by decide +kernel
theorem dX11_begin_32 : decode cX11_begin 32 = .ok (.aload_n 0, 1) := by decide +kernel
theorem dX11_begin_33 : decode cX11_begin 33 = .ok (.aload_n 0, 1) := by decide +kernel
theorem dX11_begin_34 : decode cX11_begin 34 = .ok (.getfield 23, 3) := by decide +kernel
theorem dX11_begin_37 : decode cX11_begin 37 = .ok (.iload_n 1, 1) := by decide +kernel
theorem dX11_begin_38 : decode cX11_begin 38 = .ok (.iaload, 1) := by decide +kernel
theorem dX11_begin_39 : decode cX11_begin 39 = .ok (.invokevirtual 254, 3) := by decide +kernel
theorem dX11_begin_42 : decode cX11_begin 42 = .ok (.aload_n 0, 1) := by decide +kernel
theorem dX11_begin_43 : decode cX11_begin 43 = .ok (.getfield 23, 3) := by decide +kernel
theorem dX11_begin_46 : decode cX11_begin 46 = .ok (.iload_n 1, 1) := by decide +kernel
theorem dX11_begin_47 : decode cX11_begin 47 = .ok (.iaload, 1) := by decide +kernel
theorem dX11_begin_48 : decode cX11_begin 48 = .ok (.aload_n 0, 1) := by decide +kernel
theorem dX11_begin_49 : decode cX11_begin 49 = .ok (.getfield 26, 3) := by decide +kernel
theorem dX11_begin_52 : decode cX11_begin 52 = .ok (.iload_n 1, 1) := by decide +kernel
theorem dX11_begin_53 : decode cX11_begin 53 = .ok (.iaload, 1) := by decide +kernel
theorem dX11_begin_54 : decode cX11_begin 54 = .ok (.invokevirtual 257, 3) := by decide +kernel
theorem dX11_begin_57 : decode cX11_begin 57 = .ok (.iinc 1 1, 3) := by decide +kernel
theorem dX11_begin_60 : decode cX11_begin 60 = .ok (.goto (-37), 3) := by decide +kernel
theorem dX11_begin_63 : decode cX11_begin 63 = .ok (.iconst 0, 1) := by decide +kernel
theorem dX11_begin_64 : decode cX11_begin 64 = .ok (.istore_n 1, 1) := by decide +kernel
theorem dX11_begin_65 : decode cX11_begin 65 = .ok (.iload_n 1, 1) := by decide +kernel
theorem dX11_begin_66 : decode cX11_begin 66 = .ok (.iconst 5, 1) := by decide +kernel
theorem dX11_begin_67 : decode cX11_begin 67 = .ok (.if_icmp .ge 19, 3) := by decide +kernel
theorem dX11_begin_70 : decode cX11_begin 70 = .ok (.aload_n 0, 1) := by decide +kernel
theorem dX11_begin_71 : decode cX11_begin 71 = .ok (.sipush 220, 3) := by decide +kernel
theorem dX11_begin_74 : decode cX11_begin 74 = .ok (.iload_n 1, 1) := by decide +kernel
theorem dX11_begin_75 : decode cX11_begin 75 = .ok (.iadd, 1) := by decide +kernel
theorem dX11_begin_76 : decode cX11_begin 76 = .ok (.iconst (-1), 1) := by decide +kernel
theorem dX11_begin_77 : decode cX11_begin 77 = .ok (.invokevirtual 250, 3) := by decide +kernel
theorem dX11_begin_80 : decode cX11_begin 80 = .ok (.iinc 1 1, 3) := by decide +kernel
theorem dX11_begin_83 : decode cX11_begin 83 = .ok (.goto (-18), 3) := by decide +kernel
theorem dX11_begin_86 : decode cX11_begin 86 = .ok (.iconst 0, 1) := by decide +kernel
theorem dX11_begin_87 : decode cX11_begin 87 = .ok (.istore_n 1, 1) := by decide +kernel
theorem dX11_begin_88 : decode cX11_begin 88 = .ok (.iload_n 1, 1) := by decide +kernel
theorem dX11_begin_89 : decode cX11_begin 89 = .ok (.bipush 24, 2) := by decide +kernel
theorem dX11_begin_91 : decode cX11_begin 91 = .ok (.if_icmp .ge 20, 3) := by decide +kernel
theorem dX11_begin_94 : decode cX11_begin 94 = .ok (.aload_n 0, 1) := by decide +kernel
theorem dX11_begin_95 : decode cX11_begin 95 = .ok (.sipush 230, 3) := by decide +kernel
theorem dX11_begin_98 : decode cX11_begin 98 = .ok (.iload_n 1, 1) := by decide +kernel
theorem dX11_begin_99 : decode cX11_begin 99 = .ok (.iadd, 1) := by decide +kernel
theorem dX11_begin_100 : decode cX11_begin 100 = .ok (.bipush (-5), 2) := by decide +kernel
theorem dX11_begin_102 : decode cX11_begin 102 = .ok (.invokevirtual 250, 3) := by decide +kernel
theorem dX11_begin_105 : decode cX11_begin 105 = .ok (.iinc 1 1, 3) := by decide +kernel
theorem dX11_begin_108 : decode cX11_begin 108 = .ok (.goto (-20), 3) := by decide +kernel
theorem dX11_begin_111 : decode cX11_begin 111 = .ok (.aload_n 0, 1) := by decide +kernel
theorem dX11_begin_112 : decode cX11_begin 112 = .ok (.invokevirtual 261, 3) := by decide +kernel
theorem dX11_begin_115 : decode cX11_begin 115 = .ok (.return_, 1) := by decide +kernel
theorem dX11_copyBank_0 : decode cX11_copyBank 0 = .ok (.iconst 0, 1) := by decide +kernel
theorem dX11_copyBank_1 : decode cX11_copyBank 1 = .ok (.istore_n 3, 1) := by decide +kernel
theorem dX11_copyBank_2 : decode cX11_copyBank 2 = .ok (.iload_n 3, 1) := by decide +kernel
theorem dX11_copyBank_3 : decode cX11_copyBank 3 = .ok (.sipush 320, 3) := by decide +kernel
theorem dX11_copyBank_6 : decode cX11_copyBank 6 = .ok (.if_icmp .ge 33, 3) := by decide +kernel
theorem dX11_copyBank_9 : decode cX11_copyBank 9 = .ok (.aload_n 0, 1) := by decide +kernel
theorem dX11_copyBank_10 : decode cX11_copyBank 10 = .ok (.getfield 44, 3) := by decide +kernel
theorem dX11_copyBank_13 : decode cX11_copyBank 13 = .ok (.sipush 320, 3) := by decide +kernel
theorem dX11_copyBank_16 : decode cX11_copyBank 16 = .ok (.iload_n 2, 1) := by decide +kernel
theorem dX11_copyBank_17 : decode cX11_copyBank 17 = .ok (.imul, 1) := by decide +kernel
theorem dX11_copyBank_18 : decode cX11_copyBank 18 = .ok (.iload_n 3, 1) := by decide +kernel
theorem dX11_copyBank_19 : decode cX11_copyBank 19 = .ok (.iadd, 1) := by decide +kernel
theorem dX11_copyBank_20 : decode cX11_copyBank 20 = .ok (.aload_n 0, 1) := by decide +kernel
theorem dX11_copyBank_21 : decode cX11_copyBank 21 = .ok (.getfield 44, 3) := by decide +kernel
theorem dX11_copyBank_24 : decode cX11_copyBank 24 = .ok (.sipush 320, 3) := by decide +kernel
theorem dX11_copyBank_27 : decode cX11_copyBank 27 = .ok (.iload_n 1, 1) := by decide +kernel
theorem dX11_copyBank_28 : decode cX11_copyBank 28 = .ok (.imul, 1) := by decide +kernel
theorem dX11_copyBank_29 : decode cX11_copyBank 29 = .ok (.iload_n 3, 1) := by decide +kernel
theorem dX11_copyBank_30 : decode cX11_copyBank 30 = .ok (.iadd, 1) := by decide +kernel
theorem dX11_copyBank_31 : decode cX11_copyBank 31 = .ok (.iaload, 1) := by decide +kernel
theorem dX11_copyBank_32 : decode cX11_copyBank 32 = .ok (.iastore, 1) := by decide +kernel
theorem dX11_copyBank_33 : decode cX11_copyBank 33 = .ok (.iinc 3 1, 3) := by decide +kernel
theorem dX11_copyBank_36 : decode cX11_copyBank 36 = .ok (.goto (-34), 3) := by decide +kernel
theorem dX11_copyBank_39 : decode cX11_copyBank 39 = .ok (.return_, 1) := by decide +kernel
theorem dX11_asNow_0 : decode cX11_asNow 0 = .ok (.aload_n 0, 1) := by decide +kernel
theorem dX11_asNow_1 : decode cX11_asNow 1 = .ok (.iconst 0, 1) := by decide +kernel
theorem dX11_asNow_2 : decode cX11_asNow 2 = .ok (.iconst 1, 1) := by decide +kernel
theorem dX11_asNow_3 : decode cX11_asNow 3 = .ok (.invokevirtual 264, 3) := by decide +kernel
theorem dX11_asNow_6 : decode cX11_asNow 6 = .ok (.iconst 0, 1) := by decide +kernel
theorem dX11_asNow_7 : decode cX11_asNow 7 = .ok (.istore_n 1, 1) := by decide +kernel
theorem dX11_asNow_8 : decode cX11_asNow 8 = .ok (.iload_n 1, 1) := by decide +kernel
theorem dX11_asNow_9 : decode cX11_asNow 9 = .ok (.sipush 600, 3) := by decide +kernel
theorem dX11_asNow_12 : decode cX11_asNow 12 = .ok (.if_icmp .ge 73, 3) := by decide +kernel
theorem dX11_asNow_15 : decode cX11_asNow 15 = .ok (.aload_n 0, 1) := by decide +kernel
theorem dX11_asNow_16 : decode cX11_asNow 16 = .ok (.getfield 47, 3) := by decide +kernel
theorem dX11_asNow_19 : decode cX11_asNow 19 = .ok (.sipush 600, 3) := by decide +kernel
theorem dX11_asNow_22 : decode cX11_asNow 22 = .ok (.iload_n 1, 1) := by decide +kernel
theorem dX11_asNow_23 : decode cX11_asNow 23 = .ok (.iadd, 1) := by decide +kernel
theorem dX11_asNow_24 : decode cX11_asNow 24 = .ok (.aload_n 0, 1) := by decide +kernel
theorem dX11_asNow_25 : decode cX11_asNow 25 = .ok (.getfield 47, 3) := by decide +kernel
theorem dX11_asNow_28 : decode cX11_asNow 28 = .ok (.iload_n 1, 1) := by decide +kernel
theorem dX11_asNow_29 : decode cX11_asNow 29 = .ok (.iaload, 1) := by decide +kernel
theorem dX11_asNow_30 : decode cX11_asNow 30 = .ok (.iastore, 1) := by decide +kernel
theorem dX11_asNow_31 : decode cX11_asNow 31 = .ok (.aload_n 0, 1) := by decide +kernel
theorem dX11_asNow_32 : decode cX11_asNow 32 = .ok (.getfield 50, 3) := by decide +kernel
theorem dX11_asNow_35 : decode cX11_asNow 35 = .ok (.sipush 600, 3) := by decide +kernel
theorem dX11_asNow_38 : decode cX11_asNow 38 = .ok (.iload_n 1, 1) := by decide +kernel
theorem dX11_asNow_39 : decode cX11_asNow 39 = .ok (.iadd, 1) := by decide +kernel
theorem dX11_asNow_40 : decode cX11_asNow 40 = .ok (.aload_n 0, 1) := by decide +kernel
theorem dX11_asNow_41 : decode cX11_asNow 41 = .ok (.getfield 50, 3) := by decide +kernel
theorem dX11_asNow_44 : decode cX11_asNow 44 = .ok (.iload_n 1, 1) := by decide +kernel
theorem dX11_asNow_45 : decode cX11_asNow 45 = .ok (.iaload, 1) := by decide +kernel
theorem dX11_asNow_46 : decode cX11_asNow 46 = .ok (.iastore, 1) := by decide +kernel
theorem dX11_asNow_47 : decode cX11_asNow 47 = .ok (.aload_n 0, 1) := by decide +kernel
theorem dX11_asNow_48 : decode cX11_asNow 48 = .ok (.getfield 53, 3) := by decide +kernel
theorem dX11_asNow_51 : decode cX11_asNow 51 = .ok (.sipush 600, 3) := by decide +kernel
theorem dX11_asNow_54 : decode cX11_asNow 54 = .ok (.iload_n 1, 1) := by decide +kernel
theorem dX11_asNow_55 : decode cX11_asNow 55 = .ok (.iadd, 1) := by decide +kernel
theorem dX11_asNow_56 : decode cX11_asNow 56 = .ok (.aload_n 0, 1) := by decide +kernel
theorem dX11_asNow_57 : decode cX11_asNow 57 = .ok (.getfield 53, 3) := by decide +kernel
theorem dX11_asNow_60 : decode cX11_asNow 60 = .ok (.iload_n 1, 1) := by decide +kernel
theorem dX11_asNow_61 : decode cX11_asNow 61 = .ok (.iaload, 1) := by decide +kernel
theorem dX11_asNow_62 : decode cX11_asNow 62 = .ok (.iastore, 1) := by decide +kernel
theorem dX11_asNow_63 : decode cX11_asNow 63 = .ok (.aload_n 0, 1) := by decide +kernel
theorem dX11_asNow_64 : decode cX11_asNow 64 = .ok (.getfield 56, 3) := by decide +kernel
theorem dX11_asNow_67 : decode cX11_asNow 67 = .ok (.sipush 600, 3) := by decide +kernel
theorem dX11_asNow_70 : decode cX11_asNow 70 = .ok (.iload_n 1, 1) := by decide +kernel
theorem dX11_asNow_71 : decode cX11_asNow 71 = .ok (.iadd, 1) := by decide +kernel
theorem dX11_asNow_72 : decode cX11_asNow 72 = .ok (.aload_n 0, 1) := by decide +kernel
theorem dX11_asNow_73 : decode cX11_asNow 73 = .ok (.getfield 56, 3) := by decide +kernel
theorem dX11_asNow_76 : decode cX11_asNow 76 = .ok (.iload_n 1, 1) := by decide +kernel
theorem dX11_asNow_77 : decode cX11_asNow 77 = .ok (.iaload, 1) := by decide +kernel
theorem dX11_asNow_78 : decode cX11_asNow 78 = .ok (.iastore, 1) := by decide +kernel
theorem dX11_asNow_79 : decode cX11_asNow 79 = .ok (.iinc 1 1, 3) := by decide +kernel
theorem dX11_asNow_82 : decode cX11_asNow 82 = .ok (.goto (-74), 3) := by decide +kernel
theorem dX11_asNow_85 : decode cX11_asNow 85 = .ok (.aload_n 0, 1) := by decide +kernel
theorem dX11_asNow_86 : decode cX11_asNow 86 = .ok (.iconst 1, 1) := by decide +kernel
theorem dX11_asNow_87 : decode cX11_asNow 87 = .ok (.putfield 202, 3) := by decide +kernel
theorem dX11_asNow_90 : decode cX11_asNow 90 = .ok (.aload_n 0, 1) := by decide +kernel
theorem dX11_asNow_91 : decode cX11_asNow 91 = .ok (.invokevirtual 261, 3) := by decide +kernel
theorem dX11_asNow_94 : decode cX11_asNow 94 = .ok (.return_, 1) := by decide +kernel
theorem dX11_asTold_0 : decode cX11_asTold 0 = .ok (.aload_n 0, 1) := by decide +kernel
theorem dX11_asTold_1 : decode cX11_asTold 1 = .ok (.iconst 1, 1) := by decide +kernel
theorem dX11_asTold_2 : decode cX11_asTold 2 = .ok (.putfield 202, 3) := by decide +kernel
theorem dX11_asTold_5 : decode cX11_asTold 5 = .ok (.aload_n 0, 1) := by decide +kernel
theorem dX11_asTold_6 : decode cX11_asTold 6 = .ok (.invokevirtual 205, 3) := by decide +kernel
theorem dX11_asTold_9 : decode cX11_asTold 9 = .ok (.return_, 1) := by decide +kernel
theorem dX11_asItIs_0 : decode cX11_asItIs 0 = .ok (.aload_n 0, 1) := by decide +kernel
theorem dX11_asItIs_1 : decode cX11_asItIs 1 = .ok (.iconst 0, 1) := by decide +kernel
theorem dX11_asItIs_2 : decode cX11_asItIs 2 = .ok (.putfield 202, 3) := by decide +kernel
theorem dX11_asItIs_5 : decode cX11_asItIs 5 = .ok (.aload_n 0, 1) := by decide +kernel
theorem dX11_asItIs_6 : decode cX11_asItIs 6 = .ok (.invokevirtual 261, 3) := by decide +kernel
theorem dX11_asItIs_9 : decode cX11_asItIs 9 = .ok (.return_, 1) := by decide +kernel
theorem dX11_logs_0 : decode cX11_logs 0 = .ok (.sipush 600, 3) := by decide +kernel
theorem dX11_logs_3 : decode cX11_logs 3 = .ok (.aload_n 0, 1) := by decide +kernel
theorem dX11_logs_4 : decode cX11_logs 4 = .ok (.getfield 202, 3) := by decide +kernel
theorem dX11_logs_7 : decode cX11_logs 7 = .ok (.imul, 1) := by decide +kernel
theorem dX11_logs_8 : decode cX11_logs 8 = .ok (.aload_n 0, 1) := by decide +kernel
theorem dX11_logs_9 : decode cX11_logs 9 = .ok (.sipush 227, 3) := by decide +kernel
theorem dX11_logs_12 : decode cX11_logs 12 = .ok (.invokevirtual 234, 3) := by decide +kernel
theorem dX11_logs_15 : decode cX11_logs 15 = .ok (.iadd, 1) := by decide +kernel
theorem dX11_logs_16 : decode cX11_logs 16 = .ok (.istore 5, 2) := by decide +kernel
theorem dX11_logs_18 : decode cX11_logs 18 = .ok (.aload_n 0, 1) := by decide +kernel
theorem dX11_logs_19 : decode cX11_logs 19 = .ok (.getfield 47, 3) := by decide +kernel
theorem dX11_logs_22 : decode cX11_logs 22 = .ok (.iload 5, 2) := by decide +kernel
theorem dX11_logs_24 : decode cX11_logs 24 = .ok (.iload_n 1, 1) := by decide +kernel
theorem dX11_logs_25 : decode cX11_logs 25 = .ok (.iastore, 1) := by decide +kernel
theorem dX11_logs_26 : decode cX11_logs 26 = .ok (.aload_n 0, 1) := by decide +kernel
theorem dX11_logs_27 : decode cX11_logs 27 = .ok (.getfield 50, 3) := by decide +kernel
theorem dX11_logs_30 : decode cX11_logs 30 = .ok (.iload 5, 2) := by decide +kernel
theorem dX11_logs_32 : decode cX11_logs 32 = .ok (.iload_n 2, 1) := by decide +kernel
theorem dX11_logs_33 : decode cX11_logs 33 = .ok (.iastore, 1) := by decide +kernel
theorem dX11_logs_34 : decode cX11_logs 34 = .ok (.aload_n 0, 1) := by decide +kernel
theorem dX11_logs_35 : decode cX11_logs 35 = .ok (.getfield 53, 3) := by decide +kernel
theorem dX11_logs_38 : decode cX11_logs 38 = .ok (.iload 5, 2) := by decide +kernel
theorem dX11_logs_40 : decode cX11_logs 40 = .ok (.iload_n 3, 1) := by decide +kernel
theorem dX11_logs_41 : decode cX11_logs 41 = .ok (.iastore, 1) := by decide +kernel
theorem dX11_logs_42 : decode cX11_logs 42 = .ok (.aload_n 0, 1) := by decide +kernel
theorem dX11_logs_43 : decode cX11_logs 43 = .ok (.getfield 56, 3) := by decide +kernel
