theorem dX11_logs_46 : decode cX11_logs 46 = .ok (.iload 5, 2) := by decide +kernel
theorem dX11_logs_48 : decode cX11_logs 48 = .ok (.iload 4, 2) := by decide +kernel
theorem dX11_logs_50 : decode cX11_logs 50 = .ok (.iastore, 1) := by decide +kernel
theorem dX11_logs_51 : decode cX11_logs 51 = .ok (.aload_n 0, 1) := by decide +kernel
theorem dX11_logs_52 : decode cX11_logs 52 = .ok (.sipush 227, 3) := by decide +kernel
theorem dX11_logs_55 : decode cX11_logs 55 = .ok (.aload_n 0, 1) := by decide +kernel
theorem dX11_logs_56 : decode cX11_logs 56 = .ok (.sipush 227, 3) := by decide +kernel
theorem dX11_logs_59 : decode cX11_logs 59 = .ok (.invokevirtual 234, 3) := by decide +kernel
theorem dX11_logs_62 : decode cX11_logs 62 = .ok (.iconst 1, 1) := by decide +kernel
theorem dX11_logs_63 : decode cX11_logs 63 = .ok (.iadd, 1) := by decide +kernel
theorem dX11_logs_64 : decode cX11_logs 64 = .ok (.invokevirtual 250, 3) := by decide +kernel
theorem dX11_logs_67 : decode cX11_logs 67 = .ok (.return_, 1) := by decide +kernel
theorem dX11_placeOf_0 : decode cX11_placeOf 0 = .ok (.iconst 0, 1) := by decide +kernel
theorem dX11_placeOf_1 : decode cX11_placeOf 1 = .ok (.istore_n 2, 1) := by decide +kernel
theorem dX11_placeOf_2 : decode cX11_placeOf 2 = .ok (.iload_n 2, 1) := by decide +kernel
theorem dX11_placeOf_3 : decode cX11_placeOf 3 = .ok (.aload_n 0, 1) := by decide +kernel
theorem dX11_placeOf_4 : decode cX11_placeOf 4 = .ok (.invokevirtual 267, 3) := by decide +kernel
theorem dX11_placeOf_7 : decode cX11_placeOf 7 = .ok (.if_icmp .ge 20, 3) := by decide +kernel
theorem dX11_placeOf_10 : decode cX11_placeOf 10 = .ok (.aload_n 0, 1) := by decide +kernel
theorem dX11_placeOf_11 : decode cX11_placeOf 11 = .ok (.iconst 1, 1) := by decide +kernel
theorem dX11_placeOf_12 : decode cX11_placeOf 12 = .ok (.iload_n 2, 1) := by decide +kernel
theorem dX11_placeOf_13 : decode cX11_placeOf 13 = .ok (.iadd, 1) := by decide +kernel
theorem dX11_placeOf_14 : decode cX11_placeOf 14 = .ok (.invokevirtual 234, 3) := by decide +kernel
theorem dX11_placeOf_17 : decode cX11_placeOf 17 = .ok (.iload_n 1, 1) := by decide +kernel
theorem dX11_placeOf_18 : decode cX11_placeOf 18 = .ok (.if_icmp .ge 9, 3) := by decide +kernel
theorem dX11_placeOf_21 : decode cX11_placeOf 21 = .ok (.iinc 2 1, 3) := by decide +kernel
theorem dX11_placeOf_24 : decode cX11_placeOf 24 = .ok (.goto (-22), 3) := by decide +kernel
theorem dX11_placeOf_27 : decode cX11_placeOf 27 = .ok (.iload_n 2, 1) := by decide +kernel
theorem dX11_placeOf_28 : decode cX11_placeOf 28 = .ok (.ireturn, 1) := by decide +kernel
theorem dX11_isThere_0 : decode cX11_isThere 0 = .ok (.iload_n 1, 1) := by decide +kernel
theorem dX11_isThere_1 : decode cX11_isThere 1 = .ok (.aload_n 0, 1) := by decide +kernel
theorem dX11_isThere_2 : decode cX11_isThere 2 = .ok (.invokevirtual 267, 3) := by decide +kernel
theorem dX11_isThere_5 : decode cX11_isThere 5 = .ok (.if_icmp .ge 18, 3) := by decide +kernel
theorem dX11_isThere_8 : decode cX11_isThere 8 = .ok (.aload_n 0, 1) := by decide +kernel
theorem dX11_isThere_9 : decode cX11_isThere 9 = .ok (.iconst 1, 1) := by decide +kernel
theorem dX11_isThere_10 : decode cX11_isThere 10 = .ok (.iload_n 1, 1) := by decide +kernel
theorem dX11_isThere_11 : decode cX11_isThere 11 = .ok (.iadd, 1) := by decide +kernel
theorem dX11_isThere_12 : decode cX11_isThere 12 = .ok (.invokevirtual 234, 3) := by decide +kernel
theorem dX11_isThere_15 : decode cX11_isThere 15 = .ok (.iload_n 2, 1) := by decide +kernel
theorem dX11_isThere_16 : decode cX11_isThere 16 = .ok (.if_icmp .ne 7, 3) := by decide +kernel
theorem dX11_isThere_19 : decode cX11_isThere 19 = .ok (.iconst 1, 1) := by decide +kernel
theorem dX11_isThere_20 : decode cX11_isThere 20 = .ok (.goto 4, 3) := by decide +kernel
theorem dX11_isThere_23 : decode cX11_isThere 23 = .ok (.iconst 0, 1) := by decide +kernel
theorem dX11_isThere_24 : decode cX11_isThere 24 = .ok (.ireturn, 1) := by decide +kernel
theorem dX11_shifts_0 : decode cX11_shifts 0 = .ok (.iload 4, 2) := by decide +kernel
theorem dX11_shifts_2 : decode cX11_shifts 2 = .ok (.ifCond .le 39, 3) := by decide +kernel
theorem dX11_shifts_5 : decode cX11_shifts 5 = .ok (.iload_n 3, 1) := by decide +kernel
theorem dX11_shifts_6 : decode cX11_shifts 6 = .ok (.istore 5, 2) := by decide +kernel
theorem dX11_shifts_8 : decode cX11_shifts 8 = .ok (.iload 5, 2) := by decide +kernel
theorem dX11_shifts_10 : decode cX11_shifts 10 = .ok (.iload_n 2, 1) := by decide +kernel
theorem dX11_shifts_11 : decode cX11_shifts 11 = .ok (.if_icmp .le 27, 3) := by decide +kernel
theorem dX11_shifts_14 : decode cX11_shifts 14 = .ok (.aload_n 0, 1) := by decide +kernel
theorem dX11_shifts_15 : decode cX11_shifts 15 = .ok (.iload_n 1, 1) := by decide +kernel
theorem dX11_shifts_16 : decode cX11_shifts 16 = .ok (.iload 5, 2) := by decide +kernel
theorem dX11_shifts_18 : decode cX11_shifts 18 = .ok (.iadd, 1) := by decide +kernel
theorem dX11_shifts_19 : decode cX11_shifts 19 = .ok (.aload_n 0, 1) := by decide +kernel
theorem dX11_shifts_20 : decode cX11_shifts 20 = .ok (.iload_n 1, 1) := by decide +kernel
theorem dX11_shifts_21 : decode cX11_shifts 21 = .ok (.iload 5, 2) := by decide +kernel
theorem dX11_shifts_23 : decode cX11_shifts 23 = .ok (.iadd, 1) := by decide +kernel
theorem dX11_shifts_24 : decode cX11_shifts 24 = .ok (.iconst 1, 1) := by decide +kernel
theorem dX11_shifts_25 : decode cX11_shifts 25 = .ok (.isub, 1) := by decide +kernel
theorem dX11_shifts_26 : decode cX11_shifts 26 = .ok (.invokevirtual 234, 3) := by decide +kernel
theorem dX11_shifts_29 : decode cX11_shifts 29 = .ok (.invokevirtual 250, 3) := by decide +kernel
theorem dX11_shifts_32 : decode cX11_shifts 32 = .ok (.iinc 5 (-1), 3) := by decide +kernel
theorem dX11_shifts_35 : decode cX11_shifts 35 = .ok (.goto (-27), 3) := by decide +kernel
theorem dX11_shifts_38 : decode cX11_shifts 38 = .ok (.goto 38, 3) := by decide +kernel
theorem dX11_shifts_41 : decode cX11_shifts 41 = .ok (.iload_n 2, 1) := by decide +kernel
theorem dX11_shifts_42 : decode cX11_shifts 42 = .ok (.istore 5, 2) := by decide +kernel
theorem dX11_shifts_44 : decode cX11_shifts 44 = .ok (.iload 5, 2) := by decide +kernel
theorem dX11_shifts_46 : decode cX11_shifts 46 = .ok (.iload_n 3, 1) := by decide +kernel
theorem dX11_shifts_47 : decode cX11_shifts 47 = .ok (.iconst 1, 1) := by decide +kernel
theorem dX11_shifts_48 : decode cX11_shifts 48 = .ok (.isub, 1) := by decide +kernel
theorem dX11_shifts_49 : decode cX11_shifts 49 = .ok (.if_icmp .ge 27, 3) := by decide +kernel
theorem dX11_shifts_52 : decode cX11_shifts 52 = .ok (.aload_n 0, 1) := by decide +kernel
theorem dX11_shifts_53 : decode cX11_shifts 53 = .ok (.iload_n 1, 1) := by decide +kernel
theorem dX11_shifts_54 : decode cX11_shifts 54 = .ok (.iload 5, 2) := by decide +kernel
theorem dX11_shifts_56 : decode cX11_shifts 56 = .ok (.iadd, 1) := by decide +kernel
theorem dX11_shifts_57 : decode cX11_shifts 57 = .ok (.aload_n 0, 1) := by decide +kernel
theorem dX11_shifts_58 : decode cX11_shifts 58 = .ok (.iload_n 1, 1) := by decide +kernel
theorem dX11_shifts_59 : decode cX11_shifts 59 = .ok (.iload 5, 2) := by decide +kernel
theorem dX11_shifts_61 : decode cX11_shifts 61 = .ok (.iadd, 1) := by decide +kernel
theorem dX11_shifts_62 : decode cX11_shifts 62 = .ok (.iconst 1, 1) := by decide +kernel
theorem dX11_shifts_63 : decode cX11_shifts 63 = .ok (.iadd, 1) := by decide +kernel
theorem dX11_shifts_64 : decode cX11_shifts 64 = .ok (.invokevirtual 234, 3) := by decide +kernel
theorem dX11_shifts_67 : decode cX11_shifts 67 = .ok (.invokevirtual 250, 3) := by decide +kernel
theorem dX11_shifts_70 : decode cX11_shifts 70 = .ok (.iinc 5 1, 3) := by decide +kernel
theorem dX11_shifts_73 : decode cX11_shifts 73 = .ok (.goto (-29), 3) := by decide +kernel
theorem dX11_shifts_76 : decode cX11_shifts 76 = .ok (.return_, 1) := by decide +kernel
theorem dX11_shiftsAll_0 : decode cX11_shiftsAll 0 = .ok (.aload_n 0, 1) := by decide +kernel
theorem dX11_shiftsAll_1 : decode cX11_shiftsAll 1 = .ok (.invokevirtual 267, 3) := by decide +kernel
theorem dX11_shiftsAll_4 : decode cX11_shiftsAll 4 = .ok (.istore_n 3, 1) := by decide +kernel
theorem dX11_shiftsAll_5 : decode cX11_shiftsAll 5 = .ok (.aload_n 0, 1) := by decide +kernel
theorem dX11_shiftsAll_6 : decode cX11_shiftsAll 6 = .ok (.iconst 1, 1) := by decide +kernel
theorem dX11_shiftsAll_7 : decode cX11_shiftsAll 7 = .ok (.iload_n 1, 1) := by decide +kernel
theorem dX11_shiftsAll_8 : decode cX11_shiftsAll 8 = .ok (.iload_n 3, 1) := by decide +kernel
theorem dX11_shiftsAll_9 : decode cX11_shiftsAll 9 = .ok (.iload_n 2, 1) := by decide +kernel
theorem dX11_shiftsAll_10 : decode cX11_shiftsAll 10 = .ok (.invokevirtual 271, 3) := by decide +kernel
theorem dX11_shiftsAll_13 : decode cX11_shiftsAll 13 = .ok (.aload_n 0, 1) := by decide +kernel
theorem dX11_shiftsAll_14 : decode cX11_shiftsAll 14 = .ok (.bipush 25, 2) := by decide +kernel
theorem dX11_shiftsAll_16 : decode cX11_shiftsAll 16 = .ok (.iload_n 1, 1) := by decide +kernel
theorem dX11_shiftsAll_17 : decode cX11_shiftsAll 17 = .ok (.iload_n 3, 1) := by decide +kernel
theorem dX11_shiftsAll_18 : decode cX11_shiftsAll 18 = .ok (.iload_n 2, 1) := by decide +kernel
theorem dX11_shiftsAll_19 : decode cX11_shiftsAll 19 = .ok (.invokevirtual 271, 3) := by decide +kernel
theorem dX11_shiftsAll_22 : decode cX11_shiftsAll 22 = .ok (.aload_n 0, 1) := by decide +kernel
theorem dX11_shiftsAll_23 : decode cX11_shiftsAll 23 = .ok (.bipush 49, 2) := by decide +kernel
theorem dX11_shiftsAll_25 : decode cX11_shiftsAll 25 = .ok (.iload_n 1, 1) := by decide +kernel
theorem dX11_shiftsAll_26 : decode cX11_shiftsAll 26 = .ok (.iload_n 3, 1) := by decide +kernel
theorem dX11_shiftsAll_27 : decode cX11_shiftsAll 27 = .ok (.iload_n 2, 1) := by decide +kernel
theorem dX11_shiftsAll_28 : decode cX11_shiftsAll 28 = .ok (.invokevirtual 271, 3) := by decide +kernel
theorem dX11_shiftsAll_31 : decode cX11_shiftsAll 31 = .ok (.aload_n 0, 1) := by decide +kernel
theorem dX11_shiftsAll_32 : decode cX11_shiftsAll 32 = .ok (.bipush 73, 2) := by decide +kernel
theorem dX11_shiftsAll_34 : decode cX11_shiftsAll 34 = .ok (.iload_n 1, 1) := by decide +kernel
theorem dX11_shiftsAll_35 : decode cX11_shiftsAll 35 = .ok (.iload_n 3, 1) := by decide +kernel
theorem dX11_shiftsAll_36 : decode cX11_shiftsAll 36 = .ok (.iload_n 2, 1) := by decide +kernel
theorem dX11_shiftsAll_37 : decode cX11_shiftsAll 37 = .ok (.invokevirtual 271, 3) := by decide +kernel
theorem dX11_shiftsAll_40 : decode cX11_shiftsAll 40 = .ok (.aload_n 0, 1) := by decide +kernel
theorem dX11_shiftsAll_41 : decode cX11_shiftsAll 41 = .ok (.bipush 122, 2) := by decide +kernel
theorem dX11_shiftsAll_43 : decode cX11_shiftsAll 43 = .ok (.iload_n 1, 1) := by decide +kernel
theorem dX11_shiftsAll_44 : decode cX11_shiftsAll 44 = .ok (.iload_n 3, 1) := by decide +kernel
theorem dX11_shiftsAll_45 : decode cX11_shiftsAll 45 = .ok (.iload_n 2, 1) := by decide +kernel
theorem dX11_shiftsAll_46 : decode cX11_shiftsAll 46 = .ok (.invokevirtual 271, 3) := by decide +kernel
theorem dX11_shiftsAll_49 : decode cX11_shiftsAll 49 = .ok (.aload_n 0, 1) := by decide +kernel
theorem dX11_shiftsAll_50 : decode cX11_shiftsAll 50 = .ok (.sipush 146, 3) := by decide +kernel
theorem dX11_shiftsAll_53 : decode cX11_shiftsAll 53 = .ok (.iload_n 1, 1) := by decide +kernel
theorem dX11_shiftsAll_54 : decode cX11_shiftsAll 54 = .ok (.iload_n 3, 1) := by decide +kernel
theorem dX11_shiftsAll_55 : decode cX11_shiftsAll 55 = .ok (.iload_n 2, 1) := by decide +kernel
theorem dX11_shiftsAll_56 : decode cX11_shiftsAll 56 = .ok (.invokevirtual 271, 3) := by decide +kernel
theorem dX11_shiftsAll_59 : decode cX11_shiftsAll 59 = .ok (.aload_n 0, 1) := by decide +kernel
theorem dX11_shiftsAll_60 : decode cX11_shiftsAll 60 = .ok (.bipush 97, 2) := by decide +kernel
theorem dX11_shiftsAll_62 : decode cX11_shiftsAll 62 = .ok (.iload_n 1, 1) := by decide +kernel
theorem dX11_shiftsAll_63 : decode cX11_shiftsAll 63 = .ok (.iload_n 3, 1) := by decide +kernel
theorem dX11_shiftsAll_64 : decode cX11_shiftsAll 64 = .ok (.iconst 1, 1) := by decide +kernel
theorem dX11_shiftsAll_65 : decode cX11_shiftsAll 65 = .ok (.iadd, 1) := by decide +kernel
theorem dX11_shiftsAll_66 : decode cX11_shiftsAll 66 = .ok (.iload_n 2, 1) := by decide +kernel
theorem dX11_shiftsAll_67 : decode cX11_shiftsAll 67 = .ok (.invokevirtual 271, 3) := by decide +kernel
theorem dX11_shiftsAll_70 : decode cX11_shiftsAll 70 = .ok (.aload_n 0, 1) := by decide +kernel
theorem dX11_shiftsAll_71 : decode cX11_shiftsAll 71 = .ok (.iconst 0, 1) := by decide +kernel
theorem dX11_shiftsAll_72 : decode cX11_shiftsAll 72 = .ok (.iload_n 3, 1) := by decide +kernel
theorem dX11_shiftsAll_73 : decode cX11_shiftsAll 73 = .ok (.iload_n 2, 1) := by decide +kernel
theorem dX11_shiftsAll_74 : decode cX11_shiftsAll 74 = .ok (.iadd, 1) := by decide +kernel
theorem dX11_shiftsAll_75 : decode cX11_shiftsAll 75 = .ok (.invokevirtual 250, 3) := by decide +kernel
theorem dX11_shiftsAll_78 : decode cX11_shiftsAll 78 = .ok (.return_, 1) := by decide +kernel
theorem dX11_comes_0 : decode cX11_comes 0 = .ok (.aload_n 0, 1) := by decide +kernel
theorem dX11_comes_1 : decode cX11_comes 1 = .ok (.iload_n 1, 1) := by decide +kernel
theorem dX11_comes_2 : decode cX11_comes 2 = .ok (.iconst 1, 1) := by decide +kernel
theorem dX11_comes_3 : decode cX11_comes 3 = .ok (.invokevirtual 275, 3) := by decide +kernel
theorem dX11_comes_6 : decode cX11_comes 6 = .ok (.aload_n 0, 1) := by decide +kernel
theorem dX11_comes_7 : decode cX11_comes 7 = .ok (.iconst 1, 1) := by decide +kernel
theorem dX11_comes_8 : decode cX11_comes 8 = .ok (.iload_n 1, 1) := by decide +kernel
theorem dX11_comes_9 : decode cX11_comes 9 = .ok (.iadd, 1) := by decide +kernel
theorem dX11_comes_10 : decode cX11_comes 10 = .ok (.iload_n 2, 1) := by decide +kernel
theorem dX11_comes_11 : decode cX11_comes 11 = .ok (.invokevirtual 250, 3) := by decide +kernel
theorem dX11_comes_14 : decode cX11_comes 14 = .ok (.aload_n 0, 1) := by decide +kernel
theorem dX11_comes_15 : decode cX11_comes 15 = .ok (.bipush 25, 2) := by decide +kernel
theorem dX11_comes_17 : decode cX11_comes 17 = .ok (.iload_n 1, 1) := by decide +kernel
theorem dX11_comes_18 : decode cX11_comes 18 = .ok (.iadd, 1) := by decide +kernel
theorem dX11_comes_19 : decode cX11_comes 19 = .ok (.iload_n 3, 1) := by decide +kernel
theorem dX11_comes_20 : decode cX11_comes 20 = .ok (.invokevirtual 250, 3) := by decide +kernel
theorem dX11_comes_23 : decode cX11_comes 23 = .ok (.aload_n 0, 1) := by decide +kernel
theorem dX11_comes_24 : decode cX11_comes 24 = .ok (.bipush 49, 2) := by decide +kernel
theorem dX11_comes_26 : decode cX11_comes 26 = .ok (.iload_n 1, 1) := by decide +kernel
theorem dX11_comes_27 : decode cX11_comes 27 = .ok (.iadd, 1) := by decide +kernel
theorem dX11_comes_28 : decode cX11_comes 28 = .ok (.iconst (-1), 1) := by decide +kernel
theorem dX11_comes_29 : decode cX11_comes 29 = .ok (.invokevirtual 250, 3) := by decide +kernel
theorem dX11_comes_32 : decode cX11_comes 32 = .ok (.aload_n 0, 1) := by decide +kernel
theorem dX11_comes_33 : decode cX11_comes 33 = .ok (.bipush 73, 2) := by decide +kernel
theorem dX11_comes_35 : decode cX11_comes 35 = .ok (.iload_n 1, 1) := by decide +kernel
theorem dX11_comes_36 : decode cX11_comes 36 = .ok (.iadd, 1) := by decide +kernel
theorem dX11_comes_37 : decode cX11_comes 37 = .ok (.iconst (-1), 1) := by decide +kernel
theorem dX11_comes_38 : decode cX11_comes 38 = .ok (.invokevirtual 250, 3) := by decide +kernel
theorem dX11_comes_41 : decode cX11_comes 41 = .ok (.aload_n 0, 1) := by decide +kernel
theorem dX11_comes_42 : decode cX11_comes 42 = .ok (.bipush 122, 2) := by decide +kernel
theorem dX11_comes_44 : decode cX11_comes 44 = .ok (.iload_n 1, 1) := by decide +kernel
theorem dX11_comes_45 : decode cX11_comes 45 = .ok (.iadd, 1) := by decide +kernel
theorem dX11_comes_46 : decode cX11_comes 46 = .ok (.iconst 0, 1) := by decide +kernel
theorem dX11_comes_47 : decode cX11_comes 47 = .ok (.invokevirtual 250, 3) := by decide +kernel
theorem dX11_comes_50 : decode cX11_comes 50 = .ok (.aload_n 0, 1) := by decide +kernel
theorem dX11_comes_51 : decode cX11_comes 51 = .ok (.sipush 146, 3) := by decide +kernel
theorem dX11_comes_54 : decode cX11_comes 54 = .ok (.iload_n 1, 1) := by decide +kernel
theorem dX11_comes_55 : decode cX11_comes 55 = .ok (.iadd, 1) := by decide +kernel
theorem dX11_comes_56 : decode cX11_comes 56 = .ok (.iconst 0, 1) := by decide +kernel
theorem dX11_comes_57 : decode cX11_comes 57 = .ok (.invokevirtual 250, 3) := by decide +kernel
theorem dX11_comes_60 : decode cX11_comes 60 = .ok (.aload_n 0, 1) := by decide +kernel
theorem dX11_comes_61 : decode cX11_comes 61 = .ok (.bipush 97, 2) := by decide +kernel
theorem dX11_comes_63 : decode cX11_comes 63 = .ok (.iload_n 1, 1) := by decide +kernel
theorem dX11_comes_64 : decode cX11_comes 64 = .ok (.iadd, 1) := by decide +kernel
theorem dX11_comes_65 : decode cX11_comes 65 = .ok (.aload_n 0, 1) := by decide +kernel
theorem dX11_comes_66 : decode cX11_comes 66 = .ok (.bipush 97, 2) := by decide +kernel
theorem dX11_comes_68 : decode cX11_comes 68 = .ok (.iload_n 1, 1) := by decide +kernel
theorem dX11_comes_69 : decode cX11_comes 69 = .ok (.iadd, 1) := by decide +kernel
theorem dX11_comes_70 : decode cX11_comes 70 = .ok (.iconst 1, 1) := by decide +kernel
theorem dX11_comes_71 : decode cX11_comes 71 = .ok (.iadd, 1) := by decide +kernel
theorem dX11_comes_72 : decode cX11_comes 72 = .ok (.invokevirtual 234, 3) := by decide +kernel
theorem dX11_comes_75 : decode cX11_comes 75 = .ok (.invokevirtual 250, 3) := by decide +kernel
theorem dX11_comes_78 : decode cX11_comes 78 = .ok (.return_, 1) := by decide +kernel
theorem dX11_vanishes_0 : decode cX11_vanishes 0 = .ok (.aload_n 0, 1) := by decide +kernel
theorem dX11_vanishes_1 : decode cX11_vanishes 1 = .ok (.bipush 97, 2) := by decide +kernel
theorem dX11_vanishes_3 : decode cX11_vanishes 3 = .ok (.iload_n 1, 1) := by decide +kernel
theorem dX11_vanishes_4 : decode cX11_vanishes 4 = .ok (.iadd, 1) := by decide +kernel
theorem dX11_vanishes_5 : decode cX11_vanishes 5 = .ok (.invokevirtual 234, 3) := by decide +kernel
theorem dX11_vanishes_8 : decode cX11_vanishes 8 = .ok (.aload_n 0, 1) := by decide +kernel
theorem dX11_vanishes_9 : decode cX11_vanishes 9 = .ok (.bipush 122, 2) := by decide +kernel
theorem dX11_vanishes_11 : decode cX11_vanishes 11 = .ok (.iload_n 1, 1) := by decide +kernel
theorem dX11_vanishes_12 : decode cX11_vanishes 12 = .ok (.iadd, 1) := by decide +kernel
theorem dX11_vanishes_13 : decode cX11_vanishes 13 = .ok (.invokevirtual 234, 3) := by decide +kernel
theorem dX11_vanishes_16 : decode cX11_vanishes 16 = .ok (.ior, 1) := by decide +kernel
theorem dX11_vanishes_17 : decode cX11_vanishes 17 = .ok (.aload_n 0, 1) := by decide +kernel
theorem dX11_vanishes_18 : decode cX11_vanishes 18 = .ok (.sipush 146, 3) := by decide +kernel
theorem dX11_vanishes_21 : decode cX11_vanishes 21 = .ok (.iload_n 1, 1) := by decide +kernel
theorem dX11_vanishes_22 : decode cX11_vanishes 22 = .ok (.iadd, 1) := by decide +kernel
theorem dX11_vanishes_23 : decode cX11_vanishes 23 = .ok (.invokevirtual 234, 3) := by decide +kernel
theorem dX11_vanishes_26 : decode cX11_vanishes 26 = .ok (.ior, 1) := by decide +kernel
theorem dX11_vanishes_27 : decode cX11_vanishes 27 = .ok (.iconst 1, 1) := by decide +kernel
theorem dX11_vanishes_28 : decode cX11_vanishes 28 = .ok (.iload_n 2, 1) := by decide +kernel
theorem dX11_vanishes_29 : decode cX11_vanishes 29 = .ok (.ishl, 1) := by decide +kernel
theorem dX11_vanishes_30 : decode cX11_vanishes 30 = .ok (.iconst (-1), 1) := by decide +kernel
theorem dX11_vanishes_31 : decode cX11_vanishes 31 = .ok (.ixor, 1) := by decide +kernel
theorem dX11_vanishes_32 : decode cX11_vanishes 32 = .ok (.iand, 1) := by decide +kernel
theorem dX11_vanishes_33 : decode cX11_vanishes 33 = .ok (.istore_n 3, 1) := by decide +kernel
theorem dX11_vanishes_34 : decode cX11_vanishes 34 = .ok (.aload_n 0, 1) := by decide +kernel
theorem dX11_vanishes_35 : decode cX11_vanishes 35 = .ok (.bipush 97, 2) := by decide +kernel
theorem dX11_vanishes_37 : decode cX11_vanishes 37 = .ok (.iload_n 1, 1) := by decide +kernel
theorem dX11_vanishes_38 : decode cX11_vanishes 38 = .ok (.iadd, 1) := by decide +kernel
theorem dX11_vanishes_39 : decode cX11_vanishes 39 = .ok (.iconst 1, 1) := by decide +kernel
theorem dX11_vanishes_40 : decode cX11_vanishes 40 = .ok (.iadd, 1) := by decide +kernel
theorem dX11_vanishes_41 : decode cX11_vanishes 41 = .ok (.aload_n 0, 1) := by decide +kernel
theorem dX11_vanishes_42 : decode cX11_vanishes 42 = .ok (.bipush 97, 2) := by decide +kernel
theorem dX11_vanishes_44 : decode cX11_vanishes 44 = .ok (.iload_n 1, 1) := by decide +kernel
theorem dX11_vanishes_45 : decode cX11_vanishes 45 = .ok (.iadd, 1) := by decide +kernel
theorem dX11_vanishes_46 : decode cX11_vanishes 46 = .ok (.iconst 1, 1) := by decide +kernel
theorem dX11_vanishes_47 : decode cX11_vanishes 47 = .ok (.iadd, 1) := by decide +kernel
theorem dX11_vanishes_48 : decode cX11_vanishes 48 = .ok (.invokevirtual 234, 3) := by decide +kernel
theorem dX11_vanishes_51 : decode cX11_vanishes 51 = .ok (.iload_n 3, 1) := by decide +kernel
theorem dX11_vanishes_52 : decode cX11_vanishes 52 = .ok (.ior, 1) := by decide +kernel
theorem dX11_vanishes_53 : decode cX11_vanishes 53 = .ok (.invokevirtual 250, 3) := by decide +kernel
theorem dX11_vanishes_56 : decode cX11_vanishes 56 = .ok (.aload_n 0, 1) := by decide +kernel
theorem dX11_vanishes_57 : decode cX11_vanishes 57 = .ok (.iload_n 1, 1) := by decide +kernel
theorem dX11_vanishes_58 : decode cX11_vanishes 58 = .ok (.iconst (-1), 1) := by decide +kernel
theorem dX11_vanishes_59 : decode cX11_vanishes 59 = .ok (.invokevirtual 275, 3) := by decide +kernel
theorem dX11_vanishes_62 : decode cX11_vanishes 62 = .ok (.return_, 1) := by decide +kernel
theorem dX11_isStopped_0 : decode cX11_isStopped 0 = .ok (.iload_n 1, 1) := by decide +kernel
theorem dX11_isStopped_1 : decode cX11_isStopped 1 = .ok (.ifCond .ne 5, 3) := by decide +kernel
theorem dX11_isStopped_4 : decode cX11_isStopped 4 = .ok (.iconst 0, 1) := by decide +kernel
theorem dX11_isStopped_5 : decode cX11_isStopped 5 = .ok (.ireturn, 1) := by decide +kernel
theorem dX11_isStopped_6 : decode cX11_isStopped 6 = .ok (.aload_n 0, 1) := by decide +kernel
theorem dX11_isStopped_7 : decode cX11_isStopped 7 = .ok (.iload_n 1, 1) := by decide +kernel
theorem dX11_isStopped_8 : decode cX11_isStopped 8 = .ok (.putfield 278, 3) := by decide +kernel
theorem dX11_isStopped_11 : decode cX11_isStopped 11 = .ok (.aload_n 0, 1) := by decide +kernel
theorem dX11_isStopped_12 : decode cX11_isStopped 12 = .ok (.iload_n 2, 1) := by decide +kernel
theorem dX11_isStopped_13 : decode cX11_isStopped 13 = .ok (.putfield 281, 3) := by decide +kernel
theorem dX11_isStopped_16 : decode cX11_isStopped 16 = .ok (.aload_n 0, 1) := by decide +kernel
theorem dX11_isStopped_17 : decode cX11_isStopped 17 = .ok (.iload_n 3, 1) := by decide +kernel
theorem dX11_isStopped_18 : decode cX11_isStopped 18 = .ok (.putfield 284, 3) := by decide +kernel
theorem dX11_isStopped_21 : decode cX11_isStopped 21 = .ok (.iconst 1, 1) := by decide +kernel
theorem dX11_isStopped_22 : decode cX11_isStopped 22 = .ok (.ireturn, 1) := by decide +kernel
theorem dX11_locks_0 : decode cX11_locks 0 = .ok (.aload_n 0, 1) := by decide +kernel
theorem dX11_locks_1 : decode cX11_locks 1 = .ok (.iload_n 3, 1) := by decide +kernel
theorem dX11_locks_2 : decode cX11_locks 2 = .ok (.invokevirtual 254, 3) := by decide +kernel
theorem dX11_locks_5 : decode cX11_locks 5 = .ok (.istore 5, 2) := by decide +kernel
theorem dX11_locks_7 : decode cX11_locks 7 = .ok (.iload_n 2, 1) := by decide +kernel
theorem dX11_locks_8 : decode cX11_locks 8 = .ok (.iconst 4, 1) := by decide +kernel
theorem dX11_locks_9 : decode cX11_locks 9 = .ok (.if_icmp .ne 48, 3) := by decide +kernel
theorem dX11_locks_12 : decode cX11_locks 12 = .ok (.aload_n 0, 1) := by decide +kernel
theorem dX11_locks_13 : decode cX11_locks 13 = .ok (.getfield 241, 3) := by decide +kernel
theorem dX11_locks_16 : decode cX11_locks 16 = .ok (.ifCond .eq 41, 3) := by decide +kernel
theorem dX11_locks_19 : decode cX11_locks 19 = .ok (.aload_n 0, 1) := by decide +kernel
theorem dX11_locks_20 : decode cX11_locks 20 = .ok (.iload 5, 2) := by decide +kernel
theorem dX11_locks_22 : decode cX11_locks 22 = .ok (.iload_n 3, 1) := by decide +kernel
theorem dX11_locks_23 : decode cX11_locks 23 = .ok (.invokevirtual 287, 3) := by decide +kernel
theorem dX11_locks_26 : decode cX11_locks 26 = .ok (.ifCond .eq 28, 3) := by decide +kernel
theorem dX11_locks_29 : decode cX11_locks 29 = .ok (.aload_n 0, 1) := by decide +kernel
theorem dX11_locks_30 : decode cX11_locks 30 = .ok (.bipush 49, 2) := by decide +kernel
theorem dX11_locks_32 : decode cX11_locks 32 = .ok (.iload 5, 2) := by decide +kernel
theorem dX11_locks_34 : decode cX11_locks 34 = .ok (.iadd, 1) := by decide +kernel
theorem dX11_locks_35 : decode cX11_locks 35 = .ok (.invokevirtual 234, 3) := by decide +kernel
theorem dX11_locks_38 : decode cX11_locks 38 = .ok (.iload_n 1, 1) := by decide +kernel
theorem dX11_locks_39 : decode cX11_locks 39 = .ok (.if_icmp .eq 15, 3) := by decide +kernel
theorem dX11_locks_42 : decode cX11_locks 42 = .ok (.aload_n 0, 1) := by decide +kernel
theorem dX11_locks_43 : decode cX11_locks 43 = .ok (.bipush 25, 2) := by decide +kernel
theorem dX11_locks_45 : decode cX11_locks 45 = .ok (.iload 5, 2) := by decide +kernel
theorem dX11_locks_47 : decode cX11_locks 47 = .ok (.iadd, 1) := by decide +kernel
theorem dX11_locks_48 : decode cX11_locks 48 = .ok (.invokevirtual 234, 3) := by decide +kernel
theorem dX11_locks_51 : decode cX11_locks 51 = .ok (.goto 5, 3) := by decide +kernel
theorem dX11_locks_54 : decode cX11_locks 54 = .ok (.bipush (-4), 2) := by decide +kernel
theorem dX11_locks_56 : decode cX11_locks 56 = .ok (.ireturn, 1) := by decide +kernel
theorem dX11_locks_57 : decode cX11_locks 57 = .ok (.aload_n 0, 1) := by decide +kernel
theorem dX11_locks_58 : decode cX11_locks 58 = .ok (.iload 5, 2) := by decide +kernel
theorem dX11_locks_60 : decode cX11_locks 60 = .ok (.iload_n 3, 1) := by decide +kernel
theorem dX11_locks_61 : decode cX11_locks 61 = .ok (.invokevirtual 287, 3) := by decide +kernel
theorem dX11_locks_64 : decode cX11_locks 64 = .ok (.ifCond .ne 28, 3) := by decide +kernel
theorem dX11_locks_67 : decode cX11_locks 67 = .ok (.aload_n 0, 1) := by decide +kernel
theorem dX11_locks_68 : decode cX11_locks 68 = .ok (.bipush 97, 2) := by decide +kernel
theorem dX11_locks_70 : decode cX11_locks 70 = .ok (.iload 5, 2) := by decide +kernel
theorem dX11_locks_72 : decode cX11_locks 72 = .ok (.iadd, 1) := by decide +kernel
theorem dX11_locks_73 : decode cX11_locks 73 = .ok (.aload_n 0, 1) := by decide +kernel
theorem dX11_locks_74 : decode cX11_locks 74 = .ok (.bipush 97, 2) := by decide +kernel
theorem dX11_locks_76 : decode cX11_locks 76 = .ok (.iload 5, 2) := by decide +kernel
theorem dX11_locks_78 : decode cX11_locks 78 = .ok (.iadd, 1) := by decide +kernel
theorem dX11_locks_79 : decode cX11_locks 79 = .ok (.invokevirtual 234, 3) := by decide +kernel
theorem dX11_locks_82 : decode cX11_locks 82 = .ok (.iconst 1, 1) := by decide +kernel
theorem dX11_locks_83 : decode cX11_locks 83 = .ok (.iload_n 1, 1) := by decide +kernel
theorem dX11_locks_84 : decode cX11_locks 84 = .ok (.ishl, 1) := by decide +kernel
theorem dX11_locks_85 : decode cX11_locks 85 = .ok (.ior, 1) := by decide +kernel
theorem dX11_locks_86 : decode cX11_locks 86 = .ok (.invokevirtual 250, 3) := by decide +kernel
theorem dX11_locks_89 : decode cX11_locks 89 = .ok (.bipush (-4), 2) := by decide +kernel
theorem dX11_locks_91 : decode cX11_locks 91 = .ok (.ireturn, 1) := by decide +kernel
theorem dX11_locks_92 : decode cX11_locks 92 = .ok (.iconst 1, 1) := by decide +kernel
theorem dX11_locks_93 : decode cX11_locks 93 = .ok (.iload_n 1, 1) := by decide +kernel
theorem dX11_locks_94 : decode cX11_locks 94 = .ok (.ishl, 1) := by decide +kernel
theorem dX11_locks_95 : decode cX11_locks 95 = .ok (.iconst (-1), 1) := by decide +kernel
theorem dX11_locks_96 : decode cX11_locks 96 = .ok (.ixor, 1) := by decide +kernel
theorem dX11_locks_97 : decode cX11_locks 97 = .ok (.istore 6, 2) := by decide +kernel
theorem dX11_locks_99 : decode cX11_locks 99 = .ok (.iload_n 2, 1) := by decide +kernel
theorem dX11_locks_100 : decode cX11_locks 100 = .ok (.iconst 4, 1) := by decide +kernel
theorem dX11_locks_101 : decode cX11_locks 101 = .ok (.if_icmp .ne 53, 3) := by decide +kernel
theorem dX11_locks_104 : decode cX11_locks 104 = .ok (.aload_n 0, 1) := by decide +kernel
theorem dX11_locks_105 : decode cX11_locks 105 = .ok (.aload_n 0, 1) := by decide +kernel
theorem dX11_locks_106 : decode cX11_locks 106 = .ok (.sipush 146, 3) := by decide +kernel
theorem dX11_locks_109 : decode cX11_locks 109 = .ok (.iload 5, 2) := by decide +kernel
theorem dX11_locks_111 : decode cX11_locks 111 = .ok (.iadd, 1) := by decide +kernel
theorem dX11_locks_112 : decode cX11_locks 112 = .ok (.invokevirtual 234, 3) := by decide +kernel
theorem dX11_locks_115 : decode cX11_locks 115 = .ok (.iload 6, 2) := by decide +kernel
theorem dX11_locks_117 : decode cX11_locks 117 = .ok (.iand, 1) := by decide +kernel
theorem dX11_locks_118 : decode cX11_locks 118 = .ok (.iconst 1, 1) := by decide +kernel
theorem dX11_locks_119 : decode cX11_locks 119 = .ok (.iload_n 3, 1) := by decide +kernel
theorem dX11_locks_120 : decode cX11_locks 120 = .ok (.invokevirtual 290, 3) := by decide +kernel
theorem dX11_locks_123 : decode cX11_locks 123 = .ok (.ifCond .eq 6, 3) := by decide +kernel
theorem dX11_locks_126 : decode cX11_locks 126 = .ok (.bipush (-2), 2) := by decide +kernel
theorem dX11_locks_128 : decode cX11_locks 128 = .ok (.ireturn, 1) := by decide +kernel
theorem dX11_locks_129 : decode cX11_locks 129 = .ok (.aload_n 0, 1) := by decide +kernel
theorem dX11_locks_130 : decode cX11_locks 130 = .ok (.bipush 122, 2) := by decide +kernel
theorem dX11_locks_132 : decode cX11_locks 132 = .ok (.iload 5, 2) := by decide +kernel
theorem dX11_locks_134 : decode cX11_locks 134 = .ok (.iadd, 1) := by decide +kernel
theorem dX11_locks_135 : decode cX11_locks 135 = .ok (.aload_n 0, 1) := by decide +kernel
theorem dX11_locks_136 : decode cX11_locks 136 = .ok (.bipush 122, 2) := by decide +kernel
theorem dX11_locks_138 : decode cX11_locks 138 = .ok (.iload 5, 2) := by decide +kernel
theorem dX11_locks_140 : decode cX11_locks 140 = .ok (.iadd, 1) := by decide +kernel
theorem dX11_locks_141 : decode cX11_locks 141 = .ok (.invokevirtual 234, 3) := by decide +kernel
theorem dX11_locks_144 : decode cX11_locks 144 = .ok (.iconst 1, 1) := by decide +kernel
theorem dX11_locks_145 : decode cX11_locks 145 = .ok (.iload_n 1, 1) := by decide +kernel
theorem dX11_locks_146 : decode cX11_locks 146 = .ok (.ishl, 1) := by decide +kernel
theorem dX11_locks_147 : decode cX11_locks 147 = .ok (.ior, 1) := by decide +kernel
theorem dX11_locks_148 : decode cX11_locks 148 = .ok (.invokevirtual 250, 3) := by decide +kernel
theorem dX11_locks_151 : decode cX11_locks 151 = .ok (.goto 62, 3) := by decide +kernel
theorem dX11_locks_154 : decode cX11_locks 154 = .ok (.aload_n 0, 1) := by decide +kernel
theorem dX11_locks_155 : decode cX11_locks 155 = .ok (.aload_n 0, 1) := by decide +kernel
theorem dX11_locks_156 : decode cX11_locks 156 = .ok (.bipush 122, 2) := by decide +kernel
theorem dX11_locks_158 : decode cX11_locks 158 = .ok (.iload 5, 2) := by decide +kernel
theorem dX11_locks_160 : decode cX11_locks 160 = .ok (.iadd, 1) := by decide +kernel
theorem dX11_locks_161 : decode cX11_locks 161 = .ok (.invokevirtual 234, 3) := by decide +kernel
theorem dX11_locks_164 : decode cX11_locks 164 = .ok (.aload_n 0, 1) := by decide +kernel
theorem dX11_locks_165 : decode cX11_locks 165 = .ok (.sipush 146, 3) := by decide +kernel
theorem dX11_locks_168 : decode cX11_locks 168 = .ok (.iload 5, 2) := by decide +kernel
theorem dX11_locks_170 : decode cX11_locks 170 = .ok (.iadd, 1) := by decide +kernel
theorem dX11_locks_171 : decode cX11_locks 171 = .ok (.invokevirtual 234, 3) := by decide +kernel
theorem dX11_locks_174 : decode cX11_locks 174 = .ok (.ior, 1) := by decide +kernel
theorem dX11_locks_175 : decode cX11_locks 175 = .ok (.iload 6, 2) := by decide +kernel
theorem dX11_locks_177 : decode cX11_locks 177 = .ok (.iand, 1) := by decide +kernel
theorem dX11_locks_178 : decode cX11_locks 178 = .ok (.iconst 2, 1) := by decide +kernel
theorem dX11_locks_179 : decode cX11_locks 179 = .ok (.iload_n 3, 1) := by decide +kernel
theorem dX11_locks_180 : decode cX11_locks 180 = .ok (.invokevirtual 290, 3) := by decide +kernel
theorem dX11_locks_183 : decode cX11_locks 183 = .ok (.ifCond .eq 6, 3) := by decide +kernel
theorem dX11_locks_186 : decode cX11_locks 186 = .ok (.bipush (-2), 2) := by decide +kernel
theorem dX11_locks_188 : decode cX11_locks 188 = .ok (.ireturn, 1) := by decide +kernel
theorem dX11_locks_189 : decode cX11_locks 189 = .ok (.aload_n 0, 1) := by decide +kernel
theorem dX11_locks_190 : decode cX11_locks 190 = .ok (.sipush 146, 3) := by decide +kernel
theorem dX11_locks_193 : decode cX11_locks 193 = .ok (.iload 5, 2) := by decide +kernel
theorem dX11_locks_195 : decode cX11_locks 195 = .ok (.iadd, 1) := by decide +kernel
theorem dX11_locks_196 : decode cX11_locks 196 = .ok (.aload_n 0, 1) := by decide +kernel
theorem dX11_locks_197 : decode cX11_locks 197 = .ok (.sipush 146, 3) := by decide +kernel
theorem dX11_locks_200 : decode cX11_locks 200 = .ok (.iload 5, 2) := by decide +kernel
theorem dX11_locks_202 : decode cX11_locks 202 = .ok (.iadd, 1) := by decide +kernel
theorem dX11_locks_203 : decode cX11_locks 203 = .ok (.invokevirtual 234, 3) := by decide +kernel
theorem dX11_locks_206 : decode cX11_locks 206 = .ok (.iconst 1, 1) := by decide +kernel
theorem dX11_locks_207 : decode cX11_locks 207 = .ok (.iload_n 1, 1) := by decide +kernel
theorem dX11_locks_208 : decode cX11_locks 208 = .ok (.ishl, 1) := by decide +kernel
theorem dX11_locks_209 : decode cX11_locks 209 = .ok (.ior, 1) := by decide +kernel
theorem dX11_locks_210 : decode cX11_locks 210 = .ok (.invokevirtual 250, 3) := by decide +kernel
theorem dX11_locks_213 : decode cX11_locks 213 = .ok (.aload_n 0, 1) := by decide +kernel
theorem dX11_locks_214 : decode cX11_locks 214 = .ok (.bipush 49, 2) := by decide +kernel
theorem dX11_locks_216 : decode cX11_locks 216 = .ok (.iload 5, 2) := by decide +kernel
theorem dX11_locks_218 : decode cX11_locks 218 = .ok (.iadd, 1) := by decide +kernel
theorem dX11_locks_219 : decode cX11_locks 219 = .ok (.invokevirtual 234, 3) := by decide +kernel
theorem dX11_locks_222 : decode cX11_locks 222 = .ok (.iload_n 1, 1) := by decide +kernel
theorem dX11_locks_223 : decode cX11_locks 223 = .ok (.if_icmp .ne 6, 3) := by decide +kernel
theorem dX11_locks_226 : decode cX11_locks 226 = .ok (.bipush (-4), 2) := by decide +kernel
theorem dX11_locks_228 : decode cX11_locks 228 = .ok (.ireturn, 1) := by decide +kernel
theorem dX11_locks_229 : decode cX11_locks 229 = .ok (.aload_n 0, 1) := by decide +kernel
theorem dX11_locks_230 : decode cX11_locks 230 = .ok (.bipush 25, 2) := by decide +kernel
theorem dX11_locks_232 : decode cX11_locks 232 = .ok (.iload 5, 2) := by decide +kernel
theorem dX11_locks_234 : decode cX11_locks 234 = .ok (.iadd, 1) := by decide +kernel
theorem dX11_locks_235 : decode cX11_locks 235 = .ok (.invokevirtual 234, 3) := by decide +kernel
theorem dX11_locks_238 : decode cX11_locks 238 = .ok (.istore 7, 2) := by decide +kernel
theorem dX11_locks_240 : decode cX11_locks 240 = .ok (.iload_n 2, 1) := by decide +kernel
theorem dX11_locks_241 : decode cX11_locks 241 = .ok (.bipush 6, 2) := by decide +kernel
theorem dX11_locks_243 : decode cX11_locks 243 = .ok (.if_icmp .ne 24, 3) := by decide +kernel
theorem dX11_locks_246 : decode cX11_locks 246 = .ok (.aload_n 0, 1) := by decide +kernel
theorem dX11_locks_247 : decode cX11_locks 247 = .ok (.iload_n 1, 1) := by decide +kernel
theorem dX11_locks_248 : decode cX11_locks 248 = .ok (.bipush 6, 2) := by decide +kernel
theorem dX11_locks_250 : decode cX11_locks 250 = .ok (.iload_n 3, 1) := by decide +kernel
theorem dX11_locks_251 : decode cX11_locks 251 = .ok (.iload 7, 2) := by decide +kernel
theorem dX11_locks_253 : decode cX11_locks 253 = .ok (.invokevirtual 293, 3) := by decide +kernel
theorem dX11_locks_256 : decode cX11_locks 256 = .ok (.aload_n 0, 1) := by decide +kernel
theorem dX11_locks_257 : decode cX11_locks 257 = .ok (.bipush 25, 2) := by decide +kernel
theorem dX11_locks_259 : decode cX11_locks 259 = .ok (.iload 5, 2) := by decide +kernel
theorem dX11_locks_261 : decode cX11_locks 261 = .ok (.iadd, 1) := by decide +kernel
theorem dX11_locks_262 : decode cX11_locks 262 = .ok (.iload 4, 2) := by decide +kernel
theorem dX11_locks_264 : decode cX11_locks 264 = .ok (.invokevirtual 250, 3) := by decide +kernel
theorem dX11_locks_267 : decode cX11_locks 267 = .ok (.iload_n 2, 1) := by decide +kernel
theorem dX11_locks_268 : decode cX11_locks 268 = .ok (.bipush 8, 2) := by decide +kernel
theorem dX11_locks_270 : decode cX11_locks 270 = .ok (.if_icmp .ne 22, 3) := by decide +kernel
theorem dX11_locks_273 : decode cX11_locks 273 = .ok (.aload_n 0, 1) := by decide +kernel
theorem dX11_locks_274 : decode cX11_locks 274 = .ok (.iload_n 1, 1) := by decide +kernel
theorem dX11_locks_275 : decode cX11_locks 275 = .ok (.bipush 8, 2) := by decide +kernel
theorem dX11_locks_277 : decode cX11_locks 277 = .ok (.iload_n 3, 1) := by decide +kernel
theorem dX11_locks_278 : decode cX11_locks 278 = .ok (.iconst 0, 1) := by decide +kernel
theorem dX11_locks_279 : decode cX11_locks 279 = .ok (.invokevirtual 293, 3) := by decide +kernel
theorem dX11_locks_282 : decode cX11_locks 282 = .ok (.aload_n 0, 1) := by decide +kernel
theorem dX11_locks_283 : decode cX11_locks 283 = .ok (.bipush 49, 2) := by decide +kernel
theorem dX11_locks_285 : decode cX11_locks 285 = .ok (.iload 5, 2) := by decide +kernel
theorem dX11_locks_287 : decode cX11_locks 287 = .ok (.iadd, 1) := by decide +kernel
theorem dX11_locks_288 : decode cX11_locks 288 = .ok (.iload_n 1, 1) := by decide +kernel
theorem dX11_locks_289 : decode cX11_locks 289 = .ok (.invokevirtual 250, 3) := by decide +kernel
theorem dX11_locks_292 : decode cX11_locks 292 = .ok (.iload 7, 2) := by decide +kernel
theorem dX11_locks_294 : decode cX11_locks 294 = .ok (.ireturn, 1) := by decide +kernel
theorem dX11_scans_0 : decode cX11_scans 0 = .ok (.iconst 0, 1) := by decide +kernel
theorem dX11_scans_1 : decode cX11_scans 1 = .ok (.istore 4, 2) := by decide +kernel
theorem dX11_scans_3 : decode cX11_scans 3 = .ok (.aload_n 0, 1) := by decide +kernel
theorem dX11_scans_4 : decode cX11_scans 4 = .ok (.iload_n 2, 1) := by decide +kernel
theorem dX11_scans_5 : decode cX11_scans 5 = .ok (.invokevirtual 254, 3) := by decide +kernel
theorem dX11_scans_8 : decode cX11_scans 8 = .ok (.istore 5, 2) := by decide +kernel
theorem dX11_scans_10 : decode cX11_scans 10 = .ok (.iload 5, 2) := by decide +kernel
theorem dX11_scans_12 : decode cX11_scans 12 = .ok (.aload_n 0, 1) := by decide +kernel
theorem dX11_scans_13 : decode cX11_scans 13 = .ok (.invokevirtual 267, 3) := by decide +kernel
theorem dX11_scans_16 : decode cX11_scans 16 = .ok (.if_icmp .ge 138, 3) := by decide +kernel
theorem dX11_scans_19 : decode cX11_scans 19 = .ok (.aload_n 0, 1) := by decide +kernel
theorem dX11_scans_20 : decode cX11_scans 20 = .ok (.iconst 1, 1) := by decide +kernel
theorem dX11_scans_21 : decode cX11_scans 21 = .ok (.iload 5, 2) := by decide +kernel
theorem dX11_scans_23 : decode cX11_scans 23 = .ok (.iadd, 1) := by decide +kernel
theorem dX11_scans_24 : decode cX11_scans 24 = .ok (.invokevirtual 234, 3) := by decide +kernel
theorem dX11_scans_27 : decode cX11_scans 27 = .ok (.iload_n 3, 1) := by decide +kernel
theorem dX11_scans_28 : decode cX11_scans 28 = .ok (.if_icmp .gt 126, 3) := by decide +kernel
theorem dX11_scans_31 : decode cX11_scans 31 = .ok (.aload_n 0, 1) := by decide +kernel
theorem dX11_scans_32 : decode cX11_scans 32 = .ok (.getfield 241, 3) := by decide +kernel
theorem dX11_scans_35 : decode cX11_scans 35 = .ok (.ifCond .ne 82, 3) := by decide +kernel
theorem dX11_scans_38 : decode cX11_scans 38 = .ok (.aload_n 0, 1) := by decide +kernel
theorem dX11_scans_39 : decode cX11_scans 39 = .ok (.bipush 97, 2) := by decide +kernel
theorem dX11_scans_41 : decode cX11_scans 41 = .ok (.iload 5, 2) := by decide +kernel
theorem dX11_scans_43 : decode cX11_scans 43 = .ok (.iadd, 1) := by decide +kernel
theorem dX11_scans_44 : decode cX11_scans 44 = .ok (.aload_n 0, 1) := by decide +kernel
theorem dX11_scans_45 : decode cX11_scans 45 = .ok (.bipush 97, 2) := by decide +kernel
theorem dX11_scans_47 : decode cX11_scans 47 = .ok (.iload 5, 2) := by decide +kernel
theorem dX11_scans_49 : decode cX11_scans 49 = .ok (.iadd, 1) := by decide +kernel
theorem dX11_scans_50 : decode cX11_scans 50 = .ok (.invokevirtual 234, 3) := by decide +kernel
theorem dX11_scans_53 : decode cX11_scans 53 = .ok (.iconst 1, 1) := by decide +kernel
theorem dX11_scans_54 : decode cX11_scans 54 = .ok (.iload_n 1, 1) := by decide +kernel
theorem dX11_scans_55 : decode cX11_scans 55 = .ok (.ishl, 1) := by decide +kernel
theorem dX11_scans_56 : decode cX11_scans 56 = .ok (.ior, 1) := by decide +kernel
theorem dX11_scans_57 : decode cX11_scans 57 = .ok (.invokevirtual 250, 3) := by decide +kernel
theorem dX11_scans_60 : decode cX11_scans 60 = .ok (.aload_n 0, 1) := by decide +kernel
theorem dX11_scans_61 : decode cX11_scans 61 = .ok (.aload_n 0, 1) := by decide +kernel
theorem dX11_scans_62 : decode cX11_scans 62 = .ok (.sipush 146, 3) := by decide +kernel
theorem dX11_scans_65 : decode cX11_scans 65 = .ok (.iload 5, 2) := by decide +kernel
theorem dX11_scans_67 : decode cX11_scans 67 = .ok (.iadd, 1) := by decide +kernel
theorem dX11_scans_68 : decode cX11_scans 68 = .ok (.invokevirtual 234, 3) := by decide +kernel
theorem dX11_scans_71 : decode cX11_scans 71 = .ok (.iconst 1, 1) := by decide +kernel
theorem dX11_scans_72 : decode cX11_scans 72 = .ok (.iload_n 1, 1) := by decide +kernel
theorem dX11_scans_73 : decode cX11_scans 73 = .ok (.ishl, 1) := by decide +kernel
theorem dX11_scans_74 : decode cX11_scans 74 = .ok (.iconst (-1), 1) := by decide +kernel
theorem dX11_scans_75 : decode cX11_scans 75 = .ok (.ixor, 1) := by decide +kernel
theorem dX11_scans_76 : decode cX11_scans 76 = .ok (.iand, 1) := by decide +kernel
theorem dX11_scans_77 : decode cX11_scans 77 = .ok (.iconst 1, 1) := by decide +kernel
theorem dX11_scans_78 : decode cX11_scans 78 = .ok (.aload_n 0, 1) := by decide +kernel
theorem dX11_scans_79 : decode cX11_scans 79 = .ok (.iconst 1, 1) := by decide +kernel
theorem dX11_scans_80 : decode cX11_scans 80 = .ok (.iload 5, 2) := by decide +kernel
theorem dX11_scans_82 : decode cX11_scans 82 = .ok (.iadd, 1) := by decide +kernel
theorem dX11_scans_83 : decode cX11_scans 83 = .ok (.invokevirtual 234, 3) := by decide +kernel
theorem dX11_scans_86 : decode cX11_scans 86 = .ok (.invokevirtual 290, 3) := by decide +kernel
theorem dX11_scans_89 : decode cX11_scans 89 = .ok (.ifCond .eq 6, 3) := by decide +kernel
theorem dX11_scans_92 : decode cX11_scans 92 = .ok (.bipush (-2), 2) := by decide +kernel
theorem dX11_scans_94 : decode cX11_scans 94 = .ok (.ireturn, 1) := by decide +kernel
theorem dX11_scans_95 : decode cX11_scans 95 = .ok (.aload_n 0, 1) := by decide +kernel
theorem dX11_scans_96 : decode cX11_scans 96 = .ok (.bipush 122, 2) := by decide +kernel
theorem dX11_scans_98 : decode cX11_scans 98 = .ok (.iload 5, 2) := by decide +kernel
theorem dX11_scans_100 : decode cX11_scans 100 = .ok (.iadd, 1) := by decide +kernel
theorem dX11_scans_101 : decode cX11_scans 101 = .ok (.aload_n 0, 1) := by decide +kernel
theorem dX11_scans_102 : decode cX11_scans 102 = .ok (.bipush 122, 2) := by decide +kernel
theorem dX11_scans_104 : decode cX11_scans 104 = .ok (.iload 5, 2) := by decide +kernel
theorem dX11_scans_106 : decode cX11_scans 106 = .ok (.iadd, 1) := by decide +kernel
theorem dX11_scans_107 : decode cX11_scans 107 = .ok (.invokevirtual 234, 3) := by decide +kernel
theorem dX11_scans_110 : decode cX11_scans 110 = .ok (.iconst 1, 1) := by decide +kernel
theorem dX11_scans_111 : decode cX11_scans 111 = .ok (.iload_n 1, 1) := by decide +kernel
theorem dX11_scans_112 : decode cX11_scans 112 = .ok (.ishl, 1) := by decide +kernel
theorem dX11_scans_113 : decode cX11_scans 113 = .ok (.ior, 1) := by decide +kernel
theorem dX11_scans_114 : decode cX11_scans 114 = .ok (.invokevirtual 250, 3) := by decide +kernel
theorem dX11_scans_117 : decode cX11_scans 117 = .ok (.iload 4, 2) := by decide +kernel
theorem dX11_scans_119 : decode cX11_scans 119 = .ok (.aload_n 0, 1) := by decide +kernel
theorem dX11_scans_120 : decode cX11_scans 120 = .ok (.bipush 49, 2) := by decide +kernel
theorem dX11_scans_122 : decode cX11_scans 122 = .ok (.iload 5, 2) := by decide +kernel
theorem dX11_scans_124 : decode cX11_scans 124 = .ok (.iadd, 1) := by decide +kernel
theorem dX11_scans_125 : decode cX11_scans 125 = .ok (.invokevirtual 234, 3) := by decide +kernel
theorem dX11_scans_128 : decode cX11_scans 128 = .ok (.iload_n 1, 1) := by decide +kernel
theorem dX11_scans_129 : decode cX11_scans 129 = .ok (.if_icmp .ne 7, 3) := by decide +kernel
theorem dX11_scans_132 : decode cX11_scans 132 = .ok (.iconst 0, 1) := by decide +kernel
theorem dX11_scans_133 : decode cX11_scans 133 = .ok (.goto 12, 3) := by decide +kernel
theorem dX11_scans_136 : decode cX11_scans 136 = .ok (.aload_n 0, 1) := by decide +kernel
theorem dX11_scans_137 : decode cX11_scans 137 = .ok (.bipush 25, 2) := by decide +kernel
theorem dX11_scans_139 : decode cX11_scans 139 = .ok (.iload 5, 2) := by decide +kernel
theorem dX11_scans_141 : decode cX11_scans 141 = .ok (.iadd, 1) := by decide +kernel
theorem dX11_scans_142 : decode cX11_scans 142 = .ok (.invokevirtual 234, 3) := by decide +kernel
theorem dX11_scans_145 : decode cX11_scans 145 = .ok (.iadd, 1) := by decide +kernel
theorem dX11_scans_146 : decode cX11_scans 146 = .ok (.istore 4, 2) := by decide +kernel
theorem dX11_scans_148 : decode cX11_scans 148 = .ok (.iinc 5 1, 3) := by decide +kernel
theorem dX11_scans_151 : decode cX11_scans 151 = .ok (.goto (-141), 3) := by decide +kernel
theorem dX11_scans_154 : decode cX11_scans 154 = .ok (.aload_n 0, 1) := by decide +kernel
theorem dX11_scans_155 : decode cX11_scans 155 = .ok (.getfield 241, 3) := by decide +kernel
theorem dX11_scans_158 : decode cX11_scans 158 = .ok (.ifCond .ne 25, 3) := by decide +kernel
theorem dX11_scans_161 : decode cX11_scans 161 = .ok (.aload_n 0, 1) := by decide +kernel
theorem dX11_scans_162 : decode cX11_scans 162 = .ok (.bipush 97, 2) := by decide +kernel
theorem dX11_scans_164 : decode cX11_scans 164 = .ok (.iload 5, 2) := by decide +kernel
theorem dX11_scans_166 : decode cX11_scans 166 = .ok (.iadd, 1) := by decide +kernel
theorem dX11_scans_167 : decode cX11_scans 167 = .ok (.aload_n 0, 1) := by decide +kernel
theorem dX11_scans_168 : decode cX11_scans 168 = .ok (.bipush 97, 2) := by decide +kernel
theorem dX11_scans_170 : decode cX11_scans 170 = .ok (.iload 5, 2) := by decide +kernel
theorem dX11_scans_172 : decode cX11_scans 172 = .ok (.iadd, 1) := by decide +kernel
theorem dX11_scans_173 : decode cX11_scans 173 = .ok (.invokevirtual 234, 3) := by decide +kernel
theorem dX11_scans_176 : decode cX11_scans 176 = .ok (.iconst 1, 1) := by decide +kernel
theorem dX11_scans_177 : decode cX11_scans 177 = .ok (.iload_n 1, 1) := by decide +kernel
theorem dX11_scans_178 : decode cX11_scans 178 = .ok (.ishl, 1) := by decide +kernel
theorem dX11_scans_179 : decode cX11_scans 179 = .ok (.ior, 1) := by decide +kernel
theorem dX11_scans_180 : decode cX11_scans 180 = .ok (.invokevirtual 250, 3) := by decide +kernel
theorem dX11_scans_183 : decode cX11_scans 183 = .ok (.iload 4, 2) := by decide +kernel
theorem dX11_scans_185 : decode cX11_scans 185 = .ok (.ireturn, 1) := by decide +kernel
theorem dX11_puts_0 : decode cX11_puts 0 = .ok (.aload_n 0, 1) := by decide +kernel
theorem dX11_puts_1 : decode cX11_puts 1 = .ok (.iload_n 2, 1) := by decide +kernel
theorem dX11_puts_2 : decode cX11_puts 2 = .ok (.invokevirtual 254, 3) := by decide +kernel
theorem dX11_puts_5 : decode cX11_puts 5 = .ok (.istore 4, 2) := by decide +kernel
theorem dX11_puts_7 : decode cX11_puts 7 = .ok (.iconst 1, 1) := by decide +kernel
theorem dX11_puts_8 : decode cX11_puts 8 = .ok (.iload_n 1, 1) := by decide +kernel
theorem dX11_puts_9 : decode cX11_puts 9 = .ok (.ishl, 1) := by decide +kernel
theorem dX11_puts_10 : decode cX11_puts 10 = .ok (.iconst (-1), 1) := by decide +kernel
theorem dX11_puts_11 : decode cX11_puts 11 = .ok (.ixor, 1) := by decide +kernel
theorem dX11_puts_12 : decode cX11_puts 12 = .ok (.istore 5, 2) := by decide +kernel
theorem dX11_puts_14 : decode cX11_puts 14 = .ok (.aload_n 0, 1) := by decide +kernel
theorem dX11_puts_15 : decode cX11_puts 15 = .ok (.iload 4, 2) := by decide +kernel
theorem dX11_puts_17 : decode cX11_puts 17 = .ok (.iload_n 2, 1) := by decide +kernel
theorem dX11_puts_18 : decode cX11_puts 18 = .ok (.invokevirtual 287, 3) := by decide +kernel
theorem dX11_puts_21 : decode cX11_puts 21 = .ok (.ifCond .eq 57, 3) := by decide +kernel
theorem dX11_puts_24 : decode cX11_puts 24 = .ok (.aload_n 0, 1) := by decide +kernel
theorem dX11_puts_25 : decode cX11_puts 25 = .ok (.bipush 49, 2) := by decide +kernel
theorem dX11_puts_27 : decode cX11_puts 27 = .ok (.iload 4, 2) := by decide +kernel
theorem dX11_puts_29 : decode cX11_puts 29 = .ok (.iadd, 1) := by decide +kernel
theorem dX11_puts_30 : decode cX11_puts 30 = .ok (.invokevirtual 234, 3) := by decide +kernel
theorem dX11_puts_33 : decode cX11_puts 33 = .ok (.iload_n 1, 1) := by decide +kernel
theorem dX11_puts_34 : decode cX11_puts 34 = .ok (.if_icmp .ne 44, 3) := by decide +kernel
theorem dX11_puts_37 : decode cX11_puts 37 = .ok (.aload_n 0, 1) := by decide +kernel
theorem dX11_puts_38 : decode cX11_puts 38 = .ok (.iload_n 1, 1) := by decide +kernel
theorem dX11_puts_39 : decode cX11_puts 39 = .ok (.iconst 2, 1) := by decide +kernel
theorem dX11_puts_40 : decode cX11_puts 40 = .ok (.iload_n 2, 1) := by decide +kernel
theorem dX11_puts_41 : decode cX11_puts 41 = .ok (.aload_n 0, 1) := by decide +kernel
theorem dX11_puts_42 : decode cX11_puts 42 = .ok (.bipush 25, 2) := by decide +kernel
theorem dX11_puts_44 : decode cX11_puts 44 = .ok (.iload 4, 2) := by decide +kernel
theorem dX11_puts_46 : decode cX11_puts 46 = .ok (.iadd, 1) := by decide +kernel
theorem dX11_puts_47 : decode cX11_puts 47 = .ok (.invokevirtual 234, 3) := by decide +kernel
theorem dX11_puts_50 : decode cX11_puts 50 = .ok (.invokevirtual 293, 3) := by decide +kernel
theorem dX11_puts_53 : decode cX11_puts 53 = .ok (.aload_n 0, 1) := by decide +kernel
theorem dX11_puts_54 : decode cX11_puts 54 = .ok (.bipush 49, 2) := by decide +kernel
theorem dX11_puts_56 : decode cX11_puts 56 = .ok (.iload 4, 2) := by decide +kernel
theorem dX11_puts_58 : decode cX11_puts 58 = .ok (.iadd, 1) := by decide +kernel
theorem dX11_puts_59 : decode cX11_puts 59 = .ok (.iconst (-1), 1) := by decide +kernel
theorem dX11_puts_60 : decode cX11_puts 60 = .ok (.invokevirtual 250, 3) := by decide +kernel
theorem dX11_puts_63 : decode cX11_puts 63 = .ok (.aload_n 0, 1) := by decide +kernel
theorem dX11_puts_64 : decode cX11_puts 64 = .ok (.bipush 25, 2) := by decide +kernel
theorem dX11_puts_66 : decode cX11_puts 66 = .ok (.iload 4, 2) := by decide +kernel
theorem dX11_puts_68 : decode cX11_puts 68 = .ok (.iadd, 1) := by decide +kernel
theorem dX11_puts_69 : decode cX11_puts 69 = .ok (.iload_n 3, 1) := by decide +kernel
theorem dX11_puts_70 : decode cX11_puts 70 = .ok (.invokevirtual 250, 3) := by decide +kernel
theorem dX11_puts_73 : decode cX11_puts 73 = .ok (.aload_n 0, 1) := by decide +kernel
theorem dX11_puts_74 : decode cX11_puts 74 = .ok (.invokevirtual 267, 3) := by decide +kernel
theorem dX11_puts_77 : decode cX11_puts 77 = .ok (.ireturn, 1) := by decide +kernel
theorem dX11_puts_78 : decode cX11_puts 78 = .ok (.aload_n 0, 1) := by decide +kernel
theorem dX11_puts_79 : decode cX11_puts 79 = .ok (.iload 4, 2) := by decide +kernel
theorem dX11_puts_81 : decode cX11_puts 81 = .ok (.iload_n 2, 1) := by decide +kernel
theorem dX11_puts_82 : decode cX11_puts 82 = .ok (.invokevirtual 287, 3) := by decide +kernel
theorem dX11_puts_85 : decode cX11_puts 85 = .ok (.ifCond .eq 53, 3) := by decide +kernel
theorem dX11_puts_88 : decode cX11_puts 88 = .ok (.aload_n 0, 1) := by decide +kernel
theorem dX11_puts_89 : decode cX11_puts 89 = .ok (.aload_n 0, 1) := by decide +kernel
theorem dX11_puts_90 : decode cX11_puts 90 = .ok (.sipush 146, 3) := by decide +kernel
theorem dX11_puts_93 : decode cX11_puts 93 = .ok (.iload 4, 2) := by decide +kernel
theorem dX11_puts_95 : decode cX11_puts 95 = .ok (.iadd, 1) := by decide +kernel
theorem dX11_puts_96 : decode cX11_puts 96 = .ok (.invokevirtual 234, 3) := by decide +kernel
theorem dX11_puts_99 : decode cX11_puts 99 = .ok (.iload 5, 2) := by decide +kernel
theorem dX11_puts_101 : decode cX11_puts 101 = .ok (.iand, 1) := by decide +kernel
theorem dX11_puts_102 : decode cX11_puts 102 = .ok (.iconst 1, 1) := by decide +kernel
theorem dX11_puts_103 : decode cX11_puts 103 = .ok (.iload_n 2, 1) := by decide +kernel
theorem dX11_puts_104 : decode cX11_puts 104 = .ok (.invokevirtual 290, 3) := by decide +kernel
theorem dX11_puts_107 : decode cX11_puts 107 = .ok (.ifCond .eq 6, 3) := by decide +kernel
theorem dX11_puts_110 : decode cX11_puts 110 = .ok (.bipush (-2), 2) := by decide +kernel
theorem dX11_puts_112 : decode cX11_puts 112 = .ok (.ireturn, 1) := by decide +kernel
theorem dX11_puts_113 : decode cX11_puts 113 = .ok (.aload_n 0, 1) := by decide +kernel
theorem dX11_puts_114 : decode cX11_puts 114 = .ok (.bipush 122, 2) := by decide +kernel
theorem dX11_puts_116 : decode cX11_puts 116 = .ok (.iload 4, 2) := by decide +kernel
theorem dX11_puts_118 : decode cX11_puts 118 = .ok (.iadd, 1) := by decide +kernel
theorem dX11_puts_119 : decode cX11_puts 119 = .ok (.aload_n 0, 1) := by decide +kernel
theorem dX11_puts_120 : decode cX11_puts 120 = .ok (.bipush 122, 2) := by decide +kernel
theorem dX11_puts_122 : decode cX11_puts 122 = .ok (.iload 4, 2) := by decide +kernel
theorem dX11_puts_124 : decode cX11_puts 124 = .ok (.iadd, 1) := by decide +kernel
theorem dX11_puts_125 : decode cX11_puts 125 = .ok (.invokevirtual 234, 3) := by decide +kernel
theorem dX11_puts_128 : decode cX11_puts 128 = .ok (.iconst 1, 1) := by decide +kernel
theorem dX11_puts_129 : decode cX11_puts 129 = .ok (.iload_n 1, 1) := by decide +kernel
theorem dX11_puts_130 : decode cX11_puts 130 = .ok (.ishl, 1) := by decide +kernel
theorem dX11_puts_131 : decode cX11_puts 131 = .ok (.ior, 1) := by decide +kernel
theorem dX11_puts_132 : decode cX11_puts 132 = .ok (.invokevirtual 250, 3) := by decide +kernel
theorem dX11_puts_135 : decode cX11_puts 135 = .ok (.bipush (-4), 2) := by decide +kernel
theorem dX11_puts_137 : decode cX11_puts 137 = .ok (.ireturn, 1) := by decide +kernel
theorem dX11_puts_138 : decode cX11_puts 138 = .ok (.aload_n 0, 1) := by decide +kernel
theorem dX11_puts_139 : decode cX11_puts 139 = .ok (.invokevirtual 267, 3) := by decide +kernel
theorem dX11_puts_142 : decode cX11_puts 142 = .ok (.bipush 24, 2) := by decide +kernel
theorem dX11_puts_144 : decode cX11_puts 144 = .ok (.if_icmp .ne 5, 3) := by decide +kernel
theorem dX11_puts_147 : decode cX11_puts 147 = .ok (.iconst (-1), 1) := by decide +kernel
theorem dX11_puts_148 : decode cX11_puts 148 = .ok (.ireturn, 1) := by decide +kernel
theorem dX11_puts_149 : decode cX11_puts 149 = .ok (.aload_n 0, 1) := by decide +kernel
theorem dX11_puts_150 : decode cX11_puts 150 = .ok (.getfield 237, 3) := by decide +kernel
theorem dX11_puts_153 : decode cX11_puts 153 = .ok (.ifCond .ne 27, 3) := by decide +kernel
theorem dX11_puts_156 : decode cX11_puts 156 = .ok (.aload_n 0, 1) := by decide +kernel
theorem dX11_puts_157 : decode cX11_puts 157 = .ok (.aload_n 0, 1) := by decide +kernel
theorem dX11_puts_158 : decode cX11_puts 158 = .ok (.bipush 97, 2) := by decide +kernel
theorem dX11_puts_160 : decode cX11_puts 160 = .ok (.iload 4, 2) := by decide +kernel
theorem dX11_puts_162 : decode cX11_puts 162 = .ok (.iadd, 1) := by decide +kernel
theorem dX11_puts_163 : decode cX11_puts 163 = .ok (.invokevirtual 234, 3) := by decide +kernel
theorem dX11_puts_166 : decode cX11_puts 166 = .ok (.iload 5, 2) := by decide +kernel
theorem dX11_puts_168 : decode cX11_puts 168 = .ok (.iand, 1) := by decide +kernel
theorem dX11_puts_169 : decode cX11_puts 169 = .ok (.iconst 3, 1) := by decide +kernel
theorem dX11_puts_170 : decode cX11_puts 170 = .ok (.iload_n 2, 1) := by decide +kernel
theorem dX11_puts_171 : decode cX11_puts 171 = .ok (.invokevirtual 290, 3) := by decide +kernel
theorem dX11_puts_174 : decode cX11_puts 174 = .ok (.ifCond .eq 6, 3) := by decide +kernel
theorem dX11_puts_177 : decode cX11_puts 177 = .ok (.bipush (-2), 2) := by decide +kernel
theorem dX11_puts_179 : decode cX11_puts 179 = .ok (.ireturn, 1) := by decide +kernel
theorem dX11_puts_180 : decode cX11_puts 180 = .ok (.aload_n 0, 1) := by decide +kernel
theorem dX11_puts_181 : decode cX11_puts 181 = .ok (.iload 4, 2) := by decide +kernel
theorem dX11_puts_183 : decode cX11_puts 183 = .ok (.iload_n 2, 1) := by decide +kernel
theorem dX11_puts_184 : decode cX11_puts 184 = .ok (.iload_n 3, 1) := by decide +kernel
theorem dX11_puts_185 : decode cX11_puts 185 = .ok (.invokevirtual 257, 3) := by decide +kernel
theorem dX11_puts_188 : decode cX11_puts 188 = .ok (.aload_n 0, 1) := by decide +kernel
theorem dX11_puts_189 : decode cX11_puts 189 = .ok (.bipush 73, 2) := by decide +kernel
theorem dX11_puts_191 : decode cX11_puts 191 = .ok (.iload 4, 2) := by decide +kernel
theorem dX11_puts_193 : decode cX11_puts 193 = .ok (.iadd, 1) := by decide +kernel
theorem dX11_puts_194 : decode cX11_puts 194 = .ok (.iload_n 1, 1) := by decide +kernel
theorem dX11_puts_195 : decode cX11_puts 195 = .ok (.invokevirtual 250, 3) := by decide +kernel
theorem dX11_puts_198 : decode cX11_puts 198 = .ok (.aload_n 0, 1) := by decide +kernel
theorem dX11_puts_199 : decode cX11_puts 199 = .ok (.sipush 146, 3) := by decide +kernel
theorem dX11_puts_202 : decode cX11_puts 202 = .ok (.iload 4, 2) := by decide +kernel
theorem dX11_puts_204 : decode cX11_puts 204 = .ok (.iadd, 1) := by decide +kernel
theorem dX11_puts_205 : decode cX11_puts 205 = .ok (.iconst 1, 1) := by decide +kernel
theorem dX11_puts_206 : decode cX11_puts 206 = .ok (.iload_n 1, 1) := by decide +kernel
theorem dX11_puts_207 : decode cX11_puts 207 = .ok (.ishl, 1) := by decide +kernel
theorem dX11_puts_208 : decode cX11_puts 208 = .ok (.invokevirtual 250, 3) := by decide +kernel
theorem dX11_puts_211 : decode cX11_puts 211 = .ok (.aload_n 0, 1) := by decide +kernel
theorem dX11_puts_212 : decode cX11_puts 212 = .ok (.iload_n 1, 1) := by decide +kernel
theorem dX11_puts_213 : decode cX11_puts 213 = .ok (.bipush 7, 2) := by decide +kernel
theorem dX11_puts_215 : decode cX11_puts 215 = .ok (.iload_n 2, 1) := by decide +kernel
theorem dX11_puts_216 : decode cX11_puts 216 = .ok (.iconst 0, 1) := by decide +kernel
theorem dX11_puts_217 : decode cX11_puts 217 = .ok (.invokevirtual 293, 3) := by decide +kernel
theorem dX11_puts_220 : decode cX11_puts 220 = .ok (.aload_n 0, 1) := by decide +kernel
theorem dX11_puts_221 : decode cX11_puts 221 = .ok (.invokevirtual 267, 3) := by decide +kernel
theorem dX11_puts_224 : decode cX11_puts 224 = .ok (.ireturn, 1) := by decide +kernel
theorem dX11_does_0 : decode cX11_does 0 = .ok (.aload_n 0, 1) := by decide +kernel
theorem dX11_does_1 : decode cX11_does 1 = .ok (.sipush 190, 3) := by decide +kernel
theorem dX11_does_4 : decode cX11_does 4 = .ok (.iload_n 1, 1) := by decide +kernel
theorem dX11_does_5 : decode cX11_does 5 = .ok (.iadd, 1) := by decide +kernel
theorem dX11_does_6 : decode cX11_does 6 = .ok (.invokevirtual 234, 3) := by decide +kernel
theorem dX11_does_9 : decode cX11_does 9 = .ok (.istore_n 2, 1) := by decide +kernel
theorem dX11_does_10 : decode cX11_does 10 = .ok (.iload_n 2, 1) := by decide +kernel
theorem dX11_does_11 : decode cX11_does 11 = .ok (.iconst 3, 1) := by decide +kernel
theorem dX11_does_12 : decode cX11_does 12 = .ok (.if_icmp .ne 27, 3) := by decide +kernel
theorem dX11_does_15 : decode cX11_does 15 = .ok (.aload_n 0, 1) := by decide +kernel
theorem dX11_does_16 : decode cX11_does 16 = .ok (.iload_n 1, 1) := by decide +kernel
theorem dX11_does_17 : decode cX11_does 17 = .ok (.aload_n 0, 1) := by decide +kernel
theorem dX11_does_18 : decode cX11_does 18 = .ok (.sipush 195, 3) := by decide +kernel
theorem dX11_does_21 : decode cX11_does 21 = .ok (.iload_n 1, 1) := by decide +kernel
theorem dX11_does_22 : decode cX11_does 22 = .ok (.iadd, 1) := by decide +kernel
theorem dX11_does_23 : decode cX11_does 23 = .ok (.invokevirtual 234, 3) := by decide +kernel
theorem dX11_does_26 : decode cX11_does 26 = .ok (.aload_n 0, 1) := by decide +kernel
theorem dX11_does_27 : decode cX11_does 27 = .ok (.sipush 200, 3) := by decide +kernel
theorem dX11_does_30 : decode cX11_does 30 = .ok (.iload_n 1, 1) := by decide +kernel
theorem dX11_does_31 : decode cX11_does 31 = .ok (.iadd, 1) := by decide +kernel
theorem dX11_does_32 : decode cX11_does 32 = .ok (.invokevirtual 234, 3) := by decide +kernel
theorem dX11_does_35 : decode cX11_does 35 = .ok (.invokevirtual 296, 3) := by decide +kernel
theorem dX11_does_38 : decode cX11_does 38 = .ok (.ireturn, 1) := by decide +kernel
theorem dX11_does_39 : decode cX11_does 39 = .ok (.iload_n 2, 1) := by decide +kernel
theorem dX11_does_40 : decode cX11_does 40 = .ok (.bipush 7, 2) := by decide +kernel
theorem dX11_does_42 : decode cX11_does 42 = .ok (.if_icmp .ne 27, 3) := by decide +kernel
theorem dX11_does_45 : decode cX11_does 45 = .ok (.aload_n 0, 1) := by decide +kernel
theorem dX11_does_46 : decode cX11_does 46 = .ok (.iload_n 1, 1) := by decide +kernel
theorem dX11_does_47 : decode cX11_does 47 = .ok (.aload_n 0, 1) := by decide +kernel
theorem dX11_does_48 : decode cX11_does 48 = .ok (.sipush 195, 3) := by decide +kernel
theorem dX11_does_51 : decode cX11_does 51 = .ok (.iload_n 1, 1) := by decide +kernel
theorem dX11_does_52 : decode cX11_does 52 = .ok (.iadd, 1) := by decide +kernel
theorem dX11_does_53 : decode cX11_does 53 = .ok (.invokevirtual 234, 3) := by decide +kernel
theorem dX11_does_56 : decode cX11_does 56 = .ok (.aload_n 0, 1) := by decide +kernel
theorem dX11_does_57 : decode cX11_does 57 = .ok (.sipush 205, 3) := by decide +kernel
theorem dX11_does_60 : decode cX11_does 60 = .ok (.iload_n 1, 1) := by decide +kernel
theorem dX11_does_61 : decode cX11_does 61 = .ok (.iadd, 1) := by decide +kernel
theorem dX11_does_62 : decode cX11_does 62 = .ok (.invokevirtual 234, 3) := by decide +kernel
theorem dX11_does_65 : decode cX11_does 65 = .ok (.invokevirtual 300, 3) := by decide +kernel
theorem dX11_does_68 : decode cX11_does 68 = .ok (.ireturn, 1) := by decide +kernel
theorem dX11_does_69 : decode cX11_does 69 = .ok (.aload_n 0, 1) := by decide +kernel
theorem dX11_does_70 : decode cX11_does 70 = .ok (.iload_n 1, 1) := by decide +kernel
theorem dX11_does_71 : decode cX11_does 71 = .ok (.iload_n 2, 1) := by decide +kernel
theorem dX11_does_72 : decode cX11_does 72 = .ok (.aload_n 0, 1) := by decide +kernel
theorem dX11_does_73 : decode cX11_does 73 = .ok (.sipush 195, 3) := by decide +kernel
theorem dX11_does_76 : decode cX11_does 76 = .ok (.iload_n 1, 1) := by decide +kernel
theorem dX11_does_77 : decode cX11_does 77 = .ok (.iadd, 1) := by decide +kernel
theorem dX11_does_78 : decode cX11_does 78 = .ok (.invokevirtual 234, 3) := by decide +kernel
theorem dX11_does_81 : decode cX11_does 81 = .ok (.aload_n 0, 1) := by decide +kernel
theorem dX11_does_82 : decode cX11_does 82 = .ok (.sipush 205, 3) := by decide +kernel
theorem dX11_does_85 : decode cX11_does 85 = .ok (.iload_n 1, 1) := by decide +kernel
theorem dX11_does_86 : decode cX11_does 86 = .ok (.iadd, 1) := by decide +kernel
theorem dX11_does_87 : decode cX11_does 87 = .ok (.invokevirtual 234, 3) := by decide +kernel
theorem dX11_does_90 : decode cX11_does 90 = .ok (.invokevirtual 303, 3) := by decide +kernel
theorem dX11_does_93 : decode cX11_does 93 = .ok (.ireturn, 1) := by decide +kernel
theorem dX11_stopsNow_0 : decode cX11_stopsNow 0 = .ok (.aload_n 0, 1) := by decide +kernel
theorem dX11_stopsNow_1 : decode cX11_stopsNow 1 = .ok (.sipush 170, 3) := by decide +kernel
theorem dX11_stopsNow_4 : decode cX11_stopsNow 4 = .ok (.iload_n 1, 1) := by decide +kernel
theorem dX11_stopsNow_5 : decode cX11_stopsNow 5 = .ok (.iadd, 1) := by decide +kernel
theorem dX11_stopsNow_6 : decode cX11_stopsNow 6 = .ok (.invokevirtual 234, 3) := by decide +kernel
theorem dX11_stopsNow_9 : decode cX11_stopsNow 9 = .ok (.iconst 2, 1) := by decide +kernel
theorem dX11_stopsNow_10 : decode cX11_stopsNow 10 = .ok (.if_icmp .eq 5, 3) := by decide +kernel
theorem dX11_stopsNow_13 : decode cX11_stopsNow 13 = .ok (.iconst 0, 1) := by decide +kernel
theorem dX11_stopsNow_14 : decode cX11_stopsNow 14 = .ok (.ireturn, 1) := by decide +kernel
theorem dX11_stopsNow_15 : decode cX11_stopsNow 15 = .ok (.aload_n 0, 1) := by decide +kernel
theorem dX11_stopsNow_16 : decode cX11_stopsNow 16 = .ok (.sipush 215, 3) := by decide +kernel
theorem dX11_stopsNow_19 : decode cX11_stopsNow 19 = .ok (.iload_n 1, 1) := by decide +kernel
theorem dX11_stopsNow_20 : decode cX11_stopsNow 20 = .ok (.iadd, 1) := by decide +kernel
theorem dX11_stopsNow_21 : decode cX11_stopsNow 21 = .ok (.invokevirtual 234, 3) := by decide +kernel
theorem dX11_stopsNow_24 : decode cX11_stopsNow 24 = .ok (.istore_n 2, 1) := by decide +kernel
theorem dX11_stopsNow_25 : decode cX11_stopsNow 25 = .ok (.aload_n 0, 1) := by decide +kernel
theorem dX11_stopsNow_26 : decode cX11_stopsNow 26 = .ok (.iload_n 2, 1) := by decide +kernel
theorem dX11_stopsNow_27 : decode cX11_stopsNow 27 = .ok (.invokevirtual 254, 3) := by decide +kernel
theorem dX11_stopsNow_30 : decode cX11_stopsNow 30 = .ok (.istore_n 3, 1) := by decide +kernel
theorem dX11_stopsNow_31 : decode cX11_stopsNow 31 = .ok (.iconst 1, 1) := by decide +kernel
theorem dX11_stopsNow_32 : decode cX11_stopsNow 32 = .ok (.iload_n 1, 1) := by decide +kernel
theorem dX11_stopsNow_33 : decode cX11_stopsNow 33 = .ok (.ishl, 1) := by decide +kernel
theorem dX11_stopsNow_34 : decode cX11_stopsNow 34 = .ok (.iconst (-1), 1) := by decide +kernel
theorem dX11_stopsNow_35 : decode cX11_stopsNow 35 = .ok (.ixor, 1) := by decide +kernel
theorem dX11_stopsNow_36 : decode cX11_stopsNow 36 = .ok (.istore 4, 2) := by decide +kernel
theorem dX11_stopsNow_38 : decode cX11_stopsNow 38 = .ok (.aload_n 0, 1) := by decide +kernel
theorem dX11_stopsNow_39 : decode cX11_stopsNow 39 = .ok (.sipush 210, 3) := by decide +kernel
theorem dX11_stopsNow_42 : decode cX11_stopsNow 42 = .ok (.iload_n 1, 1) := by decide +kernel
theorem dX11_stopsNow_43 : decode cX11_stopsNow 43 = .ok (.iadd, 1) := by decide +kernel
theorem dX11_stopsNow_44 : decode cX11_stopsNow 44 = .ok (.invokevirtual 234, 3) := by decide +kernel
theorem dX11_stopsNow_47 : decode cX11_stopsNow 47 = .ok (.iconst 3, 1) := by decide +kernel
theorem dX11_stopsNow_48 : decode cX11_stopsNow 48 = .ok (.if_icmp .ne 15, 3) := by decide +kernel
theorem dX11_stopsNow_51 : decode cX11_stopsNow 51 = .ok (.aload_n 0, 1) := by decide +kernel
theorem dX11_stopsNow_52 : decode cX11_stopsNow 52 = .ok (.bipush 97, 2) := by decide +kernel
theorem dX11_stopsNow_54 : decode cX11_stopsNow 54 = .ok (.iload_n 3, 1) := by decide +kernel
theorem dX11_stopsNow_55 : decode cX11_stopsNow 55 = .ok (.iadd, 1) := by decide +kernel
theorem dX11_stopsNow_56 : decode cX11_stopsNow 56 = .ok (.invokevirtual 234, 3) := by decide +kernel
theorem dX11_stopsNow_59 : decode cX11_stopsNow 59 = .ok (.iload 4, 2) := by decide +kernel
theorem dX11_stopsNow_61 : decode cX11_stopsNow 61 = .ok (.iand, 1) := by decide +kernel
theorem dX11_stopsNow_62 : decode cX11_stopsNow 62 = .ok (.ireturn, 1) := by decide +kernel
theorem dX11_stopsNow_63 : decode cX11_stopsNow 63 = .ok (.aload_n 0, 1) := by decide +kernel
theorem dX11_stopsNow_64 : decode cX11_stopsNow 64 = .ok (.iload_n 3, 1) := by decide +kernel
theorem dX11_stopsNow_65 : decode cX11_stopsNow 65 = .ok (.iload_n 2, 1) := by decide +kernel
theorem dX11_stopsNow_66 : decode cX11_stopsNow 66 = .ok (.invokevirtual 287, 3) := by decide +kernel
theorem dX11_stopsNow_69 : decode cX11_stopsNow 69 = .ok (.ifCond .ne 5, 3) := by decide +kernel
theorem dX11_stopsNow_72 : decode cX11_stopsNow 72 = .ok (.iconst 0, 1) := by decide +kernel
theorem dX11_stopsNow_73 : decode cX11_stopsNow 73 = .ok (.ireturn, 1) := by decide +kernel
theorem dX11_stopsNow_74 : decode cX11_stopsNow 74 = .ok (.aload_n 0, 1) := by decide +kernel
theorem dX11_stopsNow_75 : decode cX11_stopsNow 75 = .ok (.sipush 210, 3) := by decide +kernel
theorem dX11_stopsNow_78 : decode cX11_stopsNow 78 = .ok (.iload_n 1, 1) := by decide +kernel
theorem dX11_stopsNow_79 : decode cX11_stopsNow 79 = .ok (.iadd, 1) := by decide +kernel
theorem dX11_stopsNow_80 : decode cX11_stopsNow 80 = .ok (.invokevirtual 234, 3) := by decide +kernel
theorem dX11_stopsNow_83 : decode cX11_stopsNow 83 = .ok (.iconst 1, 1) := by decide +kernel
theorem dX11_stopsNow_84 : decode cX11_stopsNow 84 = .ok (.if_icmp .ne 15, 3) := by decide +kernel
theorem dX11_stopsNow_87 : decode cX11_stopsNow 87 = .ok (.aload_n 0, 1) := by decide +kernel
theorem dX11_stopsNow_88 : decode cX11_stopsNow 88 = .ok (.sipush 146, 3) := by decide +kernel
theorem dX11_stopsNow_91 : decode cX11_stopsNow 91 = .ok (.iload_n 3, 1) := by decide +kernel
theorem dX11_stopsNow_92 : decode cX11_stopsNow 92 = .ok (.iadd, 1) := by decide +kernel
theorem dX11_stopsNow_93 : decode cX11_stopsNow 93 = .ok (.invokevirtual 234, 3) := by decide +kernel
theorem dX11_stopsNow_96 : decode cX11_stopsNow 96 = .ok (.goto 21, 3) := by decide +kernel
theorem dX11_stopsNow_99 : decode cX11_stopsNow 99 = .ok (.aload_n 0, 1) := by decide +kernel
theorem dX11_stopsNow_100 : decode cX11_stopsNow 100 = .ok (.bipush 122, 2) := by decide +kernel
theorem dX11_stopsNow_102 : decode cX11_stopsNow 102 = .ok (.iload_n 3, 1) := by decide +kernel
theorem dX11_stopsNow_103 : decode cX11_stopsNow 103 = .ok (.iadd, 1) := by decide +kernel
theorem dX11_stopsNow_104 : decode cX11_stopsNow 104 = .ok (.invokevirtual 234, 3) := by decide +kernel
theorem dX11_stopsNow_107 : decode cX11_stopsNow 107 = .ok (.aload_n 0, 1) := by decide +kernel
theorem dX11_stopsNow_108 : decode cX11_stopsNow 108 = .ok (.sipush 146, 3) := by decide +kernel
theorem dX11_stopsNow_111 : decode cX11_stopsNow 111 = .ok (.iload_n 3, 1) := by decide +kernel
theorem dX11_stopsNow_112 : decode cX11_stopsNow 112 = .ok (.iadd, 1) := by decide +kernel
theorem dX11_stopsNow_113 : decode cX11_stopsNow 113 = .ok (.invokevirtual 234, 3) := by decide +kernel
theorem dX11_stopsNow_116 : decode cX11_stopsNow 116 = .ok (.ior, 1) := by decide +kernel
theorem dX11_stopsNow_117 : decode cX11_stopsNow 117 = .ok (.iload 4, 2) := by decide +kernel
theorem dX11_stopsNow_119 : decode cX11_stopsNow 119 = .ok (.iand, 1) := by decide +kernel
theorem dX11_stopsNow_120 : decode cX11_stopsNow 120 = .ok (.ireturn, 1) := by decide +kernel
theorem dX11_isRing_0 : decode cX11_isRing 0 = .ok (.iload_n 1, 1) := by decide +kernel
theorem dX11_isRing_1 : decode cX11_isRing 1 = .ok (.istore_n 3, 1) := by decide +kernel
theorem dX11_isRing_2 : decode cX11_isRing 2 = .ok (.iconst 0, 1) := by decide +kernel
theorem dX11_isRing_3 : decode cX11_isRing 3 = .ok (.istore 4, 2) := by decide +kernel
theorem dX11_isRing_5 : decode cX11_isRing 5 = .ok (.iload 4, 2) := by decide +kernel
theorem dX11_isRing_7 : decode cX11_isRing 7 = .ok (.bipush 6, 2) := by decide +kernel
theorem dX11_isRing_9 : decode cX11_isRing 9 = .ok (.if_icmp .ge 49, 3) := by decide +kernel
theorem dX11_isRing_12 : decode cX11_isRing 12 = .ok (.iconst 0, 1) := by decide +kernel
theorem dX11_isRing_13 : decode cX11_isRing 13 = .ok (.istore 5, 2) := by decide +kernel
theorem dX11_isRing_15 : decode cX11_isRing 15 = .ok (.iload 5, 2) := by decide +kernel
theorem dX11_isRing_17 : decode cX11_isRing 17 = .ok (.aload_n 0, 1) := by decide +kernel
theorem dX11_isRing_18 : decode cX11_isRing 18 = .ok (.getfield 189, 3) := by decide +kernel
theorem dX11_isRing_21 : decode cX11_isRing 21 = .ok (.if_icmp .ge 31, 3) := by decide +kernel
theorem dX11_isRing_24 : decode cX11_isRing 24 = .ok (.iload_n 3, 1) := by decide +kernel
theorem dX11_isRing_25 : decode cX11_isRing 25 = .ok (.iload_n 3, 1) := by decide +kernel
theorem dX11_isRing_26 : decode cX11_isRing 26 = .ok (.iload 5, 2) := by decide +kernel
theorem dX11_isRing_28 : decode cX11_isRing 28 = .ok (.invokestatic 307, 3) := by decide +kernel
theorem dX11_isRing_31 : decode cX11_isRing 31 = .ok (.ifCond .eq 12, 3) := by decide +kernel
theorem dX11_isRing_34 : decode cX11_isRing 34 = .ok (.aload_n 0, 1) := by decide +kernel
theorem dX11_isRing_35 : decode cX11_isRing 35 = .ok (.iload 5, 2) := by decide +kernel
theorem dX11_isRing_37 : decode cX11_isRing 37 = .ok (.invokevirtual 310, 3) := by decide +kernel
theorem dX11_isRing_40 : decode cX11_isRing 40 = .ok (.goto 4, 3) := by decide +kernel
theorem dX11_isRing_43 : decode cX11_isRing 43 = .ok (.iconst 0, 1) := by decide +kernel
theorem dX11_isRing_44 : decode cX11_isRing 44 = .ok (.ior, 1) := by decide +kernel
theorem dX11_isRing_45 : decode cX11_isRing 45 = .ok (.istore_n 3, 1) := by decide +kernel
theorem dX11_isRing_46 : decode cX11_isRing 46 = .ok (.iinc 5 1, 3) := by decide +kernel
theorem dX11_isRing_49 : decode cX11_isRing 49 = .ok (.goto (-34), 3) := by decide +kernel
theorem dX11_isRing_52 : decode cX11_isRing 52 = .ok (.iinc 4 1, 3) := by decide +kernel
theorem dX11_isRing_55 : decode cX11_isRing 55 = .ok (.goto (-50), 3) := by decide +kernel
theorem dX11_isRing_58 : decode cX11_isRing 58 = .ok (.iload_n 3, 1) := by decide +kernel
theorem dX11_isRing_59 : decode cX11_isRing 59 = .ok (.iload_n 2, 1) := by decide +kernel
theorem dX11_isRing_60 : decode cX11_isRing 60 = .ok (.invokestatic 307, 3) := by decide +kernel
theorem dX11_isRing_63 : decode cX11_isRing 63 = .ok (.ireturn, 1) := by decide +kernel
theorem dX11_releases_0 : decode cX11_releases 0 = .ok (.iconst 0, 1) := by decide +kernel
theorem dX11_releases_1 : decode cX11_releases 1 = .ok (.istore_n 2, 1) := by decide +kernel
theorem dX11_releases_2 : decode cX11_releases 2 = .ok (.iload_n 2, 1) := by decide +kernel
theorem dX11_releases_3 : decode cX11_releases 3 = .ok (.aload_n 0, 1) := by decide +kernel
theorem dX11_releases_4 : decode cX11_releases 4 = .ok (.invokevirtual 267, 3) := by decide +kernel
theorem dX11_releases_7 : decode cX11_releases 7 = .ok (.if_icmp .gt 109, 3) := by decide +kernel
theorem dX11_releases_10 : decode cX11_releases 10 = .ok (.aload_n 0, 1) := by decide +kernel
theorem dX11_releases_11 : decode cX11_releases 11 = .ok (.bipush 97, 2) := by decide +kernel
theorem dX11_releases_13 : decode cX11_releases 13 = .ok (.iload_n 2, 1) := by decide +kernel
theorem dX11_releases_14 : decode cX11_releases 14 = .ok (.iadd, 1) := by decide +kernel
theorem dX11_releases_15 : decode cX11_releases 15 = .ok (.aload_n 0, 1) := by decide +kernel
theorem dX11_releases_16 : decode cX11_releases 16 = .ok (.bipush 97, 2) := by decide +kernel
theorem dX11_releases_18 : decode cX11_releases 18 = .ok (.iload_n 2, 1) := by decide +kernel
theorem dX11_releases_19 : decode cX11_releases 19 = .ok (.iadd, 1) := by decide +kernel
theorem dX11_releases_20 : decode cX11_releases 20 = .ok (.invokevirtual 234, 3) := by decide +kernel
theorem dX11_releases_23 : decode cX11_releases 23 = .ok (.iconst 1, 1) := by decide +kernel
theorem dX11_releases_24 : decode cX11_releases 24 = .ok (.iload_n 1, 1) := by decide +kernel
theorem dX11_releases_25 : decode cX11_releases 25 = .ok (.ishl, 1) := by decide +kernel
theorem dX11_releases_26 : decode cX11_releases 26 = .ok (.iconst (-1), 1) := by decide +kernel
theorem dX11_releases_27 : decode cX11_releases 27 = .ok (.ixor, 1) := by decide +kernel
theorem dX11_releases_28 : decode cX11_releases 28 = .ok (.iand, 1) := by decide +kernel
theorem dX11_releases_29 : decode cX11_releases 29 = .ok (.invokevirtual 250, 3) := by decide +kernel
theorem dX11_releases_32 : decode cX11_releases 32 = .ok (.iload_n 2, 1) := by decide +kernel
theorem dX11_releases_33 : decode cX11_releases 33 = .ok (.aload_n 0, 1) := by decide +kernel
theorem dX11_releases_34 : decode cX11_releases 34 = .ok (.invokevirtual 267, 3) := by decide +kernel
theorem dX11_releases_37 : decode cX11_releases 37 = .ok (.if_icmp .ne 6, 3) := by decide +kernel
theorem dX11_releases_40 : decode cX11_releases 40 = .ok (.goto 70, 3) := by decide +kernel
theorem dX11_releases_43 : decode cX11_releases 43 = .ok (.aload_n 0, 1) := by decide +kernel
theorem dX11_releases_44 : decode cX11_releases 44 = .ok (.bipush 122, 2) := by decide +kernel
theorem dX11_releases_46 : decode cX11_releases 46 = .ok (.iload_n 2, 1) := by decide +kernel
theorem dX11_releases_47 : decode cX11_releases 47 = .ok (.iadd, 1) := by decide +kernel
theorem dX11_releases_48 : decode cX11_releases 48 = .ok (.aload_n 0, 1) := by decide +kernel
theorem dX11_releases_49 : decode cX11_releases 49 = .ok (.bipush 122, 2) := by decide +kernel
theorem dX11_releases_51 : decode cX11_releases 51 = .ok (.iload_n 2, 1) := by decide +kernel
theorem dX11_releases_52 : decode cX11_releases 52 = .ok (.iadd, 1) := by decide +kernel
theorem dX11_releases_53 : decode cX11_releases 53 = .ok (.invokevirtual 234, 3) := by decide +kernel
theorem dX11_releases_56 : decode cX11_releases 56 = .ok (.iconst 1, 1) := by decide +kernel
theorem dX11_releases_57 : decode cX11_releases 57 = .ok (.iload_n 1, 1) := by decide +kernel
theorem dX11_releases_58 : decode cX11_releases 58 = .ok (.ishl, 1) := by decide +kernel
theorem dX11_releases_59 : decode cX11_releases 59 = .ok (.iconst (-1), 1) := by decide +kernel
theorem dX11_releases_60 : decode cX11_releases 60 = .ok (.ixor, 1) := by decide +kernel
theorem dX11_releases_61 : decode cX11_releases 61 = .ok (.iand, 1) := by decide +kernel
theorem dX11_releases_62 : decode cX11_releases 62 = .ok (.invokevirtual 250, 3) := by decide +kernel
theorem dX11_releases_65 : decode cX11_releases 65 = .ok (.aload_n 0, 1) := by decide +kernel
theorem dX11_releases_66 : decode cX11_releases 66 = .ok (.sipush 146, 3) := by decide +kernel
theorem dX11_releases_69 : decode cX11_releases 69 = .ok (.iload_n 2, 1) := by decide +kernel
theorem dX11_releases_70 : decode cX11_releases 70 = .ok (.iadd, 1) := by decide +kernel
theorem dX11_releases_71 : decode cX11_releases 71 = .ok (.aload_n 0, 1) := by decide +kernel
theorem dX11_releases_72 : decode cX11_releases 72 = .ok (.sipush 146, 3) := by decide +kernel
theorem dX11_releases_75 : decode cX11_releases 75 = .ok (.iload_n 2, 1) := by decide +kernel
theorem dX11_releases_76 : decode cX11_releases 76 = .ok (.iadd, 1) := by decide +kernel
theorem dX11_releases_77 : decode cX11_releases 77 = .ok (.invokevirtual 234, 3) := by decide +kernel
theorem dX11_releases_80 : decode cX11_releases 80 = .ok (.iconst 1, 1) := by decide +kernel
theorem dX11_releases_81 : decode cX11_releases 81 = .ok (.iload_n 1, 1) := by decide +kernel
theorem dX11_releases_82 : decode cX11_releases 82 = .ok (.ishl, 1) := by decide +kernel
theorem dX11_releases_83 : decode cX11_releases 83 = .ok (.iconst (-1), 1) := by decide +kernel
theorem dX11_releases_84 : decode cX11_releases 84 = .ok (.ixor, 1) := by decide +kernel
theorem dX11_releases_85 : decode cX11_releases 85 = .ok (.iand, 1) := by decide +kernel
theorem dX11_releases_86 : decode cX11_releases 86 = .ok (.invokevirtual 250, 3) := by decide +kernel
theorem dX11_releases_89 : decode cX11_releases 89 = .ok (.aload_n 0, 1) := by decide +kernel
theorem dX11_releases_90 : decode cX11_releases 90 = .ok (.bipush 73, 2) := by decide +kernel
theorem dX11_releases_92 : decode cX11_releases 92 = .ok (.iload_n 2, 1) := by decide +kernel
theorem dX11_releases_93 : decode cX11_releases 93 = .ok (.iadd, 1) := by decide +kernel
theorem dX11_releases_94 : decode cX11_releases 94 = .ok (.invokevirtual 234, 3) := by decide +kernel
theorem dX11_releases_97 : decode cX11_releases 97 = .ok (.iload_n 1, 1) := by decide +kernel
theorem dX11_releases_98 : decode cX11_releases 98 = .ok (.if_icmp .ne 12, 3) := by decide +kernel
theorem dX11_releases_101 : decode cX11_releases 101 = .ok (.aload_n 0, 1) := by decide +kernel
theorem dX11_releases_102 : decode cX11_releases 102 = .ok (.bipush 73, 2) := by decide +kernel
theorem dX11_releases_104 : decode cX11_releases 104 = .ok (.iload_n 2, 1) := by decide +kernel
theorem dX11_releases_105 : decode cX11_releases 105 = .ok (.iadd, 1) := by decide +kernel
theorem dX11_releases_106 : decode cX11_releases 106 = .ok (.iconst (-1), 1) := by decide +kernel
theorem dX11_releases_107 : decode cX11_releases 107 = .ok (.invokevirtual 250, 3) := by decide +kernel
theorem dX11_releases_110 : decode cX11_releases 110 = .ok (.iinc 2 1, 3) := by decide +kernel
theorem dX11_releases_113 : decode cX11_releases 113 = .ok (.goto (-111), 3) := by decide +kernel
theorem dX11_releases_116 : decode cX11_releases 116 = .ok (.aload_n 0, 1) := by decide +kernel
theorem dX11_releases_117 : decode cX11_releases 117 = .ok (.sipush 170, 3) := by decide +kernel
theorem dX11_releases_120 : decode cX11_releases 120 = .ok (.iload_n 1, 1) := by decide +kernel
theorem dX11_releases_121 : decode cX11_releases 121 = .ok (.iadd, 1) := by decide +kernel
theorem dX11_releases_122 : decode cX11_releases 122 = .ok (.iconst 0, 1) := by decide +kernel
theorem dX11_releases_123 : decode cX11_releases 123 = .ok (.invokevirtual 250, 3) := by decide +kernel
theorem dX11_releases_126 : decode cX11_releases 126 = .ok (.aload_n 0, 1) := by decide +kernel
theorem dX11_releases_127 : decode cX11_releases 127 = .ok (.sipush 210, 3) := by decide +kernel
theorem dX11_releases_130 : decode cX11_releases 130 = .ok (.iload_n 1, 1) := by decide +kernel
theorem dX11_releases_131 : decode cX11_releases 131 = .ok (.iadd, 1) := by decide +kernel
theorem dX11_releases_132 : decode cX11_releases 132 = .ok (.iconst 0, 1) := by decide +kernel
theorem dX11_releases_133 : decode cX11_releases 133 = .ok (.invokevirtual 250, 3) := by decide +kernel
theorem dX11_releases_136 : decode cX11_releases 136 = .ok (.return_, 1) := by decide +kernel
theorem dX11_undoes_0 : decode cX11_undoes 0 = .ok (.aload_n 0, 1) := by decide +kernel
theorem dX11_undoes_1 : decode cX11_undoes 1 = .ok (.sipush 227, 3) := by decide +kernel
theorem dX11_undoes_4 : decode cX11_undoes 4 = .ok (.invokevirtual 234, 3) := by decide +kernel
theorem dX11_undoes_7 : decode cX11_undoes 7 = .ok (.iconst 1, 1) := by decide +kernel
theorem dX11_undoes_8 : decode cX11_undoes 8 = .ok (.isub, 1) := by decide +kernel
theorem dX11_undoes_9 : decode cX11_undoes 9 = .ok (.istore_n 2, 1) := by decide +kernel
theorem dX11_undoes_10 : decode cX11_undoes 10 = .ok (.iload_n 2, 1) := by decide +kernel
theorem dX11_undoes_11 : decode cX11_undoes 11 = .ok (.aload_n 0, 1) := by decide +kernel
theorem dX11_undoes_12 : decode cX11_undoes 12 = .ok (.sipush 180, 3) := by decide +kernel
theorem dX11_undoes_15 : decode cX11_undoes 15 = .ok (.iload_n 1, 1) := by decide +kernel
theorem dX11_undoes_16 : decode cX11_undoes 16 = .ok (.iadd, 1) := by decide +kernel
theorem dX11_undoes_17 : decode cX11_undoes 17 = .ok (.invokevirtual 234, 3) := by decide +kernel
theorem dX11_undoes_20 : decode cX11_undoes 20 = .ok (.if_icmp .lt 144, 3) := by decide +kernel
theorem dX11_undoes_23 : decode cX11_undoes 23 = .ok (.sipush 600, 3) := by decide +kernel
theorem dX11_undoes_26 : decode cX11_undoes 26 = .ok (.aload_n 0, 1) := by decide +kernel
theorem dX11_undoes_27 : decode cX11_undoes 27 = .ok (.getfield 202, 3) := by decide +kernel
theorem dX11_undoes_30 : decode cX11_undoes 30 = .ok (.imul, 1) := by decide +kernel
theorem dX11_undoes_31 : decode cX11_undoes 31 = .ok (.iload_n 2, 1) := by decide +kernel
theorem dX11_undoes_32 : decode cX11_undoes 32 = .ok (.iadd, 1) := by decide +kernel
theorem dX11_undoes_33 : decode cX11_undoes 33 = .ok (.istore_n 3, 1) := by decide +kernel
theorem dX11_undoes_34 : decode cX11_undoes 34 = .ok (.aload_n 0, 1) := by decide +kernel
theorem dX11_undoes_35 : decode cX11_undoes 35 = .ok (.getfield 47, 3) := by decide +kernel
theorem dX11_undoes_38 : decode cX11_undoes 38 = .ok (.iload_n 3, 1) := by decide +kernel
theorem dX11_undoes_39 : decode cX11_undoes 39 = .ok (.iaload, 1) := by decide +kernel
theorem dX11_undoes_40 : decode cX11_undoes 40 = .ok (.iload_n 1, 1) := by decide +kernel
theorem dX11_undoes_41 : decode cX11_undoes 41 = .ok (.if_icmp .eq 6, 3) := by decide +kernel
theorem dX11_undoes_44 : decode cX11_undoes 44 = .ok (.goto 114, 3) := by decide +kernel
theorem dX11_undoes_47 : decode cX11_undoes 47 = .ok (.aload_n 0, 1) := by decide +kernel
theorem dX11_undoes_48 : decode cX11_undoes 48 = .ok (.aload_n 0, 1) := by decide +kernel
theorem dX11_undoes_49 : decode cX11_undoes 49 = .ok (.getfield 53, 3) := by decide +kernel
theorem dX11_undoes_52 : decode cX11_undoes 52 = .ok (.iload_n 3, 1) := by decide +kernel
theorem dX11_undoes_53 : decode cX11_undoes 53 = .ok (.iaload, 1) := by decide +kernel
theorem dX11_undoes_54 : decode cX11_undoes 54 = .ok (.invokevirtual 254, 3) := by decide +kernel
theorem dX11_undoes_57 : decode cX11_undoes 57 = .ok (.istore 4, 2) := by decide +kernel
theorem dX11_undoes_59 : decode cX11_undoes 59 = .ok (.aload_n 0, 1) := by decide +kernel
theorem dX11_undoes_60 : decode cX11_undoes 60 = .ok (.getfield 50, 3) := by decide +kernel
theorem dX11_undoes_63 : decode cX11_undoes 63 = .ok (.iload_n 3, 1) := by decide +kernel
theorem dX11_undoes_64 : decode cX11_undoes 64 = .ok (.iaload, 1) := by decide +kernel
theorem dX11_undoes_65 : decode cX11_undoes 65 = .ok (.tableswitch 68 6 8 #[27, 58, 45], 27) := by decide +kernel
theorem dX11_undoes_92 : decode cX11_undoes 92 = .ok (.aload_n 0, 1) := by decide +kernel
theorem dX11_undoes_93 : decode cX11_undoes 93 = .ok (.bipush 25, 2) := by decide +kernel
theorem dX11_undoes_95 : decode cX11_undoes 95 = .ok (.iload 4, 2) := by decide +kernel
theorem dX11_undoes_97 : decode cX11_undoes 97 = .ok (.iadd, 1) := by decide +kernel
theorem dX11_undoes_98 : decode cX11_undoes 98 = .ok (.aload_n 0, 1) := by decide +kernel
theorem dX11_undoes_99 : decode cX11_undoes 99 = .ok (.getfield 56, 3) := by decide +kernel
theorem dX11_undoes_102 : decode cX11_undoes 102 = .ok (.iload_n 3, 1) := by decide +kernel
theorem dX11_undoes_103 : decode cX11_undoes 103 = .ok (.iaload, 1) := by decide +kernel
theorem dX11_undoes_104 : decode cX11_undoes 104 = .ok (.invokevirtual 250, 3) := by decide +kernel
theorem dX11_undoes_107 : decode cX11_undoes 107 = .ok (.goto 51, 3) := by decide +kernel
theorem dX11_undoes_110 : decode cX11_undoes 110 = .ok (.aload_n 0, 1) := by decide +kernel
theorem dX11_undoes_111 : decode cX11_undoes 111 = .ok (.bipush 49, 2) := by decide +kernel
theorem dX11_undoes_113 : decode cX11_undoes 113 = .ok (.iload 4, 2) := by decide +kernel
theorem dX11_undoes_115 : decode cX11_undoes 115 = .ok (.iadd, 1) := by decide +kernel
theorem dX11_undoes_116 : decode cX11_undoes 116 = .ok (.iconst (-1), 1) := by decide +kernel
theorem dX11_undoes_117 : decode cX11_undoes 117 = .ok (.invokevirtual 250, 3) := by decide +kernel
theorem dX11_undoes_120 : decode cX11_undoes 120 = .ok (.goto 38, 3) := by decide +kernel
theorem dX11_undoes_123 : decode cX11_undoes 123 = .ok (.aload_n 0, 1) := by decide +kernel
theorem dX11_undoes_124 : decode cX11_undoes 124 = .ok (.iload 4, 2) := by decide +kernel
theorem dX11_undoes_126 : decode cX11_undoes 126 = .ok (.iload_n 1, 1) := by decide +kernel
theorem dX11_undoes_127 : decode cX11_undoes 127 = .ok (.invokevirtual 313, 3) := by decide +kernel
theorem dX11_undoes_130 : decode cX11_undoes 130 = .ok (.goto 28, 3) := by decide +kernel
theorem dX11_undoes_133 : decode cX11_undoes 133 = .ok (.aload_n 0, 1) := by decide +kernel
theorem dX11_undoes_134 : decode cX11_undoes 134 = .ok (.bipush 49, 2) := by decide +kernel
theorem dX11_undoes_136 : decode cX11_undoes 136 = .ok (.iload 4, 2) := by decide +kernel
theorem dX11_undoes_138 : decode cX11_undoes 138 = .ok (.iadd, 1) := by decide +kernel
theorem dX11_undoes_139 : decode cX11_undoes 139 = .ok (.iload_n 1, 1) := by decide +kernel
theorem dX11_undoes_140 : decode cX11_undoes 140 = .ok (.invokevirtual 250, 3) := by decide +kernel
theorem dX11_undoes_143 : decode cX11_undoes 143 = .ok (.aload_n 0, 1) := by decide +kernel
theorem dX11_undoes_144 : decode cX11_undoes 144 = .ok (.bipush 25, 2) := by decide +kernel
theorem dX11_undoes_146 : decode cX11_undoes 146 = .ok (.iload 4, 2) := by decide +kernel
theorem dX11_undoes_148 : decode cX11_undoes 148 = .ok (.iadd, 1) := by decide +kernel
theorem dX11_undoes_149 : decode cX11_undoes 149 = .ok (.aload_n 0, 1) := by decide +kernel
theorem dX11_undoes_150 : decode cX11_undoes 150 = .ok (.getfield 56, 3) := by decide +kernel
theorem dX11_undoes_153 : decode cX11_undoes 153 = .ok (.iload_n 3, 1) := by decide +kernel
theorem dX11_undoes_154 : decode cX11_undoes 154 = .ok (.iaload, 1) := by decide +kernel
theorem dX11_undoes_155 : decode cX11_undoes 155 = .ok (.invokevirtual 250, 3) := by decide +kernel
theorem dX11_undoes_158 : decode cX11_undoes 158 = .ok (.iinc 2 (-1), 3) := by decide +kernel
theorem dX11_undoes_161 : decode cX11_undoes 161 = .ok (.goto (-151), 3) := by decide +kernel
theorem dX11_undoes_164 : decode cX11_undoes 164 = .ok (.aload_n 0, 1) := by decide +kernel
theorem dX11_undoes_165 : decode cX11_undoes 165 = .ok (.iload_n 1, 1) := by decide +kernel
theorem dX11_undoes_166 : decode cX11_undoes 166 = .ok (.invokevirtual 316, 3) := by decide +kernel
theorem dX11_undoes_169 : decode cX11_undoes 169 = .ok (.return_, 1) := by decide +kernel
theorem dX11_dies_0 : decode cX11_dies 0 = .ok (.aload_n 0, 1) := by decide +kernel
theorem dX11_dies_1 : decode cX11_dies 1 = .ok (.iload_n 1, 1) := by decide +kernel
theorem dX11_dies_2 : decode cX11_dies 2 = .ok (.invokevirtual 320, 3) := by decide +kernel
theorem dX11_dies_5 : decode cX11_dies 5 = .ok (.aload_n 0, 1) := by decide +kernel
theorem dX11_dies_6 : decode cX11_dies 6 = .ok (.sipush 175, 3) := by decide +kernel
theorem dX11_dies_9 : decode cX11_dies 9 = .ok (.iload_n 1, 1) := by decide +kernel
theorem dX11_dies_10 : decode cX11_dies 10 = .ok (.iadd, 1) := by decide +kernel
theorem dX11_dies_11 : decode cX11_dies 11 = .ok (.aload_n 0, 1) := by decide +kernel
theorem dX11_dies_12 : decode cX11_dies 12 = .ok (.sipush 175, 3) := by decide +kernel
theorem dX11_dies_15 : decode cX11_dies 15 = .ok (.iload_n 1, 1) := by decide +kernel
theorem dX11_dies_16 : decode cX11_dies 16 = .ok (.iadd, 1) := by decide +kernel
theorem dX11_dies_17 : decode cX11_dies 17 = .ok (.invokevirtual 234, 3) := by decide +kernel
theorem dX11_dies_20 : decode cX11_dies 20 = .ok (.iconst 1, 1) := by decide +kernel
theorem dX11_dies_21 : decode cX11_dies 21 = .ok (.iadd, 1) := by decide +kernel
theorem dX11_dies_22 : decode cX11_dies 22 = .ok (.invokevirtual 250, 3) := by decide +kernel
theorem dX11_dies_25 : decode cX11_dies 25 = .ok (.aload_n 0, 1) := by decide +kernel
theorem dX11_dies_26 : decode cX11_dies 26 = .ok (.sipush 220, 3) := by decide +kernel
theorem dX11_dies_29 : decode cX11_dies 29 = .ok (.iload_n 1, 1) := by decide +kernel
theorem dX11_dies_30 : decode cX11_dies 30 = .ok (.iadd, 1) := by decide +kernel
theorem dX11_dies_31 : decode cX11_dies 31 = .ok (.bipush (-3), 2) := by decide +kernel
theorem dX11_dies_33 : decode cX11_dies 33 = .ok (.invokevirtual 250, 3) := by decide +kernel
theorem dX11_dies_36 : decode cX11_dies 36 = .ok (.return_, 1) := by decide +kernel
theorem dX11_waitsBy_0 : decode cX11_waitsBy 0 = .ok (.aload_n 0, 1) := by decide +kernel
theorem dX11_waitsBy_1 : decode cX11_waitsBy 1 = .ok (.sipush 170, 3) := by decide +kernel
theorem dX11_waitsBy_4 : decode cX11_waitsBy 4 = .ok (.iload_n 1, 1) := by decide +kernel
theorem dX11_waitsBy_5 : decode cX11_waitsBy 5 = .ok (.iadd, 1) := by decide +kernel
theorem dX11_waitsBy_6 : decode cX11_waitsBy 6 = .ok (.iconst 2, 1) := by decide +kernel
theorem dX11_waitsBy_7 : decode cX11_waitsBy 7 = .ok (.invokevirtual 250, 3) := by decide +kernel
theorem dX11_waitsBy_10 : decode cX11_waitsBy 10 = .ok (.aload_n 0, 1) := by decide +kernel
theorem dX11_waitsBy_11 : decode cX11_waitsBy 11 = .ok (.sipush 210, 3) := by decide +kernel
theorem dX11_waitsBy_14 : decode cX11_waitsBy 14 = .ok (.iload_n 1, 1) := by decide +kernel
theorem dX11_waitsBy_15 : decode cX11_waitsBy 15 = .ok (.iadd, 1) := by decide +kernel
theorem dX11_waitsBy_16 : decode cX11_waitsBy 16 = .ok (.aload_n 0, 1) := by decide +kernel
theorem dX11_waitsBy_17 : decode cX11_waitsBy 17 = .ok (.getfield 281, 3) := by decide +kernel
theorem dX11_waitsBy_20 : decode cX11_waitsBy 20 = .ok (.invokevirtual 250, 3) := by decide +kernel
theorem dX11_waitsBy_23 : decode cX11_waitsBy 23 = .ok (.aload_n 0, 1) := by decide +kernel
theorem dX11_waitsBy_24 : decode cX11_waitsBy 24 = .ok (.sipush 215, 3) := by decide +kernel
theorem dX11_waitsBy_27 : decode cX11_waitsBy 27 = .ok (.iload_n 1, 1) := by decide +kernel
theorem dX11_waitsBy_28 : decode cX11_waitsBy 28 = .ok (.iadd, 1) := by decide +kernel
theorem dX11_waitsBy_29 : decode cX11_waitsBy 29 = .ok (.aload_n 0, 1) := by decide +kernel
theorem dX11_waitsBy_30 : decode cX11_waitsBy 30 = .ok (.getfield 284, 3) := by decide +kernel
theorem dX11_waitsBy_33 : decode cX11_waitsBy 33 = .ok (.invokevirtual 250, 3) := by decide +kernel
theorem dX11_waitsBy_36 : decode cX11_waitsBy 36 = .ok (.aload_n 0, 1) := by decide +kernel
theorem dX11_waitsBy_37 : decode cX11_waitsBy 37 = .ok (.sipush 225, 3) := by decide +kernel
theorem dX11_waitsBy_40 : decode cX11_waitsBy 40 = .ok (.aload_n 0, 1) := by decide +kernel
theorem dX11_waitsBy_41 : decode cX11_waitsBy 41 = .ok (.sipush 225, 3) := by decide +kernel
theorem dX11_waitsBy_44 : decode cX11_waitsBy 44 = .ok (.invokevirtual 234, 3) := by decide +kernel
theorem dX11_waitsBy_47 : decode cX11_waitsBy 47 = .ok (.iconst 1, 1) := by decide +kernel
theorem dX11_waitsBy_48 : decode cX11_waitsBy 48 = .ok (.iadd, 1) := by decide +kernel
theorem dX11_waitsBy_49 : decode cX11_waitsBy 49 = .ok (.invokevirtual 250, 3) := by decide +kernel
theorem dX11_waitsBy_52 : decode cX11_waitsBy 52 = .ok (.aload_n 0, 1) := by decide +kernel
theorem dX11_waitsBy_53 : decode cX11_waitsBy 53 = .ok (.sipush 185, 3) := by decide +kernel
theorem dX11_waitsBy_56 : decode cX11_waitsBy 56 = .ok (.iload_n 1, 1) := by decide +kernel
theorem dX11_waitsBy_57 : decode cX11_waitsBy 57 = .ok (.iadd, 1) := by decide +kernel
theorem dX11_waitsBy_58 : decode cX11_waitsBy 58 = .ok (.aload_n 0, 1) := by decide +kernel
theorem dX11_waitsBy_59 : decode cX11_waitsBy 59 = .ok (.sipush 225, 3) := by decide +kernel
theorem dX11_waitsBy_62 : decode cX11_waitsBy 62 = .ok (.invokevirtual 234, 3) := by decide +kernel
theorem dX11_waitsBy_65 : decode cX11_waitsBy 65 = .ok (.invokevirtual 250, 3) := by decide +kernel
theorem dX11_waitsBy_68 : decode cX11_waitsBy 68 = .ok (.aload_n 0, 1) := by decide +kernel
theorem dX11_waitsBy_69 : decode cX11_waitsBy 69 = .ok (.sipush 220, 3) := by decide +kernel
theorem dX11_waitsBy_72 : decode cX11_waitsBy 72 = .ok (.iload_n 1, 1) := by decide +kernel
theorem dX11_waitsBy_73 : decode cX11_waitsBy 73 = .ok (.iadd, 1) := by decide +kernel
theorem dX11_waitsBy_74 : decode cX11_waitsBy 74 = .ok (.bipush (-2), 2) := by decide +kernel
theorem dX11_waitsBy_76 : decode cX11_waitsBy 76 = .ok (.invokevirtual 250, 3) := by decide +kernel
theorem dX11_waitsBy_79 : decode cX11_waitsBy 79 = .ok (.return_, 1) := by decide +kernel
theorem dX11_waitsAt_0 : decode cX11_waitsAt 0 = .ok (.iconst 0, 1) := by decide +kernel
theorem dX11_waitsAt_1 : decode cX11_waitsAt 1 = .ok (.istore_n 2, 1) := by decide +kernel
theorem dX11_waitsAt_2 : decode cX11_waitsAt 2 = .ok (.iload_n 2, 1) := by decide +kernel
theorem dX11_waitsAt_3 : decode cX11_waitsAt 3 = .ok (.aload_n 0, 1) := by decide +kernel
theorem dX11_waitsAt_4 : decode cX11_waitsAt 4 = .ok (.getfield 189, 3) := by decide +kernel
theorem dX11_waitsAt_7 : decode cX11_waitsAt 7 = .ok (.if_icmp .ge 106, 3) := by decide +kernel
theorem dX11_waitsAt_10 : decode cX11_waitsAt 10 = .ok (.iconst 0, 1) := by decide +kernel
theorem dX11_waitsAt_11 : decode cX11_waitsAt 11 = .ok (.istore_n 3, 1) := by decide +kernel
theorem dX11_waitsAt_12 : decode cX11_waitsAt 12 = .ok (.iconst 0, 1) := by decide +kernel
theorem dX11_waitsAt_13 : decode cX11_waitsAt 13 = .ok (.istore 4, 2) := by decide +kernel
theorem dX11_waitsAt_15 : decode cX11_waitsAt 15 = .ok (.iload 4, 2) := by decide +kernel
theorem dX11_waitsAt_17 : decode cX11_waitsAt 17 = .ok (.aload_n 0, 1) := by decide +kernel
theorem dX11_waitsAt_18 : decode cX11_waitsAt 18 = .ok (.getfield 189, 3) := by decide +kernel
theorem dX11_waitsAt_21 : decode cX11_waitsAt 21 = .ok (.if_icmp .ge 66, 3) := by decide +kernel
theorem dX11_waitsAt_24 : decode cX11_waitsAt 24 = .ok (.aload_n 0, 1) := by decide +kernel
theorem dX11_waitsAt_25 : decode cX11_waitsAt 25 = .ok (.sipush 170, 3) := by decide +kernel
theorem dX11_waitsAt_28 : decode cX11_waitsAt 28 = .ok (.iload_n 2, 1) := by decide +kernel
theorem dX11_waitsAt_29 : decode cX11_waitsAt 29 = .ok (.iadd, 1) := by decide +kernel
theorem dX11_waitsAt_30 : decode cX11_waitsAt 30 = .ok (.invokevirtual 234, 3) := by decide +kernel
theorem dX11_waitsAt_33 : decode cX11_waitsAt 33 = .ok (.iconst 2, 1) := by decide +kernel
theorem dX11_waitsAt_34 : decode cX11_waitsAt 34 = .ok (.if_icmp .ne 53, 3) := by decide +kernel
theorem dX11_waitsAt_37 : decode cX11_waitsAt 37 = .ok (.iload_n 3, 1) := by decide +kernel
theorem dX11_waitsAt_38 : decode cX11_waitsAt 38 = .ok (.aload_n 0, 1) := by decide +kernel
theorem dX11_waitsAt_39 : decode cX11_waitsAt 39 = .ok (.sipush 170, 3) := by decide +kernel
theorem dX11_waitsAt_42 : decode cX11_waitsAt 42 = .ok (.iload 4, 2) := by decide +kernel
theorem dX11_waitsAt_44 : decode cX11_waitsAt 44 = .ok (.iadd, 1) := by decide +kernel
theorem dX11_waitsAt_45 : decode cX11_waitsAt 45 = .ok (.invokevirtual 234, 3) := by decide +kernel
theorem dX11_waitsAt_48 : decode cX11_waitsAt 48 = .ok (.iconst 2, 1) := by decide +kernel
theorem dX11_waitsAt_49 : decode cX11_waitsAt 49 = .ok (.if_icmp .ne 29, 3) := by decide +kernel
theorem dX11_waitsAt_52 : decode cX11_waitsAt 52 = .ok (.aload_n 0, 1) := by decide +kernel
theorem dX11_waitsAt_53 : decode cX11_waitsAt 53 = .ok (.sipush 185, 3) := by decide +kernel
theorem dX11_waitsAt_56 : decode cX11_waitsAt 56 = .ok (.iload 4, 2) := by decide +kernel
theorem dX11_waitsAt_58 : decode cX11_waitsAt 58 = .ok (.iadd, 1) := by decide +kernel
theorem dX11_waitsAt_59 : decode cX11_waitsAt 59 = .ok (.invokevirtual 234, 3) := by decide +kernel
theorem dX11_waitsAt_62 : decode cX11_waitsAt 62 = .ok (.aload_n 0, 1) := by decide +kernel
theorem dX11_waitsAt_63 : decode cX11_waitsAt 63 = .ok (.sipush 185, 3) := by decide +kernel
theorem dX11_waitsAt_66 : decode cX11_waitsAt 66 = .ok (.iload_n 2, 1) := by decide +kernel
theorem dX11_waitsAt_67 : decode cX11_waitsAt 67 = .ok (.iadd, 1) := by decide +kernel
theorem dX11_waitsAt_68 : decode cX11_waitsAt 68 = .ok (.invokevirtual 234, 3) := by decide +kernel
theorem dX11_waitsAt_71 : decode cX11_waitsAt 71 = .ok (.if_icmp .ge 7, 3) := by decide +kernel
theorem dX11_waitsAt_74 : decode cX11_waitsAt 74 = .ok (.iconst 1, 1) := by decide +kernel
theorem dX11_waitsAt_75 : decode cX11_waitsAt 75 = .ok (.goto 4, 3) := by decide +kernel
theorem dX11_waitsAt_78 : decode cX11_waitsAt 78 = .ok (.iconst 0, 1) := by decide +kernel
theorem dX11_waitsAt_79 : decode cX11_waitsAt 79 = .ok (.iadd, 1) := by decide +kernel
theorem dX11_waitsAt_80 : decode cX11_waitsAt 80 = .ok (.istore_n 3, 1) := by decide +kernel
theorem dX11_waitsAt_81 : decode cX11_waitsAt 81 = .ok (.iinc 4 1, 3) := by decide +kernel
theorem dX11_waitsAt_84 : decode cX11_waitsAt 84 = .ok (.goto (-69), 3) := by decide +kernel
theorem dX11_waitsAt_87 : decode cX11_waitsAt 87 = .ok (.aload_n 0, 1) := by decide +kernel
theorem dX11_waitsAt_88 : decode cX11_waitsAt 88 = .ok (.sipush 170, 3) := by decide +kernel
theorem dX11_waitsAt_91 : decode cX11_waitsAt 91 = .ok (.iload_n 2, 1) := by decide +kernel
theorem dX11_waitsAt_92 : decode cX11_waitsAt 92 = .ok (.iadd, 1) := by decide +kernel
theorem dX11_waitsAt_93 : decode cX11_waitsAt 93 = .ok (.invokevirtual 234, 3) := by decide +kernel
theorem dX11_waitsAt_96 : decode cX11_waitsAt 96 = .ok (.iconst 2, 1) := by decide +kernel
theorem dX11_waitsAt_97 : decode cX11_waitsAt 97 = .ok (.if_icmp .ne 10, 3) := by decide +kernel
theorem dX11_waitsAt_100 : decode cX11_waitsAt 100 = .ok (.iload_n 3, 1) := by decide +kernel
theorem dX11_waitsAt_101 : decode cX11_waitsAt 101 = .ok (.iload_n 1, 1) := by decide +kernel
theorem dX11_waitsAt_102 : decode cX11_waitsAt 102 = .ok (.if_icmp .ne 5, 3) := by decide +kernel
theorem dX11_waitsAt_105 : decode cX11_waitsAt 105 = .ok (.iload_n 2, 1) := by decide +kernel
theorem dX11_waitsAt_106 : decode cX11_waitsAt 106 = .ok (.ireturn, 1) := by decide +kernel
theorem dX11_waitsAt_107 : decode cX11_waitsAt 107 = .ok (.iinc 2 1, 3) := by decide +kernel
theorem dX11_waitsAt_110 : decode cX11_waitsAt 110 = .ok (.goto (-108), 3) := by decide +kernel
theorem dX11_waitsAt_113 : decode cX11_waitsAt 113 = .ok (.iconst (-1), 1) := by decide +kernel
theorem dX11_waitsAt_114 : decode cX11_waitsAt 114 = .ok (.ireturn, 1) := by decide +kernel
theorem dX11_isGoing_0 : decode cX11_isGoing 0 = .ok (.aload_n 0, 1) := by decide +kernel
theorem dX11_isGoing_1 : decode cX11_isGoing 1 = .ok (.iload_n 1, 1) := by decide +kernel
theorem dX11_isGoing_2 : decode cX11_isGoing 2 = .ok (.invokevirtual 323, 3) := by decide +kernel
theorem dX11_isGoing_5 : decode cX11_isGoing 5 = .ok (.istore_n 2, 1) := by decide +kernel
theorem dX11_isGoing_6 : decode cX11_isGoing 6 = .ok (.iload_n 2, 1) := by decide +kernel
theorem dX11_isGoing_7 : decode cX11_isGoing 7 = .ok (.bipush (-2), 2) := by decide +kernel
theorem dX11_isGoing_9 : decode cX11_isGoing 9 = .ok (.if_icmp .eq 35, 3) := by decide +kernel
theorem dX11_isGoing_12 : decode cX11_isGoing 12 = .ok (.aload_n 0, 1) := by decide +kernel
theorem dX11_isGoing_13 : decode cX11_isGoing 13 = .ok (.sipush 170, 3) := by decide +kernel
theorem dX11_isGoing_16 : decode cX11_isGoing 16 = .ok (.iload_n 1, 1) := by decide +kernel
theorem dX11_isGoing_17 : decode cX11_isGoing 17 = .ok (.iadd, 1) := by decide +kernel
theorem dX11_isGoing_18 : decode cX11_isGoing 18 = .ok (.iconst 1, 1) := by decide +kernel
theorem dX11_isGoing_19 : decode cX11_isGoing 19 = .ok (.invokevirtual 250, 3) := by decide +kernel
theorem dX11_isGoing_22 : decode cX11_isGoing 22 = .ok (.aload_n 0, 1) := by decide +kernel
theorem dX11_isGoing_23 : decode cX11_isGoing 23 = .ok (.sipush 210, 3) := by decide +kernel
theorem dX11_isGoing_26 : decode cX11_isGoing 26 = .ok (.iload_n 1, 1) := by decide +kernel
theorem dX11_isGoing_27 : decode cX11_isGoing 27 = .ok (.iadd, 1) := by decide +kernel
theorem dX11_isGoing_28 : decode cX11_isGoing 28 = .ok (.iconst 0, 1) := by decide +kernel
theorem dX11_isGoing_29 : decode cX11_isGoing 29 = .ok (.invokevirtual 250, 3) := by decide +kernel
theorem dX11_isGoing_32 : decode cX11_isGoing 32 = .ok (.aload_n 0, 1) := by decide +kernel
theorem dX11_isGoing_33 : decode cX11_isGoing 33 = .ok (.sipush 220, 3) := by decide +kernel
theorem dX11_isGoing_36 : decode cX11_isGoing 36 = .ok (.iload_n 1, 1) := by decide +kernel
theorem dX11_isGoing_37 : decode cX11_isGoing 37 = .ok (.iadd, 1) := by decide +kernel
theorem dX11_isGoing_38 : decode cX11_isGoing 38 = .ok (.iload_n 2, 1) := by decide +kernel
theorem dX11_isGoing_39 : decode cX11_isGoing 39 = .ok (.invokevirtual 250, 3) := by decide +kernel
theorem dX11_isGoing_42 : decode cX11_isGoing 42 = .ok (.iconst 1, 1) := by decide +kernel
theorem dX11_isGoing_43 : decode cX11_isGoing 43 = .ok (.ireturn, 1) := by decide +kernel
theorem dX11_isGoing_44 : decode cX11_isGoing 44 = .ok (.aload_n 0, 1) := by decide +kernel
theorem dX11_isGoing_45 : decode cX11_isGoing 45 = .ok (.getfield 281, 3) := by decide +kernel
theorem dX11_isGoing_48 : decode cX11_isGoing 48 = .ok (.aload_n 0, 1) := by decide +kernel
theorem dX11_isGoing_49 : decode cX11_isGoing 49 = .ok (.sipush 210, 3) := by decide +kernel
theorem dX11_isGoing_52 : decode cX11_isGoing 52 = .ok (.iload_n 1, 1) := by decide +kernel
theorem dX11_isGoing_53 : decode cX11_isGoing 53 = .ok (.iadd, 1) := by decide +kernel
theorem dX11_isGoing_54 : decode cX11_isGoing 54 = .ok (.invokevirtual 234, 3) := by decide +kernel
theorem dX11_isGoing_57 : decode cX11_isGoing 57 = .ok (.if_icmp .ne 21, 3) := by decide +kernel
theorem dX11_isGoing_60 : decode cX11_isGoing 60 = .ok (.aload_n 0, 1) := by decide +kernel
theorem dX11_isGoing_61 : decode cX11_isGoing 61 = .ok (.getfield 284, 3) := by decide +kernel
theorem dX11_isGoing_64 : decode cX11_isGoing 64 = .ok (.aload_n 0, 1) := by decide +kernel
theorem dX11_isGoing_65 : decode cX11_isGoing 65 = .ok (.sipush 215, 3) := by decide +kernel
theorem dX11_isGoing_68 : decode cX11_isGoing 68 = .ok (.iload_n 1, 1) := by decide +kernel
theorem dX11_isGoing_69 : decode cX11_isGoing 69 = .ok (.iadd, 1) := by decide +kernel
theorem dX11_isGoing_70 : decode cX11_isGoing 70 = .ok (.invokevirtual 234, 3) := by decide +kernel
theorem dX11_isGoing_73 : decode cX11_isGoing 73 = .ok (.if_icmp .ne 5, 3) := by decide +kernel
theorem dX11_isGoing_76 : decode cX11_isGoing 76 = .ok (.iconst 0, 1) := by decide +kernel
theorem dX11_isGoing_77 : decode cX11_isGoing 77 = .ok (.ireturn, 1) := by decide +kernel
theorem dX11_isGoing_78 : decode cX11_isGoing 78 = .ok (.aload_n 0, 1) := by decide +kernel
theorem dX11_isGoing_79 : decode cX11_isGoing 79 = .ok (.sipush 170, 3) := by decide +kernel
theorem dX11_isGoing_82 : decode cX11_isGoing 82 = .ok (.iload_n 1, 1) := by decide +kernel
theorem dX11_isGoing_83 : decode cX11_isGoing 83 = .ok (.iadd, 1) := by decide +kernel
theorem dX11_isGoing_84 : decode cX11_isGoing 84 = .ok (.iconst 1, 1) := by decide +kernel
theorem dX11_isGoing_85 : decode cX11_isGoing 85 = .ok (.invokevirtual 250, 3) := by decide +kernel
theorem dX11_isGoing_88 : decode cX11_isGoing 88 = .ok (.aload_n 0, 1) := by decide +kernel
theorem dX11_isGoing_89 : decode cX11_isGoing 89 = .ok (.getfield 244, 3) := by decide +kernel
theorem dX11_isGoing_92 : decode cX11_isGoing 92 = .ok (.ifCond .ne 15, 3) := by decide +kernel
theorem dX11_isGoing_95 : decode cX11_isGoing 95 = .ok (.aload_n 0, 1) := by decide +kernel
theorem dX11_isGoing_96 : decode cX11_isGoing 96 = .ok (.aload_n 0, 1) := by decide +kernel
theorem dX11_isGoing_97 : decode cX11_isGoing 97 = .ok (.getfield 278, 3) := by decide +kernel
theorem dX11_isGoing_100 : decode cX11_isGoing 100 = .ok (.iload_n 1, 1) := by decide +kernel
theorem dX11_isGoing_101 : decode cX11_isGoing 101 = .ok (.invokevirtual 326, 3) := by decide +kernel
theorem dX11_isGoing_104 : decode cX11_isGoing 104 = .ok (.ifCond .eq 11, 3) := by decide +kernel
theorem dX11_isGoing_107 : decode cX11_isGoing 107 = .ok (.aload_n 0, 1) := by decide +kernel
theorem dX11_isGoing_108 : decode cX11_isGoing 108 = .ok (.iload_n 1, 1) := by decide +kernel
theorem dX11_isGoing_109 : decode cX11_isGoing 109 = .ok (.invokevirtual 329, 3) := by decide +kernel
theorem dX11_isGoing_112 : decode cX11_isGoing 112 = .ok (.goto 8, 3) := by decide +kernel
theorem dX11_isGoing_115 : decode cX11_isGoing 115 = .ok (.aload_n 0, 1) := by decide +kernel
theorem dX11_isGoing_116 : decode cX11_isGoing 116 = .ok (.iload_n 1, 1) := by decide +kernel
theorem dX11_isGoing_117 : decode cX11_isGoing 117 = .ok (.invokevirtual 332, 3) := by decide +kernel
theorem dX11_isGoing_120 : decode cX11_isGoing 120 = .ok (.iconst 1, 1) := by decide +kernel
theorem dX11_isGoing_121 : decode cX11_isGoing 121 = .ok (.ireturn, 1) := by decide +kernel
theorem dX11_goOn_0 : decode cX11_goOn 0 = .ok (.iconst 0, 1) := by decide +kernel
theorem dX11_goOn_1 : decode cX11_goOn 1 = .ok (.istore_n 1, 1) := by decide +kernel
theorem dX11_goOn_2 : decode cX11_goOn 2 = .ok (.aload_n 0, 1) := by decide +kernel
theorem dX11_goOn_3 : decode cX11_goOn 3 = .ok (.iload_n 1, 1) := by decide +kernel
theorem dX11_goOn_4 : decode cX11_goOn 4 = .ok (.invokevirtual 335, 3) := by decide +kernel
theorem dX11_goOn_7 : decode cX11_goOn 7 = .ok (.istore_n 2, 1) := by decide +kernel
theorem dX11_goOn_8 : decode cX11_goOn 8 = .ok (.iload_n 2, 1) := by decide +kernel
theorem dX11_goOn_9 : decode cX11_goOn 9 = .ok (.ifCond .ge 4, 3) := by decide +kernel
theorem dX11_goOn_12 : decode cX11_goOn 12 = .ok (.return_, 1) := by decide +kernel
theorem dX11_goOn_13 : decode cX11_goOn 13 = .ok (.aload_n 0, 1) := by decide +kernel
theorem dX11_goOn_14 : decode cX11_goOn 14 = .ok (.iload_n 2, 1) := by decide +kernel
theorem dX11_goOn_15 : decode cX11_goOn 15 = .ok (.invokevirtual 338, 3) := by decide +kernel
theorem dX11_goOn_18 : decode cX11_goOn 18 = .ok (.ifCond .eq 7, 3) := by decide +kernel
theorem dX11_goOn_21 : decode cX11_goOn 21 = .ok (.iconst 0, 1) := by decide +kernel
theorem dX11_goOn_22 : decode cX11_goOn 22 = .ok (.goto 6, 3) := by decide +kernel
theorem dX11_goOn_25 : decode cX11_goOn 25 = .ok (.iload_n 1, 1) := by decide +kernel
theorem dX11_goOn_26 : decode cX11_goOn 26 = .ok (.iconst 1, 1) := by decide +kernel
theorem dX11_goOn_27 : decode cX11_goOn 27 = .ok (.iadd, 1) := by decide +kernel
theorem dX11_goOn_28 : decode cX11_goOn 28 = .ok (.istore_n 1, 1) := by decide +kernel
theorem dX11_goOn_29 : decode cX11_goOn 29 = .ok (.goto (-27), 3) := by decide +kernel
theorem dX11_begins_0 : decode cX11_begins 0 = .ok (.aload_n 0, 1) := by decide +kernel
theorem dX11_begins_1 : decode cX11_begins 1 = .ok (.iload_n 1, 1) := by decide +kernel
theorem dX11_begins_2 : decode cX11_begins 2 = .ok (.invokevirtual 341, 3) := by decide +kernel
theorem dX11_begins_5 : decode cX11_begins 5 = .ok (.ifCond .eq 16, 3) := by decide +kernel
theorem dX11_begins_8 : decode cX11_begins 8 = .ok (.aload_n 0, 1) := by decide +kernel
theorem dX11_begins_9 : decode cX11_begins 9 = .ok (.sipush 170, 3) := by decide +kernel
theorem dX11_begins_12 : decode cX11_begins 12 = .ok (.iload_n 1, 1) := by decide +kernel
theorem dX11_begins_13 : decode cX11_begins 13 = .ok (.iadd, 1) := by decide +kernel
theorem dX11_begins_14 : decode cX11_begins 14 = .ok (.invokevirtual 234, 3) := by decide +kernel
theorem dX11_begins_17 : decode cX11_begins 17 = .ok (.iconst 1, 1) := by decide +kernel
theorem dX11_begins_18 : decode cX11_begins 18 = .ok (.if_icmp .eq 5, 3) := by decide +kernel
theorem dX11_begins_21 : decode cX11_begins 21 = .ok (.iconst (-1), 1) := by decide +kernel
theorem dX11_begins_22 : decode cX11_begins 22 = .ok (.ireturn, 1) := by decide +kernel
theorem dX11_begins_23 : decode cX11_begins 23 = .ok (.aload_n 0, 1) := by decide +kernel
theorem dX11_begins_24 : decode cX11_begins 24 = .ok (.sipush 190, 3) := by decide +kernel
theorem dX11_begins_27 : decode cX11_begins 27 = .ok (.iload_n 1, 1) := by decide +kernel
theorem dX11_begins_28 : decode cX11_begins 28 = .ok (.iadd, 1) := by decide +kernel
theorem dX11_begins_29 : decode cX11_begins 29 = .ok (.iload_n 2, 1) := by decide +kernel
theorem dX11_begins_30 : decode cX11_begins 30 = .ok (.invokevirtual 250, 3) := by decide +kernel
theorem dX11_begins_33 : decode cX11_begins 33 = .ok (.aload_n 0, 1) := by decide +kernel
theorem dX11_begins_34 : decode cX11_begins 34 = .ok (.sipush 195, 3) := by decide +kernel
theorem dX11_begins_37 : decode cX11_begins 37 = .ok (.iload_n 1, 1) := by decide +kernel
theorem dX11_begins_38 : decode cX11_begins 38 = .ok (.iadd, 1) := by decide +kernel
theorem dX11_begins_39 : decode cX11_begins 39 = .ok (.iload_n 3, 1) := by decide +kernel
theorem dX11_begins_40 : decode cX11_begins 40 = .ok (.invokevirtual 250, 3) := by decide +kernel
theorem dX11_begins_43 : decode cX11_begins 43 = .ok (.aload_n 0, 1) := by decide +kernel
theorem dX11_begins_44 : decode cX11_begins 44 = .ok (.sipush 200, 3) := by decide +kernel
theorem dX11_begins_47 : decode cX11_begins 47 = .ok (.iload_n 1, 1) := by decide +kernel
theorem dX11_begins_48 : decode cX11_begins 48 = .ok (.iadd, 1) := by decide +kernel
theorem dX11_begins_49 : decode cX11_begins 49 = .ok (.iload 4, 2) := by decide +kernel
theorem dX11_begins_51 : decode cX11_begins 51 = .ok (.invokevirtual 250, 3) := by decide +kernel
theorem dX11_begins_54 : decode cX11_begins 54 = .ok (.aload_n 0, 1) := by decide +kernel
theorem dX11_begins_55 : decode cX11_begins 55 = .ok (.sipush 205, 3) := by decide +kernel
theorem dX11_begins_58 : decode cX11_begins 58 = .ok (.iload_n 1, 1) := by decide +kernel
theorem dX11_begins_59 : decode cX11_begins 59 = .ok (.iadd, 1) := by decide +kernel
theorem dX11_begins_60 : decode cX11_begins 60 = .ok (.iload 5, 2) := by decide +kernel
theorem dX11_begins_62 : decode cX11_begins 62 = .ok (.invokevirtual 250, 3) := by decide +kernel
theorem dX11_begins_65 : decode cX11_begins 65 = .ok (.aload_n 0, 1) := by decide +kernel
theorem dX11_begins_66 : decode cX11_begins 66 = .ok (.iload_n 1, 1) := by decide +kernel
theorem dX11_begins_67 : decode cX11_begins 67 = .ok (.invokevirtual 323, 3) := by decide +kernel
theorem dX11_begins_70 : decode cX11_begins 70 = .ok (.istore 6, 2) := by decide +kernel
theorem dX11_begins_72 : decode cX11_begins 72 = .ok (.iload 6, 2) := by decide +kernel
theorem dX11_begins_74 : decode cX11_begins 74 = .ok (.iconst (-1), 1) := by decide +kernel
theorem dX11_begins_75 : decode cX11_begins 75 = .ok (.if_icmp .ne 5, 3) := by decide +kernel
theorem dX11_begins_78 : decode cX11_begins 78 = .ok (.iconst (-1), 1) := by decide +kernel
theorem dX11_begins_79 : decode cX11_begins 79 = .ok (.ireturn, 1) := by decide +kernel
theorem dX11_begins_80 : decode cX11_begins 80 = .ok (.iload 6, 2) := by decide +kernel
theorem dX11_begins_82 : decode cX11_begins 82 = .ok (.bipush (-2), 2) := by decide +kernel
theorem dX11_begins_84 : decode cX11_begins 84 = .ok (.if_icmp .ne 42, 3) := by decide +kernel
theorem dX11_begins_87 : decode cX11_begins 87 = .ok (.aload_n 0, 1) := by decide +kernel
theorem dX11_begins_88 : decode cX11_begins 88 = .ok (.getfield 244, 3) := by decide +kernel
theorem dX11_begins_91 : decode cX11_begins 91 = .ok (.ifCond .ne 15, 3) := by decide +kernel
theorem dX11_begins_94 : decode cX11_begins 94 = .ok (.aload_n 0, 1) := by decide +kernel
theorem dX11_begins_95 : decode cX11_begins 95 = .ok (.aload_n 0, 1) := by decide +kernel
theorem dX11_begins_96 : decode cX11_begins 96 = .ok (.getfield 278, 3) := by decide +kernel
theorem dX11_begins_99 : decode cX11_begins 99 = .ok (.iload_n 1, 1) := by decide +kernel
theorem dX11_begins_100 : decode cX11_begins 100 = .ok (.invokevirtual 326, 3) := by decide +kernel
theorem dX11_begins_103 : decode cX11_begins 103 = .ok (.ifCond .eq 15, 3) := by decide +kernel
theorem dX11_begins_106 : decode cX11_begins 106 = .ok (.aload_n 0, 1) := by decide +kernel
theorem dX11_begins_107 : decode cX11_begins 107 = .ok (.iload_n 1, 1) := by decide +kernel
theorem dX11_begins_108 : decode cX11_begins 108 = .ok (.invokevirtual 329, 3) := by decide +kernel
theorem dX11_begins_111 : decode cX11_begins 111 = .ok (.aload_n 0, 1) := by decide +kernel
theorem dX11_begins_112 : decode cX11_begins 112 = .ok (.invokevirtual 344, 3) := by decide +kernel
theorem dX11_begins_115 : decode cX11_begins 115 = .ok (.bipush (-3), 2) := by decide +kernel
theorem dX11_begins_117 : decode cX11_begins 117 = .ok (.ireturn, 1) := by decide +kernel
theorem dX11_begins_118 : decode cX11_begins 118 = .ok (.aload_n 0, 1) := by decide +kernel
theorem dX11_begins_119 : decode cX11_begins 119 = .ok (.iload_n 1, 1) := by decide +kernel
theorem dX11_begins_120 : decode cX11_begins 120 = .ok (.invokevirtual 332, 3) := by decide +kernel
theorem dX11_begins_123 : decode cX11_begins 123 = .ok (.bipush (-2), 2) := by decide +kernel
theorem dX11_begins_125 : decode cX11_begins 125 = .ok (.ireturn, 1) := by decide +kernel
theorem dX11_begins_126 : decode cX11_begins 126 = .ok (.aload_n 0, 1) := by decide +kernel
theorem dX11_begins_127 : decode cX11_begins 127 = .ok (.sipush 220, 3) := by decide +kernel
theorem dX11_begins_130 : decode cX11_begins 130 = .ok (.iload_n 1, 1) := by decide +kernel
theorem dX11_begins_131 : decode cX11_begins 131 = .ok (.iadd, 1) := by decide +kernel
theorem dX11_begins_132 : decode cX11_begins 132 = .ok (.iload 6, 2) := by decide +kernel
theorem dX11_begins_134 : decode cX11_begins 134 = .ok (.invokevirtual 250, 3) := by decide +kernel
theorem dX11_begins_137 : decode cX11_begins 137 = .ok (.iload 6, 2) := by decide +kernel
theorem dX11_begins_139 : decode cX11_begins 139 = .ok (.ireturn, 1) := by decide +kernel
theorem dX11_opens_0 : decode cX11_opens 0 = .ok (.aload_n 0, 1) := by decide +kernel
theorem dX11_opens_1 : decode cX11_opens 1 = .ok (.iload_n 1, 1) := by decide +kernel
theorem dX11_opens_2 : decode cX11_opens 2 = .ok (.invokevirtual 341, 3) := by decide +kernel
theorem dX11_opens_5 : decode cX11_opens 5 = .ok (.ifCond .eq 15, 3) := by decide +kernel
theorem dX11_opens_8 : decode cX11_opens 8 = .ok (.aload_n 0, 1) := by decide +kernel
theorem dX11_opens_9 : decode cX11_opens 9 = .ok (.sipush 170, 3) := by decide +kernel
theorem dX11_opens_12 : decode cX11_opens 12 = .ok (.iload_n 1, 1) := by decide +kernel
theorem dX11_opens_13 : decode cX11_opens 13 = .ok (.iadd, 1) := by decide +kernel
theorem dX11_opens_14 : decode cX11_opens 14 = .ok (.invokevirtual 234, 3) := by decide +kernel
theorem dX11_opens_17 : decode cX11_opens 17 = .ok (.ifCond .eq 5, 3) := by decide +kernel
theorem dX11_opens_20 : decode cX11_opens 20 = .ok (.iconst (-1), 1) := by decide +kernel
theorem dX11_opens_21 : decode cX11_opens 21 = .ok (.ireturn, 1) := by decide +kernel
theorem dX11_opens_22 : decode cX11_opens 22 = .ok (.aload_n 0, 1) := by decide +kernel
theorem dX11_opens_23 : decode cX11_opens 23 = .ok (.sipush 170, 3) := by decide +kernel
theorem dX11_opens_26 : decode cX11_opens 26 = .ok (.iload_n 1, 1) := by decide +kernel
theorem dX11_opens_27 : decode cX11_opens 27 = .ok (.iadd, 1) := by decide +kernel
theorem dX11_opens_28 : decode cX11_opens 28 = .ok (.iconst 1, 1) := by decide +kernel
theorem dX11_opens_29 : decode cX11_opens 29 = .ok (.invokevirtual 250, 3) := by decide +kernel
theorem dX11_opens_32 : decode cX11_opens 32 = .ok (.aload_n 0, 1) := by decide +kernel
theorem dX11_opens_33 : decode cX11_opens 33 = .ok (.sipush 180, 3) := by decide +kernel
theorem dX11_opens_36 : decode cX11_opens 36 = .ok (.iload_n 1, 1) := by decide +kernel
theorem dX11_opens_37 : decode cX11_opens 37 = .ok (.iadd, 1) := by decide +kernel
theorem dX11_opens_38 : decode cX11_opens 38 = .ok (.aload_n 0, 1) := by decide +kernel
theorem dX11_opens_39 : decode cX11_opens 39 = .ok (.sipush 227, 3) := by decide +kernel
theorem dX11_opens_42 : decode cX11_opens 42 = .ok (.invokevirtual 234, 3) := by decide +kernel
theorem dX11_opens_45 : decode cX11_opens 45 = .ok (.invokevirtual 250, 3) := by decide +kernel
theorem dX11_opens_48 : decode cX11_opens 48 = .ok (.aload_n 0, 1) := by decide +kernel
theorem dX11_opens_49 : decode cX11_opens 49 = .ok (.sipush 220, 3) := by decide +kernel
theorem dX11_opens_52 : decode cX11_opens 52 = .ok (.iload_n 1, 1) := by decide +kernel
theorem dX11_opens_53 : decode cX11_opens 53 = .ok (.iadd, 1) := by decide +kernel
theorem dX11_opens_54 : decode cX11_opens 54 = .ok (.iconst 0, 1) := by decide +kernel
theorem dX11_opens_55 : decode cX11_opens 55 = .ok (.invokevirtual 250, 3) := by decide +kernel
theorem dX11_opens_58 : decode cX11_opens 58 = .ok (.iconst 0, 1) := by decide +kernel
theorem dX11_opens_59 : decode cX11_opens 59 = .ok (.ireturn, 1) := by decide +kernel
theorem dX11_endsNow_0 : decode cX11_endsNow 0 = .ok (.aload_n 0, 1) := by decide +kernel
theorem dX11_endsNow_1 : decode cX11_endsNow 1 = .ok (.iload_n 1, 1) := by decide +kernel
theorem dX11_endsNow_2 : decode cX11_endsNow 2 = .ok (.invokevirtual 341, 3) := by decide +kernel
theorem dX11_endsNow_5 : decode cX11_endsNow 5 = .ok (.ifCond .eq 16, 3) := by decide +kernel
theorem dX11_endsNow_8 : decode cX11_endsNow 8 = .ok (.aload_n 0, 1) := by decide +kernel
theorem dX11_endsNow_9 : decode cX11_endsNow 9 = .ok (.sipush 170, 3) := by decide +kernel
theorem dX11_endsNow_12 : decode cX11_endsNow 12 = .ok (.iload_n 1, 1) := by decide +kernel
theorem dX11_endsNow_13 : decode cX11_endsNow 13 = .ok (.iadd, 1) := by decide +kernel
theorem dX11_endsNow_14 : decode cX11_endsNow 14 = .ok (.invokevirtual 234, 3) := by decide +kernel
theorem dX11_endsNow_17 : decode cX11_endsNow 17 = .ok (.iconst 1, 1) := by decide +kernel
theorem dX11_endsNow_18 : decode cX11_endsNow 18 = .ok (.if_icmp .eq 5, 3) := by decide +kernel
theorem dX11_endsNow_21 : decode cX11_endsNow 21 = .ok (.iconst (-1), 1) := by decide +kernel
theorem dX11_endsNow_22 : decode cX11_endsNow 22 = .ok (.ireturn, 1) := by decide +kernel
theorem dX11_endsNow_23 : decode cX11_endsNow 23 = .ok (.iconst 0, 1) := by decide +kernel
theorem dX11_endsNow_24 : decode cX11_endsNow 24 = .ok (.istore_n 2, 1) := by decide +kernel
theorem dX11_endsNow_25 : decode cX11_endsNow 25 = .ok (.iload_n 2, 1) := by decide +kernel
theorem dX11_endsNow_26 : decode cX11_endsNow 26 = .ok (.aload_n 0, 1) := by decide +kernel
theorem dX11_endsNow_27 : decode cX11_endsNow 27 = .ok (.invokevirtual 267, 3) := by decide +kernel
theorem dX11_endsNow_30 : decode cX11_endsNow 30 = .ok (.if_icmp .ge 30, 3) := by decide +kernel
theorem dX11_endsNow_33 : decode cX11_endsNow 33 = .ok (.aload_n 0, 1) := by decide +kernel
theorem dX11_endsNow_34 : decode cX11_endsNow 34 = .ok (.bipush 49, 2) := by decide +kernel
theorem dX11_endsNow_36 : decode cX11_endsNow 36 = .ok (.iload_n 2, 1) := by decide +kernel
theorem dX11_endsNow_37 : decode cX11_endsNow 37 = .ok (.iadd, 1) := by decide +kernel
theorem dX11_endsNow_38 : decode cX11_endsNow 38 = .ok (.invokevirtual 234, 3) := by decide +kernel
theorem dX11_endsNow_41 : decode cX11_endsNow 41 = .ok (.iload_n 1, 1) := by decide +kernel
theorem dX11_endsNow_42 : decode cX11_endsNow 42 = .ok (.if_icmp .ne 12, 3) := by decide +kernel
theorem dX11_endsNow_45 : decode cX11_endsNow 45 = .ok (.aload_n 0, 1) := by decide +kernel
theorem dX11_endsNow_46 : decode cX11_endsNow 46 = .ok (.iload_n 2, 1) := by decide +kernel
theorem dX11_endsNow_47 : decode cX11_endsNow 47 = .ok (.iload_n 1, 1) := by decide +kernel
theorem dX11_endsNow_48 : decode cX11_endsNow 48 = .ok (.invokevirtual 313, 3) := by decide +kernel
theorem dX11_endsNow_51 : decode cX11_endsNow 51 = .ok (.goto (-26), 3) := by decide +kernel
theorem dX11_endsNow_54 : decode cX11_endsNow 54 = .ok (.iinc 2 1, 3) := by decide +kernel
theorem dX11_endsNow_57 : decode cX11_endsNow 57 = .ok (.goto (-32), 3) := by decide +kernel
theorem dX11_endsNow_60 : decode cX11_endsNow 60 = .ok (.aload_n 0, 1) := by decide +kernel
theorem dX11_endsNow_61 : decode cX11_endsNow 61 = .ok (.iload_n 1, 1) := by decide +kernel
theorem dX11_endsNow_62 : decode cX11_endsNow 62 = .ok (.invokevirtual 316, 3) := by decide +kernel
theorem dX11_endsNow_65 : decode cX11_endsNow 65 = .ok (.aload_n 0, 1) := by decide +kernel
theorem dX11_endsNow_66 : decode cX11_endsNow 66 = .ok (.sipush 220, 3) := by decide +kernel
theorem dX11_endsNow_69 : decode cX11_endsNow 69 = .ok (.iload_n 1, 1) := by decide +kernel
theorem dX11_endsNow_70 : decode cX11_endsNow 70 = .ok (.iadd, 1) := by decide +kernel
theorem dX11_endsNow_71 : decode cX11_endsNow 71 = .ok (.iconst 0, 1) := by decide +kernel
theorem dX11_endsNow_72 : decode cX11_endsNow 72 = .ok (.invokevirtual 250, 3) := by decide +kernel
theorem dX11_endsNow_75 : decode cX11_endsNow 75 = .ok (.aload_n 0, 1) := by decide +kernel
theorem dX11_endsNow_76 : decode cX11_endsNow 76 = .ok (.invokevirtual 344, 3) := by decide +kernel
theorem dX11_endsNow_79 : decode cX11_endsNow 79 = .ok (.iconst 0, 1) := by decide +kernel
theorem dX11_endsNow_80 : decode cX11_endsNow 80 = .ok (.ireturn, 1) := by decide +kernel
theorem dX11_quitsNow_0 : decode cX11_quitsNow 0 = .ok (.aload_n 0, 1) := by decide +kernel
theorem dX11_quitsNow_1 : decode cX11_quitsNow 1 = .ok (.iload_n 1, 1) := by decide +kernel
theorem dX11_quitsNow_2 : decode cX11_quitsNow 2 = .ok (.invokevirtual 341, 3) := by decide +kernel
theorem dX11_quitsNow_5 : decode cX11_quitsNow 5 = .ok (.ifCond .eq 15, 3) := by decide +kernel
theorem dX11_quitsNow_8 : decode cX11_quitsNow 8 = .ok (.aload_n 0, 1) := by decide +kernel
theorem dX11_quitsNow_9 : decode cX11_quitsNow 9 = .ok (.sipush 170, 3) := by decide +kernel
theorem dX11_quitsNow_12 : decode cX11_quitsNow 12 = .ok (.iload_n 1, 1) := by decide +kernel
theorem dX11_quitsNow_13 : decode cX11_quitsNow 13 = .ok (.iadd, 1) := by decide +kernel
theorem dX11_quitsNow_14 : decode cX11_quitsNow 14 = .ok (.invokevirtual 234, 3) := by decide +kernel
theorem dX11_quitsNow_17 : decode cX11_quitsNow 17 = .ok (.ifCond .ne 5, 3) := by decide +kernel
theorem dX11_quitsNow_20 : decode cX11_quitsNow 20 = .ok (.iconst (-1), 1) := by decide +kernel
theorem dX11_quitsNow_21 : decode cX11_quitsNow 21 = .ok (.ireturn, 1) := by decide +kernel
theorem dX11_quitsNow_22 : decode cX11_quitsNow 22 = .ok (.aload_n 0, 1) := by decide +kernel
theorem dX11_quitsNow_23 : decode cX11_quitsNow 23 = .ok (.iload_n 1, 1) := by decide +kernel
theorem dX11_quitsNow_24 : decode cX11_quitsNow 24 = .ok (.invokevirtual 320, 3) := by decide +kernel
theorem dX11_quitsNow_27 : decode cX11_quitsNow 27 = .ok (.aload_n 0, 1) := by decide +kernel
theorem dX11_quitsNow_28 : decode cX11_quitsNow 28 = .ok (.sipush 220, 3) := by decide +kernel
theorem dX11_quitsNow_31 : decode cX11_quitsNow 31 = .ok (.iload_n 1, 1) := by decide +kernel
theorem dX11_quitsNow_32 : decode cX11_quitsNow 32 = .ok (.iadd, 1) := by decide +kernel
theorem dX11_quitsNow_33 : decode cX11_quitsNow 33 = .ok (.iconst 0, 1) := by decide +kernel
theorem dX11_quitsNow_34 : decode cX11_quitsNow 34 = .ok (.invokevirtual 250, 3) := by decide +kernel
theorem dX11_quitsNow_37 : decode cX11_quitsNow 37 = .ok (.aload_n 0, 1) := by decide +kernel
theorem dX11_quitsNow_38 : decode cX11_quitsNow 38 = .ok (.invokevirtual 344, 3) := by decide +kernel
theorem dX11_quitsNow_41 : decode cX11_quitsNow 41 = .ok (.iconst 0, 1) := by decide +kernel
theorem dX11_quitsNow_42 : decode cX11_quitsNow 42 = .ok (.ireturn, 1) := by decide +kernel
theorem dX11_stepDone_0 : decode cX11_stepDone 0 = .ok (.aload_n 0, 1) := by decide +kernel
theorem dX11_stepDone_1 : decode cX11_stepDone 1 = .ok (.getfield 32, 3) := by decide +kernel
theorem dX11_stepDone_4 : decode cX11_stepDone 4 = .ok (.iload_n 1, 1) := by decide +kernel
theorem dX11_stepDone_5 : decode cX11_stepDone 5 = .ok (.iaload, 1) := by decide +kernel
theorem dX11_stepDone_6 : decode cX11_stepDone 6 = .ok (.istore_n 2, 1) := by decide +kernel
theorem dX11_stepDone_7 : decode cX11_stepDone 7 = .ok (.aload_n 0, 1) := by decide +kernel
theorem dX11_stepDone_8 : decode cX11_stepDone 8 = .ok (.getfield 29, 3) := by decide +kernel
theorem dX11_stepDone_11 : decode cX11_stepDone 11 = .ok (.iload_n 1, 1) := by decide +kernel
theorem dX11_stepDone_12 : decode cX11_stepDone 12 = .ok (.iaload, 1) := by decide +kernel
theorem dX11_stepDone_13 : decode cX11_stepDone 13 = .ok (.lookupswitch 53 #[(2, 35), (9, 41), (10, 47)], 35) := by decide +kernel
theorem dX11_stepDone_48 : decode cX11_stepDone 48 = .ok (.aload_n 0, 1) := by decide +kernel
theorem dX11_stepDone_49 : decode cX11_stepDone 49 = .ok (.iload_n 2, 1) := by decide +kernel
theorem dX11_stepDone_50 : decode cX11_stepDone 50 = .ok (.invokevirtual 347, 3) := by decide +kernel
theorem dX11_stepDone_53 : decode cX11_stepDone 53 = .ok (.ireturn, 1) := by decide +kernel
theorem dX11_stepDone_54 : decode cX11_stepDone 54 = .ok (.aload_n 0, 1) := by decide +kernel
theorem dX11_stepDone_55 : decode cX11_stepDone 55 = .ok (.iload_n 2, 1) := by decide +kernel
theorem dX11_stepDone_56 : decode cX11_stepDone 56 = .ok (.invokevirtual 350, 3) := by decide +kernel
theorem dX11_stepDone_59 : decode cX11_stepDone 59 = .ok (.ireturn, 1) := by decide +kernel
theorem dX11_stepDone_60 : decode cX11_stepDone 60 = .ok (.aload_n 0, 1) := by decide +kernel
theorem dX11_stepDone_61 : decode cX11_stepDone 61 = .ok (.iload_n 2, 1) := by decide +kernel
theorem dX11_stepDone_62 : decode cX11_stepDone 62 = .ok (.invokevirtual 353, 3) := by decide +kernel
theorem dX11_stepDone_65 : decode cX11_stepDone 65 = .ok (.ireturn, 1) := by decide +kernel
theorem dX11_stepDone_66 : decode cX11_stepDone 66 = .ok (.aload_n 0, 1) := by decide +kernel
theorem dX11_stepDone_67 : decode cX11_stepDone 67 = .ok (.iload_n 2, 1) := by decide +kernel
theorem dX11_stepDone_68 : decode cX11_stepDone 68 = .ok (.aload_n 0, 1) := by decide +kernel
theorem dX11_stepDone_69 : decode cX11_stepDone 69 = .ok (.getfield 29, 3) := by decide +kernel
theorem dX11_stepDone_72 : decode cX11_stepDone 72 = .ok (.iload_n 1, 1) := by decide +kernel
theorem dX11_stepDone_73 : decode cX11_stepDone 73 = .ok (.iaload, 1) := by decide +kernel
theorem dX11_stepDone_74 : decode cX11_stepDone 74 = .ok (.aload_n 0, 1) := by decide +kernel
theorem dX11_stepDone_75 : decode cX11_stepDone 75 = .ok (.getfield 35, 3) := by decide +kernel
theorem dX11_stepDone_78 : decode cX11_stepDone 78 = .ok (.iload_n 1, 1) := by decide +kernel
theorem dX11_stepDone_79 : decode cX11_stepDone 79 = .ok (.iaload, 1) := by decide +kernel
theorem dX11_stepDone_80 : decode cX11_stepDone 80 = .ok (.aload_n 0, 1) := by decide +kernel
theorem dX11_stepDone_81 : decode cX11_stepDone 81 = .ok (.getfield 38, 3) := by decide +kernel
theorem dX11_stepDone_84 : decode cX11_stepDone 84 = .ok (.iload_n 1, 1) := by decide +kernel
theorem dX11_stepDone_85 : decode cX11_stepDone 85 = .ok (.iaload, 1) := by decide +kernel
theorem dX11_stepDone_86 : decode cX11_stepDone 86 = .ok (.aload_n 0, 1) := by decide +kernel
theorem dX11_stepDone_87 : decode cX11_stepDone 87 = .ok (.getfield 41, 3) := by decide +kernel
theorem dX11_stepDone_90 : decode cX11_stepDone 90 = .ok (.iload_n 1, 1) := by decide +kernel
theorem dX11_stepDone_91 : decode cX11_stepDone 91 = .ok (.iaload, 1) := by decide +kernel
theorem dX11_stepDone_92 : decode cX11_stepDone 92 = .ok (.invokevirtual 356, 3) := by decide +kernel
theorem dX11_stepDone_95 : decode cX11_stepDone 95 = .ok (.ireturn, 1) := by decide +kernel
theorem dX11_doKept_0 : decode cX11_doKept 0 = .ok (.iconst 0, 1) := by decide +kernel
theorem dX11_doKept_1 : decode cX11_doKept 1 = .ok (.istore_n 1, 1) := by decide +kernel
theorem dX11_doKept_2 : decode cX11_doKept 2 = .ok (.iload_n 1, 1) := by decide +kernel
theorem dX11_doKept_3 : decode cX11_doKept 3 = .ok (.aload_n 0, 1) := by decide +kernel
theorem dX11_doKept_4 : decode cX11_doKept 4 = .ok (.getfield 195, 3) := by decide +kernel
theorem dX11_doKept_7 : decode cX11_doKept 7 = .ok (.if_icmp .ge 69, 3) := by decide +kernel
theorem dX11_doKept_10 : decode cX11_doKept 10 = .ok (.aload_n 0, 1) := by decide +kernel
theorem dX11_doKept_11 : decode cX11_doKept 11 = .ok (.sipush 254, 3) := by decide +kernel
theorem dX11_doKept_14 : decode cX11_doKept 14 = .ok (.iload_n 1, 1) := by decide +kernel
theorem dX11_doKept_15 : decode cX11_doKept 15 = .ok (.iadd, 1) := by decide +kernel
theorem dX11_doKept_16 : decode cX11_doKept 16 = .ok (.invokevirtual 234, 3) := by decide +kernel
theorem dX11_doKept_19 : decode cX11_doKept 19 = .ok (.iconst 1, 1) := by decide +kernel
theorem dX11_doKept_20 : decode cX11_doKept 20 = .ok (.if_icmp .ne 50, 3) := by decide +kernel
theorem dX11_doKept_23 : decode cX11_doKept 23 = .ok (.aload_n 0, 1) := by decide +kernel
theorem dX11_doKept_24 : decode cX11_doKept 24 = .ok (.sipush 170, 3) := by decide +kernel
theorem dX11_doKept_27 : decode cX11_doKept 27 = .ok (.aload_n 0, 1) := by decide +kernel
theorem dX11_doKept_28 : decode cX11_doKept 28 = .ok (.getfield 32, 3) := by decide +kernel
theorem dX11_doKept_31 : decode cX11_doKept 31 = .ok (.iload_n 1, 1) := by decide +kernel
theorem dX11_doKept_32 : decode cX11_doKept 32 = .ok (.iaload, 1) := by decide +kernel
theorem dX11_doKept_33 : decode cX11_doKept 33 = .ok (.iadd, 1) := by decide +kernel
theorem dX11_doKept_34 : decode cX11_doKept 34 = .ok (.invokevirtual 234, 3) := by decide +kernel
theorem dX11_doKept_37 : decode cX11_doKept 37 = .ok (.iconst 2, 1) := by decide +kernel
theorem dX11_doKept_38 : decode cX11_doKept 38 = .ok (.if_icmp .eq 32, 3) := by decide +kernel
theorem dX11_doKept_41 : decode cX11_doKept 41 = .ok (.aload_n 0, 1) := by decide +kernel
theorem dX11_doKept_42 : decode cX11_doKept 42 = .ok (.sipush 254, 3) := by decide +kernel
theorem dX11_doKept_45 : decode cX11_doKept 45 = .ok (.iload_n 1, 1) := by decide +kernel
theorem dX11_doKept_46 : decode cX11_doKept 46 = .ok (.iadd, 1) := by decide +kernel
theorem dX11_doKept_47 : decode cX11_doKept 47 = .ok (.iconst 0, 1) := by decide +kernel
theorem dX11_doKept_48 : decode cX11_doKept 48 = .ok (.invokevirtual 250, 3) := by decide +kernel
theorem dX11_doKept_51 : decode cX11_doKept 51 = .ok (.aload_n 0, 1) := by decide +kernel
theorem dX11_doKept_52 : decode cX11_doKept 52 = .ok (.sipush 230, 3) := by decide +kernel
theorem dX11_doKept_55 : decode cX11_doKept 55 = .ok (.iload_n 1, 1) := by decide +kernel
theorem dX11_doKept_56 : decode cX11_doKept 56 = .ok (.iadd, 1) := by decide +kernel
theorem dX11_doKept_57 : decode cX11_doKept 57 = .ok (.aload_n 0, 1) := by decide +kernel
theorem dX11_doKept_58 : decode cX11_doKept 58 = .ok (.iload_n 1, 1) := by decide +kernel
theorem dX11_doKept_59 : decode cX11_doKept 59 = .ok (.invokevirtual 360, 3) := by decide +kernel
theorem dX11_doKept_62 : decode cX11_doKept 62 = .ok (.invokevirtual 250, 3) := by decide +kernel
theorem dX11_doKept_65 : decode cX11_doKept 65 = .ok (.iconst 0, 1) := by decide +kernel
theorem dX11_doKept_66 : decode cX11_doKept 66 = .ok (.istore_n 1, 1) := by decide +kernel
theorem dX11_doKept_67 : decode cX11_doKept 67 = .ok (.goto (-65), 3) := by decide +kernel
theorem dX11_doKept_70 : decode cX11_doKept 70 = .ok (.iinc 1 1, 3) := by decide +kernel
theorem dX11_doKept_73 : decode cX11_doKept 73 = .ok (.goto (-71), 3) := by decide +kernel
theorem dX11_doKept_76 : decode cX11_doKept 76 = .ok (.return_, 1) := by decide +kernel
theorem dX11_runs_0 : decode cX11_runs 0 = .ok (.iconst 0, 1) := by decide +kernel
theorem dX11_runs_1 : decode cX11_runs 1 = .ok (.istore_n 2, 1) := by decide +kernel
theorem dX11_runs_2 : decode cX11_runs 2 = .ok (.iload_n 2, 1) := by decide +kernel
theorem dX11_runs_3 : decode cX11_runs 3 = .ok (.iload_n 1, 1) := by decide +kernel
theorem dX11_runs_4 : decode cX11_runs 4 = .ok (.if_icmp .ge 101, 3) := by decide +kernel
theorem dX11_runs_7 : decode cX11_runs 7 = .ok (.aload_n 0, 1) := by decide +kernel
theorem dX11_runs_8 : decode cX11_runs 8 = .ok (.sipush 226, 3) := by decide +kernel
theorem dX11_runs_11 : decode cX11_runs 11 = .ok (.invokevirtual 234, 3) := by decide +kernel
theorem dX11_runs_14 : decode cX11_runs 14 = .ok (.aload_n 0, 1) := by decide +kernel
theorem dX11_runs_15 : decode cX11_runs 15 = .ok (.getfield 247, 3) := by decide +kernel
theorem dX11_runs_18 : decode cX11_runs 18 = .ok (.if_icmp .ge 87, 3) := by decide +kernel
theorem dX11_runs_21 : decode cX11_runs 21 = .ok (.aload_n 0, 1) := by decide +kernel
theorem dX11_runs_22 : decode cX11_runs 22 = .ok (.invokevirtual 363, 3) := by decide +kernel
theorem dX11_runs_25 : decode cX11_runs 25 = .ok (.aload_n 0, 1) := by decide +kernel
theorem dX11_runs_26 : decode cX11_runs 26 = .ok (.getfield 59, 3) := by decide +kernel
theorem dX11_runs_29 : decode cX11_runs 29 = .ok (.aload_n 0, 1) := by decide +kernel
theorem dX11_runs_30 : decode cX11_runs 30 = .ok (.sipush 226, 3) := by decide +kernel
theorem dX11_runs_33 : decode cX11_runs 33 = .ok (.invokevirtual 234, 3) := by decide +kernel
theorem dX11_runs_36 : decode cX11_runs 36 = .ok (.iaload, 1) := by decide +kernel
theorem dX11_runs_37 : decode cX11_runs 37 = .ok (.istore_n 3, 1) := by decide +kernel
theorem dX11_runs_38 : decode cX11_runs 38 = .ok (.aload_n 0, 1) := by decide +kernel
theorem dX11_runs_39 : decode cX11_runs 39 = .ok (.sipush 226, 3) := by decide +kernel
theorem dX11_runs_42 : decode cX11_runs 42 = .ok (.aload_n 0, 1) := by decide +kernel
theorem dX11_runs_43 : decode cX11_runs 43 = .ok (.sipush 226, 3) := by decide +kernel
theorem dX11_runs_46 : decode cX11_runs 46 = .ok (.invokevirtual 234, 3) := by decide +kernel
theorem dX11_runs_49 : decode cX11_runs 49 = .ok (.iconst 1, 1) := by decide +kernel
theorem dX11_runs_50 : decode cX11_runs 50 = .ok (.iadd, 1) := by decide +kernel
theorem dX11_runs_51 : decode cX11_runs 51 = .ok (.invokevirtual 250, 3) := by decide +kernel
theorem dX11_runs_54 : decode cX11_runs 54 = .ok (.aload_n 0, 1) := by decide +kernel
theorem dX11_runs_55 : decode cX11_runs 55 = .ok (.sipush 170, 3) := by decide +kernel
theorem dX11_runs_58 : decode cX11_runs 58 = .ok (.aload_n 0, 1) := by decide +kernel
theorem dX11_runs_59 : decode cX11_runs 59 = .ok (.getfield 32, 3) := by decide +kernel
theorem dX11_runs_62 : decode cX11_runs 62 = .ok (.iload_n 3, 1) := by decide +kernel
theorem dX11_runs_63 : decode cX11_runs 63 = .ok (.iaload, 1) := by decide +kernel
theorem dX11_runs_64 : decode cX11_runs 64 = .ok (.iadd, 1) := by decide +kernel
theorem dX11_runs_65 : decode cX11_runs 65 = .ok (.invokevirtual 234, 3) := by decide +kernel
theorem dX11_runs_68 : decode cX11_runs 68 = .ok (.iconst 2, 1) := by decide +kernel
theorem dX11_runs_69 : decode cX11_runs 69 = .ok (.if_icmp .ne 16, 3) := by decide +kernel
theorem dX11_runs_72 : decode cX11_runs 72 = .ok (.aload_n 0, 1) := by decide +kernel
theorem dX11_runs_73 : decode cX11_runs 73 = .ok (.sipush 254, 3) := by decide +kernel
theorem dX11_runs_76 : decode cX11_runs 76 = .ok (.iload_n 3, 1) := by decide +kernel
theorem dX11_runs_77 : decode cX11_runs 77 = .ok (.iadd, 1) := by decide +kernel
theorem dX11_runs_78 : decode cX11_runs 78 = .ok (.iconst 1, 1) := by decide +kernel
theorem dX11_runs_79 : decode cX11_runs 79 = .ok (.invokevirtual 250, 3) := by decide +kernel
theorem dX11_runs_82 : decode cX11_runs 82 = .ok (.goto 17, 3) := by decide +kernel
theorem dX11_runs_85 : decode cX11_runs 85 = .ok (.aload_n 0, 1) := by decide +kernel
theorem dX11_runs_86 : decode cX11_runs 86 = .ok (.sipush 230, 3) := by decide +kernel
theorem dX11_runs_89 : decode cX11_runs 89 = .ok (.iload_n 3, 1) := by decide +kernel
theorem dX11_runs_90 : decode cX11_runs 90 = .ok (.iadd, 1) := by decide +kernel
theorem dX11_runs_91 : decode cX11_runs 91 = .ok (.aload_n 0, 1) := by decide +kernel
theorem dX11_runs_92 : decode cX11_runs 92 = .ok (.iload_n 3, 1) := by decide +kernel
theorem dX11_runs_93 : decode cX11_runs 93 = .ok (.invokevirtual 360, 3) := by decide +kernel
theorem dX11_runs_96 : decode cX11_runs 96 = .ok (.invokevirtual 250, 3) := by decide +kernel
theorem dX11_runs_99 : decode cX11_runs 99 = .ok (.iinc 2 1, 3) := by decide +kernel
theorem dX11_runs_102 : decode cX11_runs 102 = .ok (.goto (-100), 3) := by decide +kernel
theorem dX11_runs_105 : decode cX11_runs 105 = .ok (.aload_n 0, 1) := by decide +kernel
theorem dX11_runs_106 : decode cX11_runs 106 = .ok (.invokevirtual 363, 3) := by decide +kernel
theorem dX11_runs_109 : decode cX11_runs 109 = .ok (.return_, 1) := by decide +kernel
theorem dX11_answeredMany_0 : decode cX11_answeredMany 0 = .ok (.iconst 0, 1) := by decide +kernel
theorem dX11_answeredMany_1 : decode cX11_answeredMany 1 = .ok (.istore_n 1, 1) := by decide +kernel
theorem dX11_answeredMany_2 : decode cX11_answeredMany 2 = .ok (.iconst 0, 1) := by decide +kernel
theorem dX11_answeredMany_3 : decode cX11_answeredMany 3 = .ok (.istore_n 2, 1) := by decide +kernel
theorem dX11_answeredMany_4 : decode cX11_answeredMany 4 = .ok (.iload_n 2, 1) := by decide +kernel
theorem dX11_answeredMany_5 : decode cX11_answeredMany 5 = .ok (.aload_n 0, 1) := by decide +kernel
theorem dX11_answeredMany_6 : decode cX11_answeredMany 6 = .ok (.getfield 195, 3) := by decide +kernel
theorem dX11_answeredMany_9 : decode cX11_answeredMany 9 = .ok (.if_icmp .ge 31, 3) := by decide +kernel
theorem dX11_answeredMany_12 : decode cX11_answeredMany 12 = .ok (.iload_n 1, 1) := by decide +kernel
theorem dX11_answeredMany_13 : decode cX11_answeredMany 13 = .ok (.aload_n 0, 1) := by decide +kernel
theorem dX11_answeredMany_14 : decode cX11_answeredMany 14 = .ok (.sipush 230, 3) := by decide +kernel
theorem dX11_answeredMany_17 : decode cX11_answeredMany 17 = .ok (.iload_n 2, 1) := by decide +kernel
theorem dX11_answeredMany_18 : decode cX11_answeredMany 18 = .ok (.iadd, 1) := by decide +kernel
theorem dX11_answeredMany_19 : decode cX11_answeredMany 19 = .ok (.invokevirtual 234, 3) := by decide +kernel
theorem dX11_answeredMany_22 : decode cX11_answeredMany 22 = .ok (.bipush (-5), 2) := by decide +kernel
theorem dX11_answeredMany_24 : decode cX11_answeredMany 24 = .ok (.if_icmp .eq 7, 3) := by decide +kernel
theorem dX11_answeredMany_27 : decode cX11_answeredMany 27 = .ok (.iconst 1, 1) := by decide +kernel
theorem dX11_answeredMany_28 : decode cX11_answeredMany 28 = .ok (.goto 4, 3) := by decide +kernel
theorem dX11_answeredMany_31 : decode cX11_answeredMany 31 = .ok (.iconst 0, 1) := by decide +kernel
theorem dX11_answeredMany_32 : decode cX11_answeredMany 32 = .ok (.iadd, 1) := by decide +kernel
theorem dX11_answeredMany_33 : decode cX11_answeredMany 33 = .ok (.istore_n 1, 1) := by decide +kernel
theorem dX11_answeredMany_34 : decode cX11_answeredMany 34 = .ok (.iinc 2 1, 3) := by decide +kernel
theorem dX11_answeredMany_37 : decode cX11_answeredMany 37 = .ok (.goto (-33), 3) := by decide +kernel
theorem dX11_answeredMany_40 : decode cX11_answeredMany 40 = .ok (.iload_n 1, 1) := by decide +kernel
theorem dX11_answeredMany_41 : decode cX11_answeredMany 41 = .ok (.ireturn, 1) := by decide +kernel
theorem dX11_fails_0 : decode cX11_fails 0 = .ok (.aload_n 0, 1) := by decide +kernel
theorem dX11_fails_1 : decode cX11_fails 1 = .ok (.iload_n 1, 1) := by decide +kernel
theorem dX11_fails_2 : decode cX11_fails 2 = .ok (.putfield 77, 3) := by decide +kernel
theorem dX11_fails_5 : decode cX11_fails 5 = .ok (.iconst 0, 1) := by decide +kernel
theorem dX11_fails_6 : decode cX11_fails 6 = .ok (.ireturn, 1) := by decide +kernel
theorem dX11_key_0 : decode cX11_key 0 = .ok (.aload_n 0, 1) := by decide +kernel
theorem dX11_key_1 : decode cX11_key 1 = .ok (.iconst 0, 1) := by decide +kernel
theorem dX11_key_2 : decode cX11_key 2 = .ok (.putfield 77, 3) := by decide +kernel
theorem dX11_key_5 : decode cX11_key 5 = .ok (.iload_n 1, 1) := by decide +kernel
theorem dX11_key_6 : decode cX11_key 6 = .ok (.ifCond .lt 11, 3) := by decide +kernel
theorem dX11_key_9 : decode cX11_key 9 = .ok (.iload_n 1, 1) := by decide +kernel
theorem dX11_key_10 : decode cX11_key 10 = .ok (.aload_n 0, 1) := by decide +kernel
theorem dX11_key_11 : decode cX11_key 11 = .ok (.invokevirtual 267, 3) := by decide +kernel
theorem dX11_key_14 : decode cX11_key 14 = .ok (.if_icmp .lt 9, 3) := by decide +kernel
theorem dX11_key_17 : decode cX11_key 17 = .ok (.aload_n 0, 1) := by decide +kernel
theorem dX11_key_18 : decode cX11_key 18 = .ok (.iconst 1, 1) := by decide +kernel
theorem dX11_key_19 : decode cX11_key 19 = .ok (.invokevirtual 366, 3) := by decide +kernel
theorem dX11_key_22 : decode cX11_key 22 = .ok (.ireturn, 1) := by decide +kernel
theorem dX11_key_23 : decode cX11_key 23 = .ok (.iload_n 2, 1) := by decide +kernel
theorem dX11_key_24 : decode cX11_key 24 = .ok (.tableswitch 99 0 3 #[32, 40, 49, 74], 32) := by decide +kernel
theorem dX11_key_56 : decode cX11_key 56 = .ok (.aload_n 0, 1) := by decide +kernel
theorem dX11_key_57 : decode cX11_key 57 = .ok (.iconst 1, 1) := by decide +kernel
theorem dX11_key_58 : decode cX11_key 58 = .ok (.iload_n 1, 1) := by decide +kernel
theorem dX11_key_59 : decode cX11_key 59 = .ok (.iadd, 1) := by decide +kernel
theorem dX11_key_60 : decode cX11_key 60 = .ok (.invokevirtual 234, 3) := by decide +kernel
theorem dX11_key_63 : decode cX11_key 63 = .ok (.ireturn, 1) := by decide +kernel
theorem dX11_key_64 : decode cX11_key 64 = .ok (.aload_n 0, 1) := by decide +kernel
theorem dX11_key_65 : decode cX11_key 65 = .ok (.bipush 25, 2) := by decide +kernel
theorem dX11_key_67 : decode cX11_key 67 = .ok (.iload_n 1, 1) := by decide +kernel
theorem dX11_key_68 : decode cX11_key 68 = .ok (.iadd, 1) := by decide +kernel
theorem dX11_key_69 : decode cX11_key 69 = .ok (.invokevirtual 234, 3) := by decide +kernel
theorem dX11_key_72 : decode cX11_key 72 = .ok (.ireturn, 1) := by decide +kernel
theorem dX11_key_73 : decode cX11_key 73 = .ok (.aload_n 0, 1) := by decide +kernel
theorem dX11_key_74 : decode cX11_key 74 = .ok (.bipush 49, 2) := by decide +kernel
theorem dX11_key_76 : decode cX11_key 76 = .ok (.iload_n 1, 1) := by decide +kernel
theorem dX11_key_77 : decode cX11_key 77 = .ok (.iadd, 1) := by decide +kernel
theorem dX11_key_78 : decode cX11_key 78 = .ok (.invokevirtual 234, 3) := by decide +kernel
theorem dX11_key_81 : decode cX11_key 81 = .ok (.ifCond .ge 8, 3) := by decide +kernel
theorem dX11_key_84 : decode cX11_key 84 = .ok (.bipush (-2), 2) := by decide +kernel
theorem dX11_key_86 : decode cX11_key 86 = .ok (.goto 11, 3) := by decide +kernel
theorem dX11_key_89 : decode cX11_key 89 = .ok (.aload_n 0, 1) := by decide +kernel
theorem dX11_key_90 : decode cX11_key 90 = .ok (.bipush 49, 2) := by decide +kernel
theorem dX11_key_92 : decode cX11_key 92 = .ok (.iload_n 1, 1) := by decide +kernel
theorem dX11_key_93 : decode cX11_key 93 = .ok (.iadd, 1) := by decide +kernel
theorem dX11_key_94 : decode cX11_key 94 = .ok (.invokevirtual 234, 3) := by decide +kernel
theorem dX11_key_97 : decode cX11_key 97 = .ok (.ireturn, 1) := by decide +kernel
theorem dX11_key_98 : decode cX11_key 98 = .ok (.aload_n 0, 1) := by decide +kernel
theorem dX11_key_99 : decode cX11_key 99 = .ok (.bipush 73, 2) := by decide +kernel
theorem dX11_key_101 : decode cX11_key 101 = .ok (.iload_n 1, 1) := by decide +kernel
theorem dX11_key_102 : decode cX11_key 102 = .ok (.iadd, 1) := by decide +kernel
theorem dX11_key_103 : decode cX11_key 103 = .ok (.invokevirtual 234, 3) := by decide +kernel
theorem dX11_key_106 : decode cX11_key 106 = .ok (.ifCond .ge 8, 3) := by decide +kernel
theorem dX11_key_109 : decode cX11_key 109 = .ok (.bipush (-2), 2) := by decide +kernel
theorem dX11_key_111 : decode cX11_key 111 = .ok (.goto 11, 3) := by decide +kernel
theorem dX11_key_114 : decode cX11_key 114 = .ok (.aload_n 0, 1) := by decide +kernel
theorem dX11_key_115 : decode cX11_key 115 = .ok (.bipush 73, 2) := by decide +kernel
theorem dX11_key_117 : decode cX11_key 117 = .ok (.iload_n 1, 1) := by decide +kernel
theorem dX11_key_118 : decode cX11_key 118 = .ok (.iadd, 1) := by decide +kernel
theorem dX11_key_119 : decode cX11_key 119 = .ok (.invokevirtual 234, 3) := by decide +kernel
theorem dX11_key_122 : decode cX11_key 122 = .ok (.ireturn, 1) := by decide +kernel
theorem dX11_key_123 : decode cX11_key 123 = .ok (.aload_n 0, 1) := by decide +kernel
theorem dX11_key_124 : decode cX11_key 124 = .ok (.iconst 2, 1) := by decide +kernel
theorem dX11_key_125 : decode cX11_key 125 = .ok (.invokevirtual 366, 3) := by decide +kernel
theorem dX11_key_128 : decode cX11_key 128 = .ok (.ireturn, 1) := by decide +kernel
theorem dX11_bits_0 : decode cX11_bits 0 = .ok (.aload_n 0, 1) := by decide +kernel
theorem dX11_bits_1 : decode cX11_bits 1 = .ok (.iconst 0, 1) := by decide +kernel
theorem dX11_bits_2 : decode cX11_bits 2 = .ok (.putfield 77, 3) := by decide +kernel
theorem dX11_bits_5 : decode cX11_bits 5 = .ok (.iload_n 1, 1) := by decide +kernel
theorem dX11_bits_6 : decode cX11_bits 6 = .ok (.iload_n 2, 1) := by decide +kernel
theorem dX11_bits_7 : decode cX11_bits 7 = .ok (.invokestatic 369, 3) := by decide +kernel
theorem dX11_bits_10 : decode cX11_bits 10 = .ok (.ifCond .eq 11, 3) := by decide +kernel
theorem dX11_bits_13 : decode cX11_bits 13 = .ok (.iload_n 1, 1) := by decide +kernel
theorem dX11_bits_14 : decode cX11_bits 14 = .ok (.iload_n 2, 1) := by decide +kernel
theorem dX11_bits_15 : decode cX11_bits 15 = .ok (.invokestatic 177, 3) := by decide +kernel
theorem dX11_bits_18 : decode cX11_bits 18 = .ok (.goto 4, 3) := by decide +kernel
theorem dX11_bits_21 : decode cX11_bits 21 = .ok (.iconst (-1), 1) := by decide +kernel
theorem dX11_bits_22 : decode cX11_bits 22 = .ok (.ireturn, 1) := by decide +kernel
theorem dX11_place_0 : decode cX11_place 0 = .ok (.aload_n 0, 1) := by decide +kernel
theorem dX11_place_1 : decode cX11_place 1 = .ok (.iconst 0, 1) := by decide +kernel
theorem dX11_place_2 : decode cX11_place 2 = .ok (.putfield 77, 3) := by decide +kernel
theorem dX11_place_5 : decode cX11_place 5 = .ok (.iload_n 1, 1) := by decide +kernel
theorem dX11_place_6 : decode cX11_place 6 = .ok (.iload_n 2, 1) := by decide +kernel
theorem dX11_place_7 : decode cX11_place 7 = .ok (.invokestatic 369, 3) := by decide +kernel
theorem dX11_place_10 : decode cX11_place 10 = .ok (.ifCond .eq 15, 3) := by decide +kernel
theorem dX11_place_13 : decode cX11_place 13 = .ok (.aload_n 0, 1) := by decide +kernel
theorem dX11_place_14 : decode cX11_place 14 = .ok (.iload_n 1, 1) := by decide +kernel
theorem dX11_place_15 : decode cX11_place 15 = .ok (.iload_n 2, 1) := by decide +kernel
theorem dX11_place_16 : decode cX11_place 16 = .ok (.invokestatic 177, 3) := by decide +kernel
theorem dX11_place_19 : decode cX11_place 19 = .ok (.invokevirtual 254, 3) := by decide +kernel
theorem dX11_place_22 : decode cX11_place 22 = .ok (.goto 4, 3) := by decide +kernel
theorem dX11_place_25 : decode cX11_place 25 = .ok (.iconst (-1), 1) := by decide +kernel
theorem dX11_place_26 : decode cX11_place 26 = .ok (.ireturn, 1) := by decide +kernel
theorem dX11_aheadOf_0 : decode cX11_aheadOf 0 = .ok (.iload_n 1, 1) := by decide +kernel
theorem dX11_aheadOf_1 : decode cX11_aheadOf 1 = .ok (.ifCond .ne 7, 3) := by decide +kernel
theorem dX11_aheadOf_4 : decode cX11_aheadOf 4 = .ok (.iconst 0, 1) := by decide +kernel
theorem dX11_aheadOf_5 : decode cX11_aheadOf 5 = .ok (.goto 12, 3) := by decide +kernel
theorem dX11_aheadOf_8 : decode cX11_aheadOf 8 = .ok (.aload_n 0, 1) := by decide +kernel
theorem dX11_aheadOf_9 : decode cX11_aheadOf 9 = .ok (.iconst 1, 1) := by decide +kernel
theorem dX11_aheadOf_10 : decode cX11_aheadOf 10 = .ok (.iload_n 1, 1) := by decide +kernel
theorem dX11_aheadOf_11 : decode cX11_aheadOf 11 = .ok (.iadd, 1) := by decide +kernel
theorem dX11_aheadOf_12 : decode cX11_aheadOf 12 = .ok (.iconst 1, 1) := by decide +kernel
theorem dX11_aheadOf_13 : decode cX11_aheadOf 13 = .ok (.isub, 1) := by decide +kernel
theorem dX11_aheadOf_14 : decode cX11_aheadOf 14 = .ok (.invokevirtual 234, 3) := by decide +kernel
theorem dX11_aheadOf_17 : decode cX11_aheadOf 17 = .ok (.ireturn, 1) := by decide +kernel
theorem dX11_width_0 : decode cX11_width 0 = .ok (.aload_n 0, 1) := by decide +kernel
theorem dX11_width_1 : decode cX11_width 1 = .ok (.iconst 0, 1) := by decide +kernel
theorem dX11_width_2 : decode cX11_width 2 = .ok (.putfield 77, 3) := by decide +kernel
theorem dX11_width_5 : decode cX11_width 5 = .ok (.iload_n 1, 1) := by decide +kernel
theorem dX11_width_6 : decode cX11_width 6 = .ok (.ifCond .lt 20, 3) := by decide +kernel
theorem dX11_width_9 : decode cX11_width 9 = .ok (.iload_n 1, 1) := by decide +kernel
theorem dX11_width_10 : decode cX11_width 10 = .ok (.aload_n 0, 1) := by decide +kernel
theorem dX11_width_11 : decode cX11_width 11 = .ok (.invokevirtual 267, 3) := by decide +kernel
theorem dX11_width_14 : decode cX11_width 14 = .ok (.if_icmp .ge 12, 3) := by decide +kernel
theorem dX11_width_17 : decode cX11_width 17 = .ok (.iload_n 2, 1) := by decide +kernel
theorem dX11_width_18 : decode cX11_width 18 = .ok (.iconst 0, 1) := by decide +kernel
theorem dX11_width_19 : decode cX11_width 19 = .ok (.iconst 1, 1) := by decide +kernel
theorem dX11_width_20 : decode cX11_width 20 = .ok (.invokestatic 122, 3) := by decide +kernel
theorem dX11_width_23 : decode cX11_width 23 = .ok (.ifCond .ne 5, 3) := by decide +kernel
theorem dX11_width_26 : decode cX11_width 26 = .ok (.iconst (-1), 1) := by decide +kernel
theorem dX11_width_27 : decode cX11_width 27 = .ok (.ireturn, 1) := by decide +kernel
theorem dX11_width_28 : decode cX11_width 28 = .ok (.iload_n 2, 1) := by decide +kernel
theorem dX11_width_29 : decode cX11_width 29 = .ok (.ifCond .ne 19, 3) := by decide +kernel
theorem dX11_width_32 : decode cX11_width 32 = .ok (.aload_n 0, 1) := by decide +kernel
theorem dX11_width_33 : decode cX11_width 33 = .ok (.iconst 1, 1) := by decide +kernel
theorem dX11_width_34 : decode cX11_width 34 = .ok (.iload_n 1, 1) := by decide +kernel
theorem dX11_width_35 : decode cX11_width 35 = .ok (.iadd, 1) := by decide +kernel
theorem dX11_width_36 : decode cX11_width 36 = .ok (.invokevirtual 234, 3) := by decide +kernel
theorem dX11_width_39 : decode cX11_width 39 = .ok (.aload_n 0, 1) := by decide +kernel
theorem dX11_width_40 : decode cX11_width 40 = .ok (.iload_n 1, 1) := by decide +kernel
theorem dX11_width_41 : decode cX11_width 41 = .ok (.invokevirtual 372, 3) := by decide +kernel
theorem dX11_width_44 : decode cX11_width 44 = .ok (.invokestatic 375, 3) := by decide +kernel
theorem dX11_width_47 : decode cX11_width 47 = .ok (.ireturn, 1) := by decide +kernel
theorem dX11_width_48 : decode cX11_width 48 = .ok (.aload_n 0, 1) := by decide +kernel
theorem dX11_width_49 : decode cX11_width 49 = .ok (.iconst 1, 1) := by decide +kernel
theorem dX11_width_50 : decode cX11_width 50 = .ok (.iload_n 1, 1) := by decide +kernel
theorem dX11_width_51 : decode cX11_width 51 = .ok (.iadd, 1) := by decide +kernel
theorem dX11_width_52 : decode cX11_width 52 = .ok (.invokevirtual 234, 3) := by decide +kernel
theorem dX11_width_55 : decode cX11_width 55 = .ok (.aload_n 0, 1) := by decide +kernel
theorem dX11_width_56 : decode cX11_width 56 = .ok (.iload_n 1, 1) := by decide +kernel
theorem dX11_width_57 : decode cX11_width 57 = .ok (.invokevirtual 372, 3) := by decide +kernel
theorem dX11_width_60 : decode cX11_width 60 = .ok (.invokestatic 378, 3) := by decide +kernel
theorem dX11_width_63 : decode cX11_width 63 = .ok (.istore_n 3, 1) := by decide +kernel
theorem dX11_width_64 : decode cX11_width 64 = .ok (.iload_n 3, 1) := by decide +kernel
theorem dX11_width_65 : decode cX11_width 65 = .ok (.invokestatic 146, 3) := by decide +kernel
theorem dX11_width_68 : decode cX11_width 68 = .ok (.iload_n 3, 1) := by decide +kernel
theorem dX11_width_69 : decode cX11_width 69 = .ok (.invokestatic 154, 3) := by decide +kernel
theorem dX11_width_72 : decode cX11_width 72 = .ok (.iconst 1, 1) := by decide +kernel
theorem dX11_width_73 : decode cX11_width 73 = .ok (.isub, 1) := by decide +kernel
theorem dX11_width_74 : decode cX11_width 74 = .ok (.invokestatic 150, 3) := by decide +kernel
theorem dX11_width_77 : decode cX11_width 77 = .ok (.ireturn, 1) := by decide +kernel
theorem dX11_sumBits_0 : decode cX11_sumBits 0 = .ok (.iconst 0, 1) := by decide +kernel
theorem dX11_sumBits_1 : decode cX11_sumBits 1 = .ok (.istore_n 1, 1) := by decide +kernel
theorem dX11_sumBits_2 : decode cX11_sumBits 2 = .ok (.iconst 0, 1) := by decide +kernel
theorem dX11_sumBits_3 : decode cX11_sumBits 3 = .ok (.istore_n 2, 1) := by decide +kernel
theorem dX11_sumBits_4 : decode cX11_sumBits 4 = .ok (.iload_n 2, 1) := by decide +kernel
theorem dX11_sumBits_5 : decode cX11_sumBits 5 = .ok (.aload_n 0, 1) := by decide +kernel
theorem dX11_sumBits_6 : decode cX11_sumBits 6 = .ok (.invokevirtual 267, 3) := by decide +kernel
theorem dX11_sumBits_9 : decode cX11_sumBits 9 = .ok (.if_icmp .ge 21, 3) := by decide +kernel
theorem dX11_sumBits_12 : decode cX11_sumBits 12 = .ok (.iload_n 1, 1) := by decide +kernel
theorem dX11_sumBits_13 : decode cX11_sumBits 13 = .ok (.aload_n 0, 1) := by decide +kernel
theorem dX11_sumBits_14 : decode cX11_sumBits 14 = .ok (.iconst 1, 1) := by decide +kernel
theorem dX11_sumBits_15 : decode cX11_sumBits 15 = .ok (.iload_n 2, 1) := by decide +kernel
theorem dX11_sumBits_16 : decode cX11_sumBits 16 = .ok (.iadd, 1) := by decide +kernel
theorem dX11_sumBits_17 : decode cX11_sumBits 17 = .ok (.invokevirtual 234, 3) := by decide +kernel
theorem dX11_sumBits_20 : decode cX11_sumBits 20 = .ok (.invokestatic 378, 3) := by decide +kernel
theorem dX11_sumBits_23 : decode cX11_sumBits 23 = .ok (.istore_n 1, 1) := by decide +kernel
theorem dX11_sumBits_24 : decode cX11_sumBits 24 = .ok (.iinc 2 1, 3) := by decide +kernel
theorem dX11_sumBits_27 : decode cX11_sumBits 27 = .ok (.goto (-23), 3) := by decide +kernel
theorem dX11_sumBits_30 : decode cX11_sumBits 30 = .ok (.iload_n 1, 1) := by decide +kernel
theorem dX11_sumBits_31 : decode cX11_sumBits 31 = .ok (.ireturn, 1) := by decide +kernel
theorem dX11_sum_0 : decode cX11_sum 0 = .ok (.aload_n 0, 1) := by decide +kernel
theorem dX11_sum_1 : decode cX11_sum 1 = .ok (.iconst 0, 1) := by decide +kernel
theorem dX11_sum_2 : decode cX11_sum 2 = .ok (.putfield 77, 3) := by decide +kernel
theorem dX11_sum_5 : decode cX11_sum 5 = .ok (.aload_n 0, 1) := by decide +kernel
theorem dX11_sum_6 : decode cX11_sum 6 = .ok (.invokevirtual 381, 3) := by decide +kernel
theorem dX11_sum_9 : decode cX11_sum 9 = .ok (.ireturn, 1) := by decide +kernel
theorem dX11_mean_0 : decode cX11_mean 0 = .ok (.aload_n 0, 1) := by decide +kernel
theorem dX11_mean_1 : decode cX11_mean 1 = .ok (.iconst 0, 1) := by decide +kernel
theorem dX11_mean_2 : decode cX11_mean 2 = .ok (.putfield 77, 3) := by decide +kernel
theorem dX11_mean_5 : decode cX11_mean 5 = .ok (.aload_n 0, 1) := by decide +kernel
theorem dX11_mean_6 : decode cX11_mean 6 = .ok (.invokevirtual 267, 3) := by decide +kernel
theorem dX11_mean_9 : decode cX11_mean 9 = .ok (.ifCond .ne 8, 3) := by decide +kernel
theorem dX11_mean_12 : decode cX11_mean 12 = .ok (.bipush (-2), 2) := by decide +kernel
theorem dX11_mean_14 : decode cX11_mean 14 = .ok (.goto 17, 3) := by decide +kernel
theorem dX11_mean_17 : decode cX11_mean 17 = .ok (.aload_n 0, 1) := by decide +kernel
theorem dX11_mean_18 : decode cX11_mean 18 = .ok (.invokevirtual 381, 3) := by decide +kernel
theorem dX11_mean_21 : decode cX11_mean 21 = .ok (.aload_n 0, 1) := by decide +kernel
theorem dX11_mean_22 : decode cX11_mean 22 = .ok (.invokevirtual 267, 3) := by decide +kernel
theorem dX11_mean_25 : decode cX11_mean 25 = .ok (.invokestatic 170, 3) := by decide +kernel
theorem dX11_mean_28 : decode cX11_mean 28 = .ok (.invokestatic 173, 3) := by decide +kernel
theorem dX11_mean_31 : decode cX11_mean 31 = .ok (.ireturn, 1) := by decide +kernel
theorem dX11_ratio_0 : decode cX11_ratio 0 = .ok (.aload_n 0, 1) := by decide +kernel
theorem dX11_ratio_1 : decode cX11_ratio 1 = .ok (.iconst 0, 1) := by decide +kernel
theorem dX11_ratio_2 : decode cX11_ratio 2 = .ok (.putfield 77, 3) := by decide +kernel
theorem dX11_ratio_5 : decode cX11_ratio 5 = .ok (.iload_n 1, 1) := by decide +kernel
theorem dX11_ratio_6 : decode cX11_ratio 6 = .ok (.ifCond .lt 23, 3) := by decide +kernel
theorem dX11_ratio_9 : decode cX11_ratio 9 = .ok (.iload_n 2, 1) := by decide +kernel
theorem dX11_ratio_10 : decode cX11_ratio 10 = .ok (.ifCond .lt 19, 3) := by decide +kernel
theorem dX11_ratio_13 : decode cX11_ratio 13 = .ok (.iload_n 1, 1) := by decide +kernel
theorem dX11_ratio_14 : decode cX11_ratio 14 = .ok (.aload_n 0, 1) := by decide +kernel
theorem dX11_ratio_15 : decode cX11_ratio 15 = .ok (.invokevirtual 267, 3) := by decide +kernel
theorem dX11_ratio_18 : decode cX11_ratio 18 = .ok (.if_icmp .ge 11, 3) := by decide +kernel
theorem dX11_ratio_21 : decode cX11_ratio 21 = .ok (.iload_n 2, 1) := by decide +kernel
theorem dX11_ratio_22 : decode cX11_ratio 22 = .ok (.aload_n 0, 1) := by decide +kernel
theorem dX11_ratio_23 : decode cX11_ratio 23 = .ok (.invokevirtual 267, 3) := by decide +kernel
theorem dX11_ratio_26 : decode cX11_ratio 26 = .ok (.if_icmp .lt 5, 3) := by decide +kernel
theorem dX11_ratio_29 : decode cX11_ratio 29 = .ok (.iconst (-1), 1) := by decide +kernel
theorem dX11_ratio_30 : decode cX11_ratio 30 = .ok (.ireturn, 1) := by decide +kernel
theorem dX11_ratio_31 : decode cX11_ratio 31 = .ok (.aload_n 0, 1) := by decide +kernel
theorem dX11_ratio_32 : decode cX11_ratio 32 = .ok (.iconst 1, 1) := by decide +kernel
theorem dX11_ratio_33 : decode cX11_ratio 33 = .ok (.iload_n 2, 1) := by decide +kernel
theorem dX11_ratio_34 : decode cX11_ratio 34 = .ok (.iadd, 1) := by decide +kernel
theorem dX11_ratio_35 : decode cX11_ratio 35 = .ok (.invokevirtual 234, 3) := by decide +kernel
theorem dX11_ratio_38 : decode cX11_ratio 38 = .ok (.ifCond .ne 8, 3) := by decide +kernel
theorem dX11_ratio_41 : decode cX11_ratio 41 = .ok (.bipush (-2), 2) := by decide +kernel
theorem dX11_ratio_43 : decode cX11_ratio 43 = .ok (.goto 20, 3) := by decide +kernel
theorem dX11_ratio_46 : decode cX11_ratio 46 = .ok (.aload_n 0, 1) := by decide +kernel
theorem dX11_ratio_47 : decode cX11_ratio 47 = .ok (.iconst 1, 1) := by decide +kernel
theorem dX11_ratio_48 : decode cX11_ratio 48 = .ok (.iload_n 1, 1) := by decide +kernel
theorem dX11_ratio_49 : decode cX11_ratio 49 = .ok (.iadd, 1) := by decide +kernel
theorem dX11_ratio_50 : decode cX11_ratio 50 = .ok (.invokevirtual 234, 3) := by decide +kernel
theorem dX11_ratio_53 : decode cX11_ratio 53 = .ok (.aload_n 0, 1) := by decide +kernel
theorem dX11_ratio_54 : decode cX11_ratio 54 = .ok (.iconst 1, 1) := by decide +kernel
theorem dX11_ratio_55 : decode cX11_ratio 55 = .ok (.iload_n 2, 1) := by decide +kernel
theorem dX11_ratio_56 : decode cX11_ratio 56 = .ok (.iadd, 1) := by decide +kernel
theorem dX11_ratio_57 : decode cX11_ratio 57 = .ok (.invokevirtual 234, 3) := by decide +kernel
theorem dX11_ratio_60 : decode cX11_ratio 60 = .ok (.invokestatic 173, 3) := by decide +kernel
theorem dX11_ratio_63 : decode cX11_ratio 63 = .ok (.ireturn, 1) := by decide +kernel
theorem dX11_between_0 : decode cX11_between 0 = .ok (.aload_n 0, 1) := by decide +kernel
theorem dX11_between_1 : decode cX11_between 1 = .ok (.iconst 0, 1) := by decide +kernel
theorem dX11_between_2 : decode cX11_between 2 = .ok (.putfield 77, 3) := by decide +kernel
theorem dX11_between_5 : decode cX11_between 5 = .ok (.iload_n 1, 1) := by decide +kernel
theorem dX11_between_6 : decode cX11_between 6 = .ok (.ifCond .lt 11, 3) := by decide +kernel
theorem dX11_between_9 : decode cX11_between 9 = .ok (.iload_n 1, 1) := by decide +kernel
theorem dX11_between_10 : decode cX11_between 10 = .ok (.aload_n 0, 1) := by decide +kernel
theorem dX11_between_11 : decode cX11_between 11 = .ok (.invokevirtual 267, 3) := by decide +kernel
theorem dX11_between_14 : decode cX11_between 14 = .ok (.if_icmp .lt 5, 3) := by decide +kernel
theorem dX11_between_17 : decode cX11_between 17 = .ok (.iconst (-1), 1) := by decide +kernel
theorem dX11_between_18 : decode cX11_between 18 = .ok (.ireturn, 1) := by decide +kernel
theorem dX11_between_19 : decode cX11_between 19 = .ok (.aload_n 0, 1) := by decide +kernel
theorem dX11_between_20 : decode cX11_between 20 = .ok (.iconst 1, 1) := by decide +kernel
theorem dX11_between_21 : decode cX11_between 21 = .ok (.iload_n 1, 1) := by decide +kernel
theorem dX11_between_22 : decode cX11_between 22 = .ok (.iadd, 1) := by decide +kernel
theorem dX11_between_23 : decode cX11_between 23 = .ok (.invokevirtual 234, 3) := by decide +kernel
theorem dX11_between_26 : decode cX11_between 26 = .ok (.aload_n 0, 1) := by decide +kernel
theorem dX11_between_27 : decode cX11_between 27 = .ok (.iload_n 1, 1) := by decide +kernel
theorem dX11_between_28 : decode cX11_between 28 = .ok (.invokevirtual 372, 3) := by decide +kernel
theorem dX11_between_31 : decode cX11_between 31 = .ok (.isub, 1) := by decide +kernel
theorem dX11_between_32 : decode cX11_between 32 = .ok (.iconst 1, 1) := by decide +kernel
theorem dX11_between_33 : decode cX11_between 33 = .ok (.isub, 1) := by decide +kernel
theorem dX11_between_34 : decode cX11_between 34 = .ok (.istore_n 2, 1) := by decide +kernel
theorem dX11_between_35 : decode cX11_between 35 = .ok (.iload_n 2, 1) := by decide +kernel
theorem dX11_between_36 : decode cX11_between 36 = .ok (.ifCond .ge 7, 3) := by decide +kernel
theorem dX11_between_39 : decode cX11_between 39 = .ok (.iconst 0, 1) := by decide +kernel
theorem dX11_between_40 : decode cX11_between 40 = .ok (.goto 4, 3) := by decide +kernel
theorem dX11_between_43 : decode cX11_between 43 = .ok (.iload_n 2, 1) := by decide +kernel
theorem dX11_between_44 : decode cX11_between 44 = .ok (.ireturn, 1) := by decide +kernel
theorem dX11_widest_0 : decode cX11_widest 0 = .ok (.aload_n 0, 1) := by decide +kernel
theorem dX11_widest_1 : decode cX11_widest 1 = .ok (.iconst 0, 1) := by decide +kernel
theorem dX11_widest_2 : decode cX11_widest 2 = .ok (.putfield 77, 3) := by decide +kernel
theorem dX11_widest_5 : decode cX11_widest 5 = .ok (.bipush (-2), 2) := by decide +kernel
theorem dX11_widest_7 : decode cX11_widest 7 = .ok (.istore_n 1, 1) := by decide +kernel
theorem dX11_widest_8 : decode cX11_widest 8 = .ok (.iconst 0, 1) := by decide +kernel
theorem dX11_widest_9 : decode cX11_widest 9 = .ok (.istore_n 2, 1) := by decide +kernel
theorem dX11_widest_10 : decode cX11_widest 10 = .ok (.iconst 0, 1) := by decide +kernel
theorem dX11_widest_11 : decode cX11_widest 11 = .ok (.istore_n 3, 1) := by decide +kernel
theorem dX11_widest_12 : decode cX11_widest 12 = .ok (.iload_n 3, 1) := by decide +kernel
theorem dX11_widest_13 : decode cX11_widest 13 = .ok (.aload_n 0, 1) := by decide +kernel
theorem dX11_widest_14 : decode cX11_widest 14 = .ok (.invokevirtual 267, 3) := by decide +kernel
theorem dX11_widest_17 : decode cX11_widest 17 = .ok (.if_icmp .ge 44, 3) := by decide +kernel
theorem dX11_widest_20 : decode cX11_widest 20 = .ok (.aload_n 0, 1) := by decide +kernel
theorem dX11_widest_21 : decode cX11_widest 21 = .ok (.iconst 1, 1) := by decide +kernel
theorem dX11_widest_22 : decode cX11_widest 22 = .ok (.iload_n 3, 1) := by decide +kernel
theorem dX11_widest_23 : decode cX11_widest 23 = .ok (.iadd, 1) := by decide +kernel
theorem dX11_widest_24 : decode cX11_widest 24 = .ok (.invokevirtual 234, 3) := by decide +kernel
theorem dX11_widest_27 : decode cX11_widest 27 = .ok (.aload_n 0, 1) := by decide +kernel
theorem dX11_widest_28 : decode cX11_widest 28 = .ok (.iload_n 3, 1) := by decide +kernel
theorem dX11_widest_29 : decode cX11_widest 29 = .ok (.invokevirtual 372, 3) := by decide +kernel
theorem dX11_widest_32 : decode cX11_widest 32 = .ok (.invokestatic 375, 3) := by decide +kernel
theorem dX11_widest_35 : decode cX11_widest 35 = .ok (.istore 4, 2) := by decide +kernel
theorem dX11_widest_37 : decode cX11_widest 37 = .ok (.iload_n 1, 1) := by decide +kernel
theorem dX11_widest_38 : decode cX11_widest 38 = .ok (.ifCond .lt 12, 3) := by decide +kernel
theorem dX11_widest_41 : decode cX11_widest 41 = .ok (.iload 4, 2) := by decide +kernel
theorem dX11_widest_43 : decode cX11_widest 43 = .ok (.iload_n 2, 1) := by decide +kernel
theorem dX11_widest_44 : decode cX11_widest 44 = .ok (.if_icmp .gt 6, 3) := by decide +kernel
theorem dX11_widest_47 : decode cX11_widest 47 = .ok (.goto 8, 3) := by decide +kernel
theorem dX11_widest_50 : decode cX11_widest 50 = .ok (.iload_n 3, 1) := by decide +kernel
theorem dX11_widest_51 : decode cX11_widest 51 = .ok (.istore_n 1, 1) := by decide +kernel
theorem dX11_widest_52 : decode cX11_widest 52 = .ok (.iload 4, 2) := by decide +kernel
theorem dX11_widest_54 : decode cX11_widest 54 = .ok (.istore_n 2, 1) := by decide +kernel
theorem dX11_widest_55 : decode cX11_widest 55 = .ok (.iinc 3 1, 3) := by decide +kernel
theorem dX11_widest_58 : decode cX11_widest 58 = .ok (.goto (-46), 3) := by decide +kernel
theorem dX11_widest_61 : decode cX11_widest 61 = .ok (.iload_n 1, 1) := by decide +kernel
theorem dX11_widest_62 : decode cX11_widest 62 = .ok (.ireturn, 1) := by decide +kernel
theorem dX11_nearest_0 : decode cX11_nearest 0 = .ok (.aload_n 0, 1) := by decide +kernel
theorem dX11_nearest_1 : decode cX11_nearest 1 = .ok (.iconst 0, 1) := by decide +kernel
theorem dX11_nearest_2 : decode cX11_nearest 2 = .ok (.putfield 77, 3) := by decide +kernel
theorem dX11_nearest_5 : decode cX11_nearest 5 = .ok (.iload_n 1, 1) := by decide +kernel
theorem dX11_nearest_6 : decode cX11_nearest 6 = .ok (.iload_n 2, 1) := by decide +kernel
theorem dX11_nearest_7 : decode cX11_nearest 7 = .ok (.invokestatic 369, 3) := by decide +kernel
theorem dX11_nearest_10 : decode cX11_nearest 10 = .ok (.ifCond .ne 5, 3) := by decide +kernel
theorem dX11_nearest_13 : decode cX11_nearest 13 = .ok (.iconst (-1), 1) := by decide +kernel
theorem dX11_nearest_14 : decode cX11_nearest 14 = .ok (.ireturn, 1) := by decide +kernel
theorem dX11_nearest_15 : decode cX11_nearest 15 = .ok (.bipush (-2), 2) := by decide +kernel
theorem dX11_nearest_17 : decode cX11_nearest 17 = .ok (.istore_n 3, 1) := by decide +kernel
theorem dX11_nearest_18 : decode cX11_nearest 18 = .ok (.iconst 0, 1) := by decide +kernel
theorem dX11_nearest_19 : decode cX11_nearest 19 = .ok (.istore 4, 2) := by decide +kernel
theorem dX11_nearest_21 : decode cX11_nearest 21 = .ok (.iconst 0, 1) := by decide +kernel
theorem dX11_nearest_22 : decode cX11_nearest 22 = .ok (.istore 5, 2) := by decide +kernel
theorem dX11_nearest_24 : decode cX11_nearest 24 = .ok (.iload 5, 2) := by decide +kernel
theorem dX11_nearest_26 : decode cX11_nearest 26 = .ok (.aload_n 0, 1) := by decide +kernel
theorem dX11_nearest_27 : decode cX11_nearest 27 = .ok (.invokevirtual 267, 3) := by decide +kernel
theorem dX11_nearest_30 : decode cX11_nearest 30 = .ok (.if_icmp .ge 48, 3) := by decide +kernel
theorem dX11_nearest_33 : decode cX11_nearest 33 = .ok (.aload_n 0, 1) := by decide +kernel
theorem dX11_nearest_34 : decode cX11_nearest 34 = .ok (.iconst 1, 1) := by decide +kernel
theorem dX11_nearest_35 : decode cX11_nearest 35 = .ok (.iload 5, 2) := by decide +kernel
theorem dX11_nearest_37 : decode cX11_nearest 37 = .ok (.iadd, 1) := by decide +kernel
theorem dX11_nearest_38 : decode cX11_nearest 38 = .ok (.invokevirtual 234, 3) := by decide +kernel
theorem dX11_nearest_41 : decode cX11_nearest 41 = .ok (.iload_n 1, 1) := by decide +kernel
theorem dX11_nearest_42 : decode cX11_nearest 42 = .ok (.iload_n 2, 1) := by decide +kernel
theorem dX11_nearest_43 : decode cX11_nearest 43 = .ok (.invokestatic 177, 3) := by decide +kernel
theorem dX11_nearest_46 : decode cX11_nearest 46 = .ok (.invokestatic 375, 3) := by decide +kernel
theorem dX11_nearest_49 : decode cX11_nearest 49 = .ok (.istore 6, 2) := by decide +kernel
theorem dX11_nearest_51 : decode cX11_nearest 51 = .ok (.iload_n 3, 1) := by decide +kernel
theorem dX11_nearest_52 : decode cX11_nearest 52 = .ok (.ifCond .lt 13, 3) := by decide +kernel
theorem dX11_nearest_55 : decode cX11_nearest 55 = .ok (.iload 6, 2) := by decide +kernel
theorem dX11_nearest_57 : decode cX11_nearest 57 = .ok (.iload 4, 2) := by decide +kernel
theorem dX11_nearest_59 : decode cX11_nearest 59 = .ok (.if_icmp .lt 6, 3) := by decide +kernel
theorem dX11_nearest_62 : decode cX11_nearest 62 = .ok (.goto 10, 3) := by decide +kernel
theorem dX11_nearest_65 : decode cX11_nearest 65 = .ok (.iload 5, 2) := by decide +kernel
theorem dX11_nearest_67 : decode cX11_nearest 67 = .ok (.istore_n 3, 1) := by decide +kernel
theorem dX11_nearest_68 : decode cX11_nearest 68 = .ok (.iload 6, 2) := by decide +kernel
theorem dX11_nearest_70 : decode cX11_nearest 70 = .ok (.istore 4, 2) := by decide +kernel
theorem dX11_nearest_72 : decode cX11_nearest 72 = .ok (.iinc 5 1, 3) := by decide +kernel
theorem dX11_nearest_75 : decode cX11_nearest 75 = .ok (.goto (-51), 3) := by decide +kernel
theorem dX11_nearest_78 : decode cX11_nearest 78 = .ok (.iload_n 3, 1) := by decide +kernel
theorem dX11_nearest_79 : decode cX11_nearest 79 = .ok (.ireturn, 1) := by decide +kernel
theorem dX11_keyLock_0 : decode cX11_keyLock 0 = .ok (.iload_n 2, 1) := by decide +kernel
theorem dX11_keyLock_1 : decode cX11_keyLock 1 = .ok (.aload_n 0, 1) := by decide +kernel
theorem dX11_keyLock_2 : decode cX11_keyLock 2 = .ok (.invokevirtual 267, 3) := by decide +kernel
theorem dX11_keyLock_5 : decode cX11_keyLock 5 = .ok (.if_icmp .ne 7, 3) := by decide +kernel
theorem dX11_keyLock_8 : decode cX11_keyLock 8 = .ok (.iconst 0, 1) := by decide +kernel
theorem dX11_keyLock_9 : decode cX11_keyLock 9 = .ok (.goto 43, 3) := by decide +kernel
theorem dX11_keyLock_12 : decode cX11_keyLock 12 = .ok (.aload_n 0, 1) := by decide +kernel
theorem dX11_keyLock_13 : decode cX11_keyLock 13 = .ok (.sipush 146, 3) := by decide +kernel
theorem dX11_keyLock_16 : decode cX11_keyLock 16 = .ok (.iload_n 2, 1) := by decide +kernel
theorem dX11_keyLock_17 : decode cX11_keyLock 17 = .ok (.iadd, 1) := by decide +kernel
theorem dX11_keyLock_18 : decode cX11_keyLock 18 = .ok (.invokevirtual 234, 3) := by decide +kernel
theorem dX11_keyLock_21 : decode cX11_keyLock 21 = .ok (.iload_n 1, 1) := by decide +kernel
theorem dX11_keyLock_22 : decode cX11_keyLock 22 = .ok (.invokestatic 307, 3) := by decide +kernel
theorem dX11_keyLock_25 : decode cX11_keyLock 25 = .ok (.ifCond .eq 7, 3) := by decide +kernel
theorem dX11_keyLock_28 : decode cX11_keyLock 28 = .ok (.iconst 2, 1) := by decide +kernel
theorem dX11_keyLock_29 : decode cX11_keyLock 29 = .ok (.goto 23, 3) := by decide +kernel
theorem dX11_keyLock_32 : decode cX11_keyLock 32 = .ok (.aload_n 0, 1) := by decide +kernel
theorem dX11_keyLock_33 : decode cX11_keyLock 33 = .ok (.bipush 122, 2) := by decide +kernel
theorem dX11_keyLock_35 : decode cX11_keyLock 35 = .ok (.iload_n 2, 1) := by decide +kernel
theorem dX11_keyLock_36 : decode cX11_keyLock 36 = .ok (.iadd, 1) := by decide +kernel
theorem dX11_keyLock_37 : decode cX11_keyLock 37 = .ok (.invokevirtual 234, 3) := by decide +kernel
theorem dX11_keyLock_40 : decode cX11_keyLock 40 = .ok (.iload_n 1, 1) := by decide +kernel
theorem dX11_keyLock_41 : decode cX11_keyLock 41 = .ok (.invokestatic 307, 3) := by decide +kernel
theorem dX11_keyLock_44 : decode cX11_keyLock 44 = .ok (.ifCond .eq 7, 3) := by decide +kernel
theorem dX11_keyLock_47 : decode cX11_keyLock 47 = .ok (.iconst 1, 1) := by decide +kernel
theorem dX11_keyLock_48 : decode cX11_keyLock 48 = .ok (.goto 4, 3) := by decide +kernel
theorem dX11_keyLock_51 : decode cX11_keyLock 51 = .ok (.iconst 0, 1) := by decide +kernel
theorem dX11_keyLock_52 : decode cX11_keyLock 52 = .ok (.ireturn, 1) := by decide +kernel
theorem dX11_lock_0 : decode cX11_lock 0 = .ok (.aload_n 0, 1) := by decide +kernel
theorem dX11_lock_1 : decode cX11_lock 1 = .ok (.iconst 0, 1) := by decide +kernel
theorem dX11_lock_2 : decode cX11_lock 2 = .ok (.putfield 77, 3) := by decide +kernel
theorem dX11_lock_5 : decode cX11_lock 5 = .ok (.aload_n 0, 1) := by decide +kernel
theorem dX11_lock_6 : decode cX11_lock 6 = .ok (.iload_n 1, 1) := by decide +kernel
theorem dX11_lock_7 : decode cX11_lock 7 = .ok (.invokevirtual 341, 3) := by decide +kernel
theorem dX11_lock_10 : decode cX11_lock 10 = .ok (.ifCond .eq 24, 3) := by decide +kernel
theorem dX11_lock_13 : decode cX11_lock 13 = .ok (.iload_n 2, 1) := by decide +kernel
theorem dX11_lock_14 : decode cX11_lock 14 = .ok (.ifCond .lt 20, 3) := by decide +kernel
theorem dX11_lock_17 : decode cX11_lock 17 = .ok (.iload_n 2, 1) := by decide +kernel
theorem dX11_lock_18 : decode cX11_lock 18 = .ok (.aload_n 0, 1) := by decide +kernel
theorem dX11_lock_19 : decode cX11_lock 19 = .ok (.invokevirtual 267, 3) := by decide +kernel
theorem dX11_lock_22 : decode cX11_lock 22 = .ok (.if_icmp .gt 12, 3) := by decide +kernel
theorem dX11_lock_25 : decode cX11_lock 25 = .ok (.iload_n 3, 1) := by decide +kernel
theorem dX11_lock_26 : decode cX11_lock 26 = .ok (.iconst 0, 1) := by decide +kernel
theorem dX11_lock_27 : decode cX11_lock 27 = .ok (.iconst 1, 1) := by decide +kernel
theorem dX11_lock_28 : decode cX11_lock 28 = .ok (.invokestatic 122, 3) := by decide +kernel
theorem dX11_lock_31 : decode cX11_lock 31 = .ok (.ifCond .ne 5, 3) := by decide +kernel
theorem dX11_lock_34 : decode cX11_lock 34 = .ok (.iconst (-1), 1) := by decide +kernel
theorem dX11_lock_35 : decode cX11_lock 35 = .ok (.ireturn, 1) := by decide +kernel
theorem dX11_lock_36 : decode cX11_lock 36 = .ok (.iload_n 3, 1) := by decide +kernel
theorem dX11_lock_37 : decode cX11_lock 37 = .ok (.ifCond .ne 18, 3) := by decide +kernel
theorem dX11_lock_40 : decode cX11_lock 40 = .ok (.aload_n 0, 1) := by decide +kernel
theorem dX11_lock_41 : decode cX11_lock 41 = .ok (.bipush 97, 2) := by decide +kernel
theorem dX11_lock_43 : decode cX11_lock 43 = .ok (.iload_n 2, 1) := by decide +kernel
theorem dX11_lock_44 : decode cX11_lock 44 = .ok (.iadd, 1) := by decide +kernel
theorem dX11_lock_45 : decode cX11_lock 45 = .ok (.invokevirtual 234, 3) := by decide +kernel
theorem dX11_lock_48 : decode cX11_lock 48 = .ok (.iload_n 1, 1) := by decide +kernel
theorem dX11_lock_49 : decode cX11_lock 49 = .ok (.ishr, 1) := by decide +kernel
theorem dX11_lock_50 : decode cX11_lock 50 = .ok (.iconst 1, 1) := by decide +kernel
theorem dX11_lock_51 : decode cX11_lock 51 = .ok (.iand, 1) := by decide +kernel
theorem dX11_lock_52 : decode cX11_lock 52 = .ok (.goto 9, 3) := by decide +kernel
theorem dX11_lock_55 : decode cX11_lock 55 = .ok (.aload_n 0, 1) := by decide +kernel
theorem dX11_lock_56 : decode cX11_lock 56 = .ok (.iload_n 1, 1) := by decide +kernel
theorem dX11_lock_57 : decode cX11_lock 57 = .ok (.iload_n 2, 1) := by decide +kernel
theorem dX11_lock_58 : decode cX11_lock 58 = .ok (.invokevirtual 384, 3) := by decide +kernel
theorem dX11_lock_61 : decode cX11_lock 61 = .ok (.ireturn, 1) := by decide +kernel
theorem dX11_locksOf_0 : decode cX11_locksOf 0 = .ok (.iconst 0, 1) := by decide +kernel
theorem dX11_locksOf_1 : decode cX11_locksOf 1 = .ok (.istore_n 2, 1) := by decide +kernel
theorem dX11_locksOf_2 : decode cX11_locksOf 2 = .ok (.iconst 0, 1) := by decide +kernel
theorem dX11_locksOf_3 : decode cX11_locksOf 3 = .ok (.istore_n 3, 1) := by decide +kernel
theorem dX11_locksOf_4 : decode cX11_locksOf 4 = .ok (.iload_n 3, 1) := by decide +kernel
theorem dX11_locksOf_5 : decode cX11_locksOf 5 = .ok (.aload_n 0, 1) := by decide +kernel
theorem dX11_locksOf_6 : decode cX11_locksOf 6 = .ok (.invokevirtual 267, 3) := by decide +kernel
theorem dX11_locksOf_9 : decode cX11_locksOf 9 = .ok (.if_icmp .gt 39, 3) := by decide +kernel
theorem dX11_locksOf_12 : decode cX11_locksOf 12 = .ok (.iload_n 2, 1) := by decide +kernel
theorem dX11_locksOf_13 : decode cX11_locksOf 13 = .ok (.aload_n 0, 1) := by decide +kernel
theorem dX11_locksOf_14 : decode cX11_locksOf 14 = .ok (.bipush 97, 2) := by decide +kernel
theorem dX11_locksOf_16 : decode cX11_locksOf 16 = .ok (.iload_n 3, 1) := by decide +kernel
theorem dX11_locksOf_17 : decode cX11_locksOf 17 = .ok (.iadd, 1) := by decide +kernel
theorem dX11_locksOf_18 : decode cX11_locksOf 18 = .ok (.invokevirtual 234, 3) := by decide +kernel
theorem dX11_locksOf_21 : decode cX11_locksOf 21 = .ok (.iload_n 1, 1) := by decide +kernel
theorem dX11_locksOf_22 : decode cX11_locksOf 22 = .ok (.ishr, 1) := by decide +kernel
theorem dX11_locksOf_23 : decode cX11_locksOf 23 = .ok (.iconst 1, 1) := by decide +kernel
theorem dX11_locksOf_24 : decode cX11_locksOf 24 = .ok (.iand, 1) := by decide +kernel
theorem dX11_locksOf_25 : decode cX11_locksOf 25 = .ok (.aload_n 0, 1) := by decide +kernel
theorem dX11_locksOf_26 : decode cX11_locksOf 26 = .ok (.iload_n 1, 1) := by decide +kernel
theorem dX11_locksOf_27 : decode cX11_locksOf 27 = .ok (.iload_n 3, 1) := by decide +kernel
theorem dX11_locksOf_28 : decode cX11_locksOf 28 = .ok (.invokevirtual 384, 3) := by decide +kernel
theorem dX11_locksOf_31 : decode cX11_locksOf 31 = .ok (.ifCond .le 7, 3) := by decide +kernel
theorem dX11_locksOf_34 : decode cX11_locksOf 34 = .ok (.iconst 1, 1) := by decide +kernel
theorem dX11_locksOf_35 : decode cX11_locksOf 35 = .ok (.goto 4, 3) := by decide +kernel
theorem dX11_locksOf_38 : decode cX11_locksOf 38 = .ok (.iconst 0, 1) := by decide +kernel
theorem dX11_locksOf_39 : decode cX11_locksOf 39 = .ok (.iadd, 1) := by decide +kernel
theorem dX11_locksOf_40 : decode cX11_locksOf 40 = .ok (.iadd, 1) := by decide +kernel
theorem dX11_locksOf_41 : decode cX11_locksOf 41 = .ok (.istore_n 2, 1) := by decide +kernel
theorem dX11_locksOf_42 : decode cX11_locksOf 42 = .ok (.iinc 3 1, 3) := by decide +kernel
theorem dX11_locksOf_45 : decode cX11_locksOf 45 = .ok (.goto (-41), 3) := by decide +kernel
theorem dX11_locksOf_48 : decode cX11_locksOf 48 = .ok (.iload_n 2, 1) := by decide +kernel
theorem dX11_locksOf_49 : decode cX11_locksOf 49 = .ok (.ireturn, 1) := by decide +kernel
theorem dX11_changesOf_0 : decode cX11_changesOf 0 = .ok (.iconst 0, 1) := by decide +kernel
theorem dX11_changesOf_1 : decode cX11_changesOf 1 = .ok (.istore_n 2, 1) := by decide +kernel
theorem dX11_changesOf_2 : decode cX11_changesOf 2 = .ok (.aload_n 0, 1) := by decide +kernel
theorem dX11_changesOf_3 : decode cX11_changesOf 3 = .ok (.sipush 180, 3) := by decide +kernel
theorem dX11_changesOf_6 : decode cX11_changesOf 6 = .ok (.iload_n 1, 1) := by decide +kernel
theorem dX11_changesOf_7 : decode cX11_changesOf 7 = .ok (.iadd, 1) := by decide +kernel
theorem dX11_changesOf_8 : decode cX11_changesOf 8 = .ok (.invokevirtual 234, 3) := by decide +kernel
theorem dX11_changesOf_11 : decode cX11_changesOf 11 = .ok (.istore_n 3, 1) := by decide +kernel
theorem dX11_changesOf_12 : decode cX11_changesOf 12 = .ok (.iload_n 3, 1) := by decide +kernel
theorem dX11_changesOf_13 : decode cX11_changesOf 13 = .ok (.aload_n 0, 1) := by decide +kernel
theorem dX11_changesOf_14 : decode cX11_changesOf 14 = .ok (.sipush 227, 3) := by decide +kernel
theorem dX11_changesOf_17 : decode cX11_changesOf 17 = .ok (.invokevirtual 234, 3) := by decide +kernel
theorem dX11_changesOf_20 : decode cX11_changesOf 20 = .ok (.if_icmp .ge 48, 3) := by decide +kernel
theorem dX11_changesOf_23 : decode cX11_changesOf 23 = .ok (.aload_n 0, 1) := by decide +kernel
theorem dX11_changesOf_24 : decode cX11_changesOf 24 = .ok (.sipush 170, 3) := by decide +kernel
theorem dX11_changesOf_27 : decode cX11_changesOf 27 = .ok (.iload_n 1, 1) := by decide +kernel
theorem dX11_changesOf_28 : decode cX11_changesOf 28 = .ok (.iadd, 1) := by decide +kernel
theorem dX11_changesOf_29 : decode cX11_changesOf 29 = .ok (.invokevirtual 234, 3) := by decide +kernel
theorem dX11_changesOf_32 : decode cX11_changesOf 32 = .ok (.ifCond .le 36, 3) := by decide +kernel
theorem dX11_changesOf_35 : decode cX11_changesOf 35 = .ok (.iload_n 2, 1) := by decide +kernel
theorem dX11_changesOf_36 : decode cX11_changesOf 36 = .ok (.aload_n 0, 1) := by decide +kernel
theorem dX11_changesOf_37 : decode cX11_changesOf 37 = .ok (.getfield 47, 3) := by decide +kernel
theorem dX11_changesOf_40 : decode cX11_changesOf 40 = .ok (.sipush 600, 3) := by decide +kernel
theorem dX11_changesOf_43 : decode cX11_changesOf 43 = .ok (.aload_n 0, 1) := by decide +kernel
theorem dX11_changesOf_44 : decode cX11_changesOf 44 = .ok (.getfield 202, 3) := by decide +kernel
theorem dX11_changesOf_47 : decode cX11_changesOf 47 = .ok (.imul, 1) := by decide +kernel
theorem dX11_changesOf_48 : decode cX11_changesOf 48 = .ok (.iload_n 3, 1) := by decide +kernel
theorem dX11_changesOf_49 : decode cX11_changesOf 49 = .ok (.iadd, 1) := by decide +kernel
theorem dX11_changesOf_50 : decode cX11_changesOf 50 = .ok (.iaload, 1) := by decide +kernel
theorem dX11_changesOf_51 : decode cX11_changesOf 51 = .ok (.iload_n 1, 1) := by decide +kernel
theorem dX11_changesOf_52 : decode cX11_changesOf 52 = .ok (.if_icmp .ne 7, 3) := by decide +kernel
theorem dX11_changesOf_55 : decode cX11_changesOf 55 = .ok (.iconst 1, 1) := by decide +kernel
theorem dX11_changesOf_56 : decode cX11_changesOf 56 = .ok (.goto 4, 3) := by decide +kernel
theorem dX11_changesOf_59 : decode cX11_changesOf 59 = .ok (.iconst 0, 1) := by decide +kernel
theorem dX11_changesOf_60 : decode cX11_changesOf 60 = .ok (.iadd, 1) := by decide +kernel
theorem dX11_changesOf_61 : decode cX11_changesOf 61 = .ok (.istore_n 2, 1) := by decide +kernel
theorem dX11_changesOf_62 : decode cX11_changesOf 62 = .ok (.iinc 3 1, 3) := by decide +kernel
theorem dX11_changesOf_65 : decode cX11_changesOf 65 = .ok (.goto (-53), 3) := by decide +kernel
theorem dX11_changesOf_68 : decode cX11_changesOf 68 = .ok (.iload_n 2, 1) := by decide +kernel
theorem dX11_changesOf_69 : decode cX11_changesOf 69 = .ok (.ireturn, 1) := by decide +kernel
theorem dX11_hand_0 : decode cX11_hand 0 = .ok (.aload_n 0, 1) := by decide +kernel
theorem dX11_hand_1 : decode cX11_hand 1 = .ok (.iconst 0, 1) := by decide +kernel
theorem dX11_hand_2 : decode cX11_hand 2 = .ok (.putfield 77, 3) := by decide +kernel
theorem dX11_hand_5 : decode cX11_hand 5 = .ok (.aload_n 0, 1) := by decide +kernel
theorem dX11_hand_6 : decode cX11_hand 6 = .ok (.iload_n 1, 1) := by decide +kernel
theorem dX11_hand_7 : decode cX11_hand 7 = .ok (.invokevirtual 341, 3) := by decide +kernel
theorem dX11_hand_10 : decode cX11_hand 10 = .ok (.ifCond .ne 5, 3) := by decide +kernel
theorem dX11_hand_13 : decode cX11_hand 13 = .ok (.iconst (-1), 1) := by decide +kernel
theorem dX11_hand_14 : decode cX11_hand 14 = .ok (.ireturn, 1) := by decide +kernel
theorem dX11_hand_15 : decode cX11_hand 15 = .ok (.iload_n 2, 1) := by decide +kernel
theorem dX11_hand_16 : decode cX11_hand 16 = .ok (.tableswitch 74 0 4 #[36, 46, 52, 58, 68], 36) := by decide +kernel
theorem dX11_hand_52 : decode cX11_hand 52 = .ok (.aload_n 0, 1) := by decide +kernel
theorem dX11_hand_53 : decode cX11_hand 53 = .ok (.sipush 170, 3) := by decide +kernel
theorem dX11_hand_56 : decode cX11_hand 56 = .ok (.iload_n 1, 1) := by decide +kernel
theorem dX11_hand_57 : decode cX11_hand 57 = .ok (.iadd, 1) := by decide +kernel
theorem dX11_hand_58 : decode cX11_hand 58 = .ok (.invokevirtual 234, 3) := by decide +kernel
theorem dX11_hand_61 : decode cX11_hand 61 = .ok (.ireturn, 1) := by decide +kernel
theorem dX11_hand_62 : decode cX11_hand 62 = .ok (.aload_n 0, 1) := by decide +kernel
theorem dX11_hand_63 : decode cX11_hand 63 = .ok (.iload_n 1, 1) := by decide +kernel
theorem dX11_hand_64 : decode cX11_hand 64 = .ok (.invokevirtual 310, 3) := by decide +kernel
theorem dX11_hand_67 : decode cX11_hand 67 = .ok (.ireturn, 1) := by decide +kernel
theorem dX11_hand_68 : decode cX11_hand 68 = .ok (.aload_n 0, 1) := by decide +kernel
theorem dX11_hand_69 : decode cX11_hand 69 = .ok (.iload_n 1, 1) := by decide +kernel
theorem dX11_hand_70 : decode cX11_hand 70 = .ok (.invokevirtual 387, 3) := by decide +kernel
theorem dX11_hand_73 : decode cX11_hand 73 = .ok (.ireturn, 1) := by decide +kernel
theorem dX11_hand_74 : decode cX11_hand 74 = .ok (.aload_n 0, 1) := by decide +kernel
theorem dX11_hand_75 : decode cX11_hand 75 = .ok (.sipush 175, 3) := by decide +kernel
theorem dX11_hand_78 : decode cX11_hand 78 = .ok (.iload_n 1, 1) := by decide +kernel
theorem dX11_hand_79 : decode cX11_hand 79 = .ok (.iadd, 1) := by decide +kernel
theorem dX11_hand_80 : decode cX11_hand 80 = .ok (.invokevirtual 234, 3) := by decide +kernel
theorem dX11_hand_83 : decode cX11_hand 83 = .ok (.ireturn, 1) := by decide +kernel
theorem dX11_hand_84 : decode cX11_hand 84 = .ok (.aload_n 0, 1) := by decide +kernel
theorem dX11_hand_85 : decode cX11_hand 85 = .ok (.iload_n 1, 1) := by decide +kernel
theorem dX11_hand_86 : decode cX11_hand 86 = .ok (.invokevirtual 390, 3) := by decide +kernel
theorem dX11_hand_89 : decode cX11_hand 89 = .ok (.ireturn, 1) := by decide +kernel
theorem dX11_hand_90 : decode cX11_hand 90 = .ok (.iconst (-1), 1) := by decide +kernel
theorem dX11_hand_91 : decode cX11_hand 91 = .ok (.ireturn, 1) := by decide +kernel
theorem dX11_held_0 : decode cX11_held 0 = .ok (.aload_n 0, 1) := by decide +kernel
theorem dX11_held_1 : decode cX11_held 1 = .ok (.iconst 0, 1) := by decide +kernel
theorem dX11_held_2 : decode cX11_held 2 = .ok (.putfield 77, 3) := by decide +kernel
theorem dX11_held_5 : decode cX11_held 5 = .ok (.aload_n 0, 1) := by decide +kernel
theorem dX11_held_6 : decode cX11_held 6 = .ok (.iload_n 1, 1) := by decide +kernel
theorem dX11_held_7 : decode cX11_held 7 = .ok (.invokevirtual 341, 3) := by decide +kernel
theorem dX11_held_10 : decode cX11_held 10 = .ok (.ifCond .eq 7, 3) := by decide +kernel
theorem dX11_held_13 : decode cX11_held 13 = .ok (.iload_n 2, 1) := by decide +kernel
theorem dX11_held_14 : decode cX11_held 14 = .ok (.ifCond .ge 5, 3) := by decide +kernel
theorem dX11_held_17 : decode cX11_held 17 = .ok (.iconst (-1), 1) := by decide +kernel
theorem dX11_held_18 : decode cX11_held 18 = .ok (.ireturn, 1) := by decide +kernel
theorem dX11_held_19 : decode cX11_held 19 = .ok (.iconst 0, 1) := by decide +kernel
theorem dX11_held_20 : decode cX11_held 20 = .ok (.istore_n 3, 1) := by decide +kernel
theorem dX11_held_21 : decode cX11_held 21 = .ok (.iconst 0, 1) := by decide +kernel
theorem dX11_held_22 : decode cX11_held 22 = .ok (.istore 4, 2) := by decide +kernel
theorem dX11_held_24 : decode cX11_held 24 = .ok (.iload 4, 2) := by decide +kernel
theorem dX11_held_26 : decode cX11_held 26 = .ok (.aload_n 0, 1) := by decide +kernel
theorem dX11_held_27 : decode cX11_held 27 = .ok (.invokevirtual 267, 3) := by decide +kernel
theorem dX11_held_30 : decode cX11_held 30 = .ok (.if_icmp .gt 71, 3) := by decide +kernel
theorem dX11_held_33 : decode cX11_held 33 = .ok (.aload_n 0, 1) := by decide +kernel
theorem dX11_held_34 : decode cX11_held 34 = .ok (.bipush 97, 2) := by decide +kernel
theorem dX11_held_36 : decode cX11_held 36 = .ok (.iload 4, 2) := by decide +kernel
theorem dX11_held_38 : decode cX11_held 38 = .ok (.iadd, 1) := by decide +kernel
theorem dX11_held_39 : decode cX11_held 39 = .ok (.invokevirtual 234, 3) := by decide +kernel
theorem dX11_held_42 : decode cX11_held 42 = .ok (.iload_n 1, 1) := by decide +kernel
theorem dX11_held_43 : decode cX11_held 43 = .ok (.invokestatic 307, 3) := by decide +kernel
theorem dX11_held_46 : decode cX11_held 46 = .ok (.ifCond .eq 17, 3) := by decide +kernel
theorem dX11_held_49 : decode cX11_held 49 = .ok (.iload_n 3, 1) := by decide +kernel
theorem dX11_held_50 : decode cX11_held 50 = .ok (.iload_n 2, 1) := by decide +kernel
theorem dX11_held_51 : decode cX11_held 51 = .ok (.if_icmp .ne 9, 3) := by decide +kernel
theorem dX11_held_54 : decode cX11_held 54 = .ok (.bipush 10, 2) := by decide +kernel
theorem dX11_held_56 : decode cX11_held 56 = .ok (.iload 4, 2) := by decide +kernel
theorem dX11_held_58 : decode cX11_held 58 = .ok (.imul, 1) := by decide +kernel
theorem dX11_held_59 : decode cX11_held 59 = .ok (.ireturn, 1) := by decide +kernel
theorem dX11_held_60 : decode cX11_held 60 = .ok (.iinc 3 1, 3) := by decide +kernel
theorem dX11_held_63 : decode cX11_held 63 = .ok (.aload_n 0, 1) := by decide +kernel
theorem dX11_held_64 : decode cX11_held 64 = .ok (.iload_n 1, 1) := by decide +kernel
theorem dX11_held_65 : decode cX11_held 65 = .ok (.iload 4, 2) := by decide +kernel
theorem dX11_held_67 : decode cX11_held 67 = .ok (.invokevirtual 384, 3) := by decide +kernel
theorem dX11_held_70 : decode cX11_held 70 = .ok (.ifCond .le 25, 3) := by decide +kernel
theorem dX11_held_73 : decode cX11_held 73 = .ok (.iload_n 3, 1) := by decide +kernel
theorem dX11_held_74 : decode cX11_held 74 = .ok (.iload_n 2, 1) := by decide +kernel
theorem dX11_held_75 : decode cX11_held 75 = .ok (.if_icmp .ne 17, 3) := by decide +kernel
theorem dX11_held_78 : decode cX11_held 78 = .ok (.bipush 10, 2) := by decide +kernel
theorem dX11_held_80 : decode cX11_held 80 = .ok (.iload 4, 2) := by decide +kernel
theorem dX11_held_82 : decode cX11_held 82 = .ok (.imul, 1) := by decide +kernel
theorem dX11_held_83 : decode cX11_held 83 = .ok (.aload_n 0, 1) := by decide +kernel
theorem dX11_held_84 : decode cX11_held 84 = .ok (.iload_n 1, 1) := by decide +kernel
theorem dX11_held_85 : decode cX11_held 85 = .ok (.iload 4, 2) := by decide +kernel
theorem dX11_held_87 : decode cX11_held 87 = .ok (.invokevirtual 384, 3) := by decide +kernel
theorem dX11_held_90 : decode cX11_held 90 = .ok (.iadd, 1) := by decide +kernel
theorem dX11_held_91 : decode cX11_held 91 = .ok (.ireturn, 1) := by decide +kernel
theorem dX11_held_92 : decode cX11_held 92 = .ok (.iinc 3 1, 3) := by decide +kernel
theorem dX11_held_95 : decode cX11_held 95 = .ok (.iinc 4 1, 3) := by decide +kernel
theorem dX11_held_98 : decode cX11_held 98 = .ok (.goto (-74), 3) := by decide +kernel
theorem dX11_held_101 : decode cX11_held 101 = .ok (.bipush (-2), 2) := by decide +kernel
theorem dX11_held_103 : decode cX11_held 103 = .ok (.ireturn, 1) := by decide +kernel
theorem dX11_queue_0 : decode cX11_queue 0 = .ok (.aload_n 0, 1) := by decide +kernel
theorem dX11_queue_1 : decode cX11_queue 1 = .ok (.iconst 0, 1) := by decide +kernel
theorem dX11_queue_2 : decode cX11_queue 2 = .ok (.putfield 77, 3) := by decide +kernel
theorem dX11_queue_5 : decode cX11_queue 5 = .ok (.iload_n 1, 1) := by decide +kernel
theorem dX11_queue_6 : decode cX11_queue 6 = .ok (.ifCond .ge 5, 3) := by decide +kernel
theorem dX11_queue_9 : decode cX11_queue 9 = .ok (.iconst (-1), 1) := by decide +kernel
theorem dX11_queue_10 : decode cX11_queue 10 = .ok (.ireturn, 1) := by decide +kernel
theorem dX11_queue_11 : decode cX11_queue 11 = .ok (.aload_n 0, 1) := by decide +kernel
theorem dX11_queue_12 : decode cX11_queue 12 = .ok (.iload_n 1, 1) := by decide +kernel
theorem dX11_queue_13 : decode cX11_queue 13 = .ok (.invokevirtual 335, 3) := by decide +kernel
theorem dX11_queue_16 : decode cX11_queue 16 = .ok (.istore_n 2, 1) := by decide +kernel
theorem dX11_queue_17 : decode cX11_queue 17 = .ok (.iload_n 2, 1) := by decide +kernel
theorem dX11_queue_18 : decode cX11_queue 18 = .ok (.ifCond .ge 8, 3) := by decide +kernel
theorem dX11_queue_21 : decode cX11_queue 21 = .ok (.bipush (-2), 2) := by decide +kernel
theorem dX11_queue_23 : decode cX11_queue 23 = .ok (.goto 4, 3) := by decide +kernel
theorem dX11_queue_26 : decode cX11_queue 26 = .ok (.iload_n 2, 1) := by decide +kernel
theorem dX11_queue_27 : decode cX11_queue 27 = .ok (.ireturn, 1) := by decide +kernel
theorem dX11_stops_0 : decode cX11_stops 0 = .ok (.aload_n 0, 1) := by decide +kernel
theorem dX11_stops_1 : decode cX11_stops 1 = .ok (.iconst 0, 1) := by decide +kernel
theorem dX11_stops_2 : decode cX11_stops 2 = .ok (.putfield 77, 3) := by decide +kernel
theorem dX11_stops_5 : decode cX11_stops 5 = .ok (.aload_n 0, 1) := by decide +kernel
theorem dX11_stops_6 : decode cX11_stops 6 = .ok (.iload_n 1, 1) := by decide +kernel
theorem dX11_stops_7 : decode cX11_stops 7 = .ok (.invokevirtual 341, 3) := by decide +kernel
theorem dX11_stops_10 : decode cX11_stops 10 = .ok (.ifCond .eq 21, 3) := by decide +kernel
theorem dX11_stops_13 : decode cX11_stops 13 = .ok (.iload_n 2, 1) := by decide +kernel
theorem dX11_stops_14 : decode cX11_stops 14 = .ok (.iload_n 3, 1) := by decide +kernel
theorem dX11_stops_15 : decode cX11_stops 15 = .ok (.invokestatic 369, 3) := by decide +kernel
theorem dX11_stops_18 : decode cX11_stops 18 = .ok (.ifCond .eq 13, 3) := by decide +kernel
theorem dX11_stops_21 : decode cX11_stops 21 = .ok (.iload 4, 2) := by decide +kernel
theorem dX11_stops_23 : decode cX11_stops 23 = .ok (.iconst 0, 1) := by decide +kernel
theorem dX11_stops_24 : decode cX11_stops 24 = .ok (.iconst 2, 1) := by decide +kernel
theorem dX11_stops_25 : decode cX11_stops 25 = .ok (.invokestatic 122, 3) := by decide +kernel
theorem dX11_stops_28 : decode cX11_stops 28 = .ok (.ifCond .ne 5, 3) := by decide +kernel
theorem dX11_stops_31 : decode cX11_stops 31 = .ok (.iconst (-1), 1) := by decide +kernel
theorem dX11_stops_32 : decode cX11_stops 32 = .ok (.ireturn, 1) := by decide +kernel
theorem dX11_stops_33 : decode cX11_stops 33 = .ok (.iload_n 2, 1) := by decide +kernel
theorem dX11_stops_34 : decode cX11_stops 34 = .ok (.iload_n 3, 1) := by decide +kernel
theorem dX11_stops_35 : decode cX11_stops 35 = .ok (.invokestatic 177, 3) := by decide +kernel
theorem dX11_stops_38 : decode cX11_stops 38 = .ok (.istore 5, 2) := by decide +kernel
theorem dX11_stops_40 : decode cX11_stops 40 = .ok (.aload_n 0, 1) := by decide +kernel
theorem dX11_stops_41 : decode cX11_stops 41 = .ok (.iload 5, 2) := by decide +kernel
theorem dX11_stops_43 : decode cX11_stops 43 = .ok (.invokevirtual 254, 3) := by decide +kernel
theorem dX11_stops_46 : decode cX11_stops 46 = .ok (.istore 6, 2) := by decide +kernel
theorem dX11_stops_48 : decode cX11_stops 48 = .ok (.iconst 1, 1) := by decide +kernel
theorem dX11_stops_49 : decode cX11_stops 49 = .ok (.iload_n 1, 1) := by decide +kernel
theorem dX11_stops_50 : decode cX11_stops 50 = .ok (.ishl, 1) := by decide +kernel
theorem dX11_stops_51 : decode cX11_stops 51 = .ok (.iconst (-1), 1) := by decide +kernel
theorem dX11_stops_52 : decode cX11_stops 52 = .ok (.ixor, 1) := by decide +kernel
theorem dX11_stops_53 : decode cX11_stops 53 = .ok (.istore 7, 2) := by decide +kernel
theorem dX11_stops_55 : decode cX11_stops 55 = .ok (.aload_n 0, 1) := by decide +kernel
theorem dX11_stops_56 : decode cX11_stops 56 = .ok (.iload 6, 2) := by decide +kernel
theorem dX11_stops_58 : decode cX11_stops 58 = .ok (.iload 5, 2) := by decide +kernel
theorem dX11_stops_60 : decode cX11_stops 60 = .ok (.invokevirtual 287, 3) := by decide +kernel
theorem dX11_stops_63 : decode cX11_stops 63 = .ok (.ifCond .ne 26, 3) := by decide +kernel
theorem dX11_stops_66 : decode cX11_stops 66 = .ok (.iload 4, 2) := by decide +kernel
theorem dX11_stops_68 : decode cX11_stops 68 = .ok (.iconst 2, 1) := by decide +kernel
theorem dX11_stops_69 : decode cX11_stops 69 = .ok (.if_icmp .ne 18, 3) := by decide +kernel
theorem dX11_stops_72 : decode cX11_stops 72 = .ok (.aload_n 0, 1) := by decide +kernel
theorem dX11_stops_73 : decode cX11_stops 73 = .ok (.bipush 97, 2) := by decide +kernel
theorem dX11_stops_75 : decode cX11_stops 75 = .ok (.iload 6, 2) := by decide +kernel
theorem dX11_stops_77 : decode cX11_stops 77 = .ok (.iadd, 1) := by decide +kernel
theorem dX11_stops_78 : decode cX11_stops 78 = .ok (.invokevirtual 234, 3) := by decide +kernel
theorem dX11_stops_81 : decode cX11_stops 81 = .ok (.iload 7, 2) := by decide +kernel
theorem dX11_stops_83 : decode cX11_stops 83 = .ok (.iand, 1) := by decide +kernel
theorem dX11_stops_84 : decode cX11_stops 84 = .ok (.goto 4, 3) := by decide +kernel
theorem dX11_stops_87 : decode cX11_stops 87 = .ok (.iconst 0, 1) := by decide +kernel
theorem dX11_stops_88 : decode cX11_stops 88 = .ok (.ireturn, 1) := by decide +kernel
theorem dX11_stops_89 : decode cX11_stops 89 = .ok (.iload 4, 2) := by decide +kernel
theorem dX11_stops_91 : decode cX11_stops 91 = .ok (.iconst 1, 1) := by decide +kernel
theorem dX11_stops_92 : decode cX11_stops 92 = .ok (.if_icmp .ne 27, 3) := by decide +kernel
theorem dX11_stops_95 : decode cX11_stops 95 = .ok (.aload_n 0, 1) := by decide +kernel
theorem dX11_stops_96 : decode cX11_stops 96 = .ok (.bipush 122, 2) := by decide +kernel
theorem dX11_stops_98 : decode cX11_stops 98 = .ok (.iload 6, 2) := by decide +kernel
theorem dX11_stops_100 : decode cX11_stops 100 = .ok (.iadd, 1) := by decide +kernel
theorem dX11_stops_101 : decode cX11_stops 101 = .ok (.invokevirtual 234, 3) := by decide +kernel
theorem dX11_stops_104 : decode cX11_stops 104 = .ok (.aload_n 0, 1) := by decide +kernel
theorem dX11_stops_105 : decode cX11_stops 105 = .ok (.sipush 146, 3) := by decide +kernel
theorem dX11_stops_108 : decode cX11_stops 108 = .ok (.iload 6, 2) := by decide +kernel
theorem dX11_stops_110 : decode cX11_stops 110 = .ok (.iadd, 1) := by decide +kernel
theorem dX11_stops_111 : decode cX11_stops 111 = .ok (.invokevirtual 234, 3) := by decide +kernel
theorem dX11_stops_114 : decode cX11_stops 114 = .ok (.ior, 1) := by decide +kernel
theorem dX11_stops_115 : decode cX11_stops 115 = .ok (.iload 7, 2) := by decide +kernel
theorem dX11_stops_117 : decode cX11_stops 117 = .ok (.iand, 1) := by decide +kernel
theorem dX11_stops_118 : decode cX11_stops 118 = .ok (.ireturn, 1) := by decide +kernel
theorem dX11_stops_119 : decode cX11_stops 119 = .ok (.iload 4, 2) := by decide +kernel
theorem dX11_stops_121 : decode cX11_stops 121 = .ok (.iconst 2, 1) := by decide +kernel
theorem dX11_stops_122 : decode cX11_stops 122 = .ok (.if_icmp .ne 20, 3) := by decide +kernel
theorem dX11_stops_125 : decode cX11_stops 125 = .ok (.aload_n 0, 1) := by decide +kernel
theorem dX11_stops_126 : decode cX11_stops 126 = .ok (.bipush 49, 2) := by decide +kernel
theorem dX11_stops_128 : decode cX11_stops 128 = .ok (.iload 6, 2) := by decide +kernel
theorem dX11_stops_130 : decode cX11_stops 130 = .ok (.iadd, 1) := by decide +kernel
theorem dX11_stops_131 : decode cX11_stops 131 = .ok (.invokevirtual 234, 3) := by decide +kernel
theorem dX11_stops_134 : decode cX11_stops 134 = .ok (.iload_n 1, 1) := by decide +kernel
theorem dX11_stops_135 : decode cX11_stops 135 = .ok (.if_icmp .ne 7, 3) := by decide +kernel
theorem dX11_stops_138 : decode cX11_stops 138 = .ok (.iconst 0, 1) := by decide +kernel
theorem dX11_stops_139 : decode cX11_stops 139 = .ok (.goto 16, 3) := by decide +kernel
theorem dX11_stops_142 : decode cX11_stops 142 = .ok (.aload_n 0, 1) := by decide +kernel
theorem dX11_stops_143 : decode cX11_stops 143 = .ok (.sipush 146, 3) := by decide +kernel
theorem dX11_stops_146 : decode cX11_stops 146 = .ok (.iload 6, 2) := by decide +kernel
theorem dX11_stops_148 : decode cX11_stops 148 = .ok (.iadd, 1) := by decide +kernel
theorem dX11_stops_149 : decode cX11_stops 149 = .ok (.invokevirtual 234, 3) := by decide +kernel
theorem dX11_stops_152 : decode cX11_stops 152 = .ok (.iload 7, 2) := by decide +kernel
theorem dX11_stops_154 : decode cX11_stops 154 = .ok (.iand, 1) := by decide +kernel
theorem dX11_stops_155 : decode cX11_stops 155 = .ok (.ireturn, 1) := by decide +kernel
theorem dX11_ring_0 : decode cX11_ring 0 = .ok (.aload_n 0, 1) := by decide +kernel
theorem dX11_ring_1 : decode cX11_ring 1 = .ok (.iconst 0, 1) := by decide +kernel
theorem dX11_ring_2 : decode cX11_ring 2 = .ok (.putfield 77, 3) := by decide +kernel
theorem dX11_ring_5 : decode cX11_ring 5 = .ok (.aload_n 0, 1) := by decide +kernel
theorem dX11_ring_6 : decode cX11_ring 6 = .ok (.iload_n 1, 1) := by decide +kernel
theorem dX11_ring_7 : decode cX11_ring 7 = .ok (.invokevirtual 341, 3) := by decide +kernel
theorem dX11_ring_10 : decode cX11_ring 10 = .ok (.ifCond .eq 29, 3) := by decide +kernel
theorem dX11_ring_13 : decode cX11_ring 13 = .ok (.aload_n 0, 1) := by decide +kernel
theorem dX11_ring_14 : decode cX11_ring 14 = .ok (.iload_n 2, 1) := by decide +kernel
theorem dX11_ring_15 : decode cX11_ring 15 = .ok (.invokevirtual 341, 3) := by decide +kernel
theorem dX11_ring_18 : decode cX11_ring 18 = .ok (.ifCond .eq 21, 3) := by decide +kernel
theorem dX11_ring_21 : decode cX11_ring 21 = .ok (.iload_n 1, 1) := by decide +kernel
theorem dX11_ring_22 : decode cX11_ring 22 = .ok (.iload_n 2, 1) := by decide +kernel
theorem dX11_ring_23 : decode cX11_ring 23 = .ok (.if_icmp .eq 16, 3) := by decide +kernel
theorem dX11_ring_26 : decode cX11_ring 26 = .ok (.aload_n 0, 1) := by decide +kernel
theorem dX11_ring_27 : decode cX11_ring 27 = .ok (.sipush 170, 3) := by decide +kernel
theorem dX11_ring_30 : decode cX11_ring 30 = .ok (.iload_n 1, 1) := by decide +kernel
theorem dX11_ring_31 : decode cX11_ring 31 = .ok (.iadd, 1) := by decide +kernel
theorem dX11_ring_32 : decode cX11_ring 32 = .ok (.invokevirtual 234, 3) := by decide +kernel
theorem dX11_ring_35 : decode cX11_ring 35 = .ok (.iconst 1, 1) := by decide +kernel
theorem dX11_ring_36 : decode cX11_ring 36 = .ok (.if_icmp .eq 5, 3) := by decide +kernel
theorem dX11_ring_39 : decode cX11_ring 39 = .ok (.iconst (-1), 1) := by decide +kernel
theorem dX11_ring_40 : decode cX11_ring 40 = .ok (.ireturn, 1) := by decide +kernel
theorem dX11_ring_41 : decode cX11_ring 41 = .ok (.aload_n 0, 1) := by decide +kernel
theorem dX11_ring_42 : decode cX11_ring 42 = .ok (.iconst 1, 1) := by decide +kernel
theorem dX11_ring_43 : decode cX11_ring 43 = .ok (.iload_n 2, 1) := by decide +kernel
theorem dX11_ring_44 : decode cX11_ring 44 = .ok (.ishl, 1) := by decide +kernel
theorem dX11_ring_45 : decode cX11_ring 45 = .ok (.iload_n 1, 1) := by decide +kernel
theorem dX11_ring_46 : decode cX11_ring 46 = .ok (.invokevirtual 326, 3) := by decide +kernel
theorem dX11_ring_49 : decode cX11_ring 49 = .ok (.ifCond .eq 7, 3) := by decide +kernel
theorem dX11_ring_52 : decode cX11_ring 52 = .ok (.iconst 1, 1) := by decide +kernel
theorem dX11_ring_53 : decode cX11_ring 53 = .ok (.goto 4, 3) := by decide +kernel
theorem dX11_ring_56 : decode cX11_ring 56 = .ok (.iconst 0, 1) := by decide +kernel
theorem dX11_ring_57 : decode cX11_ring 57 = .ok (.ireturn, 1) := by decide +kernel
theorem dX11_free_0 : decode cX11_free 0 = .ok (.aload_n 0, 1) := by decide +kernel
theorem dX11_free_1 : decode cX11_free 1 = .ok (.iconst 0, 1) := by decide +kernel
theorem dX11_free_2 : decode cX11_free 2 = .ok (.putfield 77, 3) := by decide +kernel
theorem dX11_free_5 : decode cX11_free 5 = .ok (.iconst 0, 1) := by decide +kernel
theorem dX11_free_6 : decode cX11_free 6 = .ok (.istore_n 1, 1) := by decide +kernel
theorem dX11_free_7 : decode cX11_free 7 = .ok (.iconst 0, 1) := by decide +kernel
theorem dX11_free_8 : decode cX11_free 8 = .ok (.istore_n 2, 1) := by decide +kernel
theorem dX11_free_9 : decode cX11_free 9 = .ok (.iload_n 2, 1) := by decide +kernel
theorem dX11_free_10 : decode cX11_free 10 = .ok (.aload_n 0, 1) := by decide +kernel
theorem dX11_free_11 : decode cX11_free 11 = .ok (.invokevirtual 267, 3) := by decide +kernel
theorem dX11_free_14 : decode cX11_free 14 = .ok (.if_icmp .gt 30, 3) := by decide +kernel
theorem dX11_free_17 : decode cX11_free 17 = .ok (.iload_n 1, 1) := by decide +kernel
theorem dX11_free_18 : decode cX11_free 18 = .ok (.aload_n 0, 1) := by decide +kernel
theorem dX11_free_19 : decode cX11_free 19 = .ok (.bipush 97, 2) := by decide +kernel
theorem dX11_free_21 : decode cX11_free 21 = .ok (.iload_n 2, 1) := by decide +kernel
theorem dX11_free_22 : decode cX11_free 22 = .ok (.iadd, 1) := by decide +kernel
theorem dX11_free_23 : decode cX11_free 23 = .ok (.invokevirtual 234, 3) := by decide +kernel
theorem dX11_free_26 : decode cX11_free 26 = .ok (.ifCond .ne 9, 3) := by decide +kernel
theorem dX11_free_29 : decode cX11_free 29 = .ok (.iconst 1, 1) := by decide +kernel
theorem dX11_free_30 : decode cX11_free 30 = .ok (.iload_n 2, 1) := by decide +kernel
theorem dX11_free_31 : decode cX11_free 31 = .ok (.ishl, 1) := by decide +kernel
theorem dX11_free_32 : decode cX11_free 32 = .ok (.goto 4, 3) := by decide +kernel
theorem dX11_free_35 : decode cX11_free 35 = .ok (.iconst 0, 1) := by decide +kernel
theorem dX11_free_36 : decode cX11_free 36 = .ok (.ior, 1) := by decide +kernel
theorem dX11_free_37 : decode cX11_free 37 = .ok (.istore_n 1, 1) := by decide +kernel
theorem dX11_free_38 : decode cX11_free 38 = .ok (.iinc 2 1, 3) := by decide +kernel
theorem dX11_free_41 : decode cX11_free 41 = .ok (.goto (-32), 3) := by decide +kernel
theorem dX11_free_44 : decode cX11_free 44 = .ok (.iload_n 1, 1) := by decide +kernel
theorem dX11_free_45 : decode cX11_free 45 = .ok (.ireturn, 1) := by decide +kernel
theorem dX11_range_0 : decode cX11_range 0 = .ok (.aload_n 0, 1) := by decide +kernel
theorem dX11_range_1 : decode cX11_range 1 = .ok (.iconst 0, 1) := by decide +kernel
theorem dX11_range_2 : decode cX11_range 2 = .ok (.putfield 77, 3) := by decide +kernel
theorem dX11_range_5 : decode cX11_range 5 = .ok (.iload_n 1, 1) := by decide +kernel
theorem dX11_range_6 : decode cX11_range 6 = .ok (.invokestatic 393, 3) := by decide +kernel
theorem dX11_range_9 : decode cX11_range 9 = .ok (.istore 4, 2) := by decide +kernel
theorem dX11_range_11 : decode cX11_range 11 = .ok (.iload_n 2, 1) := by decide +kernel
theorem dX11_range_12 : decode cX11_range 12 = .ok (.invokestatic 393, 3) := by decide +kernel
theorem dX11_range_15 : decode cX11_range 15 = .ok (.istore 5, 2) := by decide +kernel
theorem dX11_range_17 : decode cX11_range 17 = .ok (.iload 4, 2) := by decide +kernel
theorem dX11_range_19 : decode cX11_range 19 = .ok (.ifCond .lt 19, 3) := by decide +kernel
theorem dX11_range_22 : decode cX11_range 22 = .ok (.iload 5, 2) := by decide +kernel
theorem dX11_range_24 : decode cX11_range 24 = .ok (.iload 4, 2) := by decide +kernel
theorem dX11_range_26 : decode cX11_range 26 = .ok (.if_icmp .lt 12, 3) := by decide +kernel
theorem dX11_range_29 : decode cX11_range 29 = .ok (.iload_n 3, 1) := by decide +kernel
theorem dX11_range_30 : decode cX11_range 30 = .ok (.iconst 0, 1) := by decide +kernel
theorem dX11_range_31 : decode cX11_range 31 = .ok (.iconst 2, 1) := by decide +kernel
theorem dX11_range_32 : decode cX11_range 32 = .ok (.invokestatic 122, 3) := by decide +kernel
theorem dX11_range_35 : decode cX11_range 35 = .ok (.ifCond .ne 5, 3) := by decide +kernel
theorem dX11_range_38 : decode cX11_range 38 = .ok (.iconst (-1), 1) := by decide +kernel
theorem dX11_range_39 : decode cX11_range 39 = .ok (.ireturn, 1) := by decide +kernel
theorem dX11_range_40 : decode cX11_range 40 = .ok (.iconst 0, 1) := by decide +kernel
theorem dX11_range_41 : decode cX11_range 41 = .ok (.istore 6, 2) := by decide +kernel
theorem dX11_range_43 : decode cX11_range 43 = .ok (.aload_n 0, 1) := by decide +kernel
theorem dX11_range_44 : decode cX11_range 44 = .ok (.iload 4, 2) := by decide +kernel
theorem dX11_range_46 : decode cX11_range 46 = .ok (.invokevirtual 254, 3) := by decide +kernel
theorem dX11_range_49 : decode cX11_range 49 = .ok (.istore 7, 2) := by decide +kernel
theorem dX11_range_51 : decode cX11_range 51 = .ok (.iload 7, 2) := by decide +kernel
theorem dX11_range_53 : decode cX11_range 53 = .ok (.aload_n 0, 1) := by decide +kernel
theorem dX11_range_54 : decode cX11_range 54 = .ok (.iload 5, 2) := by decide +kernel
theorem dX11_range_56 : decode cX11_range 56 = .ok (.iconst 1, 1) := by decide +kernel
theorem dX11_range_57 : decode cX11_range 57 = .ok (.iadd, 1) := by decide +kernel
theorem dX11_range_58 : decode cX11_range 58 = .ok (.invokevirtual 254, 3) := by decide +kernel
theorem dX11_range_61 : decode cX11_range 61 = .ok (.if_icmp .ge 56, 3) := by decide +kernel
theorem dX11_range_64 : decode cX11_range 64 = .ok (.iload 6, 2) := by decide +kernel
theorem dX11_range_66 : decode cX11_range 66 = .ok (.iload_n 3, 1) := by decide +kernel
theorem dX11_range_67 : decode cX11_range 67 = .ok (.ifCond .ne 7, 3) := by decide +kernel
theorem dX11_range_70 : decode cX11_range 70 = .ok (.iconst 1, 1) := by decide +kernel
theorem dX11_range_71 : decode cX11_range 71 = .ok (.goto 37, 3) := by decide +kernel
theorem dX11_range_74 : decode cX11_range 74 = .ok (.iload_n 3, 1) := by decide +kernel
theorem dX11_range_75 : decode cX11_range 75 = .ok (.iconst 1, 1) := by decide +kernel
theorem dX11_range_76 : decode cX11_range 76 = .ok (.if_icmp .ne 15, 3) := by decide +kernel
theorem dX11_range_79 : decode cX11_range 79 = .ok (.aload_n 0, 1) := by decide +kernel
theorem dX11_range_80 : decode cX11_range 80 = .ok (.bipush 25, 2) := by decide +kernel
theorem dX11_range_82 : decode cX11_range 82 = .ok (.iload 7, 2) := by decide +kernel
theorem dX11_range_84 : decode cX11_range 84 = .ok (.iadd, 1) := by decide +kernel
theorem dX11_range_85 : decode cX11_range 85 = .ok (.invokevirtual 234, 3) := by decide +kernel
theorem dX11_range_88 : decode cX11_range 88 = .ok (.goto 20, 3) := by decide +kernel
theorem dX11_range_91 : decode cX11_range 91 = .ok (.aload_n 0, 1) := by decide +kernel
theorem dX11_range_92 : decode cX11_range 92 = .ok (.bipush 49, 2) := by decide +kernel
theorem dX11_range_94 : decode cX11_range 94 = .ok (.iload 7, 2) := by decide +kernel
theorem dX11_range_96 : decode cX11_range 96 = .ok (.iadd, 1) := by decide +kernel
theorem dX11_range_97 : decode cX11_range 97 = .ok (.invokevirtual 234, 3) := by decide +kernel
theorem dX11_range_100 : decode cX11_range 100 = .ok (.ifCond .ge 7, 3) := by decide +kernel
theorem dX11_range_103 : decode cX11_range 103 = .ok (.iconst 0, 1) := by decide +kernel
theorem dX11_range_104 : decode cX11_range 104 = .ok (.goto 4, 3) := by decide +kernel
theorem dX11_range_107 : decode cX11_range 107 = .ok (.iconst 1, 1) := by decide +kernel
theorem dX11_range_108 : decode cX11_range 108 = .ok (.iadd, 1) := by decide +kernel
theorem dX11_range_109 : decode cX11_range 109 = .ok (.istore 6, 2) := by decide +kernel
theorem dX11_range_111 : decode cX11_range 111 = .ok (.iinc 7 1, 3) := by decide +kernel
theorem dX11_range_114 : decode cX11_range 114 = .ok (.goto (-63), 3) := by decide +kernel
theorem dX11_range_117 : decode cX11_range 117 = .ok (.iload 6, 2) := by decide +kernel
theorem dX11_range_119 : decode cX11_range 119 = .ok (.ireturn, 1) := by decide +kernel
theorem dX11_phantoms_0 : decode cX11_phantoms 0 = .ok (.aload_n 0, 1) := by decide +kernel
theorem dX11_phantoms_1 : decode cX11_phantoms 1 = .ok (.iconst 0, 1) := by decide +kernel
theorem dX11_phantoms_2 : decode cX11_phantoms 2 = .ok (.putfield 77, 3) := by decide +kernel
theorem dX11_phantoms_5 : decode cX11_phantoms 5 = .ok (.iload_n 2, 1) := by decide +kernel
theorem dX11_phantoms_6 : decode cX11_phantoms 6 = .ok (.invokestatic 393, 3) := by decide +kernel
theorem dX11_phantoms_9 : decode cX11_phantoms 9 = .ok (.istore 4, 2) := by decide +kernel
theorem dX11_phantoms_11 : decode cX11_phantoms 11 = .ok (.iload_n 3, 1) := by decide +kernel
theorem dX11_phantoms_12 : decode cX11_phantoms 12 = .ok (.invokestatic 393, 3) := by decide +kernel
theorem dX11_phantoms_15 : decode cX11_phantoms 15 = .ok (.istore 5, 2) := by decide +kernel
theorem dX11_phantoms_17 : decode cX11_phantoms 17 = .ok (.aload_n 0, 1) := by decide +kernel
theorem dX11_phantoms_18 : decode cX11_phantoms 18 = .ok (.iload_n 1, 1) := by decide +kernel
theorem dX11_phantoms_19 : decode cX11_phantoms 19 = .ok (.invokevirtual 341, 3) := by decide +kernel
theorem dX11_phantoms_22 : decode cX11_phantoms 22 = .ok (.ifCond .eq 15, 3) := by decide +kernel
theorem dX11_phantoms_25 : decode cX11_phantoms 25 = .ok (.iload 4, 2) := by decide +kernel
theorem dX11_phantoms_27 : decode cX11_phantoms 27 = .ok (.ifCond .lt 10, 3) := by decide +kernel
theorem dX11_phantoms_30 : decode cX11_phantoms 30 = .ok (.iload 5, 2) := by decide +kernel
theorem dX11_phantoms_32 : decode cX11_phantoms 32 = .ok (.iload 4, 2) := by decide +kernel
theorem dX11_phantoms_34 : decode cX11_phantoms 34 = .ok (.if_icmp .ge 5, 3) := by decide +kernel
theorem dX11_phantoms_37 : decode cX11_phantoms 37 = .ok (.iconst (-1), 1) := by decide +kernel
theorem dX11_phantoms_38 : decode cX11_phantoms 38 = .ok (.ireturn, 1) := by decide +kernel
theorem dX11_phantoms_39 : decode cX11_phantoms 39 = .ok (.iconst 0, 1) := by decide +kernel
theorem dX11_phantoms_40 : decode cX11_phantoms 40 = .ok (.istore 6, 2) := by decide +kernel
theorem dX11_phantoms_42 : decode cX11_phantoms 42 = .ok (.iconst 0, 1) := by decide +kernel
theorem dX11_phantoms_43 : decode cX11_phantoms 43 = .ok (.istore 7, 2) := by decide +kernel
theorem dX11_phantoms_45 : decode cX11_phantoms 45 = .ok (.iload 7, 2) := by decide +kernel
theorem dX11_phantoms_47 : decode cX11_phantoms 47 = .ok (.aload_n 0, 1) := by decide +kernel
theorem dX11_phantoms_48 : decode cX11_phantoms 48 = .ok (.getfield 189, 3) := by decide +kernel
theorem dX11_phantoms_51 : decode cX11_phantoms 51 = .ok (.if_icmp .ge 88, 3) := by decide +kernel
theorem dX11_phantoms_54 : decode cX11_phantoms 54 = .ok (.aload_n 0, 1) := by decide +kernel
theorem dX11_phantoms_55 : decode cX11_phantoms 55 = .ok (.iload 4, 2) := by decide +kernel
theorem dX11_phantoms_57 : decode cX11_phantoms 57 = .ok (.invokevirtual 254, 3) := by decide +kernel
theorem dX11_phantoms_60 : decode cX11_phantoms 60 = .ok (.istore 8, 2) := by decide +kernel
theorem dX11_phantoms_62 : decode cX11_phantoms 62 = .ok (.iload 8, 2) := by decide +kernel
theorem dX11_phantoms_64 : decode cX11_phantoms 64 = .ok (.aload_n 0, 1) := by decide +kernel
theorem dX11_phantoms_65 : decode cX11_phantoms 65 = .ok (.iload 5, 2) := by decide +kernel
theorem dX11_phantoms_67 : decode cX11_phantoms 67 = .ok (.iconst 1, 1) := by decide +kernel
theorem dX11_phantoms_68 : decode cX11_phantoms 68 = .ok (.iadd, 1) := by decide +kernel
theorem dX11_phantoms_69 : decode cX11_phantoms 69 = .ok (.invokevirtual 254, 3) := by decide +kernel
theorem dX11_phantoms_72 : decode cX11_phantoms 72 = .ok (.if_icmp .gt 61, 3) := by decide +kernel
theorem dX11_phantoms_75 : decode cX11_phantoms 75 = .ok (.iload 6, 2) := by decide +kernel
theorem dX11_phantoms_77 : decode cX11_phantoms 77 = .ok (.iload 7, 2) := by decide +kernel
theorem dX11_phantoms_79 : decode cX11_phantoms 79 = .ok (.iload_n 1, 1) := by decide +kernel
theorem dX11_phantoms_80 : decode cX11_phantoms 80 = .ok (.if_icmp .eq 43, 3) := by decide +kernel
theorem dX11_phantoms_83 : decode cX11_phantoms 83 = .ok (.aload_n 0, 1) := by decide +kernel
theorem dX11_phantoms_84 : decode cX11_phantoms 84 = .ok (.sipush 170, 3) := by decide +kernel
theorem dX11_phantoms_87 : decode cX11_phantoms 87 = .ok (.iload 7, 2) := by decide +kernel
theorem dX11_phantoms_89 : decode cX11_phantoms 89 = .ok (.iadd, 1) := by decide +kernel
theorem dX11_phantoms_90 : decode cX11_phantoms 90 = .ok (.invokevirtual 234, 3) := by decide +kernel
theorem dX11_phantoms_93 : decode cX11_phantoms 93 = .ok (.iconst 1, 1) := by decide +kernel
theorem dX11_phantoms_94 : decode cX11_phantoms 94 = .ok (.if_icmp .ne 29, 3) := by decide +kernel
theorem dX11_phantoms_97 : decode cX11_phantoms 97 = .ok (.aload_n 0, 1) := by decide +kernel
theorem dX11_phantoms_98 : decode cX11_phantoms 98 = .ok (.bipush 97, 2) := by decide +kernel
theorem dX11_phantoms_100 : decode cX11_phantoms 100 = .ok (.iload 8, 2) := by decide +kernel
theorem dX11_phantoms_102 : decode cX11_phantoms 102 = .ok (.iadd, 1) := by decide +kernel
theorem dX11_phantoms_103 : decode cX11_phantoms 103 = .ok (.invokevirtual 234, 3) := by decide +kernel
theorem dX11_phantoms_106 : decode cX11_phantoms 106 = .ok (.iconst 1, 1) := by decide +kernel
theorem dX11_phantoms_107 : decode cX11_phantoms 107 = .ok (.iload 7, 2) := by decide +kernel
theorem dX11_phantoms_109 : decode cX11_phantoms 109 = .ok (.ishl, 1) := by decide +kernel
theorem dX11_phantoms_110 : decode cX11_phantoms 110 = .ok (.iconst (-1), 1) := by decide +kernel
theorem dX11_phantoms_111 : decode cX11_phantoms 111 = .ok (.ixor, 1) := by decide +kernel
theorem dX11_phantoms_112 : decode cX11_phantoms 112 = .ok (.iand, 1) := by decide +kernel
theorem dX11_phantoms_113 : decode cX11_phantoms 113 = .ok (.ifCond .ne 10, 3) := by decide +kernel
theorem dX11_phantoms_116 : decode cX11_phantoms 116 = .ok (.iconst 1, 1) := by decide +kernel
theorem dX11_phantoms_117 : decode cX11_phantoms 117 = .ok (.iload 7, 2) := by decide +kernel
theorem dX11_phantoms_119 : decode cX11_phantoms 119 = .ok (.ishl, 1) := by decide +kernel
theorem dX11_phantoms_120 : decode cX11_phantoms 120 = .ok (.goto 4, 3) := by decide +kernel
theorem dX11_phantoms_123 : decode cX11_phantoms 123 = .ok (.iconst 0, 1) := by decide +kernel
theorem dX11_phantoms_124 : decode cX11_phantoms 124 = .ok (.ior, 1) := by decide +kernel
theorem dX11_phantoms_125 : decode cX11_phantoms 125 = .ok (.istore 6, 2) := by decide +kernel
theorem dX11_phantoms_127 : decode cX11_phantoms 127 = .ok (.iinc 8 1, 3) := by decide +kernel
theorem dX11_phantoms_130 : decode cX11_phantoms 130 = .ok (.goto (-68), 3) := by decide +kernel
theorem dX11_phantoms_133 : decode cX11_phantoms 133 = .ok (.iinc 7 1, 3) := by decide +kernel
theorem dX11_phantoms_136 : decode cX11_phantoms 136 = .ok (.goto (-91), 3) := by decide +kernel
theorem dX11_phantoms_139 : decode cX11_phantoms 139 = .ok (.iload 6, 2) := by decide +kernel
theorem dX11_phantoms_141 : decode cX11_phantoms 141 = .ok (.ireturn, 1) := by decide +kernel
theorem dX11_open_0 : decode cX11_open 0 = .ok (.aload_n 0, 1) := by decide +kernel
theorem dX11_open_1 : decode cX11_open 1 = .ok (.iconst 0, 1) := by decide +kernel
theorem dX11_open_2 : decode cX11_open 2 = .ok (.putfield 77, 3) := by decide +kernel
theorem dX11_open_5 : decode cX11_open 5 = .ok (.aload_n 0, 1) := by decide +kernel
theorem dX11_open_6 : decode cX11_open 6 = .ok (.iload_n 1, 1) := by decide +kernel
theorem dX11_open_7 : decode cX11_open 7 = .ok (.invokevirtual 347, 3) := by decide +kernel
theorem dX11_open_10 : decode cX11_open 10 = .ok (.ireturn, 1) := by decide +kernel
theorem dX11_scan_0 : decode cX11_scan 0 = .ok (.aload_n 0, 1) := by decide +kernel
theorem dX11_scan_1 : decode cX11_scan 1 = .ok (.iconst 0, 1) := by decide +kernel
theorem dX11_scan_2 : decode cX11_scan 2 = .ok (.putfield 77, 3) := by decide +kernel
theorem dX11_scan_5 : decode cX11_scan 5 = .ok (.iload_n 2, 1) := by decide +kernel
theorem dX11_scan_6 : decode cX11_scan 6 = .ok (.invokestatic 393, 3) := by decide +kernel
theorem dX11_scan_9 : decode cX11_scan 9 = .ok (.istore 4, 2) := by decide +kernel
theorem dX11_scan_11 : decode cX11_scan 11 = .ok (.iload_n 3, 1) := by decide +kernel
theorem dX11_scan_12 : decode cX11_scan 12 = .ok (.invokestatic 393, 3) := by decide +kernel
theorem dX11_scan_15 : decode cX11_scan 15 = .ok (.istore 5, 2) := by decide +kernel
theorem dX11_scan_17 : decode cX11_scan 17 = .ok (.iload 4, 2) := by decide +kernel
theorem dX11_scan_19 : decode cX11_scan 19 = .ok (.ifCond .lt 10, 3) := by decide +kernel
theorem dX11_scan_22 : decode cX11_scan 22 = .ok (.iload 5, 2) := by decide +kernel
theorem dX11_scan_24 : decode cX11_scan 24 = .ok (.iload 4, 2) := by decide +kernel
theorem dX11_scan_26 : decode cX11_scan 26 = .ok (.if_icmp .ge 7, 3) := by decide +kernel
theorem dX11_scan_29 : decode cX11_scan 29 = .ok (.iconst (-1), 1) := by decide +kernel
theorem dX11_scan_30 : decode cX11_scan 30 = .ok (.goto 14, 3) := by decide +kernel
theorem dX11_scan_33 : decode cX11_scan 33 = .ok (.aload_n 0, 1) := by decide +kernel
theorem dX11_scan_34 : decode cX11_scan 34 = .ok (.iload_n 1, 1) := by decide +kernel
theorem dX11_scan_35 : decode cX11_scan 35 = .ok (.iconst 3, 1) := by decide +kernel
theorem dX11_scan_36 : decode cX11_scan 36 = .ok (.iload 4, 2) := by decide +kernel
theorem dX11_scan_38 : decode cX11_scan 38 = .ok (.iload 5, 2) := by decide +kernel
theorem dX11_scan_40 : decode cX11_scan 40 = .ok (.iconst 0, 1) := by decide +kernel
theorem dX11_scan_41 : decode cX11_scan 41 = .ok (.invokevirtual 356, 3) := by decide +kernel
theorem dX11_scan_44 : decode cX11_scan 44 = .ok (.ireturn, 1) := by decide +kernel
theorem dX11_seek_0 : decode cX11_seek 0 = .ok (.aload_n 0, 1) := by decide +kernel
theorem dX11_seek_1 : decode cX11_seek 1 = .ok (.iconst 0, 1) := by decide +kernel
theorem dX11_seek_2 : decode cX11_seek 2 = .ok (.putfield 77, 3) := by decide +kernel
theorem dX11_seek_5 : decode cX11_seek 5 = .ok (.iload_n 2, 1) := by decide +kernel
theorem dX11_seek_6 : decode cX11_seek 6 = .ok (.iload_n 3, 1) := by decide +kernel
theorem dX11_seek_7 : decode cX11_seek 7 = .ok (.invokestatic 369, 3) := by decide +kernel
theorem dX11_seek_10 : decode cX11_seek 10 = .ok (.ifCond .eq 19, 3) := by decide +kernel
theorem dX11_seek_13 : decode cX11_seek 13 = .ok (.aload_n 0, 1) := by decide +kernel
theorem dX11_seek_14 : decode cX11_seek 14 = .ok (.iload_n 1, 1) := by decide +kernel
theorem dX11_seek_15 : decode cX11_seek 15 = .ok (.iconst 4, 1) := by decide +kernel
theorem dX11_seek_16 : decode cX11_seek 16 = .ok (.iload_n 2, 1) := by decide +kernel
theorem dX11_seek_17 : decode cX11_seek 17 = .ok (.iload_n 3, 1) := by decide +kernel
theorem dX11_seek_18 : decode cX11_seek 18 = .ok (.invokestatic 177, 3) := by decide +kernel
theorem dX11_seek_21 : decode cX11_seek 21 = .ok (.iconst 0, 1) := by decide +kernel
theorem dX11_seek_22 : decode cX11_seek 22 = .ok (.iconst 0, 1) := by decide +kernel
theorem dX11_seek_23 : decode cX11_seek 23 = .ok (.invokevirtual 356, 3) := by decide +kernel
theorem dX11_seek_26 : decode cX11_seek 26 = .ok (.goto 4, 3) := by decide +kernel
theorem dX11_seek_29 : decode cX11_seek 29 = .ok (.iconst (-1), 1) := by decide +kernel
theorem dX11_seek_30 : decode cX11_seek 30 = .ok (.ireturn, 1) := by decide +kernel
theorem dX11_grab_0 : decode cX11_grab 0 = .ok (.aload_n 0, 1) := by decide +kernel
theorem dX11_grab_1 : decode cX11_grab 1 = .ok (.iconst 0, 1) := by decide +kernel
theorem dX11_grab_2 : decode cX11_grab 2 = .ok (.putfield 77, 3) := by decide +kernel
theorem dX11_grab_5 : decode cX11_grab 5 = .ok (.iload_n 2, 1) := by decide +kernel
theorem dX11_grab_6 : decode cX11_grab 6 = .ok (.iload_n 3, 1) := by decide +kernel
theorem dX11_grab_7 : decode cX11_grab 7 = .ok (.invokestatic 369, 3) := by decide +kernel
theorem dX11_grab_10 : decode cX11_grab 10 = .ok (.ifCond .eq 19, 3) := by decide +kernel
theorem dX11_grab_13 : decode cX11_grab 13 = .ok (.aload_n 0, 1) := by decide +kernel
theorem dX11_grab_14 : decode cX11_grab 14 = .ok (.iload_n 1, 1) := by decide +kernel
theorem dX11_grab_15 : decode cX11_grab 15 = .ok (.iconst 5, 1) := by decide +kernel
theorem dX11_grab_16 : decode cX11_grab 16 = .ok (.iload_n 2, 1) := by decide +kernel
