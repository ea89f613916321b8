theorem dX11_grab_17 : decode cX11_grab 17 = .ok (.iload_n 3, 1) := by decide +kernel
theorem dX11_grab_18 : decode cX11_grab 18 = .ok (.invokestatic 177, 3) := by decide +kernel
theorem dX11_grab_21 : decode cX11_grab 21 = .ok (.iconst 0, 1) := by decide +kernel
theorem dX11_grab_22 : decode cX11_grab 22 = .ok (.iconst 0, 1) := by decide +kernel
theorem dX11_grab_23 : decode cX11_grab 23 = .ok (.invokevirtual 356, 3) := by decide +kernel
theorem dX11_grab_26 : decode cX11_grab 26 = .ok (.goto 4, 3) := by decide +kernel
theorem dX11_grab_29 : decode cX11_grab 29 = .ok (.iconst (-1), 1) := by decide +kernel
theorem dX11_grab_30 : decode cX11_grab 30 = .ok (.ireturn, 1) := by decide +kernel
theorem dX11_set_0 : decode cX11_set 0 = .ok (.aload_n 0, 1) := by decide +kernel
theorem dX11_set_1 : decode cX11_set 1 = .ok (.iconst 0, 1) := by decide +kernel
theorem dX11_set_2 : decode cX11_set 2 = .ok (.putfield 77, 3) := by decide +kernel
theorem dX11_set_5 : decode cX11_set 5 = .ok (.iload_n 2, 1) := by decide +kernel
theorem dX11_set_6 : decode cX11_set 6 = .ok (.iload_n 3, 1) := by decide +kernel
theorem dX11_set_7 : decode cX11_set 7 = .ok (.invokestatic 369, 3) := by decide +kernel
theorem dX11_set_10 : decode cX11_set 10 = .ok (.ifCond .eq 33, 3) := by decide +kernel
theorem dX11_set_13 : decode cX11_set 13 = .ok (.iload 4, 2) := by decide +kernel
theorem dX11_set_15 : decode cX11_set 15 = .ok (.iconst 0, 1) := by decide +kernel
theorem dX11_set_16 : decode cX11_set 16 = .ok (.sipush 9999, 3) := by decide +kernel
theorem dX11_set_19 : decode cX11_set 19 = .ok (.invokestatic 122, 3) := by decide +kernel
theorem dX11_set_22 : decode cX11_set 22 = .ok (.ifCond .eq 21, 3) := by decide +kernel
theorem dX11_set_25 : decode cX11_set 25 = .ok (.aload_n 0, 1) := by decide +kernel
theorem dX11_set_26 : decode cX11_set 26 = .ok (.iload_n 1, 1) := by decide +kernel
theorem dX11_set_27 : decode cX11_set 27 = .ok (.bipush 6, 2) := by decide +kernel
theorem dX11_set_29 : decode cX11_set 29 = .ok (.iload_n 2, 1) := by decide +kernel
theorem dX11_set_30 : decode cX11_set 30 = .ok (.iload_n 3, 1) := by decide +kernel
theorem dX11_set_31 : decode cX11_set 31 = .ok (.invokestatic 177, 3) := by decide +kernel
theorem dX11_set_34 : decode cX11_set 34 = .ok (.iconst 0, 1) := by decide +kernel
theorem dX11_set_35 : decode cX11_set 35 = .ok (.iload 4, 2) := by decide +kernel
theorem dX11_set_37 : decode cX11_set 37 = .ok (.invokevirtual 356, 3) := by decide +kernel
theorem dX11_set_40 : decode cX11_set 40 = .ok (.goto 4, 3) := by decide +kernel
theorem dX11_set_43 : decode cX11_set 43 = .ok (.iconst (-1), 1) := by decide +kernel
theorem dX11_set_44 : decode cX11_set 44 = .ok (.ireturn, 1) := by decide +kernel
theorem dX11_put_0 : decode cX11_put 0 = .ok (.aload_n 0, 1) := by decide +kernel
theorem dX11_put_1 : decode cX11_put 1 = .ok (.iconst 0, 1) := by decide +kernel
theorem dX11_put_2 : decode cX11_put 2 = .ok (.putfield 77, 3) := by decide +kernel
theorem dX11_put_5 : decode cX11_put 5 = .ok (.iload_n 2, 1) := by decide +kernel
theorem dX11_put_6 : decode cX11_put 6 = .ok (.iload_n 3, 1) := by decide +kernel
theorem dX11_put_7 : decode cX11_put 7 = .ok (.invokestatic 369, 3) := by decide +kernel
theorem dX11_put_10 : decode cX11_put 10 = .ok (.ifCond .eq 33, 3) := by decide +kernel
theorem dX11_put_13 : decode cX11_put 13 = .ok (.iload 4, 2) := by decide +kernel
theorem dX11_put_15 : decode cX11_put 15 = .ok (.iconst 0, 1) := by decide +kernel
theorem dX11_put_16 : decode cX11_put 16 = .ok (.sipush 9999, 3) := by decide +kernel
theorem dX11_put_19 : decode cX11_put 19 = .ok (.invokestatic 122, 3) := by decide +kernel
theorem dX11_put_22 : decode cX11_put 22 = .ok (.ifCond .eq 21, 3) := by decide +kernel
theorem dX11_put_25 : decode cX11_put 25 = .ok (.aload_n 0, 1) := by decide +kernel
theorem dX11_put_26 : decode cX11_put 26 = .ok (.iload_n 1, 1) := by decide +kernel
theorem dX11_put_27 : decode cX11_put 27 = .ok (.bipush 7, 2) := by decide +kernel
theorem dX11_put_29 : decode cX11_put 29 = .ok (.iload_n 2, 1) := by decide +kernel
theorem dX11_put_30 : decode cX11_put 30 = .ok (.iload_n 3, 1) := by decide +kernel
theorem dX11_put_31 : decode cX11_put 31 = .ok (.invokestatic 177, 3) := by decide +kernel
theorem dX11_put_34 : decode cX11_put 34 = .ok (.iconst 0, 1) := by decide +kernel
theorem dX11_put_35 : decode cX11_put 35 = .ok (.iload 4, 2) := by decide +kernel
theorem dX11_put_37 : decode cX11_put 37 = .ok (.invokevirtual 356, 3) := by decide +kernel
theorem dX11_put_40 : decode cX11_put 40 = .ok (.goto 4, 3) := by decide +kernel
theorem dX11_put_43 : decode cX11_put 43 = .ok (.iconst (-1), 1) := by decide +kernel
theorem dX11_put_44 : decode cX11_put 44 = .ok (.ireturn, 1) := by decide +kernel
theorem dX11_putNext_0 : decode cX11_putNext 0 = .ok (.aload_n 0, 1) := by decide +kernel
theorem dX11_putNext_1 : decode cX11_putNext 1 = .ok (.iconst 0, 1) := by decide +kernel
theorem dX11_putNext_2 : decode cX11_putNext 2 = .ok (.putfield 77, 3) := by decide +kernel
theorem dX11_putNext_5 : decode cX11_putNext 5 = .ok (.iload_n 2, 1) := by decide +kernel
theorem dX11_putNext_6 : decode cX11_putNext 6 = .ok (.ifCond .lt 22, 3) := by decide +kernel
theorem dX11_putNext_9 : decode cX11_putNext 9 = .ok (.iload_n 2, 1) := by decide +kernel
theorem dX11_putNext_10 : decode cX11_putNext 10 = .ok (.aload_n 0, 1) := by decide +kernel
theorem dX11_putNext_11 : decode cX11_putNext 11 = .ok (.invokevirtual 267, 3) := by decide +kernel
theorem dX11_putNext_14 : decode cX11_putNext 14 = .ok (.if_icmp .ge 14, 3) := by decide +kernel
theorem dX11_putNext_17 : decode cX11_putNext 17 = .ok (.iload_n 3, 1) := by decide +kernel
theorem dX11_putNext_18 : decode cX11_putNext 18 = .ok (.iconst 0, 1) := by decide +kernel
theorem dX11_putNext_19 : decode cX11_putNext 19 = .ok (.sipush 9999, 3) := by decide +kernel
theorem dX11_putNext_22 : decode cX11_putNext 22 = .ok (.invokestatic 122, 3) := by decide +kernel
theorem dX11_putNext_25 : decode cX11_putNext 25 = .ok (.ifCond .ne 5, 3) := by decide +kernel
theorem dX11_putNext_28 : decode cX11_putNext 28 = .ok (.iconst (-1), 1) := by decide +kernel
theorem dX11_putNext_29 : decode cX11_putNext 29 = .ok (.ireturn, 1) := by decide +kernel
theorem dX11_putNext_30 : decode cX11_putNext 30 = .ok (.aload_n 0, 1) := by decide +kernel
theorem dX11_putNext_31 : decode cX11_putNext 31 = .ok (.iload_n 1, 1) := by decide +kernel
theorem dX11_putNext_32 : decode cX11_putNext 32 = .ok (.bipush 7, 2) := by decide +kernel
theorem dX11_putNext_34 : decode cX11_putNext 34 = .ok (.aload_n 0, 1) := by decide +kernel
theorem dX11_putNext_35 : decode cX11_putNext 35 = .ok (.iconst 1, 1) := by decide +kernel
theorem dX11_putNext_36 : decode cX11_putNext 36 = .ok (.iload_n 2, 1) := by decide +kernel
theorem dX11_putNext_37 : decode cX11_putNext 37 = .ok (.iadd, 1) := by decide +kernel
theorem dX11_putNext_38 : decode cX11_putNext 38 = .ok (.invokevirtual 234, 3) := by decide +kernel
theorem dX11_putNext_41 : decode cX11_putNext 41 = .ok (.iconst 1, 1) := by decide +kernel
theorem dX11_putNext_42 : decode cX11_putNext 42 = .ok (.iadd, 1) := by decide +kernel
theorem dX11_putNext_43 : decode cX11_putNext 43 = .ok (.iconst 0, 1) := by decide +kernel
theorem dX11_putNext_44 : decode cX11_putNext 44 = .ok (.iload_n 3, 1) := by decide +kernel
theorem dX11_putNext_45 : decode cX11_putNext 45 = .ok (.invokevirtual 356, 3) := by decide +kernel
theorem dX11_putNext_48 : decode cX11_putNext 48 = .ok (.ireturn, 1) := by decide +kernel
theorem dX11_cut_0 : decode cX11_cut 0 = .ok (.aload_n 0, 1) := by decide +kernel
theorem dX11_cut_1 : decode cX11_cut 1 = .ok (.iconst 0, 1) := by decide +kernel
theorem dX11_cut_2 : decode cX11_cut 2 = .ok (.putfield 77, 3) := by decide +kernel
theorem dX11_cut_5 : decode cX11_cut 5 = .ok (.iload_n 2, 1) := by decide +kernel
theorem dX11_cut_6 : decode cX11_cut 6 = .ok (.iload_n 3, 1) := by decide +kernel
theorem dX11_cut_7 : decode cX11_cut 7 = .ok (.invokestatic 369, 3) := by decide +kernel
theorem dX11_cut_10 : decode cX11_cut 10 = .ok (.ifCond .eq 20, 3) := by decide +kernel
theorem dX11_cut_13 : decode cX11_cut 13 = .ok (.aload_n 0, 1) := by decide +kernel
theorem dX11_cut_14 : decode cX11_cut 14 = .ok (.iload_n 1, 1) := by decide +kernel
theorem dX11_cut_15 : decode cX11_cut 15 = .ok (.bipush 8, 2) := by decide +kernel
theorem dX11_cut_17 : decode cX11_cut 17 = .ok (.iload_n 2, 1) := by decide +kernel
theorem dX11_cut_18 : decode cX11_cut 18 = .ok (.iload_n 3, 1) := by decide +kernel
theorem dX11_cut_19 : decode cX11_cut 19 = .ok (.invokestatic 177, 3) := by decide +kernel
theorem dX11_cut_22 : decode cX11_cut 22 = .ok (.iconst 0, 1) := by decide +kernel
theorem dX11_cut_23 : decode cX11_cut 23 = .ok (.iconst 0, 1) := by decide +kernel
theorem dX11_cut_24 : decode cX11_cut 24 = .ok (.invokevirtual 356, 3) := by decide +kernel
theorem dX11_cut_27 : decode cX11_cut 27 = .ok (.goto 4, 3) := by decide +kernel
theorem dX11_cut_30 : decode cX11_cut 30 = .ok (.iconst (-1), 1) := by decide +kernel
theorem dX11_cut_31 : decode cX11_cut 31 = .ok (.ireturn, 1) := by decide +kernel
theorem dX11_end_0 : decode cX11_end 0 = .ok (.aload_n 0, 1) := by decide +kernel
theorem dX11_end_1 : decode cX11_end 1 = .ok (.iconst 0, 1) := by decide +kernel
theorem dX11_end_2 : decode cX11_end 2 = .ok (.putfield 77, 3) := by decide +kernel
theorem dX11_end_5 : decode cX11_end 5 = .ok (.aload_n 0, 1) := by decide +kernel
theorem dX11_end_6 : decode cX11_end 6 = .ok (.iload_n 1, 1) := by decide +kernel
theorem dX11_end_7 : decode cX11_end 7 = .ok (.invokevirtual 350, 3) := by decide +kernel
theorem dX11_end_10 : decode cX11_end 10 = .ok (.ireturn, 1) := by decide +kernel
theorem dX11_quit_0 : decode cX11_quit 0 = .ok (.aload_n 0, 1) := by decide +kernel
theorem dX11_quit_1 : decode cX11_quit 1 = .ok (.iconst 0, 1) := by decide +kernel
theorem dX11_quit_2 : decode cX11_quit 2 = .ok (.putfield 77, 3) := by decide +kernel
theorem dX11_quit_5 : decode cX11_quit 5 = .ok (.aload_n 0, 1) := by decide +kernel
theorem dX11_quit_6 : decode cX11_quit 6 = .ok (.iload_n 1, 1) := by decide +kernel
theorem dX11_quit_7 : decode cX11_quit 7 = .ok (.invokevirtual 353, 3) := by decide +kernel
theorem dX11_quit_10 : decode cX11_quit 10 = .ok (.ireturn, 1) := by decide +kernel
theorem dX11_outcome_0 : decode cX11_outcome 0 = .ok (.aload_n 0, 1) := by decide +kernel
theorem dX11_outcome_1 : decode cX11_outcome 1 = .ok (.iconst 0, 1) := by decide +kernel
theorem dX11_outcome_2 : decode cX11_outcome 2 = .ok (.putfield 77, 3) := by decide +kernel
theorem dX11_outcome_5 : decode cX11_outcome 5 = .ok (.aload_n 0, 1) := by decide +kernel
theorem dX11_outcome_6 : decode cX11_outcome 6 = .ok (.iload_n 1, 1) := by decide +kernel
theorem dX11_outcome_7 : decode cX11_outcome 7 = .ok (.invokevirtual 341, 3) := by decide +kernel
theorem dX11_outcome_10 : decode cX11_outcome 10 = .ok (.ifCond .eq 15, 3) := by decide +kernel
theorem dX11_outcome_13 : decode cX11_outcome 13 = .ok (.aload_n 0, 1) := by decide +kernel
theorem dX11_outcome_14 : decode cX11_outcome 14 = .ok (.sipush 220, 3) := by decide +kernel
theorem dX11_outcome_17 : decode cX11_outcome 17 = .ok (.iload_n 1, 1) := by decide +kernel
theorem dX11_outcome_18 : decode cX11_outcome 18 = .ok (.iadd, 1) := by decide +kernel
theorem dX11_outcome_19 : decode cX11_outcome 19 = .ok (.invokevirtual 234, 3) := by decide +kernel
theorem dX11_outcome_22 : decode cX11_outcome 22 = .ok (.goto 5, 3) := by decide +kernel
theorem dX11_outcome_25 : decode cX11_outcome 25 = .ok (.bipush (-5), 2) := by decide +kernel
theorem dX11_outcome_27 : decode cX11_outcome 27 = .ok (.ireturn, 1) := by decide +kernel
theorem dX11_run_0 : decode cX11_run 0 = .ok (.aload_n 0, 1) := by decide +kernel
theorem dX11_run_1 : decode cX11_run 1 = .ok (.iconst 0, 1) := by decide +kernel
theorem dX11_run_2 : decode cX11_run 2 = .ok (.putfield 77, 3) := by decide +kernel
theorem dX11_run_5 : decode cX11_run 5 = .ok (.iload_n 1, 1) := by decide +kernel
theorem dX11_run_6 : decode cX11_run 6 = .ok (.iconst 0, 1) := by decide +kernel
theorem dX11_run_7 : decode cX11_run 7 = .ok (.bipush 24, 2) := by decide +kernel
theorem dX11_run_9 : decode cX11_run 9 = .ok (.invokestatic 122, 3) := by decide +kernel
theorem dX11_run_12 : decode cX11_run 12 = .ok (.ifCond .ne 5, 3) := by decide +kernel
theorem dX11_run_15 : decode cX11_run 15 = .ok (.iconst (-1), 1) := by decide +kernel
theorem dX11_run_16 : decode cX11_run 16 = .ok (.ireturn, 1) := by decide +kernel
theorem dX11_run_17 : decode cX11_run 17 = .ok (.aload_n 0, 1) := by decide +kernel
theorem dX11_run_18 : decode cX11_run 18 = .ok (.iload_n 1, 1) := by decide +kernel
theorem dX11_run_19 : decode cX11_run 19 = .ok (.invokevirtual 396, 3) := by decide +kernel
theorem dX11_run_22 : decode cX11_run 22 = .ok (.aload_n 0, 1) := by decide +kernel
theorem dX11_run_23 : decode cX11_run 23 = .ok (.getfield 195, 3) := by decide +kernel
theorem dX11_run_26 : decode cX11_run 26 = .ok (.aload_n 0, 1) := by decide +kernel
theorem dX11_run_27 : decode cX11_run 27 = .ok (.invokevirtual 399, 3) := by decide +kernel
theorem dX11_run_30 : decode cX11_run 30 = .ok (.isub, 1) := by decide +kernel
theorem dX11_run_31 : decode cX11_run 31 = .ok (.ireturn, 1) := by decide +kernel
theorem dX11_answer_0 : decode cX11_answer 0 = .ok (.aload_n 0, 1) := by decide +kernel
theorem dX11_answer_1 : decode cX11_answer 1 = .ok (.iconst 0, 1) := by decide +kernel
theorem dX11_answer_2 : decode cX11_answer 2 = .ok (.putfield 77, 3) := by decide +kernel
theorem dX11_answer_5 : decode cX11_answer 5 = .ok (.iload_n 1, 1) := by decide +kernel
theorem dX11_answer_6 : decode cX11_answer 6 = .ok (.ifCond .lt 11, 3) := by decide +kernel
theorem dX11_answer_9 : decode cX11_answer 9 = .ok (.iload_n 1, 1) := by decide +kernel
theorem dX11_answer_10 : decode cX11_answer 10 = .ok (.aload_n 0, 1) := by decide +kernel
theorem dX11_answer_11 : decode cX11_answer 11 = .ok (.getfield 195, 3) := by decide +kernel
theorem dX11_answer_14 : decode cX11_answer 14 = .ok (.if_icmp .lt 8, 3) := by decide +kernel
theorem dX11_answer_17 : decode cX11_answer 17 = .ok (.bipush (-6), 2) := by decide +kernel
theorem dX11_answer_19 : decode cX11_answer 19 = .ok (.goto 12, 3) := by decide +kernel
theorem dX11_answer_22 : decode cX11_answer 22 = .ok (.aload_n 0, 1) := by decide +kernel
theorem dX11_answer_23 : decode cX11_answer 23 = .ok (.sipush 230, 3) := by decide +kernel
theorem dX11_answer_26 : decode cX11_answer 26 = .ok (.iload_n 1, 1) := by decide +kernel
theorem dX11_answer_27 : decode cX11_answer 27 = .ok (.iadd, 1) := by decide +kernel
theorem dX11_answer_28 : decode cX11_answer 28 = .ok (.invokevirtual 234, 3) := by decide +kernel
theorem dX11_answer_31 : decode cX11_answer 31 = .ok (.ireturn, 1) := by decide +kernel
theorem dX11_layGoal_0 : decode cX11_layGoal 0 = .ok (.aload_n 0, 1) := by decide +kernel
theorem dX11_layGoal_1 : decode cX11_layGoal 1 = .ok (.invokevirtual 402, 3) := by decide +kernel
theorem dX11_layGoal_4 : decode cX11_layGoal 4 = .ok (.aload_n 0, 1) := by decide +kernel
theorem dX11_layGoal_5 : decode cX11_layGoal 5 = .ok (.bipush 24, 2) := by decide +kernel
theorem dX11_layGoal_7 : decode cX11_layGoal 7 = .ok (.invokevirtual 396, 3) := by decide +kernel
theorem dX11_layGoal_10 : decode cX11_layGoal 10 = .ok (.iconst 0, 1) := by decide +kernel
theorem dX11_layGoal_11 : decode cX11_layGoal 11 = .ok (.istore_n 1, 1) := by decide +kernel
theorem dX11_layGoal_12 : decode cX11_layGoal 12 = .ok (.iload_n 1, 1) := by decide +kernel
theorem dX11_layGoal_13 : decode cX11_layGoal 13 = .ok (.aload_n 0, 1) := by decide +kernel
theorem dX11_layGoal_14 : decode cX11_layGoal 14 = .ok (.getfield 189, 3) := by decide +kernel
theorem dX11_layGoal_17 : decode cX11_layGoal 17 = .ok (.if_icmp .ge 37, 3) := by decide +kernel
theorem dX11_layGoal_20 : decode cX11_layGoal 20 = .ok (.aload_n 0, 1) := by decide +kernel
theorem dX11_layGoal_21 : decode cX11_layGoal 21 = .ok (.sipush 170, 3) := by decide +kernel
theorem dX11_layGoal_24 : decode cX11_layGoal 24 = .ok (.iload_n 1, 1) := by decide +kernel
theorem dX11_layGoal_25 : decode cX11_layGoal 25 = .ok (.iadd, 1) := by decide +kernel
theorem dX11_layGoal_26 : decode cX11_layGoal 26 = .ok (.invokevirtual 234, 3) := by decide +kernel
theorem dX11_layGoal_29 : decode cX11_layGoal 29 = .ok (.iconst 1, 1) := by decide +kernel
theorem dX11_layGoal_30 : decode cX11_layGoal 30 = .ok (.if_icmp .ne 18, 3) := by decide +kernel
theorem dX11_layGoal_33 : decode cX11_layGoal 33 = .ok (.aload_n 0, 1) := by decide +kernel
theorem dX11_layGoal_34 : decode cX11_layGoal 34 = .ok (.iload_n 1, 1) := by decide +kernel
theorem dX11_layGoal_35 : decode cX11_layGoal 35 = .ok (.invokevirtual 350, 3) := by decide +kernel
theorem dX11_layGoal_38 : decode cX11_layGoal 38 = .ok (.pop, 1) := by decide +kernel
theorem dX11_layGoal_39 : decode cX11_layGoal 39 = .ok (.aload_n 0, 1) := by decide +kernel
theorem dX11_layGoal_40 : decode cX11_layGoal 40 = .ok (.invokevirtual 363, 3) := by decide +kernel
theorem dX11_layGoal_43 : decode cX11_layGoal 43 = .ok (.iconst 0, 1) := by decide +kernel
theorem dX11_layGoal_44 : decode cX11_layGoal 44 = .ok (.istore_n 1, 1) := by decide +kernel
theorem dX11_layGoal_45 : decode cX11_layGoal 45 = .ok (.goto (-33), 3) := by decide +kernel
theorem dX11_layGoal_48 : decode cX11_layGoal 48 = .ok (.iinc 1 1, 3) := by decide +kernel
theorem dX11_layGoal_51 : decode cX11_layGoal 51 = .ok (.goto (-39), 3) := by decide +kernel
theorem dX11_layGoal_54 : decode cX11_layGoal 54 = .ok (.aload_n 0, 1) := by decide +kernel
theorem dX11_layGoal_55 : decode cX11_layGoal 55 = .ok (.getfield 62, 3) := by decide +kernel
theorem dX11_layGoal_58 : decode cX11_layGoal 58 = .ok (.iconst 0, 1) := by decide +kernel
theorem dX11_layGoal_59 : decode cX11_layGoal 59 = .ok (.aload_n 0, 1) := by decide +kernel
theorem dX11_layGoal_60 : decode cX11_layGoal 60 = .ok (.invokevirtual 267, 3) := by decide +kernel
theorem dX11_layGoal_63 : decode cX11_layGoal 63 = .ok (.iastore, 1) := by decide +kernel
theorem dX11_layGoal_64 : decode cX11_layGoal 64 = .ok (.iconst 0, 1) := by decide +kernel
theorem dX11_layGoal_65 : decode cX11_layGoal 65 = .ok (.istore_n 2, 1) := by decide +kernel
theorem dX11_layGoal_66 : decode cX11_layGoal 66 = .ok (.iload_n 2, 1) := by decide +kernel
theorem dX11_layGoal_67 : decode cX11_layGoal 67 = .ok (.aload_n 0, 1) := by decide +kernel
theorem dX11_layGoal_68 : decode cX11_layGoal 68 = .ok (.invokevirtual 267, 3) := by decide +kernel
theorem dX11_layGoal_71 : decode cX11_layGoal 71 = .ok (.if_icmp .ge 41, 3) := by decide +kernel
theorem dX11_layGoal_74 : decode cX11_layGoal 74 = .ok (.aload_n 0, 1) := by decide +kernel
theorem dX11_layGoal_75 : decode cX11_layGoal 75 = .ok (.getfield 62, 3) := by decide +kernel
theorem dX11_layGoal_78 : decode cX11_layGoal 78 = .ok (.iconst 1, 1) := by decide +kernel
theorem dX11_layGoal_79 : decode cX11_layGoal 79 = .ok (.iload_n 2, 1) := by decide +kernel
theorem dX11_layGoal_80 : decode cX11_layGoal 80 = .ok (.iadd, 1) := by decide +kernel
theorem dX11_layGoal_81 : decode cX11_layGoal 81 = .ok (.aload_n 0, 1) := by decide +kernel
theorem dX11_layGoal_82 : decode cX11_layGoal 82 = .ok (.iconst 1, 1) := by decide +kernel
theorem dX11_layGoal_83 : decode cX11_layGoal 83 = .ok (.iload_n 2, 1) := by decide +kernel
theorem dX11_layGoal_84 : decode cX11_layGoal 84 = .ok (.iadd, 1) := by decide +kernel
theorem dX11_layGoal_85 : decode cX11_layGoal 85 = .ok (.invokevirtual 234, 3) := by decide +kernel
theorem dX11_layGoal_88 : decode cX11_layGoal 88 = .ok (.iastore, 1) := by decide +kernel
theorem dX11_layGoal_89 : decode cX11_layGoal 89 = .ok (.aload_n 0, 1) := by decide +kernel
theorem dX11_layGoal_90 : decode cX11_layGoal 90 = .ok (.getfield 62, 3) := by decide +kernel
theorem dX11_layGoal_93 : decode cX11_layGoal 93 = .ok (.bipush 25, 2) := by decide +kernel
theorem dX11_layGoal_95 : decode cX11_layGoal 95 = .ok (.iload_n 2, 1) := by decide +kernel
theorem dX11_layGoal_96 : decode cX11_layGoal 96 = .ok (.iadd, 1) := by decide +kernel
theorem dX11_layGoal_97 : decode cX11_layGoal 97 = .ok (.aload_n 0, 1) := by decide +kernel
theorem dX11_layGoal_98 : decode cX11_layGoal 98 = .ok (.bipush 25, 2) := by decide +kernel
theorem dX11_layGoal_100 : decode cX11_layGoal 100 = .ok (.iload_n 2, 1) := by decide +kernel
theorem dX11_layGoal_101 : decode cX11_layGoal 101 = .ok (.iadd, 1) := by decide +kernel
theorem dX11_layGoal_102 : decode cX11_layGoal 102 = .ok (.invokevirtual 234, 3) := by decide +kernel
theorem dX11_layGoal_105 : decode cX11_layGoal 105 = .ok (.iastore, 1) := by decide +kernel
theorem dX11_layGoal_106 : decode cX11_layGoal 106 = .ok (.iinc 2 1, 3) := by decide +kernel
theorem dX11_layGoal_109 : decode cX11_layGoal 109 = .ok (.goto (-43), 3) := by decide +kernel
theorem dX11_layGoal_112 : decode cX11_layGoal 112 = .ok (.return_, 1) := by decide +kernel
theorem dX11_isGoal_0 : decode cX11_isGoal 0 = .ok (.aload_n 0, 1) := by decide +kernel
theorem dX11_isGoal_1 : decode cX11_isGoal 1 = .ok (.invokevirtual 267, 3) := by decide +kernel
theorem dX11_isGoal_4 : decode cX11_isGoal 4 = .ok (.aload_n 0, 1) := by decide +kernel
theorem dX11_isGoal_5 : decode cX11_isGoal 5 = .ok (.getfield 62, 3) := by decide +kernel
theorem dX11_isGoal_8 : decode cX11_isGoal 8 = .ok (.iconst 0, 1) := by decide +kernel
theorem dX11_isGoal_9 : decode cX11_isGoal 9 = .ok (.iaload, 1) := by decide +kernel
theorem dX11_isGoal_10 : decode cX11_isGoal 10 = .ok (.if_icmp .eq 5, 3) := by decide +kernel
theorem dX11_isGoal_13 : decode cX11_isGoal 13 = .ok (.iconst 0, 1) := by decide +kernel
theorem dX11_isGoal_14 : decode cX11_isGoal 14 = .ok (.ireturn, 1) := by decide +kernel
theorem dX11_isGoal_15 : decode cX11_isGoal 15 = .ok (.iconst 0, 1) := by decide +kernel
theorem dX11_isGoal_16 : decode cX11_isGoal 16 = .ok (.istore_n 1, 1) := by decide +kernel
theorem dX11_isGoal_17 : decode cX11_isGoal 17 = .ok (.iload_n 1, 1) := by decide +kernel
theorem dX11_isGoal_18 : decode cX11_isGoal 18 = .ok (.aload_n 0, 1) := by decide +kernel
theorem dX11_isGoal_19 : decode cX11_isGoal 19 = .ok (.invokevirtual 267, 3) := by decide +kernel
theorem dX11_isGoal_22 : decode cX11_isGoal 22 = .ok (.if_icmp .ge 49, 3) := by decide +kernel
theorem dX11_isGoal_25 : decode cX11_isGoal 25 = .ok (.aload_n 0, 1) := by decide +kernel
theorem dX11_isGoal_26 : decode cX11_isGoal 26 = .ok (.iconst 1, 1) := by decide +kernel
theorem dX11_isGoal_27 : decode cX11_isGoal 27 = .ok (.iload_n 1, 1) := by decide +kernel
theorem dX11_isGoal_28 : decode cX11_isGoal 28 = .ok (.iadd, 1) := by decide +kernel
theorem dX11_isGoal_29 : decode cX11_isGoal 29 = .ok (.invokevirtual 234, 3) := by decide +kernel
theorem dX11_isGoal_32 : decode cX11_isGoal 32 = .ok (.aload_n 0, 1) := by decide +kernel
theorem dX11_isGoal_33 : decode cX11_isGoal 33 = .ok (.getfield 62, 3) := by decide +kernel
theorem dX11_isGoal_36 : decode cX11_isGoal 36 = .ok (.iconst 1, 1) := by decide +kernel
theorem dX11_isGoal_37 : decode cX11_isGoal 37 = .ok (.iload_n 1, 1) := by decide +kernel
theorem dX11_isGoal_38 : decode cX11_isGoal 38 = .ok (.iadd, 1) := by decide +kernel
theorem dX11_isGoal_39 : decode cX11_isGoal 39 = .ok (.iaload, 1) := by decide +kernel
theorem dX11_isGoal_40 : decode cX11_isGoal 40 = .ok (.if_icmp .ne 23, 3) := by decide +kernel
theorem dX11_isGoal_43 : decode cX11_isGoal 43 = .ok (.aload_n 0, 1) := by decide +kernel
theorem dX11_isGoal_44 : decode cX11_isGoal 44 = .ok (.bipush 25, 2) := by decide +kernel
theorem dX11_isGoal_46 : decode cX11_isGoal 46 = .ok (.iload_n 1, 1) := by decide +kernel
theorem dX11_isGoal_47 : decode cX11_isGoal 47 = .ok (.iadd, 1) := by decide +kernel
theorem dX11_isGoal_48 : decode cX11_isGoal 48 = .ok (.invokevirtual 234, 3) := by decide +kernel
theorem dX11_isGoal_51 : decode cX11_isGoal 51 = .ok (.aload_n 0, 1) := by decide +kernel
theorem dX11_isGoal_52 : decode cX11_isGoal 52 = .ok (.getfield 62, 3) := by decide +kernel
theorem dX11_isGoal_55 : decode cX11_isGoal 55 = .ok (.bipush 25, 2) := by decide +kernel
theorem dX11_isGoal_57 : decode cX11_isGoal 57 = .ok (.iload_n 1, 1) := by decide +kernel
theorem dX11_isGoal_58 : decode cX11_isGoal 58 = .ok (.iadd, 1) := by decide +kernel
theorem dX11_isGoal_59 : decode cX11_isGoal 59 = .ok (.iaload, 1) := by decide +kernel
theorem dX11_isGoal_60 : decode cX11_isGoal 60 = .ok (.if_icmp .eq 5, 3) := by decide +kernel
theorem dX11_isGoal_63 : decode cX11_isGoal 63 = .ok (.iconst 0, 1) := by decide +kernel
theorem dX11_isGoal_64 : decode cX11_isGoal 64 = .ok (.ireturn, 1) := by decide +kernel
theorem dX11_isGoal_65 : decode cX11_isGoal 65 = .ok (.iinc 1 1, 3) := by decide +kernel
theorem dX11_isGoal_68 : decode cX11_isGoal 68 = .ok (.goto (-51), 3) := by decide +kernel
theorem dX11_isGoal_71 : decode cX11_isGoal 71 = .ok (.iconst 1, 1) := by decide +kernel
theorem dX11_isGoal_72 : decode cX11_isGoal 72 = .ok (.ireturn, 1) := by decide +kernel
theorem dX11_isSameBy_0 : decode cX11_isSameBy 0 = .ok (.aload_n 0, 1) := by decide +kernel
theorem dX11_isSameBy_1 : decode cX11_isSameBy 1 = .ok (.invokevirtual 402, 3) := by decide +kernel
theorem dX11_isSameBy_4 : decode cX11_isSameBy 4 = .ok (.iconst 0, 1) := by decide +kernel
theorem dX11_isSameBy_5 : decode cX11_isSameBy 5 = .ok (.istore_n 1, 1) := by decide +kernel
theorem dX11_isSameBy_6 : decode cX11_isSameBy 6 = .ok (.iload_n 1, 1) := by decide +kernel
theorem dX11_isSameBy_7 : decode cX11_isSameBy 7 = .ok (.aload_n 0, 1) := by decide +kernel
theorem dX11_isSameBy_8 : decode cX11_isSameBy 8 = .ok (.getfield 189, 3) := by decide +kernel
theorem dX11_isSameBy_11 : decode cX11_isSameBy 11 = .ok (.if_icmp .ge 54, 3) := by decide +kernel
theorem dX11_isSameBy_14 : decode cX11_isSameBy 14 = .ok (.aload_n 0, 1) := by decide +kernel
theorem dX11_isSameBy_15 : decode cX11_isSameBy 15 = .ok (.getfield 65, 3) := by decide +kernel
theorem dX11_isSameBy_18 : decode cX11_isSameBy 18 = .ok (.iload_n 1, 1) := by decide +kernel
theorem dX11_isSameBy_19 : decode cX11_isSameBy 19 = .ok (.iaload, 1) := by decide +kernel
theorem dX11_isSameBy_20 : decode cX11_isSameBy 20 = .ok (.istore_n 2, 1) := by decide +kernel
theorem dX11_isSameBy_21 : decode cX11_isSameBy 21 = .ok (.iconst 0, 1) := by decide +kernel
theorem dX11_isSameBy_22 : decode cX11_isSameBy 22 = .ok (.istore_n 3, 1) := by decide +kernel
theorem dX11_isSameBy_23 : decode cX11_isSameBy 23 = .ok (.iload_n 3, 1) := by decide +kernel
theorem dX11_isSameBy_24 : decode cX11_isSameBy 24 = .ok (.aload_n 0, 1) := by decide +kernel
theorem dX11_isSameBy_25 : decode cX11_isSameBy 25 = .ok (.getfield 195, 3) := by decide +kernel
theorem dX11_isSameBy_28 : decode cX11_isSameBy 28 = .ok (.if_icmp .ge 25, 3) := by decide +kernel
theorem dX11_isSameBy_31 : decode cX11_isSameBy 31 = .ok (.aload_n 0, 1) := by decide +kernel
theorem dX11_isSameBy_32 : decode cX11_isSameBy 32 = .ok (.getfield 32, 3) := by decide +kernel
theorem dX11_isSameBy_35 : decode cX11_isSameBy 35 = .ok (.iload_n 3, 1) := by decide +kernel
theorem dX11_isSameBy_36 : decode cX11_isSameBy 36 = .ok (.iaload, 1) := by decide +kernel
theorem dX11_isSameBy_37 : decode cX11_isSameBy 37 = .ok (.iload_n 2, 1) := by decide +kernel
theorem dX11_isSameBy_38 : decode cX11_isSameBy 38 = .ok (.if_icmp .ne 9, 3) := by decide +kernel
theorem dX11_isSameBy_41 : decode cX11_isSameBy 41 = .ok (.aload_n 0, 1) := by decide +kernel
theorem dX11_isSameBy_42 : decode cX11_isSameBy 42 = .ok (.iload_n 3, 1) := by decide +kernel
theorem dX11_isSameBy_43 : decode cX11_isSameBy 43 = .ok (.invokevirtual 360, 3) := by decide +kernel
theorem dX11_isSameBy_46 : decode cX11_isSameBy 46 = .ok (.pop, 1) := by decide +kernel
theorem dX11_isSameBy_47 : decode cX11_isSameBy 47 = .ok (.iinc 3 1, 3) := by decide +kernel
theorem dX11_isSameBy_50 : decode cX11_isSameBy 50 = .ok (.goto (-27), 3) := by decide +kernel
theorem dX11_isSameBy_53 : decode cX11_isSameBy 53 = .ok (.aload_n 0, 1) := by decide +kernel
theorem dX11_isSameBy_54 : decode cX11_isSameBy 54 = .ok (.iload_n 2, 1) := by decide +kernel
theorem dX11_isSameBy_55 : decode cX11_isSameBy 55 = .ok (.invokevirtual 350, 3) := by decide +kernel
theorem dX11_isSameBy_58 : decode cX11_isSameBy 58 = .ok (.pop, 1) := by decide +kernel
theorem dX11_isSameBy_59 : decode cX11_isSameBy 59 = .ok (.iinc 1 1, 3) := by decide +kernel
theorem dX11_isSameBy_62 : decode cX11_isSameBy 62 = .ok (.goto (-56), 3) := by decide +kernel
theorem dX11_isSameBy_65 : decode cX11_isSameBy 65 = .ok (.aload_n 0, 1) := by decide +kernel
theorem dX11_isSameBy_66 : decode cX11_isSameBy 66 = .ok (.invokevirtual 405, 3) := by decide +kernel
theorem dX11_isSameBy_69 : decode cX11_isSameBy 69 = .ok (.ireturn, 1) := by decide +kernel
theorem dX11_isNextOrder_0 : decode cX11_isNextOrder 0 = .ok (.aload_n 0, 1) := by decide +kernel
theorem dX11_isNextOrder_1 : decode cX11_isNextOrder 1 = .ok (.getfield 189, 3) := by decide +kernel
theorem dX11_isNextOrder_4 : decode cX11_isNextOrder 4 = .ok (.iconst 2, 1) := by decide +kernel
theorem dX11_isNextOrder_5 : decode cX11_isNextOrder 5 = .ok (.isub, 1) := by decide +kernel
theorem dX11_isNextOrder_6 : decode cX11_isNextOrder 6 = .ok (.istore_n 1, 1) := by decide +kernel
theorem dX11_isNextOrder_7 : decode cX11_isNextOrder 7 = .ok (.iload_n 1, 1) := by decide +kernel
theorem dX11_isNextOrder_8 : decode cX11_isNextOrder 8 = .ok (.ifCond .lt 26, 3) := by decide +kernel
theorem dX11_isNextOrder_11 : decode cX11_isNextOrder 11 = .ok (.aload_n 0, 1) := by decide +kernel
theorem dX11_isNextOrder_12 : decode cX11_isNextOrder 12 = .ok (.getfield 65, 3) := by decide +kernel
theorem dX11_isNextOrder_15 : decode cX11_isNextOrder 15 = .ok (.iload_n 1, 1) := by decide +kernel
theorem dX11_isNextOrder_16 : decode cX11_isNextOrder 16 = .ok (.iaload, 1) := by decide +kernel
theorem dX11_isNextOrder_17 : decode cX11_isNextOrder 17 = .ok (.aload_n 0, 1) := by decide +kernel
theorem dX11_isNextOrder_18 : decode cX11_isNextOrder 18 = .ok (.getfield 65, 3) := by decide +kernel
theorem dX11_isNextOrder_21 : decode cX11_isNextOrder 21 = .ok (.iload_n 1, 1) := by decide +kernel
theorem dX11_isNextOrder_22 : decode cX11_isNextOrder 22 = .ok (.iconst 1, 1) := by decide +kernel
theorem dX11_isNextOrder_23 : decode cX11_isNextOrder 23 = .ok (.iadd, 1) := by decide +kernel
theorem dX11_isNextOrder_24 : decode cX11_isNextOrder 24 = .ok (.iaload, 1) := by decide +kernel
theorem dX11_isNextOrder_25 : decode cX11_isNextOrder 25 = .ok (.if_icmp .le 9, 3) := by decide +kernel
theorem dX11_isNextOrder_28 : decode cX11_isNextOrder 28 = .ok (.iinc 1 (-1), 3) := by decide +kernel
theorem dX11_isNextOrder_31 : decode cX11_isNextOrder 31 = .ok (.goto (-24), 3) := by decide +kernel
theorem dX11_isNextOrder_34 : decode cX11_isNextOrder 34 = .ok (.iload_n 1, 1) := by decide +kernel
theorem dX11_isNextOrder_35 : decode cX11_isNextOrder 35 = .ok (.ifCond .ge 5, 3) := by decide +kernel
theorem dX11_isNextOrder_38 : decode cX11_isNextOrder 38 = .ok (.iconst 0, 1) := by decide +kernel
theorem dX11_isNextOrder_39 : decode cX11_isNextOrder 39 = .ok (.ireturn, 1) := by decide +kernel
theorem dX11_isNextOrder_40 : decode cX11_isNextOrder 40 = .ok (.aload_n 0, 1) := by decide +kernel
theorem dX11_isNextOrder_41 : decode cX11_isNextOrder 41 = .ok (.getfield 189, 3) := by decide +kernel
theorem dX11_isNextOrder_44 : decode cX11_isNextOrder 44 = .ok (.iconst 1, 1) := by decide +kernel
theorem dX11_isNextOrder_45 : decode cX11_isNextOrder 45 = .ok (.isub, 1) := by decide +kernel
theorem dX11_isNextOrder_46 : decode cX11_isNextOrder 46 = .ok (.istore_n 2, 1) := by decide +kernel
theorem dX11_isNextOrder_47 : decode cX11_isNextOrder 47 = .ok (.aload_n 0, 1) := by decide +kernel
theorem dX11_isNextOrder_48 : decode cX11_isNextOrder 48 = .ok (.getfield 65, 3) := by decide +kernel
theorem dX11_isNextOrder_51 : decode cX11_isNextOrder 51 = .ok (.iload_n 2, 1) := by decide +kernel
theorem dX11_isNextOrder_52 : decode cX11_isNextOrder 52 = .ok (.iaload, 1) := by decide +kernel
theorem dX11_isNextOrder_53 : decode cX11_isNextOrder 53 = .ok (.aload_n 0, 1) := by decide +kernel
theorem dX11_isNextOrder_54 : decode cX11_isNextOrder 54 = .ok (.getfield 65, 3) := by decide +kernel
theorem dX11_isNextOrder_57 : decode cX11_isNextOrder 57 = .ok (.iload_n 1, 1) := by decide +kernel
theorem dX11_isNextOrder_58 : decode cX11_isNextOrder 58 = .ok (.iaload, 1) := by decide +kernel
theorem dX11_isNextOrder_59 : decode cX11_isNextOrder 59 = .ok (.if_icmp .ge 9, 3) := by decide +kernel
theorem dX11_isNextOrder_62 : decode cX11_isNextOrder 62 = .ok (.iinc 2 (-1), 3) := by decide +kernel
theorem dX11_isNextOrder_65 : decode cX11_isNextOrder 65 = .ok (.goto (-18), 3) := by decide +kernel
theorem dX11_isNextOrder_68 : decode cX11_isNextOrder 68 = .ok (.aload_n 0, 1) := by decide +kernel
theorem dX11_isNextOrder_69 : decode cX11_isNextOrder 69 = .ok (.iload_n 1, 1) := by decide +kernel
theorem dX11_isNextOrder_70 : decode cX11_isNextOrder 70 = .ok (.iload_n 2, 1) := by decide +kernel
theorem dX11_isNextOrder_71 : decode cX11_isNextOrder 71 = .ok (.invokevirtual 408, 3) := by decide +kernel
theorem dX11_isNextOrder_74 : decode cX11_isNextOrder 74 = .ok (.iload_n 1, 1) := by decide +kernel
theorem dX11_isNextOrder_75 : decode cX11_isNextOrder 75 = .ok (.iconst 1, 1) := by decide +kernel
theorem dX11_isNextOrder_76 : decode cX11_isNextOrder 76 = .ok (.iadd, 1) := by decide +kernel
theorem dX11_isNextOrder_77 : decode cX11_isNextOrder 77 = .ok (.istore_n 3, 1) := by decide +kernel
theorem dX11_isNextOrder_78 : decode cX11_isNextOrder 78 = .ok (.aload_n 0, 1) := by decide +kernel
theorem dX11_isNextOrder_79 : decode cX11_isNextOrder 79 = .ok (.getfield 189, 3) := by decide +kernel
theorem dX11_isNextOrder_82 : decode cX11_isNextOrder 82 = .ok (.iconst 1, 1) := by decide +kernel
theorem dX11_isNextOrder_83 : decode cX11_isNextOrder 83 = .ok (.isub, 1) := by decide +kernel
theorem dX11_isNextOrder_84 : decode cX11_isNextOrder 84 = .ok (.istore 4, 2) := by decide +kernel
theorem dX11_isNextOrder_86 : decode cX11_isNextOrder 86 = .ok (.iload_n 3, 1) := by decide +kernel
theorem dX11_isNextOrder_87 : decode cX11_isNextOrder 87 = .ok (.iload 4, 2) := by decide +kernel
theorem dX11_isNextOrder_89 : decode cX11_isNextOrder 89 = .ok (.if_icmp .ge 19, 3) := by decide +kernel
theorem dX11_isNextOrder_92 : decode cX11_isNextOrder 92 = .ok (.aload_n 0, 1) := by decide +kernel
theorem dX11_isNextOrder_93 : decode cX11_isNextOrder 93 = .ok (.iload_n 3, 1) := by decide +kernel
theorem dX11_isNextOrder_94 : decode cX11_isNextOrder 94 = .ok (.iload 4, 2) := by decide +kernel
theorem dX11_isNextOrder_96 : decode cX11_isNextOrder 96 = .ok (.invokevirtual 408, 3) := by decide +kernel
theorem dX11_isNextOrder_99 : decode cX11_isNextOrder 99 = .ok (.iinc 3 1, 3) := by decide +kernel
theorem dX11_isNextOrder_102 : decode cX11_isNextOrder 102 = .ok (.iinc 4 (-1), 3) := by decide +kernel
theorem dX11_isNextOrder_105 : decode cX11_isNextOrder 105 = .ok (.goto (-19), 3) := by decide +kernel
theorem dX11_isNextOrder_108 : decode cX11_isNextOrder 108 = .ok (.iconst 1, 1) := by decide +kernel
theorem dX11_isNextOrder_109 : decode cX11_isNextOrder 109 = .ok (.ireturn, 1) := by decide +kernel
theorem dX11_swaps_0 : decode cX11_swaps 0 = .ok (.aload_n 0, 1) := by decide +kernel
theorem dX11_swaps_1 : decode cX11_swaps 1 = .ok (.getfield 65, 3) := by decide +kernel
theorem dX11_swaps_4 : decode cX11_swaps 4 = .ok (.iload_n 1, 1) := by decide +kernel
theorem dX11_swaps_5 : decode cX11_swaps 5 = .ok (.iaload, 1) := by decide +kernel
theorem dX11_swaps_6 : decode cX11_swaps 6 = .ok (.istore_n 3, 1) := by decide +kernel
theorem dX11_swaps_7 : decode cX11_swaps 7 = .ok (.aload_n 0, 1) := by decide +kernel
theorem dX11_swaps_8 : decode cX11_swaps 8 = .ok (.getfield 65, 3) := by decide +kernel
theorem dX11_swaps_11 : decode cX11_swaps 11 = .ok (.iload_n 1, 1) := by decide +kernel
theorem dX11_swaps_12 : decode cX11_swaps 12 = .ok (.aload_n 0, 1) := by decide +kernel
theorem dX11_swaps_13 : decode cX11_swaps 13 = .ok (.getfield 65, 3) := by decide +kernel
theorem dX11_swaps_16 : decode cX11_swaps 16 = .ok (.iload_n 2, 1) := by decide +kernel
theorem dX11_swaps_17 : decode cX11_swaps 17 = .ok (.iaload, 1) := by decide +kernel
theorem dX11_swaps_18 : decode cX11_swaps 18 = .ok (.iastore, 1) := by decide +kernel
theorem dX11_swaps_19 : decode cX11_swaps 19 = .ok (.aload_n 0, 1) := by decide +kernel
theorem dX11_swaps_20 : decode cX11_swaps 20 = .ok (.getfield 65, 3) := by decide +kernel
theorem dX11_swaps_23 : decode cX11_swaps 23 = .ok (.iload_n 2, 1) := by decide +kernel
theorem dX11_swaps_24 : decode cX11_swaps 24 = .ok (.iload_n 3, 1) := by decide +kernel
theorem dX11_swaps_25 : decode cX11_swaps 25 = .ok (.iastore, 1) := by decide +kernel
theorem dX11_swaps_26 : decode cX11_swaps 26 = .ok (.return_, 1) := by decide +kernel
theorem dX11_firstOrder_0 : decode cX11_firstOrder 0 = .ok (.iconst 0, 1) := by decide +kernel
theorem dX11_firstOrder_1 : decode cX11_firstOrder 1 = .ok (.istore_n 1, 1) := by decide +kernel
theorem dX11_firstOrder_2 : decode cX11_firstOrder 2 = .ok (.iload_n 1, 1) := by decide +kernel
theorem dX11_firstOrder_3 : decode cX11_firstOrder 3 = .ok (.iconst 5, 1) := by decide +kernel
theorem dX11_firstOrder_4 : decode cX11_firstOrder 4 = .ok (.if_icmp .ge 16, 3) := by decide +kernel
theorem dX11_firstOrder_7 : decode cX11_firstOrder 7 = .ok (.aload_n 0, 1) := by decide +kernel
theorem dX11_firstOrder_8 : decode cX11_firstOrder 8 = .ok (.getfield 65, 3) := by decide +kernel
theorem dX11_firstOrder_11 : decode cX11_firstOrder 11 = .ok (.iload_n 1, 1) := by decide +kernel
theorem dX11_firstOrder_12 : decode cX11_firstOrder 12 = .ok (.iload_n 1, 1) := by decide +kernel
theorem dX11_firstOrder_13 : decode cX11_firstOrder 13 = .ok (.iastore, 1) := by decide +kernel
theorem dX11_firstOrder_14 : decode cX11_firstOrder 14 = .ok (.iinc 1 1, 3) := by decide +kernel
theorem dX11_firstOrder_17 : decode cX11_firstOrder 17 = .ok (.goto (-15), 3) := by decide +kernel
theorem dX11_firstOrder_20 : decode cX11_firstOrder 20 = .ok (.return_, 1) := by decide +kernel
theorem dX11_same_0 : decode cX11_same 0 = .ok (.aload_n 0, 1) := by decide +kernel
theorem dX11_same_1 : decode cX11_same 1 = .ok (.iconst 0, 1) := by decide +kernel
theorem dX11_same_2 : decode cX11_same 2 = .ok (.putfield 77, 3) := by decide +kernel
theorem dX11_same_5 : decode cX11_same 5 = .ok (.aload_n 0, 1) := by decide +kernel
theorem dX11_same_6 : decode cX11_same 6 = .ok (.invokevirtual 411, 3) := by decide +kernel
theorem dX11_same_9 : decode cX11_same 9 = .ok (.aload_n 0, 1) := by decide +kernel
theorem dX11_same_10 : decode cX11_same 10 = .ok (.invokevirtual 414, 3) := by decide +kernel
theorem dX11_same_13 : decode cX11_same 13 = .ok (.iconst 0, 1) := by decide +kernel
theorem dX11_same_14 : decode cX11_same 14 = .ok (.istore_n 1, 1) := by decide +kernel
theorem dX11_same_15 : decode cX11_same 15 = .ok (.iconst 1, 1) := by decide +kernel
theorem dX11_same_16 : decode cX11_same 16 = .ok (.istore_n 2, 1) := by decide +kernel
theorem dX11_same_17 : decode cX11_same 17 = .ok (.iload_n 2, 1) := by decide +kernel
theorem dX11_same_18 : decode cX11_same 18 = .ok (.ifCond .eq 26, 3) := by decide +kernel
theorem dX11_same_21 : decode cX11_same 21 = .ok (.iload_n 1, 1) := by decide +kernel
theorem dX11_same_22 : decode cX11_same 22 = .ok (.aload_n 0, 1) := by decide +kernel
theorem dX11_same_23 : decode cX11_same 23 = .ok (.invokevirtual 417, 3) := by decide +kernel
theorem dX11_same_26 : decode cX11_same 26 = .ok (.ifCond .eq 7, 3) := by decide +kernel
theorem dX11_same_29 : decode cX11_same 29 = .ok (.iconst 1, 1) := by decide +kernel
theorem dX11_same_30 : decode cX11_same 30 = .ok (.goto 4, 3) := by decide +kernel
theorem dX11_same_33 : decode cX11_same 33 = .ok (.iconst 0, 1) := by decide +kernel
theorem dX11_same_34 : decode cX11_same 34 = .ok (.iadd, 1) := by decide +kernel
theorem dX11_same_35 : decode cX11_same 35 = .ok (.istore_n 1, 1) := by decide +kernel
theorem dX11_same_36 : decode cX11_same 36 = .ok (.aload_n 0, 1) := by decide +kernel
theorem dX11_same_37 : decode cX11_same 37 = .ok (.invokevirtual 420, 3) := by decide +kernel
theorem dX11_same_40 : decode cX11_same 40 = .ok (.istore_n 2, 1) := by decide +kernel
theorem dX11_same_41 : decode cX11_same 41 = .ok (.goto (-24), 3) := by decide +kernel
theorem dX11_same_44 : decode cX11_same 44 = .ok (.aload_n 0, 1) := by decide +kernel
theorem dX11_same_45 : decode cX11_same 45 = .ok (.invokevirtual 423, 3) := by decide +kernel
theorem dX11_same_48 : decode cX11_same 48 = .ok (.iload_n 1, 1) := by decide +kernel
theorem dX11_same_49 : decode cX11_same 49 = .ok (.ireturn, 1) := by decide +kernel
theorem dX11_sameOrder_0 : decode cX11_sameOrder 0 = .ok (.aload_n 0, 1) := by decide +kernel
theorem dX11_sameOrder_1 : decode cX11_sameOrder 1 = .ok (.iconst 0, 1) := by decide +kernel
theorem dX11_sameOrder_2 : decode cX11_sameOrder 2 = .ok (.putfield 77, 3) := by decide +kernel
theorem dX11_sameOrder_5 : decode cX11_sameOrder 5 = .ok (.iload_n 1, 1) := by decide +kernel
theorem dX11_sameOrder_6 : decode cX11_sameOrder 6 = .ok (.ifCond .ge 5, 3) := by decide +kernel
theorem dX11_sameOrder_9 : decode cX11_sameOrder 9 = .ok (.iconst (-1), 1) := by decide +kernel
theorem dX11_sameOrder_10 : decode cX11_sameOrder 10 = .ok (.ireturn, 1) := by decide +kernel
theorem dX11_sameOrder_11 : decode cX11_sameOrder 11 = .ok (.aload_n 0, 1) := by decide +kernel
theorem dX11_sameOrder_12 : decode cX11_sameOrder 12 = .ok (.invokevirtual 411, 3) := by decide +kernel
theorem dX11_sameOrder_15 : decode cX11_sameOrder 15 = .ok (.aload_n 0, 1) := by decide +kernel
theorem dX11_sameOrder_16 : decode cX11_sameOrder 16 = .ok (.invokevirtual 414, 3) := by decide +kernel
theorem dX11_sameOrder_19 : decode cX11_sameOrder 19 = .ok (.aload_n 0, 1) := by decide +kernel
theorem dX11_sameOrder_20 : decode cX11_sameOrder 20 = .ok (.invokevirtual 417, 3) := by decide +kernel
theorem dX11_sameOrder_23 : decode cX11_sameOrder 23 = .ok (.istore_n 2, 1) := by decide +kernel
theorem dX11_sameOrder_24 : decode cX11_sameOrder 24 = .ok (.iconst 1, 1) := by decide +kernel
theorem dX11_sameOrder_25 : decode cX11_sameOrder 25 = .ok (.istore_n 3, 1) := by decide +kernel
theorem dX11_sameOrder_26 : decode cX11_sameOrder 26 = .ok (.iload_n 2, 1) := by decide +kernel
theorem dX11_sameOrder_27 : decode cX11_sameOrder 27 = .ok (.ifCond .ne 32, 3) := by decide +kernel
theorem dX11_sameOrder_30 : decode cX11_sameOrder 30 = .ok (.iload_n 3, 1) := by decide +kernel
theorem dX11_sameOrder_31 : decode cX11_sameOrder 31 = .ok (.ifCond .eq 28, 3) := by decide +kernel
theorem dX11_sameOrder_34 : decode cX11_sameOrder 34 = .ok (.aload_n 0, 1) := by decide +kernel
theorem dX11_sameOrder_35 : decode cX11_sameOrder 35 = .ok (.invokevirtual 420, 3) := by decide +kernel
theorem dX11_sameOrder_38 : decode cX11_sameOrder 38 = .ok (.istore_n 3, 1) := by decide +kernel
theorem dX11_sameOrder_39 : decode cX11_sameOrder 39 = .ok (.iload_n 3, 1) := by decide +kernel
theorem dX11_sameOrder_40 : decode cX11_sameOrder 40 = .ok (.ifCond .eq 14, 3) := by decide +kernel
theorem dX11_sameOrder_43 : decode cX11_sameOrder 43 = .ok (.aload_n 0, 1) := by decide +kernel
theorem dX11_sameOrder_44 : decode cX11_sameOrder 44 = .ok (.invokevirtual 417, 3) := by decide +kernel
theorem dX11_sameOrder_47 : decode cX11_sameOrder 47 = .ok (.ifCond .eq 7, 3) := by decide +kernel
theorem dX11_sameOrder_50 : decode cX11_sameOrder 50 = .ok (.iconst 1, 1) := by decide +kernel
theorem dX11_sameOrder_51 : decode cX11_sameOrder 51 = .ok (.goto 4, 3) := by decide +kernel
theorem dX11_sameOrder_54 : decode cX11_sameOrder 54 = .ok (.iconst 0, 1) := by decide +kernel
theorem dX11_sameOrder_55 : decode cX11_sameOrder 55 = .ok (.istore_n 2, 1) := by decide +kernel
theorem dX11_sameOrder_56 : decode cX11_sameOrder 56 = .ok (.goto (-30), 3) := by decide +kernel
theorem dX11_sameOrder_59 : decode cX11_sameOrder 59 = .ok (.aload_n 0, 1) := by decide +kernel
theorem dX11_sameOrder_60 : decode cX11_sameOrder 60 = .ok (.invokevirtual 423, 3) := by decide +kernel
theorem dX11_sameOrder_63 : decode cX11_sameOrder 63 = .ok (.iload_n 2, 1) := by decide +kernel
theorem dX11_sameOrder_64 : decode cX11_sameOrder 64 = .ok (.ifCond .eq 20, 3) := by decide +kernel
theorem dX11_sameOrder_67 : decode cX11_sameOrder 67 = .ok (.iload_n 1, 1) := by decide +kernel
theorem dX11_sameOrder_68 : decode cX11_sameOrder 68 = .ok (.aload_n 0, 1) := by decide +kernel
theorem dX11_sameOrder_69 : decode cX11_sameOrder 69 = .ok (.getfield 189, 3) := by decide +kernel
theorem dX11_sameOrder_72 : decode cX11_sameOrder 72 = .ok (.if_icmp .ge 12, 3) := by decide +kernel
theorem dX11_sameOrder_75 : decode cX11_sameOrder 75 = .ok (.aload_n 0, 1) := by decide +kernel
theorem dX11_sameOrder_76 : decode cX11_sameOrder 76 = .ok (.getfield 65, 3) := by decide +kernel
theorem dX11_sameOrder_79 : decode cX11_sameOrder 79 = .ok (.iload_n 1, 1) := by decide +kernel
theorem dX11_sameOrder_80 : decode cX11_sameOrder 80 = .ok (.iaload, 1) := by decide +kernel
theorem dX11_sameOrder_81 : decode cX11_sameOrder 81 = .ok (.goto 5, 3) := by decide +kernel
theorem dX11_sameOrder_84 : decode cX11_sameOrder 84 = .ok (.bipush (-2), 2) := by decide +kernel
theorem dX11_sameOrder_86 : decode cX11_sameOrder 86 = .ok (.ireturn, 1) := by decide +kernel
theorem dX11_diedAll_0 : decode cX11_diedAll 0 = .ok (.iconst 0, 1) := by decide +kernel
theorem dX11_diedAll_1 : decode cX11_diedAll 1 = .ok (.istore_n 1, 1) := by decide +kernel
theorem dX11_diedAll_2 : decode cX11_diedAll 2 = .ok (.iconst 0, 1) := by decide +kernel
theorem dX11_diedAll_3 : decode cX11_diedAll 3 = .ok (.istore_n 2, 1) := by decide +kernel
theorem dX11_diedAll_4 : decode cX11_diedAll 4 = .ok (.iload_n 2, 1) := by decide +kernel
theorem dX11_diedAll_5 : decode cX11_diedAll 5 = .ok (.aload_n 0, 1) := by decide +kernel
theorem dX11_diedAll_6 : decode cX11_diedAll 6 = .ok (.getfield 189, 3) := by decide +kernel
theorem dX11_diedAll_9 : decode cX11_diedAll 9 = .ok (.if_icmp .ge 21, 3) := by decide +kernel
theorem dX11_diedAll_12 : decode cX11_diedAll 12 = .ok (.iload_n 1, 1) := by decide +kernel
theorem dX11_diedAll_13 : decode cX11_diedAll 13 = .ok (.aload_n 0, 1) := by decide +kernel
theorem dX11_diedAll_14 : decode cX11_diedAll 14 = .ok (.sipush 175, 3) := by decide +kernel
theorem dX11_diedAll_17 : decode cX11_diedAll 17 = .ok (.iload_n 2, 1) := by decide +kernel
theorem dX11_diedAll_18 : decode cX11_diedAll 18 = .ok (.iadd, 1) := by decide +kernel
theorem dX11_diedAll_19 : decode cX11_diedAll 19 = .ok (.invokevirtual 234, 3) := by decide +kernel
theorem dX11_diedAll_22 : decode cX11_diedAll 22 = .ok (.iadd, 1) := by decide +kernel
theorem dX11_diedAll_23 : decode cX11_diedAll 23 = .ok (.istore_n 1, 1) := by decide +kernel
theorem dX11_diedAll_24 : decode cX11_diedAll 24 = .ok (.iinc 2 1, 3) := by decide +kernel
theorem dX11_diedAll_27 : decode cX11_diedAll 27 = .ok (.goto (-23), 3) := by decide +kernel
theorem dX11_diedAll_30 : decode cX11_diedAll 30 = .ok (.iload_n 1, 1) := by decide +kernel
theorem dX11_diedAll_31 : decode cX11_diedAll 31 = .ok (.ireturn, 1) := by decide +kernel
theorem dX11_stepOf_0 : decode cX11_stepOf 0 = .ok (.aload_n 0, 1) := by decide +kernel
theorem dX11_stepOf_1 : decode cX11_stepOf 1 = .ok (.getfield 68, 3) := by decide +kernel
theorem dX11_stepOf_4 : decode cX11_stepOf 4 = .ok (.iload_n 1, 1) := by decide +kernel
theorem dX11_stepOf_5 : decode cX11_stepOf 5 = .ok (.iaload, 1) := by decide +kernel
theorem dX11_stepOf_6 : decode cX11_stepOf 6 = .ok (.istore_n 2, 1) := by decide +kernel
theorem dX11_stepOf_7 : decode cX11_stepOf 7 = .ok (.iload_n 2, 1) := by decide +kernel
theorem dX11_stepOf_8 : decode cX11_stepOf 8 = .ok (.aload_n 0, 1) := by decide +kernel
theorem dX11_stepOf_9 : decode cX11_stepOf 9 = .ok (.getfield 195, 3) := by decide +kernel
theorem dX11_stepOf_12 : decode cX11_stepOf 12 = .ok (.if_icmp .ge 21, 3) := by decide +kernel
theorem dX11_stepOf_15 : decode cX11_stepOf 15 = .ok (.aload_n 0, 1) := by decide +kernel
theorem dX11_stepOf_16 : decode cX11_stepOf 16 = .ok (.getfield 32, 3) := by decide +kernel
theorem dX11_stepOf_19 : decode cX11_stepOf 19 = .ok (.iload_n 2, 1) := by decide +kernel
theorem dX11_stepOf_20 : decode cX11_stepOf 20 = .ok (.iaload, 1) := by decide +kernel
theorem dX11_stepOf_21 : decode cX11_stepOf 21 = .ok (.iload_n 1, 1) := by decide +kernel
theorem dX11_stepOf_22 : decode cX11_stepOf 22 = .ok (.if_icmp .ne 5, 3) := by decide +kernel
theorem dX11_stepOf_25 : decode cX11_stepOf 25 = .ok (.iload_n 2, 1) := by decide +kernel
theorem dX11_stepOf_26 : decode cX11_stepOf 26 = .ok (.ireturn, 1) := by decide +kernel
theorem dX11_stepOf_27 : decode cX11_stepOf 27 = .ok (.iinc 2 1, 3) := by decide +kernel
theorem dX11_stepOf_30 : decode cX11_stepOf 30 = .ok (.goto (-23), 3) := by decide +kernel
theorem dX11_stepOf_33 : decode cX11_stepOf 33 = .ok (.iconst (-1), 1) := by decide +kernel
theorem dX11_stepOf_34 : decode cX11_stepOf 34 = .ok (.ireturn, 1) := by decide +kernel
theorem dX11_isReady_0 : decode cX11_isReady 0 = .ok (.aload_n 0, 1) := by decide +kernel
theorem dX11_isReady_1 : decode cX11_isReady 1 = .ok (.sipush 170, 3) := by decide +kernel
theorem dX11_isReady_4 : decode cX11_isReady 4 = .ok (.iload_n 1, 1) := by decide +kernel
theorem dX11_isReady_5 : decode cX11_isReady 5 = .ok (.iadd, 1) := by decide +kernel
theorem dX11_isReady_6 : decode cX11_isReady 6 = .ok (.invokevirtual 234, 3) := by decide +kernel
theorem dX11_isReady_9 : decode cX11_isReady 9 = .ok (.iconst 2, 1) := by decide +kernel
theorem dX11_isReady_10 : decode cX11_isReady 10 = .ok (.if_icmp .eq 15, 3) := by decide +kernel
theorem dX11_isReady_13 : decode cX11_isReady 13 = .ok (.aload_n 0, 1) := by decide +kernel
theorem dX11_isReady_14 : decode cX11_isReady 14 = .ok (.iload_n 1, 1) := by decide +kernel
theorem dX11_isReady_15 : decode cX11_isReady 15 = .ok (.invokevirtual 426, 3) := by decide +kernel
theorem dX11_isReady_18 : decode cX11_isReady 18 = .ok (.ifCond .lt 7, 3) := by decide +kernel
theorem dX11_isReady_21 : decode cX11_isReady 21 = .ok (.iconst 1, 1) := by decide +kernel
theorem dX11_isReady_22 : decode cX11_isReady 22 = .ok (.goto 4, 3) := by decide +kernel
theorem dX11_isReady_25 : decode cX11_isReady 25 = .ok (.iconst 0, 1) := by decide +kernel
theorem dX11_isReady_26 : decode cX11_isReady 26 = .ok (.ireturn, 1) := by decide +kernel
theorem dX11_readyMany_0 : decode cX11_readyMany 0 = .ok (.iconst 0, 1) := by decide +kernel
theorem dX11_readyMany_1 : decode cX11_readyMany 1 = .ok (.istore_n 1, 1) := by decide +kernel
theorem dX11_readyMany_2 : decode cX11_readyMany 2 = .ok (.iconst 0, 1) := by decide +kernel
theorem dX11_readyMany_3 : decode cX11_readyMany 3 = .ok (.istore_n 2, 1) := by decide +kernel
theorem dX11_readyMany_4 : decode cX11_readyMany 4 = .ok (.iload_n 2, 1) := by decide +kernel
theorem dX11_readyMany_5 : decode cX11_readyMany 5 = .ok (.aload_n 0, 1) := by decide +kernel
theorem dX11_readyMany_6 : decode cX11_readyMany 6 = .ok (.getfield 189, 3) := by decide +kernel
theorem dX11_readyMany_9 : decode cX11_readyMany 9 = .ok (.if_icmp .ge 25, 3) := by decide +kernel
theorem dX11_readyMany_12 : decode cX11_readyMany 12 = .ok (.iload_n 1, 1) := by decide +kernel
theorem dX11_readyMany_13 : decode cX11_readyMany 13 = .ok (.aload_n 0, 1) := by decide +kernel
theorem dX11_readyMany_14 : decode cX11_readyMany 14 = .ok (.iload_n 2, 1) := by decide +kernel
theorem dX11_readyMany_15 : decode cX11_readyMany 15 = .ok (.invokevirtual 429, 3) := by decide +kernel
theorem dX11_readyMany_18 : decode cX11_readyMany 18 = .ok (.ifCond .eq 7, 3) := by decide +kernel
theorem dX11_readyMany_21 : decode cX11_readyMany 21 = .ok (.iconst 1, 1) := by decide +kernel
theorem dX11_readyMany_22 : decode cX11_readyMany 22 = .ok (.goto 4, 3) := by decide +kernel
theorem dX11_readyMany_25 : decode cX11_readyMany 25 = .ok (.iconst 0, 1) := by decide +kernel
theorem dX11_readyMany_26 : decode cX11_readyMany 26 = .ok (.iadd, 1) := by decide +kernel
theorem dX11_readyMany_27 : decode cX11_readyMany 27 = .ok (.istore_n 1, 1) := by decide +kernel
theorem dX11_readyMany_28 : decode cX11_readyMany 28 = .ok (.iinc 2 1, 3) := by decide +kernel
theorem dX11_readyMany_31 : decode cX11_readyMany 31 = .ok (.goto (-27), 3) := by decide +kernel
theorem dX11_readyMany_34 : decode cX11_readyMany 34 = .ok (.iload_n 1, 1) := by decide +kernel
theorem dX11_readyMany_35 : decode cX11_readyMany 35 = .ok (.ireturn, 1) := by decide +kernel
theorem dX11_byChance_0 : decode cX11_byChance 0 = .ok (.aload_n 0, 1) := by decide +kernel
theorem dX11_byChance_1 : decode cX11_byChance 1 = .ok (.invokevirtual 402, 3) := by decide +kernel
theorem dX11_byChance_4 : decode cX11_byChance 4 = .ok (.iconst 0, 1) := by decide +kernel
theorem dX11_byChance_5 : decode cX11_byChance 5 = .ok (.istore_n 1, 1) := by decide +kernel
theorem dX11_byChance_6 : decode cX11_byChance 6 = .ok (.iload_n 1, 1) := by decide +kernel
theorem dX11_byChance_7 : decode cX11_byChance 7 = .ok (.iconst 5, 1) := by decide +kernel
theorem dX11_byChance_8 : decode cX11_byChance 8 = .ok (.if_icmp .ge 16, 3) := by decide +kernel
theorem dX11_byChance_11 : decode cX11_byChance 11 = .ok (.aload_n 0, 1) := by decide +kernel
theorem dX11_byChance_12 : decode cX11_byChance 12 = .ok (.getfield 68, 3) := by decide +kernel
theorem dX11_byChance_15 : decode cX11_byChance 15 = .ok (.iload_n 1, 1) := by decide +kernel
theorem dX11_byChance_16 : decode cX11_byChance 16 = .ok (.iconst 0, 1) := by decide +kernel
theorem dX11_byChance_17 : decode cX11_byChance 17 = .ok (.iastore, 1) := by decide +kernel
theorem dX11_byChance_18 : decode cX11_byChance 18 = .ok (.iinc 1 1, 3) := by decide +kernel
theorem dX11_byChance_21 : decode cX11_byChance 21 = .ok (.goto (-15), 3) := by decide +kernel
theorem dX11_byChance_24 : decode cX11_byChance 24 = .ok (.aload_n 0, 1) := by decide +kernel
theorem dX11_byChance_25 : decode cX11_byChance 25 = .ok (.invokevirtual 432, 3) := by decide +kernel
theorem dX11_byChance_28 : decode cX11_byChance 28 = .ok (.ifCond .le 99, 3) := by decide +kernel
theorem dX11_byChance_31 : decode cX11_byChance 31 = .ok (.aload_n 0, 1) := by decide +kernel
theorem dX11_byChance_32 : decode cX11_byChance 32 = .ok (.aload_n 0, 1) := by decide +kernel
theorem dX11_byChance_33 : decode cX11_byChance 33 = .ok (.getfield 435, 3) := by decide +kernel
theorem dX11_byChance_36 : decode cX11_byChance 36 = .ok (.ldc2_w 439, 3) := by decide +kernel
theorem dX11_byChance_39 : decode cX11_byChance 39 = .ok (.lmul, 1) := by decide +kernel
theorem dX11_byChance_40 : decode cX11_byChance 40 = .ok (.ldc2_w 441, 3) := by decide +kernel
theorem dX11_byChance_43 : decode cX11_byChance 43 = .ok (.ladd, 1) := by decide +kernel
theorem dX11_byChance_44 : decode cX11_byChance 44 = .ok (.ldc2_w 443, 3) := by decide +kernel
theorem dX11_byChance_47 : decode cX11_byChance 47 = .ok (.land, 1) := by decide +kernel
theorem dX11_byChance_48 : decode cX11_byChance 48 = .ok (.putfield 435, 3) := by decide +kernel
theorem dX11_byChance_51 : decode cX11_byChance 51 = .ok (.aload_n 0, 1) := by decide +kernel
theorem dX11_byChance_52 : decode cX11_byChance 52 = .ok (.getfield 435, 3) := by decide +kernel
theorem dX11_byChance_55 : decode cX11_byChance 55 = .ok (.ldc2_w 445, 3) := by decide +kernel
theorem dX11_byChance_58 : decode cX11_byChance 58 = .ok (.ldiv, 1) := by decide +kernel
theorem dX11_byChance_59 : decode cX11_byChance 59 = .ok (.aload_n 0, 1) := by decide +kernel
theorem dX11_byChance_60 : decode cX11_byChance 60 = .ok (.invokevirtual 432, 3) := by decide +kernel
theorem dX11_byChance_63 : decode cX11_byChance 63 = .ok (.i2l, 1) := by decide +kernel
theorem dX11_byChance_64 : decode cX11_byChance 64 = .ok (.lrem, 1) := by decide +kernel
theorem dX11_byChance_65 : decode cX11_byChance 65 = .ok (.l2i, 1) := by decide +kernel
theorem dX11_byChance_66 : decode cX11_byChance 66 = .ok (.istore_n 1, 1) := by decide +kernel
theorem dX11_byChance_67 : decode cX11_byChance 67 = .ok (.iconst 0, 1) := by decide +kernel
theorem dX11_byChance_68 : decode cX11_byChance 68 = .ok (.istore_n 2, 1) := by decide +kernel
theorem dX11_byChance_69 : decode cX11_byChance 69 = .ok (.iload_n 1, 1) := by decide +kernel
theorem dX11_byChance_70 : decode cX11_byChance 70 = .ok (.ifCond .gt 11, 3) := by decide +kernel
theorem dX11_byChance_73 : decode cX11_byChance 73 = .ok (.aload_n 0, 1) := by decide +kernel
theorem dX11_byChance_74 : decode cX11_byChance 74 = .ok (.iload_n 2, 1) := by decide +kernel
theorem dX11_byChance_75 : decode cX11_byChance 75 = .ok (.invokevirtual 429, 3) := by decide +kernel
theorem dX11_byChance_78 : decode cX11_byChance 78 = .ok (.ifCond .ne 25, 3) := by decide +kernel
theorem dX11_byChance_81 : decode cX11_byChance 81 = .ok (.iload_n 1, 1) := by decide +kernel
theorem dX11_byChance_82 : decode cX11_byChance 82 = .ok (.aload_n 0, 1) := by decide +kernel
theorem dX11_byChance_83 : decode cX11_byChance 83 = .ok (.iload_n 2, 1) := by decide +kernel
theorem dX11_byChance_84 : decode cX11_byChance 84 = .ok (.invokevirtual 429, 3) := by decide +kernel
theorem dX11_byChance_87 : decode cX11_byChance 87 = .ok (.ifCond .eq 7, 3) := by decide +kernel
theorem dX11_byChance_90 : decode cX11_byChance 90 = .ok (.iconst 1, 1) := by decide +kernel
theorem dX11_byChance_91 : decode cX11_byChance 91 = .ok (.goto 4, 3) := by decide +kernel
theorem dX11_byChance_94 : decode cX11_byChance 94 = .ok (.iconst 0, 1) := by decide +kernel
theorem dX11_byChance_95 : decode cX11_byChance 95 = .ok (.isub, 1) := by decide +kernel
theorem dX11_byChance_96 : decode cX11_byChance 96 = .ok (.istore_n 1, 1) := by decide +kernel
theorem dX11_byChance_97 : decode cX11_byChance 97 = .ok (.iinc 2 1, 3) := by decide +kernel
theorem dX11_byChance_100 : decode cX11_byChance 100 = .ok (.goto (-31), 3) := by decide +kernel
theorem dX11_byChance_103 : decode cX11_byChance 103 = .ok (.aload_n 0, 1) := by decide +kernel
theorem dX11_byChance_104 : decode cX11_byChance 104 = .ok (.iload_n 2, 1) := by decide +kernel
theorem dX11_byChance_105 : decode cX11_byChance 105 = .ok (.invokevirtual 426, 3) := by decide +kernel
theorem dX11_byChance_108 : decode cX11_byChance 108 = .ok (.istore_n 3, 1) := by decide +kernel
theorem dX11_byChance_109 : decode cX11_byChance 109 = .ok (.aload_n 0, 1) := by decide +kernel
theorem dX11_byChance_110 : decode cX11_byChance 110 = .ok (.getfield 68, 3) := by decide +kernel
theorem dX11_byChance_113 : decode cX11_byChance 113 = .ok (.iload_n 2, 1) := by decide +kernel
theorem dX11_byChance_114 : decode cX11_byChance 114 = .ok (.iload_n 3, 1) := by decide +kernel
theorem dX11_byChance_115 : decode cX11_byChance 115 = .ok (.iconst 1, 1) := by decide +kernel
theorem dX11_byChance_116 : decode cX11_byChance 116 = .ok (.iadd, 1) := by decide +kernel
theorem dX11_byChance_117 : decode cX11_byChance 117 = .ok (.iastore, 1) := by decide +kernel
theorem dX11_byChance_118 : decode cX11_byChance 118 = .ok (.aload_n 0, 1) := by decide +kernel
theorem dX11_byChance_119 : decode cX11_byChance 119 = .ok (.iload_n 3, 1) := by decide +kernel
theorem dX11_byChance_120 : decode cX11_byChance 120 = .ok (.invokevirtual 360, 3) := by decide +kernel
theorem dX11_byChance_123 : decode cX11_byChance 123 = .ok (.pop, 1) := by decide +kernel
theorem dX11_byChance_124 : decode cX11_byChance 124 = .ok (.goto (-100), 3) := by decide +kernel
theorem dX11_byChance_127 : decode cX11_byChance 127 = .ok (.return_, 1) := by decide +kernel
theorem dX11_chance_0 : decode cX11_chance 0 = .ok (.aload_n 0, 1) := by decide +kernel
theorem dX11_chance_1 : decode cX11_chance 1 = .ok (.iconst 0, 1) := by decide +kernel
theorem dX11_chance_2 : decode cX11_chance 2 = .ok (.putfield 77, 3) := by decide +kernel
theorem dX11_chance_5 : decode cX11_chance 5 = .ok (.iload_n 1, 1) := by decide +kernel
theorem dX11_chance_6 : decode cX11_chance 6 = .ok (.ifCond .ge 5, 3) := by decide +kernel
theorem dX11_chance_9 : decode cX11_chance 9 = .ok (.iconst (-1), 1) := by decide +kernel
theorem dX11_chance_10 : decode cX11_chance 10 = .ok (.ireturn, 1) := by decide +kernel
theorem dX11_chance_11 : decode cX11_chance 11 = .ok (.aload_n 0, 1) := by decide +kernel
theorem dX11_chance_12 : decode cX11_chance 12 = .ok (.iload_n 1, 1) := by decide +kernel
theorem dX11_chance_13 : decode cX11_chance 13 = .ok (.i2l, 1) := by decide +kernel
theorem dX11_chance_14 : decode cX11_chance 14 = .ok (.putfield 435, 3) := by decide +kernel
theorem dX11_chance_17 : decode cX11_chance 17 = .ok (.iconst 0, 1) := by decide +kernel
theorem dX11_chance_18 : decode cX11_chance 18 = .ok (.istore_n 2, 1) := by decide +kernel
theorem dX11_chance_19 : decode cX11_chance 19 = .ok (.iconst 0, 1) := by decide +kernel
theorem dX11_chance_20 : decode cX11_chance 20 = .ok (.istore_n 3, 1) := by decide +kernel
theorem dX11_chance_21 : decode cX11_chance 21 = .ok (.iload_n 3, 1) := by decide +kernel
theorem dX11_chance_22 : decode cX11_chance 22 = .ok (.bipush 10, 2) := by decide +kernel
theorem dX11_chance_24 : decode cX11_chance 24 = .ok (.if_icmp .ge 28, 3) := by decide +kernel
theorem dX11_chance_27 : decode cX11_chance 27 = .ok (.aload_n 0, 1) := by decide +kernel
theorem dX11_chance_28 : decode cX11_chance 28 = .ok (.invokevirtual 447, 3) := by decide +kernel
theorem dX11_chance_31 : decode cX11_chance 31 = .ok (.iload_n 2, 1) := by decide +kernel
theorem dX11_chance_32 : decode cX11_chance 32 = .ok (.aload_n 0, 1) := by decide +kernel
theorem dX11_chance_33 : decode cX11_chance 33 = .ok (.invokevirtual 450, 3) := by decide +kernel
theorem dX11_chance_36 : decode cX11_chance 36 = .ok (.ifCond .le 7, 3) := by decide +kernel
theorem dX11_chance_39 : decode cX11_chance 39 = .ok (.iconst 1, 1) := by decide +kernel
theorem dX11_chance_40 : decode cX11_chance 40 = .ok (.goto 4, 3) := by decide +kernel
theorem dX11_chance_43 : decode cX11_chance 43 = .ok (.iconst 0, 1) := by decide +kernel
theorem dX11_chance_44 : decode cX11_chance 44 = .ok (.iadd, 1) := by decide +kernel
theorem dX11_chance_45 : decode cX11_chance 45 = .ok (.istore_n 2, 1) := by decide +kernel
theorem dX11_chance_46 : decode cX11_chance 46 = .ok (.iinc 3 1, 3) := by decide +kernel
theorem dX11_chance_49 : decode cX11_chance 49 = .ok (.goto (-28), 3) := by decide +kernel
theorem dX11_chance_52 : decode cX11_chance 52 = .ok (.aload_n 0, 1) := by decide +kernel
theorem dX11_chance_53 : decode cX11_chance 53 = .ok (.invokevirtual 423, 3) := by decide +kernel
theorem dX11_chance_56 : decode cX11_chance 56 = .ok (.iload_n 2, 1) := by decide +kernel
theorem dX11_chance_57 : decode cX11_chance 57 = .ok (.ireturn, 1) := by decide +kernel
theorem dX11_fate_0 : decode cX11_fate 0 = .ok (.aload_n 0, 1) := by decide +kernel
theorem dX11_fate_1 : decode cX11_fate 1 = .ok (.iconst 0, 1) := by decide +kernel
theorem dX11_fate_2 : decode cX11_fate 2 = .ok (.putfield 77, 3) := by decide +kernel
theorem dX11_fate_5 : decode cX11_fate 5 = .ok (.iload_n 1, 1) := by decide +kernel
theorem dX11_fate_6 : decode cX11_fate 6 = .ok (.ifCond .ge 5, 3) := by decide +kernel
theorem dX11_fate_9 : decode cX11_fate 9 = .ok (.iconst (-1), 1) := by decide +kernel
theorem dX11_fate_10 : decode cX11_fate 10 = .ok (.ireturn, 1) := by decide +kernel
theorem dX11_fate_11 : decode cX11_fate 11 = .ok (.aload_n 0, 1) := by decide +kernel
theorem dX11_fate_12 : decode cX11_fate 12 = .ok (.iload_n 2, 1) := by decide +kernel
theorem dX11_fate_13 : decode cX11_fate 13 = .ok (.invokevirtual 341, 3) := by decide +kernel
theorem dX11_fate_16 : decode cX11_fate 16 = .ok (.ifCond .ne 6, 3) := by decide +kernel
theorem dX11_fate_19 : decode cX11_fate 19 = .ok (.bipush (-5), 2) := by decide +kernel
theorem dX11_fate_21 : decode cX11_fate 21 = .ok (.ireturn, 1) := by decide +kernel
theorem dX11_fate_22 : decode cX11_fate 22 = .ok (.aload_n 0, 1) := by decide +kernel
theorem dX11_fate_23 : decode cX11_fate 23 = .ok (.iload_n 1, 1) := by decide +kernel
theorem dX11_fate_24 : decode cX11_fate 24 = .ok (.i2l, 1) := by decide +kernel
theorem dX11_fate_25 : decode cX11_fate 25 = .ok (.putfield 435, 3) := by decide +kernel
theorem dX11_fate_28 : decode cX11_fate 28 = .ok (.aload_n 0, 1) := by decide +kernel
theorem dX11_fate_29 : decode cX11_fate 29 = .ok (.invokevirtual 447, 3) := by decide +kernel
theorem dX11_fate_32 : decode cX11_fate 32 = .ok (.aload_n 0, 1) := by decide +kernel
theorem dX11_fate_33 : decode cX11_fate 33 = .ok (.sipush 220, 3) := by decide +kernel
theorem dX11_fate_36 : decode cX11_fate 36 = .ok (.iload_n 2, 1) := by decide +kernel
theorem dX11_fate_37 : decode cX11_fate 37 = .ok (.iadd, 1) := by decide +kernel
theorem dX11_fate_38 : decode cX11_fate 38 = .ok (.invokevirtual 234, 3) := by decide +kernel
theorem dX11_fate_41 : decode cX11_fate 41 = .ok (.istore_n 3, 1) := by decide +kernel
theorem dX11_fate_42 : decode cX11_fate 42 = .ok (.aload_n 0, 1) := by decide +kernel
theorem dX11_fate_43 : decode cX11_fate 43 = .ok (.invokevirtual 423, 3) := by decide +kernel
theorem dX11_fate_46 : decode cX11_fate 46 = .ok (.iload_n 3, 1) := by decide +kernel
theorem dX11_fate_47 : decode cX11_fate 47 = .ok (.ireturn, 1) := by decide +kernel
theorem dX11_stoppedMany_0 : decode cX11_stoppedMany 0 = .ok (.iconst 0, 1) := by decide +kernel
theorem dX11_stoppedMany_1 : decode cX11_stoppedMany 1 = .ok (.istore_n 1, 1) := by decide +kernel
theorem dX11_stoppedMany_2 : decode cX11_stoppedMany 2 = .ok (.iconst 0, 1) := by decide +kernel
theorem dX11_stoppedMany_3 : decode cX11_stoppedMany 3 = .ok (.istore_n 2, 1) := by decide +kernel
theorem dX11_stoppedMany_4 : decode cX11_stoppedMany 4 = .ok (.iload_n 2, 1) := by decide +kernel
theorem dX11_stoppedMany_5 : decode cX11_stoppedMany 5 = .ok (.aload_n 0, 1) := by decide +kernel
theorem dX11_stoppedMany_6 : decode cX11_stoppedMany 6 = .ok (.getfield 195, 3) := by decide +kernel
theorem dX11_stoppedMany_9 : decode cX11_stoppedMany 9 = .ok (.if_icmp .ge 45, 3) := by decide +kernel
theorem dX11_stoppedMany_12 : decode cX11_stoppedMany 12 = .ok (.iload_n 1, 1) := by decide +kernel
theorem dX11_stoppedMany_13 : decode cX11_stoppedMany 13 = .ok (.aload_n 0, 1) := by decide +kernel
theorem dX11_stoppedMany_14 : decode cX11_stoppedMany 14 = .ok (.sipush 230, 3) := by decide +kernel
theorem dX11_stoppedMany_17 : decode cX11_stoppedMany 17 = .ok (.iload_n 2, 1) := by decide +kernel
theorem dX11_stoppedMany_18 : decode cX11_stoppedMany 18 = .ok (.iadd, 1) := by decide +kernel
theorem dX11_stoppedMany_19 : decode cX11_stoppedMany 19 = .ok (.invokevirtual 234, 3) := by decide +kernel
theorem dX11_stoppedMany_22 : decode cX11_stoppedMany 22 = .ok (.bipush (-2), 2) := by decide +kernel
theorem dX11_stoppedMany_24 : decode cX11_stoppedMany 24 = .ok (.if_icmp .eq 17, 3) := by decide +kernel
theorem dX11_stoppedMany_27 : decode cX11_stoppedMany 27 = .ok (.aload_n 0, 1) := by decide +kernel
theorem dX11_stoppedMany_28 : decode cX11_stoppedMany 28 = .ok (.sipush 230, 3) := by decide +kernel
theorem dX11_stoppedMany_31 : decode cX11_stoppedMany 31 = .ok (.iload_n 2, 1) := by decide +kernel
theorem dX11_stoppedMany_32 : decode cX11_stoppedMany 32 = .ok (.iadd, 1) := by decide +kernel
theorem dX11_stoppedMany_33 : decode cX11_stoppedMany 33 = .ok (.invokevirtual 234, 3) := by decide +kernel
theorem dX11_stoppedMany_36 : decode cX11_stoppedMany 36 = .ok (.bipush (-3), 2) := by decide +kernel
theorem dX11_stoppedMany_38 : decode cX11_stoppedMany 38 = .ok (.if_icmp .ne 7, 3) := by decide +kernel
theorem dX11_stoppedMany_41 : decode cX11_stoppedMany 41 = .ok (.iconst 1, 1) := by decide +kernel
theorem dX11_stoppedMany_42 : decode cX11_stoppedMany 42 = .ok (.goto 4, 3) := by decide +kernel
theorem dX11_stoppedMany_45 : decode cX11_stoppedMany 45 = .ok (.iconst 0, 1) := by decide +kernel
theorem dX11_stoppedMany_46 : decode cX11_stoppedMany 46 = .ok (.iadd, 1) := by decide +kernel
theorem dX11_stoppedMany_47 : decode cX11_stoppedMany 47 = .ok (.istore_n 1, 1) := by decide +kernel
theorem dX11_stoppedMany_48 : decode cX11_stoppedMany 48 = .ok (.iinc 2 1, 3) := by decide +kernel
theorem dX11_stoppedMany_51 : decode cX11_stoppedMany 51 = .ok (.goto (-47), 3) := by decide +kernel
theorem dX11_stoppedMany_54 : decode cX11_stoppedMany 54 = .ok (.iload_n 1, 1) := by decide +kernel
theorem dX11_stoppedMany_55 : decode cX11_stoppedMany 55 = .ok (.ireturn, 1) := by decide +kernel
theorem dX11_leavesOut_0 : decode cX11_leavesOut 0 = .ok (.aload_n 0, 1) := by decide +kernel
theorem dX11_leavesOut_1 : decode cX11_leavesOut 1 = .ok (.iconst 0, 1) := by decide +kernel
theorem dX11_leavesOut_2 : decode cX11_leavesOut 2 = .ok (.putfield 247, 3) := by decide +kernel
theorem dX11_leavesOut_5 : decode cX11_leavesOut 5 = .ok (.iconst 0, 1) := by decide +kernel
theorem dX11_leavesOut_6 : decode cX11_leavesOut 6 = .ok (.istore_n 3, 1) := by decide +kernel
theorem dX11_leavesOut_7 : decode cX11_leavesOut 7 = .ok (.iload_n 3, 1) := by decide +kernel
theorem dX11_leavesOut_8 : decode cX11_leavesOut 8 = .ok (.aload_n 0, 1) := by decide +kernel
theorem dX11_leavesOut_9 : decode cX11_leavesOut 9 = .ok (.getfield 195, 3) := by decide +kernel
theorem dX11_leavesOut_12 : decode cX11_leavesOut 12 = .ok (.if_icmp .ge 47, 3) := by decide +kernel
theorem dX11_leavesOut_15 : decode cX11_leavesOut 15 = .ok (.iload_n 3, 1) := by decide +kernel
theorem dX11_leavesOut_16 : decode cX11_leavesOut 16 = .ok (.iload_n 1, 1) := by decide +kernel
theorem dX11_leavesOut_17 : decode cX11_leavesOut 17 = .ok (.if_icmp .eq 36, 3) := by decide +kernel
theorem dX11_leavesOut_20 : decode cX11_leavesOut 20 = .ok (.aload_n 0, 1) := by decide +kernel
theorem dX11_leavesOut_21 : decode cX11_leavesOut 21 = .ok (.getfield 32, 3) := by decide +kernel
theorem dX11_leavesOut_24 : decode cX11_leavesOut 24 = .ok (.iload_n 3, 1) := by decide +kernel
theorem dX11_leavesOut_25 : decode cX11_leavesOut 25 = .ok (.iaload, 1) := by decide +kernel
theorem dX11_leavesOut_26 : decode cX11_leavesOut 26 = .ok (.iload_n 2, 1) := by decide +kernel
theorem dX11_leavesOut_27 : decode cX11_leavesOut 27 = .ok (.if_icmp .ne 6, 3) := by decide +kernel
theorem dX11_leavesOut_30 : decode cX11_leavesOut 30 = .ok (.goto 23, 3) := by decide +kernel
theorem dX11_leavesOut_33 : decode cX11_leavesOut 33 = .ok (.aload_n 0, 1) := by decide +kernel
theorem dX11_leavesOut_34 : decode cX11_leavesOut 34 = .ok (.getfield 59, 3) := by decide +kernel
theorem dX11_leavesOut_37 : decode cX11_leavesOut 37 = .ok (.aload_n 0, 1) := by decide +kernel
theorem dX11_leavesOut_38 : decode cX11_leavesOut 38 = .ok (.getfield 247, 3) := by decide +kernel
theorem dX11_leavesOut_41 : decode cX11_leavesOut 41 = .ok (.iload_n 3, 1) := by decide +kernel
theorem dX11_leavesOut_42 : decode cX11_leavesOut 42 = .ok (.iastore, 1) := by decide +kernel
theorem dX11_leavesOut_43 : decode cX11_leavesOut 43 = .ok (.aload_n 0, 1) := by decide +kernel
theorem dX11_leavesOut_44 : decode cX11_leavesOut 44 = .ok (.dup, 1) := by decide +kernel
theorem dX11_leavesOut_45 : decode cX11_leavesOut 45 = .ok (.getfield 247, 3) := by decide +kernel
theorem dX11_leavesOut_48 : decode cX11_leavesOut 48 = .ok (.iconst 1, 1) := by decide +kernel
theorem dX11_leavesOut_49 : decode cX11_leavesOut 49 = .ok (.iadd, 1) := by decide +kernel
theorem dX11_leavesOut_50 : decode cX11_leavesOut 50 = .ok (.putfield 247, 3) := by decide +kernel
theorem dX11_leavesOut_53 : decode cX11_leavesOut 53 = .ok (.iinc 3 1, 3) := by decide +kernel
theorem dX11_leavesOut_56 : decode cX11_leavesOut 56 = .ok (.goto (-49), 3) := by decide +kernel
theorem dX11_leavesOut_59 : decode cX11_leavesOut 59 = .ok (.return_, 1) := by decide +kernel
theorem dX11_tried_0 : decode cX11_tried 0 = .ok (.aload_n 0, 1) := by decide +kernel
theorem dX11_tried_1 : decode cX11_tried 1 = .ok (.iconst 0, 1) := by decide +kernel
theorem dX11_tried_2 : decode cX11_tried 2 = .ok (.putfield 77, 3) := by decide +kernel
theorem dX11_tried_5 : decode cX11_tried 5 = .ok (.iload_n 1, 1) := by decide +kernel
theorem dX11_tried_6 : decode cX11_tried 6 = .ok (.iconst 0, 1) := by decide +kernel
theorem dX11_tried_7 : decode cX11_tried 7 = .ok (.iconst 4, 1) := by decide +kernel
theorem dX11_tried_8 : decode cX11_tried 8 = .ok (.invokestatic 122, 3) := by decide +kernel
theorem dX11_tried_11 : decode cX11_tried 11 = .ok (.ifCond .eq 23, 3) := by decide +kernel
theorem dX11_tried_14 : decode cX11_tried 14 = .ok (.iload_n 1, 1) := by decide +kernel
theorem dX11_tried_15 : decode cX11_tried 15 = .ok (.iconst 2, 1) := by decide +kernel
theorem dX11_tried_16 : decode cX11_tried 16 = .ok (.if_icmp .ne 14, 3) := by decide +kernel
theorem dX11_tried_19 : decode cX11_tried 19 = .ok (.aload_n 0, 1) := by decide +kernel
theorem dX11_tried_20 : decode cX11_tried 20 = .ok (.iload_n 2, 1) := by decide +kernel
theorem dX11_tried_21 : decode cX11_tried 21 = .ok (.invokevirtual 341, 3) := by decide +kernel
theorem dX11_tried_24 : decode cX11_tried 24 = .ok (.ifCond .ne 12, 3) := by decide +kernel
theorem dX11_tried_27 : decode cX11_tried 27 = .ok (.goto 7, 3) := by decide +kernel
theorem dX11_tried_30 : decode cX11_tried 30 = .ok (.iload_n 2, 1) := by decide +kernel
theorem dX11_tried_31 : decode cX11_tried 31 = .ok (.ifCond .eq 5, 3) := by decide +kernel
theorem dX11_tried_34 : decode cX11_tried 34 = .ok (.iconst (-1), 1) := by decide +kernel
theorem dX11_tried_35 : decode cX11_tried 35 = .ok (.ireturn, 1) := by decide +kernel
theorem dX11_tried_36 : decode cX11_tried 36 = .ok (.aload_n 0, 1) := by decide +kernel
theorem dX11_tried_37 : decode cX11_tried 37 = .ok (.invokevirtual 402, 3) := by decide +kernel
theorem dX11_tried_40 : decode cX11_tried 40 = .ok (.aload_n 0, 1) := by decide +kernel
theorem dX11_tried_41 : decode cX11_tried 41 = .ok (.iload_n 1, 1) := by decide +kernel
theorem dX11_tried_42 : decode cX11_tried 42 = .ok (.iconst 1, 1) := by decide +kernel
theorem dX11_tried_43 : decode cX11_tried 43 = .ok (.if_icmp .ne 7, 3) := by decide +kernel
theorem dX11_tried_46 : decode cX11_tried 46 = .ok (.iconst 1, 1) := by decide +kernel
theorem dX11_tried_47 : decode cX11_tried 47 = .ok (.goto 4, 3) := by decide +kernel
theorem dX11_tried_50 : decode cX11_tried 50 = .ok (.iconst 0, 1) := by decide +kernel
theorem dX11_tried_51 : decode cX11_tried 51 = .ok (.putfield 237, 3) := by decide +kernel
theorem dX11_tried_54 : decode cX11_tried 54 = .ok (.iload_n 1, 1) := by decide +kernel
theorem dX11_tried_55 : decode cX11_tried 55 = .ok (.iconst 2, 1) := by decide +kernel
theorem dX11_tried_56 : decode cX11_tried 56 = .ok (.if_icmp .ne 9, 3) := by decide +kernel
theorem dX11_tried_59 : decode cX11_tried 59 = .ok (.aload_n 0, 1) := by decide +kernel
theorem dX11_tried_60 : decode cX11_tried 60 = .ok (.iconst (-1), 1) := by decide +kernel
theorem dX11_tried_61 : decode cX11_tried 61 = .ok (.iload_n 2, 1) := by decide +kernel
theorem dX11_tried_62 : decode cX11_tried 62 = .ok (.invokevirtual 453, 3) := by decide +kernel
theorem dX11_tried_65 : decode cX11_tried 65 = .ok (.aload_n 0, 1) := by decide +kernel
theorem dX11_tried_66 : decode cX11_tried 66 = .ok (.iload_n 1, 1) := by decide +kernel
theorem dX11_tried_67 : decode cX11_tried 67 = .ok (.iconst 3, 1) := by decide +kernel
theorem dX11_tried_68 : decode cX11_tried 68 = .ok (.if_icmp .ne 7, 3) := by decide +kernel
theorem dX11_tried_71 : decode cX11_tried 71 = .ok (.iconst 1, 1) := by decide +kernel
theorem dX11_tried_72 : decode cX11_tried 72 = .ok (.goto 4, 3) := by decide +kernel
theorem dX11_tried_75 : decode cX11_tried 75 = .ok (.iconst 0, 1) := by decide +kernel
theorem dX11_tried_76 : decode cX11_tried 76 = .ok (.putfield 241, 3) := by decide +kernel
theorem dX11_tried_79 : decode cX11_tried 79 = .ok (.aload_n 0, 1) := by decide +kernel
theorem dX11_tried_80 : decode cX11_tried 80 = .ok (.iload_n 1, 1) := by decide +kernel
theorem dX11_tried_81 : decode cX11_tried 81 = .ok (.iconst 4, 1) := by decide +kernel
theorem dX11_tried_82 : decode cX11_tried 82 = .ok (.if_icmp .ne 7, 3) := by decide +kernel
theorem dX11_tried_85 : decode cX11_tried 85 = .ok (.iconst 1, 1) := by decide +kernel
theorem dX11_tried_86 : decode cX11_tried 86 = .ok (.goto 4, 3) := by decide +kernel
theorem dX11_tried_89 : decode cX11_tried 89 = .ok (.iconst 0, 1) := by decide +kernel
theorem dX11_tried_90 : decode cX11_tried 90 = .ok (.putfield 244, 3) := by decide +kernel
theorem dX11_tried_93 : decode cX11_tried 93 = .ok (.aload_n 0, 1) := by decide +kernel
theorem dX11_tried_94 : decode cX11_tried 94 = .ok (.bipush 24, 2) := by decide +kernel
theorem dX11_tried_96 : decode cX11_tried 96 = .ok (.invokevirtual 396, 3) := by decide +kernel
theorem dX11_tried_99 : decode cX11_tried 99 = .ok (.aload_n 0, 1) := by decide +kernel
theorem dX11_tried_100 : decode cX11_tried 100 = .ok (.invokevirtual 456, 3) := by decide +kernel
theorem dX11_tried_103 : decode cX11_tried 103 = .ok (.istore_n 3, 1) := by decide +kernel
theorem dX11_tried_104 : decode cX11_tried 104 = .ok (.aload_n 0, 1) := by decide +kernel
theorem dX11_tried_105 : decode cX11_tried 105 = .ok (.invokevirtual 423, 3) := by decide +kernel
theorem dX11_tried_108 : decode cX11_tried 108 = .ok (.iload_n 3, 1) := by decide +kernel
theorem dX11_tried_109 : decode cX11_tried 109 = .ok (.ireturn, 1) := by decide +kernel
theorem dX11_culprit_0 : decode cX11_culprit 0 = .ok (.aload_n 0, 1) := by decide +kernel
theorem dX11_culprit_1 : decode cX11_culprit 1 = .ok (.iconst 0, 1) := by decide +kernel
theorem dX11_culprit_2 : decode cX11_culprit 2 = .ok (.putfield 77, 3) := by decide +kernel
theorem dX11_culprit_5 : decode cX11_culprit 5 = .ok (.aload_n 0, 1) := by decide +kernel
theorem dX11_culprit_6 : decode cX11_culprit 6 = .ok (.invokevirtual 402, 3) := by decide +kernel
theorem dX11_culprit_9 : decode cX11_culprit 9 = .ok (.aload_n 0, 1) := by decide +kernel
theorem dX11_culprit_10 : decode cX11_culprit 10 = .ok (.bipush 24, 2) := by decide +kernel
theorem dX11_culprit_12 : decode cX11_culprit 12 = .ok (.invokevirtual 396, 3) := by decide +kernel
theorem dX11_culprit_15 : decode cX11_culprit 15 = .ok (.aload_n 0, 1) := by decide +kernel
theorem dX11_culprit_16 : decode cX11_culprit 16 = .ok (.invokevirtual 450, 3) := by decide +kernel
theorem dX11_culprit_19 : decode cX11_culprit 19 = .ok (.ifCond .ne 8, 3) := by decide +kernel
theorem dX11_culprit_22 : decode cX11_culprit 22 = .ok (.bipush (-2), 2) := by decide +kernel
theorem dX11_culprit_24 : decode cX11_culprit 24 = .ok (.goto 5, 3) := by decide +kernel
theorem dX11_culprit_27 : decode cX11_culprit 27 = .ok (.bipush (-3), 2) := by decide +kernel
theorem dX11_culprit_29 : decode cX11_culprit 29 = .ok (.istore_n 1, 1) := by decide +kernel
theorem dX11_culprit_30 : decode cX11_culprit 30 = .ok (.iconst 0, 1) := by decide +kernel
theorem dX11_culprit_31 : decode cX11_culprit 31 = .ok (.istore_n 2, 1) := by decide +kernel
theorem dX11_culprit_32 : decode cX11_culprit 32 = .ok (.iload_n 2, 1) := by decide +kernel
theorem dX11_culprit_33 : decode cX11_culprit 33 = .ok (.aload_n 0, 1) := by decide +kernel
theorem dX11_culprit_34 : decode cX11_culprit 34 = .ok (.getfield 195, 3) := by decide +kernel
theorem dX11_culprit_37 : decode cX11_culprit 37 = .ok (.if_icmp .ge 44, 3) := by decide +kernel
theorem dX11_culprit_40 : decode cX11_culprit 40 = .ok (.iload_n 1, 1) := by decide +kernel
theorem dX11_culprit_41 : decode cX11_culprit 41 = .ok (.bipush (-3), 2) := by decide +kernel
theorem dX11_culprit_43 : decode cX11_culprit 43 = .ok (.if_icmp .ne 38, 3) := by decide +kernel
theorem dX11_culprit_46 : decode cX11_culprit 46 = .ok (.aload_n 0, 1) := by decide +kernel
theorem dX11_culprit_47 : decode cX11_culprit 47 = .ok (.invokevirtual 402, 3) := by decide +kernel
theorem dX11_culprit_50 : decode cX11_culprit 50 = .ok (.aload_n 0, 1) := by decide +kernel
theorem dX11_culprit_51 : decode cX11_culprit 51 = .ok (.iload_n 2, 1) := by decide +kernel
theorem dX11_culprit_52 : decode cX11_culprit 52 = .ok (.iconst (-1), 1) := by decide +kernel
theorem dX11_culprit_53 : decode cX11_culprit 53 = .ok (.invokevirtual 453, 3) := by decide +kernel
theorem dX11_culprit_56 : decode cX11_culprit 56 = .ok (.aload_n 0, 1) := by decide +kernel
theorem dX11_culprit_57 : decode cX11_culprit 57 = .ok (.bipush 24, 2) := by decide +kernel
theorem dX11_culprit_59 : decode cX11_culprit 59 = .ok (.invokevirtual 396, 3) := by decide +kernel
theorem dX11_culprit_62 : decode cX11_culprit 62 = .ok (.aload_n 0, 1) := by decide +kernel
theorem dX11_culprit_63 : decode cX11_culprit 63 = .ok (.invokevirtual 450, 3) := by decide +kernel
theorem dX11_culprit_66 : decode cX11_culprit 66 = .ok (.ifCond .ne 7, 3) := by decide +kernel
theorem dX11_culprit_69 : decode cX11_culprit 69 = .ok (.iload_n 2, 1) := by decide +kernel
theorem dX11_culprit_70 : decode cX11_culprit 70 = .ok (.goto 4, 3) := by decide +kernel
theorem dX11_culprit_73 : decode cX11_culprit 73 = .ok (.iload_n 1, 1) := by decide +kernel
theorem dX11_culprit_74 : decode cX11_culprit 74 = .ok (.istore_n 1, 1) := by decide +kernel
theorem dX11_culprit_75 : decode cX11_culprit 75 = .ok (.iinc 2 1, 3) := by decide +kernel
theorem dX11_culprit_78 : decode cX11_culprit 78 = .ok (.goto (-46), 3) := by decide +kernel
theorem dX11_culprit_81 : decode cX11_culprit 81 = .ok (.aload_n 0, 1) := by decide +kernel
theorem dX11_culprit_82 : decode cX11_culprit 82 = .ok (.invokevirtual 423, 3) := by decide +kernel
theorem dX11_culprit_85 : decode cX11_culprit 85 = .ok (.iload_n 1, 1) := by decide +kernel
theorem dX11_culprit_86 : decode cX11_culprit 86 = .ok (.ireturn, 1) := by decide +kernel
theorem dX11_swapped_0 : decode cX11_swapped 0 = .ok (.aload_n 0, 1) := by decide +kernel
theorem dX11_swapped_1 : decode cX11_swapped 1 = .ok (.iconst 0, 1) := by decide +kernel
theorem dX11_swapped_2 : decode cX11_swapped 2 = .ok (.putfield 77, 3) := by decide +kernel
theorem dX11_swapped_5 : decode cX11_swapped 5 = .ok (.iload_n 1, 1) := by decide +kernel
theorem dX11_swapped_6 : decode cX11_swapped 6 = .ok (.ifCond .lt 13, 3) := by decide +kernel
theorem dX11_swapped_9 : decode cX11_swapped 9 = .ok (.iload_n 1, 1) := by decide +kernel
theorem dX11_swapped_10 : decode cX11_swapped 10 = .ok (.aload_n 0, 1) := by decide +kernel
theorem dX11_swapped_11 : decode cX11_swapped 11 = .ok (.getfield 195, 3) := by decide +kernel
theorem dX11_swapped_14 : decode cX11_swapped 14 = .ok (.iconst 1, 1) := by decide +kernel
theorem dX11_swapped_15 : decode cX11_swapped 15 = .ok (.isub, 1) := by decide +kernel
theorem dX11_swapped_16 : decode cX11_swapped 16 = .ok (.if_icmp .lt 5, 3) := by decide +kernel
theorem dX11_swapped_19 : decode cX11_swapped 19 = .ok (.iconst (-1), 1) := by decide +kernel
theorem dX11_swapped_20 : decode cX11_swapped 20 = .ok (.ireturn, 1) := by decide +kernel
theorem dX11_swapped_21 : decode cX11_swapped 21 = .ok (.aload_n 0, 1) := by decide +kernel
theorem dX11_swapped_22 : decode cX11_swapped 22 = .ok (.invokevirtual 402, 3) := by decide +kernel
theorem dX11_swapped_25 : decode cX11_swapped 25 = .ok (.aload_n 0, 1) := by decide +kernel
theorem dX11_swapped_26 : decode cX11_swapped 26 = .ok (.getfield 59, 3) := by decide +kernel
theorem dX11_swapped_29 : decode cX11_swapped 29 = .ok (.iload_n 1, 1) := by decide +kernel
theorem dX11_swapped_30 : decode cX11_swapped 30 = .ok (.iload_n 1, 1) := by decide +kernel
theorem dX11_swapped_31 : decode cX11_swapped 31 = .ok (.iconst 1, 1) := by decide +kernel
theorem dX11_swapped_32 : decode cX11_swapped 32 = .ok (.iadd, 1) := by decide +kernel
theorem dX11_swapped_33 : decode cX11_swapped 33 = .ok (.iastore, 1) := by decide +kernel
theorem dX11_swapped_34 : decode cX11_swapped 34 = .ok (.aload_n 0, 1) := by decide +kernel
theorem dX11_swapped_35 : decode cX11_swapped 35 = .ok (.getfield 59, 3) := by decide +kernel
theorem dX11_swapped_38 : decode cX11_swapped 38 = .ok (.iload_n 1, 1) := by decide +kernel
theorem dX11_swapped_39 : decode cX11_swapped 39 = .ok (.iconst 1, 1) := by decide +kernel
theorem dX11_swapped_40 : decode cX11_swapped 40 = .ok (.iadd, 1) := by decide +kernel
theorem dX11_swapped_41 : decode cX11_swapped 41 = .ok (.iload_n 1, 1) := by decide +kernel
theorem dX11_swapped_42 : decode cX11_swapped 42 = .ok (.iastore, 1) := by decide +kernel
theorem dX11_swapped_43 : decode cX11_swapped 43 = .ok (.aload_n 0, 1) := by decide +kernel
theorem dX11_swapped_44 : decode cX11_swapped 44 = .ok (.bipush 24, 2) := by decide +kernel
theorem dX11_swapped_46 : decode cX11_swapped 46 = .ok (.invokevirtual 396, 3) := by decide +kernel
theorem dX11_swapped_49 : decode cX11_swapped 49 = .ok (.aload_n 0, 1) := by decide +kernel
theorem dX11_swapped_50 : decode cX11_swapped 50 = .ok (.invokevirtual 456, 3) := by decide +kernel
theorem dX11_swapped_53 : decode cX11_swapped 53 = .ok (.istore_n 2, 1) := by decide +kernel
theorem dX11_swapped_54 : decode cX11_swapped 54 = .ok (.aload_n 0, 1) := by decide +kernel
theorem dX11_swapped_55 : decode cX11_swapped 55 = .ok (.invokevirtual 423, 3) := by decide +kernel
theorem dX11_swapped_58 : decode cX11_swapped 58 = .ok (.iload_n 2, 1) := by decide +kernel
theorem dX11_swapped_59 : decode cX11_swapped 59 = .ok (.ireturn, 1) := by decide +kernel
theorem dX11_values_0 : decode cX11_values 0 = .ok (.iconst 0, 1) := by decide +kernel
theorem dX11_values_1 : decode cX11_values 1 = .ok (.istore_n 1, 1) := by decide +kernel
theorem dX11_values_2 : decode cX11_values 2 = .ok (.iconst 0, 1) := by decide +kernel
theorem dX11_values_3 : decode cX11_values 3 = .ok (.istore_n 2, 1) := by decide +kernel
theorem dX11_values_4 : decode cX11_values 4 = .ok (.iload_n 2, 1) := by decide +kernel
theorem dX11_values_5 : decode cX11_values 5 = .ok (.aload_n 0, 1) := by decide +kernel
theorem dX11_values_6 : decode cX11_values 6 = .ok (.invokevirtual 267, 3) := by decide +kernel
theorem dX11_values_9 : decode cX11_values 9 = .ok (.if_icmp .ge 20, 3) := by decide +kernel
theorem dX11_values_12 : decode cX11_values 12 = .ok (.iload_n 1, 1) := by decide +kernel
theorem dX11_values_13 : decode cX11_values 13 = .ok (.aload_n 0, 1) := by decide +kernel
theorem dX11_values_14 : decode cX11_values 14 = .ok (.bipush 25, 2) := by decide +kernel
theorem dX11_values_16 : decode cX11_values 16 = .ok (.iload_n 2, 1) := by decide +kernel
theorem dX11_values_17 : decode cX11_values 17 = .ok (.iadd, 1) := by decide +kernel
theorem dX11_values_18 : decode cX11_values 18 = .ok (.invokevirtual 234, 3) := by decide +kernel
theorem dX11_values_21 : decode cX11_values 21 = .ok (.iadd, 1) := by decide +kernel
theorem dX11_values_22 : decode cX11_values 22 = .ok (.istore_n 1, 1) := by decide +kernel
theorem dX11_values_23 : decode cX11_values 23 = .ok (.iinc 2 1, 3) := by decide +kernel
theorem dX11_values_26 : decode cX11_values 26 = .ok (.goto (-22), 3) := by decide +kernel
theorem dX11_values_29 : decode cX11_values 29 = .ok (.iload_n 1, 1) := by decide +kernel
theorem dX11_values_30 : decode cX11_values 30 = .ok (.ireturn, 1) := by decide +kernel
theorem dX11_wakes_0 : decode cX11_wakes 0 = .ok (.aload_n 0, 1) := by decide +kernel
theorem dX11_wakes_1 : decode cX11_wakes 1 = .ok (.iconst 0, 1) := by decide +kernel
theorem dX11_wakes_2 : decode cX11_wakes 2 = .ok (.putfield 77, 3) := by decide +kernel
theorem dX11_wakes_5 : decode cX11_wakes 5 = .ok (.aload_n 0, 1) := by decide +kernel
theorem dX11_wakes_6 : decode cX11_wakes 6 = .ok (.iload_n 1, 1) := by decide +kernel
theorem dX11_wakes_7 : decode cX11_wakes 7 = .ok (.invokevirtual 341, 3) := by decide +kernel
theorem dX11_wakes_10 : decode cX11_wakes 10 = .ok (.ifCond .eq 15, 3) := by decide +kernel
theorem dX11_wakes_13 : decode cX11_wakes 13 = .ok (.aload_n 0, 1) := by decide +kernel
theorem dX11_wakes_14 : decode cX11_wakes 14 = .ok (.sipush 170, 3) := by decide +kernel
theorem dX11_wakes_17 : decode cX11_wakes 17 = .ok (.iload_n 1, 1) := by decide +kernel
theorem dX11_wakes_18 : decode cX11_wakes 18 = .ok (.iadd, 1) := by decide +kernel
theorem dX11_wakes_19 : decode cX11_wakes 19 = .ok (.invokevirtual 234, 3) := by decide +kernel
theorem dX11_wakes_22 : decode cX11_wakes 22 = .ok (.ifCond .ne 5, 3) := by decide +kernel
theorem dX11_wakes_25 : decode cX11_wakes 25 = .ok (.iconst (-1), 1) := by decide +kernel
theorem dX11_wakes_26 : decode cX11_wakes 26 = .ok (.ireturn, 1) := by decide +kernel
theorem dX11_wakes_27 : decode cX11_wakes 27 = .ok (.aload_n 0, 1) := by decide +kernel
theorem dX11_wakes_28 : decode cX11_wakes 28 = .ok (.invokevirtual 459, 3) := by decide +kernel
theorem dX11_wakes_31 : decode cX11_wakes 31 = .ok (.aload_n 0, 1) := by decide +kernel
theorem dX11_wakes_32 : decode cX11_wakes 32 = .ok (.iload_n 1, 1) := by decide +kernel
theorem dX11_wakes_33 : decode cX11_wakes 33 = .ok (.invokevirtual 353, 3) := by decide +kernel
theorem dX11_wakes_36 : decode cX11_wakes 36 = .ok (.pop, 1) := by decide +kernel
theorem dX11_wakes_37 : decode cX11_wakes 37 = .ok (.iconst 0, 1) := by decide +kernel
theorem dX11_wakes_38 : decode cX11_wakes 38 = .ok (.istore_n 2, 1) := by decide +kernel
theorem dX11_wakes_39 : decode cX11_wakes 39 = .ok (.iconst 0, 1) := by decide +kernel
theorem dX11_wakes_40 : decode cX11_wakes 40 = .ok (.istore_n 3, 1) := by decide +kernel
theorem dX11_wakes_41 : decode cX11_wakes 41 = .ok (.iload_n 3, 1) := by decide +kernel
theorem dX11_wakes_42 : decode cX11_wakes 42 = .ok (.aload_n 0, 1) := by decide +kernel
theorem dX11_wakes_43 : decode cX11_wakes 43 = .ok (.getfield 189, 3) := by decide +kernel
theorem dX11_wakes_46 : decode cX11_wakes 46 = .ok (.if_icmp .ge 51, 3) := by decide +kernel
theorem dX11_wakes_49 : decode cX11_wakes 49 = .ok (.iload_n 2, 1) := by decide +kernel
theorem dX11_wakes_50 : decode cX11_wakes 50 = .ok (.iload_n 3, 1) := by decide +kernel
theorem dX11_wakes_51 : decode cX11_wakes 51 = .ok (.iload_n 1, 1) := by decide +kernel
theorem dX11_wakes_52 : decode cX11_wakes 52 = .ok (.if_icmp .eq 36, 3) := by decide +kernel
theorem dX11_wakes_55 : decode cX11_wakes 55 = .ok (.aload_n 0, 1) := by decide +kernel
theorem dX11_wakes_56 : decode cX11_wakes 56 = .ok (.getfield 44, 3) := by decide +kernel
theorem dX11_wakes_59 : decode cX11_wakes 59 = .ok (.sipush 170, 3) := by decide +kernel
theorem dX11_wakes_62 : decode cX11_wakes 62 = .ok (.iload_n 3, 1) := by decide +kernel
theorem dX11_wakes_63 : decode cX11_wakes 63 = .ok (.iadd, 1) := by decide +kernel
theorem dX11_wakes_64 : decode cX11_wakes 64 = .ok (.iaload, 1) := by decide +kernel
theorem dX11_wakes_65 : decode cX11_wakes 65 = .ok (.iconst 2, 1) := by decide +kernel
theorem dX11_wakes_66 : decode cX11_wakes 66 = .ok (.if_icmp .ne 22, 3) := by decide +kernel
theorem dX11_wakes_69 : decode cX11_wakes 69 = .ok (.aload_n 0, 1) := by decide +kernel
theorem dX11_wakes_70 : decode cX11_wakes 70 = .ok (.sipush 170, 3) := by decide +kernel
theorem dX11_wakes_73 : decode cX11_wakes 73 = .ok (.iload_n 3, 1) := by decide +kernel
theorem dX11_wakes_74 : decode cX11_wakes 74 = .ok (.iadd, 1) := by decide +kernel
theorem dX11_wakes_75 : decode cX11_wakes 75 = .ok (.invokevirtual 234, 3) := by decide +kernel
theorem dX11_wakes_78 : decode cX11_wakes 78 = .ok (.iconst 2, 1) := by decide +kernel
theorem dX11_wakes_79 : decode cX11_wakes 79 = .ok (.if_icmp .eq 9, 3) := by decide +kernel
theorem dX11_wakes_82 : decode cX11_wakes 82 = .ok (.iconst 1, 1) := by decide +kernel
theorem dX11_wakes_83 : decode cX11_wakes 83 = .ok (.iload_n 3, 1) := by decide +kernel
theorem dX11_wakes_84 : decode cX11_wakes 84 = .ok (.ishl, 1) := by decide +kernel
theorem dX11_wakes_85 : decode cX11_wakes 85 = .ok (.goto 4, 3) := by decide +kernel
theorem dX11_wakes_88 : decode cX11_wakes 88 = .ok (.iconst 0, 1) := by decide +kernel
theorem dX11_wakes_89 : decode cX11_wakes 89 = .ok (.ior, 1) := by decide +kernel
theorem dX11_wakes_90 : decode cX11_wakes 90 = .ok (.istore_n 2, 1) := by decide +kernel
theorem dX11_wakes_91 : decode cX11_wakes 91 = .ok (.iinc 3 1, 3) := by decide +kernel
theorem dX11_wakes_94 : decode cX11_wakes 94 = .ok (.goto (-53), 3) := by decide +kernel
theorem dX11_wakes_97 : decode cX11_wakes 97 = .ok (.aload_n 0, 1) := by decide +kernel
theorem dX11_wakes_98 : decode cX11_wakes 98 = .ok (.invokevirtual 423, 3) := by decide +kernel
theorem dX11_wakes_101 : decode cX11_wakes 101 = .ok (.iload_n 2, 1) := by decide +kernel
theorem dX11_wakes_102 : decode cX11_wakes 102 = .ok (.ireturn, 1) := by decide +kernel
theorem dX11_loses_0 : decode cX11_loses 0 = .ok (.aload_n 0, 1) := by decide +kernel
theorem dX11_loses_1 : decode cX11_loses 1 = .ok (.iconst 0, 1) := by decide +kernel
theorem dX11_loses_2 : decode cX11_loses 2 = .ok (.putfield 77, 3) := by decide +kernel
theorem dX11_loses_5 : decode cX11_loses 5 = .ok (.aload_n 0, 1) := by decide +kernel
theorem dX11_loses_6 : decode cX11_loses 6 = .ok (.iload_n 1, 1) := by decide +kernel
theorem dX11_loses_7 : decode cX11_loses 7 = .ok (.invokevirtual 341, 3) := by decide +kernel
theorem dX11_loses_10 : decode cX11_loses 10 = .ok (.ifCond .eq 15, 3) := by decide +kernel
theorem dX11_loses_13 : decode cX11_loses 13 = .ok (.aload_n 0, 1) := by decide +kernel
theorem dX11_loses_14 : decode cX11_loses 14 = .ok (.sipush 170, 3) := by decide +kernel
theorem dX11_loses_17 : decode cX11_loses 17 = .ok (.iload_n 1, 1) := by decide +kernel
theorem dX11_loses_18 : decode cX11_loses 18 = .ok (.iadd, 1) := by decide +kernel
theorem dX11_loses_19 : decode cX11_loses 19 = .ok (.invokevirtual 234, 3) := by decide +kernel
theorem dX11_loses_22 : decode cX11_loses 22 = .ok (.ifCond .ne 7, 3) := by decide +kernel
theorem dX11_loses_25 : decode cX11_loses 25 = .ok (.ldc_w 462, 3) := by decide +kernel
theorem dX11_loses_28 : decode cX11_loses 28 = .ok (.ireturn, 1) := by decide +kernel
theorem dX11_loses_29 : decode cX11_loses 29 = .ok (.aload_n 0, 1) := by decide +kernel
theorem dX11_loses_30 : decode cX11_loses 30 = .ok (.invokevirtual 463, 3) := by decide +kernel
theorem dX11_loses_33 : decode cX11_loses 33 = .ok (.istore_n 2, 1) := by decide +kernel
theorem dX11_loses_34 : decode cX11_loses 34 = .ok (.aload_n 0, 1) := by decide +kernel
theorem dX11_loses_35 : decode cX11_loses 35 = .ok (.invokevirtual 459, 3) := by decide +kernel
theorem dX11_loses_38 : decode cX11_loses 38 = .ok (.aload_n 0, 1) := by decide +kernel
theorem dX11_loses_39 : decode cX11_loses 39 = .ok (.iload_n 1, 1) := by decide +kernel
theorem dX11_loses_40 : decode cX11_loses 40 = .ok (.invokevirtual 353, 3) := by decide +kernel
theorem dX11_loses_43 : decode cX11_loses 43 = .ok (.pop, 1) := by decide +kernel
theorem dX11_loses_44 : decode cX11_loses 44 = .ok (.aload_n 0, 1) := by decide +kernel
theorem dX11_loses_45 : decode cX11_loses 45 = .ok (.invokevirtual 463, 3) := by decide +kernel
theorem dX11_loses_48 : decode cX11_loses 48 = .ok (.istore_n 3, 1) := by decide +kernel
theorem dX11_loses_49 : decode cX11_loses 49 = .ok (.aload_n 0, 1) := by decide +kernel
theorem dX11_loses_50 : decode cX11_loses 50 = .ok (.invokevirtual 423, 3) := by decide +kernel
theorem dX11_loses_53 : decode cX11_loses 53 = .ok (.iload_n 3, 1) := by decide +kernel
theorem dX11_loses_54 : decode cX11_loses 54 = .ok (.iload_n 2, 1) := by decide +kernel
theorem dX11_loses_55 : decode cX11_loses 55 = .ok (.isub, 1) := by decide +kernel
theorem dX11_loses_56 : decode cX11_loses 56 = .ok (.ireturn, 1) := by decide +kernel
theorem dX11_take_0 : decode cX11_take 0 = .ok (.aload_n 0, 1) := by decide +kernel
theorem dX11_take_1 : decode cX11_take 1 = .ok (.iconst 0, 1) := by decide +kernel
theorem dX11_take_2 : decode cX11_take 2 = .ok (.putfield 77, 3) := by decide +kernel
theorem dX11_take_5 : decode cX11_take 5 = .ok (.aload_n 0, 1) := by decide +kernel
theorem dX11_take_6 : decode cX11_take 6 = .ok (.getfield 208, 3) := by decide +kernel
theorem dX11_take_9 : decode cX11_take 9 = .ok (.bipush 16, 2) := by decide +kernel
theorem dX11_take_11 : decode cX11_take 11 = .ok (.if_icmp .ne 5, 3) := by decide +kernel
theorem dX11_take_14 : decode cX11_take 14 = .ok (.iconst (-1), 1) := by decide +kernel
theorem dX11_take_15 : decode cX11_take 15 = .ok (.ireturn, 1) := by decide +kernel
theorem dX11_take_16 : decode cX11_take 16 = .ok (.aload_n 0, 1) := by decide +kernel
theorem dX11_take_17 : decode cX11_take 17 = .ok (.iconst 0, 1) := by decide +kernel
theorem dX11_take_18 : decode cX11_take 18 = .ok (.iconst 2, 1) := by decide +kernel
theorem dX11_take_19 : decode cX11_take 19 = .ok (.aload_n 0, 1) := by decide +kernel
theorem dX11_take_20 : decode cX11_take 20 = .ok (.getfield 208, 3) := by decide +kernel
theorem dX11_take_23 : decode cX11_take 23 = .ok (.iadd, 1) := by decide +kernel
theorem dX11_take_24 : decode cX11_take 24 = .ok (.invokevirtual 264, 3) := by decide +kernel
theorem dX11_take_27 : decode cX11_take 27 = .ok (.aload_n 0, 1) := by decide +kernel
theorem dX11_take_28 : decode cX11_take 28 = .ok (.dup, 1) := by decide +kernel
theorem dX11_take_29 : decode cX11_take 29 = .ok (.getfield 208, 3) := by decide +kernel
theorem dX11_take_32 : decode cX11_take 32 = .ok (.iconst 1, 1) := by decide +kernel
theorem dX11_take_33 : decode cX11_take 33 = .ok (.iadd, 1) := by decide +kernel
theorem dX11_take_34 : decode cX11_take 34 = .ok (.putfield 208, 3) := by decide +kernel
theorem dX11_take_37 : decode cX11_take 37 = .ok (.aload_n 0, 1) := by decide +kernel
theorem dX11_take_38 : decode cX11_take 38 = .ok (.getfield 208, 3) := by decide +kernel
theorem dX11_take_41 : decode cX11_take 41 = .ok (.ireturn, 1) := by decide +kernel
theorem dX11_back_0 : decode cX11_back 0 = .ok (.aload_n 0, 1) := by decide +kernel
theorem dX11_back_1 : decode cX11_back 1 = .ok (.iconst 0, 1) := by decide +kernel
theorem dX11_back_2 : decode cX11_back 2 = .ok (.putfield 77, 3) := by decide +kernel
theorem dX11_back_5 : decode cX11_back 5 = .ok (.aload_n 0, 1) := by decide +kernel
theorem dX11_back_6 : decode cX11_back 6 = .ok (.getfield 208, 3) := by decide +kernel
theorem dX11_back_9 : decode cX11_back 9 = .ok (.ifCond .ne 5, 3) := by decide +kernel
theorem dX11_back_12 : decode cX11_back 12 = .ok (.iconst (-1), 1) := by decide +kernel
theorem dX11_back_13 : decode cX11_back 13 = .ok (.ireturn, 1) := by decide +kernel
theorem dX11_back_14 : decode cX11_back 14 = .ok (.aload_n 0, 1) := by decide +kernel
theorem dX11_back_15 : decode cX11_back 15 = .ok (.dup, 1) := by decide +kernel
theorem dX11_back_16 : decode cX11_back 16 = .ok (.getfield 208, 3) := by decide +kernel
theorem dX11_back_19 : decode cX11_back 19 = .ok (.iconst 1, 1) := by decide +kernel
theorem dX11_back_20 : decode cX11_back 20 = .ok (.isub, 1) := by decide +kernel
theorem dX11_back_21 : decode cX11_back 21 = .ok (.putfield 208, 3) := by decide +kernel
theorem dX11_back_24 : decode cX11_back 24 = .ok (.aload_n 0, 1) := by decide +kernel
theorem dX11_back_25 : decode cX11_back 25 = .ok (.iconst 2, 1) := by decide +kernel
theorem dX11_back_26 : decode cX11_back 26 = .ok (.aload_n 0, 1) := by decide +kernel
theorem dX11_back_27 : decode cX11_back 27 = .ok (.getfield 208, 3) := by decide +kernel
theorem dX11_back_30 : decode cX11_back 30 = .ok (.iadd, 1) := by decide +kernel
theorem dX11_back_31 : decode cX11_back 31 = .ok (.iconst 0, 1) := by decide +kernel
theorem dX11_back_32 : decode cX11_back 32 = .ok (.invokevirtual 264, 3) := by decide +kernel
theorem dX11_back_35 : decode cX11_back 35 = .ok (.aload_n 0, 1) := by decide +kernel
theorem dX11_back_36 : decode cX11_back 36 = .ok (.getfield 208, 3) := by decide +kernel
theorem dX11_back_39 : decode cX11_back 39 = .ok (.ireturn, 1) := by decide +kernel
theorem dX11_handsBy_0 : decode cX11_handsBy 0 = .ok (.iconst 0, 1) := by decide +kernel
theorem dX11_handsBy_1 : decode cX11_handsBy 1 = .ok (.istore_n 2, 1) := by decide +kernel
theorem dX11_handsBy_2 : decode cX11_handsBy 2 = .ok (.iconst 0, 1) := by decide +kernel
theorem dX11_handsBy_3 : decode cX11_handsBy 3 = .ok (.istore_n 3, 1) := by decide +kernel
theorem dX11_handsBy_4 : decode cX11_handsBy 4 = .ok (.iload_n 3, 1) := by decide +kernel
theorem dX11_handsBy_5 : decode cX11_handsBy 5 = .ok (.aload_n 0, 1) := by decide +kernel
theorem dX11_handsBy_6 : decode cX11_handsBy 6 = .ok (.getfield 189, 3) := by decide +kernel
theorem dX11_handsBy_9 : decode cX11_handsBy 9 = .ok (.if_icmp .ge 30, 3) := by decide +kernel
theorem dX11_handsBy_12 : decode cX11_handsBy 12 = .ok (.iload_n 2, 1) := by decide +kernel
theorem dX11_handsBy_13 : decode cX11_handsBy 13 = .ok (.aload_n 0, 1) := by decide +kernel
theorem dX11_handsBy_14 : decode cX11_handsBy 14 = .ok (.sipush 170, 3) := by decide +kernel
theorem dX11_handsBy_17 : decode cX11_handsBy 17 = .ok (.iload_n 3, 1) := by decide +kernel
theorem dX11_handsBy_18 : decode cX11_handsBy 18 = .ok (.iadd, 1) := by decide +kernel
theorem dX11_handsBy_19 : decode cX11_handsBy 19 = .ok (.invokevirtual 234, 3) := by decide +kernel
theorem dX11_handsBy_22 : decode cX11_handsBy 22 = .ok (.iload_n 1, 1) := by decide +kernel
theorem dX11_handsBy_23 : decode cX11_handsBy 23 = .ok (.if_icmp .ne 7, 3) := by decide +kernel
theorem dX11_handsBy_26 : decode cX11_handsBy 26 = .ok (.iconst 1, 1) := by decide +kernel
theorem dX11_handsBy_27 : decode cX11_handsBy 27 = .ok (.goto 4, 3) := by decide +kernel
theorem dX11_handsBy_30 : decode cX11_handsBy 30 = .ok (.iconst 0, 1) := by decide +kernel
theorem dX11_handsBy_31 : decode cX11_handsBy 31 = .ok (.iadd, 1) := by decide +kernel
theorem dX11_handsBy_32 : decode cX11_handsBy 32 = .ok (.istore_n 2, 1) := by decide +kernel
theorem dX11_handsBy_33 : decode cX11_handsBy 33 = .ok (.iinc 3 1, 3) := by decide +kernel
theorem dX11_handsBy_36 : decode cX11_handsBy 36 = .ok (.goto (-32), 3) := by decide +kernel
theorem dX11_handsBy_39 : decode cX11_handsBy 39 = .ok (.iload_n 2, 1) := by decide +kernel
theorem dX11_handsBy_40 : decode cX11_handsBy 40 = .ok (.ireturn, 1) := by decide +kernel
theorem dX11_count_0 : decode cX11_count 0 = .ok (.aload_n 0, 1) := by decide +kernel
theorem dX11_count_1 : decode cX11_count 1 = .ok (.iconst 0, 1) := by decide +kernel
theorem dX11_count_2 : decode cX11_count 2 = .ok (.putfield 77, 3) := by decide +kernel
theorem dX11_count_5 : decode cX11_count 5 = .ok (.iconst 0, 1) := by decide +kernel
theorem dX11_count_6 : decode cX11_count 6 = .ok (.istore_n 2, 1) := by decide +kernel
theorem dX11_count_7 : decode cX11_count 7 = .ok (.iload_n 1, 1) := by decide +kernel
theorem dX11_count_8 : decode cX11_count 8 = .ok (.tableswitch 204 0 11 #[64, 69, 74, 79, 84, 114, 140, 146, 152, 157, 162, 199], 64) := by decide +kernel
theorem dX11_count_72 : decode cX11_count 72 = .ok (.aload_n 0, 1) := by decide +kernel
theorem dX11_count_73 : decode cX11_count 73 = .ok (.getfield 189, 3) := by decide +kernel
theorem dX11_count_76 : decode cX11_count 76 = .ok (.ireturn, 1) := by decide +kernel
theorem dX11_count_77 : decode cX11_count 77 = .ok (.aload_n 0, 1) := by decide +kernel
theorem dX11_count_78 : decode cX11_count 78 = .ok (.invokevirtual 267, 3) := by decide +kernel
theorem dX11_count_81 : decode cX11_count 81 = .ok (.ireturn, 1) := by decide +kernel
theorem dX11_count_82 : decode cX11_count 82 = .ok (.aload_n 0, 1) := by decide +kernel
theorem dX11_count_83 : decode cX11_count 83 = .ok (.getfield 195, 3) := by decide +kernel
theorem dX11_count_86 : decode cX11_count 86 = .ok (.ireturn, 1) := by decide +kernel
theorem dX11_count_87 : decode cX11_count 87 = .ok (.aload_n 0, 1) := by decide +kernel
theorem dX11_count_88 : decode cX11_count 88 = .ok (.invokevirtual 399, 3) := by decide +kernel
theorem dX11_count_91 : decode cX11_count 91 = .ok (.ireturn, 1) := by decide +kernel
theorem dX11_count_92 : decode cX11_count 92 = .ok (.iconst 0, 1) := by decide +kernel
theorem dX11_count_93 : decode cX11_count 93 = .ok (.istore_n 3, 1) := by decide +kernel
theorem dX11_count_94 : decode cX11_count 94 = .ok (.iload_n 3, 1) := by decide +kernel
theorem dX11_count_95 : decode cX11_count 95 = .ok (.aload_n 0, 1) := by decide +kernel
theorem dX11_count_96 : decode cX11_count 96 = .ok (.getfield 195, 3) := by decide +kernel
theorem dX11_count_99 : decode cX11_count 99 = .ok (.if_icmp .ge 21, 3) := by decide +kernel
theorem dX11_count_102 : decode cX11_count 102 = .ok (.iload_n 2, 1) := by decide +kernel
theorem dX11_count_103 : decode cX11_count 103 = .ok (.aload_n 0, 1) := by decide +kernel
theorem dX11_count_104 : decode cX11_count 104 = .ok (.sipush 254, 3) := by decide +kernel
theorem dX11_count_107 : decode cX11_count 107 = .ok (.iload_n 3, 1) := by decide +kernel
theorem dX11_count_108 : decode cX11_count 108 = .ok (.iadd, 1) := by decide +kernel
theorem dX11_count_109 : decode cX11_count 109 = .ok (.invokevirtual 234, 3) := by decide +kernel
theorem dX11_count_112 : decode cX11_count 112 = .ok (.iadd, 1) := by decide +kernel
theorem dX11_count_113 : decode cX11_count 113 = .ok (.istore_n 2, 1) := by decide +kernel
theorem dX11_count_114 : decode cX11_count 114 = .ok (.iinc 3 1, 3) := by decide +kernel
theorem dX11_count_117 : decode cX11_count 117 = .ok (.goto (-23), 3) := by decide +kernel
theorem dX11_count_120 : decode cX11_count 120 = .ok (.iload_n 2, 1) := by decide +kernel
theorem dX11_count_121 : decode cX11_count 121 = .ok (.ireturn, 1) := by decide +kernel
theorem dX11_count_122 : decode cX11_count 122 = .ok (.iconst 0, 1) := by decide +kernel
theorem dX11_count_123 : decode cX11_count 123 = .ok (.istore_n 3, 1) := by decide +kernel
theorem dX11_count_124 : decode cX11_count 124 = .ok (.iload_n 3, 1) := by decide +kernel
theorem dX11_count_125 : decode cX11_count 125 = .ok (.aload_n 0, 1) := by decide +kernel
theorem dX11_count_126 : decode cX11_count 126 = .ok (.getfield 189, 3) := by decide +kernel
theorem dX11_count_129 : decode cX11_count 129 = .ok (.if_icmp .ge 17, 3) := by decide +kernel
theorem dX11_count_132 : decode cX11_count 132 = .ok (.iload_n 2, 1) := by decide +kernel
theorem dX11_count_133 : decode cX11_count 133 = .ok (.aload_n 0, 1) := by decide +kernel
theorem dX11_count_134 : decode cX11_count 134 = .ok (.iload_n 3, 1) := by decide +kernel
theorem dX11_count_135 : decode cX11_count 135 = .ok (.invokevirtual 387, 3) := by decide +kernel
theorem dX11_count_138 : decode cX11_count 138 = .ok (.iadd, 1) := by decide +kernel
theorem dX11_count_139 : decode cX11_count 139 = .ok (.istore_n 2, 1) := by decide +kernel
theorem dX11_count_140 : decode cX11_count 140 = .ok (.iinc 3 1, 3) := by decide +kernel
theorem dX11_count_143 : decode cX11_count 143 = .ok (.goto (-19), 3) := by decide +kernel
theorem dX11_count_146 : decode cX11_count 146 = .ok (.iload_n 2, 1) := by decide +kernel
theorem dX11_count_147 : decode cX11_count 147 = .ok (.ireturn, 1) := by decide +kernel
theorem dX11_count_148 : decode cX11_count 148 = .ok (.aload_n 0, 1) := by decide +kernel
theorem dX11_count_149 : decode cX11_count 149 = .ok (.iconst 1, 1) := by decide +kernel
theorem dX11_count_150 : decode cX11_count 150 = .ok (.invokevirtual 466, 3) := by decide +kernel
theorem dX11_count_153 : decode cX11_count 153 = .ok (.ireturn, 1) := by decide +kernel
theorem dX11_count_154 : decode cX11_count 154 = .ok (.aload_n 0, 1) := by decide +kernel
theorem dX11_count_155 : decode cX11_count 155 = .ok (.iconst 2, 1) := by decide +kernel
theorem dX11_count_156 : decode cX11_count 156 = .ok (.invokevirtual 466, 3) := by decide +kernel
theorem dX11_count_159 : decode cX11_count 159 = .ok (.ireturn, 1) := by decide +kernel
theorem dX11_count_160 : decode cX11_count 160 = .ok (.aload_n 0, 1) := by decide +kernel
theorem dX11_count_161 : decode cX11_count 161 = .ok (.invokevirtual 450, 3) := by decide +kernel
theorem dX11_count_164 : decode cX11_count 164 = .ok (.ireturn, 1) := by decide +kernel
theorem dX11_count_165 : decode cX11_count 165 = .ok (.aload_n 0, 1) := by decide +kernel
theorem dX11_count_166 : decode cX11_count 166 = .ok (.invokevirtual 463, 3) := by decide +kernel
theorem dX11_count_169 : decode cX11_count 169 = .ok (.ireturn, 1) := by decide +kernel
theorem dX11_count_170 : decode cX11_count 170 = .ok (.iconst 0, 1) := by decide +kernel
theorem dX11_count_171 : decode cX11_count 171 = .ok (.istore_n 3, 1) := by decide +kernel
theorem dX11_count_172 : decode cX11_count 172 = .ok (.iload_n 3, 1) := by decide +kernel
theorem dX11_count_173 : decode cX11_count 173 = .ok (.aload_n 0, 1) := by decide +kernel
theorem dX11_count_174 : decode cX11_count 174 = .ok (.invokevirtual 267, 3) := by decide +kernel
theorem dX11_count_177 : decode cX11_count 177 = .ok (.if_icmp .ge 28, 3) := by decide +kernel
theorem dX11_count_180 : decode cX11_count 180 = .ok (.iload_n 2, 1) := by decide +kernel
theorem dX11_count_181 : decode cX11_count 181 = .ok (.aload_n 0, 1) := by decide +kernel
theorem dX11_count_182 : decode cX11_count 182 = .ok (.bipush 49, 2) := by decide +kernel
theorem dX11_count_184 : decode cX11_count 184 = .ok (.iload_n 3, 1) := by decide +kernel
theorem dX11_count_185 : decode cX11_count 185 = .ok (.iadd, 1) := by decide +kernel
theorem dX11_count_186 : decode cX11_count 186 = .ok (.invokevirtual 234, 3) := by decide +kernel
theorem dX11_count_189 : decode cX11_count 189 = .ok (.ifCond .ge 7, 3) := by decide +kernel
theorem dX11_count_192 : decode cX11_count 192 = .ok (.iconst 0, 1) := by decide +kernel
theorem dX11_count_193 : decode cX11_count 193 = .ok (.goto 4, 3) := by decide +kernel
theorem dX11_count_196 : decode cX11_count 196 = .ok (.iconst 1, 1) := by decide +kernel
theorem dX11_count_197 : decode cX11_count 197 = .ok (.iadd, 1) := by decide +kernel
theorem dX11_count_198 : decode cX11_count 198 = .ok (.istore_n 2, 1) := by decide +kernel
theorem dX11_count_199 : decode cX11_count 199 = .ok (.iinc 3 1, 3) := by decide +kernel
theorem dX11_count_202 : decode cX11_count 202 = .ok (.goto (-30), 3) := by decide +kernel
theorem dX11_count_205 : decode cX11_count 205 = .ok (.iload_n 2, 1) := by decide +kernel
theorem dX11_count_206 : decode cX11_count 206 = .ok (.ireturn, 1) := by decide +kernel
theorem dX11_count_207 : decode cX11_count 207 = .ok (.aload_n 0, 1) := by decide +kernel
theorem dX11_count_208 : decode cX11_count 208 = .ok (.getfield 208, 3) := by decide +kernel
theorem dX11_count_211 : decode cX11_count 211 = .ok (.ireturn, 1) := by decide +kernel
theorem dX11_count_212 : decode cX11_count 212 = .ok (.iconst (-1), 1) := by decide +kernel
theorem dX11_count_213 : decode cX11_count 213 = .ok (.ireturn, 1) := by decide +kernel
theorem dJ6_bitCount_0f7a4_0 : decode cJ6_bitCount_0f7a4 0 = .ok (.iload_n 0, 1) := by decide +kernel
theorem dJ6_bitCount_0f7a4_1 : decode cJ6_bitCount_0f7a4 1 = .ok (.iload_n 0, 1) := by decide +kernel
theorem dJ6_bitCount_0f7a4_2 : decode cJ6_bitCount_0f7a4 2 = .ok (.iconst 1, 1) := by decide +kernel
theorem dJ6_bitCount_0f7a4_3 : decode cJ6_bitCount_0f7a4 3 = .ok (.iushr, 1) := by decide +kernel
theorem dJ6_bitCount_0f7a4_4 : decode cJ6_bitCount_0f7a4 4 = .ok (.ldc_w 265, 3) := by decide +kernel
theorem dJ6_bitCount_0f7a4_7 : decode cJ6_bitCount_0f7a4 7 = .ok (.iand, 1) := by decide +kernel
theorem dJ6_bitCount_0f7a4_8 : decode cJ6_bitCount_0f7a4 8 = .ok (.isub, 1) := by decide +kernel
theorem dJ6_bitCount_0f7a4_9 : decode cJ6_bitCount_0f7a4 9 = .ok (.istore_n 0, 1) := by decide +kernel
theorem dJ6_bitCount_0f7a4_10 : decode cJ6_bitCount_0f7a4 10 = .ok (.iload_n 0, 1) := by decide +kernel
theorem dJ6_bitCount_0f7a4_11 : decode cJ6_bitCount_0f7a4 11 = .ok (.ldc_w 266, 3) := by decide +kernel
theorem dJ6_bitCount_0f7a4_14 : decode cJ6_bitCount_0f7a4 14 = .ok (.iand, 1) := by decide +kernel
theorem dJ6_bitCount_0f7a4_15 : decode cJ6_bitCount_0f7a4 15 = .ok (.iload_n 0, 1) := by decide +kernel
theorem dJ6_bitCount_0f7a4_16 : decode cJ6_bitCount_0f7a4 16 = .ok (.iconst 2, 1) := by decide +kernel
theorem dJ6_bitCount_0f7a4_17 : decode cJ6_bitCount_0f7a4 17 = .ok (.iushr, 1) := by decide +kernel
theorem dJ6_bitCount_0f7a4_18 : decode cJ6_bitCount_0f7a4 18 = .ok (.ldc_w 266, 3) := by decide +kernel
theorem dJ6_bitCount_0f7a4_21 : decode cJ6_bitCount_0f7a4 21 = .ok (.iand, 1) := by decide +kernel
theorem dJ6_bitCount_0f7a4_22 : decode cJ6_bitCount_0f7a4 22 = .ok (.iadd, 1) := by decide +kernel
theorem dJ6_bitCount_0f7a4_23 : decode cJ6_bitCount_0f7a4 23 = .ok (.istore_n 0, 1) := by decide +kernel
theorem dJ6_bitCount_0f7a4_24 : decode cJ6_bitCount_0f7a4 24 = .ok (.iload_n 0, 1) := by decide +kernel
theorem dJ6_bitCount_0f7a4_25 : decode cJ6_bitCount_0f7a4 25 = .ok (.iload_n 0, 1) := by decide +kernel
theorem dJ6_bitCount_0f7a4_26 : decode cJ6_bitCount_0f7a4 26 = .ok (.iconst 4, 1) := by decide +kernel
theorem dJ6_bitCount_0f7a4_27 : decode cJ6_bitCount_0f7a4 27 = .ok (.iushr, 1) := by decide +kernel
theorem dJ6_bitCount_0f7a4_28 : decode cJ6_bitCount_0f7a4 28 = .ok (.iadd, 1) := by decide +kernel
theorem dJ6_bitCount_0f7a4_29 : decode cJ6_bitCount_0f7a4 29 = .ok (.ldc_w 267, 3) := by decide +kernel
theorem dJ6_bitCount_0f7a4_32 : decode cJ6_bitCount_0f7a4 32 = .ok (.iand, 1) := by decide +kernel
theorem dJ6_bitCount_0f7a4_33 : decode cJ6_bitCount_0f7a4 33 = .ok (.istore_n 0, 1) := by decide +kernel
theorem dJ6_bitCount_0f7a4_34 : decode cJ6_bitCount_0f7a4 34 = .ok (.iload_n 0, 1) := by decide +kernel
theorem dJ6_bitCount_0f7a4_35 : decode cJ6_bitCount_0f7a4 35 = .ok (.iload_n 0, 1) := by decide +kernel
theorem dJ6_bitCount_0f7a4_36 : decode cJ6_bitCount_0f7a4 36 = .ok (.bipush 8, 2) := by decide +kernel
theorem dJ6_bitCount_0f7a4_38 : decode cJ6_bitCount_0f7a4 38 = .ok (.iushr, 1) := by decide +kernel
theorem dJ6_bitCount_0f7a4_39 : decode cJ6_bitCount_0f7a4 39 = .ok (.iadd, 1) := by decide +kernel
theorem dJ6_bitCount_0f7a4_40 : decode cJ6_bitCount_0f7a4 40 = .ok (.istore_n 0, 1) := by decide +kernel
theorem dJ6_bitCount_0f7a4_41 : decode cJ6_bitCount_0f7a4 41 = .ok (.iload_n 0, 1) := by decide +kernel
theorem dJ6_bitCount_0f7a4_42 : decode cJ6_bitCount_0f7a4 42 = .ok (.iload_n 0, 1) := by decide +kernel
theorem dJ6_bitCount_0f7a4_43 : decode cJ6_bitCount_0f7a4 43 = .ok (.bipush 16, 2) := by decide +kernel
theorem dJ6_bitCount_0f7a4_45 : decode cJ6_bitCount_0f7a4 45 = .ok (.iushr, 1) := by decide +kernel
theorem dJ6_bitCount_0f7a4_46 : decode cJ6_bitCount_0f7a4 46 = .ok (.iadd, 1) := by decide +kernel
theorem dJ6_bitCount_0f7a4_47 : decode cJ6_bitCount_0f7a4 47 = .ok (.istore_n 0, 1) := by decide +kernel
theorem dJ6_bitCount_0f7a4_48 : decode cJ6_bitCount_0f7a4 48 = .ok (.iload_n 0, 1) := by decide +kernel
theorem dJ6_bitCount_0f7a4_49 : decode cJ6_bitCount_0f7a4 49 = .ok (.bipush 63, 2) := by decide +kernel
theorem dJ6_bitCount_0f7a4_51 : decode cJ6_bitCount_0f7a4 51 = .ok (.iand, 1) := by decide +kernel
theorem dJ6_bitCount_0f7a4_52 : decode cJ6_bitCount_0f7a4 52 = .ok (.ireturn, 1) := by decide +kernel
theorem dJ9_min_7cf53_0 : decode cJ9_min_7cf53 0 = .ok (.iload_n 0, 1) := by decide +kernel
theorem dJ9_min_7cf53_1 : decode cJ9_min_7cf53 1 = .ok (.iload_n 1, 1) := by decide +kernel
theorem dJ9_min_7cf53_2 : decode cJ9_min_7cf53 2 = .ok (.if_icmp .gt 7, 3) := by decide +kernel
theorem dJ9_min_7cf53_5 : decode cJ9_min_7cf53 5 = .ok (.iload_n 0, 1) := by decide +kernel
theorem dJ9_min_7cf53_6 : decode cJ9_min_7cf53 6 = .ok (.goto 4, 3) := by decide +kernel
theorem dJ9_min_7cf53_9 : decode cJ9_min_7cf53 9 = .ok (.iload_n 1, 1) := by decide +kernel
theorem dJ9_min_7cf53_10 : decode cJ9_min_7cf53 10 = .ok (.ireturn, 1) := by decide +kernel
theorem dJ7_fill_53178_0 : decode cJ7_fill_53178 0 = .ok (.iconst 0, 1) := by decide +kernel
theorem dJ7_fill_53178_1 : decode cJ7_fill_53178 1 = .ok (.istore_n 2, 1) := by decide +kernel
theorem dJ7_fill_53178_2 : decode cJ7_fill_53178 2 = .ok (.aload_n 0, 1) := by decide +kernel
theorem dJ7_fill_53178_3 : decode cJ7_fill_53178 3 = .ok (.arraylength, 1) := by decide +kernel
theorem dJ7_fill_53178_4 : decode cJ7_fill_53178 4 = .ok (.istore_n 3, 1) := by decide +kernel
theorem dJ7_fill_53178_5 : decode cJ7_fill_53178 5 = .ok (.iload_n 2, 1) := by decide +kernel
theorem dJ7_fill_53178_6 : decode cJ7_fill_53178 6 = .ok (.iload_n 3, 1) := by decide +kernel
theorem dJ7_fill_53178_7 : decode cJ7_fill_53178 7 = .ok (.if_icmp .ge 13, 3) := by decide +kernel
theorem dJ7_fill_53178_10 : decode cJ7_fill_53178 10 = .ok (.aload_n 0, 1) := by decide +kernel
theorem dJ7_fill_53178_11 : decode cJ7_fill_53178 11 = .ok (.iload_n 2, 1) := by decide +kernel
theorem dJ7_fill_53178_12 : decode cJ7_fill_53178 12 = .ok (.iload_n 1, 1) := by decide +kernel
theorem dJ7_fill_53178_13 : decode cJ7_fill_53178 13 = .ok (.iastore, 1) := by decide +kernel
theorem dJ7_fill_53178_14 : decode cJ7_fill_53178 14 = .ok (.iinc 2 1, 3) := by decide +kernel
theorem dJ7_fill_53178_17 : decode cJ7_fill_53178 17 = .ok (.goto (-12), 3) := by decide +kernel
theorem dJ7_fill_53178_20 : decode cJ7_fill_53178 20 = .ok (.return_, 1) := by decide +kernel
theorem dL_key_0 : decode cL_key 0 = .ok (.aload_n 3, 1) := by decide +kernel
theorem dL_key_1 : decode cL_key 1 = .ok (.iconst 0, 1) := by decide +kernel
theorem dL_key_2 : decode cL_key 2 = .ok (.aload_n 0, 1) := by decide +kernel
theorem dL_key_3 : decode cL_key 3 = .ok (.iload_n 1, 1) := by decide +kernel
theorem dL_key_4 : decode cL_key 4 = .ok (.iload_n 2, 1) := by decide +kernel
theorem dL_key_5 : decode cL_key 5 = .ok (.invokevirtual 7, 3) := by decide +kernel
theorem dL_key_8 : decode cL_key 8 = .ok (.i2l, 1) := by decide +kernel
theorem dL_key_9 : decode cL_key 9 = .ok (.lastore, 1) := by decide +kernel
theorem dL_key_10 : decode cL_key 10 = .ok (.goto 11, 3) := by decide +kernel
theorem dL_key_13 : decode cL_key 13 = .ok (.astore 4, 2) := by decide +kernel
theorem dL_key_15 : decode cL_key 15 = .ok (.iconst 1, 1) := by decide +kernel
theorem dL_key_16 : decode cL_key 16 = .ok (.ireturn, 1) := by decide +kernel
theorem dL_key_17 : decode cL_key 17 = .ok (.astore 4, 2) := by decide +kernel
theorem dL_key_19 : decode cL_key 19 = .ok (.iconst 2, 1) := by decide +kernel
theorem dL_key_20 : decode cL_key 20 = .ok (.ireturn, 1) := by decide +kernel
theorem dL_key_21 : decode cL_key 21 = .ok (.iconst 0, 1) := by decide +kernel
theorem dL_key_22 : decode cL_key 22 = .ok (.ireturn, 1) := by decide +kernel
theorem dL_law_0 : decode cL_law 0 = .ok (.new 8, 3) := by decide +kernel
theorem dL_law_3 : decode cL_law 3 = .ok (.dup, 1) := by decide +kernel
theorem dL_law_4 : decode cL_law 4 = .ok (.invokespecial 17, 3) := by decide +kernel
theorem dL_law_7 : decode cL_law 7 = .ok (.astore_n 1, 1) := by decide +kernel
theorem dL_law_8 : decode cL_law 8 = .ok (.new 18, 3) := by decide +kernel
theorem dL_law_11 : decode cL_law 11 = .ok (.dup, 1) := by decide +kernel
theorem dL_law_12 : decode cL_law 12 = .ok (.invokespecial 20, 3) := by decide +kernel
theorem dL_law_15 : decode cL_law 15 = .ok (.astore_n 2, 1) := by decide +kernel
theorem dL_law_16 : decode cL_law 16 = .ok (.iconst 1, 1) := by decide +kernel
theorem dL_law_17 : decode cL_law 17 = .ok (.newarray .long, 2) := by decide +kernel
theorem dL_law_19 : decode cL_law 19 = .ok (.astore_n 3, 1) := by decide +kernel
theorem dL_law_20 : decode cL_law 20 = .ok (.iconst 0, 1) := by decide +kernel
theorem dL_law_21 : decode cL_law 21 = .ok (.istore 4, 2) := by decide +kernel
theorem dL_law_23 : decode cL_law 23 = .ok (.iload 4, 2) := by decide +kernel
theorem dL_law_25 : decode cL_law 25 = .ok (.aload_n 0, 1) := by decide +kernel
theorem dL_law_26 : decode cL_law 26 = .ok (.arraylength, 1) := by decide +kernel
theorem dL_law_27 : decode cL_law 27 = .ok (.bipush 6, 2) := by decide +kernel
theorem dL_law_29 : decode cL_law 29 = .ok (.isub, 1) := by decide +kernel
theorem dL_law_30 : decode cL_law 30 = .ok (.if_icmp .gt 1811, 3) := by decide +kernel
theorem dL_law_33 : decode cL_law 33 = .ok (.aload_n 0, 1) := by decide +kernel
theorem dL_law_34 : decode cL_law 34 = .ok (.iload 4, 2) := by decide +kernel
theorem dL_law_36 : decode cL_law 36 = .ok (.iaload, 1) := by decide +kernel
theorem dL_law_37 : decode cL_law 37 = .ok (.bipush 63, 2) := by decide +kernel
theorem dL_law_39 : decode cL_law 39 = .ok (.iand, 1) := by decide +kernel
theorem dL_law_40 : decode cL_law 40 = .ok (.tableswitch 1795 0 47 #[208, 281, 306, 331, 356, 396, 433, 470, 507, 520, 533, 582, 619, 644, 705, 742, 755, 780, 829, 878, 927, 988, 1049, 1098, 1123, 1148, 1173, 1198, 1223, 1236, 1261, 1298, 1335, 1384, 1433, 1458, 1507, 1520, 1557, 1570, 1595, 1632, 1657, 1682, 1719, 1744, 1757, 1770], 208) := by decide +kernel
theorem dL_law_248 : decode cL_law 248 = .ok (.aload_n 1, 1) := by decide +kernel
theorem dL_law_249 : decode cL_law 249 = .ok (.aload_n 0, 1) := by decide +kernel
theorem dL_law_250 : decode cL_law 250 = .ok (.iload 4, 2) := by decide +kernel
theorem dL_law_252 : decode cL_law 252 = .ok (.iconst 1, 1) := by decide +kernel
theorem dL_law_253 : decode cL_law 253 = .ok (.iadd, 1) := by decide +kernel
theorem dL_law_254 : decode cL_law 254 = .ok (.iaload, 1) := by decide +kernel
theorem dL_law_255 : decode cL_law 255 = .ok (.aload_n 0, 1) := by decide +kernel
theorem dL_law_256 : decode cL_law 256 = .ok (.iload 4, 2) := by decide +kernel
theorem dL_law_258 : decode cL_law 258 = .ok (.iconst 2, 1) := by decide +kernel
theorem dL_law_259 : decode cL_law 259 = .ok (.iadd, 1) := by decide +kernel
theorem dL_law_260 : decode cL_law 260 = .ok (.iaload, 1) := by decide +kernel
theorem dL_law_261 : decode cL_law 261 = .ok (.aload_n 0, 1) := by decide +kernel
theorem dL_law_262 : decode cL_law 262 = .ok (.iload 4, 2) := by decide +kernel
theorem dL_law_264 : decode cL_law 264 = .ok (.iconst 3, 1) := by decide +kernel
theorem dL_law_265 : decode cL_law 265 = .ok (.iadd, 1) := by decide +kernel
theorem dL_law_266 : decode cL_law 266 = .ok (.iaload, 1) := by decide +kernel
theorem dL_law_267 : decode cL_law 267 = .ok (.aload_n 0, 1) := by decide +kernel
theorem dL_law_268 : decode cL_law 268 = .ok (.iload 4, 2) := by decide +kernel
theorem dL_law_270 : decode cL_law 270 = .ok (.iconst 4, 1) := by decide +kernel
theorem dL_law_271 : decode cL_law 271 = .ok (.iadd, 1) := by decide +kernel
theorem dL_law_272 : decode cL_law 272 = .ok (.iaload, 1) := by decide +kernel
theorem dL_law_273 : decode cL_law 273 = .ok (.aload_n 0, 1) := by decide +kernel
theorem dL_law_274 : decode cL_law 274 = .ok (.iload 4, 2) := by decide +kernel
theorem dL_law_276 : decode cL_law 276 = .ok (.iconst 5, 1) := by decide +kernel
theorem dL_law_277 : decode cL_law 277 = .ok (.iadd, 1) := by decide +kernel
theorem dL_law_278 : decode cL_law 278 = .ok (.iaload, 1) := by decide +kernel
theorem dL_law_279 : decode cL_law 279 = .ok (.invokevirtual 21, 3) := by decide +kernel
theorem dL_law_282 : decode cL_law 282 = .ok (.pop, 1) := by decide +kernel
theorem dL_law_283 : decode cL_law 283 = .ok (.aload_n 2, 1) := by decide +kernel
theorem dL_law_284 : decode cL_law 284 = .ok (.aload_n 0, 1) := by decide +kernel
theorem dL_law_285 : decode cL_law 285 = .ok (.iload 4, 2) := by decide +kernel
theorem dL_law_287 : decode cL_law 287 = .ok (.iconst 1, 1) := by decide +kernel
theorem dL_law_288 : decode cL_law 288 = .ok (.iadd, 1) := by decide +kernel
theorem dL_law_289 : decode cL_law 289 = .ok (.iaload, 1) := by decide +kernel
theorem dL_law_290 : decode cL_law 290 = .ok (.aload_n 0, 1) := by decide +kernel
theorem dL_law_291 : decode cL_law 291 = .ok (.iload 4, 2) := by decide +kernel
theorem dL_law_293 : decode cL_law 293 = .ok (.iconst 2, 1) := by decide +kernel
theorem dL_law_294 : decode cL_law 294 = .ok (.iadd, 1) := by decide +kernel
theorem dL_law_295 : decode cL_law 295 = .ok (.iaload, 1) := by decide +kernel
theorem dL_law_296 : decode cL_law 296 = .ok (.aload_n 0, 1) := by decide +kernel
theorem dL_law_297 : decode cL_law 297 = .ok (.iload 4, 2) := by decide +kernel
theorem dL_law_299 : decode cL_law 299 = .ok (.iconst 3, 1) := by decide +kernel
theorem dL_law_300 : decode cL_law 300 = .ok (.iadd, 1) := by decide +kernel
theorem dL_law_301 : decode cL_law 301 = .ok (.iaload, 1) := by decide +kernel
theorem dL_law_302 : decode cL_law 302 = .ok (.aload_n 0, 1) := by decide +kernel
theorem dL_law_303 : decode cL_law 303 = .ok (.iload 4, 2) := by decide +kernel
theorem dL_law_305 : decode cL_law 305 = .ok (.iconst 4, 1) := by decide +kernel
theorem dL_law_306 : decode cL_law 306 = .ok (.iadd, 1) := by decide +kernel
theorem dL_law_307 : decode cL_law 307 = .ok (.iaload, 1) := by decide +kernel
theorem dL_law_308 : decode cL_law 308 = .ok (.aload_n 0, 1) := by decide +kernel
theorem dL_law_309 : decode cL_law 309 = .ok (.iload 4, 2) := by decide +kernel
theorem dL_law_311 : decode cL_law 311 = .ok (.iconst 5, 1) := by decide +kernel
theorem dL_law_312 : decode cL_law 312 = .ok (.iadd, 1) := by decide +kernel
theorem dL_law_313 : decode cL_law 313 = .ok (.iaload, 1) := by decide +kernel
theorem dL_law_314 : decode cL_law 314 = .ok (.invokevirtual 25, 3) := by decide +kernel
theorem dL_law_317 : decode cL_law 317 = .ok (.pop, 1) := by decide +kernel
theorem dL_law_318 : decode cL_law 318 = .ok (.goto 1517, 3) := by decide +kernel
theorem dL_law_321 : decode cL_law 321 = .ok (.aload_n 1, 1) := by decide +kernel
theorem dL_law_322 : decode cL_law 322 = .ok (.aload_n 0, 1) := by decide +kernel
theorem dL_law_323 : decode cL_law 323 = .ok (.iload 4, 2) := by decide +kernel
theorem dL_law_325 : decode cL_law 325 = .ok (.iconst 1, 1) := by decide +kernel
theorem dL_law_326 : decode cL_law 326 = .ok (.iadd, 1) := by decide +kernel
theorem dL_law_327 : decode cL_law 327 = .ok (.iaload, 1) := by decide +kernel
theorem dL_law_328 : decode cL_law 328 = .ok (.invokevirtual 26, 3) := by decide +kernel
theorem dL_law_331 : decode cL_law 331 = .ok (.pop, 1) := by decide +kernel
theorem dL_law_332 : decode cL_law 332 = .ok (.aload_n 2, 1) := by decide +kernel
theorem dL_law_333 : decode cL_law 333 = .ok (.aload_n 0, 1) := by decide +kernel
theorem dL_law_334 : decode cL_law 334 = .ok (.iload 4, 2) := by decide +kernel
theorem dL_law_336 : decode cL_law 336 = .ok (.iconst 1, 1) := by decide +kernel
theorem dL_law_337 : decode cL_law 337 = .ok (.iadd, 1) := by decide +kernel
theorem dL_law_338 : decode cL_law 338 = .ok (.iaload, 1) := by decide +kernel
theorem dL_law_339 : decode cL_law 339 = .ok (.invokevirtual 30, 3) := by decide +kernel
theorem dL_law_342 : decode cL_law 342 = .ok (.pop, 1) := by decide +kernel
theorem dL_law_343 : decode cL_law 343 = .ok (.goto 1492, 3) := by decide +kernel
theorem dL_law_346 : decode cL_law 346 = .ok (.aload_n 1, 1) := by decide +kernel
theorem dL_law_347 : decode cL_law 347 = .ok (.aload_n 0, 1) := by decide +kernel
theorem dL_law_348 : decode cL_law 348 = .ok (.iload 4, 2) := by decide +kernel
theorem dL_law_350 : decode cL_law 350 = .ok (.iconst 1, 1) := by decide +kernel
theorem dL_law_351 : decode cL_law 351 = .ok (.iadd, 1) := by decide +kernel
theorem dL_law_352 : decode cL_law 352 = .ok (.iaload, 1) := by decide +kernel
theorem dL_law_353 : decode cL_law 353 = .ok (.invokevirtual 31, 3) := by decide +kernel
theorem dL_law_356 : decode cL_law 356 = .ok (.pop, 1) := by decide +kernel
theorem dL_law_357 : decode cL_law 357 = .ok (.aload_n 2, 1) := by decide +kernel
theorem dL_law_358 : decode cL_law 358 = .ok (.aload_n 0, 1) := by decide +kernel
theorem dL_law_359 : decode cL_law 359 = .ok (.iload 4, 2) := by decide +kernel
theorem dL_law_361 : decode cL_law 361 = .ok (.iconst 1, 1) := by decide +kernel
theorem dL_law_362 : decode cL_law 362 = .ok (.iadd, 1) := by decide +kernel
theorem dL_law_363 : decode cL_law 363 = .ok (.iaload, 1) := by decide +kernel
theorem dL_law_364 : decode cL_law 364 = .ok (.invokevirtual 34, 3) := by decide +kernel
theorem dL_law_367 : decode cL_law 367 = .ok (.pop, 1) := by decide +kernel
theorem dL_law_368 : decode cL_law 368 = .ok (.goto 1467, 3) := by decide +kernel
theorem dL_law_371 : decode cL_law 371 = .ok (.aload_n 1, 1) := by decide +kernel
theorem dL_law_372 : decode cL_law 372 = .ok (.aload_n 0, 1) := by decide +kernel
theorem dL_law_373 : decode cL_law 373 = .ok (.iload 4, 2) := by decide +kernel
theorem dL_law_375 : decode cL_law 375 = .ok (.iconst 1, 1) := by decide +kernel
theorem dL_law_376 : decode cL_law 376 = .ok (.iadd, 1) := by decide +kernel
theorem dL_law_377 : decode cL_law 377 = .ok (.iaload, 1) := by decide +kernel
theorem dL_law_378 : decode cL_law 378 = .ok (.invokevirtual 35, 3) := by decide +kernel
theorem dL_law_381 : decode cL_law 381 = .ok (.pop, 1) := by decide +kernel
theorem dL_law_382 : decode cL_law 382 = .ok (.aload_n 2, 1) := by decide +kernel
theorem dL_law_383 : decode cL_law 383 = .ok (.aload_n 0, 1) := by decide +kernel
theorem dL_law_384 : decode cL_law 384 = .ok (.iload 4, 2) := by decide +kernel
theorem dL_law_386 : decode cL_law 386 = .ok (.iconst 1, 1) := by decide +kernel
theorem dL_law_387 : decode cL_law 387 = .ok (.iadd, 1) := by decide +kernel
theorem dL_law_388 : decode cL_law 388 = .ok (.iaload, 1) := by decide +kernel
theorem dL_law_389 : decode cL_law 389 = .ok (.invokevirtual 38, 3) := by decide +kernel
theorem dL_law_392 : decode cL_law 392 = .ok (.pop, 1) := by decide +kernel
theorem dL_law_393 : decode cL_law 393 = .ok (.goto 1442, 3) := by decide +kernel
theorem dL_law_396 : decode cL_law 396 = .ok (.aload_n 1, 1) := by decide +kernel
theorem dL_law_397 : decode cL_law 397 = .ok (.aload_n 0, 1) := by decide +kernel
theorem dL_law_398 : decode cL_law 398 = .ok (.iload 4, 2) := by decide +kernel
theorem dL_law_400 : decode cL_law 400 = .ok (.iconst 1, 1) := by decide +kernel
theorem dL_law_401 : decode cL_law 401 = .ok (.iadd, 1) := by decide +kernel
theorem dL_law_402 : decode cL_law 402 = .ok (.iaload, 1) := by decide +kernel
theorem dL_law_403 : decode cL_law 403 = .ok (.aload_n 0, 1) := by decide +kernel
theorem dL_law_404 : decode cL_law 404 = .ok (.iload 4, 2) := by decide +kernel
theorem dL_law_406 : decode cL_law 406 = .ok (.iconst 2, 1) := by decide +kernel
theorem dL_law_407 : decode cL_law 407 = .ok (.iadd, 1) := by decide +kernel
theorem dL_law_408 : decode cL_law 408 = .ok (.iaload, 1) := by decide +kernel
theorem dL_law_409 : decode cL_law 409 = .ok (.aload_n 3, 1) := by decide +kernel
theorem dL_law_410 : decode cL_law 410 = .ok (.invokestatic 39, 3) := by decide +kernel
theorem dL_law_413 : decode cL_law 413 = .ok (.istore 5, 2) := by decide +kernel
theorem dL_law_415 : decode cL_law 415 = .ok (.aload_n 2, 1) := by decide +kernel
theorem dL_law_416 : decode cL_law 416 = .ok (.aload_n 0, 1) := by decide +kernel
theorem dL_law_417 : decode cL_law 417 = .ok (.iload 4, 2) := by decide +kernel
theorem dL_law_419 : decode cL_law 419 = .ok (.iconst 1, 1) := by decide +kernel
theorem dL_law_420 : decode cL_law 420 = .ok (.iadd, 1) := by decide +kernel
theorem dL_law_421 : decode cL_law 421 = .ok (.iaload, 1) := by decide +kernel
theorem dL_law_422 : decode cL_law 422 = .ok (.aload_n 0, 1) := by decide +kernel
theorem dL_law_423 : decode cL_law 423 = .ok (.iload 4, 2) := by decide +kernel
theorem dL_law_425 : decode cL_law 425 = .ok (.iconst 2, 1) := by decide +kernel
theorem dL_law_426 : decode cL_law 426 = .ok (.iadd, 1) := by decide +kernel
theorem dL_law_427 : decode cL_law 427 = .ok (.iaload, 1) := by decide +kernel
theorem dL_law_428 : decode cL_law 428 = .ok (.invokevirtual 44, 3) := by decide +kernel
theorem dL_law_431 : decode cL_law 431 = .ok (.istore 6, 2) := by decide +kernel
theorem dL_law_433 : decode cL_law 433 = .ok (.goto 1402, 3) := by decide +kernel
theorem dL_law_436 : decode cL_law 436 = .ok (.aload_n 1, 1) := by decide +kernel
theorem dL_law_437 : decode cL_law 437 = .ok (.aload_n 0, 1) := by decide +kernel
theorem dL_law_438 : decode cL_law 438 = .ok (.iload 4, 2) := by decide +kernel
theorem dL_law_440 : decode cL_law 440 = .ok (.iconst 1, 1) := by decide +kernel
theorem dL_law_441 : decode cL_law 441 = .ok (.iadd, 1) := by decide +kernel
theorem dL_law_442 : decode cL_law 442 = .ok (.iaload, 1) := by decide +kernel
theorem dL_law_443 : decode cL_law 443 = .ok (.aload_n 0, 1) := by decide +kernel
theorem dL_law_444 : decode cL_law 444 = .ok (.iload 4, 2) := by decide +kernel
theorem dL_law_446 : decode cL_law 446 = .ok (.iconst 2, 1) := by decide +kernel
theorem dL_law_447 : decode cL_law 447 = .ok (.iadd, 1) := by decide +kernel
theorem dL_law_448 : decode cL_law 448 = .ok (.iaload, 1) := by decide +kernel
theorem dL_law_449 : decode cL_law 449 = .ok (.invokevirtual 45, 3) := by decide +kernel
theorem dL_law_452 : decode cL_law 452 = .ok (.aload_n 2, 1) := by decide +kernel
theorem dL_law_453 : decode cL_law 453 = .ok (.aload_n 0, 1) := by decide +kernel
theorem dL_law_454 : decode cL_law 454 = .ok (.iload 4, 2) := by decide +kernel
theorem dL_law_456 : decode cL_law 456 = .ok (.iconst 1, 1) := by decide +kernel
theorem dL_law_457 : decode cL_law 457 = .ok (.iadd, 1) := by decide +kernel
theorem dL_law_458 : decode cL_law 458 = .ok (.iaload, 1) := by decide +kernel
theorem dL_law_459 : decode cL_law 459 = .ok (.aload_n 0, 1) := by decide +kernel
theorem dL_law_460 : decode cL_law 460 = .ok (.iload 4, 2) := by decide +kernel
theorem dL_law_462 : decode cL_law 462 = .ok (.iconst 2, 1) := by decide +kernel
theorem dL_law_463 : decode cL_law 463 = .ok (.iadd, 1) := by decide +kernel
theorem dL_law_464 : decode cL_law 464 = .ok (.iaload, 1) := by decide +kernel
theorem dL_law_465 : decode cL_law 465 = .ok (.invokevirtual 48, 3) := by decide +kernel
theorem dL_law_468 : decode cL_law 468 = .ok (.if_icmp .eq 1367, 3) := by decide +kernel
theorem dL_law_471 : decode cL_law 471 = .ok (.iconst 0, 1) := by decide +kernel
theorem dL_law_472 : decode cL_law 472 = .ok (.ireturn, 1) := by decide +kernel
theorem dL_law_473 : decode cL_law 473 = .ok (.aload_n 1, 1) := by decide +kernel
theorem dL_law_474 : decode cL_law 474 = .ok (.aload_n 0, 1) := by decide +kernel
theorem dL_law_475 : decode cL_law 475 = .ok (.iload 4, 2) := by decide +kernel
theorem dL_law_477 : decode cL_law 477 = .ok (.iconst 1, 1) := by decide +kernel
theorem dL_law_478 : decode cL_law 478 = .ok (.iadd, 1) := by decide +kernel
theorem dL_law_479 : decode cL_law 479 = .ok (.iaload, 1) := by decide +kernel
theorem dL_law_480 : decode cL_law 480 = .ok (.aload_n 0, 1) := by decide +kernel
theorem dL_law_481 : decode cL_law 481 = .ok (.iload 4, 2) := by decide +kernel
theorem dL_law_483 : decode cL_law 483 = .ok (.iconst 2, 1) := by decide +kernel
theorem dL_law_484 : decode cL_law 484 = .ok (.iadd, 1) := by decide +kernel
theorem dL_law_485 : decode cL_law 485 = .ok (.iaload, 1) := by decide +kernel
theorem dL_law_486 : decode cL_law 486 = .ok (.invokevirtual 49, 3) := by decide +kernel
theorem dL_law_489 : decode cL_law 489 = .ok (.pop, 1) := by decide +kernel
theorem dL_law_490 : decode cL_law 490 = .ok (.aload_n 2, 1) := by decide +kernel
theorem dL_law_491 : decode cL_law 491 = .ok (.aload_n 0, 1) := by decide +kernel
theorem dL_law_492 : decode cL_law 492 = .ok (.iload 4, 2) := by decide +kernel
theorem dL_law_494 : decode cL_law 494 = .ok (.iconst 1, 1) := by decide +kernel
theorem dL_law_495 : decode cL_law 495 = .ok (.iadd, 1) := by decide +kernel
theorem dL_law_496 : decode cL_law 496 = .ok (.iaload, 1) := by decide +kernel
theorem dL_law_497 : decode cL_law 497 = .ok (.aload_n 0, 1) := by decide +kernel
theorem dL_law_498 : decode cL_law 498 = .ok (.iload 4, 2) := by decide +kernel
theorem dL_law_500 : decode cL_law 500 = .ok (.iconst 2, 1) := by decide +kernel
theorem dL_law_501 : decode cL_law 501 = .ok (.iadd, 1) := by decide +kernel
theorem dL_law_502 : decode cL_law 502 = .ok (.iaload, 1) := by decide +kernel
theorem dL_law_503 : decode cL_law 503 = .ok (.invokevirtual 52, 3) := by decide +kernel
theorem dL_law_506 : decode cL_law 506 = .ok (.pop, 1) := by decide +kernel
theorem dL_law_507 : decode cL_law 507 = .ok (.goto 1328, 3) := by decide +kernel
theorem dL_law_510 : decode cL_law 510 = .ok (.aload_n 1, 1) := by decide +kernel
theorem dL_law_511 : decode cL_law 511 = .ok (.aload_n 0, 1) := by decide +kernel
theorem dL_law_512 : decode cL_law 512 = .ok (.iload 4, 2) := by decide +kernel
theorem dL_law_514 : decode cL_law 514 = .ok (.iconst 1, 1) := by decide +kernel
theorem dL_law_515 : decode cL_law 515 = .ok (.iadd, 1) := by decide +kernel
theorem dL_law_516 : decode cL_law 516 = .ok (.iaload, 1) := by decide +kernel
theorem dL_law_517 : decode cL_law 517 = .ok (.aload_n 0, 1) := by decide +kernel
theorem dL_law_518 : decode cL_law 518 = .ok (.iload 4, 2) := by decide +kernel
theorem dL_law_520 : decode cL_law 520 = .ok (.iconst 2, 1) := by decide +kernel
theorem dL_law_521 : decode cL_law 521 = .ok (.iadd, 1) := by decide +kernel
theorem dL_law_522 : decode cL_law 522 = .ok (.iaload, 1) := by decide +kernel
theorem dL_law_523 : decode cL_law 523 = .ok (.invokevirtual 53, 3) := by decide +kernel
theorem dL_law_526 : decode cL_law 526 = .ok (.pop, 1) := by decide +kernel
theorem dL_law_527 : decode cL_law 527 = .ok (.aload_n 2, 1) := by decide +kernel
theorem dL_law_528 : decode cL_law 528 = .ok (.aload_n 0, 1) := by decide +kernel
theorem dL_law_529 : decode cL_law 529 = .ok (.iload 4, 2) := by decide +kernel
theorem dL_law_531 : decode cL_law 531 = .ok (.iconst 1, 1) := by decide +kernel
theorem dL_law_532 : decode cL_law 532 = .ok (.iadd, 1) := by decide +kernel
theorem dL_law_533 : decode cL_law 533 = .ok (.iaload, 1) := by decide +kernel
theorem dL_law_534 : decode cL_law 534 = .ok (.aload_n 0, 1) := by decide +kernel
theorem dL_law_535 : decode cL_law 535 = .ok (.iload 4, 2) := by decide +kernel
theorem dL_law_537 : decode cL_law 537 = .ok (.iconst 2, 1) := by decide +kernel
theorem dL_law_538 : decode cL_law 538 = .ok (.iadd, 1) := by decide +kernel
theorem dL_law_539 : decode cL_law 539 = .ok (.iaload, 1) := by decide +kernel
theorem dL_law_540 : decode cL_law 540 = .ok (.invokevirtual 56, 3) := by decide +kernel
theorem dL_law_543 : decode cL_law 543 = .ok (.pop, 1) := by decide +kernel
theorem dL_law_544 : decode cL_law 544 = .ok (.goto 1291, 3) := by decide +kernel
theorem dL_law_547 : decode cL_law 547 = .ok (.aload_n 1, 1) := by decide +kernel
theorem dL_law_548 : decode cL_law 548 = .ok (.invokevirtual 57, 3) := by decide +kernel
theorem dL_law_551 : decode cL_law 551 = .ok (.pop, 1) := by decide +kernel
theorem dL_law_552 : decode cL_law 552 = .ok (.aload_n 2, 1) := by decide +kernel
theorem dL_law_553 : decode cL_law 553 = .ok (.invokevirtual 61, 3) := by decide +kernel
theorem dL_law_556 : decode cL_law 556 = .ok (.pop, 1) := by decide +kernel
theorem dL_law_557 : decode cL_law 557 = .ok (.goto 1278, 3) := by decide +kernel
theorem dL_law_560 : decode cL_law 560 = .ok (.aload_n 1, 1) := by decide +kernel
theorem dL_law_561 : decode cL_law 561 = .ok (.invokevirtual 62, 3) := by decide +kernel
theorem dL_law_564 : decode cL_law 564 = .ok (.pop, 1) := by decide +kernel
theorem dL_law_565 : decode cL_law 565 = .ok (.aload_n 2, 1) := by decide +kernel
theorem dL_law_566 : decode cL_law 566 = .ok (.invokevirtual 65, 3) := by decide +kernel
theorem dL_law_569 : decode cL_law 569 = .ok (.pop, 1) := by decide +kernel
theorem dL_law_570 : decode cL_law 570 = .ok (.goto 1265, 3) := by decide +kernel
theorem dL_law_573 : decode cL_law 573 = .ok (.aload_n 1, 1) := by decide +kernel
theorem dL_law_574 : decode cL_law 574 = .ok (.aload_n 0, 1) := by decide +kernel
theorem dL_law_575 : decode cL_law 575 = .ok (.iload 4, 2) := by decide +kernel
theorem dL_law_577 : decode cL_law 577 = .ok (.iconst 1, 1) := by decide +kernel
theorem dL_law_578 : decode cL_law 578 = .ok (.iadd, 1) := by decide +kernel
theorem dL_law_579 : decode cL_law 579 = .ok (.iaload, 1) := by decide +kernel
theorem dL_law_580 : decode cL_law 580 = .ok (.aload_n 0, 1) := by decide +kernel
theorem dL_law_581 : decode cL_law 581 = .ok (.iload 4, 2) := by decide +kernel
theorem dL_law_583 : decode cL_law 583 = .ok (.iconst 2, 1) := by decide +kernel
theorem dL_law_584 : decode cL_law 584 = .ok (.iadd, 1) := by decide +kernel
theorem dL_law_585 : decode cL_law 585 = .ok (.iaload, 1) := by decide +kernel
theorem dL_law_586 : decode cL_law 586 = .ok (.aload_n 0, 1) := by decide +kernel
theorem dL_law_587 : decode cL_law 587 = .ok (.iload 4, 2) := by decide +kernel
theorem dL_law_589 : decode cL_law 589 = .ok (.iconst 3, 1) := by decide +kernel
theorem dL_law_590 : decode cL_law 590 = .ok (.iadd, 1) := by decide +kernel
theorem dL_law_591 : decode cL_law 591 = .ok (.iaload, 1) := by decide +kernel
theorem dL_law_592 : decode cL_law 592 = .ok (.invokevirtual 66, 3) := by decide +kernel
theorem dL_law_595 : decode cL_law 595 = .ok (.pop, 1) := by decide +kernel
theorem dL_law_596 : decode cL_law 596 = .ok (.aload_n 2, 1) := by decide +kernel
theorem dL_law_597 : decode cL_law 597 = .ok (.aload_n 0, 1) := by decide +kernel
theorem dL_law_598 : decode cL_law 598 = .ok (.iload 4, 2) := by decide +kernel
theorem dL_law_600 : decode cL_law 600 = .ok (.iconst 1, 1) := by decide +kernel
theorem dL_law_601 : decode cL_law 601 = .ok (.iadd, 1) := by decide +kernel
theorem dL_law_602 : decode cL_law 602 = .ok (.iaload, 1) := by decide +kernel
theorem dL_law_603 : decode cL_law 603 = .ok (.aload_n 0, 1) := by decide +kernel
theorem dL_law_604 : decode cL_law 604 = .ok (.iload 4, 2) := by decide +kernel
theorem dL_law_606 : decode cL_law 606 = .ok (.iconst 2, 1) := by decide +kernel
theorem dL_law_607 : decode cL_law 607 = .ok (.iadd, 1) := by decide +kernel
theorem dL_law_608 : decode cL_law 608 = .ok (.iaload, 1) := by decide +kernel
theorem dL_law_609 : decode cL_law 609 = .ok (.aload_n 0, 1) := by decide +kernel
theorem dL_law_610 : decode cL_law 610 = .ok (.iload 4, 2) := by decide +kernel
theorem dL_law_612 : decode cL_law 612 = .ok (.iconst 3, 1) := by decide +kernel
theorem dL_law_613 : decode cL_law 613 = .ok (.iadd, 1) := by decide +kernel
theorem dL_law_614 : decode cL_law 614 = .ok (.iaload, 1) := by decide +kernel
theorem dL_law_615 : decode cL_law 615 = .ok (.invokevirtual 70, 3) := by decide +kernel
theorem dL_law_618 : decode cL_law 618 = .ok (.pop, 1) := by decide +kernel
theorem dL_law_619 : decode cL_law 619 = .ok (.goto 1216, 3) := by decide +kernel
theorem dL_law_622 : decode cL_law 622 = .ok (.aload_n 1, 1) := by decide +kernel
theorem dL_law_623 : decode cL_law 623 = .ok (.aload_n 0, 1) := by decide +kernel
theorem dL_law_624 : decode cL_law 624 = .ok (.iload 4, 2) := by decide +kernel
theorem dL_law_626 : decode cL_law 626 = .ok (.iconst 1, 1) := by decide +kernel
theorem dL_law_627 : decode cL_law 627 = .ok (.iadd, 1) := by decide +kernel
theorem dL_law_628 : decode cL_law 628 = .ok (.iaload, 1) := by decide +kernel
theorem dL_law_629 : decode cL_law 629 = .ok (.aload_n 0, 1) := by decide +kernel
theorem dL_law_630 : decode cL_law 630 = .ok (.iload 4, 2) := by decide +kernel
theorem dL_law_632 : decode cL_law 632 = .ok (.iconst 2, 1) := by decide +kernel
theorem dL_law_633 : decode cL_law 633 = .ok (.iadd, 1) := by decide +kernel
theorem dL_law_634 : decode cL_law 634 = .ok (.iaload, 1) := by decide +kernel
theorem dL_law_635 : decode cL_law 635 = .ok (.invokevirtual 71, 3) := by decide +kernel
theorem dL_law_638 : decode cL_law 638 = .ok (.pop, 1) := by decide +kernel
theorem dL_law_639 : decode cL_law 639 = .ok (.aload_n 2, 1) := by decide +kernel
theorem dL_law_640 : decode cL_law 640 = .ok (.aload_n 0, 1) := by decide +kernel
theorem dL_law_641 : decode cL_law 641 = .ok (.iload 4, 2) := by decide +kernel
theorem dL_law_643 : decode cL_law 643 = .ok (.iconst 1, 1) := by decide +kernel
theorem dL_law_644 : decode cL_law 644 = .ok (.iadd, 1) := by decide +kernel
theorem dL_law_645 : decode cL_law 645 = .ok (.iaload, 1) := by decide +kernel
theorem dL_law_646 : decode cL_law 646 = .ok (.aload_n 0, 1) := by decide +kernel
theorem dL_law_647 : decode cL_law 647 = .ok (.iload 4, 2) := by decide +kernel
theorem dL_law_649 : decode cL_law 649 = .ok (.iconst 2, 1) := by decide +kernel
theorem dL_law_650 : decode cL_law 650 = .ok (.iadd, 1) := by decide +kernel
theorem dL_law_651 : decode cL_law 651 = .ok (.iaload, 1) := by decide +kernel
theorem dL_law_652 : decode cL_law 652 = .ok (.invokevirtual 74, 3) := by decide +kernel
theorem dL_law_655 : decode cL_law 655 = .ok (.pop, 1) := by decide +kernel
theorem dL_law_656 : decode cL_law 656 = .ok (.goto 1179, 3) := by decide +kernel
theorem dL_law_659 : decode cL_law 659 = .ok (.aload_n 1, 1) := by decide +kernel
theorem dL_law_660 : decode cL_law 660 = .ok (.aload_n 0, 1) := by decide +kernel
theorem dL_law_661 : decode cL_law 661 = .ok (.iload 4, 2) := by decide +kernel
theorem dL_law_663 : decode cL_law 663 = .ok (.iconst 1, 1) := by decide +kernel
theorem dL_law_664 : decode cL_law 664 = .ok (.iadd, 1) := by decide +kernel
theorem dL_law_665 : decode cL_law 665 = .ok (.iaload, 1) := by decide +kernel
theorem dL_law_666 : decode cL_law 666 = .ok (.invokevirtual 75, 3) := by decide +kernel
theorem dL_law_669 : decode cL_law 669 = .ok (.pop, 1) := by decide +kernel
theorem dL_law_670 : decode cL_law 670 = .ok (.aload_n 2, 1) := by decide +kernel
theorem dL_law_671 : decode cL_law 671 = .ok (.aload_n 0, 1) := by decide +kernel
theorem dL_law_672 : decode cL_law 672 = .ok (.iload 4, 2) := by decide +kernel
theorem dL_law_674 : decode cL_law 674 = .ok (.iconst 1, 1) := by decide +kernel
theorem dL_law_675 : decode cL_law 675 = .ok (.iadd, 1) := by decide +kernel
theorem dL_law_676 : decode cL_law 676 = .ok (.iaload, 1) := by decide +kernel
theorem dL_law_677 : decode cL_law 677 = .ok (.invokevirtual 78, 3) := by decide +kernel
theorem dL_law_680 : decode cL_law 680 = .ok (.pop, 1) := by decide +kernel
theorem dL_law_681 : decode cL_law 681 = .ok (.goto 1154, 3) := by decide +kernel
theorem dL_law_684 : decode cL_law 684 = .ok (.aload_n 1, 1) := by decide +kernel
theorem dL_law_685 : decode cL_law 685 = .ok (.aload_n 0, 1) := by decide +kernel
theorem dL_law_686 : decode cL_law 686 = .ok (.iload 4, 2) := by decide +kernel
theorem dL_law_688 : decode cL_law 688 = .ok (.iconst 1, 1) := by decide +kernel
theorem dL_law_689 : decode cL_law 689 = .ok (.iadd, 1) := by decide +kernel
theorem dL_law_690 : decode cL_law 690 = .ok (.iaload, 1) := by decide +kernel
theorem dL_law_691 : decode cL_law 691 = .ok (.aload_n 0, 1) := by decide +kernel
theorem dL_law_692 : decode cL_law 692 = .ok (.iload 4, 2) := by decide +kernel
theorem dL_law_694 : decode cL_law 694 = .ok (.iconst 2, 1) := by decide +kernel
theorem dL_law_695 : decode cL_law 695 = .ok (.iadd, 1) := by decide +kernel
theorem dL_law_696 : decode cL_law 696 = .ok (.iaload, 1) := by decide +kernel
theorem dL_law_697 : decode cL_law 697 = .ok (.aload_n 0, 1) := by decide +kernel
theorem dL_law_698 : decode cL_law 698 = .ok (.iload 4, 2) := by decide +kernel
theorem dL_law_700 : decode cL_law 700 = .ok (.iconst 3, 1) := by decide +kernel
theorem dL_law_701 : decode cL_law 701 = .ok (.iadd, 1) := by decide +kernel
theorem dL_law_702 : decode cL_law 702 = .ok (.iaload, 1) := by decide +kernel
theorem dL_law_703 : decode cL_law 703 = .ok (.aload_n 0, 1) := by decide +kernel
theorem dL_law_704 : decode cL_law 704 = .ok (.iload 4, 2) := by decide +kernel
theorem dL_law_706 : decode cL_law 706 = .ok (.iconst 4, 1) := by decide +kernel
theorem dL_law_707 : decode cL_law 707 = .ok (.iadd, 1) := by decide +kernel
theorem dL_law_708 : decode cL_law 708 = .ok (.iaload, 1) := by decide +kernel
theorem dL_law_709 : decode cL_law 709 = .ok (.invokevirtual 79, 3) := by decide +kernel
theorem dL_law_712 : decode cL_law 712 = .ok (.pop, 1) := by decide +kernel
theorem dL_law_713 : decode cL_law 713 = .ok (.aload_n 2, 1) := by decide +kernel
theorem dL_law_714 : decode cL_law 714 = .ok (.aload_n 0, 1) := by decide +kernel
theorem dL_law_715 : decode cL_law 715 = .ok (.iload 4, 2) := by decide +kernel
theorem dL_law_717 : decode cL_law 717 = .ok (.iconst 1, 1) := by decide +kernel
theorem dL_law_718 : decode cL_law 718 = .ok (.iadd, 1) := by decide +kernel
theorem dL_law_719 : decode cL_law 719 = .ok (.iaload, 1) := by decide +kernel
theorem dL_law_720 : decode cL_law 720 = .ok (.aload_n 0, 1) := by decide +kernel
theorem dL_law_721 : decode cL_law 721 = .ok (.iload 4, 2) := by decide +kernel
theorem dL_law_723 : decode cL_law 723 = .ok (.iconst 2, 1) := by decide +kernel
theorem dL_law_724 : decode cL_law 724 = .ok (.iadd, 1) := by decide +kernel
theorem dL_law_725 : decode cL_law 725 = .ok (.iaload, 1) := by decide +kernel
theorem dL_law_726 : decode cL_law 726 = .ok (.aload_n 0, 1) := by decide +kernel
theorem dL_law_727 : decode cL_law 727 = .ok (.iload 4, 2) := by decide +kernel
theorem dL_law_729 : decode cL_law 729 = .ok (.iconst 3, 1) := by decide +kernel
theorem dL_law_730 : decode cL_law 730 = .ok (.iadd, 1) := by decide +kernel
theorem dL_law_731 : decode cL_law 731 = .ok (.iaload, 1) := by decide +kernel
theorem dL_law_732 : decode cL_law 732 = .ok (.aload_n 0, 1) := by decide +kernel
theorem dL_law_733 : decode cL_law 733 = .ok (.iload 4, 2) := by decide +kernel
theorem dL_law_735 : decode cL_law 735 = .ok (.iconst 4, 1) := by decide +kernel
theorem dL_law_736 : decode cL_law 736 = .ok (.iadd, 1) := by decide +kernel
theorem dL_law_737 : decode cL_law 737 = .ok (.iaload, 1) := by decide +kernel
theorem dL_law_738 : decode cL_law 738 = .ok (.invokevirtual 83, 3) := by decide +kernel
theorem dL_law_741 : decode cL_law 741 = .ok (.pop, 1) := by decide +kernel
theorem dL_law_742 : decode cL_law 742 = .ok (.goto 1093, 3) := by decide +kernel
theorem dL_law_745 : decode cL_law 745 = .ok (.aload_n 1, 1) := by decide +kernel
theorem dL_law_746 : decode cL_law 746 = .ok (.aload_n 0, 1) := by decide +kernel
theorem dL_law_747 : decode cL_law 747 = .ok (.iload 4, 2) := by decide +kernel
theorem dL_law_749 : decode cL_law 749 = .ok (.iconst 1, 1) := by decide +kernel
theorem dL_law_750 : decode cL_law 750 = .ok (.iadd, 1) := by decide +kernel
theorem dL_law_751 : decode cL_law 751 = .ok (.iaload, 1) := by decide +kernel
theorem dL_law_752 : decode cL_law 752 = .ok (.aload_n 0, 1) := by decide +kernel
theorem dL_law_753 : decode cL_law 753 = .ok (.iload 4, 2) := by decide +kernel
theorem dL_law_755 : decode cL_law 755 = .ok (.iconst 2, 1) := by decide +kernel
theorem dL_law_756 : decode cL_law 756 = .ok (.iadd, 1) := by decide +kernel
theorem dL_law_757 : decode cL_law 757 = .ok (.iaload, 1) := by decide +kernel
theorem dL_law_758 : decode cL_law 758 = .ok (.invokevirtual 84, 3) := by decide +kernel
theorem dL_law_761 : decode cL_law 761 = .ok (.pop, 1) := by decide +kernel
theorem dL_law_762 : decode cL_law 762 = .ok (.aload_n 2, 1) := by decide +kernel
theorem dL_law_763 : decode cL_law 763 = .ok (.aload_n 0, 1) := by decide +kernel
theorem dL_law_764 : decode cL_law 764 = .ok (.iload 4, 2) := by decide +kernel
theorem dL_law_766 : decode cL_law 766 = .ok (.iconst 1, 1) := by decide +kernel
theorem dL_law_767 : decode cL_law 767 = .ok (.iadd, 1) := by decide +kernel
theorem dL_law_768 : decode cL_law 768 = .ok (.iaload, 1) := by decide +kernel
theorem dL_law_769 : decode cL_law 769 = .ok (.aload_n 0, 1) := by decide +kernel
theorem dL_law_770 : decode cL_law 770 = .ok (.iload 4, 2) := by decide +kernel
theorem dL_law_772 : decode cL_law 772 = .ok (.iconst 2, 1) := by decide +kernel
theorem dL_law_773 : decode cL_law 773 = .ok (.iadd, 1) := by decide +kernel
theorem dL_law_774 : decode cL_law 774 = .ok (.iaload, 1) := by decide +kernel
theorem dL_law_775 : decode cL_law 775 = .ok (.invokevirtual 87, 3) := by decide +kernel
theorem dL_law_778 : decode cL_law 778 = .ok (.pop, 1) := by decide +kernel
theorem dL_law_779 : decode cL_law 779 = .ok (.goto 1056, 3) := by decide +kernel
theorem dL_law_782 : decode cL_law 782 = .ok (.aload_n 1, 1) := by decide +kernel
theorem dL_law_783 : decode cL_law 783 = .ok (.invokevirtual 88, 3) := by decide +kernel
theorem dL_law_786 : decode cL_law 786 = .ok (.pop, 1) := by decide +kernel
theorem dL_law_787 : decode cL_law 787 = .ok (.aload_n 2, 1) := by decide +kernel
theorem dL_law_788 : decode cL_law 788 = .ok (.invokevirtual 91, 3) := by decide +kernel
theorem dL_law_791 : decode cL_law 791 = .ok (.pop, 1) := by decide +kernel
theorem dL_law_792 : decode cL_law 792 = .ok (.goto 1043, 3) := by decide +kernel
theorem dL_law_795 : decode cL_law 795 = .ok (.aload_n 1, 1) := by decide +kernel
theorem dL_law_796 : decode cL_law 796 = .ok (.aload_n 0, 1) := by decide +kernel
theorem dL_law_797 : decode cL_law 797 = .ok (.iload 4, 2) := by decide +kernel
theorem dL_law_799 : decode cL_law 799 = .ok (.iconst 1, 1) := by decide +kernel
theorem dL_law_800 : decode cL_law 800 = .ok (.iadd, 1) := by decide +kernel
theorem dL_law_801 : decode cL_law 801 = .ok (.iaload, 1) := by decide +kernel
theorem dL_law_802 : decode cL_law 802 = .ok (.invokevirtual 92, 3) := by decide +kernel
theorem dL_law_805 : decode cL_law 805 = .ok (.pop, 1) := by decide +kernel
theorem dL_law_806 : decode cL_law 806 = .ok (.aload_n 2, 1) := by decide +kernel
theorem dL_law_807 : decode cL_law 807 = .ok (.aload_n 0, 1) := by decide +kernel
theorem dL_law_808 : decode cL_law 808 = .ok (.iload 4, 2) := by decide +kernel
theorem dL_law_810 : decode cL_law 810 = .ok (.iconst 1, 1) := by decide +kernel
theorem dL_law_811 : decode cL_law 811 = .ok (.iadd, 1) := by decide +kernel
theorem dL_law_812 : decode cL_law 812 = .ok (.iaload, 1) := by decide +kernel
theorem dL_law_813 : decode cL_law 813 = .ok (.invokevirtual 95, 3) := by decide +kernel
theorem dL_law_816 : decode cL_law 816 = .ok (.pop, 1) := by decide +kernel
theorem dL_law_817 : decode cL_law 817 = .ok (.goto 1018, 3) := by decide +kernel
theorem dL_law_820 : decode cL_law 820 = .ok (.aload_n 1, 1) := by decide +kernel
theorem dL_law_821 : decode cL_law 821 = .ok (.aload_n 0, 1) := by decide +kernel
theorem dL_law_822 : decode cL_law 822 = .ok (.iload 4, 2) := by decide +kernel
theorem dL_law_824 : decode cL_law 824 = .ok (.iconst 1, 1) := by decide +kernel
theorem dL_law_825 : decode cL_law 825 = .ok (.iadd, 1) := by decide +kernel
theorem dL_law_826 : decode cL_law 826 = .ok (.iaload, 1) := by decide +kernel
theorem dL_law_827 : decode cL_law 827 = .ok (.aload_n 0, 1) := by decide +kernel
theorem dL_law_828 : decode cL_law 828 = .ok (.iload 4, 2) := by decide +kernel
theorem dL_law_830 : decode cL_law 830 = .ok (.iconst 2, 1) := by decide +kernel
theorem dL_law_831 : decode cL_law 831 = .ok (.iadd, 1) := by decide +kernel
theorem dL_law_832 : decode cL_law 832 = .ok (.iaload, 1) := by decide +kernel
theorem dL_law_833 : decode cL_law 833 = .ok (.aload_n 0, 1) := by decide +kernel
theorem dL_law_834 : decode cL_law 834 = .ok (.iload 4, 2) := by decide +kernel
theorem dL_law_836 : decode cL_law 836 = .ok (.iconst 3, 1) := by decide +kernel
theorem dL_law_837 : decode cL_law 837 = .ok (.iadd, 1) := by decide +kernel
theorem dL_law_838 : decode cL_law 838 = .ok (.iaload, 1) := by decide +kernel
theorem dL_law_839 : decode cL_law 839 = .ok (.invokevirtual 96, 3) := by decide +kernel
theorem dL_law_842 : decode cL_law 842 = .ok (.pop, 1) := by decide +kernel
theorem dL_law_843 : decode cL_law 843 = .ok (.aload_n 2, 1) := by decide +kernel
theorem dL_law_844 : decode cL_law 844 = .ok (.aload_n 0, 1) := by decide +kernel
theorem dL_law_845 : decode cL_law 845 = .ok (.iload 4, 2) := by decide +kernel
theorem dL_law_847 : decode cL_law 847 = .ok (.iconst 1, 1) := by decide +kernel
theorem dL_law_848 : decode cL_law 848 = .ok (.iadd, 1) := by decide +kernel
theorem dL_law_849 : decode cL_law 849 = .ok (.iaload, 1) := by decide +kernel
theorem dL_law_850 : decode cL_law 850 = .ok (.aload_n 0, 1) := by decide +kernel
theorem dL_law_851 : decode cL_law 851 = .ok (.iload 4, 2) := by decide +kernel
theorem dL_law_853 : decode cL_law 853 = .ok (.iconst 2, 1) := by decide +kernel
theorem dL_law_854 : decode cL_law 854 = .ok (.iadd, 1) := by decide +kernel
theorem dL_law_855 : decode cL_law 855 = .ok (.iaload, 1) := by decide +kernel
theorem dL_law_856 : decode cL_law 856 = .ok (.aload_n 0, 1) := by decide +kernel
theorem dL_law_857 : decode cL_law 857 = .ok (.iload 4, 2) := by decide +kernel
theorem dL_law_859 : decode cL_law 859 = .ok (.iconst 3, 1) := by decide +kernel
theorem dL_law_860 : decode cL_law 860 = .ok (.iadd, 1) := by decide +kernel
theorem dL_law_861 : decode cL_law 861 = .ok (.iaload, 1) := by decide +kernel
theorem dL_law_862 : decode cL_law 862 = .ok (.invokevirtual 99, 3) := by decide +kernel
theorem dL_law_865 : decode cL_law 865 = .ok (.pop, 1) := by decide +kernel
theorem dL_law_866 : decode cL_law 866 = .ok (.goto 969, 3) := by decide +kernel
theorem dL_law_869 : decode cL_law 869 = .ok (.aload_n 1, 1) := by decide +kernel
theorem dL_law_870 : decode cL_law 870 = .ok (.aload_n 0, 1) := by decide +kernel
theorem dL_law_871 : decode cL_law 871 = .ok (.iload 4, 2) := by decide +kernel
theorem dL_law_873 : decode cL_law 873 = .ok (.iconst 1, 1) := by decide +kernel
theorem dL_law_874 : decode cL_law 874 = .ok (.iadd, 1) := by decide +kernel
theorem dL_law_875 : decode cL_law 875 = .ok (.iaload, 1) := by decide +kernel
theorem dL_law_876 : decode cL_law 876 = .ok (.aload_n 0, 1) := by decide +kernel
theorem dL_law_877 : decode cL_law 877 = .ok (.iload 4, 2) := by decide +kernel
theorem dL_law_879 : decode cL_law 879 = .ok (.iconst 2, 1) := by decide +kernel
theorem dL_law_880 : decode cL_law 880 = .ok (.iadd, 1) := by decide +kernel
theorem dL_law_881 : decode cL_law 881 = .ok (.iaload, 1) := by decide +kernel
theorem dL_law_882 : decode cL_law 882 = .ok (.aload_n 0, 1) := by decide +kernel
theorem dL_law_883 : decode cL_law 883 = .ok (.iload 4, 2) := by decide +kernel
theorem dL_law_885 : decode cL_law 885 = .ok (.iconst 3, 1) := by decide +kernel
theorem dL_law_886 : decode cL_law 886 = .ok (.iadd, 1) := by decide +kernel
theorem dL_law_887 : decode cL_law 887 = .ok (.iaload, 1) := by decide +kernel
theorem dL_law_888 : decode cL_law 888 = .ok (.invokevirtual 100, 3) := by decide +kernel
theorem dL_law_891 : decode cL_law 891 = .ok (.pop, 1) := by decide +kernel
theorem dL_law_892 : decode cL_law 892 = .ok (.aload_n 2, 1) := by decide +kernel
theorem dL_law_893 : decode cL_law 893 = .ok (.aload_n 0, 1) := by decide +kernel
theorem dL_law_894 : decode cL_law 894 = .ok (.iload 4, 2) := by decide +kernel
theorem dL_law_896 : decode cL_law 896 = .ok (.iconst 1, 1) := by decide +kernel
theorem dL_law_897 : decode cL_law 897 = .ok (.iadd, 1) := by decide +kernel
theorem dL_law_898 : decode cL_law 898 = .ok (.iaload, 1) := by decide +kernel
theorem dL_law_899 : decode cL_law 899 = .ok (.aload_n 0, 1) := by decide +kernel
theorem dL_law_900 : decode cL_law 900 = .ok (.iload 4, 2) := by decide +kernel
theorem dL_law_902 : decode cL_law 902 = .ok (.iconst 2, 1) := by decide +kernel
theorem dL_law_903 : decode cL_law 903 = .ok (.iadd, 1) := by decide +kernel
theorem dL_law_904 : decode cL_law 904 = .ok (.iaload, 1) := by decide +kernel
theorem dL_law_905 : decode cL_law 905 = .ok (.aload_n 0, 1) := by decide +kernel
theorem dL_law_906 : decode cL_law 906 = .ok (.iload 4, 2) := by decide +kernel
theorem dL_law_908 : decode cL_law 908 = .ok (.iconst 3, 1) := by decide +kernel
theorem dL_law_909 : decode cL_law 909 = .ok (.iadd, 1) := by decide +kernel
theorem dL_law_910 : decode cL_law 910 = .ok (.iaload, 1) := by decide +kernel
theorem dL_law_911 : decode cL_law 911 = .ok (.invokevirtual 103, 3) := by decide +kernel
theorem dL_law_914 : decode cL_law 914 = .ok (.pop, 1) := by decide +kernel
theorem dL_law_915 : decode cL_law 915 = .ok (.goto 920, 3) := by decide +kernel
theorem dL_law_918 : decode cL_law 918 = .ok (.aload_n 1, 1) := by decide +kernel
theorem dL_law_919 : decode cL_law 919 = .ok (.aload_n 0, 1) := by decide +kernel
theorem dL_law_920 : decode cL_law 920 = .ok (.iload 4, 2) := by decide +kernel
theorem dL_law_922 : decode cL_law 922 = .ok (.iconst 1, 1) := by decide +kernel
theorem dL_law_923 : decode cL_law 923 = .ok (.iadd, 1) := by decide +kernel
theorem dL_law_924 : decode cL_law 924 = .ok (.iaload, 1) := by decide +kernel
theorem dL_law_925 : decode cL_law 925 = .ok (.aload_n 0, 1) := by decide +kernel
theorem dL_law_926 : decode cL_law 926 = .ok (.iload 4, 2) := by decide +kernel
theorem dL_law_928 : decode cL_law 928 = .ok (.iconst 2, 1) := by decide +kernel
theorem dL_law_929 : decode cL_law 929 = .ok (.iadd, 1) := by decide +kernel
theorem dL_law_930 : decode cL_law 930 = .ok (.iaload, 1) := by decide +kernel
theorem dL_law_931 : decode cL_law 931 = .ok (.aload_n 0, 1) := by decide +kernel
theorem dL_law_932 : decode cL_law 932 = .ok (.iload 4, 2) := by decide +kernel
theorem dL_law_934 : decode cL_law 934 = .ok (.iconst 3, 1) := by decide +kernel
theorem dL_law_935 : decode cL_law 935 = .ok (.iadd, 1) := by decide +kernel
theorem dL_law_936 : decode cL_law 936 = .ok (.iaload, 1) := by decide +kernel
theorem dL_law_937 : decode cL_law 937 = .ok (.invokevirtual 104, 3) := by decide +kernel
theorem dL_law_940 : decode cL_law 940 = .ok (.pop, 1) := by decide +kernel
theorem dL_law_941 : decode cL_law 941 = .ok (.aload_n 2, 1) := by decide +kernel
theorem dL_law_942 : decode cL_law 942 = .ok (.aload_n 0, 1) := by decide +kernel
theorem dL_law_943 : decode cL_law 943 = .ok (.iload 4, 2) := by decide +kernel
theorem dL_law_945 : decode cL_law 945 = .ok (.iconst 1, 1) := by decide +kernel
theorem dL_law_946 : decode cL_law 946 = .ok (.iadd, 1) := by decide +kernel
theorem dL_law_947 : decode cL_law 947 = .ok (.iaload, 1) := by decide +kernel
theorem dL_law_948 : decode cL_law 948 = .ok (.aload_n 0, 1) := by decide +kernel
theorem dL_law_949 : decode cL_law 949 = .ok (.iload 4, 2) := by decide +kernel
theorem dL_law_951 : decode cL_law 951 = .ok (.iconst 2, 1) := by decide +kernel
theorem dL_law_952 : decode cL_law 952 = .ok (.iadd, 1) := by decide +kernel
theorem dL_law_953 : decode cL_law 953 = .ok (.iaload, 1) := by decide +kernel
theorem dL_law_954 : decode cL_law 954 = .ok (.aload_n 0, 1) := by decide +kernel
theorem dL_law_955 : decode cL_law 955 = .ok (.iload 4, 2) := by decide +kernel
theorem dL_law_957 : decode cL_law 957 = .ok (.iconst 3, 1) := by decide +kernel
theorem dL_law_958 : decode cL_law 958 = .ok (.iadd, 1) := by decide +kernel
theorem dL_law_959 : decode cL_law 959 = .ok (.iaload, 1) := by decide +kernel
theorem dL_law_960 : decode cL_law 960 = .ok (.invokevirtual 107, 3) := by decide +kernel
theorem dL_law_963 : decode cL_law 963 = .ok (.pop, 1) := by decide +kernel
theorem dL_law_964 : decode cL_law 964 = .ok (.goto 871, 3) := by decide +kernel
theorem dL_law_967 : decode cL_law 967 = .ok (.aload_n 1, 1) := by decide +kernel
theorem dL_law_968 : decode cL_law 968 = .ok (.aload_n 0, 1) := by decide +kernel
theorem dL_law_969 : decode cL_law 969 = .ok (.iload 4, 2) := by decide +kernel
theorem dL_law_971 : decode cL_law 971 = .ok (.iconst 1, 1) := by decide +kernel
theorem dL_law_972 : decode cL_law 972 = .ok (.iadd, 1) := by decide +kernel
theorem dL_law_973 : decode cL_law 973 = .ok (.iaload, 1) := by decide +kernel
theorem dL_law_974 : decode cL_law 974 = .ok (.aload_n 0, 1) := by decide +kernel
theorem dL_law_975 : decode cL_law 975 = .ok (.iload 4, 2) := by decide +kernel
theorem dL_law_977 : decode cL_law 977 = .ok (.iconst 2, 1) := by decide +kernel
theorem dL_law_978 : decode cL_law 978 = .ok (.iadd, 1) := by decide +kernel
theorem dL_law_979 : decode cL_law 979 = .ok (.iaload, 1) := by decide +kernel
theorem dL_law_980 : decode cL_law 980 = .ok (.aload_n 0, 1) := by decide +kernel
theorem dL_law_981 : decode cL_law 981 = .ok (.iload 4, 2) := by decide +kernel
theorem dL_law_983 : decode cL_law 983 = .ok (.iconst 3, 1) := by decide +kernel
theorem dL_law_984 : decode cL_law 984 = .ok (.iadd, 1) := by decide +kernel
theorem dL_law_985 : decode cL_law 985 = .ok (.iaload, 1) := by decide +kernel
theorem dL_law_986 : decode cL_law 986 = .ok (.aload_n 0, 1) := by decide +kernel
theorem dL_law_987 : decode cL_law 987 = .ok (.iload 4, 2) := by decide +kernel
theorem dL_law_989 : decode cL_law 989 = .ok (.iconst 4, 1) := by decide +kernel
theorem dL_law_990 : decode cL_law 990 = .ok (.iadd, 1) := by decide +kernel
theorem dL_law_991 : decode cL_law 991 = .ok (.iaload, 1) := by decide +kernel
theorem dL_law_992 : decode cL_law 992 = .ok (.invokevirtual 108, 3) := by decide +kernel
theorem dL_law_995 : decode cL_law 995 = .ok (.pop, 1) := by decide +kernel
theorem dL_law_996 : decode cL_law 996 = .ok (.aload_n 2, 1) := by decide +kernel
theorem dL_law_997 : decode cL_law 997 = .ok (.aload_n 0, 1) := by decide +kernel
theorem dL_law_998 : decode cL_law 998 = .ok (.iload 4, 2) := by decide +kernel
theorem dL_law_1000 : decode cL_law 1000 = .ok (.iconst 1, 1) := by decide +kernel
theorem dL_law_1001 : decode cL_law 1001 = .ok (.iadd, 1) := by decide +kernel
theorem dL_law_1002 : decode cL_law 1002 = .ok (.iaload, 1) := by decide +kernel
theorem dL_law_1003 : decode cL_law 1003 = .ok (.aload_n 0, 1) := by decide +kernel
theorem dL_law_1004 : decode cL_law 1004 = .ok (.iload 4, 2) := by decide +kernel
theorem dL_law_1006 : decode cL_law 1006 = .ok (.iconst 2, 1) := by decide +kernel
theorem dL_law_1007 : decode cL_law 1007 = .ok (.iadd, 1) := by decide +kernel
theorem dL_law_1008 : decode cL_law 1008 = .ok (.iaload, 1) := by decide +kernel
theorem dL_law_1009 : decode cL_law 1009 = .ok (.aload_n 0, 1) := by decide +kernel
theorem dL_law_1010 : decode cL_law 1010 = .ok (.iload 4, 2) := by decide +kernel
theorem dL_law_1012 : decode cL_law 1012 = .ok (.iconst 3, 1) := by decide +kernel
theorem dL_law_1013 : decode cL_law 1013 = .ok (.iadd, 1) := by decide +kernel
theorem dL_law_1014 : decode cL_law 1014 = .ok (.iaload, 1) := by decide +kernel
theorem dL_law_1015 : decode cL_law 1015 = .ok (.aload_n 0, 1) := by decide +kernel
theorem dL_law_1016 : decode cL_law 1016 = .ok (.iload 4, 2) := by decide +kernel
theorem dL_law_1018 : decode cL_law 1018 = .ok (.iconst 4, 1) := by decide +kernel
theorem dL_law_1019 : decode cL_law 1019 = .ok (.iadd, 1) := by decide +kernel
theorem dL_law_1020 : decode cL_law 1020 = .ok (.iaload, 1) := by decide +kernel
theorem dL_law_1021 : decode cL_law 1021 = .ok (.invokevirtual 111, 3) := by decide +kernel
theorem dL_law_1024 : decode cL_law 1024 = .ok (.pop, 1) := by decide +kernel
theorem dL_law_1025 : decode cL_law 1025 = .ok (.goto 810, 3) := by decide +kernel
theorem dL_law_1028 : decode cL_law 1028 = .ok (.aload_n 1, 1) := by decide +kernel
theorem dL_law_1029 : decode cL_law 1029 = .ok (.aload_n 0, 1) := by decide +kernel
theorem dL_law_1030 : decode cL_law 1030 = .ok (.iload 4, 2) := by decide +kernel
theorem dL_law_1032 : decode cL_law 1032 = .ok (.iconst 1, 1) := by decide +kernel
theorem dL_law_1033 : decode cL_law 1033 = .ok (.iadd, 1) := by decide +kernel
theorem dL_law_1034 : decode cL_law 1034 = .ok (.iaload, 1) := by decide +kernel
theorem dL_law_1035 : decode cL_law 1035 = .ok (.aload_n 0, 1) := by decide +kernel
theorem dL_law_1036 : decode cL_law 1036 = .ok (.iload 4, 2) := by decide +kernel
theorem dL_law_1038 : decode cL_law 1038 = .ok (.iconst 2, 1) := by decide +kernel
theorem dL_law_1039 : decode cL_law 1039 = .ok (.iadd, 1) := by decide +kernel
theorem dL_law_1040 : decode cL_law 1040 = .ok (.iaload, 1) := by decide +kernel
theorem dL_law_1041 : decode cL_law 1041 = .ok (.aload_n 0, 1) := by decide +kernel
theorem dL_law_1042 : decode cL_law 1042 = .ok (.iload 4, 2) := by decide +kernel
theorem dL_law_1044 : decode cL_law 1044 = .ok (.iconst 3, 1) := by decide +kernel
theorem dL_law_1045 : decode cL_law 1045 = .ok (.iadd, 1) := by decide +kernel
theorem dL_law_1046 : decode cL_law 1046 = .ok (.iaload, 1) := by decide +kernel
theorem dL_law_1047 : decode cL_law 1047 = .ok (.aload_n 0, 1) := by decide +kernel
theorem dL_law_1048 : decode cL_law 1048 = .ok (.iload 4, 2) := by decide +kernel
theorem dL_law_1050 : decode cL_law 1050 = .ok (.iconst 4, 1) := by decide +kernel
theorem dL_law_1051 : decode cL_law 1051 = .ok (.iadd, 1) := by decide +kernel
theorem dL_law_1052 : decode cL_law 1052 = .ok (.iaload, 1) := by decide +kernel
theorem dL_law_1053 : decode cL_law 1053 = .ok (.invokevirtual 112, 3) := by decide +kernel
theorem dL_law_1056 : decode cL_law 1056 = .ok (.pop, 1) := by decide +kernel
theorem dL_law_1057 : decode cL_law 1057 = .ok (.aload_n 2, 1) := by decide +kernel
theorem dL_law_1058 : decode cL_law 1058 = .ok (.aload_n 0, 1) := by decide +kernel
theorem dL_law_1059 : decode cL_law 1059 = .ok (.iload 4, 2) := by decide +kernel
theorem dL_law_1061 : decode cL_law 1061 = .ok (.iconst 1, 1) := by decide +kernel
theorem dL_law_1062 : decode cL_law 1062 = .ok (.iadd, 1) := by decide +kernel
theorem dL_law_1063 : decode cL_law 1063 = .ok (.iaload, 1) := by decide +kernel
theorem dL_law_1064 : decode cL_law 1064 = .ok (.aload_n 0, 1) := by decide +kernel
theorem dL_law_1065 : decode cL_law 1065 = .ok (.iload 4, 2) := by decide +kernel
theorem dL_law_1067 : decode cL_law 1067 = .ok (.iconst 2, 1) := by decide +kernel
theorem dL_law_1068 : decode cL_law 1068 = .ok (.iadd, 1) := by decide +kernel
theorem dL_law_1069 : decode cL_law 1069 = .ok (.iaload, 1) := by decide +kernel
theorem dL_law_1070 : decode cL_law 1070 = .ok (.aload_n 0, 1) := by decide +kernel
theorem dL_law_1071 : decode cL_law 1071 = .ok (.iload 4, 2) := by decide +kernel
theorem dL_law_1073 : decode cL_law 1073 = .ok (.iconst 3, 1) := by decide +kernel
theorem dL_law_1074 : decode cL_law 1074 = .ok (.iadd, 1) := by decide +kernel
theorem dL_law_1075 : decode cL_law 1075 = .ok (.iaload, 1) := by decide +kernel
theorem dL_law_1076 : decode cL_law 1076 = .ok (.aload_n 0, 1) := by decide +kernel
theorem dL_law_1077 : decode cL_law 1077 = .ok (.iload 4, 2) := by decide +kernel
theorem dL_law_1079 : decode cL_law 1079 = .ok (.iconst 4, 1) := by decide +kernel
theorem dL_law_1080 : decode cL_law 1080 = .ok (.iadd, 1) := by decide +kernel
theorem dL_law_1081 : decode cL_law 1081 = .ok (.iaload, 1) := by decide +kernel
theorem dL_law_1082 : decode cL_law 1082 = .ok (.invokevirtual 115, 3) := by decide +kernel
theorem dL_law_1085 : decode cL_law 1085 = .ok (.pop, 1) := by decide +kernel
theorem dL_law_1086 : decode cL_law 1086 = .ok (.goto 749, 3) := by decide +kernel
theorem dL_law_1089 : decode cL_law 1089 = .ok (.aload_n 1, 1) := by decide +kernel
theorem dL_law_1090 : decode cL_law 1090 = .ok (.aload_n 0, 1) := by decide +kernel
theorem dL_law_1091 : decode cL_law 1091 = .ok (.iload 4, 2) := by decide +kernel
theorem dL_law_1093 : decode cL_law 1093 = .ok (.iconst 1, 1) := by decide +kernel
theorem dL_law_1094 : decode cL_law 1094 = .ok (.iadd, 1) := by decide +kernel
theorem dL_law_1095 : decode cL_law 1095 = .ok (.iaload, 1) := by decide +kernel
theorem dL_law_1096 : decode cL_law 1096 = .ok (.aload_n 0, 1) := by decide +kernel
theorem dL_law_1097 : decode cL_law 1097 = .ok (.iload 4, 2) := by decide +kernel
theorem dL_law_1099 : decode cL_law 1099 = .ok (.iconst 2, 1) := by decide +kernel
theorem dL_law_1100 : decode cL_law 1100 = .ok (.iadd, 1) := by decide +kernel
theorem dL_law_1101 : decode cL_law 1101 = .ok (.iaload, 1) := by decide +kernel
theorem dL_law_1102 : decode cL_law 1102 = .ok (.aload_n 0, 1) := by decide +kernel
theorem dL_law_1103 : decode cL_law 1103 = .ok (.iload 4, 2) := by decide +kernel
theorem dL_law_1105 : decode cL_law 1105 = .ok (.iconst 3, 1) := by decide +kernel
theorem dL_law_1106 : decode cL_law 1106 = .ok (.iadd, 1) := by decide +kernel
theorem dL_law_1107 : decode cL_law 1107 = .ok (.iaload, 1) := by decide +kernel
theorem dL_law_1108 : decode cL_law 1108 = .ok (.invokevirtual 116, 3) := by decide +kernel
theorem dL_law_1111 : decode cL_law 1111 = .ok (.pop, 1) := by decide +kernel
theorem dL_law_1112 : decode cL_law 1112 = .ok (.aload_n 2, 1) := by decide +kernel
theorem dL_law_1113 : decode cL_law 1113 = .ok (.aload_n 0, 1) := by decide +kernel
theorem dL_law_1114 : decode cL_law 1114 = .ok (.iload 4, 2) := by decide +kernel
theorem dL_law_1116 : decode cL_law 1116 = .ok (.iconst 1, 1) := by decide +kernel
theorem dL_law_1117 : decode cL_law 1117 = .ok (.iadd, 1) := by decide +kernel
theorem dL_law_1118 : decode cL_law 1118 = .ok (.iaload, 1) := by decide +kernel
theorem dL_law_1119 : decode cL_law 1119 = .ok (.aload_n 0, 1) := by decide +kernel
theorem dL_law_1120 : decode cL_law 1120 = .ok (.iload 4, 2) := by decide +kernel
theorem dL_law_1122 : decode cL_law 1122 = .ok (.iconst 2, 1) := by decide +kernel
theorem dL_law_1123 : decode cL_law 1123 = .ok (.iadd, 1) := by decide +kernel
theorem dL_law_1124 : decode cL_law 1124 = .ok (.iaload, 1) := by decide +kernel
theorem dL_law_1125 : decode cL_law 1125 = .ok (.aload_n 0, 1) := by decide +kernel
theorem dL_law_1126 : decode cL_law 1126 = .ok (.iload 4, 2) := by decide +kernel
theorem dL_law_1128 : decode cL_law 1128 = .ok (.iconst 3, 1) := by decide +kernel
theorem dL_law_1129 : decode cL_law 1129 = .ok (.iadd, 1) := by decide +kernel
theorem dL_law_1130 : decode cL_law 1130 = .ok (.iaload, 1) := by decide +kernel
theorem dL_law_1131 : decode cL_law 1131 = .ok (.invokevirtual 119, 3) := by decide +kernel
theorem dL_law_1134 : decode cL_law 1134 = .ok (.pop, 1) := by decide +kernel
theorem dL_law_1135 : decode cL_law 1135 = .ok (.goto 700, 3) := by decide +kernel
theorem dL_law_1138 : decode cL_law 1138 = .ok (.aload_n 1, 1) := by decide +kernel
theorem dL_law_1139 : decode cL_law 1139 = .ok (.aload_n 0, 1) := by decide +kernel
theorem dL_law_1140 : decode cL_law 1140 = .ok (.iload 4, 2) := by decide +kernel
theorem dL_law_1142 : decode cL_law 1142 = .ok (.iconst 1, 1) := by decide +kernel
theorem dL_law_1143 : decode cL_law 1143 = .ok (.iadd, 1) := by decide +kernel
theorem dL_law_1144 : decode cL_law 1144 = .ok (.iaload, 1) := by decide +kernel
theorem dL_law_1145 : decode cL_law 1145 = .ok (.invokevirtual 120, 3) := by decide +kernel
theorem dL_law_1148 : decode cL_law 1148 = .ok (.pop, 1) := by decide +kernel
theorem dL_law_1149 : decode cL_law 1149 = .ok (.aload_n 2, 1) := by decide +kernel
theorem dL_law_1150 : decode cL_law 1150 = .ok (.aload_n 0, 1) := by decide +kernel
theorem dL_law_1151 : decode cL_law 1151 = .ok (.iload 4, 2) := by decide +kernel
theorem dL_law_1153 : decode cL_law 1153 = .ok (.iconst 1, 1) := by decide +kernel
theorem dL_law_1154 : decode cL_law 1154 = .ok (.iadd, 1) := by decide +kernel
theorem dL_law_1155 : decode cL_law 1155 = .ok (.iaload, 1) := by decide +kernel
theorem dL_law_1156 : decode cL_law 1156 = .ok (.invokevirtual 123, 3) := by decide +kernel
theorem dL_law_1159 : decode cL_law 1159 = .ok (.pop, 1) := by decide +kernel
theorem dL_law_1160 : decode cL_law 1160 = .ok (.goto 675, 3) := by decide +kernel
theorem dL_law_1163 : decode cL_law 1163 = .ok (.aload_n 1, 1) := by decide +kernel
theorem dL_law_1164 : decode cL_law 1164 = .ok (.aload_n 0, 1) := by decide +kernel
theorem dL_law_1165 : decode cL_law 1165 = .ok (.iload 4, 2) := by decide +kernel
theorem dL_law_1167 : decode cL_law 1167 = .ok (.iconst 1, 1) := by decide +kernel
theorem dL_law_1168 : decode cL_law 1168 = .ok (.iadd, 1) := by decide +kernel
theorem dL_law_1169 : decode cL_law 1169 = .ok (.iaload, 1) := by decide +kernel
theorem dL_law_1170 : decode cL_law 1170 = .ok (.invokevirtual 124, 3) := by decide +kernel
theorem dL_law_1173 : decode cL_law 1173 = .ok (.pop, 1) := by decide +kernel
theorem dL_law_1174 : decode cL_law 1174 = .ok (.aload_n 2, 1) := by decide +kernel
theorem dL_law_1175 : decode cL_law 1175 = .ok (.aload_n 0, 1) := by decide +kernel
theorem dL_law_1176 : decode cL_law 1176 = .ok (.iload 4, 2) := by decide +kernel
theorem dL_law_1178 : decode cL_law 1178 = .ok (.iconst 1, 1) := by decide +kernel
theorem dL_law_1179 : decode cL_law 1179 = .ok (.iadd, 1) := by decide +kernel
theorem dL_law_1180 : decode cL_law 1180 = .ok (.iaload, 1) := by decide +kernel
theorem dL_law_1181 : decode cL_law 1181 = .ok (.invokevirtual 127, 3) := by decide +kernel
theorem dL_law_1184 : decode cL_law 1184 = .ok (.pop, 1) := by decide +kernel
theorem dL_law_1185 : decode cL_law 1185 = .ok (.goto 650, 3) := by decide +kernel
theorem dL_law_1188 : decode cL_law 1188 = .ok (.aload_n 1, 1) := by decide +kernel
theorem dL_law_1189 : decode cL_law 1189 = .ok (.aload_n 0, 1) := by decide +kernel
theorem dL_law_1190 : decode cL_law 1190 = .ok (.iload 4, 2) := by decide +kernel
theorem dL_law_1192 : decode cL_law 1192 = .ok (.iconst 1, 1) := by decide +kernel
theorem dL_law_1193 : decode cL_law 1193 = .ok (.iadd, 1) := by decide +kernel
theorem dL_law_1194 : decode cL_law 1194 = .ok (.iaload, 1) := by decide +kernel
theorem dL_law_1195 : decode cL_law 1195 = .ok (.invokevirtual 128, 3) := by decide +kernel
theorem dL_law_1198 : decode cL_law 1198 = .ok (.pop, 1) := by decide +kernel
theorem dL_law_1199 : decode cL_law 1199 = .ok (.aload_n 2, 1) := by decide +kernel
theorem dL_law_1200 : decode cL_law 1200 = .ok (.aload_n 0, 1) := by decide +kernel
theorem dL_law_1201 : decode cL_law 1201 = .ok (.iload 4, 2) := by decide +kernel
theorem dL_law_1203 : decode cL_law 1203 = .ok (.iconst 1, 1) := by decide +kernel
theorem dL_law_1204 : decode cL_law 1204 = .ok (.iadd, 1) := by decide +kernel
theorem dL_law_1205 : decode cL_law 1205 = .ok (.iaload, 1) := by decide +kernel
theorem dL_law_1206 : decode cL_law 1206 = .ok (.invokevirtual 131, 3) := by decide +kernel
theorem dL_law_1209 : decode cL_law 1209 = .ok (.pop, 1) := by decide +kernel
theorem dL_law_1210 : decode cL_law 1210 = .ok (.goto 625, 3) := by decide +kernel
theorem dL_law_1213 : decode cL_law 1213 = .ok (.aload_n 1, 1) := by decide +kernel
theorem dL_law_1214 : decode cL_law 1214 = .ok (.aload_n 0, 1) := by decide +kernel
theorem dL_law_1215 : decode cL_law 1215 = .ok (.iload 4, 2) := by decide +kernel
theorem dL_law_1217 : decode cL_law 1217 = .ok (.iconst 1, 1) := by decide +kernel
theorem dL_law_1218 : decode cL_law 1218 = .ok (.iadd, 1) := by decide +kernel
theorem dL_law_1219 : decode cL_law 1219 = .ok (.iaload, 1) := by decide +kernel
theorem dL_law_1220 : decode cL_law 1220 = .ok (.invokevirtual 132, 3) := by decide +kernel
theorem dL_law_1223 : decode cL_law 1223 = .ok (.pop, 1) := by decide +kernel
theorem dL_law_1224 : decode cL_law 1224 = .ok (.aload_n 2, 1) := by decide +kernel
theorem dL_law_1225 : decode cL_law 1225 = .ok (.aload_n 0, 1) := by decide +kernel
theorem dL_law_1226 : decode cL_law 1226 = .ok (.iload 4, 2) := by decide +kernel
theorem dL_law_1228 : decode cL_law 1228 = .ok (.iconst 1, 1) := by decide +kernel
theorem dL_law_1229 : decode cL_law 1229 = .ok (.iadd, 1) := by decide +kernel
theorem dL_law_1230 : decode cL_law 1230 = .ok (.iaload, 1) := by decide +kernel
theorem dL_law_1231 : decode cL_law 1231 = .ok (.invokevirtual 135, 3) := by decide +kernel
theorem dL_law_1234 : decode cL_law 1234 = .ok (.pop, 1) := by decide +kernel
theorem dL_law_1235 : decode cL_law 1235 = .ok (.goto 600, 3) := by decide +kernel
theorem dL_law_1238 : decode cL_law 1238 = .ok (.aload_n 1, 1) := by decide +kernel
theorem dL_law_1239 : decode cL_law 1239 = .ok (.aload_n 0, 1) := by decide +kernel
theorem dL_law_1240 : decode cL_law 1240 = .ok (.iload 4, 2) := by decide +kernel
theorem dL_law_1242 : decode cL_law 1242 = .ok (.iconst 1, 1) := by decide +kernel
theorem dL_law_1243 : decode cL_law 1243 = .ok (.iadd, 1) := by decide +kernel
theorem dL_law_1244 : decode cL_law 1244 = .ok (.iaload, 1) := by decide +kernel
theorem dL_law_1245 : decode cL_law 1245 = .ok (.invokevirtual 136, 3) := by decide +kernel
theorem dL_law_1248 : decode cL_law 1248 = .ok (.pop, 1) := by decide +kernel
theorem dL_law_1249 : decode cL_law 1249 = .ok (.aload_n 2, 1) := by decide +kernel
theorem dL_law_1250 : decode cL_law 1250 = .ok (.aload_n 0, 1) := by decide +kernel
theorem dL_law_1251 : decode cL_law 1251 = .ok (.iload 4, 2) := by decide +kernel
theorem dL_law_1253 : decode cL_law 1253 = .ok (.iconst 1, 1) := by decide +kernel
theorem dL_law_1254 : decode cL_law 1254 = .ok (.iadd, 1) := by decide +kernel
theorem dL_law_1255 : decode cL_law 1255 = .ok (.iaload, 1) := by decide +kernel
theorem dL_law_1256 : decode cL_law 1256 = .ok (.invokevirtual 139, 3) := by decide +kernel
theorem dL_law_1259 : decode cL_law 1259 = .ok (.pop, 1) := by decide +kernel
theorem dL_law_1260 : decode cL_law 1260 = .ok (.goto 575, 3) := by decide +kernel
theorem dL_law_1263 : decode cL_law 1263 = .ok (.aload_n 1, 1) := by decide +kernel
theorem dL_law_1264 : decode cL_law 1264 = .ok (.invokevirtual 140, 3) := by decide +kernel
theorem dL_law_1267 : decode cL_law 1267 = .ok (.pop, 1) := by decide +kernel
theorem dL_law_1268 : decode cL_law 1268 = .ok (.aload_n 2, 1) := by decide +kernel
theorem dL_law_1269 : decode cL_law 1269 = .ok (.invokevirtual 143, 3) := by decide +kernel
theorem dL_law_1272 : decode cL_law 1272 = .ok (.pop, 1) := by decide +kernel
theorem dL_law_1273 : decode cL_law 1273 = .ok (.goto 562, 3) := by decide +kernel
theorem dL_law_1276 : decode cL_law 1276 = .ok (.aload_n 1, 1) := by decide +kernel
theorem dL_law_1277 : decode cL_law 1277 = .ok (.aload_n 0, 1) := by decide +kernel
theorem dL_law_1278 : decode cL_law 1278 = .ok (.iload 4, 2) := by decide +kernel
theorem dL_law_1280 : decode cL_law 1280 = .ok (.iconst 1, 1) := by decide +kernel
theorem dL_law_1281 : decode cL_law 1281 = .ok (.iadd, 1) := by decide +kernel
theorem dL_law_1282 : decode cL_law 1282 = .ok (.iaload, 1) := by decide +kernel
theorem dL_law_1283 : decode cL_law 1283 = .ok (.invokevirtual 144, 3) := by decide +kernel
theorem dL_law_1286 : decode cL_law 1286 = .ok (.pop, 1) := by decide +kernel
theorem dL_law_1287 : decode cL_law 1287 = .ok (.aload_n 2, 1) := by decide +kernel
theorem dL_law_1288 : decode cL_law 1288 = .ok (.aload_n 0, 1) := by decide +kernel
theorem dL_law_1289 : decode cL_law 1289 = .ok (.iload 4, 2) := by decide +kernel
theorem dL_law_1291 : decode cL_law 1291 = .ok (.iconst 1, 1) := by decide +kernel
theorem dL_law_1292 : decode cL_law 1292 = .ok (.iadd, 1) := by decide +kernel
theorem dL_law_1293 : decode cL_law 1293 = .ok (.iaload, 1) := by decide +kernel
theorem dL_law_1294 : decode cL_law 1294 = .ok (.invokevirtual 147, 3) := by decide +kernel
theorem dL_law_1297 : decode cL_law 1297 = .ok (.pop, 1) := by decide +kernel
theorem dL_law_1298 : decode cL_law 1298 = .ok (.goto 537, 3) := by decide +kernel
theorem dL_law_1301 : decode cL_law 1301 = .ok (.aload_n 1, 1) := by decide +kernel
theorem dL_law_1302 : decode cL_law 1302 = .ok (.aload_n 0, 1) := by decide +kernel
theorem dL_law_1303 : decode cL_law 1303 = .ok (.iload 4, 2) := by decide +kernel
theorem dL_law_1305 : decode cL_law 1305 = .ok (.iconst 1, 1) := by decide +kernel
theorem dL_law_1306 : decode cL_law 1306 = .ok (.iadd, 1) := by decide +kernel
theorem dL_law_1307 : decode cL_law 1307 = .ok (.iaload, 1) := by decide +kernel
theorem dL_law_1308 : decode cL_law 1308 = .ok (.aload_n 0, 1) := by decide +kernel
theorem dL_law_1309 : decode cL_law 1309 = .ok (.iload 4, 2) := by decide +kernel
theorem dL_law_1311 : decode cL_law 1311 = .ok (.iconst 2, 1) := by decide +kernel
theorem dL_law_1312 : decode cL_law 1312 = .ok (.iadd, 1) := by decide +kernel
theorem dL_law_1313 : decode cL_law 1313 = .ok (.iaload, 1) := by decide +kernel
theorem dL_law_1314 : decode cL_law 1314 = .ok (.invokevirtual 148, 3) := by decide +kernel
theorem dL_law_1317 : decode cL_law 1317 = .ok (.pop, 1) := by decide +kernel
theorem dL_law_1318 : decode cL_law 1318 = .ok (.aload_n 2, 1) := by decide +kernel
theorem dL_law_1319 : decode cL_law 1319 = .ok (.aload_n 0, 1) := by decide +kernel
theorem dL_law_1320 : decode cL_law 1320 = .ok (.iload 4, 2) := by decide +kernel
theorem dL_law_1322 : decode cL_law 1322 = .ok (.iconst 1, 1) := by decide +kernel
theorem dL_law_1323 : decode cL_law 1323 = .ok (.iadd, 1) := by decide +kernel
theorem dL_law_1324 : decode cL_law 1324 = .ok (.iaload, 1) := by decide +kernel
theorem dL_law_1325 : decode cL_law 1325 = .ok (.aload_n 0, 1) := by decide +kernel
theorem dL_law_1326 : decode cL_law 1326 = .ok (.iload 4, 2) := by decide +kernel
theorem dL_law_1328 : decode cL_law 1328 = .ok (.iconst 2, 1) := by decide +kernel
theorem dL_law_1329 : decode cL_law 1329 = .ok (.iadd, 1) := by decide +kernel
theorem dL_law_1330 : decode cL_law 1330 = .ok (.iaload, 1) := by decide +kernel
theorem dL_law_1331 : decode cL_law 1331 = .ok (.invokevirtual 151, 3) := by decide +kernel
theorem dL_law_1334 : decode cL_law 1334 = .ok (.pop, 1) := by decide +kernel
theorem dL_law_1335 : decode cL_law 1335 = .ok (.goto 500, 3) := by decide +kernel
theorem dL_law_1338 : decode cL_law 1338 = .ok (.aload_n 1, 1) := by decide +kernel
theorem dL_law_1339 : decode cL_law 1339 = .ok (.aload_n 0, 1) := by decide +kernel
theorem dL_law_1340 : decode cL_law 1340 = .ok (.iload 4, 2) := by decide +kernel
theorem dL_law_1342 : decode cL_law 1342 = .ok (.iconst 1, 1) := by decide +kernel
theorem dL_law_1343 : decode cL_law 1343 = .ok (.iadd, 1) := by decide +kernel
theorem dL_law_1344 : decode cL_law 1344 = .ok (.iaload, 1) := by decide +kernel
theorem dL_law_1345 : decode cL_law 1345 = .ok (.aload_n 0, 1) := by decide +kernel
theorem dL_law_1346 : decode cL_law 1346 = .ok (.iload 4, 2) := by decide +kernel
theorem dL_law_1348 : decode cL_law 1348 = .ok (.iconst 2, 1) := by decide +kernel
theorem dL_law_1349 : decode cL_law 1349 = .ok (.iadd, 1) := by decide +kernel
theorem dL_law_1350 : decode cL_law 1350 = .ok (.iaload, 1) := by decide +kernel
theorem dL_law_1351 : decode cL_law 1351 = .ok (.invokevirtual 152, 3) := by decide +kernel
theorem dL_law_1354 : decode cL_law 1354 = .ok (.pop, 1) := by decide +kernel
theorem dL_law_1355 : decode cL_law 1355 = .ok (.aload_n 2, 1) := by decide +kernel
theorem dL_law_1356 : decode cL_law 1356 = .ok (.aload_n 0, 1) := by decide +kernel
theorem dL_law_1357 : decode cL_law 1357 = .ok (.iload 4, 2) := by decide +kernel
theorem dL_law_1359 : decode cL_law 1359 = .ok (.iconst 1, 1) := by decide +kernel
theorem dL_law_1360 : decode cL_law 1360 = .ok (.iadd, 1) := by decide +kernel
theorem dL_law_1361 : decode cL_law 1361 = .ok (.iaload, 1) := by decide +kernel
theorem dL_law_1362 : decode cL_law 1362 = .ok (.aload_n 0, 1) := by decide +kernel
theorem dL_law_1363 : decode cL_law 1363 = .ok (.iload 4, 2) := by decide +kernel
theorem dL_law_1365 : decode cL_law 1365 = .ok (.iconst 2, 1) := by decide +kernel
theorem dL_law_1366 : decode cL_law 1366 = .ok (.iadd, 1) := by decide +kernel
theorem dL_law_1367 : decode cL_law 1367 = .ok (.iaload, 1) := by decide +kernel
theorem dL_law_1368 : decode cL_law 1368 = .ok (.invokevirtual 155, 3) := by decide +kernel
theorem dL_law_1371 : decode cL_law 1371 = .ok (.pop, 1) := by decide +kernel
theorem dL_law_1372 : decode cL_law 1372 = .ok (.goto 463, 3) := by decide +kernel
theorem dL_law_1375 : decode cL_law 1375 = .ok (.aload_n 1, 1) := by decide +kernel
theorem dL_law_1376 : decode cL_law 1376 = .ok (.aload_n 0, 1) := by decide +kernel
theorem dL_law_1377 : decode cL_law 1377 = .ok (.iload 4, 2) := by decide +kernel
theorem dL_law_1379 : decode cL_law 1379 = .ok (.iconst 1, 1) := by decide +kernel
theorem dL_law_1380 : decode cL_law 1380 = .ok (.iadd, 1) := by decide +kernel
theorem dL_law_1381 : decode cL_law 1381 = .ok (.iaload, 1) := by decide +kernel
theorem dL_law_1382 : decode cL_law 1382 = .ok (.aload_n 0, 1) := by decide +kernel
theorem dL_law_1383 : decode cL_law 1383 = .ok (.iload 4, 2) := by decide +kernel
theorem dL_law_1385 : decode cL_law 1385 = .ok (.iconst 2, 1) := by decide +kernel
theorem dL_law_1386 : decode cL_law 1386 = .ok (.iadd, 1) := by decide +kernel
theorem dL_law_1387 : decode cL_law 1387 = .ok (.iaload, 1) := by decide +kernel
theorem dL_law_1388 : decode cL_law 1388 = .ok (.aload_n 0, 1) := by decide +kernel
theorem dL_law_1389 : decode cL_law 1389 = .ok (.iload 4, 2) := by decide +kernel
theorem dL_law_1391 : decode cL_law 1391 = .ok (.iconst 3, 1) := by decide +kernel
theorem dL_law_1392 : decode cL_law 1392 = .ok (.iadd, 1) := by decide +kernel
theorem dL_law_1393 : decode cL_law 1393 = .ok (.iaload, 1) := by decide +kernel
theorem dL_law_1394 : decode cL_law 1394 = .ok (.invokevirtual 156, 3) := by decide +kernel
theorem dL_law_1397 : decode cL_law 1397 = .ok (.pop, 1) := by decide +kernel
theorem dL_law_1398 : decode cL_law 1398 = .ok (.aload_n 2, 1) := by decide +kernel
theorem dL_law_1399 : decode cL_law 1399 = .ok (.aload_n 0, 1) := by decide +kernel
theorem dL_law_1400 : decode cL_law 1400 = .ok (.iload 4, 2) := by decide +kernel
theorem dL_law_1402 : decode cL_law 1402 = .ok (.iconst 1, 1) := by decide +kernel
theorem dL_law_1403 : decode cL_law 1403 = .ok (.iadd, 1) := by decide +kernel
theorem dL_law_1404 : decode cL_law 1404 = .ok (.iaload, 1) := by decide +kernel
theorem dL_law_1405 : decode cL_law 1405 = .ok (.aload_n 0, 1) := by decide +kernel
theorem dL_law_1406 : decode cL_law 1406 = .ok (.iload 4, 2) := by decide +kernel
theorem dL_law_1408 : decode cL_law 1408 = .ok (.iconst 2, 1) := by decide +kernel
theorem dL_law_1409 : decode cL_law 1409 = .ok (.iadd, 1) := by decide +kernel
theorem dL_law_1410 : decode cL_law 1410 = .ok (.iaload, 1) := by decide +kernel
theorem dL_law_1411 : decode cL_law 1411 = .ok (.aload_n 0, 1) := by decide +kernel
theorem dL_law_1412 : decode cL_law 1412 = .ok (.iload 4, 2) := by decide +kernel
theorem dL_law_1414 : decode cL_law 1414 = .ok (.iconst 3, 1) := by decide +kernel
theorem dL_law_1415 : decode cL_law 1415 = .ok (.iadd, 1) := by decide +kernel
theorem dL_law_1416 : decode cL_law 1416 = .ok (.iaload, 1) := by decide +kernel
theorem dL_law_1417 : decode cL_law 1417 = .ok (.invokevirtual 159, 3) := by decide +kernel
theorem dL_law_1420 : decode cL_law 1420 = .ok (.pop, 1) := by decide +kernel
theorem dL_law_1421 : decode cL_law 1421 = .ok (.goto 414, 3) := by decide +kernel
theorem dL_law_1424 : decode cL_law 1424 = .ok (.aload_n 1, 1) := by decide +kernel
theorem dL_law_1425 : decode cL_law 1425 = .ok (.aload_n 0, 1) := by decide +kernel
theorem dL_law_1426 : decode cL_law 1426 = .ok (.iload 4, 2) := by decide +kernel
theorem dL_law_1428 : decode cL_law 1428 = .ok (.iconst 1, 1) := by decide +kernel
theorem dL_law_1429 : decode cL_law 1429 = .ok (.iadd, 1) := by decide +kernel
theorem dL_law_1430 : decode cL_law 1430 = .ok (.iaload, 1) := by decide +kernel
theorem dL_law_1431 : decode cL_law 1431 = .ok (.aload_n 0, 1) := by decide +kernel
theorem dL_law_1432 : decode cL_law 1432 = .ok (.iload 4, 2) := by decide +kernel
theorem dL_law_1434 : decode cL_law 1434 = .ok (.iconst 2, 1) := by decide +kernel
theorem dL_law_1435 : decode cL_law 1435 = .ok (.iadd, 1) := by decide +kernel
theorem dL_law_1436 : decode cL_law 1436 = .ok (.iaload, 1) := by decide +kernel
theorem dL_law_1437 : decode cL_law 1437 = .ok (.aload_n 0, 1) := by decide +kernel
theorem dL_law_1438 : decode cL_law 1438 = .ok (.iload 4, 2) := by decide +kernel
theorem dL_law_1440 : decode cL_law 1440 = .ok (.iconst 3, 1) := by decide +kernel
theorem dL_law_1441 : decode cL_law 1441 = .ok (.iadd, 1) := by decide +kernel
theorem dL_law_1442 : decode cL_law 1442 = .ok (.iaload, 1) := by decide +kernel
theorem dL_law_1443 : decode cL_law 1443 = .ok (.invokevirtual 160, 3) := by decide +kernel
theorem dL_law_1446 : decode cL_law 1446 = .ok (.pop, 1) := by decide +kernel
theorem dL_law_1447 : decode cL_law 1447 = .ok (.aload_n 2, 1) := by decide +kernel
theorem dL_law_1448 : decode cL_law 1448 = .ok (.aload_n 0, 1) := by decide +kernel
theorem dL_law_1449 : decode cL_law 1449 = .ok (.iload 4, 2) := by decide +kernel
theorem dL_law_1451 : decode cL_law 1451 = .ok (.iconst 1, 1) := by decide +kernel
theorem dL_law_1452 : decode cL_law 1452 = .ok (.iadd, 1) := by decide +kernel
theorem dL_law_1453 : decode cL_law 1453 = .ok (.iaload, 1) := by decide +kernel
theorem dL_law_1454 : decode cL_law 1454 = .ok (.aload_n 0, 1) := by decide +kernel
theorem dL_law_1455 : decode cL_law 1455 = .ok (.iload 4, 2) := by decide +kernel
theorem dL_law_1457 : decode cL_law 1457 = .ok (.iconst 2, 1) := by decide +kernel
theorem dL_law_1458 : decode cL_law 1458 = .ok (.iadd, 1) := by decide +kernel
theorem dL_law_1459 : decode cL_law 1459 = .ok (.iaload, 1) := by decide +kernel
theorem dL_law_1460 : decode cL_law 1460 = .ok (.aload_n 0, 1) := by decide +kernel
theorem dL_law_1461 : decode cL_law 1461 = .ok (.iload 4, 2) := by decide +kernel
theorem dL_law_1463 : decode cL_law 1463 = .ok (.iconst 3, 1) := by decide +kernel
theorem dL_law_1464 : decode cL_law 1464 = .ok (.iadd, 1) := by decide +kernel
theorem dL_law_1465 : decode cL_law 1465 = .ok (.iaload, 1) := by decide +kernel
theorem dL_law_1466 : decode cL_law 1466 = .ok (.invokevirtual 163, 3) := by decide +kernel
theorem dL_law_1469 : decode cL_law 1469 = .ok (.pop, 1) := by decide +kernel
theorem dL_law_1470 : decode cL_law 1470 = .ok (.goto 365, 3) := by decide +kernel
theorem dL_law_1473 : decode cL_law 1473 = .ok (.aload_n 1, 1) := by decide +kernel
theorem dL_law_1474 : decode cL_law 1474 = .ok (.aload_n 0, 1) := by decide +kernel
theorem dL_law_1475 : decode cL_law 1475 = .ok (.iload 4, 2) := by decide +kernel
theorem dL_law_1477 : decode cL_law 1477 = .ok (.iconst 1, 1) := by decide +kernel
theorem dL_law_1478 : decode cL_law 1478 = .ok (.iadd, 1) := by decide +kernel
theorem dL_law_1479 : decode cL_law 1479 = .ok (.iaload, 1) := by decide +kernel
theorem dL_law_1480 : decode cL_law 1480 = .ok (.invokevirtual 164, 3) := by decide +kernel
theorem dL_law_1483 : decode cL_law 1483 = .ok (.pop, 1) := by decide +kernel
theorem dL_law_1484 : decode cL_law 1484 = .ok (.aload_n 2, 1) := by decide +kernel
theorem dL_law_1485 : decode cL_law 1485 = .ok (.aload_n 0, 1) := by decide +kernel
theorem dL_law_1486 : decode cL_law 1486 = .ok (.iload 4, 2) := by decide +kernel
theorem dL_law_1488 : decode cL_law 1488 = .ok (.iconst 1, 1) := by decide +kernel
theorem dL_law_1489 : decode cL_law 1489 = .ok (.iadd, 1) := by decide +kernel
theorem dL_law_1490 : decode cL_law 1490 = .ok (.iaload, 1) := by decide +kernel
theorem dL_law_1491 : decode cL_law 1491 = .ok (.invokevirtual 167, 3) := by decide +kernel
theorem dL_law_1494 : decode cL_law 1494 = .ok (.pop, 1) := by decide +kernel
theorem dL_law_1495 : decode cL_law 1495 = .ok (.goto 340, 3) := by decide +kernel
theorem dL_law_1498 : decode cL_law 1498 = .ok (.aload_n 1, 1) := by decide +kernel
theorem dL_law_1499 : decode cL_law 1499 = .ok (.aload_n 0, 1) := by decide +kernel
theorem dL_law_1500 : decode cL_law 1500 = .ok (.iload 4, 2) := by decide +kernel
theorem dL_law_1502 : decode cL_law 1502 = .ok (.iconst 1, 1) := by decide +kernel
theorem dL_law_1503 : decode cL_law 1503 = .ok (.iadd, 1) := by decide +kernel
theorem dL_law_1504 : decode cL_law 1504 = .ok (.iaload, 1) := by decide +kernel
theorem dL_law_1505 : decode cL_law 1505 = .ok (.aload_n 0, 1) := by decide +kernel
theorem dL_law_1506 : decode cL_law 1506 = .ok (.iload 4, 2) := by decide +kernel
theorem dL_law_1508 : decode cL_law 1508 = .ok (.iconst 2, 1) := by decide +kernel
theorem dL_law_1509 : decode cL_law 1509 = .ok (.iadd, 1) := by decide +kernel
theorem dL_law_1510 : decode cL_law 1510 = .ok (.iaload, 1) := by decide +kernel
theorem dL_law_1511 : decode cL_law 1511 = .ok (.aload_n 0, 1) := by decide +kernel
theorem dL_law_1512 : decode cL_law 1512 = .ok (.iload 4, 2) := by decide +kernel
theorem dL_law_1514 : decode cL_law 1514 = .ok (.iconst 3, 1) := by decide +kernel
theorem dL_law_1515 : decode cL_law 1515 = .ok (.iadd, 1) := by decide +kernel
theorem dL_law_1516 : decode cL_law 1516 = .ok (.iaload, 1) := by decide +kernel
theorem dL_law_1517 : decode cL_law 1517 = .ok (.invokevirtual 168, 3) := by decide +kernel
theorem dL_law_1520 : decode cL_law 1520 = .ok (.pop, 1) := by decide +kernel
theorem dL_law_1521 : decode cL_law 1521 = .ok (.aload_n 2, 1) := by decide +kernel
theorem dL_law_1522 : decode cL_law 1522 = .ok (.aload_n 0, 1) := by decide +kernel
theorem dL_law_1523 : decode cL_law 1523 = .ok (.iload 4, 2) := by decide +kernel
theorem dL_law_1525 : decode cL_law 1525 = .ok (.iconst 1, 1) := by decide +kernel
theorem dL_law_1526 : decode cL_law 1526 = .ok (.iadd, 1) := by decide +kernel
theorem dL_law_1527 : decode cL_law 1527 = .ok (.iaload, 1) := by decide +kernel
theorem dL_law_1528 : decode cL_law 1528 = .ok (.aload_n 0, 1) := by decide +kernel
theorem dL_law_1529 : decode cL_law 1529 = .ok (.iload 4, 2) := by decide +kernel
theorem dL_law_1531 : decode cL_law 1531 = .ok (.iconst 2, 1) := by decide +kernel
theorem dL_law_1532 : decode cL_law 1532 = .ok (.iadd, 1) := by decide +kernel
theorem dL_law_1533 : decode cL_law 1533 = .ok (.iaload, 1) := by decide +kernel
theorem dL_law_1534 : decode cL_law 1534 = .ok (.aload_n 0, 1) := by decide +kernel
theorem dL_law_1535 : decode cL_law 1535 = .ok (.iload 4, 2) := by decide +kernel
theorem dL_law_1537 : decode cL_law 1537 = .ok (.iconst 3, 1) := by decide +kernel
theorem dL_law_1538 : decode cL_law 1538 = .ok (.iadd, 1) := by decide +kernel
theorem dL_law_1539 : decode cL_law 1539 = .ok (.iaload, 1) := by decide +kernel
theorem dL_law_1540 : decode cL_law 1540 = .ok (.invokevirtual 171, 3) := by decide +kernel
theorem dL_law_1543 : decode cL_law 1543 = .ok (.pop, 1) := by decide +kernel
theorem dL_law_1544 : decode cL_law 1544 = .ok (.goto 291, 3) := by decide +kernel
theorem dL_law_1547 : decode cL_law 1547 = .ok (.aload_n 1, 1) := by decide +kernel
theorem dL_law_1548 : decode cL_law 1548 = .ok (.invokevirtual 172, 3) := by decide +kernel
theorem dL_law_1551 : decode cL_law 1551 = .ok (.pop, 1) := by decide +kernel
theorem dL_law_1552 : decode cL_law 1552 = .ok (.aload_n 2, 1) := by decide +kernel
theorem dL_law_1553 : decode cL_law 1553 = .ok (.invokevirtual 175, 3) := by decide +kernel
theorem dL_law_1556 : decode cL_law 1556 = .ok (.pop, 1) := by decide +kernel
theorem dL_law_1557 : decode cL_law 1557 = .ok (.goto 278, 3) := by decide +kernel
theorem dL_law_1560 : decode cL_law 1560 = .ok (.aload_n 1, 1) := by decide +kernel
theorem dL_law_1561 : decode cL_law 1561 = .ok (.aload_n 0, 1) := by decide +kernel
theorem dL_law_1562 : decode cL_law 1562 = .ok (.iload 4, 2) := by decide +kernel
theorem dL_law_1564 : decode cL_law 1564 = .ok (.iconst 1, 1) := by decide +kernel
theorem dL_law_1565 : decode cL_law 1565 = .ok (.iadd, 1) := by decide +kernel
theorem dL_law_1566 : decode cL_law 1566 = .ok (.iaload, 1) := by decide +kernel
theorem dL_law_1567 : decode cL_law 1567 = .ok (.aload_n 0, 1) := by decide +kernel
theorem dL_law_1568 : decode cL_law 1568 = .ok (.iload 4, 2) := by decide +kernel
theorem dL_law_1570 : decode cL_law 1570 = .ok (.iconst 2, 1) := by decide +kernel
theorem dL_law_1571 : decode cL_law 1571 = .ok (.iadd, 1) := by decide +kernel
theorem dL_law_1572 : decode cL_law 1572 = .ok (.iaload, 1) := by decide +kernel
theorem dL_law_1573 : decode cL_law 1573 = .ok (.invokevirtual 176, 3) := by decide +kernel
theorem dL_law_1576 : decode cL_law 1576 = .ok (.pop, 1) := by decide +kernel
theorem dL_law_1577 : decode cL_law 1577 = .ok (.aload_n 2, 1) := by decide +kernel
theorem dL_law_1578 : decode cL_law 1578 = .ok (.aload_n 0, 1) := by decide +kernel
theorem dL_law_1579 : decode cL_law 1579 = .ok (.iload 4, 2) := by decide +kernel
theorem dL_law_1581 : decode cL_law 1581 = .ok (.iconst 1, 1) := by decide +kernel
theorem dL_law_1582 : decode cL_law 1582 = .ok (.iadd, 1) := by decide +kernel
theorem dL_law_1583 : decode cL_law 1583 = .ok (.iaload, 1) := by decide +kernel
theorem dL_law_1584 : decode cL_law 1584 = .ok (.aload_n 0, 1) := by decide +kernel
theorem dL_law_1585 : decode cL_law 1585 = .ok (.iload 4, 2) := by decide +kernel
theorem dL_law_1587 : decode cL_law 1587 = .ok (.iconst 2, 1) := by decide +kernel
theorem dL_law_1588 : decode cL_law 1588 = .ok (.iadd, 1) := by decide +kernel
theorem dL_law_1589 : decode cL_law 1589 = .ok (.iaload, 1) := by decide +kernel
theorem dL_law_1590 : decode cL_law 1590 = .ok (.invokevirtual 179, 3) := by decide +kernel
theorem dL_law_1593 : decode cL_law 1593 = .ok (.pop, 1) := by decide +kernel
theorem dL_law_1594 : decode cL_law 1594 = .ok (.goto 241, 3) := by decide +kernel
theorem dL_law_1597 : decode cL_law 1597 = .ok (.aload_n 1, 1) := by decide +kernel
theorem dL_law_1598 : decode cL_law 1598 = .ok (.invokevirtual 180, 3) := by decide +kernel
theorem dL_law_1601 : decode cL_law 1601 = .ok (.pop, 1) := by decide +kernel
theorem dL_law_1602 : decode cL_law 1602 = .ok (.aload_n 2, 1) := by decide +kernel
theorem dL_law_1603 : decode cL_law 1603 = .ok (.invokevirtual 183, 3) := by decide +kernel
theorem dL_law_1606 : decode cL_law 1606 = .ok (.pop, 1) := by decide +kernel
theorem dL_law_1607 : decode cL_law 1607 = .ok (.goto 228, 3) := by decide +kernel
theorem dL_law_1610 : decode cL_law 1610 = .ok (.aload_n 1, 1) := by decide +kernel
theorem dL_law_1611 : decode cL_law 1611 = .ok (.aload_n 0, 1) := by decide +kernel
theorem dL_law_1612 : decode cL_law 1612 = .ok (.iload 4, 2) := by decide +kernel
theorem dL_law_1614 : decode cL_law 1614 = .ok (.iconst 1, 1) := by decide +kernel
theorem dL_law_1615 : decode cL_law 1615 = .ok (.iadd, 1) := by decide +kernel
theorem dL_law_1616 : decode cL_law 1616 = .ok (.iaload, 1) := by decide +kernel
theorem dL_law_1617 : decode cL_law 1617 = .ok (.invokevirtual 184, 3) := by decide +kernel
theorem dL_law_1620 : decode cL_law 1620 = .ok (.pop, 1) := by decide +kernel
theorem dL_law_1621 : decode cL_law 1621 = .ok (.aload_n 2, 1) := by decide +kernel
theorem dL_law_1622 : decode cL_law 1622 = .ok (.aload_n 0, 1) := by decide +kernel
theorem dL_law_1623 : decode cL_law 1623 = .ok (.iload 4, 2) := by decide +kernel
theorem dL_law_1625 : decode cL_law 1625 = .ok (.iconst 1, 1) := by decide +kernel
theorem dL_law_1626 : decode cL_law 1626 = .ok (.iadd, 1) := by decide +kernel
theorem dL_law_1627 : decode cL_law 1627 = .ok (.iaload, 1) := by decide +kernel
theorem dL_law_1628 : decode cL_law 1628 = .ok (.invokevirtual 187, 3) := by decide +kernel
theorem dL_law_1631 : decode cL_law 1631 = .ok (.pop, 1) := by decide +kernel
theorem dL_law_1632 : decode cL_law 1632 = .ok (.goto 203, 3) := by decide +kernel
theorem dL_law_1635 : decode cL_law 1635 = .ok (.aload_n 1, 1) := by decide +kernel
theorem dL_law_1636 : decode cL_law 1636 = .ok (.aload_n 0, 1) := by decide +kernel
theorem dL_law_1637 : decode cL_law 1637 = .ok (.iload 4, 2) := by decide +kernel
theorem dL_law_1639 : decode cL_law 1639 = .ok (.iconst 1, 1) := by decide +kernel
theorem dL_law_1640 : decode cL_law 1640 = .ok (.iadd, 1) := by decide +kernel
theorem dL_law_1641 : decode cL_law 1641 = .ok (.iaload, 1) := by decide +kernel
theorem dL_law_1642 : decode cL_law 1642 = .ok (.aload_n 0, 1) := by decide +kernel
theorem dL_law_1643 : decode cL_law 1643 = .ok (.iload 4, 2) := by decide +kernel
theorem dL_law_1645 : decode cL_law 1645 = .ok (.iconst 2, 1) := by decide +kernel
theorem dL_law_1646 : decode cL_law 1646 = .ok (.iadd, 1) := by decide +kernel
theorem dL_law_1647 : decode cL_law 1647 = .ok (.iaload, 1) := by decide +kernel
theorem dL_law_1648 : decode cL_law 1648 = .ok (.invokevirtual 188, 3) := by decide +kernel
theorem dL_law_1651 : decode cL_law 1651 = .ok (.pop, 1) := by decide +kernel
theorem dL_law_1652 : decode cL_law 1652 = .ok (.aload_n 2, 1) := by decide +kernel
theorem dL_law_1653 : decode cL_law 1653 = .ok (.aload_n 0, 1) := by decide +kernel
theorem dL_law_1654 : decode cL_law 1654 = .ok (.iload 4, 2) := by decide +kernel
theorem dL_law_1656 : decode cL_law 1656 = .ok (.iconst 1, 1) := by decide +kernel
theorem dL_law_1657 : decode cL_law 1657 = .ok (.iadd, 1) := by decide +kernel
theorem dL_law_1658 : decode cL_law 1658 = .ok (.iaload, 1) := by decide +kernel
theorem dL_law_1659 : decode cL_law 1659 = .ok (.aload_n 0, 1) := by decide +kernel
theorem dL_law_1660 : decode cL_law 1660 = .ok (.iload 4, 2) := by decide +kernel
theorem dL_law_1662 : decode cL_law 1662 = .ok (.iconst 2, 1) := by decide +kernel
theorem dL_law_1663 : decode cL_law 1663 = .ok (.iadd, 1) := by decide +kernel
theorem dL_law_1664 : decode cL_law 1664 = .ok (.iaload, 1) := by decide +kernel
theorem dL_law_1665 : decode cL_law 1665 = .ok (.invokevirtual 191, 3) := by decide +kernel
theorem dL_law_1668 : decode cL_law 1668 = .ok (.pop, 1) := by decide +kernel
theorem dL_law_1669 : decode cL_law 1669 = .ok (.goto 166, 3) := by decide +kernel
theorem dL_law_1672 : decode cL_law 1672 = .ok (.aload_n 1, 1) := by decide +kernel
theorem dL_law_1673 : decode cL_law 1673 = .ok (.aload_n 0, 1) := by decide +kernel
theorem dL_law_1674 : decode cL_law 1674 = .ok (.iload 4, 2) := by decide +kernel
theorem dL_law_1676 : decode cL_law 1676 = .ok (.iconst 1, 1) := by decide +kernel
theorem dL_law_1677 : decode cL_law 1677 = .ok (.iadd, 1) := by decide +kernel
theorem dL_law_1678 : decode cL_law 1678 = .ok (.iaload, 1) := by decide +kernel
theorem dL_law_1679 : decode cL_law 1679 = .ok (.invokevirtual 192, 3) := by decide +kernel
theorem dL_law_1682 : decode cL_law 1682 = .ok (.pop, 1) := by decide +kernel
theorem dL_law_1683 : decode cL_law 1683 = .ok (.aload_n 2, 1) := by decide +kernel
theorem dL_law_1684 : decode cL_law 1684 = .ok (.aload_n 0, 1) := by decide +kernel
theorem dL_law_1685 : decode cL_law 1685 = .ok (.iload 4, 2) := by decide +kernel
theorem dL_law_1687 : decode cL_law 1687 = .ok (.iconst 1, 1) := by decide +kernel
theorem dL_law_1688 : decode cL_law 1688 = .ok (.iadd, 1) := by decide +kernel
theorem dL_law_1689 : decode cL_law 1689 = .ok (.iaload, 1) := by decide +kernel
theorem dL_law_1690 : decode cL_law 1690 = .ok (.invokevirtual 195, 3) := by decide +kernel
theorem dL_law_1693 : decode cL_law 1693 = .ok (.pop, 1) := by decide +kernel
theorem dL_law_1694 : decode cL_law 1694 = .ok (.goto 141, 3) := by decide +kernel
theorem dL_law_1697 : decode cL_law 1697 = .ok (.aload_n 1, 1) := by decide +kernel
theorem dL_law_1698 : decode cL_law 1698 = .ok (.aload_n 0, 1) := by decide +kernel
theorem dL_law_1699 : decode cL_law 1699 = .ok (.iload 4, 2) := by decide +kernel
theorem dL_law_1701 : decode cL_law 1701 = .ok (.iconst 1, 1) := by decide +kernel
theorem dL_law_1702 : decode cL_law 1702 = .ok (.iadd, 1) := by decide +kernel
theorem dL_law_1703 : decode cL_law 1703 = .ok (.iaload, 1) := by decide +kernel
theorem dL_law_1704 : decode cL_law 1704 = .ok (.invokevirtual 196, 3) := by decide +kernel
theorem dL_law_1707 : decode cL_law 1707 = .ok (.pop, 1) := by decide +kernel
theorem dL_law_1708 : decode cL_law 1708 = .ok (.aload_n 2, 1) := by decide +kernel
theorem dL_law_1709 : decode cL_law 1709 = .ok (.aload_n 0, 1) := by decide +kernel
theorem dL_law_1710 : decode cL_law 1710 = .ok (.iload 4, 2) := by decide +kernel
theorem dL_law_1712 : decode cL_law 1712 = .ok (.iconst 1, 1) := by decide +kernel
theorem dL_law_1713 : decode cL_law 1713 = .ok (.iadd, 1) := by decide +kernel
theorem dL_law_1714 : decode cL_law 1714 = .ok (.iaload, 1) := by decide +kernel
theorem dL_law_1715 : decode cL_law 1715 = .ok (.invokevirtual 199, 3) := by decide +kernel
theorem dL_law_1718 : decode cL_law 1718 = .ok (.pop, 1) := by decide +kernel
theorem dL_law_1719 : decode cL_law 1719 = .ok (.goto 116, 3) := by decide +kernel
theorem dL_law_1722 : decode cL_law 1722 = .ok (.aload_n 1, 1) := by decide +kernel
theorem dL_law_1723 : decode cL_law 1723 = .ok (.aload_n 0, 1) := by decide +kernel
theorem dL_law_1724 : decode cL_law 1724 = .ok (.iload 4, 2) := by decide +kernel
theorem dL_law_1726 : decode cL_law 1726 = .ok (.iconst 1, 1) := by decide +kernel
theorem dL_law_1727 : decode cL_law 1727 = .ok (.iadd, 1) := by decide +kernel
theorem dL_law_1728 : decode cL_law 1728 = .ok (.iaload, 1) := by decide +kernel
theorem dL_law_1729 : decode cL_law 1729 = .ok (.aload_n 0, 1) := by decide +kernel
theorem dL_law_1730 : decode cL_law 1730 = .ok (.iload 4, 2) := by decide +kernel
theorem dL_law_1732 : decode cL_law 1732 = .ok (.iconst 2, 1) := by decide +kernel
theorem dL_law_1733 : decode cL_law 1733 = .ok (.iadd, 1) := by decide +kernel
theorem dL_law_1734 : decode cL_law 1734 = .ok (.iaload, 1) := by decide +kernel
theorem dL_law_1735 : decode cL_law 1735 = .ok (.invokevirtual 200, 3) := by decide +kernel
theorem dL_law_1738 : decode cL_law 1738 = .ok (.pop, 1) := by decide +kernel
theorem dL_law_1739 : decode cL_law 1739 = .ok (.aload_n 2, 1) := by decide +kernel
theorem dL_law_1740 : decode cL_law 1740 = .ok (.aload_n 0, 1) := by decide +kernel
theorem dL_law_1741 : decode cL_law 1741 = .ok (.iload 4, 2) := by decide +kernel
theorem dL_law_1743 : decode cL_law 1743 = .ok (.iconst 1, 1) := by decide +kernel
theorem dL_law_1744 : decode cL_law 1744 = .ok (.iadd, 1) := by decide +kernel
theorem dL_law_1745 : decode cL_law 1745 = .ok (.iaload, 1) := by decide +kernel
theorem dL_law_1746 : decode cL_law 1746 = .ok (.aload_n 0, 1) := by decide +kernel
theorem dL_law_1747 : decode cL_law 1747 = .ok (.iload 4, 2) := by decide +kernel
theorem dL_law_1749 : decode cL_law 1749 = .ok (.iconst 2, 1) := by decide +kernel
theorem dL_law_1750 : decode cL_law 1750 = .ok (.iadd, 1) := by decide +kernel
theorem dL_law_1751 : decode cL_law 1751 = .ok (.iaload, 1) := by decide +kernel
theorem dL_law_1752 : decode cL_law 1752 = .ok (.invokevirtual 203, 3) := by decide +kernel
theorem dL_law_1755 : decode cL_law 1755 = .ok (.pop, 1) := by decide +kernel
theorem dL_law_1756 : decode cL_law 1756 = .ok (.goto 79, 3) := by decide +kernel
theorem dL_law_1759 : decode cL_law 1759 = .ok (.aload_n 1, 1) := by decide +kernel
theorem dL_law_1760 : decode cL_law 1760 = .ok (.aload_n 0, 1) := by decide +kernel
theorem dL_law_1761 : decode cL_law 1761 = .ok (.iload 4, 2) := by decide +kernel
theorem dL_law_1763 : decode cL_law 1763 = .ok (.iconst 1, 1) := by decide +kernel
theorem dL_law_1764 : decode cL_law 1764 = .ok (.iadd, 1) := by decide +kernel
theorem dL_law_1765 : decode cL_law 1765 = .ok (.iaload, 1) := by decide +kernel
theorem dL_law_1766 : decode cL_law 1766 = .ok (.invokevirtual 204, 3) := by decide +kernel
theorem dL_law_1769 : decode cL_law 1769 = .ok (.pop, 1) := by decide +kernel
theorem dL_law_1770 : decode cL_law 1770 = .ok (.aload_n 2, 1) := by decide +kernel
theorem dL_law_1771 : decode cL_law 1771 = .ok (.aload_n 0, 1) := by decide +kernel
theorem dL_law_1772 : decode cL_law 1772 = .ok (.iload 4, 2) := by decide +kernel
theorem dL_law_1774 : decode cL_law 1774 = .ok (.iconst 1, 1) := by decide +kernel
theorem dL_law_1775 : decode cL_law 1775 = .ok (.iadd, 1) := by decide +kernel
theorem dL_law_1776 : decode cL_law 1776 = .ok (.iaload, 1) := by decide +kernel
theorem dL_law_1777 : decode cL_law 1777 = .ok (.invokevirtual 207, 3) := by decide +kernel
theorem dL_law_1780 : decode cL_law 1780 = .ok (.pop, 1) := by decide +kernel
theorem dL_law_1781 : decode cL_law 1781 = .ok (.goto 54, 3) := by decide +kernel
theorem dL_law_1784 : decode cL_law 1784 = .ok (.aload_n 1, 1) := by decide +kernel
theorem dL_law_1785 : decode cL_law 1785 = .ok (.invokevirtual 208, 3) := by decide +kernel
theorem dL_law_1788 : decode cL_law 1788 = .ok (.pop, 1) := by decide +kernel
theorem dL_law_1789 : decode cL_law 1789 = .ok (.aload_n 2, 1) := by decide +kernel
theorem dL_law_1790 : decode cL_law 1790 = .ok (.invokevirtual 211, 3) := by decide +kernel
theorem dL_law_1793 : decode cL_law 1793 = .ok (.pop, 1) := by decide +kernel
theorem dL_law_1794 : decode cL_law 1794 = .ok (.goto 41, 3) := by decide +kernel
theorem dL_law_1797 : decode cL_law 1797 = .ok (.aload_n 1, 1) := by decide +kernel
theorem dL_law_1798 : decode cL_law 1798 = .ok (.invokevirtual 212, 3) := by decide +kernel
theorem dL_law_1801 : decode cL_law 1801 = .ok (.pop, 1) := by decide +kernel
theorem dL_law_1802 : decode cL_law 1802 = .ok (.aload_n 2, 1) := by decide +kernel
theorem dL_law_1803 : decode cL_law 1803 = .ok (.invokevirtual 215, 3) := by decide +kernel
theorem dL_law_1806 : decode cL_law 1806 = .ok (.pop, 1) := by decide +kernel
theorem dL_law_1807 : decode cL_law 1807 = .ok (.goto 28, 3) := by decide +kernel
theorem dL_law_1810 : decode cL_law 1810 = .ok (.aload_n 1, 1) := by decide +kernel
theorem dL_law_1811 : decode cL_law 1811 = .ok (.aload_n 0, 1) := by decide +kernel
theorem dL_law_1812 : decode cL_law 1812 = .ok (.iload 4, 2) := by decide +kernel
theorem dL_law_1814 : decode cL_law 1814 = .ok (.iconst 1, 1) := by decide +kernel
theorem dL_law_1815 : decode cL_law 1815 = .ok (.iadd, 1) := by decide +kernel
theorem dL_law_1816 : decode cL_law 1816 = .ok (.iaload, 1) := by decide +kernel
theorem dL_law_1817 : decode cL_law 1817 = .ok (.invokevirtual 216, 3) := by decide +kernel
theorem dL_law_1820 : decode cL_law 1820 = .ok (.pop, 1) := by decide +kernel
theorem dL_law_1821 : decode cL_law 1821 = .ok (.aload_n 2, 1) := by decide +kernel
theorem dL_law_1822 : decode cL_law 1822 = .ok (.aload_n 0, 1) := by decide +kernel
theorem dL_law_1823 : decode cL_law 1823 = .ok (.iload 4, 2) := by decide +kernel
theorem dL_law_1825 : decode cL_law 1825 = .ok (.iconst 1, 1) := by decide +kernel
theorem dL_law_1826 : decode cL_law 1826 = .ok (.iadd, 1) := by decide +kernel
theorem dL_law_1827 : decode cL_law 1827 = .ok (.iaload, 1) := by decide +kernel
theorem dL_law_1828 : decode cL_law 1828 = .ok (.invokevirtual 219, 3) := by decide +kernel
theorem dL_law_1831 : decode cL_law 1831 = .ok (.pop, 1) := by decide +kernel
theorem dL_law_1832 : decode cL_law 1832 = .ok (.goto 3, 3) := by decide +kernel
theorem dL_law_1835 : decode cL_law 1835 = .ok (.iinc 4 6, 3) := by decide +kernel
theorem dL_law_1838 : decode cL_law 1838 = .ok (.goto (-1815), 3) := by decide +kernel
theorem dL_law_1841 : decode cL_law 1841 = .ok (.iconst 1, 1) := by decide +kernel
theorem dL_law_1842 : decode cL_law 1842 = .ok (.ireturn, 1) := by decide +kernel
