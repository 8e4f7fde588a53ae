theorem dX12_freedMany_9 : decode cX12_freedMany 9 = .ok (.iadd, 1) := by decide +kernel
theorem dX12_freedMany_10 : decode cX12_freedMany 10 = .ok (.iconst 1, 1) := by decide +kernel
theorem dX12_freedMany_11 : decode cX12_freedMany 11 = .ok (.iadd, 1) := by decide +kernel
theorem dX12_freedMany_12 : decode cX12_freedMany 12 = .ok (.iaload, 1) := by decide +kernel
theorem dX12_freedMany_13 : decode cX12_freedMany 13 = .ok (.aload_n 0, 1) := by decide +kernel
theorem dX12_freedMany_14 : decode cX12_freedMany 14 = .ok (.getfield 53, 3) := by decide +kernel
theorem dX12_freedMany_17 : decode cX12_freedMany 17 = .ok (.aload_n 0, 1) := by decide +kernel
theorem dX12_freedMany_18 : decode cX12_freedMany 18 = .ok (.getfield 85, 3) := by decide +kernel
theorem dX12_freedMany_21 : decode cX12_freedMany 21 = .ok (.iconst 3, 1) := by decide +kernel
theorem dX12_freedMany_22 : decode cX12_freedMany 22 = .ok (.iadd, 1) := by decide +kernel
theorem dX12_freedMany_23 : decode cX12_freedMany 23 = .ok (.iconst 2, 1) := by decide +kernel
theorem dX12_freedMany_24 : decode cX12_freedMany 24 = .ok (.iadd, 1) := by decide +kernel
theorem dX12_freedMany_25 : decode cX12_freedMany 25 = .ok (.iaload, 1) := by decide +kernel
theorem dX12_freedMany_26 : decode cX12_freedMany 26 = .ok (.iadd, 1) := by decide +kernel
theorem dX12_freedMany_27 : decode cX12_freedMany 27 = .ok (.ireturn, 1) := by decide +kernel
theorem dX12_trialOne_0 : decode cX12_trialOne 0 = .ok (.aload_n 0, 1) := by decide +kernel
theorem dX12_trialOne_1 : decode cX12_trialOne 1 = .ok (.invokevirtual 97, 3) := by decide +kernel
theorem dX12_trialOne_4 : decode cX12_trialOne 4 = .ok (.ifCond .ne 6, 3) := by decide +kernel
theorem dX12_trialOne_7 : decode cX12_trialOne 7 = .ok (.bipush (-2), 2) := by decide +kernel
theorem dX12_trialOne_9 : decode cX12_trialOne 9 = .ok (.ireturn, 1) := by decide +kernel
theorem dX12_trialOne_10 : decode cX12_trialOne 10 = .ok (.aload_n 0, 1) := by decide +kernel
theorem dX12_trialOne_11 : decode cX12_trialOne 11 = .ok (.invokevirtual 227, 3) := by decide +kernel
theorem dX12_trialOne_14 : decode cX12_trialOne 14 = .ok (.istore_n 1, 1) := by decide +kernel
theorem dX12_trialOne_15 : decode cX12_trialOne 15 = .ok (.aload_n 0, 1) := by decide +kernel
theorem dX12_trialOne_16 : decode cX12_trialOne 16 = .ok (.getfield 53, 3) := by decide +kernel
theorem dX12_trialOne_19 : decode cX12_trialOne 19 = .ok (.aload_n 0, 1) := by decide +kernel
theorem dX12_trialOne_20 : decode cX12_trialOne 20 = .ok (.getfield 85, 3) := by decide +kernel
theorem dX12_trialOne_23 : decode cX12_trialOne 23 = .ok (.iconst 3, 1) := by decide +kernel
theorem dX12_trialOne_24 : decode cX12_trialOne 24 = .ok (.iadd, 1) := by decide +kernel
theorem dX12_trialOne_25 : decode cX12_trialOne 25 = .ok (.iconst 3, 1) := by decide +kernel
theorem dX12_trialOne_26 : decode cX12_trialOne 26 = .ok (.iadd, 1) := by decide +kernel
theorem dX12_trialOne_27 : decode cX12_trialOne 27 = .ok (.iaload, 1) := by decide +kernel
theorem dX12_trialOne_28 : decode cX12_trialOne 28 = .ok (.istore_n 2, 1) := by decide +kernel
theorem dX12_trialOne_29 : decode cX12_trialOne 29 = .ok (.aload_n 0, 1) := by decide +kernel
theorem dX12_trialOne_30 : decode cX12_trialOne 30 = .ok (.invokevirtual 190, 3) := by decide +kernel
theorem dX12_trialOne_33 : decode cX12_trialOne 33 = .ok (.aload_n 0, 1) := by decide +kernel
theorem dX12_trialOne_34 : decode cX12_trialOne 34 = .ok (.aload_n 0, 1) := by decide +kernel
theorem dX12_trialOne_35 : decode cX12_trialOne 35 = .ok (.getfield 53, 3) := by decide +kernel
theorem dX12_trialOne_38 : decode cX12_trialOne 38 = .ok (.aload_n 0, 1) := by decide +kernel
theorem dX12_trialOne_39 : decode cX12_trialOne 39 = .ok (.getfield 85, 3) := by decide +kernel
theorem dX12_trialOne_42 : decode cX12_trialOne 42 = .ok (.iconst 3, 1) := by decide +kernel
theorem dX12_trialOne_43 : decode cX12_trialOne 43 = .ok (.iadd, 1) := by decide +kernel
theorem dX12_trialOne_44 : decode cX12_trialOne 44 = .ok (.iconst 3, 1) := by decide +kernel
theorem dX12_trialOne_45 : decode cX12_trialOne 45 = .ok (.iadd, 1) := by decide +kernel
theorem dX12_trialOne_46 : decode cX12_trialOne 46 = .ok (.iaload, 1) := by decide +kernel
theorem dX12_trialOne_47 : decode cX12_trialOne 47 = .ok (.iload_n 2, 1) := by decide +kernel
theorem dX12_trialOne_48 : decode cX12_trialOne 48 = .ok (.isub, 1) := by decide +kernel
theorem dX12_trialOne_49 : decode cX12_trialOne 49 = .ok (.putfield 230, 3) := by decide +kernel
theorem dX12_trialOne_52 : decode cX12_trialOne 52 = .ok (.aload_n 0, 1) := by decide +kernel
theorem dX12_trialOne_53 : decode cX12_trialOne 53 = .ok (.invokevirtual 227, 3) := by decide +kernel
theorem dX12_trialOne_56 : decode cX12_trialOne 56 = .ok (.iload_n 1, 1) := by decide +kernel
theorem dX12_trialOne_57 : decode cX12_trialOne 57 = .ok (.isub, 1) := by decide +kernel
theorem dX12_trialOne_58 : decode cX12_trialOne 58 = .ok (.ireturn, 1) := by decide +kernel
theorem dX12_entersBoth_0 : decode cX12_entersBoth 0 = .ok (.iload_n 1, 1) := by decide +kernel
theorem dX12_entersBoth_1 : decode cX12_entersBoth 1 = .ok (.ifCond .lt 29, 3) := by decide +kernel
theorem dX12_entersBoth_4 : decode cX12_entersBoth 4 = .ok (.aload_n 0, 1) := by decide +kernel
theorem dX12_entersBoth_5 : decode cX12_entersBoth 5 = .ok (.iconst 0, 1) := by decide +kernel
theorem dX12_entersBoth_6 : decode cX12_entersBoth 6 = .ok (.putfield 11, 3) := by decide +kernel
theorem dX12_entersBoth_9 : decode cX12_entersBoth 9 = .ok (.aload_n 0, 1) := by decide +kernel
theorem dX12_entersBoth_10 : decode cX12_entersBoth 10 = .ok (.aload_n 0, 1) := by decide +kernel
theorem dX12_entersBoth_11 : decode cX12_entersBoth 11 = .ok (.invokevirtual 233, 3) := by decide +kernel
theorem dX12_entersBoth_14 : decode cX12_entersBoth 14 = .ok (.invokestatic 236, 3) := by decide +kernel
theorem dX12_entersBoth_17 : decode cX12_entersBoth 17 = .ok (.i2l, 1) := by decide +kernel
theorem dX12_entersBoth_18 : decode cX12_entersBoth 18 = .ok (.invokevirtual 239, 3) := by decide +kernel
theorem dX12_entersBoth_21 : decode cX12_entersBoth 21 = .ok (.aload_n 0, 1) := by decide +kernel
theorem dX12_entersBoth_22 : decode cX12_entersBoth 22 = .ok (.aload_n 0, 1) := by decide +kernel
theorem dX12_entersBoth_23 : decode cX12_entersBoth 23 = .ok (.invokevirtual 97, 3) := by decide +kernel
theorem dX12_entersBoth_26 : decode cX12_entersBoth 26 = .ok (.i2l, 1) := by decide +kernel
theorem dX12_entersBoth_27 : decode cX12_entersBoth 27 = .ok (.invokevirtual 239, 3) := by decide +kernel
theorem dX12_entersBoth_30 : decode cX12_entersBoth 30 = .ok (.iload_n 1, 1) := by decide +kernel
theorem dX12_entersBoth_31 : decode cX12_entersBoth 31 = .ok (.ireturn, 1) := by decide +kernel
theorem dX12_done_0 : decode cX12_done 0 = .ok (.iload_n 1, 1) := by decide +kernel
theorem dX12_done_1 : decode cX12_done 1 = .ok (.ifCond .lt 7, 3) := by decide +kernel
theorem dX12_done_4 : decode cX12_done 4 = .ok (.aload_n 0, 1) := by decide +kernel
theorem dX12_done_5 : decode cX12_done 5 = .ok (.invokevirtual 243, 3) := by decide +kernel
theorem dX12_done_8 : decode cX12_done 8 = .ok (.iload_n 1, 1) := by decide +kernel
theorem dX12_done_9 : decode cX12_done 9 = .ok (.ireturn, 1) := by decide +kernel
theorem dX12_makes_0 : decode cX12_makes 0 = .ok (.aload_n 0, 1) := by decide +kernel
theorem dX12_makes_1 : decode cX12_makes 1 = .ok (.iconst 0, 1) := by decide +kernel
theorem dX12_makes_2 : decode cX12_makes 2 = .ok (.putfield 1, 3) := by decide +kernel
theorem dX12_makes_5 : decode cX12_makes 5 = .ok (.aload_n 0, 1) := by decide +kernel
theorem dX12_makes_6 : decode cX12_makes 6 = .ok (.iconst 0, 1) := by decide +kernel
theorem dX12_makes_7 : decode cX12_makes 7 = .ok (.iconst 3, 1) := by decide +kernel
theorem dX12_makes_8 : decode cX12_makes 8 = .ok (.invokevirtual 81, 3) := by decide +kernel
theorem dX12_makes_11 : decode cX12_makes 11 = .ok (.aload_n 0, 1) := by decide +kernel
theorem dX12_makes_12 : decode cX12_makes 12 = .ok (.getfield 53, 3) := by decide +kernel
theorem dX12_makes_15 : decode cX12_makes 15 = .ok (.iconst 2, 1) := by decide +kernel
theorem dX12_makes_16 : decode cX12_makes 16 = .ok (.iaload, 1) := by decide +kernel
theorem dX12_makes_17 : decode cX12_makes 17 = .ok (.istore 5, 2) := by decide +kernel
theorem dX12_makes_19 : decode cX12_makes 19 = .ok (.aload_n 0, 1) := by decide +kernel
theorem dX12_makes_20 : decode cX12_makes 20 = .ok (.iload_n 1, 1) := by decide +kernel
theorem dX12_makes_21 : decode cX12_makes 21 = .ok (.iload_n 2, 1) := by decide +kernel
theorem dX12_makes_22 : decode cX12_makes 22 = .ok (.iload_n 3, 1) := by decide +kernel
theorem dX12_makes_23 : decode cX12_makes 23 = .ok (.iload 4, 2) := by decide +kernel
theorem dX12_makes_25 : decode cX12_makes 25 = .ok (.invokevirtual 246, 3) := by decide +kernel
theorem dX12_makes_28 : decode cX12_makes 28 = .ok (.istore 6, 2) := by decide +kernel
theorem dX12_makes_30 : decode cX12_makes 30 = .ok (.iload 6, 2) := by decide +kernel
theorem dX12_makes_32 : decode cX12_makes 32 = .ok (.ifCond .lt 22, 3) := by decide +kernel
theorem dX12_makes_35 : decode cX12_makes 35 = .ok (.aload_n 0, 1) := by decide +kernel
theorem dX12_makes_36 : decode cX12_makes 36 = .ok (.iconst 0, 1) := by decide +kernel
theorem dX12_makes_37 : decode cX12_makes 37 = .ok (.putfield 11, 3) := by decide +kernel
theorem dX12_makes_40 : decode cX12_makes 40 = .ok (.aload_n 0, 1) := by decide +kernel
theorem dX12_makes_41 : decode cX12_makes 41 = .ok (.aload_n 0, 1) := by decide +kernel
theorem dX12_makes_42 : decode cX12_makes 42 = .ok (.getfield 53, 3) := by decide +kernel
theorem dX12_makes_45 : decode cX12_makes 45 = .ok (.iconst 2, 1) := by decide +kernel
theorem dX12_makes_46 : decode cX12_makes 46 = .ok (.iaload, 1) := by decide +kernel
theorem dX12_makes_47 : decode cX12_makes 47 = .ok (.iload 5, 2) := by decide +kernel
theorem dX12_makes_49 : decode cX12_makes 49 = .ok (.isub, 1) := by decide +kernel
theorem dX12_makes_50 : decode cX12_makes 50 = .ok (.i2l, 1) := by decide +kernel
theorem dX12_makes_51 : decode cX12_makes 51 = .ok (.invokevirtual 239, 3) := by decide +kernel
theorem dX12_makes_54 : decode cX12_makes 54 = .ok (.aload_n 0, 1) := by decide +kernel
theorem dX12_makes_55 : decode cX12_makes 55 = .ok (.iload 6, 2) := by decide +kernel
theorem dX12_makes_57 : decode cX12_makes 57 = .ok (.invokevirtual 250, 3) := by decide +kernel
theorem dX12_makes_60 : decode cX12_makes 60 = .ok (.ireturn, 1) := by decide +kernel
theorem dX12_sets_0 : decode cX12_sets 0 = .ok (.aload_n 0, 1) := by decide +kernel
theorem dX12_sets_1 : decode cX12_sets 1 = .ok (.iconst 0, 1) := by decide +kernel
theorem dX12_sets_2 : decode cX12_sets 2 = .ok (.putfield 1, 3) := by decide +kernel
theorem dX12_sets_5 : decode cX12_sets 5 = .ok (.aload_n 0, 1) := by decide +kernel
theorem dX12_sets_6 : decode cX12_sets 6 = .ok (.iconst 0, 1) := by decide +kernel
theorem dX12_sets_7 : decode cX12_sets 7 = .ok (.iconst 3, 1) := by decide +kernel
theorem dX12_sets_8 : decode cX12_sets 8 = .ok (.invokevirtual 81, 3) := by decide +kernel
theorem dX12_sets_11 : decode cX12_sets 11 = .ok (.aload_n 0, 1) := by decide +kernel
theorem dX12_sets_12 : decode cX12_sets 12 = .ok (.aload_n 0, 1) := by decide +kernel
theorem dX12_sets_13 : decode cX12_sets 13 = .ok (.aload_n 0, 1) := by decide +kernel
theorem dX12_sets_14 : decode cX12_sets 14 = .ok (.iload_n 1, 1) := by decide +kernel
theorem dX12_sets_15 : decode cX12_sets 15 = .ok (.iload_n 2, 1) := by decide +kernel
theorem dX12_sets_16 : decode cX12_sets 16 = .ok (.iload_n 3, 1) := by decide +kernel
theorem dX12_sets_17 : decode cX12_sets 17 = .ok (.invokevirtual 253, 3) := by decide +kernel
theorem dX12_sets_20 : decode cX12_sets 20 = .ok (.invokevirtual 257, 3) := by decide +kernel
theorem dX12_sets_23 : decode cX12_sets 23 = .ok (.invokevirtual 250, 3) := by decide +kernel
theorem dX12_sets_26 : decode cX12_sets 26 = .ok (.ireturn, 1) := by decide +kernel
theorem dX12_roots_0 : decode cX12_roots 0 = .ok (.aload_n 0, 1) := by decide +kernel
theorem dX12_roots_1 : decode cX12_roots 1 = .ok (.iconst 0, 1) := by decide +kernel
theorem dX12_roots_2 : decode cX12_roots 2 = .ok (.putfield 1, 3) := by decide +kernel
theorem dX12_roots_5 : decode cX12_roots 5 = .ok (.aload_n 0, 1) := by decide +kernel
theorem dX12_roots_6 : decode cX12_roots 6 = .ok (.iconst 0, 1) := by decide +kernel
theorem dX12_roots_7 : decode cX12_roots 7 = .ok (.iconst 3, 1) := by decide +kernel
theorem dX12_roots_8 : decode cX12_roots 8 = .ok (.invokevirtual 81, 3) := by decide +kernel
theorem dX12_roots_11 : decode cX12_roots 11 = .ok (.aload_n 0, 1) := by decide +kernel
theorem dX12_roots_12 : decode cX12_roots 12 = .ok (.aload_n 0, 1) := by decide +kernel
theorem dX12_roots_13 : decode cX12_roots 13 = .ok (.aload_n 0, 1) := by decide +kernel
theorem dX12_roots_14 : decode cX12_roots 14 = .ok (.iload_n 1, 1) := by decide +kernel
theorem dX12_roots_15 : decode cX12_roots 15 = .ok (.iload_n 2, 1) := by decide +kernel
theorem dX12_roots_16 : decode cX12_roots 16 = .ok (.invokevirtual 260, 3) := by decide +kernel
theorem dX12_roots_19 : decode cX12_roots 19 = .ok (.invokevirtual 257, 3) := by decide +kernel
theorem dX12_roots_22 : decode cX12_roots 22 = .ok (.invokevirtual 250, 3) := by decide +kernel
theorem dX12_roots_25 : decode cX12_roots 25 = .ok (.ireturn, 1) := by decide +kernel
theorem dX12_weaks_0 : decode cX12_weaks 0 = .ok (.aload_n 0, 1) := by decide +kernel
theorem dX12_weaks_1 : decode cX12_weaks 1 = .ok (.iconst 0, 1) := by decide +kernel
theorem dX12_weaks_2 : decode cX12_weaks 2 = .ok (.putfield 1, 3) := by decide +kernel
theorem dX12_weaks_5 : decode cX12_weaks 5 = .ok (.aload_n 0, 1) := by decide +kernel
theorem dX12_weaks_6 : decode cX12_weaks 6 = .ok (.iconst 0, 1) := by decide +kernel
theorem dX12_weaks_7 : decode cX12_weaks 7 = .ok (.iconst 3, 1) := by decide +kernel
theorem dX12_weaks_8 : decode cX12_weaks 8 = .ok (.invokevirtual 81, 3) := by decide +kernel
theorem dX12_weaks_11 : decode cX12_weaks 11 = .ok (.aload_n 0, 1) := by decide +kernel
theorem dX12_weaks_12 : decode cX12_weaks 12 = .ok (.iload_n 1, 1) := by decide +kernel
theorem dX12_weaks_13 : decode cX12_weaks 13 = .ok (.iload_n 2, 1) := by decide +kernel
theorem dX12_weaks_14 : decode cX12_weaks 14 = .ok (.invokevirtual 263, 3) := by decide +kernel
theorem dX12_weaks_17 : decode cX12_weaks 17 = .ok (.istore_n 3, 1) := by decide +kernel
theorem dX12_weaks_18 : decode cX12_weaks 18 = .ok (.iload_n 3, 1) := by decide +kernel
theorem dX12_weaks_19 : decode cX12_weaks 19 = .ok (.iconst (-1), 1) := by decide +kernel
theorem dX12_weaks_20 : decode cX12_weaks 20 = .ok (.if_icmp .lt 7, 3) := by decide +kernel
theorem dX12_weaks_23 : decode cX12_weaks 23 = .ok (.aload_n 0, 1) := by decide +kernel
theorem dX12_weaks_24 : decode cX12_weaks 24 = .ok (.invokevirtual 243, 3) := by decide +kernel
theorem dX12_weaks_27 : decode cX12_weaks 27 = .ok (.iload_n 3, 1) := by decide +kernel
theorem dX12_weaks_28 : decode cX12_weaks 28 = .ok (.ireturn, 1) := by decide +kernel
theorem dX12_wakes_0 : decode cX12_wakes 0 = .ok (.aload_n 0, 1) := by decide +kernel
theorem dX12_wakes_1 : decode cX12_wakes 1 = .ok (.iconst 0, 1) := by decide +kernel
theorem dX12_wakes_2 : decode cX12_wakes 2 = .ok (.putfield 1, 3) := by decide +kernel
theorem dX12_wakes_5 : decode cX12_wakes 5 = .ok (.aload_n 0, 1) := by decide +kernel
theorem dX12_wakes_6 : decode cX12_wakes 6 = .ok (.iconst 0, 1) := by decide +kernel
theorem dX12_wakes_7 : decode cX12_wakes 7 = .ok (.iconst 3, 1) := by decide +kernel
theorem dX12_wakes_8 : decode cX12_wakes 8 = .ok (.invokevirtual 81, 3) := by decide +kernel
theorem dX12_wakes_11 : decode cX12_wakes 11 = .ok (.aload_n 0, 1) := by decide +kernel
theorem dX12_wakes_12 : decode cX12_wakes 12 = .ok (.aload_n 0, 1) := by decide +kernel
theorem dX12_wakes_13 : decode cX12_wakes 13 = .ok (.aload_n 0, 1) := by decide +kernel
theorem dX12_wakes_14 : decode cX12_wakes 14 = .ok (.iload_n 1, 1) := by decide +kernel
theorem dX12_wakes_15 : decode cX12_wakes 15 = .ok (.iload_n 2, 1) := by decide +kernel
theorem dX12_wakes_16 : decode cX12_wakes 16 = .ok (.invokevirtual 266, 3) := by decide +kernel
theorem dX12_wakes_19 : decode cX12_wakes 19 = .ok (.invokevirtual 257, 3) := by decide +kernel
theorem dX12_wakes_22 : decode cX12_wakes 22 = .ok (.invokevirtual 250, 3) := by decide +kernel
theorem dX12_wakes_25 : decode cX12_wakes 25 = .ok (.ireturn, 1) := by decide +kernel
theorem dX12_trial_0 : decode cX12_trial 0 = .ok (.aload_n 0, 1) := by decide +kernel
theorem dX12_trial_1 : decode cX12_trial 1 = .ok (.iconst 0, 1) := by decide +kernel
theorem dX12_trial_2 : decode cX12_trial 2 = .ok (.putfield 1, 3) := by decide +kernel
theorem dX12_trial_5 : decode cX12_trial 5 = .ok (.aload_n 0, 1) := by decide +kernel
theorem dX12_trial_6 : decode cX12_trial 6 = .ok (.iconst 0, 1) := by decide +kernel
theorem dX12_trial_7 : decode cX12_trial 7 = .ok (.iconst 3, 1) := by decide +kernel
theorem dX12_trial_8 : decode cX12_trial 8 = .ok (.invokevirtual 81, 3) := by decide +kernel
theorem dX12_trial_11 : decode cX12_trial 11 = .ok (.aload_n 0, 1) := by decide +kernel
theorem dX12_trial_12 : decode cX12_trial 12 = .ok (.invokevirtual 269, 3) := by decide +kernel
theorem dX12_trial_15 : decode cX12_trial 15 = .ok (.istore_n 1, 1) := by decide +kernel
theorem dX12_trial_16 : decode cX12_trial 16 = .ok (.iload_n 1, 1) := by decide +kernel
theorem dX12_trial_17 : decode cX12_trial 17 = .ok (.ifCond .lt 26, 3) := by decide +kernel
theorem dX12_trial_20 : decode cX12_trial 20 = .ok (.aload_n 0, 1) := by decide +kernel
theorem dX12_trial_21 : decode cX12_trial 21 = .ok (.iconst 0, 1) := by decide +kernel
theorem dX12_trial_22 : decode cX12_trial 22 = .ok (.putfield 11, 3) := by decide +kernel
theorem dX12_trial_25 : decode cX12_trial 25 = .ok (.aload_n 0, 1) := by decide +kernel
theorem dX12_trial_26 : decode cX12_trial 26 = .ok (.aload_n 0, 1) := by decide +kernel
theorem dX12_trial_27 : decode cX12_trial 27 = .ok (.getfield 230, 3) := by decide +kernel
theorem dX12_trial_30 : decode cX12_trial 30 = .ok (.i2l, 1) := by decide +kernel
theorem dX12_trial_31 : decode cX12_trial 31 = .ok (.invokevirtual 239, 3) := by decide +kernel
theorem dX12_trial_34 : decode cX12_trial 34 = .ok (.aload_n 0, 1) := by decide +kernel
theorem dX12_trial_35 : decode cX12_trial 35 = .ok (.aload_n 0, 1) := by decide +kernel
theorem dX12_trial_36 : decode cX12_trial 36 = .ok (.getfield 152, 3) := by decide +kernel
theorem dX12_trial_39 : decode cX12_trial 39 = .ok (.i2l, 1) := by decide +kernel
theorem dX12_trial_40 : decode cX12_trial 40 = .ok (.invokevirtual 239, 3) := by decide +kernel
theorem dX12_trial_43 : decode cX12_trial 43 = .ok (.aload_n 0, 1) := by decide +kernel
theorem dX12_trial_44 : decode cX12_trial 44 = .ok (.iload_n 1, 1) := by decide +kernel
theorem dX12_trial_45 : decode cX12_trial 45 = .ok (.invokevirtual 250, 3) := by decide +kernel
theorem dX12_trial_48 : decode cX12_trial 48 = .ok (.ireturn, 1) := by decide +kernel
theorem dX12_limit_0 : decode cX12_limit 0 = .ok (.aload_n 0, 1) := by decide +kernel
theorem dX12_limit_1 : decode cX12_limit 1 = .ok (.iconst 0, 1) := by decide +kernel
theorem dX12_limit_2 : decode cX12_limit 2 = .ok (.putfield 1, 3) := by decide +kernel
theorem dX12_limit_5 : decode cX12_limit 5 = .ok (.iload_n 1, 1) := by decide +kernel
theorem dX12_limit_6 : decode cX12_limit 6 = .ok (.i2l, 1) := by decide +kernel
theorem dX12_limit_7 : decode cX12_limit 7 = .ok (.lconst 1, 1) := by decide +kernel
theorem dX12_limit_8 : decode cX12_limit 8 = .ok (.ldc2_w 272, 3) := by decide +kernel
theorem dX12_limit_11 : decode cX12_limit 11 = .ok (.invokestatic 21, 3) := by decide +kernel
theorem dX12_limit_14 : decode cX12_limit 14 = .ok (.ifCond .ne 5, 3) := by decide +kernel
theorem dX12_limit_17 : decode cX12_limit 17 = .ok (.iconst (-1), 1) := by decide +kernel
theorem dX12_limit_18 : decode cX12_limit 18 = .ok (.ireturn, 1) := by decide +kernel
theorem dX12_limit_19 : decode cX12_limit 19 = .ok (.aload_n 0, 1) := by decide +kernel
theorem dX12_limit_20 : decode cX12_limit 20 = .ok (.getfield 53, 3) := by decide +kernel
theorem dX12_limit_23 : decode cX12_limit 23 = .ok (.iconst 0, 1) := by decide +kernel
theorem dX12_limit_24 : decode cX12_limit 24 = .ok (.iaload, 1) := by decide +kernel
theorem dX12_limit_25 : decode cX12_limit 25 = .ok (.istore_n 2, 1) := by decide +kernel
theorem dX12_limit_26 : decode cX12_limit 26 = .ok (.iload_n 2, 1) := by decide +kernel
theorem dX12_limit_27 : decode cX12_limit 27 = .ok (.iload_n 1, 1) := by decide +kernel
theorem dX12_limit_28 : decode cX12_limit 28 = .ok (.if_icmp .ne 6, 3) := by decide +kernel
theorem dX12_limit_31 : decode cX12_limit 31 = .ok (.bipush (-2), 2) := by decide +kernel
theorem dX12_limit_33 : decode cX12_limit 33 = .ok (.ireturn, 1) := by decide +kernel
theorem dX12_limit_34 : decode cX12_limit 34 = .ok (.aload_n 0, 1) := by decide +kernel
theorem dX12_limit_35 : decode cX12_limit 35 = .ok (.iconst 0, 1) := by decide +kernel
theorem dX12_limit_36 : decode cX12_limit 36 = .ok (.iconst 3, 1) := by decide +kernel
theorem dX12_limit_37 : decode cX12_limit 37 = .ok (.invokevirtual 81, 3) := by decide +kernel
theorem dX12_limit_40 : decode cX12_limit 40 = .ok (.aload_n 0, 1) := by decide +kernel
theorem dX12_limit_41 : decode cX12_limit 41 = .ok (.getfield 53, 3) := by decide +kernel
theorem dX12_limit_44 : decode cX12_limit 44 = .ok (.iconst 0, 1) := by decide +kernel
theorem dX12_limit_45 : decode cX12_limit 45 = .ok (.iload_n 1, 1) := by decide +kernel
theorem dX12_limit_46 : decode cX12_limit 46 = .ok (.iastore, 1) := by decide +kernel
theorem dX12_limit_47 : decode cX12_limit 47 = .ok (.aload_n 0, 1) := by decide +kernel
theorem dX12_limit_48 : decode cX12_limit 48 = .ok (.iload_n 2, 1) := by decide +kernel
theorem dX12_limit_49 : decode cX12_limit 49 = .ok (.invokevirtual 250, 3) := by decide +kernel
theorem dX12_limit_52 : decode cX12_limit 52 = .ok (.ireturn, 1) := by decide +kernel
theorem dX12_object_0 : decode cX12_object 0 = .ok (.aload_n 0, 1) := by decide +kernel
theorem dX12_object_1 : decode cX12_object 1 = .ok (.aload_n 0, 1) := by decide +kernel
theorem dX12_object_2 : decode cX12_object 2 = .ok (.iload_n 1, 1) := by decide +kernel
theorem dX12_object_3 : decode cX12_object 3 = .ok (.invokevirtual 216, 3) := by decide +kernel
theorem dX12_object_6 : decode cX12_object 6 = .ok (.ifCond .eq 15, 3) := by decide +kernel
theorem dX12_object_9 : decode cX12_object 9 = .ok (.iload_n 2, 1) := by decide +kernel
theorem dX12_object_10 : decode cX12_object 10 = .ok (.i2l, 1) := by decide +kernel
theorem dX12_object_11 : decode cX12_object 11 = .ok (.lconst 0, 1) := by decide +kernel
theorem dX12_object_12 : decode cX12_object 12 = .ok (.ldc2_w 274, 3) := by decide +kernel
theorem dX12_object_15 : decode cX12_object 15 = .ok (.invokestatic 21, 3) := by decide +kernel
theorem dX12_object_18 : decode cX12_object 18 = .ok (.ifCond .ne 7, 3) := by decide +kernel
theorem dX12_object_21 : decode cX12_object 21 = .ok (.iconst 1, 1) := by decide +kernel
theorem dX12_object_22 : decode cX12_object 22 = .ok (.goto 4, 3) := by decide +kernel
theorem dX12_object_25 : decode cX12_object 25 = .ok (.iconst 0, 1) := by decide +kernel
theorem dX12_object_26 : decode cX12_object 26 = .ok (.invokestatic 167, 3) := by decide +kernel
theorem dX12_object_29 : decode cX12_object 29 = .ok (.putfield 1, 3) := by decide +kernel
theorem dX12_object_32 : decode cX12_object 32 = .ok (.aload_n 0, 1) := by decide +kernel
theorem dX12_object_33 : decode cX12_object 33 = .ok (.getfield 1, 3) := by decide +kernel
theorem dX12_object_36 : decode cX12_object 36 = .ok (.iconst 1, 1) := by decide +kernel
theorem dX12_object_37 : decode cX12_object 37 = .ok (.if_icmp .ne 5, 3) := by decide +kernel
theorem dX12_object_40 : decode cX12_object 40 = .ok (.iconst 0, 1) := by decide +kernel
theorem dX12_object_41 : decode cX12_object 41 = .ok (.ireturn, 1) := by decide +kernel
theorem dX12_object_42 : decode cX12_object 42 = .ok (.iload_n 2, 1) := by decide +kernel
theorem dX12_object_43 : decode cX12_object 43 = .ok (.tableswitch 101 0 5 #[37, 44, 51, 58, 65, 72], 37) := by decide +kernel
theorem dX12_object_80 : decode cX12_object 80 = .ok (.aload_n 0, 1) := by decide +kernel
theorem dX12_object_81 : decode cX12_object 81 = .ok (.iload_n 1, 1) := by decide +kernel
theorem dX12_object_82 : decode cX12_object 82 = .ok (.iconst 5, 1) := by decide +kernel
theorem dX12_object_83 : decode cX12_object 83 = .ok (.invokevirtual 91, 3) := by decide +kernel
theorem dX12_object_86 : decode cX12_object 86 = .ok (.ireturn, 1) := by decide +kernel
theorem dX12_object_87 : decode cX12_object 87 = .ok (.aload_n 0, 1) := by decide +kernel
theorem dX12_object_88 : decode cX12_object 88 = .ok (.iload_n 1, 1) := by decide +kernel
theorem dX12_object_89 : decode cX12_object 89 = .ok (.iconst 1, 1) := by decide +kernel
theorem dX12_object_90 : decode cX12_object 90 = .ok (.invokevirtual 91, 3) := by decide +kernel
theorem dX12_object_93 : decode cX12_object 93 = .ok (.ireturn, 1) := by decide +kernel
theorem dX12_object_94 : decode cX12_object 94 = .ok (.aload_n 0, 1) := by decide +kernel
theorem dX12_object_95 : decode cX12_object 95 = .ok (.iload_n 1, 1) := by decide +kernel
theorem dX12_object_96 : decode cX12_object 96 = .ok (.iconst 2, 1) := by decide +kernel
theorem dX12_object_97 : decode cX12_object 97 = .ok (.invokevirtual 91, 3) := by decide +kernel
theorem dX12_object_100 : decode cX12_object 100 = .ok (.ireturn, 1) := by decide +kernel
theorem dX12_object_101 : decode cX12_object 101 = .ok (.aload_n 0, 1) := by decide +kernel
theorem dX12_object_102 : decode cX12_object 102 = .ok (.iload_n 1, 1) := by decide +kernel
theorem dX12_object_103 : decode cX12_object 103 = .ok (.iconst 3, 1) := by decide +kernel
theorem dX12_object_104 : decode cX12_object 104 = .ok (.invokevirtual 91, 3) := by decide +kernel
theorem dX12_object_107 : decode cX12_object 107 = .ok (.ireturn, 1) := by decide +kernel
theorem dX12_object_108 : decode cX12_object 108 = .ok (.aload_n 0, 1) := by decide +kernel
theorem dX12_object_109 : decode cX12_object 109 = .ok (.iload_n 1, 1) := by decide +kernel
theorem dX12_object_110 : decode cX12_object 110 = .ok (.iconst 4, 1) := by decide +kernel
theorem dX12_object_111 : decode cX12_object 111 = .ok (.invokevirtual 91, 3) := by decide +kernel
theorem dX12_object_114 : decode cX12_object 114 = .ok (.ireturn, 1) := by decide +kernel
theorem dX12_object_115 : decode cX12_object 115 = .ok (.aload_n 0, 1) := by decide +kernel
theorem dX12_object_116 : decode cX12_object 116 = .ok (.iload_n 1, 1) := by decide +kernel
theorem dX12_object_117 : decode cX12_object 117 = .ok (.invokevirtual 108, 3) := by decide +kernel
theorem dX12_object_120 : decode cX12_object 120 = .ok (.ifCond .ge 7, 3) := by decide +kernel
theorem dX12_object_123 : decode cX12_object 123 = .ok (.iconst 0, 1) := by decide +kernel
theorem dX12_object_124 : decode cX12_object 124 = .ok (.goto 19, 3) := by decide +kernel
theorem dX12_object_127 : decode cX12_object 127 = .ok (.aload_n 0, 1) := by decide +kernel
theorem dX12_object_128 : decode cX12_object 128 = .ok (.iload_n 1, 1) := by decide +kernel
theorem dX12_object_129 : decode cX12_object 129 = .ok (.bipush 6, 2) := by decide +kernel
theorem dX12_object_131 : decode cX12_object 131 = .ok (.invokevirtual 91, 3) := by decide +kernel
theorem dX12_object_134 : decode cX12_object 134 = .ok (.iconst 1, 1) := by decide +kernel
theorem dX12_object_135 : decode cX12_object 135 = .ok (.if_icmp .ne 7, 3) := by decide +kernel
theorem dX12_object_138 : decode cX12_object 138 = .ok (.iconst 1, 1) := by decide +kernel
theorem dX12_object_139 : decode cX12_object 139 = .ok (.goto 4, 3) := by decide +kernel
theorem dX12_object_142 : decode cX12_object 142 = .ok (.iconst 2, 1) := by decide +kernel
theorem dX12_object_143 : decode cX12_object 143 = .ok (.ireturn, 1) := by decide +kernel
theorem dX12_object_144 : decode cX12_object 144 = .ok (.aload_n 0, 1) := by decide +kernel
theorem dX12_object_145 : decode cX12_object 145 = .ok (.iload_n 1, 1) := by decide +kernel
theorem dX12_object_146 : decode cX12_object 146 = .ok (.invokevirtual 222, 3) := by decide +kernel
theorem dX12_object_149 : decode cX12_object 149 = .ok (.invokestatic 167, 3) := by decide +kernel
theorem dX12_object_152 : decode cX12_object 152 = .ok (.ireturn, 1) := by decide +kernel
theorem dX12_field_0 : decode cX12_field 0 = .ok (.aload_n 0, 1) := by decide +kernel
theorem dX12_field_1 : decode cX12_field 1 = .ok (.aload_n 0, 1) := by decide +kernel
theorem dX12_field_2 : decode cX12_field 2 = .ok (.iload_n 1, 1) := by decide +kernel
theorem dX12_field_3 : decode cX12_field 3 = .ok (.invokevirtual 216, 3) := by decide +kernel
theorem dX12_field_6 : decode cX12_field 6 = .ok (.ifCond .eq 21, 3) := by decide +kernel
theorem dX12_field_9 : decode cX12_field 9 = .ok (.iload_n 2, 1) := by decide +kernel
theorem dX12_field_10 : decode cX12_field 10 = .ok (.i2l, 1) := by decide +kernel
theorem dX12_field_11 : decode cX12_field 11 = .ok (.lconst 0, 1) := by decide +kernel
theorem dX12_field_12 : decode cX12_field 12 = .ok (.aload_n 0, 1) := by decide +kernel
theorem dX12_field_13 : decode cX12_field 13 = .ok (.iload_n 1, 1) := by decide +kernel
theorem dX12_field_14 : decode cX12_field 14 = .ok (.iconst 1, 1) := by decide +kernel
theorem dX12_field_15 : decode cX12_field 15 = .ok (.invokevirtual 91, 3) := by decide +kernel
theorem dX12_field_18 : decode cX12_field 18 = .ok (.iconst 1, 1) := by decide +kernel
theorem dX12_field_19 : decode cX12_field 19 = .ok (.isub, 1) := by decide +kernel
theorem dX12_field_20 : decode cX12_field 20 = .ok (.i2l, 1) := by decide +kernel
theorem dX12_field_21 : decode cX12_field 21 = .ok (.invokestatic 21, 3) := by decide +kernel
theorem dX12_field_24 : decode cX12_field 24 = .ok (.ifCond .ne 7, 3) := by decide +kernel
theorem dX12_field_27 : decode cX12_field 27 = .ok (.iconst 1, 1) := by decide +kernel
theorem dX12_field_28 : decode cX12_field 28 = .ok (.goto 4, 3) := by decide +kernel
theorem dX12_field_31 : decode cX12_field 31 = .ok (.iconst 0, 1) := by decide +kernel
theorem dX12_field_32 : decode cX12_field 32 = .ok (.invokestatic 167, 3) := by decide +kernel
theorem dX12_field_35 : decode cX12_field 35 = .ok (.putfield 1, 3) := by decide +kernel
theorem dX12_field_38 : decode cX12_field 38 = .ok (.aload_n 0, 1) := by decide +kernel
theorem dX12_field_39 : decode cX12_field 39 = .ok (.getfield 1, 3) := by decide +kernel
theorem dX12_field_42 : decode cX12_field 42 = .ok (.iconst 1, 1) := by decide +kernel
theorem dX12_field_43 : decode cX12_field 43 = .ok (.if_icmp .ne 7, 3) := by decide +kernel
theorem dX12_field_46 : decode cX12_field 46 = .ok (.iconst 0, 1) := by decide +kernel
theorem dX12_field_47 : decode cX12_field 47 = .ok (.goto 9, 3) := by decide +kernel
theorem dX12_field_50 : decode cX12_field 50 = .ok (.aload_n 0, 1) := by decide +kernel
theorem dX12_field_51 : decode cX12_field 51 = .ok (.iload_n 1, 1) := by decide +kernel
theorem dX12_field_52 : decode cX12_field 52 = .ok (.iload_n 2, 1) := by decide +kernel
theorem dX12_field_53 : decode cX12_field 53 = .ok (.invokevirtual 140, 3) := by decide +kernel
theorem dX12_field_56 : decode cX12_field 56 = .ok (.ireturn, 1) := by decide +kernel
theorem dX12_root_0 : decode cX12_root 0 = .ok (.aload_n 0, 1) := by decide +kernel
theorem dX12_root_1 : decode cX12_root 1 = .ok (.iload_n 1, 1) := by decide +kernel
theorem dX12_root_2 : decode cX12_root 2 = .ok (.i2l, 1) := by decide +kernel
theorem dX12_root_3 : decode cX12_root 3 = .ok (.lconst 0, 1) := by decide +kernel
theorem dX12_root_4 : decode cX12_root 4 = .ok (.ldc2_w 207, 3) := by decide +kernel
theorem dX12_root_7 : decode cX12_root 7 = .ok (.invokestatic 21, 3) := by decide +kernel
theorem dX12_root_10 : decode cX12_root 10 = .ok (.ifCond .ne 7, 3) := by decide +kernel
theorem dX12_root_13 : decode cX12_root 13 = .ok (.iconst 1, 1) := by decide +kernel
theorem dX12_root_14 : decode cX12_root 14 = .ok (.goto 4, 3) := by decide +kernel
theorem dX12_root_17 : decode cX12_root 17 = .ok (.iconst 0, 1) := by decide +kernel
theorem dX12_root_18 : decode cX12_root 18 = .ok (.invokestatic 167, 3) := by decide +kernel
theorem dX12_root_21 : decode cX12_root 21 = .ok (.putfield 1, 3) := by decide +kernel
theorem dX12_root_24 : decode cX12_root 24 = .ok (.aload_n 0, 1) := by decide +kernel
theorem dX12_root_25 : decode cX12_root 25 = .ok (.getfield 1, 3) := by decide +kernel
theorem dX12_root_28 : decode cX12_root 28 = .ok (.iconst 1, 1) := by decide +kernel
theorem dX12_root_29 : decode cX12_root 29 = .ok (.if_icmp .ne 7, 3) := by decide +kernel
theorem dX12_root_32 : decode cX12_root 32 = .ok (.iconst 0, 1) := by decide +kernel
theorem dX12_root_33 : decode cX12_root 33 = .ok (.goto 12, 3) := by decide +kernel
theorem dX12_root_36 : decode cX12_root 36 = .ok (.aload_n 0, 1) := by decide +kernel
theorem dX12_root_37 : decode cX12_root 37 = .ok (.getfield 53, 3) := by decide +kernel
theorem dX12_root_40 : decode cX12_root 40 = .ok (.bipush 33, 2) := by decide +kernel
theorem dX12_root_42 : decode cX12_root 42 = .ok (.iload_n 1, 1) := by decide +kernel
theorem dX12_root_43 : decode cX12_root 43 = .ok (.iadd, 1) := by decide +kernel
theorem dX12_root_44 : decode cX12_root 44 = .ok (.iaload, 1) := by decide +kernel
theorem dX12_root_45 : decode cX12_root 45 = .ok (.ireturn, 1) := by decide +kernel
theorem dX12_weights_0 : decode cX12_weights 0 = .ok (.iconst 0, 1) := by decide +kernel
theorem dX12_weights_1 : decode cX12_weights 1 = .ok (.istore_n 2, 1) := by decide +kernel
theorem dX12_weights_2 : decode cX12_weights 2 = .ok (.iconst 0, 1) := by decide +kernel
theorem dX12_weights_3 : decode cX12_weights 3 = .ok (.istore_n 3, 1) := by decide +kernel
theorem dX12_weights_4 : decode cX12_weights 4 = .ok (.iload_n 3, 1) := by decide +kernel
theorem dX12_weights_5 : decode cX12_weights 5 = .ok (.bipush 24, 2) := by decide +kernel
theorem dX12_weights_7 : decode cX12_weights 7 = .ok (.if_icmp .ge 30, 3) := by decide +kernel
theorem dX12_weights_10 : decode cX12_weights 10 = .ok (.iload_n 2, 1) := by decide +kernel
theorem dX12_weights_11 : decode cX12_weights 11 = .ok (.iload_n 1, 1) := by decide +kernel
theorem dX12_weights_12 : decode cX12_weights 12 = .ok (.iload_n 3, 1) := by decide +kernel
theorem dX12_weights_13 : decode cX12_weights 13 = .ok (.invokestatic 171, 3) := by decide +kernel
theorem dX12_weights_16 : decode cX12_weights 16 = .ok (.ifCond .eq 12, 3) := by decide +kernel
theorem dX12_weights_19 : decode cX12_weights 19 = .ok (.aload_n 0, 1) := by decide +kernel
theorem dX12_weights_20 : decode cX12_weights 20 = .ok (.iload_n 3, 1) := by decide +kernel
theorem dX12_weights_21 : decode cX12_weights 21 = .ok (.iconst 2, 1) := by decide +kernel
theorem dX12_weights_22 : decode cX12_weights 22 = .ok (.invokevirtual 91, 3) := by decide +kernel
theorem dX12_weights_25 : decode cX12_weights 25 = .ok (.goto 4, 3) := by decide +kernel
theorem dX12_weights_28 : decode cX12_weights 28 = .ok (.iconst 0, 1) := by decide +kernel
theorem dX12_weights_29 : decode cX12_weights 29 = .ok (.iadd, 1) := by decide +kernel
theorem dX12_weights_30 : decode cX12_weights 30 = .ok (.istore_n 2, 1) := by decide +kernel
theorem dX12_weights_31 : decode cX12_weights 31 = .ok (.iinc 3 1, 3) := by decide +kernel
theorem dX12_weights_34 : decode cX12_weights 34 = .ok (.goto (-30), 3) := by decide +kernel
theorem dX12_weights_37 : decode cX12_weights 37 = .ok (.iload_n 2, 1) := by decide +kernel
theorem dX12_weights_38 : decode cX12_weights 38 = .ok (.ireturn, 1) := by decide +kernel
theorem dX12_suspects_0 : decode cX12_suspects 0 = .ok (.iconst 0, 1) := by decide +kernel
theorem dX12_suspects_1 : decode cX12_suspects 1 = .ok (.istore_n 1, 1) := by decide +kernel
theorem dX12_suspects_2 : decode cX12_suspects 2 = .ok (.iconst 0, 1) := by decide +kernel
theorem dX12_suspects_3 : decode cX12_suspects 3 = .ok (.istore_n 2, 1) := by decide +kernel
theorem dX12_suspects_4 : decode cX12_suspects 4 = .ok (.iload_n 2, 1) := by decide +kernel
theorem dX12_suspects_5 : decode cX12_suspects 5 = .ok (.aload_n 0, 1) := by decide +kernel
theorem dX12_suspects_6 : decode cX12_suspects 6 = .ok (.invokevirtual 97, 3) := by decide +kernel
theorem dX12_suspects_9 : decode cX12_suspects 9 = .ok (.if_icmp .ge 19, 3) := by decide +kernel
theorem dX12_suspects_12 : decode cX12_suspects 12 = .ok (.iload_n 1, 1) := by decide +kernel
theorem dX12_suspects_13 : decode cX12_suspects 13 = .ok (.iconst 1, 1) := by decide +kernel
theorem dX12_suspects_14 : decode cX12_suspects 14 = .ok (.aload_n 0, 1) := by decide +kernel
theorem dX12_suspects_15 : decode cX12_suspects 15 = .ok (.iload_n 2, 1) := by decide +kernel
theorem dX12_suspects_16 : decode cX12_suspects 16 = .ok (.invokevirtual 100, 3) := by decide +kernel
theorem dX12_suspects_19 : decode cX12_suspects 19 = .ok (.ishl, 1) := by decide +kernel
theorem dX12_suspects_20 : decode cX12_suspects 20 = .ok (.ior, 1) := by decide +kernel
theorem dX12_suspects_21 : decode cX12_suspects 21 = .ok (.istore_n 1, 1) := by decide +kernel
theorem dX12_suspects_22 : decode cX12_suspects 22 = .ok (.iinc 2 1, 3) := by decide +kernel
theorem dX12_suspects_25 : decode cX12_suspects 25 = .ok (.goto (-21), 3) := by decide +kernel
theorem dX12_suspects_28 : decode cX12_suspects 28 = .ok (.iload_n 1, 1) := by decide +kernel
theorem dX12_suspects_29 : decode cX12_suspects 29 = .ok (.ireturn, 1) := by decide +kernel
theorem dX12_all_0 : decode cX12_all 0 = .ok (.aload_n 0, 1) := by decide +kernel
theorem dX12_all_1 : decode cX12_all 1 = .ok (.iconst 0, 1) := by decide +kernel
theorem dX12_all_2 : decode cX12_all 2 = .ok (.putfield 1, 3) := by decide +kernel
theorem dX12_all_5 : decode cX12_all 5 = .ok (.iload_n 1, 1) := by decide +kernel
theorem dX12_all_6 : decode cX12_all 6 = .ok (.i2l, 1) := by decide +kernel
theorem dX12_all_7 : decode cX12_all 7 = .ok (.lconst 0, 1) := by decide +kernel
theorem dX12_all_8 : decode cX12_all 8 = .ok (.ldc2_w 225, 3) := by decide +kernel
theorem dX12_all_11 : decode cX12_all 11 = .ok (.invokestatic 21, 3) := by decide +kernel
theorem dX12_all_14 : decode cX12_all 14 = .ok (.ifCond .ne 5, 3) := by decide +kernel
theorem dX12_all_17 : decode cX12_all 17 = .ok (.iconst (-1), 1) := by decide +kernel
theorem dX12_all_18 : decode cX12_all 18 = .ok (.ireturn, 1) := by decide +kernel
theorem dX12_all_19 : decode cX12_all 19 = .ok (.aload_n 0, 1) := by decide +kernel
theorem dX12_all_20 : decode cX12_all 20 = .ok (.invokevirtual 233, 3) := by decide +kernel
theorem dX12_all_23 : decode cX12_all 23 = .ok (.istore_n 2, 1) := by decide +kernel
theorem dX12_all_24 : decode cX12_all 24 = .ok (.iload_n 1, 1) := by decide +kernel
theorem dX12_all_25 : decode cX12_all 25 = .ok (.ifCond .ne 7, 3) := by decide +kernel
theorem dX12_all_28 : decode cX12_all 28 = .ok (.iload_n 2, 1) := by decide +kernel
theorem dX12_all_29 : decode cX12_all 29 = .ok (.goto 35, 3) := by decide +kernel
theorem dX12_all_32 : decode cX12_all 32 = .ok (.iload_n 1, 1) := by decide +kernel
theorem dX12_all_33 : decode cX12_all 33 = .ok (.iconst 1, 1) := by decide +kernel
theorem dX12_all_34 : decode cX12_all 34 = .ok (.if_icmp .ne 10, 3) := by decide +kernel
theorem dX12_all_37 : decode cX12_all 37 = .ok (.aload_n 0, 1) := by decide +kernel
theorem dX12_all_38 : decode cX12_all 38 = .ok (.invokevirtual 202, 3) := by decide +kernel
theorem dX12_all_41 : decode cX12_all 41 = .ok (.goto 23, 3) := by decide +kernel
theorem dX12_all_44 : decode cX12_all 44 = .ok (.iload_n 1, 1) := by decide +kernel
theorem dX12_all_45 : decode cX12_all 45 = .ok (.iconst 2, 1) := by decide +kernel
theorem dX12_all_46 : decode cX12_all 46 = .ok (.if_icmp .ne 14, 3) := by decide +kernel
theorem dX12_all_49 : decode cX12_all 49 = .ok (.iload_n 2, 1) := by decide +kernel
theorem dX12_all_50 : decode cX12_all 50 = .ok (.aload_n 0, 1) := by decide +kernel
theorem dX12_all_51 : decode cX12_all 51 = .ok (.invokevirtual 202, 3) := by decide +kernel
theorem dX12_all_54 : decode cX12_all 54 = .ok (.iconst (-1), 1) := by decide +kernel
theorem dX12_all_55 : decode cX12_all 55 = .ok (.ixor, 1) := by decide +kernel
theorem dX12_all_56 : decode cX12_all 56 = .ok (.iand, 1) := by decide +kernel
theorem dX12_all_57 : decode cX12_all 57 = .ok (.goto 7, 3) := by decide +kernel
theorem dX12_all_60 : decode cX12_all 60 = .ok (.aload_n 0, 1) := by decide +kernel
theorem dX12_all_61 : decode cX12_all 61 = .ok (.invokevirtual 276, 3) := by decide +kernel
theorem dX12_all_64 : decode cX12_all 64 = .ok (.istore_n 3, 1) := by decide +kernel
theorem dX12_all_65 : decode cX12_all 65 = .ok (.aload_n 0, 1) := by decide +kernel
theorem dX12_all_66 : decode cX12_all 66 = .ok (.iconst 0, 1) := by decide +kernel
theorem dX12_all_67 : decode cX12_all 67 = .ok (.putfield 11, 3) := by decide +kernel
theorem dX12_all_70 : decode cX12_all 70 = .ok (.aload_n 0, 1) := by decide +kernel
theorem dX12_all_71 : decode cX12_all 71 = .ok (.aload_n 0, 1) := by decide +kernel
theorem dX12_all_72 : decode cX12_all 72 = .ok (.iload_n 3, 1) := by decide +kernel
theorem dX12_all_73 : decode cX12_all 73 = .ok (.invokevirtual 279, 3) := by decide +kernel
theorem dX12_all_76 : decode cX12_all 76 = .ok (.i2l, 1) := by decide +kernel
theorem dX12_all_77 : decode cX12_all 77 = .ok (.invokevirtual 239, 3) := by decide +kernel
theorem dX12_all_80 : decode cX12_all 80 = .ok (.iload_n 3, 1) := by decide +kernel
theorem dX12_all_81 : decode cX12_all 81 = .ok (.ireturn, 1) := by decide +kernel
theorem dX12_list_0 : decode cX12_list 0 = .ok (.aload_n 0, 1) := by decide +kernel
theorem dX12_list_1 : decode cX12_list 1 = .ok (.iconst 0, 1) := by decide +kernel
theorem dX12_list_2 : decode cX12_list 2 = .ok (.putfield 1, 3) := by decide +kernel
theorem dX12_list_5 : decode cX12_list 5 = .ok (.aload_n 0, 1) := by decide +kernel
theorem dX12_list_6 : decode cX12_list 6 = .ok (.iconst 0, 1) := by decide +kernel
theorem dX12_list_7 : decode cX12_list 7 = .ok (.putfield 11, 3) := by decide +kernel
theorem dX12_list_10 : decode cX12_list 10 = .ok (.iconst 0, 1) := by decide +kernel
theorem dX12_list_11 : decode cX12_list 11 = .ok (.istore_n 1, 1) := by decide +kernel
theorem dX12_list_12 : decode cX12_list 12 = .ok (.iload_n 1, 1) := by decide +kernel
theorem dX12_list_13 : decode cX12_list 13 = .ok (.aload_n 0, 1) := by decide +kernel
theorem dX12_list_14 : decode cX12_list 14 = .ok (.invokevirtual 97, 3) := by decide +kernel
theorem dX12_list_17 : decode cX12_list 17 = .ok (.if_icmp .ge 19, 3) := by decide +kernel
theorem dX12_list_20 : decode cX12_list 20 = .ok (.aload_n 0, 1) := by decide +kernel
theorem dX12_list_21 : decode cX12_list 21 = .ok (.aload_n 0, 1) := by decide +kernel
theorem dX12_list_22 : decode cX12_list 22 = .ok (.iload_n 1, 1) := by decide +kernel
theorem dX12_list_23 : decode cX12_list 23 = .ok (.invokevirtual 100, 3) := by decide +kernel
theorem dX12_list_26 : decode cX12_list 26 = .ok (.i2l, 1) := by decide +kernel
theorem dX12_list_27 : decode cX12_list 27 = .ok (.invokevirtual 239, 3) := by decide +kernel
theorem dX12_list_30 : decode cX12_list 30 = .ok (.iinc 1 1, 3) := by decide +kernel
theorem dX12_list_33 : decode cX12_list 33 = .ok (.goto (-21), 3) := by decide +kernel
theorem dX12_list_36 : decode cX12_list 36 = .ok (.aload_n 0, 1) := by decide +kernel
theorem dX12_list_37 : decode cX12_list 37 = .ok (.getfield 11, 3) := by decide +kernel
theorem dX12_list_40 : decode cX12_list 40 = .ok (.ireturn, 1) := by decide +kernel
theorem dX12_holders_0 : decode cX12_holders 0 = .ok (.aload_n 0, 1) := by decide +kernel
theorem dX12_holders_1 : decode cX12_holders 1 = .ok (.iconst 0, 1) := by decide +kernel
theorem dX12_holders_2 : decode cX12_holders 2 = .ok (.putfield 1, 3) := by decide +kernel
theorem dX12_holders_5 : decode cX12_holders 5 = .ok (.aload_n 0, 1) := by decide +kernel
theorem dX12_holders_6 : decode cX12_holders 6 = .ok (.iload_n 1, 1) := by decide +kernel
theorem dX12_holders_7 : decode cX12_holders 7 = .ok (.invokevirtual 216, 3) := by decide +kernel
theorem dX12_holders_10 : decode cX12_holders 10 = .ok (.ifCond .ne 5, 3) := by decide +kernel
theorem dX12_holders_13 : decode cX12_holders 13 = .ok (.iconst (-1), 1) := by decide +kernel
theorem dX12_holders_14 : decode cX12_holders 14 = .ok (.ireturn, 1) := by decide +kernel
theorem dX12_holders_15 : decode cX12_holders 15 = .ok (.iconst 0, 1) := by decide +kernel
theorem dX12_holders_16 : decode cX12_holders 16 = .ok (.istore_n 2, 1) := by decide +kernel
theorem dX12_holders_17 : decode cX12_holders 17 = .ok (.iconst 0, 1) := by decide +kernel
theorem dX12_holders_18 : decode cX12_holders 18 = .ok (.istore_n 3, 1) := by decide +kernel
theorem dX12_holders_19 : decode cX12_holders 19 = .ok (.iconst 0, 1) := by decide +kernel
theorem dX12_holders_20 : decode cX12_holders 20 = .ok (.istore 4, 2) := by decide +kernel
theorem dX12_holders_22 : decode cX12_holders 22 = .ok (.iconst 0, 1) := by decide +kernel
theorem dX12_holders_23 : decode cX12_holders 23 = .ok (.istore 5, 2) := by decide +kernel
theorem dX12_holders_25 : decode cX12_holders 25 = .ok (.iload 5, 2) := by decide +kernel
theorem dX12_holders_27 : decode cX12_holders 27 = .ok (.bipush 24, 2) := by decide +kernel
theorem dX12_holders_29 : decode cX12_holders 29 = .ok (.if_icmp .ge 45, 3) := by decide +kernel
theorem dX12_holders_32 : decode cX12_holders 32 = .ok (.iload_n 2, 1) := by decide +kernel
theorem dX12_holders_33 : decode cX12_holders 33 = .ok (.aload_n 0, 1) := by decide +kernel
theorem dX12_holders_34 : decode cX12_holders 34 = .ok (.iload 5, 2) := by decide +kernel
theorem dX12_holders_36 : decode cX12_holders 36 = .ok (.invokevirtual 216, 3) := by decide +kernel
theorem dX12_holders_39 : decode cX12_holders 39 = .ok (.ifCond .eq 20, 3) := by decide +kernel
theorem dX12_holders_42 : decode cX12_holders 42 = .ok (.aload_n 0, 1) := by decide +kernel
theorem dX12_holders_43 : decode cX12_holders 43 = .ok (.iload 5, 2) := by decide +kernel
theorem dX12_holders_45 : decode cX12_holders 45 = .ok (.invokevirtual 193, 3) := by decide +kernel
theorem dX12_holders_48 : decode cX12_holders 48 = .ok (.iload_n 1, 1) := by decide +kernel
theorem dX12_holders_49 : decode cX12_holders 49 = .ok (.invokestatic 171, 3) := by decide +kernel
theorem dX12_holders_52 : decode cX12_holders 52 = .ok (.ifCond .eq 7, 3) := by decide +kernel
theorem dX12_holders_55 : decode cX12_holders 55 = .ok (.iconst 1, 1) := by decide +kernel
theorem dX12_holders_56 : decode cX12_holders 56 = .ok (.goto 4, 3) := by decide +kernel
theorem dX12_holders_59 : decode cX12_holders 59 = .ok (.iconst 0, 1) := by decide +kernel
theorem dX12_holders_60 : decode cX12_holders 60 = .ok (.invokestatic 167, 3) := by decide +kernel
theorem dX12_holders_63 : decode cX12_holders 63 = .ok (.iload 5, 2) := by decide +kernel
theorem dX12_holders_65 : decode cX12_holders 65 = .ok (.ishl, 1) := by decide +kernel
theorem dX12_holders_66 : decode cX12_holders 66 = .ok (.ior, 1) := by decide +kernel
theorem dX12_holders_67 : decode cX12_holders 67 = .ok (.istore_n 2, 1) := by decide +kernel
theorem dX12_holders_68 : decode cX12_holders 68 = .ok (.iinc 5 1, 3) := by decide +kernel
theorem dX12_holders_71 : decode cX12_holders 71 = .ok (.goto (-46), 3) := by decide +kernel
theorem dX12_holders_74 : decode cX12_holders 74 = .ok (.iconst 0, 1) := by decide +kernel
theorem dX12_holders_75 : decode cX12_holders 75 = .ok (.istore 5, 2) := by decide +kernel
theorem dX12_holders_77 : decode cX12_holders 77 = .ok (.iload 5, 2) := by decide +kernel
theorem dX12_holders_79 : decode cX12_holders 79 = .ok (.bipush 6, 2) := by decide +kernel
theorem dX12_holders_81 : decode cX12_holders 81 = .ok (.if_icmp .ge 33, 3) := by decide +kernel
theorem dX12_holders_84 : decode cX12_holders 84 = .ok (.iload_n 3, 1) := by decide +kernel
theorem dX12_holders_85 : decode cX12_holders 85 = .ok (.aload_n 0, 1) := by decide +kernel
theorem dX12_holders_86 : decode cX12_holders 86 = .ok (.iload 5, 2) := by decide +kernel
theorem dX12_holders_88 : decode cX12_holders 88 = .ok (.invokevirtual 131, 3) := by decide +kernel
theorem dX12_holders_91 : decode cX12_holders 91 = .ok (.iload_n 1, 1) := by decide +kernel
theorem dX12_holders_92 : decode cX12_holders 92 = .ok (.if_icmp .ne 7, 3) := by decide +kernel
theorem dX12_holders_95 : decode cX12_holders 95 = .ok (.iconst 1, 1) := by decide +kernel
theorem dX12_holders_96 : decode cX12_holders 96 = .ok (.goto 4, 3) := by decide +kernel
theorem dX12_holders_99 : decode cX12_holders 99 = .ok (.iconst 0, 1) := by decide +kernel
theorem dX12_holders_100 : decode cX12_holders 100 = .ok (.invokestatic 167, 3) := by decide +kernel
theorem dX12_holders_103 : decode cX12_holders 103 = .ok (.iload 5, 2) := by decide +kernel
theorem dX12_holders_105 : decode cX12_holders 105 = .ok (.ishl, 1) := by decide +kernel
theorem dX12_holders_106 : decode cX12_holders 106 = .ok (.ior, 1) := by decide +kernel
theorem dX12_holders_107 : decode cX12_holders 107 = .ok (.istore_n 3, 1) := by decide +kernel
theorem dX12_holders_108 : decode cX12_holders 108 = .ok (.iinc 5 1, 3) := by decide +kernel
theorem dX12_holders_111 : decode cX12_holders 111 = .ok (.goto (-34), 3) := by decide +kernel
theorem dX12_holders_114 : decode cX12_holders 114 = .ok (.iconst 0, 1) := by decide +kernel
theorem dX12_holders_115 : decode cX12_holders 115 = .ok (.istore 5, 2) := by decide +kernel
theorem dX12_holders_117 : decode cX12_holders 117 = .ok (.iload 5, 2) := by decide +kernel
theorem dX12_holders_119 : decode cX12_holders 119 = .ok (.iconst 4, 1) := by decide +kernel
theorem dX12_holders_120 : decode cX12_holders 120 = .ok (.if_icmp .ge 35, 3) := by decide +kernel
theorem dX12_holders_123 : decode cX12_holders 123 = .ok (.iload 4, 2) := by decide +kernel
theorem dX12_holders_125 : decode cX12_holders 125 = .ok (.aload_n 0, 1) := by decide +kernel
theorem dX12_holders_126 : decode cX12_holders 126 = .ok (.iload 5, 2) := by decide +kernel
theorem dX12_holders_128 : decode cX12_holders 128 = .ok (.invokevirtual 143, 3) := by decide +kernel
theorem dX12_holders_131 : decode cX12_holders 131 = .ok (.iload_n 1, 1) := by decide +kernel
theorem dX12_holders_132 : decode cX12_holders 132 = .ok (.if_icmp .ne 7, 3) := by decide +kernel
theorem dX12_holders_135 : decode cX12_holders 135 = .ok (.iconst 1, 1) := by decide +kernel
theorem dX12_holders_136 : decode cX12_holders 136 = .ok (.goto 4, 3) := by decide +kernel
theorem dX12_holders_139 : decode cX12_holders 139 = .ok (.iconst 0, 1) := by decide +kernel
theorem dX12_holders_140 : decode cX12_holders 140 = .ok (.invokestatic 167, 3) := by decide +kernel
theorem dX12_holders_143 : decode cX12_holders 143 = .ok (.iload 5, 2) := by decide +kernel
theorem dX12_holders_145 : decode cX12_holders 145 = .ok (.ishl, 1) := by decide +kernel
theorem dX12_holders_146 : decode cX12_holders 146 = .ok (.ior, 1) := by decide +kernel
theorem dX12_holders_147 : decode cX12_holders 147 = .ok (.istore 4, 2) := by decide +kernel
theorem dX12_holders_149 : decode cX12_holders 149 = .ok (.iinc 5 1, 3) := by decide +kernel
theorem dX12_holders_152 : decode cX12_holders 152 = .ok (.goto (-35), 3) := by decide +kernel
theorem dX12_holders_155 : decode cX12_holders 155 = .ok (.aload_n 0, 1) := by decide +kernel
theorem dX12_holders_156 : decode cX12_holders 156 = .ok (.iconst 0, 1) := by decide +kernel
theorem dX12_holders_157 : decode cX12_holders 157 = .ok (.putfield 11, 3) := by decide +kernel
theorem dX12_holders_160 : decode cX12_holders 160 = .ok (.aload_n 0, 1) := by decide +kernel
theorem dX12_holders_161 : decode cX12_holders 161 = .ok (.iload_n 3, 1) := by decide +kernel
theorem dX12_holders_162 : decode cX12_holders 162 = .ok (.i2l, 1) := by decide +kernel
theorem dX12_holders_163 : decode cX12_holders 163 = .ok (.invokevirtual 239, 3) := by decide +kernel
theorem dX12_holders_166 : decode cX12_holders 166 = .ok (.aload_n 0, 1) := by decide +kernel
theorem dX12_holders_167 : decode cX12_holders 167 = .ok (.iload 4, 2) := by decide +kernel
theorem dX12_holders_169 : decode cX12_holders 169 = .ok (.i2l, 1) := by decide +kernel
theorem dX12_holders_170 : decode cX12_holders 170 = .ok (.invokevirtual 239, 3) := by decide +kernel
theorem dX12_holders_173 : decode cX12_holders 173 = .ok (.iload_n 2, 1) := by decide +kernel
theorem dX12_holders_174 : decode cX12_holders 174 = .ok (.ireturn, 1) := by decide +kernel
theorem dX12_measures_0 : decode cX12_measures 0 = .ok (.iconst 0, 1) := by decide +kernel
theorem dX12_measures_1 : decode cX12_measures 1 = .ok (.istore_n 2, 1) := by decide +kernel
theorem dX12_measures_2 : decode cX12_measures 2 = .ok (.iload_n 2, 1) := by decide +kernel
theorem dX12_measures_3 : decode cX12_measures 3 = .ok (.bipush 24, 2) := by decide +kernel
theorem dX12_measures_5 : decode cX12_measures 5 = .ok (.if_icmp .ge 26, 3) := by decide +kernel
theorem dX12_measures_8 : decode cX12_measures 8 = .ok (.aload_n 0, 1) := by decide +kernel
theorem dX12_measures_9 : decode cX12_measures 9 = .ok (.getfield 62, 3) := by decide +kernel
theorem dX12_measures_12 : decode cX12_measures 12 = .ok (.iload_n 2, 1) := by decide +kernel
theorem dX12_measures_13 : decode cX12_measures 13 = .ok (.iload_n 2, 1) := by decide +kernel
theorem dX12_measures_14 : decode cX12_measures 14 = .ok (.iload_n 1, 1) := by decide +kernel
theorem dX12_measures_15 : decode cX12_measures 15 = .ok (.if_icmp .ne 7, 3) := by decide +kernel
theorem dX12_measures_18 : decode cX12_measures 18 = .ok (.iconst 1, 1) := by decide +kernel
theorem dX12_measures_19 : decode cX12_measures 19 = .ok (.goto 5, 3) := by decide +kernel
theorem dX12_measures_22 : decode cX12_measures 22 = .ok (.bipush 100, 2) := by decide +kernel
theorem dX12_measures_24 : decode cX12_measures 24 = .ok (.iastore, 1) := by decide +kernel
theorem dX12_measures_25 : decode cX12_measures 25 = .ok (.iinc 2 1, 3) := by decide +kernel
theorem dX12_measures_28 : decode cX12_measures 28 = .ok (.goto (-26), 3) := by decide +kernel
theorem dX12_measures_31 : decode cX12_measures 31 = .ok (.iconst 1, 1) := by decide +kernel
theorem dX12_measures_32 : decode cX12_measures 32 = .ok (.istore_n 2, 1) := by decide +kernel
theorem dX12_measures_33 : decode cX12_measures 33 = .ok (.iload_n 2, 1) := by decide +kernel
theorem dX12_measures_34 : decode cX12_measures 34 = .ok (.ifCond .eq 99, 3) := by decide +kernel
theorem dX12_measures_37 : decode cX12_measures 37 = .ok (.iconst 0, 1) := by decide +kernel
theorem dX12_measures_38 : decode cX12_measures 38 = .ok (.istore_n 2, 1) := by decide +kernel
theorem dX12_measures_39 : decode cX12_measures 39 = .ok (.iconst 0, 1) := by decide +kernel
theorem dX12_measures_40 : decode cX12_measures 40 = .ok (.istore_n 3, 1) := by decide +kernel
theorem dX12_measures_41 : decode cX12_measures 41 = .ok (.iload_n 3, 1) := by decide +kernel
theorem dX12_measures_42 : decode cX12_measures 42 = .ok (.bipush 24, 2) := by decide +kernel
theorem dX12_measures_44 : decode cX12_measures 44 = .ok (.if_icmp .ge 86, 3) := by decide +kernel
theorem dX12_measures_47 : decode cX12_measures 47 = .ok (.iconst 0, 1) := by decide +kernel
theorem dX12_measures_48 : decode cX12_measures 48 = .ok (.istore 4, 2) := by decide +kernel
theorem dX12_measures_50 : decode cX12_measures 50 = .ok (.iload 4, 2) := by decide +kernel
theorem dX12_measures_52 : decode cX12_measures 52 = .ok (.aload_n 0, 1) := by decide +kernel
theorem dX12_measures_53 : decode cX12_measures 53 = .ok (.iload_n 3, 1) := by decide +kernel
theorem dX12_measures_54 : decode cX12_measures 54 = .ok (.iconst 1, 1) := by decide +kernel
theorem dX12_measures_55 : decode cX12_measures 55 = .ok (.invokevirtual 91, 3) := by decide +kernel
theorem dX12_measures_58 : decode cX12_measures 58 = .ok (.if_icmp .ge 66, 3) := by decide +kernel
theorem dX12_measures_61 : decode cX12_measures 61 = .ok (.aload_n 0, 1) := by decide +kernel
theorem dX12_measures_62 : decode cX12_measures 62 = .ok (.iload_n 3, 1) := by decide +kernel
theorem dX12_measures_63 : decode cX12_measures 63 = .ok (.invokevirtual 216, 3) := by decide +kernel
theorem dX12_measures_66 : decode cX12_measures 66 = .ok (.ifCond .eq 58, 3) := by decide +kernel
theorem dX12_measures_69 : decode cX12_measures 69 = .ok (.aload_n 0, 1) := by decide +kernel
theorem dX12_measures_70 : decode cX12_measures 70 = .ok (.iload_n 3, 1) := by decide +kernel
theorem dX12_measures_71 : decode cX12_measures 71 = .ok (.iload 4, 2) := by decide +kernel
theorem dX12_measures_73 : decode cX12_measures 73 = .ok (.invokevirtual 140, 3) := by decide +kernel
theorem dX12_measures_76 : decode cX12_measures 76 = .ok (.istore 5, 2) := by decide +kernel
theorem dX12_measures_78 : decode cX12_measures 78 = .ok (.iload 5, 2) := by decide +kernel
theorem dX12_measures_80 : decode cX12_measures 80 = .ok (.ifCond .lt 38, 3) := by decide +kernel
theorem dX12_measures_83 : decode cX12_measures 83 = .ok (.aload_n 0, 1) := by decide +kernel
theorem dX12_measures_84 : decode cX12_measures 84 = .ok (.getfield 62, 3) := by decide +kernel
theorem dX12_measures_87 : decode cX12_measures 87 = .ok (.iload 5, 2) := by decide +kernel
theorem dX12_measures_89 : decode cX12_measures 89 = .ok (.iaload, 1) := by decide +kernel
theorem dX12_measures_90 : decode cX12_measures 90 = .ok (.iconst 1, 1) := by decide +kernel
theorem dX12_measures_91 : decode cX12_measures 91 = .ok (.iadd, 1) := by decide +kernel
theorem dX12_measures_92 : decode cX12_measures 92 = .ok (.aload_n 0, 1) := by decide +kernel
theorem dX12_measures_93 : decode cX12_measures 93 = .ok (.getfield 62, 3) := by decide +kernel
theorem dX12_measures_96 : decode cX12_measures 96 = .ok (.iload_n 3, 1) := by decide +kernel
theorem dX12_measures_97 : decode cX12_measures 97 = .ok (.iaload, 1) := by decide +kernel
theorem dX12_measures_98 : decode cX12_measures 98 = .ok (.if_icmp .ge 20, 3) := by decide +kernel
theorem dX12_measures_101 : decode cX12_measures 101 = .ok (.aload_n 0, 1) := by decide +kernel
theorem dX12_measures_102 : decode cX12_measures 102 = .ok (.getfield 62, 3) := by decide +kernel
theorem dX12_measures_105 : decode cX12_measures 105 = .ok (.iload_n 3, 1) := by decide +kernel
theorem dX12_measures_106 : decode cX12_measures 106 = .ok (.aload_n 0, 1) := by decide +kernel
theorem dX12_measures_107 : decode cX12_measures 107 = .ok (.getfield 62, 3) := by decide +kernel
theorem dX12_measures_110 : decode cX12_measures 110 = .ok (.iload 5, 2) := by decide +kernel
theorem dX12_measures_112 : decode cX12_measures 112 = .ok (.iaload, 1) := by decide +kernel
theorem dX12_measures_113 : decode cX12_measures 113 = .ok (.iconst 1, 1) := by decide +kernel
theorem dX12_measures_114 : decode cX12_measures 114 = .ok (.iadd, 1) := by decide +kernel
theorem dX12_measures_115 : decode cX12_measures 115 = .ok (.iastore, 1) := by decide +kernel
theorem dX12_measures_116 : decode cX12_measures 116 = .ok (.iconst 1, 1) := by decide +kernel
theorem dX12_measures_117 : decode cX12_measures 117 = .ok (.istore_n 2, 1) := by decide +kernel
theorem dX12_measures_118 : decode cX12_measures 118 = .ok (.iinc 4 1, 3) := by decide +kernel
theorem dX12_measures_121 : decode cX12_measures 121 = .ok (.goto (-71), 3) := by decide +kernel
theorem dX12_measures_124 : decode cX12_measures 124 = .ok (.iinc 3 1, 3) := by decide +kernel
theorem dX12_measures_127 : decode cX12_measures 127 = .ok (.goto (-86), 3) := by decide +kernel
theorem dX12_measures_130 : decode cX12_measures 130 = .ok (.goto (-97), 3) := by decide +kernel
theorem dX12_measures_133 : decode cX12_measures 133 = .ok (.return_, 1) := by decide +kernel
theorem dX12_nearest_0 : decode cX12_nearest 0 = .ok (.iconst (-1), 1) := by decide +kernel
theorem dX12_nearest_1 : decode cX12_nearest 1 = .ok (.istore_n 2, 1) := by decide +kernel
theorem dX12_nearest_2 : decode cX12_nearest 2 = .ok (.iconst 0, 1) := by decide +kernel
theorem dX12_nearest_3 : decode cX12_nearest 3 = .ok (.istore_n 3, 1) := by decide +kernel
theorem dX12_nearest_4 : decode cX12_nearest 4 = .ok (.iload_n 3, 1) := by decide +kernel
theorem dX12_nearest_5 : decode cX12_nearest 5 = .ok (.bipush 24, 2) := by decide +kernel
theorem dX12_nearest_7 : decode cX12_nearest 7 = .ok (.if_icmp .ge 38, 3) := by decide +kernel
theorem dX12_nearest_10 : decode cX12_nearest 10 = .ok (.iload_n 1, 1) := by decide +kernel
theorem dX12_nearest_11 : decode cX12_nearest 11 = .ok (.iload_n 3, 1) := by decide +kernel
theorem dX12_nearest_12 : decode cX12_nearest 12 = .ok (.invokestatic 171, 3) := by decide +kernel
theorem dX12_nearest_15 : decode cX12_nearest 15 = .ok (.ifCond .eq 24, 3) := by decide +kernel
theorem dX12_nearest_18 : decode cX12_nearest 18 = .ok (.iload_n 2, 1) := by decide +kernel
theorem dX12_nearest_19 : decode cX12_nearest 19 = .ok (.ifCond .lt 18, 3) := by decide +kernel
theorem dX12_nearest_22 : decode cX12_nearest 22 = .ok (.aload_n 0, 1) := by decide +kernel
theorem dX12_nearest_23 : decode cX12_nearest 23 = .ok (.getfield 62, 3) := by decide +kernel
theorem dX12_nearest_26 : decode cX12_nearest 26 = .ok (.iload_n 3, 1) := by decide +kernel
theorem dX12_nearest_27 : decode cX12_nearest 27 = .ok (.iaload, 1) := by decide +kernel
theorem dX12_nearest_28 : decode cX12_nearest 28 = .ok (.aload_n 0, 1) := by decide +kernel
theorem dX12_nearest_29 : decode cX12_nearest 29 = .ok (.getfield 62, 3) := by decide +kernel
theorem dX12_nearest_32 : decode cX12_nearest 32 = .ok (.iload_n 2, 1) := by decide +kernel
theorem dX12_nearest_33 : decode cX12_nearest 33 = .ok (.iaload, 1) := by decide +kernel
theorem dX12_nearest_34 : decode cX12_nearest 34 = .ok (.if_icmp .ge 5, 3) := by decide +kernel
theorem dX12_nearest_37 : decode cX12_nearest 37 = .ok (.iload_n 3, 1) := by decide +kernel
theorem dX12_nearest_38 : decode cX12_nearest 38 = .ok (.istore_n 2, 1) := by decide +kernel
theorem dX12_nearest_39 : decode cX12_nearest 39 = .ok (.iinc 3 1, 3) := by decide +kernel
theorem dX12_nearest_42 : decode cX12_nearest 42 = .ok (.goto (-38), 3) := by decide +kernel
theorem dX12_nearest_45 : decode cX12_nearest 45 = .ok (.iload_n 2, 1) := by decide +kernel
theorem dX12_nearest_46 : decode cX12_nearest 46 = .ok (.ireturn, 1) := by decide +kernel
theorem dX12_way_0 : decode cX12_way 0 = .ok (.aload_n 0, 1) := by decide +kernel
theorem dX12_way_1 : decode cX12_way 1 = .ok (.iconst 0, 1) := by decide +kernel
theorem dX12_way_2 : decode cX12_way 2 = .ok (.putfield 1, 3) := by decide +kernel
theorem dX12_way_5 : decode cX12_way 5 = .ok (.aload_n 0, 1) := by decide +kernel
theorem dX12_way_6 : decode cX12_way 6 = .ok (.iload_n 1, 1) := by decide +kernel
theorem dX12_way_7 : decode cX12_way 7 = .ok (.invokevirtual 216, 3) := by decide +kernel
theorem dX12_way_10 : decode cX12_way 10 = .ok (.ifCond .ne 5, 3) := by decide +kernel
theorem dX12_way_13 : decode cX12_way 13 = .ok (.iconst (-1), 1) := by decide +kernel
theorem dX12_way_14 : decode cX12_way 14 = .ok (.ireturn, 1) := by decide +kernel
theorem dX12_way_15 : decode cX12_way 15 = .ok (.aload_n 0, 1) := by decide +kernel
theorem dX12_way_16 : decode cX12_way 16 = .ok (.iload_n 1, 1) := by decide +kernel
theorem dX12_way_17 : decode cX12_way 17 = .ok (.invokevirtual 222, 3) := by decide +kernel
theorem dX12_way_20 : decode cX12_way 20 = .ok (.ifCond .ne 6, 3) := by decide +kernel
theorem dX12_way_23 : decode cX12_way 23 = .ok (.bipush (-2), 2) := by decide +kernel
theorem dX12_way_25 : decode cX12_way 25 = .ok (.ireturn, 1) := by decide +kernel
theorem dX12_way_26 : decode cX12_way 26 = .ok (.aload_n 0, 1) := by decide +kernel
theorem dX12_way_27 : decode cX12_way 27 = .ok (.iload_n 1, 1) := by decide +kernel
theorem dX12_way_28 : decode cX12_way 28 = .ok (.invokevirtual 282, 3) := by decide +kernel
theorem dX12_way_31 : decode cX12_way 31 = .ok (.aload_n 0, 1) := by decide +kernel
theorem dX12_way_32 : decode cX12_way 32 = .ok (.iconst 0, 1) := by decide +kernel
theorem dX12_way_33 : decode cX12_way 33 = .ok (.putfield 11, 3) := by decide +kernel
theorem dX12_way_36 : decode cX12_way 36 = .ok (.aload_n 0, 1) := by decide +kernel
theorem dX12_way_37 : decode cX12_way 37 = .ok (.aload_n 0, 1) := by decide +kernel
theorem dX12_way_38 : decode cX12_way 38 = .ok (.iconst 0, 1) := by decide +kernel
theorem dX12_way_39 : decode cX12_way 39 = .ok (.invokevirtual 196, 3) := by decide +kernel
theorem dX12_way_42 : decode cX12_way 42 = .ok (.invokevirtual 285, 3) := by decide +kernel
theorem dX12_way_45 : decode cX12_way 45 = .ok (.istore_n 2, 1) := by decide +kernel
theorem dX12_way_46 : decode cX12_way 46 = .ok (.aload_n 0, 1) := by decide +kernel
theorem dX12_way_47 : decode cX12_way 47 = .ok (.iload_n 2, 1) := by decide +kernel
theorem dX12_way_48 : decode cX12_way 48 = .ok (.i2l, 1) := by decide +kernel
theorem dX12_way_49 : decode cX12_way 49 = .ok (.invokevirtual 239, 3) := by decide +kernel
theorem dX12_way_52 : decode cX12_way 52 = .ok (.iload_n 2, 1) := by decide +kernel
theorem dX12_way_53 : decode cX12_way 53 = .ok (.iload_n 1, 1) := by decide +kernel
theorem dX12_way_54 : decode cX12_way 54 = .ok (.if_icmp .eq 22, 3) := by decide +kernel
theorem dX12_way_57 : decode cX12_way 57 = .ok (.aload_n 0, 1) := by decide +kernel
theorem dX12_way_58 : decode cX12_way 58 = .ok (.aload_n 0, 1) := by decide +kernel
theorem dX12_way_59 : decode cX12_way 59 = .ok (.iload_n 2, 1) := by decide +kernel
theorem dX12_way_60 : decode cX12_way 60 = .ok (.invokevirtual 193, 3) := by decide +kernel
theorem dX12_way_63 : decode cX12_way 63 = .ok (.invokevirtual 285, 3) := by decide +kernel
theorem dX12_way_66 : decode cX12_way 66 = .ok (.istore_n 2, 1) := by decide +kernel
theorem dX12_way_67 : decode cX12_way 67 = .ok (.aload_n 0, 1) := by decide +kernel
theorem dX12_way_68 : decode cX12_way 68 = .ok (.iload_n 2, 1) := by decide +kernel
theorem dX12_way_69 : decode cX12_way 69 = .ok (.i2l, 1) := by decide +kernel
theorem dX12_way_70 : decode cX12_way 70 = .ok (.invokevirtual 239, 3) := by decide +kernel
theorem dX12_way_73 : decode cX12_way 73 = .ok (.goto (-21), 3) := by decide +kernel
theorem dX12_way_76 : decode cX12_way 76 = .ok (.aload_n 0, 1) := by decide +kernel
theorem dX12_way_77 : decode cX12_way 77 = .ok (.getfield 11, 3) := by decide +kernel
theorem dX12_way_80 : decode cX12_way 80 = .ok (.ireturn, 1) := by decide +kernel
theorem dX12_from_0 : decode cX12_from 0 = .ok (.aload_n 0, 1) := by decide +kernel
theorem dX12_from_1 : decode cX12_from 1 = .ok (.iconst 0, 1) := by decide +kernel
theorem dX12_from_2 : decode cX12_from 2 = .ok (.putfield 1, 3) := by decide +kernel
theorem dX12_from_5 : decode cX12_from 5 = .ok (.aload_n 0, 1) := by decide +kernel
theorem dX12_from_6 : decode cX12_from 6 = .ok (.iload_n 1, 1) := by decide +kernel
theorem dX12_from_7 : decode cX12_from 7 = .ok (.invokevirtual 216, 3) := by decide +kernel
theorem dX12_from_10 : decode cX12_from 10 = .ok (.ifCond .ne 5, 3) := by decide +kernel
theorem dX12_from_13 : decode cX12_from 13 = .ok (.iconst (-1), 1) := by decide +kernel
theorem dX12_from_14 : decode cX12_from 14 = .ok (.ireturn, 1) := by decide +kernel
theorem dX12_from_15 : decode cX12_from 15 = .ok (.aload_n 0, 1) := by decide +kernel
theorem dX12_from_16 : decode cX12_from 16 = .ok (.iconst 0, 1) := by decide +kernel
theorem dX12_from_17 : decode cX12_from 17 = .ok (.putfield 11, 3) := by decide +kernel
theorem dX12_from_20 : decode cX12_from 20 = .ok (.aload_n 0, 1) := by decide +kernel
theorem dX12_from_21 : decode cX12_from 21 = .ok (.aload_n 0, 1) := by decide +kernel
theorem dX12_from_22 : decode cX12_from 22 = .ok (.aload_n 0, 1) := by decide +kernel
theorem dX12_from_23 : decode cX12_from 23 = .ok (.iload_n 1, 1) := by decide +kernel
theorem dX12_from_24 : decode cX12_from 24 = .ok (.invokevirtual 193, 3) := by decide +kernel
theorem dX12_from_27 : decode cX12_from 27 = .ok (.iconst 0, 1) := by decide +kernel
theorem dX12_from_28 : decode cX12_from 28 = .ok (.invokevirtual 199, 3) := by decide +kernel
theorem dX12_from_31 : decode cX12_from 31 = .ok (.iload_n 1, 1) := by decide +kernel
theorem dX12_from_32 : decode cX12_from 32 = .ok (.invokestatic 171, 3) := by decide +kernel
theorem dX12_from_35 : decode cX12_from 35 = .ok (.invokestatic 167, 3) := by decide +kernel
theorem dX12_from_38 : decode cX12_from 38 = .ok (.i2l, 1) := by decide +kernel
theorem dX12_from_39 : decode cX12_from 39 = .ok (.invokevirtual 239, 3) := by decide +kernel
theorem dX12_from_42 : decode cX12_from 42 = .ok (.aload_n 0, 1) := by decide +kernel
theorem dX12_from_43 : decode cX12_from 43 = .ok (.iconst 1, 1) := by decide +kernel
theorem dX12_from_44 : decode cX12_from 44 = .ok (.iload_n 1, 1) := by decide +kernel
theorem dX12_from_45 : decode cX12_from 45 = .ok (.ishl, 1) := by decide +kernel
theorem dX12_from_46 : decode cX12_from 46 = .ok (.iconst 0, 1) := by decide +kernel
theorem dX12_from_47 : decode cX12_from 47 = .ok (.invokevirtual 199, 3) := by decide +kernel
theorem dX12_from_50 : decode cX12_from 50 = .ok (.ireturn, 1) := by decide +kernel
theorem dX12_rings_0 : decode cX12_rings 0 = .ok (.aload_n 0, 1) := by decide +kernel
theorem dX12_rings_1 : decode cX12_rings 1 = .ok (.iconst 0, 1) := by decide +kernel
theorem dX12_rings_2 : decode cX12_rings 2 = .ok (.putfield 1, 3) := by decide +kernel
theorem dX12_rings_5 : decode cX12_rings 5 = .ok (.aload_n 0, 1) := by decide +kernel
theorem dX12_rings_6 : decode cX12_rings 6 = .ok (.iconst 0, 1) := by decide +kernel
theorem dX12_rings_7 : decode cX12_rings 7 = .ok (.putfield 11, 3) := by decide +kernel
theorem dX12_rings_10 : decode cX12_rings 10 = .ok (.iconst 0, 1) := by decide +kernel
theorem dX12_rings_11 : decode cX12_rings 11 = .ok (.istore_n 1, 1) := by decide +kernel
theorem dX12_rings_12 : decode cX12_rings 12 = .ok (.iconst 0, 1) := by decide +kernel
theorem dX12_rings_13 : decode cX12_rings 13 = .ok (.istore_n 2, 1) := by decide +kernel
theorem dX12_rings_14 : decode cX12_rings 14 = .ok (.iload_n 2, 1) := by decide +kernel
theorem dX12_rings_15 : decode cX12_rings 15 = .ok (.bipush 24, 2) := by decide +kernel
theorem dX12_rings_17 : decode cX12_rings 17 = .ok (.if_icmp .ge 123, 3) := by decide +kernel
theorem dX12_rings_20 : decode cX12_rings 20 = .ok (.aload_n 0, 1) := by decide +kernel
theorem dX12_rings_21 : decode cX12_rings 21 = .ok (.iload_n 2, 1) := by decide +kernel
theorem dX12_rings_22 : decode cX12_rings 22 = .ok (.invokevirtual 216, 3) := by decide +kernel
theorem dX12_rings_25 : decode cX12_rings 25 = .ok (.ifCond .eq 109, 3) := by decide +kernel
theorem dX12_rings_28 : decode cX12_rings 28 = .ok (.iload_n 1, 1) := by decide +kernel
theorem dX12_rings_29 : decode cX12_rings 29 = .ok (.iload_n 2, 1) := by decide +kernel
theorem dX12_rings_30 : decode cX12_rings 30 = .ok (.invokestatic 171, 3) := by decide +kernel
theorem dX12_rings_33 : decode cX12_rings 33 = .ok (.ifCond .ne 101, 3) := by decide +kernel
theorem dX12_rings_36 : decode cX12_rings 36 = .ok (.aload_n 0, 1) := by decide +kernel
theorem dX12_rings_37 : decode cX12_rings 37 = .ok (.aload_n 0, 1) := by decide +kernel
theorem dX12_rings_38 : decode cX12_rings 38 = .ok (.iload_n 2, 1) := by decide +kernel
theorem dX12_rings_39 : decode cX12_rings 39 = .ok (.invokevirtual 193, 3) := by decide +kernel
theorem dX12_rings_42 : decode cX12_rings 42 = .ok (.iconst 0, 1) := by decide +kernel
theorem dX12_rings_43 : decode cX12_rings 43 = .ok (.invokevirtual 199, 3) := by decide +kernel
theorem dX12_rings_46 : decode cX12_rings 46 = .ok (.iload_n 2, 1) := by decide +kernel
theorem dX12_rings_47 : decode cX12_rings 47 = .ok (.invokestatic 171, 3) := by decide +kernel
theorem dX12_rings_50 : decode cX12_rings 50 = .ok (.ifCond .ne 6, 3) := by decide +kernel
theorem dX12_rings_53 : decode cX12_rings 53 = .ok (.goto 81, 3) := by decide +kernel
theorem dX12_rings_56 : decode cX12_rings 56 = .ok (.iconst 0, 1) := by decide +kernel
theorem dX12_rings_57 : decode cX12_rings 57 = .ok (.istore_n 3, 1) := by decide +kernel
theorem dX12_rings_58 : decode cX12_rings 58 = .ok (.aload_n 0, 1) := by decide +kernel
theorem dX12_rings_59 : decode cX12_rings 59 = .ok (.iconst 1, 1) := by decide +kernel
theorem dX12_rings_60 : decode cX12_rings 60 = .ok (.iload_n 2, 1) := by decide +kernel
theorem dX12_rings_61 : decode cX12_rings 61 = .ok (.ishl, 1) := by decide +kernel
theorem dX12_rings_62 : decode cX12_rings 62 = .ok (.iconst 0, 1) := by decide +kernel
theorem dX12_rings_63 : decode cX12_rings 63 = .ok (.invokevirtual 199, 3) := by decide +kernel
theorem dX12_rings_66 : decode cX12_rings 66 = .ok (.istore 4, 2) := by decide +kernel
theorem dX12_rings_68 : decode cX12_rings 68 = .ok (.iconst 0, 1) := by decide +kernel
theorem dX12_rings_69 : decode cX12_rings 69 = .ok (.istore 5, 2) := by decide +kernel
theorem dX12_rings_71 : decode cX12_rings 71 = .ok (.iload 5, 2) := by decide +kernel
theorem dX12_rings_73 : decode cX12_rings 73 = .ok (.bipush 24, 2) := by decide +kernel
theorem dX12_rings_75 : decode cX12_rings 75 = .ok (.if_icmp .ge 49, 3) := by decide +kernel
theorem dX12_rings_78 : decode cX12_rings 78 = .ok (.iload_n 3, 1) := by decide +kernel
theorem dX12_rings_79 : decode cX12_rings 79 = .ok (.iload 4, 2) := by decide +kernel
theorem dX12_rings_81 : decode cX12_rings 81 = .ok (.iload 5, 2) := by decide +kernel
theorem dX12_rings_83 : decode cX12_rings 83 = .ok (.invokestatic 171, 3) := by decide +kernel
theorem dX12_rings_86 : decode cX12_rings 86 = .ok (.ifCond .eq 23, 3) := by decide +kernel
theorem dX12_rings_89 : decode cX12_rings 89 = .ok (.aload_n 0, 1) := by decide +kernel
theorem dX12_rings_90 : decode cX12_rings 90 = .ok (.iconst 1, 1) := by decide +kernel
theorem dX12_rings_91 : decode cX12_rings 91 = .ok (.iload 5, 2) := by decide +kernel
theorem dX12_rings_93 : decode cX12_rings 93 = .ok (.ishl, 1) := by decide +kernel
theorem dX12_rings_94 : decode cX12_rings 94 = .ok (.iconst 0, 1) := by decide +kernel
theorem dX12_rings_95 : decode cX12_rings 95 = .ok (.invokevirtual 199, 3) := by decide +kernel
theorem dX12_rings_98 : decode cX12_rings 98 = .ok (.iload_n 2, 1) := by decide +kernel
theorem dX12_rings_99 : decode cX12_rings 99 = .ok (.invokestatic 171, 3) := by decide +kernel
theorem dX12_rings_102 : decode cX12_rings 102 = .ok (.ifCond .eq 7, 3) := by decide +kernel
theorem dX12_rings_105 : decode cX12_rings 105 = .ok (.iconst 1, 1) := by decide +kernel
theorem dX12_rings_106 : decode cX12_rings 106 = .ok (.goto 4, 3) := by decide +kernel
theorem dX12_rings_109 : decode cX12_rings 109 = .ok (.iconst 0, 1) := by decide +kernel
theorem dX12_rings_110 : decode cX12_rings 110 = .ok (.invokestatic 167, 3) := by decide +kernel
theorem dX12_rings_113 : decode cX12_rings 113 = .ok (.iload 5, 2) := by decide +kernel
theorem dX12_rings_115 : decode cX12_rings 115 = .ok (.ishl, 1) := by decide +kernel
theorem dX12_rings_116 : decode cX12_rings 116 = .ok (.ior, 1) := by decide +kernel
theorem dX12_rings_117 : decode cX12_rings 117 = .ok (.istore_n 3, 1) := by decide +kernel
theorem dX12_rings_118 : decode cX12_rings 118 = .ok (.iinc 5 1, 3) := by decide +kernel
theorem dX12_rings_121 : decode cX12_rings 121 = .ok (.goto (-50), 3) := by decide +kernel
theorem dX12_rings_124 : decode cX12_rings 124 = .ok (.iload_n 1, 1) := by decide +kernel
theorem dX12_rings_125 : decode cX12_rings 125 = .ok (.iload_n 3, 1) := by decide +kernel
theorem dX12_rings_126 : decode cX12_rings 126 = .ok (.ior, 1) := by decide +kernel
theorem dX12_rings_127 : decode cX12_rings 127 = .ok (.istore_n 1, 1) := by decide +kernel
theorem dX12_rings_128 : decode cX12_rings 128 = .ok (.aload_n 0, 1) := by decide +kernel
theorem dX12_rings_129 : decode cX12_rings 129 = .ok (.iload_n 3, 1) := by decide +kernel
theorem dX12_rings_130 : decode cX12_rings 130 = .ok (.i2l, 1) := by decide +kernel
theorem dX12_rings_131 : decode cX12_rings 131 = .ok (.invokevirtual 239, 3) := by decide +kernel
theorem dX12_rings_134 : decode cX12_rings 134 = .ok (.iinc 2 1, 3) := by decide +kernel
theorem dX12_rings_137 : decode cX12_rings 137 = .ok (.goto (-123), 3) := by decide +kernel
theorem dX12_rings_140 : decode cX12_rings 140 = .ok (.aload_n 0, 1) := by decide +kernel
theorem dX12_rings_141 : decode cX12_rings 141 = .ok (.getfield 11, 3) := by decide +kernel
theorem dX12_rings_144 : decode cX12_rings 144 = .ok (.ireturn, 1) := by decide +kernel
theorem dX12_aloneWith_0 : decode cX12_aloneWith 0 = .ok (.aload_n 0, 1) := by decide +kernel
theorem dX12_aloneWith_1 : decode cX12_aloneWith 1 = .ok (.invokevirtual 202, 3) := by decide +kernel
theorem dX12_aloneWith_4 : decode cX12_aloneWith 4 = .ok (.istore_n 2, 1) := by decide +kernel
theorem dX12_aloneWith_5 : decode cX12_aloneWith 5 = .ok (.iload_n 2, 1) := by decide +kernel
theorem dX12_aloneWith_6 : decode cX12_aloneWith 6 = .ok (.iload_n 1, 1) := by decide +kernel
theorem dX12_aloneWith_7 : decode cX12_aloneWith 7 = .ok (.invokestatic 171, 3) := by decide +kernel
theorem dX12_aloneWith_10 : decode cX12_aloneWith 10 = .ok (.ifCond .eq 22, 3) := by decide +kernel
theorem dX12_aloneWith_13 : decode cX12_aloneWith 13 = .ok (.iload_n 2, 1) := by decide +kernel
theorem dX12_aloneWith_14 : decode cX12_aloneWith 14 = .ok (.aload_n 0, 1) := by decide +kernel
theorem dX12_aloneWith_15 : decode cX12_aloneWith 15 = .ok (.aload_n 0, 1) := by decide +kernel
theorem dX12_aloneWith_16 : decode cX12_aloneWith 16 = .ok (.iconst 0, 1) := by decide +kernel
theorem dX12_aloneWith_17 : decode cX12_aloneWith 17 = .ok (.invokevirtual 196, 3) := by decide +kernel
theorem dX12_aloneWith_20 : decode cX12_aloneWith 20 = .ok (.iconst 1, 1) := by decide +kernel
theorem dX12_aloneWith_21 : decode cX12_aloneWith 21 = .ok (.iload_n 1, 1) := by decide +kernel
theorem dX12_aloneWith_22 : decode cX12_aloneWith 22 = .ok (.ishl, 1) := by decide +kernel
theorem dX12_aloneWith_23 : decode cX12_aloneWith 23 = .ok (.invokevirtual 199, 3) := by decide +kernel
theorem dX12_aloneWith_26 : decode cX12_aloneWith 26 = .ok (.iconst (-1), 1) := by decide +kernel
theorem dX12_aloneWith_27 : decode cX12_aloneWith 27 = .ok (.ixor, 1) := by decide +kernel
theorem dX12_aloneWith_28 : decode cX12_aloneWith 28 = .ok (.iand, 1) := by decide +kernel
theorem dX12_aloneWith_29 : decode cX12_aloneWith 29 = .ok (.goto 4, 3) := by decide +kernel
theorem dX12_aloneWith_32 : decode cX12_aloneWith 32 = .ok (.iconst 0, 1) := by decide +kernel
theorem dX12_aloneWith_33 : decode cX12_aloneWith 33 = .ok (.ireturn, 1) := by decide +kernel
theorem dX12_alone_0 : decode cX12_alone 0 = .ok (.aload_n 0, 1) := by decide +kernel
theorem dX12_alone_1 : decode cX12_alone 1 = .ok (.iconst 0, 1) := by decide +kernel
theorem dX12_alone_2 : decode cX12_alone 2 = .ok (.putfield 1, 3) := by decide +kernel
theorem dX12_alone_5 : decode cX12_alone 5 = .ok (.aload_n 0, 1) := by decide +kernel
theorem dX12_alone_6 : decode cX12_alone 6 = .ok (.iload_n 1, 1) := by decide +kernel
theorem dX12_alone_7 : decode cX12_alone 7 = .ok (.invokevirtual 216, 3) := by decide +kernel
theorem dX12_alone_10 : decode cX12_alone 10 = .ok (.ifCond .ne 5, 3) := by decide +kernel
theorem dX12_alone_13 : decode cX12_alone 13 = .ok (.iconst (-1), 1) := by decide +kernel
theorem dX12_alone_14 : decode cX12_alone 14 = .ok (.ireturn, 1) := by decide +kernel
theorem dX12_alone_15 : decode cX12_alone 15 = .ok (.aload_n 0, 1) := by decide +kernel
theorem dX12_alone_16 : decode cX12_alone 16 = .ok (.iload_n 1, 1) := by decide +kernel
theorem dX12_alone_17 : decode cX12_alone 17 = .ok (.invokevirtual 222, 3) := by decide +kernel
theorem dX12_alone_20 : decode cX12_alone 20 = .ok (.ifCond .ne 6, 3) := by decide +kernel
theorem dX12_alone_23 : decode cX12_alone 23 = .ok (.bipush (-2), 2) := by decide +kernel
theorem dX12_alone_25 : decode cX12_alone 25 = .ok (.ireturn, 1) := by decide +kernel
theorem dX12_alone_26 : decode cX12_alone 26 = .ok (.aload_n 0, 1) := by decide +kernel
theorem dX12_alone_27 : decode cX12_alone 27 = .ok (.iload_n 1, 1) := by decide +kernel
theorem dX12_alone_28 : decode cX12_alone 28 = .ok (.invokevirtual 288, 3) := by decide +kernel
theorem dX12_alone_31 : decode cX12_alone 31 = .ok (.istore_n 2, 1) := by decide +kernel
theorem dX12_alone_32 : decode cX12_alone 32 = .ok (.aload_n 0, 1) := by decide +kernel
theorem dX12_alone_33 : decode cX12_alone 33 = .ok (.iconst 0, 1) := by decide +kernel
theorem dX12_alone_34 : decode cX12_alone 34 = .ok (.putfield 11, 3) := by decide +kernel
theorem dX12_alone_37 : decode cX12_alone 37 = .ok (.aload_n 0, 1) := by decide +kernel
theorem dX12_alone_38 : decode cX12_alone 38 = .ok (.aload_n 0, 1) := by decide +kernel
theorem dX12_alone_39 : decode cX12_alone 39 = .ok (.iload_n 2, 1) := by decide +kernel
theorem dX12_alone_40 : decode cX12_alone 40 = .ok (.invokevirtual 279, 3) := by decide +kernel
theorem dX12_alone_43 : decode cX12_alone 43 = .ok (.i2l, 1) := by decide +kernel
theorem dX12_alone_44 : decode cX12_alone 44 = .ok (.invokevirtual 239, 3) := by decide +kernel
theorem dX12_alone_47 : decode cX12_alone 47 = .ok (.iload_n 2, 1) := by decide +kernel
theorem dX12_alone_48 : decode cX12_alone 48 = .ok (.ireturn, 1) := by decide +kernel
theorem dX12_keepers_0 : decode cX12_keepers 0 = .ok (.aload_n 0, 1) := by decide +kernel
theorem dX12_keepers_1 : decode cX12_keepers 1 = .ok (.iconst 0, 1) := by decide +kernel
theorem dX12_keepers_2 : decode cX12_keepers 2 = .ok (.putfield 1, 3) := by decide +kernel
theorem dX12_keepers_5 : decode cX12_keepers 5 = .ok (.aload_n 0, 1) := by decide +kernel
theorem dX12_keepers_6 : decode cX12_keepers 6 = .ok (.iload_n 1, 1) := by decide +kernel
theorem dX12_keepers_7 : decode cX12_keepers 7 = .ok (.invokevirtual 216, 3) := by decide +kernel
theorem dX12_keepers_10 : decode cX12_keepers 10 = .ok (.ifCond .ne 5, 3) := by decide +kernel
theorem dX12_keepers_13 : decode cX12_keepers 13 = .ok (.iconst (-1), 1) := by decide +kernel
theorem dX12_keepers_14 : decode cX12_keepers 14 = .ok (.ireturn, 1) := by decide +kernel
theorem dX12_keepers_15 : decode cX12_keepers 15 = .ok (.aload_n 0, 1) := by decide +kernel
theorem dX12_keepers_16 : decode cX12_keepers 16 = .ok (.iload_n 1, 1) := by decide +kernel
theorem dX12_keepers_17 : decode cX12_keepers 17 = .ok (.invokevirtual 222, 3) := by decide +kernel
theorem dX12_keepers_20 : decode cX12_keepers 20 = .ok (.ifCond .ne 6, 3) := by decide +kernel
theorem dX12_keepers_23 : decode cX12_keepers 23 = .ok (.bipush (-2), 2) := by decide +kernel
theorem dX12_keepers_25 : decode cX12_keepers 25 = .ok (.ireturn, 1) := by decide +kernel
theorem dX12_keepers_26 : decode cX12_keepers 26 = .ok (.iconst 0, 1) := by decide +kernel
theorem dX12_keepers_27 : decode cX12_keepers 27 = .ok (.istore_n 2, 1) := by decide +kernel
theorem dX12_keepers_28 : decode cX12_keepers 28 = .ok (.iconst 0, 1) := by decide +kernel
theorem dX12_keepers_29 : decode cX12_keepers 29 = .ok (.istore_n 3, 1) := by decide +kernel
theorem dX12_keepers_30 : decode cX12_keepers 30 = .ok (.iload_n 3, 1) := by decide +kernel
theorem dX12_keepers_31 : decode cX12_keepers 31 = .ok (.bipush 6, 2) := by decide +kernel
theorem dX12_keepers_33 : decode cX12_keepers 33 = .ok (.if_icmp .ge 49, 3) := by decide +kernel
theorem dX12_keepers_36 : decode cX12_keepers 36 = .ok (.iload_n 2, 1) := by decide +kernel
theorem dX12_keepers_37 : decode cX12_keepers 37 = .ok (.aload_n 0, 1) := by decide +kernel
theorem dX12_keepers_38 : decode cX12_keepers 38 = .ok (.iload_n 3, 1) := by decide +kernel
theorem dX12_keepers_39 : decode cX12_keepers 39 = .ok (.invokevirtual 131, 3) := by decide +kernel
theorem dX12_keepers_42 : decode cX12_keepers 42 = .ok (.ifCond .lt 26, 3) := by decide +kernel
theorem dX12_keepers_45 : decode cX12_keepers 45 = .ok (.aload_n 0, 1) := by decide +kernel
theorem dX12_keepers_46 : decode cX12_keepers 46 = .ok (.iconst 1, 1) := by decide +kernel
theorem dX12_keepers_47 : decode cX12_keepers 47 = .ok (.aload_n 0, 1) := by decide +kernel
theorem dX12_keepers_48 : decode cX12_keepers 48 = .ok (.iload_n 3, 1) := by decide +kernel
theorem dX12_keepers_49 : decode cX12_keepers 49 = .ok (.invokevirtual 131, 3) := by decide +kernel
theorem dX12_keepers_52 : decode cX12_keepers 52 = .ok (.ishl, 1) := by decide +kernel
theorem dX12_keepers_53 : decode cX12_keepers 53 = .ok (.iconst 0, 1) := by decide +kernel
theorem dX12_keepers_54 : decode cX12_keepers 54 = .ok (.invokevirtual 199, 3) := by decide +kernel
theorem dX12_keepers_57 : decode cX12_keepers 57 = .ok (.iload_n 1, 1) := by decide +kernel
theorem dX12_keepers_58 : decode cX12_keepers 58 = .ok (.invokestatic 171, 3) := by decide +kernel
theorem dX12_keepers_61 : decode cX12_keepers 61 = .ok (.ifCond .eq 7, 3) := by decide +kernel
theorem dX12_keepers_64 : decode cX12_keepers 64 = .ok (.iconst 1, 1) := by decide +kernel
theorem dX12_keepers_65 : decode cX12_keepers 65 = .ok (.goto 4, 3) := by decide +kernel
theorem dX12_keepers_68 : decode cX12_keepers 68 = .ok (.iconst 0, 1) := by decide +kernel
theorem dX12_keepers_69 : decode cX12_keepers 69 = .ok (.invokestatic 167, 3) := by decide +kernel
theorem dX12_keepers_72 : decode cX12_keepers 72 = .ok (.iload_n 3, 1) := by decide +kernel
theorem dX12_keepers_73 : decode cX12_keepers 73 = .ok (.ishl, 1) := by decide +kernel
theorem dX12_keepers_74 : decode cX12_keepers 74 = .ok (.ior, 1) := by decide +kernel
theorem dX12_keepers_75 : decode cX12_keepers 75 = .ok (.istore_n 2, 1) := by decide +kernel
theorem dX12_keepers_76 : decode cX12_keepers 76 = .ok (.iinc 3 1, 3) := by decide +kernel
theorem dX12_keepers_79 : decode cX12_keepers 79 = .ok (.goto (-49), 3) := by decide +kernel
theorem dX12_keepers_82 : decode cX12_keepers 82 = .ok (.aload_n 0, 1) := by decide +kernel
theorem dX12_keepers_83 : decode cX12_keepers 83 = .ok (.iconst 0, 1) := by decide +kernel
theorem dX12_keepers_84 : decode cX12_keepers 84 = .ok (.putfield 11, 3) := by decide +kernel
theorem dX12_keepers_87 : decode cX12_keepers 87 = .ok (.aload_n 0, 1) := by decide +kernel
theorem dX12_keepers_88 : decode cX12_keepers 88 = .ok (.aload_n 0, 1) := by decide +kernel
theorem dX12_keepers_89 : decode cX12_keepers 89 = .ok (.invokevirtual 202, 3) := by decide +kernel
theorem dX12_keepers_92 : decode cX12_keepers 92 = .ok (.aload_n 0, 1) := by decide +kernel
theorem dX12_keepers_93 : decode cX12_keepers 93 = .ok (.aload_n 0, 1) := by decide +kernel
theorem dX12_keepers_94 : decode cX12_keepers 94 = .ok (.iload_n 2, 1) := by decide +kernel
theorem dX12_keepers_95 : decode cX12_keepers 95 = .ok (.invokevirtual 196, 3) := by decide +kernel
theorem dX12_keepers_98 : decode cX12_keepers 98 = .ok (.iconst 0, 1) := by decide +kernel
theorem dX12_keepers_99 : decode cX12_keepers 99 = .ok (.invokevirtual 199, 3) := by decide +kernel
theorem dX12_keepers_102 : decode cX12_keepers 102 = .ok (.iconst (-1), 1) := by decide +kernel
theorem dX12_keepers_103 : decode cX12_keepers 103 = .ok (.ixor, 1) := by decide +kernel
theorem dX12_keepers_104 : decode cX12_keepers 104 = .ok (.iand, 1) := by decide +kernel
theorem dX12_keepers_105 : decode cX12_keepers 105 = .ok (.invokestatic 236, 3) := by decide +kernel
theorem dX12_keepers_108 : decode cX12_keepers 108 = .ok (.i2l, 1) := by decide +kernel
theorem dX12_keepers_109 : decode cX12_keepers 109 = .ok (.invokevirtual 239, 3) := by decide +kernel
theorem dX12_keepers_112 : decode cX12_keepers 112 = .ok (.iload_n 2, 1) := by decide +kernel
theorem dX12_keepers_113 : decode cX12_keepers 113 = .ok (.ireturn, 1) := by decide +kernel
theorem dX12_cut_0 : decode cX12_cut 0 = .ok (.aload_n 0, 1) := by decide +kernel
theorem dX12_cut_1 : decode cX12_cut 1 = .ok (.iconst 0, 1) := by decide +kernel
theorem dX12_cut_2 : decode cX12_cut 2 = .ok (.putfield 1, 3) := by decide +kernel
theorem dX12_cut_5 : decode cX12_cut 5 = .ok (.aload_n 0, 1) := by decide +kernel
theorem dX12_cut_6 : decode cX12_cut 6 = .ok (.iload_n 1, 1) := by decide +kernel
theorem dX12_cut_7 : decode cX12_cut 7 = .ok (.invokevirtual 216, 3) := by decide +kernel
theorem dX12_cut_10 : decode cX12_cut 10 = .ok (.ifCond .eq 21, 3) := by decide +kernel
theorem dX12_cut_13 : decode cX12_cut 13 = .ok (.iload_n 2, 1) := by decide +kernel
theorem dX12_cut_14 : decode cX12_cut 14 = .ok (.i2l, 1) := by decide +kernel
theorem dX12_cut_15 : decode cX12_cut 15 = .ok (.lconst 0, 1) := by decide +kernel
theorem dX12_cut_16 : decode cX12_cut 16 = .ok (.aload_n 0, 1) := by decide +kernel
theorem dX12_cut_17 : decode cX12_cut 17 = .ok (.iload_n 1, 1) := by decide +kernel
theorem dX12_cut_18 : decode cX12_cut 18 = .ok (.iconst 1, 1) := by decide +kernel
theorem dX12_cut_19 : decode cX12_cut 19 = .ok (.invokevirtual 91, 3) := by decide +kernel
theorem dX12_cut_22 : decode cX12_cut 22 = .ok (.iconst 1, 1) := by decide +kernel
theorem dX12_cut_23 : decode cX12_cut 23 = .ok (.isub, 1) := by decide +kernel
theorem dX12_cut_24 : decode cX12_cut 24 = .ok (.i2l, 1) := by decide +kernel
theorem dX12_cut_25 : decode cX12_cut 25 = .ok (.invokestatic 21, 3) := by decide +kernel
theorem dX12_cut_28 : decode cX12_cut 28 = .ok (.ifCond .ne 5, 3) := by decide +kernel
theorem dX12_cut_31 : decode cX12_cut 31 = .ok (.iconst (-1), 1) := by decide +kernel
theorem dX12_cut_32 : decode cX12_cut 32 = .ok (.ireturn, 1) := by decide +kernel
theorem dX12_cut_33 : decode cX12_cut 33 = .ok (.aload_n 0, 1) := by decide +kernel
theorem dX12_cut_34 : decode cX12_cut 34 = .ok (.iload_n 1, 1) := by decide +kernel
theorem dX12_cut_35 : decode cX12_cut 35 = .ok (.iload_n 2, 1) := by decide +kernel
theorem dX12_cut_36 : decode cX12_cut 36 = .ok (.invokevirtual 140, 3) := by decide +kernel
theorem dX12_cut_39 : decode cX12_cut 39 = .ok (.ifCond .ge 6, 3) := by decide +kernel
theorem dX12_cut_42 : decode cX12_cut 42 = .ok (.bipush (-2), 2) := by decide +kernel
theorem dX12_cut_44 : decode cX12_cut 44 = .ok (.ireturn, 1) := by decide +kernel
theorem dX12_cut_45 : decode cX12_cut 45 = .ok (.aload_n 0, 1) := by decide +kernel
theorem dX12_cut_46 : decode cX12_cut 46 = .ok (.invokevirtual 233, 3) := by decide +kernel
theorem dX12_cut_49 : decode cX12_cut 49 = .ok (.istore_n 3, 1) := by decide +kernel
theorem dX12_cut_50 : decode cX12_cut 50 = .ok (.aload_n 0, 1) := by decide +kernel
theorem dX12_cut_51 : decode cX12_cut 51 = .ok (.invokevirtual 291, 3) := by decide +kernel
theorem dX12_cut_54 : decode cX12_cut 54 = .ok (.aload_n 0, 1) := by decide +kernel
theorem dX12_cut_55 : decode cX12_cut 55 = .ok (.iload_n 1, 1) := by decide +kernel
theorem dX12_cut_56 : decode cX12_cut 56 = .ok (.iload_n 2, 1) := by decide +kernel
theorem dX12_cut_57 : decode cX12_cut 57 = .ok (.iconst (-1), 1) := by decide +kernel
theorem dX12_cut_58 : decode cX12_cut 58 = .ok (.invokevirtual 146, 3) := by decide +kernel
theorem dX12_cut_61 : decode cX12_cut 61 = .ok (.iload_n 3, 1) := by decide +kernel
theorem dX12_cut_62 : decode cX12_cut 62 = .ok (.aload_n 0, 1) := by decide +kernel
theorem dX12_cut_63 : decode cX12_cut 63 = .ok (.invokevirtual 233, 3) := by decide +kernel
theorem dX12_cut_66 : decode cX12_cut 66 = .ok (.iconst (-1), 1) := by decide +kernel
theorem dX12_cut_67 : decode cX12_cut 67 = .ok (.ixor, 1) := by decide +kernel
theorem dX12_cut_68 : decode cX12_cut 68 = .ok (.iand, 1) := by decide +kernel
theorem dX12_cut_69 : decode cX12_cut 69 = .ok (.istore 4, 2) := by decide +kernel
theorem dX12_cut_71 : decode cX12_cut 71 = .ok (.aload_n 0, 1) := by decide +kernel
theorem dX12_cut_72 : decode cX12_cut 72 = .ok (.invokevirtual 97, 3) := by decide +kernel
theorem dX12_cut_75 : decode cX12_cut 75 = .ok (.istore 5, 2) := by decide +kernel
theorem dX12_cut_77 : decode cX12_cut 77 = .ok (.aload_n 0, 1) := by decide +kernel
theorem dX12_cut_78 : decode cX12_cut 78 = .ok (.invokevirtual 294, 3) := by decide +kernel
theorem dX12_cut_81 : decode cX12_cut 81 = .ok (.aload_n 0, 1) := by decide +kernel
theorem dX12_cut_82 : decode cX12_cut 82 = .ok (.iconst 0, 1) := by decide +kernel
theorem dX12_cut_83 : decode cX12_cut 83 = .ok (.putfield 11, 3) := by decide +kernel
theorem dX12_cut_86 : decode cX12_cut 86 = .ok (.aload_n 0, 1) := by decide +kernel
theorem dX12_cut_87 : decode cX12_cut 87 = .ok (.iload 5, 2) := by decide +kernel
theorem dX12_cut_89 : decode cX12_cut 89 = .ok (.i2l, 1) := by decide +kernel
theorem dX12_cut_90 : decode cX12_cut 90 = .ok (.invokevirtual 239, 3) := by decide +kernel
theorem dX12_cut_93 : decode cX12_cut 93 = .ok (.iload 4, 2) := by decide +kernel
theorem dX12_cut_95 : decode cX12_cut 95 = .ok (.ireturn, 1) := by decide +kernel
theorem dX12_would_0 : decode cX12_would 0 = .ok (.aload_n 0, 1) := by decide +kernel
theorem dX12_would_1 : decode cX12_would 1 = .ok (.iconst 0, 1) := by decide +kernel
theorem dX12_would_2 : decode cX12_would 2 = .ok (.putfield 1, 3) := by decide +kernel
theorem dX12_would_5 : decode cX12_would 5 = .ok (.aload_n 0, 1) := by decide +kernel
theorem dX12_would_6 : decode cX12_would 6 = .ok (.invokevirtual 97, 3) := by decide +kernel
theorem dX12_would_9 : decode cX12_would 9 = .ok (.ifCond .ne 6, 3) := by decide +kernel
theorem dX12_would_12 : decode cX12_would 12 = .ok (.bipush (-2), 2) := by decide +kernel
theorem dX12_would_14 : decode cX12_would 14 = .ok (.ireturn, 1) := by decide +kernel
theorem dX12_would_15 : decode cX12_would 15 = .ok (.aload_n 0, 1) := by decide +kernel
theorem dX12_would_16 : decode cX12_would 16 = .ok (.invokevirtual 233, 3) := by decide +kernel
theorem dX12_would_19 : decode cX12_would 19 = .ok (.istore_n 1, 1) := by decide +kernel
theorem dX12_would_20 : decode cX12_would 20 = .ok (.aload_n 0, 1) := by decide +kernel
theorem dX12_would_21 : decode cX12_would 21 = .ok (.invokevirtual 291, 3) := by decide +kernel
theorem dX12_would_24 : decode cX12_would 24 = .ok (.aload_n 0, 1) := by decide +kernel
theorem dX12_would_25 : decode cX12_would 25 = .ok (.invokevirtual 269, 3) := by decide +kernel
theorem dX12_would_28 : decode cX12_would 28 = .ok (.istore_n 2, 1) := by decide +kernel
theorem dX12_would_29 : decode cX12_would 29 = .ok (.iload_n 1, 1) := by decide +kernel
theorem dX12_would_30 : decode cX12_would 30 = .ok (.aload_n 0, 1) := by decide +kernel
theorem dX12_would_31 : decode cX12_would 31 = .ok (.invokevirtual 233, 3) := by decide +kernel
theorem dX12_would_34 : decode cX12_would 34 = .ok (.iconst (-1), 1) := by decide +kernel
theorem dX12_would_35 : decode cX12_would 35 = .ok (.ixor, 1) := by decide +kernel
theorem dX12_would_36 : decode cX12_would 36 = .ok (.iand, 1) := by decide +kernel
theorem dX12_would_37 : decode cX12_would 37 = .ok (.istore_n 3, 1) := by decide +kernel
theorem dX12_would_38 : decode cX12_would 38 = .ok (.aload_n 0, 1) := by decide +kernel
theorem dX12_would_39 : decode cX12_would 39 = .ok (.invokevirtual 97, 3) := by decide +kernel
theorem dX12_would_42 : decode cX12_would 42 = .ok (.istore 4, 2) := by decide +kernel
theorem dX12_would_44 : decode cX12_would 44 = .ok (.aload_n 0, 1) := by decide +kernel
theorem dX12_would_45 : decode cX12_would 45 = .ok (.invokevirtual 294, 3) := by decide +kernel
theorem dX12_would_48 : decode cX12_would 48 = .ok (.aload_n 0, 1) := by decide +kernel
theorem dX12_would_49 : decode cX12_would 49 = .ok (.iconst 0, 1) := by decide +kernel
theorem dX12_would_50 : decode cX12_would 50 = .ok (.putfield 11, 3) := by decide +kernel
theorem dX12_would_53 : decode cX12_would 53 = .ok (.aload_n 0, 1) := by decide +kernel
theorem dX12_would_54 : decode cX12_would 54 = .ok (.aload_n 0, 1) := by decide +kernel
theorem dX12_would_55 : decode cX12_would 55 = .ok (.getfield 230, 3) := by decide +kernel
theorem dX12_would_58 : decode cX12_would 58 = .ok (.i2l, 1) := by decide +kernel
theorem dX12_would_59 : decode cX12_would 59 = .ok (.invokevirtual 239, 3) := by decide +kernel
theorem dX12_would_62 : decode cX12_would 62 = .ok (.aload_n 0, 1) := by decide +kernel
theorem dX12_would_63 : decode cX12_would 63 = .ok (.aload_n 0, 1) := by decide +kernel
theorem dX12_would_64 : decode cX12_would 64 = .ok (.getfield 152, 3) := by decide +kernel
theorem dX12_would_67 : decode cX12_would 67 = .ok (.i2l, 1) := by decide +kernel
theorem dX12_would_68 : decode cX12_would 68 = .ok (.invokevirtual 239, 3) := by decide +kernel
theorem dX12_would_71 : decode cX12_would 71 = .ok (.aload_n 0, 1) := by decide +kernel
theorem dX12_would_72 : decode cX12_would 72 = .ok (.iload 4, 2) := by decide +kernel
theorem dX12_would_74 : decode cX12_would 74 = .ok (.i2l, 1) := by decide +kernel
theorem dX12_would_75 : decode cX12_would 75 = .ok (.invokevirtual 239, 3) := by decide +kernel
theorem dX12_would_78 : decode cX12_would 78 = .ok (.iload_n 3, 1) := by decide +kernel
theorem dX12_would_79 : decode cX12_would 79 = .ok (.ireturn, 1) := by decide +kernel
theorem dX12_settles_0 : decode cX12_settles 0 = .ok (.aload_n 0, 1) := by decide +kernel
theorem dX12_settles_1 : decode cX12_settles 1 = .ok (.iconst 0, 1) := by decide +kernel
theorem dX12_settles_2 : decode cX12_settles 2 = .ok (.putfield 1, 3) := by decide +kernel
theorem dX12_settles_5 : decode cX12_settles 5 = .ok (.aload_n 0, 1) := by decide +kernel
theorem dX12_settles_6 : decode cX12_settles 6 = .ok (.invokevirtual 291, 3) := by decide +kernel
theorem dX12_settles_9 : decode cX12_settles 9 = .ok (.iconst 0, 1) := by decide +kernel
theorem dX12_settles_10 : decode cX12_settles 10 = .ok (.istore_n 1, 1) := by decide +kernel
theorem dX12_settles_11 : decode cX12_settles 11 = .ok (.iload_n 1, 1) := by decide +kernel
theorem dX12_settles_12 : decode cX12_settles 12 = .ok (.bipush 30, 2) := by decide +kernel
theorem dX12_settles_14 : decode cX12_settles 14 = .ok (.if_icmp .ge 20, 3) := by decide +kernel
theorem dX12_settles_17 : decode cX12_settles 17 = .ok (.aload_n 0, 1) := by decide +kernel
theorem dX12_settles_18 : decode cX12_settles 18 = .ok (.invokevirtual 97, 3) := by decide +kernel
theorem dX12_settles_21 : decode cX12_settles 21 = .ok (.ifCond .le 13, 3) := by decide +kernel
theorem dX12_settles_24 : decode cX12_settles 24 = .ok (.aload_n 0, 1) := by decide +kernel
theorem dX12_settles_25 : decode cX12_settles 25 = .ok (.invokevirtual 190, 3) := by decide +kernel
theorem dX12_settles_28 : decode cX12_settles 28 = .ok (.iinc 1 1, 3) := by decide +kernel
theorem dX12_settles_31 : decode cX12_settles 31 = .ok (.goto (-20), 3) := by decide +kernel
theorem dX12_settles_34 : decode cX12_settles 34 = .ok (.aload_n 0, 1) := by decide +kernel
theorem dX12_settles_35 : decode cX12_settles 35 = .ok (.invokevirtual 97, 3) := by decide +kernel
theorem dX12_settles_38 : decode cX12_settles 38 = .ok (.ifCond .ne 7, 3) := by decide +kernel
theorem dX12_settles_41 : decode cX12_settles 41 = .ok (.iconst 1, 1) := by decide +kernel
theorem dX12_settles_42 : decode cX12_settles 42 = .ok (.goto 4, 3) := by decide +kernel
theorem dX12_settles_45 : decode cX12_settles 45 = .ok (.iconst 0, 1) := by decide +kernel
theorem dX12_settles_46 : decode cX12_settles 46 = .ok (.istore_n 2, 1) := by decide +kernel
theorem dX12_settles_47 : decode cX12_settles 47 = .ok (.aload_n 0, 1) := by decide +kernel
theorem dX12_settles_48 : decode cX12_settles 48 = .ok (.invokevirtual 233, 3) := by decide +kernel
theorem dX12_settles_51 : decode cX12_settles 51 = .ok (.istore_n 3, 1) := by decide +kernel
theorem dX12_settles_52 : decode cX12_settles 52 = .ok (.iload_n 3, 1) := by decide +kernel
theorem dX12_settles_53 : decode cX12_settles 53 = .ok (.aload_n 0, 1) := by decide +kernel
theorem dX12_settles_54 : decode cX12_settles 54 = .ok (.invokevirtual 202, 3) := by decide +kernel
theorem dX12_settles_57 : decode cX12_settles 57 = .ok (.iconst (-1), 1) := by decide +kernel
theorem dX12_settles_58 : decode cX12_settles 58 = .ok (.ixor, 1) := by decide +kernel
theorem dX12_settles_59 : decode cX12_settles 59 = .ok (.iand, 1) := by decide +kernel
theorem dX12_settles_60 : decode cX12_settles 60 = .ok (.istore 4, 2) := by decide +kernel
theorem dX12_settles_62 : decode cX12_settles 62 = .ok (.aload_n 0, 1) := by decide +kernel
theorem dX12_settles_63 : decode cX12_settles 63 = .ok (.invokevirtual 294, 3) := by decide +kernel
theorem dX12_settles_66 : decode cX12_settles 66 = .ok (.iload_n 2, 1) := by decide +kernel
theorem dX12_settles_67 : decode cX12_settles 67 = .ok (.ifCond .ne 6, 3) := by decide +kernel
theorem dX12_settles_70 : decode cX12_settles 70 = .ok (.bipush (-2), 2) := by decide +kernel
theorem dX12_settles_72 : decode cX12_settles 72 = .ok (.ireturn, 1) := by decide +kernel
theorem dX12_settles_73 : decode cX12_settles 73 = .ok (.aload_n 0, 1) := by decide +kernel
theorem dX12_settles_74 : decode cX12_settles 74 = .ok (.iconst 0, 1) := by decide +kernel
theorem dX12_settles_75 : decode cX12_settles 75 = .ok (.putfield 11, 3) := by decide +kernel
theorem dX12_settles_78 : decode cX12_settles 78 = .ok (.aload_n 0, 1) := by decide +kernel
theorem dX12_settles_79 : decode cX12_settles 79 = .ok (.iload_n 3, 1) := by decide +kernel
theorem dX12_settles_80 : decode cX12_settles 80 = .ok (.invokestatic 236, 3) := by decide +kernel
theorem dX12_settles_83 : decode cX12_settles 83 = .ok (.i2l, 1) := by decide +kernel
theorem dX12_settles_84 : decode cX12_settles 84 = .ok (.invokevirtual 239, 3) := by decide +kernel
theorem dX12_settles_87 : decode cX12_settles 87 = .ok (.aload_n 0, 1) := by decide +kernel
theorem dX12_settles_88 : decode cX12_settles 88 = .ok (.iload 4, 2) := by decide +kernel
theorem dX12_settles_90 : decode cX12_settles 90 = .ok (.invokestatic 236, 3) := by decide +kernel
theorem dX12_settles_93 : decode cX12_settles 93 = .ok (.i2l, 1) := by decide +kernel
theorem dX12_settles_94 : decode cX12_settles 94 = .ok (.invokevirtual 239, 3) := by decide +kernel
theorem dX12_settles_97 : decode cX12_settles 97 = .ok (.iload_n 1, 1) := by decide +kernel
theorem dX12_settles_98 : decode cX12_settles 98 = .ok (.ireturn, 1) := by decide +kernel
theorem dX12_worth_0 : decode cX12_worth 0 = .ok (.iload_n 2, 1) := by decide +kernel
theorem dX12_worth_1 : decode cX12_worth 1 = .ok (.ifCond .ne 12, 3) := by decide +kernel
theorem dX12_worth_4 : decode cX12_worth 4 = .ok (.aload_n 0, 1) := by decide +kernel
theorem dX12_worth_5 : decode cX12_worth 5 = .ok (.iload_n 1, 1) := by decide +kernel
theorem dX12_worth_6 : decode cX12_worth 6 = .ok (.iconst 5, 1) := by decide +kernel
theorem dX12_worth_7 : decode cX12_worth 7 = .ok (.invokevirtual 91, 3) := by decide +kernel
theorem dX12_worth_10 : decode cX12_worth 10 = .ok (.goto 26, 3) := by decide +kernel
theorem dX12_worth_13 : decode cX12_worth 13 = .ok (.iload_n 2, 1) := by decide +kernel
theorem dX12_worth_14 : decode cX12_worth 14 = .ok (.iconst 1, 1) := by decide +kernel
theorem dX12_worth_15 : decode cX12_worth 15 = .ok (.if_icmp .ne 12, 3) := by decide +kernel
theorem dX12_worth_18 : decode cX12_worth 18 = .ok (.aload_n 0, 1) := by decide +kernel
theorem dX12_worth_19 : decode cX12_worth 19 = .ok (.iload_n 1, 1) := by decide +kernel
theorem dX12_worth_20 : decode cX12_worth 20 = .ok (.iconst 2, 1) := by decide +kernel
theorem dX12_worth_21 : decode cX12_worth 21 = .ok (.invokevirtual 91, 3) := by decide +kernel
theorem dX12_worth_24 : decode cX12_worth 24 = .ok (.goto 12, 3) := by decide +kernel
theorem dX12_worth_27 : decode cX12_worth 27 = .ok (.aload_n 0, 1) := by decide +kernel
theorem dX12_worth_28 : decode cX12_worth 28 = .ok (.aload_n 0, 1) := by decide +kernel
theorem dX12_worth_29 : decode cX12_worth 29 = .ok (.iload_n 1, 1) := by decide +kernel
theorem dX12_worth_30 : decode cX12_worth 30 = .ok (.invokevirtual 288, 3) := by decide +kernel
theorem dX12_worth_33 : decode cX12_worth 33 = .ok (.invokevirtual 279, 3) := by decide +kernel
theorem dX12_worth_36 : decode cX12_worth 36 = .ok (.ireturn, 1) := by decide +kernel
theorem dX12_ranks_0 : decode cX12_ranks 0 = .ok (.aload_n 0, 1) := by decide +kernel
theorem dX12_ranks_1 : decode cX12_ranks 1 = .ok (.iconst 0, 1) := by decide +kernel
theorem dX12_ranks_2 : decode cX12_ranks 2 = .ok (.putfield 1, 3) := by decide +kernel
theorem dX12_ranks_5 : decode cX12_ranks 5 = .ok (.iload_n 1, 1) := by decide +kernel
theorem dX12_ranks_6 : decode cX12_ranks 6 = .ok (.i2l, 1) := by decide +kernel
theorem dX12_ranks_7 : decode cX12_ranks 7 = .ok (.lconst 0, 1) := by decide +kernel
theorem dX12_ranks_8 : decode cX12_ranks 8 = .ok (.ldc2_w 297, 3) := by decide +kernel
theorem dX12_ranks_11 : decode cX12_ranks 11 = .ok (.invokestatic 21, 3) := by decide +kernel
theorem dX12_ranks_14 : decode cX12_ranks 14 = .ok (.ifCond .ne 5, 3) := by decide +kernel
theorem dX12_ranks_17 : decode cX12_ranks 17 = .ok (.iconst (-1), 1) := by decide +kernel
theorem dX12_ranks_18 : decode cX12_ranks 18 = .ok (.ireturn, 1) := by decide +kernel
theorem dX12_ranks_19 : decode cX12_ranks 19 = .ok (.aload_n 0, 1) := by decide +kernel
theorem dX12_ranks_20 : decode cX12_ranks 20 = .ok (.iconst 0, 1) := by decide +kernel
theorem dX12_ranks_21 : decode cX12_ranks 21 = .ok (.putfield 11, 3) := by decide +kernel
theorem dX12_ranks_24 : decode cX12_ranks 24 = .ok (.aload_n 0, 1) := by decide +kernel
theorem dX12_ranks_25 : decode cX12_ranks 25 = .ok (.invokevirtual 233, 3) := by decide +kernel
theorem dX12_ranks_28 : decode cX12_ranks 28 = .ok (.istore_n 2, 1) := by decide +kernel
theorem dX12_ranks_29 : decode cX12_ranks 29 = .ok (.iload_n 2, 1) := by decide +kernel
theorem dX12_ranks_30 : decode cX12_ranks 30 = .ok (.ifCond .eq 70, 3) := by decide +kernel
theorem dX12_ranks_33 : decode cX12_ranks 33 = .ok (.iconst (-1), 1) := by decide +kernel
theorem dX12_ranks_34 : decode cX12_ranks 34 = .ok (.istore_n 3, 1) := by decide +kernel
theorem dX12_ranks_35 : decode cX12_ranks 35 = .ok (.iconst 0, 1) := by decide +kernel
theorem dX12_ranks_36 : decode cX12_ranks 36 = .ok (.istore 4, 2) := by decide +kernel
theorem dX12_ranks_38 : decode cX12_ranks 38 = .ok (.iload 4, 2) := by decide +kernel
theorem dX12_ranks_40 : decode cX12_ranks 40 = .ok (.bipush 24, 2) := by decide +kernel
theorem dX12_ranks_42 : decode cX12_ranks 42 = .ok (.if_icmp .ge 41, 3) := by decide +kernel
theorem dX12_ranks_45 : decode cX12_ranks 45 = .ok (.iload_n 2, 1) := by decide +kernel
theorem dX12_ranks_46 : decode cX12_ranks 46 = .ok (.iload 4, 2) := by decide +kernel
theorem dX12_ranks_48 : decode cX12_ranks 48 = .ok (.invokestatic 171, 3) := by decide +kernel
theorem dX12_ranks_51 : decode cX12_ranks 51 = .ok (.ifCond .eq 26, 3) := by decide +kernel
theorem dX12_ranks_54 : decode cX12_ranks 54 = .ok (.iload_n 3, 1) := by decide +kernel
theorem dX12_ranks_55 : decode cX12_ranks 55 = .ok (.ifCond .lt 19, 3) := by decide +kernel
theorem dX12_ranks_58 : decode cX12_ranks 58 = .ok (.aload_n 0, 1) := by decide +kernel
theorem dX12_ranks_59 : decode cX12_ranks 59 = .ok (.iload 4, 2) := by decide +kernel
theorem dX12_ranks_61 : decode cX12_ranks 61 = .ok (.iload_n 1, 1) := by decide +kernel
theorem dX12_ranks_62 : decode cX12_ranks 62 = .ok (.invokevirtual 299, 3) := by decide +kernel
theorem dX12_ranks_65 : decode cX12_ranks 65 = .ok (.aload_n 0, 1) := by decide +kernel
theorem dX12_ranks_66 : decode cX12_ranks 66 = .ok (.iload_n 3, 1) := by decide +kernel
theorem dX12_ranks_67 : decode cX12_ranks 67 = .ok (.iload_n 1, 1) := by decide +kernel
theorem dX12_ranks_68 : decode cX12_ranks 68 = .ok (.invokevirtual 299, 3) := by decide +kernel
theorem dX12_ranks_71 : decode cX12_ranks 71 = .ok (.if_icmp .le 6, 3) := by decide +kernel
theorem dX12_ranks_74 : decode cX12_ranks 74 = .ok (.iload 4, 2) := by decide +kernel
theorem dX12_ranks_76 : decode cX12_ranks 76 = .ok (.istore_n 3, 1) := by decide +kernel
theorem dX12_ranks_77 : decode cX12_ranks 77 = .ok (.iinc 4 1, 3) := by decide +kernel
theorem dX12_ranks_80 : decode cX12_ranks 80 = .ok (.goto (-42), 3) := by decide +kernel
theorem dX12_ranks_83 : decode cX12_ranks 83 = .ok (.aload_n 0, 1) := by decide +kernel
theorem dX12_ranks_84 : decode cX12_ranks 84 = .ok (.iload_n 3, 1) := by decide +kernel
theorem dX12_ranks_85 : decode cX12_ranks 85 = .ok (.i2l, 1) := by decide +kernel
theorem dX12_ranks_86 : decode cX12_ranks 86 = .ok (.invokevirtual 239, 3) := by decide +kernel
theorem dX12_ranks_89 : decode cX12_ranks 89 = .ok (.iload_n 2, 1) := by decide +kernel
theorem dX12_ranks_90 : decode cX12_ranks 90 = .ok (.iconst 1, 1) := by decide +kernel
theorem dX12_ranks_91 : decode cX12_ranks 91 = .ok (.iload_n 3, 1) := by decide +kernel
theorem dX12_ranks_92 : decode cX12_ranks 92 = .ok (.ishl, 1) := by decide +kernel
theorem dX12_ranks_93 : decode cX12_ranks 93 = .ok (.iconst (-1), 1) := by decide +kernel
theorem dX12_ranks_94 : decode cX12_ranks 94 = .ok (.ixor, 1) := by decide +kernel
theorem dX12_ranks_95 : decode cX12_ranks 95 = .ok (.iand, 1) := by decide +kernel
theorem dX12_ranks_96 : decode cX12_ranks 96 = .ok (.istore_n 2, 1) := by decide +kernel
theorem dX12_ranks_97 : decode cX12_ranks 97 = .ok (.goto (-68), 3) := by decide +kernel
theorem dX12_ranks_100 : decode cX12_ranks 100 = .ok (.aload_n 0, 1) := by decide +kernel
theorem dX12_ranks_101 : decode cX12_ranks 101 = .ok (.getfield 11, 3) := by decide +kernel
theorem dX12_ranks_104 : decode cX12_ranks 104 = .ok (.ireturn, 1) := by decide +kernel
theorem dX12_log_0 : decode cX12_log 0 = .ok (.aload_n 0, 1) := by decide +kernel
theorem dX12_log_1 : decode cX12_log 1 = .ok (.getfield 53, 3) := by decide +kernel
theorem dX12_log_4 : decode cX12_log 4 = .ok (.iconst 2, 1) := by decide +kernel
theorem dX12_log_5 : decode cX12_log 5 = .ok (.iaload, 1) := by decide +kernel
theorem dX12_log_6 : decode cX12_log 6 = .ok (.istore_n 3, 1) := by decide +kernel
theorem dX12_log_7 : decode cX12_log 7 = .ok (.aload_n 0, 1) := by decide +kernel
theorem dX12_log_8 : decode cX12_log 8 = .ok (.iload_n 1, 1) := by decide +kernel
theorem dX12_log_9 : decode cX12_log 9 = .ok (.i2l, 1) := by decide +kernel
theorem dX12_log_10 : decode cX12_log 10 = .ok (.iload_n 3, 1) := by decide +kernel
theorem dX12_log_11 : decode cX12_log 11 = .ok (.bipush 60, 2) := by decide +kernel
theorem dX12_log_13 : decode cX12_log 13 = .ok (.if_icmp .le 11, 3) := by decide +kernel
theorem dX12_log_16 : decode cX12_log 16 = .ok (.iload_n 3, 1) := by decide +kernel
theorem dX12_log_17 : decode cX12_log 17 = .ok (.bipush 60, 2) := by decide +kernel
theorem dX12_log_19 : decode cX12_log 19 = .ok (.isub, 1) := by decide +kernel
theorem dX12_log_20 : decode cX12_log 20 = .ok (.i2l, 1) := by decide +kernel
theorem dX12_log_21 : decode cX12_log 21 = .ok (.goto 4, 3) := by decide +kernel
theorem dX12_log_24 : decode cX12_log 24 = .ok (.lconst 0, 1) := by decide +kernel
theorem dX12_log_25 : decode cX12_log 25 = .ok (.iload_n 3, 1) := by decide +kernel
theorem dX12_log_26 : decode cX12_log 26 = .ok (.iconst 1, 1) := by decide +kernel
theorem dX12_log_27 : decode cX12_log 27 = .ok (.isub, 1) := by decide +kernel
theorem dX12_log_28 : decode cX12_log 28 = .ok (.i2l, 1) := by decide +kernel
theorem dX12_log_29 : decode cX12_log 29 = .ok (.invokestatic 21, 3) := by decide +kernel
theorem dX12_log_32 : decode cX12_log 32 = .ok (.ifCond .eq 13, 3) := by decide +kernel
theorem dX12_log_35 : decode cX12_log 35 = .ok (.iload_n 2, 1) := by decide +kernel
theorem dX12_log_36 : decode cX12_log 36 = .ok (.i2l, 1) := by decide +kernel
theorem dX12_log_37 : decode cX12_log 37 = .ok (.lconst 0, 1) := by decide +kernel
theorem dX12_log_38 : decode cX12_log 38 = .ok (.lconst 1, 1) := by decide +kernel
theorem dX12_log_39 : decode cX12_log 39 = .ok (.invokestatic 21, 3) := by decide +kernel
theorem dX12_log_42 : decode cX12_log 42 = .ok (.ifCond .ne 7, 3) := by decide +kernel
theorem dX12_log_45 : decode cX12_log 45 = .ok (.iconst 1, 1) := by decide +kernel
theorem dX12_log_46 : decode cX12_log 46 = .ok (.goto 4, 3) := by decide +kernel
theorem dX12_log_49 : decode cX12_log 49 = .ok (.iconst 0, 1) := by decide +kernel
theorem dX12_log_50 : decode cX12_log 50 = .ok (.invokestatic 167, 3) := by decide +kernel
theorem dX12_log_53 : decode cX12_log 53 = .ok (.putfield 1, 3) := by decide +kernel
theorem dX12_log_56 : decode cX12_log 56 = .ok (.aload_n 0, 1) := by decide +kernel
theorem dX12_log_57 : decode cX12_log 57 = .ok (.getfield 1, 3) := by decide +kernel
theorem dX12_log_60 : decode cX12_log 60 = .ok (.iconst 1, 1) := by decide +kernel
theorem dX12_log_61 : decode cX12_log 61 = .ok (.if_icmp .ne 7, 3) := by decide +kernel
theorem dX12_log_64 : decode cX12_log 64 = .ok (.iconst 0, 1) := by decide +kernel
theorem dX12_log_65 : decode cX12_log 65 = .ok (.goto 19, 3) := by decide +kernel
theorem dX12_log_68 : decode cX12_log 68 = .ok (.aload_n 0, 1) := by decide +kernel
theorem dX12_log_69 : decode cX12_log 69 = .ok (.getfield 53, 3) := by decide +kernel
theorem dX12_log_72 : decode cX12_log 72 = .ok (.bipush 43, 2) := by decide +kernel
theorem dX12_log_74 : decode cX12_log 74 = .ok (.iconst 2, 1) := by decide +kernel
theorem dX12_log_75 : decode cX12_log 75 = .ok (.iload_n 1, 1) := by decide +kernel
theorem dX12_log_76 : decode cX12_log 76 = .ok (.bipush 60, 2) := by decide +kernel
theorem dX12_log_78 : decode cX12_log 78 = .ok (.irem, 1) := by decide +kernel
theorem dX12_log_79 : decode cX12_log 79 = .ok (.imul, 1) := by decide +kernel
theorem dX12_log_80 : decode cX12_log 80 = .ok (.iadd, 1) := by decide +kernel
theorem dX12_log_81 : decode cX12_log 81 = .ok (.iload_n 2, 1) := by decide +kernel
theorem dX12_log_82 : decode cX12_log 82 = .ok (.iadd, 1) := by decide +kernel
theorem dX12_log_83 : decode cX12_log 83 = .ok (.iaload, 1) := by decide +kernel
theorem dX12_log_84 : decode cX12_log 84 = .ok (.ireturn, 1) := by decide +kernel
theorem dX12_logged_0 : decode cX12_logged 0 = .ok (.aload_n 0, 1) := by decide +kernel
theorem dX12_logged_1 : decode cX12_logged 1 = .ok (.iconst 0, 1) := by decide +kernel
theorem dX12_logged_2 : decode cX12_logged 2 = .ok (.putfield 1, 3) := by decide +kernel
theorem dX12_logged_5 : decode cX12_logged 5 = .ok (.iload_n 1, 1) := by decide +kernel
theorem dX12_logged_6 : decode cX12_logged 6 = .ok (.i2l, 1) := by decide +kernel
theorem dX12_logged_7 : decode cX12_logged 7 = .ok (.lconst 0, 1) := by decide +kernel
theorem dX12_logged_8 : decode cX12_logged 8 = .ok (.ldc2_w 211, 3) := by decide +kernel
theorem dX12_logged_11 : decode cX12_logged 11 = .ok (.invokestatic 21, 3) := by decide +kernel
theorem dX12_logged_14 : decode cX12_logged 14 = .ok (.ifCond .ne 5, 3) := by decide +kernel
theorem dX12_logged_17 : decode cX12_logged 17 = .ok (.iconst (-1), 1) := by decide +kernel
theorem dX12_logged_18 : decode cX12_logged 18 = .ok (.ireturn, 1) := by decide +kernel
theorem dX12_logged_19 : decode cX12_logged 19 = .ok (.aload_n 0, 1) := by decide +kernel
theorem dX12_logged_20 : decode cX12_logged 20 = .ok (.iconst 0, 1) := by decide +kernel
theorem dX12_logged_21 : decode cX12_logged 21 = .ok (.putfield 11, 3) := by decide +kernel
theorem dX12_logged_24 : decode cX12_logged 24 = .ok (.aload_n 0, 1) := by decide +kernel
theorem dX12_logged_25 : decode cX12_logged 25 = .ok (.aload_n 0, 1) := by decide +kernel
theorem dX12_logged_26 : decode cX12_logged 26 = .ok (.getfield 53, 3) := by decide +kernel
theorem dX12_logged_29 : decode cX12_logged 29 = .ok (.iconst 2, 1) := by decide +kernel
theorem dX12_logged_30 : decode cX12_logged 30 = .ok (.iaload, 1) := by decide +kernel
theorem dX12_logged_31 : decode cX12_logged 31 = .ok (.i2l, 1) := by decide +kernel
theorem dX12_logged_32 : decode cX12_logged 32 = .ok (.invokevirtual 239, 3) := by decide +kernel
theorem dX12_logged_35 : decode cX12_logged 35 = .ok (.aload_n 0, 1) := by decide +kernel
theorem dX12_logged_36 : decode cX12_logged 36 = .ok (.getfield 53, 3) := by decide +kernel
theorem dX12_logged_39 : decode cX12_logged 39 = .ok (.iconst 3, 1) := by decide +kernel
theorem dX12_logged_40 : decode cX12_logged 40 = .ok (.iload_n 1, 1) := by decide +kernel
theorem dX12_logged_41 : decode cX12_logged 41 = .ok (.iadd, 1) := by decide +kernel
theorem dX12_logged_42 : decode cX12_logged 42 = .ok (.iaload, 1) := by decide +kernel
theorem dX12_logged_43 : decode cX12_logged 43 = .ok (.ireturn, 1) := by decide +kernel
theorem dX12_orNone_0 : decode cX12_orNone 0 = .ok (.iload_n 1, 1) := by decide +kernel
theorem dX12_orNone_1 : decode cX12_orNone 1 = .ok (.bipush 99, 2) := by decide +kernel
theorem dX12_orNone_3 : decode cX12_orNone 3 = .ok (.if_icmp .ne 7, 3) := by decide +kernel
theorem dX12_orNone_6 : decode cX12_orNone 6 = .ok (.iconst (-1), 1) := by decide +kernel
theorem dX12_orNone_7 : decode cX12_orNone 7 = .ok (.goto 4, 3) := by decide +kernel
theorem dX12_orNone_10 : decode cX12_orNone 10 = .ok (.iload_n 1, 1) := by decide +kernel
theorem dX12_orNone_11 : decode cX12_orNone 11 = .ok (.ireturn, 1) := by decide +kernel
theorem dX12_readsAct_0 : decode cX12_readsAct 0 = .ok (.aload_n 0, 1) := by decide +kernel
theorem dX12_readsAct_1 : decode cX12_readsAct 1 = .ok (.getfield 65, 3) := by decide +kernel
theorem dX12_readsAct_4 : decode cX12_readsAct 4 = .ok (.iload_n 1, 1) := by decide +kernel
theorem dX12_readsAct_5 : decode cX12_readsAct 5 = .ok (.aload_n 0, 1) := by decide +kernel
theorem dX12_readsAct_6 : decode cX12_readsAct 6 = .ok (.ldc_w 302, 3) := by decide +kernel
theorem dX12_readsAct_9 : decode cX12_readsAct 9 = .ok (.invokevirtual 43, 3) := by decide +kernel
theorem dX12_readsAct_12 : decode cX12_readsAct 12 = .ok (.iastore, 1) := by decide +kernel
theorem dX12_readsAct_13 : decode cX12_readsAct 13 = .ok (.aload_n 0, 1) := by decide +kernel
theorem dX12_readsAct_14 : decode cX12_readsAct 14 = .ok (.getfield 68, 3) := by decide +kernel
theorem dX12_readsAct_17 : decode cX12_readsAct 17 = .ok (.iload_n 1, 1) := by decide +kernel
theorem dX12_readsAct_18 : decode cX12_readsAct 18 = .ok (.aload_n 0, 1) := by decide +kernel
theorem dX12_readsAct_19 : decode cX12_readsAct 19 = .ok (.getfield 65, 3) := by decide +kernel
theorem dX12_readsAct_22 : decode cX12_readsAct 22 = .ok (.iload_n 1, 1) := by decide +kernel
theorem dX12_readsAct_23 : decode cX12_readsAct 23 = .ok (.iaload, 1) := by decide +kernel
theorem dX12_readsAct_24 : decode cX12_readsAct 24 = .ok (.ifCond .ge 7, 3) := by decide +kernel
theorem dX12_readsAct_27 : decode cX12_readsAct 27 = .ok (.iconst (-1), 1) := by decide +kernel
theorem dX12_readsAct_28 : decode cX12_readsAct 28 = .ok (.goto 57, 3) := by decide +kernel
theorem dX12_readsAct_31 : decode cX12_readsAct 31 = .ok (.aload_n 0, 1) := by decide +kernel
theorem dX12_readsAct_32 : decode cX12_readsAct 32 = .ok (.getfield 65, 3) := by decide +kernel
theorem dX12_readsAct_35 : decode cX12_readsAct 35 = .ok (.iload_n 1, 1) := by decide +kernel
theorem dX12_readsAct_36 : decode cX12_readsAct 36 = .ok (.iaload, 1) := by decide +kernel
theorem dX12_readsAct_37 : decode cX12_readsAct 37 = .ok (.ifCond .ne 11, 3) := by decide +kernel
theorem dX12_readsAct_40 : decode cX12_readsAct 40 = .ok (.aload_n 0, 1) := by decide +kernel
theorem dX12_readsAct_41 : decode cX12_readsAct 41 = .ok (.iconst 4, 1) := by decide +kernel
theorem dX12_readsAct_42 : decode cX12_readsAct 42 = .ok (.invokevirtual 304, 3) := by decide +kernel
theorem dX12_readsAct_45 : decode cX12_readsAct 45 = .ok (.goto 40, 3) := by decide +kernel
theorem dX12_readsAct_48 : decode cX12_readsAct 48 = .ok (.aload_n 0, 1) := by decide +kernel
theorem dX12_readsAct_49 : decode cX12_readsAct 49 = .ok (.getfield 65, 3) := by decide +kernel
theorem dX12_readsAct_52 : decode cX12_readsAct 52 = .ok (.iload_n 1, 1) := by decide +kernel
theorem dX12_readsAct_53 : decode cX12_readsAct 53 = .ok (.iaload, 1) := by decide +kernel
theorem dX12_readsAct_54 : decode cX12_readsAct 54 = .ok (.iconst 1, 1) := by decide +kernel
theorem dX12_readsAct_55 : decode cX12_readsAct 55 = .ok (.if_icmp .ne 11, 3) := by decide +kernel
theorem dX12_readsAct_58 : decode cX12_readsAct 58 = .ok (.aload_n 0, 1) := by decide +kernel
theorem dX12_readsAct_59 : decode cX12_readsAct 59 = .ok (.iconst 2, 1) := by decide +kernel
theorem dX12_readsAct_60 : decode cX12_readsAct 60 = .ok (.invokevirtual 304, 3) := by decide +kernel
theorem dX12_readsAct_63 : decode cX12_readsAct 63 = .ok (.goto 22, 3) := by decide +kernel
theorem dX12_readsAct_66 : decode cX12_readsAct 66 = .ok (.aload_n 0, 1) := by decide +kernel
theorem dX12_readsAct_67 : decode cX12_readsAct 67 = .ok (.getfield 65, 3) := by decide +kernel
theorem dX12_readsAct_70 : decode cX12_readsAct 70 = .ok (.iload_n 1, 1) := by decide +kernel
theorem dX12_readsAct_71 : decode cX12_readsAct 71 = .ok (.iaload, 1) := by decide +kernel
theorem dX12_readsAct_72 : decode cX12_readsAct 72 = .ok (.iconst 5, 1) := by decide +kernel
theorem dX12_readsAct_73 : decode cX12_readsAct 73 = .ok (.if_icmp .ne 7, 3) := by decide +kernel
theorem dX12_readsAct_76 : decode cX12_readsAct 76 = .ok (.iconst 0, 1) := by decide +kernel
theorem dX12_readsAct_77 : decode cX12_readsAct 77 = .ok (.goto 8, 3) := by decide +kernel
theorem dX12_readsAct_80 : decode cX12_readsAct 80 = .ok (.aload_n 0, 1) := by decide +kernel
theorem dX12_readsAct_81 : decode cX12_readsAct 81 = .ok (.iconst 1, 1) := by decide +kernel
theorem dX12_readsAct_82 : decode cX12_readsAct 82 = .ok (.invokevirtual 304, 3) := by decide +kernel
theorem dX12_readsAct_85 : decode cX12_readsAct 85 = .ok (.iastore, 1) := by decide +kernel
theorem dX12_readsAct_86 : decode cX12_readsAct 86 = .ok (.aload_n 0, 1) := by decide +kernel
theorem dX12_readsAct_87 : decode cX12_readsAct 87 = .ok (.getfield 71, 3) := by decide +kernel
theorem dX12_readsAct_90 : decode cX12_readsAct 90 = .ok (.iload_n 1, 1) := by decide +kernel
theorem dX12_readsAct_91 : decode cX12_readsAct 91 = .ok (.aload_n 0, 1) := by decide +kernel
theorem dX12_readsAct_92 : decode cX12_readsAct 92 = .ok (.getfield 68, 3) := by decide +kernel
theorem dX12_readsAct_95 : decode cX12_readsAct 95 = .ok (.iload_n 1, 1) := by decide +kernel
theorem dX12_readsAct_96 : decode cX12_readsAct 96 = .ok (.iaload, 1) := by decide +kernel
theorem dX12_readsAct_97 : decode cX12_readsAct 97 = .ok (.ifCond .ge 7, 3) := by decide +kernel
theorem dX12_readsAct_100 : decode cX12_readsAct 100 = .ok (.iconst (-1), 1) := by decide +kernel
theorem dX12_readsAct_101 : decode cX12_readsAct 101 = .ok (.goto 60, 3) := by decide +kernel
theorem dX12_readsAct_104 : decode cX12_readsAct 104 = .ok (.aload_n 0, 1) := by decide +kernel
theorem dX12_readsAct_105 : decode cX12_readsAct 105 = .ok (.getfield 65, 3) := by decide +kernel
theorem dX12_readsAct_108 : decode cX12_readsAct 108 = .ok (.iload_n 1, 1) := by decide +kernel
theorem dX12_readsAct_109 : decode cX12_readsAct 109 = .ok (.iaload, 1) := by decide +kernel
theorem dX12_readsAct_110 : decode cX12_readsAct 110 = .ok (.iconst 1, 1) := by decide +kernel
theorem dX12_readsAct_111 : decode cX12_readsAct 111 = .ok (.if_icmp .eq 13, 3) := by decide +kernel
theorem dX12_readsAct_114 : decode cX12_readsAct 114 = .ok (.aload_n 0, 1) := by decide +kernel
theorem dX12_readsAct_115 : decode cX12_readsAct 115 = .ok (.getfield 65, 3) := by decide +kernel
theorem dX12_readsAct_118 : decode cX12_readsAct 118 = .ok (.iload_n 1, 1) := by decide +kernel
theorem dX12_readsAct_119 : decode cX12_readsAct 119 = .ok (.iaload, 1) := by decide +kernel
theorem dX12_readsAct_120 : decode cX12_readsAct 120 = .ok (.iconst 4, 1) := by decide +kernel
theorem dX12_readsAct_121 : decode cX12_readsAct 121 = .ok (.if_icmp .ne 11, 3) := by decide +kernel
theorem dX12_readsAct_124 : decode cX12_readsAct 124 = .ok (.aload_n 0, 1) := by decide +kernel
theorem dX12_readsAct_125 : decode cX12_readsAct 125 = .ok (.iconst 1, 1) := by decide +kernel
theorem dX12_readsAct_126 : decode cX12_readsAct 126 = .ok (.invokevirtual 304, 3) := by decide +kernel
theorem dX12_readsAct_129 : decode cX12_readsAct 129 = .ok (.goto 32, 3) := by decide +kernel
theorem dX12_readsAct_132 : decode cX12_readsAct 132 = .ok (.aload_n 0, 1) := by decide +kernel
theorem dX12_readsAct_133 : decode cX12_readsAct 133 = .ok (.getfield 65, 3) := by decide +kernel
theorem dX12_readsAct_136 : decode cX12_readsAct 136 = .ok (.iload_n 1, 1) := by decide +kernel
theorem dX12_readsAct_137 : decode cX12_readsAct 137 = .ok (.iaload, 1) := by decide +kernel
theorem dX12_readsAct_138 : decode cX12_readsAct 138 = .ok (.iconst 2, 1) := by decide +kernel
theorem dX12_readsAct_139 : decode cX12_readsAct 139 = .ok (.if_icmp .eq 13, 3) := by decide +kernel
theorem dX12_readsAct_142 : decode cX12_readsAct 142 = .ok (.aload_n 0, 1) := by decide +kernel
theorem dX12_readsAct_143 : decode cX12_readsAct 143 = .ok (.getfield 65, 3) := by decide +kernel
theorem dX12_readsAct_146 : decode cX12_readsAct 146 = .ok (.iload_n 1, 1) := by decide +kernel
theorem dX12_readsAct_147 : decode cX12_readsAct 147 = .ok (.iaload, 1) := by decide +kernel
theorem dX12_readsAct_148 : decode cX12_readsAct 148 = .ok (.iconst 3, 1) := by decide +kernel
theorem dX12_readsAct_149 : decode cX12_readsAct 149 = .ok (.if_icmp .ne 11, 3) := by decide +kernel
theorem dX12_readsAct_152 : decode cX12_readsAct 152 = .ok (.aload_n 0, 1) := by decide +kernel
theorem dX12_readsAct_153 : decode cX12_readsAct 153 = .ok (.iconst 2, 1) := by decide +kernel
theorem dX12_readsAct_154 : decode cX12_readsAct 154 = .ok (.invokevirtual 304, 3) := by decide +kernel
theorem dX12_readsAct_157 : decode cX12_readsAct 157 = .ok (.goto 4, 3) := by decide +kernel
theorem dX12_readsAct_160 : decode cX12_readsAct 160 = .ok (.iconst 0, 1) := by decide +kernel
theorem dX12_readsAct_161 : decode cX12_readsAct 161 = .ok (.iastore, 1) := by decide +kernel
theorem dX12_readsAct_162 : decode cX12_readsAct 162 = .ok (.aload_n 0, 1) := by decide +kernel
theorem dX12_readsAct_163 : decode cX12_readsAct 163 = .ok (.getfield 74, 3) := by decide +kernel
theorem dX12_readsAct_166 : decode cX12_readsAct 166 = .ok (.iload_n 1, 1) := by decide +kernel
theorem dX12_readsAct_167 : decode cX12_readsAct 167 = .ok (.aload_n 0, 1) := by decide +kernel
theorem dX12_readsAct_168 : decode cX12_readsAct 168 = .ok (.getfield 71, 3) := by decide +kernel
theorem dX12_readsAct_171 : decode cX12_readsAct 171 = .ok (.iload_n 1, 1) := by decide +kernel
theorem dX12_readsAct_172 : decode cX12_readsAct 172 = .ok (.iaload, 1) := by decide +kernel
theorem dX12_readsAct_173 : decode cX12_readsAct 173 = .ok (.ifCond .ge 7, 3) := by decide +kernel
theorem dX12_readsAct_176 : decode cX12_readsAct 176 = .ok (.iconst (-1), 1) := by decide +kernel
theorem dX12_readsAct_177 : decode cX12_readsAct 177 = .ok (.goto 22, 3) := by decide +kernel
theorem dX12_readsAct_180 : decode cX12_readsAct 180 = .ok (.aload_n 0, 1) := by decide +kernel
theorem dX12_readsAct_181 : decode cX12_readsAct 181 = .ok (.getfield 65, 3) := by decide +kernel
theorem dX12_readsAct_184 : decode cX12_readsAct 184 = .ok (.iload_n 1, 1) := by decide +kernel
theorem dX12_readsAct_185 : decode cX12_readsAct 185 = .ok (.iaload, 1) := by decide +kernel
theorem dX12_readsAct_186 : decode cX12_readsAct 186 = .ok (.iconst 1, 1) := by decide +kernel
theorem dX12_readsAct_187 : decode cX12_readsAct 187 = .ok (.if_icmp .ne 11, 3) := by decide +kernel
theorem dX12_readsAct_190 : decode cX12_readsAct 190 = .ok (.aload_n 0, 1) := by decide +kernel
theorem dX12_readsAct_191 : decode cX12_readsAct 191 = .ok (.iconst 2, 1) := by decide +kernel
theorem dX12_readsAct_192 : decode cX12_readsAct 192 = .ok (.invokevirtual 304, 3) := by decide +kernel
theorem dX12_readsAct_195 : decode cX12_readsAct 195 = .ok (.goto 4, 3) := by decide +kernel
theorem dX12_readsAct_198 : decode cX12_readsAct 198 = .ok (.iconst 0, 1) := by decide +kernel
theorem dX12_readsAct_199 : decode cX12_readsAct 199 = .ok (.iastore, 1) := by decide +kernel
theorem dX12_readsAct_200 : decode cX12_readsAct 200 = .ok (.aload_n 0, 1) := by decide +kernel
theorem dX12_readsAct_201 : decode cX12_readsAct 201 = .ok (.getfield 74, 3) := by decide +kernel
theorem dX12_readsAct_204 : decode cX12_readsAct 204 = .ok (.iload_n 1, 1) := by decide +kernel
theorem dX12_readsAct_205 : decode cX12_readsAct 205 = .ok (.iaload, 1) := by decide +kernel
theorem dX12_readsAct_206 : decode cX12_readsAct 206 = .ok (.ifCond .lt 7, 3) := by decide +kernel
theorem dX12_readsAct_209 : decode cX12_readsAct 209 = .ok (.iconst 1, 1) := by decide +kernel
theorem dX12_readsAct_210 : decode cX12_readsAct 210 = .ok (.goto 4, 3) := by decide +kernel
theorem dX12_readsAct_213 : decode cX12_readsAct 213 = .ok (.iconst 0, 1) := by decide +kernel
theorem dX12_readsAct_214 : decode cX12_readsAct 214 = .ok (.ireturn, 1) := by decide +kernel
theorem dX12_does_0 : decode cX12_does 0 = .ok (.aload_n 0, 1) := by decide +kernel
theorem dX12_does_1 : decode cX12_does 1 = .ok (.getfield 68, 3) := by decide +kernel
theorem dX12_does_4 : decode cX12_does 4 = .ok (.iload_n 1, 1) := by decide +kernel
theorem dX12_does_5 : decode cX12_does 5 = .ok (.iaload, 1) := by decide +kernel
theorem dX12_does_6 : decode cX12_does 6 = .ok (.istore_n 2, 1) := by decide +kernel
theorem dX12_does_7 : decode cX12_does 7 = .ok (.aload_n 0, 1) := by decide +kernel
theorem dX12_does_8 : decode cX12_does 8 = .ok (.getfield 65, 3) := by decide +kernel
theorem dX12_does_11 : decode cX12_does 11 = .ok (.iload_n 1, 1) := by decide +kernel
theorem dX12_does_12 : decode cX12_does 12 = .ok (.iaload, 1) := by decide +kernel
theorem dX12_does_13 : decode cX12_does 13 = .ok (.tableswitch 170 0 4 #[35, 71, 101, 125, 150], 35) := by decide +kernel
theorem dX12_does_48 : decode cX12_does 48 = .ok (.aload_n 0, 1) := by decide +kernel
theorem dX12_does_49 : decode cX12_does 49 = .ok (.iload_n 2, 1) := by decide +kernel
theorem dX12_does_50 : decode cX12_does 50 = .ok (.sipush 1000, 3) := by decide +kernel
theorem dX12_does_53 : decode cX12_does 53 = .ok (.idiv, 1) := by decide +kernel
theorem dX12_does_54 : decode cX12_does 54 = .ok (.iload_n 2, 1) := by decide +kernel
theorem dX12_does_55 : decode cX12_does 55 = .ok (.bipush 100, 2) := by decide +kernel
theorem dX12_does_57 : decode cX12_does 57 = .ok (.idiv, 1) := by decide +kernel
theorem dX12_does_58 : decode cX12_does 58 = .ok (.bipush 10, 2) := by decide +kernel
theorem dX12_does_60 : decode cX12_does 60 = .ok (.irem, 1) := by decide +kernel
theorem dX12_does_61 : decode cX12_does 61 = .ok (.iload_n 2, 1) := by decide +kernel
theorem dX12_does_62 : decode cX12_does 62 = .ok (.bipush 10, 2) := by decide +kernel
theorem dX12_does_64 : decode cX12_does 64 = .ok (.idiv, 1) := by decide +kernel
theorem dX12_does_65 : decode cX12_does 65 = .ok (.bipush 10, 2) := by decide +kernel
theorem dX12_does_67 : decode cX12_does 67 = .ok (.irem, 1) := by decide +kernel
theorem dX12_does_68 : decode cX12_does 68 = .ok (.iload_n 2, 1) := by decide +kernel
theorem dX12_does_69 : decode cX12_does 69 = .ok (.bipush 10, 2) := by decide +kernel
theorem dX12_does_71 : decode cX12_does 71 = .ok (.irem, 1) := by decide +kernel
theorem dX12_does_72 : decode cX12_does 72 = .ok (.invokevirtual 246, 3) := by decide +kernel
theorem dX12_does_75 : decode cX12_does 75 = .ok (.ifCond .lt 7, 3) := by decide +kernel
theorem dX12_does_78 : decode cX12_does 78 = .ok (.iconst 1, 1) := by decide +kernel
theorem dX12_does_79 : decode cX12_does 79 = .ok (.goto 4, 3) := by decide +kernel
theorem dX12_does_82 : decode cX12_does 82 = .ok (.iconst 0, 1) := by decide +kernel
theorem dX12_does_83 : decode cX12_does 83 = .ok (.ireturn, 1) := by decide +kernel
theorem dX12_does_84 : decode cX12_does 84 = .ok (.aload_n 0, 1) := by decide +kernel
theorem dX12_does_85 : decode cX12_does 85 = .ok (.iload_n 2, 1) := by decide +kernel
theorem dX12_does_86 : decode cX12_does 86 = .ok (.aload_n 0, 1) := by decide +kernel
theorem dX12_does_87 : decode cX12_does 87 = .ok (.getfield 71, 3) := by decide +kernel
theorem dX12_does_90 : decode cX12_does 90 = .ok (.iload_n 1, 1) := by decide +kernel
theorem dX12_does_91 : decode cX12_does 91 = .ok (.iaload, 1) := by decide +kernel
theorem dX12_does_92 : decode cX12_does 92 = .ok (.aload_n 0, 1) := by decide +kernel
theorem dX12_does_93 : decode cX12_does 93 = .ok (.aload_n 0, 1) := by decide +kernel
theorem dX12_does_94 : decode cX12_does 94 = .ok (.getfield 74, 3) := by decide +kernel
theorem dX12_does_97 : decode cX12_does 97 = .ok (.iload_n 1, 1) := by decide +kernel
theorem dX12_does_98 : decode cX12_does 98 = .ok (.iaload, 1) := by decide +kernel
theorem dX12_does_99 : decode cX12_does 99 = .ok (.invokevirtual 307, 3) := by decide +kernel
theorem dX12_does_102 : decode cX12_does 102 = .ok (.invokevirtual 253, 3) := by decide +kernel
theorem dX12_does_105 : decode cX12_does 105 = .ok (.ifCond .lt 7, 3) := by decide +kernel
theorem dX12_does_108 : decode cX12_does 108 = .ok (.iconst 1, 1) := by decide +kernel
theorem dX12_does_109 : decode cX12_does 109 = .ok (.goto 4, 3) := by decide +kernel
theorem dX12_does_112 : decode cX12_does 112 = .ok (.iconst 0, 1) := by decide +kernel
theorem dX12_does_113 : decode cX12_does 113 = .ok (.ireturn, 1) := by decide +kernel
theorem dX12_does_114 : decode cX12_does 114 = .ok (.aload_n 0, 1) := by decide +kernel
theorem dX12_does_115 : decode cX12_does 115 = .ok (.iload_n 2, 1) := by decide +kernel
theorem dX12_does_116 : decode cX12_does 116 = .ok (.aload_n 0, 1) := by decide +kernel
theorem dX12_does_117 : decode cX12_does 117 = .ok (.aload_n 0, 1) := by decide +kernel
theorem dX12_does_118 : decode cX12_does 118 = .ok (.getfield 71, 3) := by decide +kernel
theorem dX12_does_121 : decode cX12_does 121 = .ok (.iload_n 1, 1) := by decide +kernel
theorem dX12_does_122 : decode cX12_does 122 = .ok (.iaload, 1) := by decide +kernel
theorem dX12_does_123 : decode cX12_does 123 = .ok (.invokevirtual 307, 3) := by decide +kernel
theorem dX12_does_126 : decode cX12_does 126 = .ok (.invokevirtual 260, 3) := by decide +kernel
theorem dX12_does_129 : decode cX12_does 129 = .ok (.ifCond .lt 7, 3) := by decide +kernel
theorem dX12_does_132 : decode cX12_does 132 = .ok (.iconst 1, 1) := by decide +kernel
theorem dX12_does_133 : decode cX12_does 133 = .ok (.goto 4, 3) := by decide +kernel
theorem dX12_does_136 : decode cX12_does 136 = .ok (.iconst 0, 1) := by decide +kernel
theorem dX12_does_137 : decode cX12_does 137 = .ok (.ireturn, 1) := by decide +kernel
theorem dX12_does_138 : decode cX12_does 138 = .ok (.aload_n 0, 1) := by decide +kernel
theorem dX12_does_139 : decode cX12_does 139 = .ok (.iload_n 2, 1) := by decide +kernel
theorem dX12_does_140 : decode cX12_does 140 = .ok (.aload_n 0, 1) := by decide +kernel
theorem dX12_does_141 : decode cX12_does 141 = .ok (.aload_n 0, 1) := by decide +kernel
theorem dX12_does_142 : decode cX12_does 142 = .ok (.getfield 71, 3) := by decide +kernel
theorem dX12_does_145 : decode cX12_does 145 = .ok (.iload_n 1, 1) := by decide +kernel
theorem dX12_does_146 : decode cX12_does 146 = .ok (.iaload, 1) := by decide +kernel
theorem dX12_does_147 : decode cX12_does 147 = .ok (.invokevirtual 307, 3) := by decide +kernel
theorem dX12_does_150 : decode cX12_does 150 = .ok (.invokevirtual 263, 3) := by decide +kernel
theorem dX12_does_153 : decode cX12_does 153 = .ok (.iconst (-1), 1) := by decide +kernel
theorem dX12_does_154 : decode cX12_does 154 = .ok (.if_icmp .lt 7, 3) := by decide +kernel
theorem dX12_does_157 : decode cX12_does 157 = .ok (.iconst 1, 1) := by decide +kernel
theorem dX12_does_158 : decode cX12_does 158 = .ok (.goto 4, 3) := by decide +kernel
theorem dX12_does_161 : decode cX12_does 161 = .ok (.iconst 0, 1) := by decide +kernel
theorem dX12_does_162 : decode cX12_does 162 = .ok (.ireturn, 1) := by decide +kernel
theorem dX12_does_163 : decode cX12_does 163 = .ok (.aload_n 0, 1) := by decide +kernel
theorem dX12_does_164 : decode cX12_does 164 = .ok (.iload_n 2, 1) := by decide +kernel
theorem dX12_does_165 : decode cX12_does 165 = .ok (.aload_n 0, 1) := by decide +kernel
theorem dX12_does_166 : decode cX12_does 166 = .ok (.getfield 71, 3) := by decide +kernel
theorem dX12_does_169 : decode cX12_does 169 = .ok (.iload_n 1, 1) := by decide +kernel
theorem dX12_does_170 : decode cX12_does 170 = .ok (.iaload, 1) := by decide +kernel
theorem dX12_does_171 : decode cX12_does 171 = .ok (.invokevirtual 266, 3) := by decide +kernel
theorem dX12_does_174 : decode cX12_does 174 = .ok (.ifCond .lt 7, 3) := by decide +kernel
theorem dX12_does_177 : decode cX12_does 177 = .ok (.iconst 1, 1) := by decide +kernel
theorem dX12_does_178 : decode cX12_does 178 = .ok (.goto 4, 3) := by decide +kernel
theorem dX12_does_181 : decode cX12_does 181 = .ok (.iconst 0, 1) := by decide +kernel
theorem dX12_does_182 : decode cX12_does 182 = .ok (.ireturn, 1) := by decide +kernel
theorem dX12_does_183 : decode cX12_does 183 = .ok (.aload_n 0, 1) := by decide +kernel
theorem dX12_does_184 : decode cX12_does 184 = .ok (.invokevirtual 269, 3) := by decide +kernel
theorem dX12_does_187 : decode cX12_does 187 = .ok (.ifCond .lt 7, 3) := by decide +kernel
theorem dX12_does_190 : decode cX12_does 190 = .ok (.iconst 1, 1) := by decide +kernel
theorem dX12_does_191 : decode cX12_does 191 = .ok (.goto 4, 3) := by decide +kernel
theorem dX12_does_194 : decode cX12_does 194 = .ok (.iconst 0, 1) := by decide +kernel
theorem dX12_does_195 : decode cX12_does 195 = .ok (.ireturn, 1) := by decide +kernel
theorem dX12_day_0 : decode cX12_day 0 = .ok (.aload_n 0, 1) := by decide +kernel
theorem dX12_day_1 : decode cX12_day 1 = .ok (.iconst 0, 1) := by decide +kernel
theorem dX12_day_2 : decode cX12_day 2 = .ok (.putfield 1, 3) := by decide +kernel
theorem dX12_day_5 : decode cX12_day 5 = .ok (.aload_n 0, 1) := by decide +kernel
theorem dX12_day_6 : decode cX12_day 6 = .ok (.aload_n 0, 1) := by decide +kernel
theorem dX12_day_7 : decode cX12_day 7 = .ok (.getfield 14, 3) := by decide +kernel
theorem dX12_day_10 : decode cX12_day 10 = .ok (.putfield 34, 3) := by decide +kernel
theorem dX12_day_13 : decode cX12_day 13 = .ok (.aload_n 0, 1) := by decide +kernel
theorem dX12_day_14 : decode cX12_day 14 = .ok (.iconst 0, 1) := by decide +kernel
theorem dX12_day_15 : decode cX12_day 15 = .ok (.putfield 14, 3) := by decide +kernel
theorem dX12_day_18 : decode cX12_day 18 = .ok (.aload_n 0, 1) := by decide +kernel
theorem dX12_day_19 : decode cX12_day 19 = .ok (.iconst 0, 1) := by decide +kernel
theorem dX12_day_20 : decode cX12_day 20 = .ok (.putfield 31, 3) := by decide +kernel
theorem dX12_day_23 : decode cX12_day 23 = .ok (.iconst 0, 1) := by decide +kernel
theorem dX12_day_24 : decode cX12_day 24 = .ok (.istore_n 1, 1) := by decide +kernel
theorem dX12_day_25 : decode cX12_day 25 = .ok (.aload_n 0, 1) := by decide +kernel
theorem dX12_day_26 : decode cX12_day 26 = .ok (.getfield 31, 3) := by decide +kernel
theorem dX12_day_29 : decode cX12_day 29 = .ok (.aload_n 0, 1) := by decide +kernel
theorem dX12_day_30 : decode cX12_day 30 = .ok (.getfield 34, 3) := by decide +kernel
theorem dX12_day_33 : decode cX12_day 33 = .ok (.if_icmp .ge 24, 3) := by decide +kernel
theorem dX12_day_36 : decode cX12_day 36 = .ok (.aload_n 0, 1) := by decide +kernel
theorem dX12_day_37 : decode cX12_day 37 = .ok (.iload_n 1, 1) := by decide +kernel
theorem dX12_day_38 : decode cX12_day 38 = .ok (.invokevirtual 310, 3) := by decide +kernel
theorem dX12_day_41 : decode cX12_day 41 = .ok (.ifCond .ne 10, 3) := by decide +kernel
theorem dX12_day_44 : decode cX12_day 44 = .ok (.iconst (-1), 1) := by decide +kernel
theorem dX12_day_45 : decode cX12_day 45 = .ok (.aload_n 0, 1) := by decide +kernel
theorem dX12_day_46 : decode cX12_day 46 = .ok (.getfield 31, 3) := by decide +kernel
theorem dX12_day_49 : decode cX12_day 49 = .ok (.isub, 1) := by decide +kernel
theorem dX12_day_50 : decode cX12_day 50 = .ok (.ireturn, 1) := by decide +kernel
theorem dX12_day_51 : decode cX12_day 51 = .ok (.iinc 1 1, 3) := by decide +kernel
theorem dX12_day_54 : decode cX12_day 54 = .ok (.goto (-29), 3) := by decide +kernel
theorem dX12_day_57 : decode cX12_day 57 = .ok (.aload_n 0, 1) := by decide +kernel
theorem dX12_day_58 : decode cX12_day 58 = .ok (.iconst 0, 1) := by decide +kernel
theorem dX12_day_59 : decode cX12_day 59 = .ok (.iconst 3, 1) := by decide +kernel
theorem dX12_day_60 : decode cX12_day 60 = .ok (.invokevirtual 81, 3) := by decide +kernel
theorem dX12_day_63 : decode cX12_day 63 = .ok (.iconst 0, 1) := by decide +kernel
theorem dX12_day_64 : decode cX12_day 64 = .ok (.istore_n 2, 1) := by decide +kernel
theorem dX12_day_65 : decode cX12_day 65 = .ok (.iload_n 2, 1) := by decide +kernel
theorem dX12_day_66 : decode cX12_day 66 = .ok (.iload_n 1, 1) := by decide +kernel
theorem dX12_day_67 : decode cX12_day 67 = .ok (.if_icmp .ge 17, 3) := by decide +kernel
theorem dX12_day_70 : decode cX12_day 70 = .ok (.aload_n 0, 1) := by decide +kernel
theorem dX12_day_71 : decode cX12_day 71 = .ok (.iload_n 2, 1) := by decide +kernel
theorem dX12_day_72 : decode cX12_day 72 = .ok (.invokevirtual 313, 3) := by decide +kernel
theorem dX12_day_75 : decode cX12_day 75 = .ok (.ifCond .eq 9, 3) := by decide +kernel
theorem dX12_day_78 : decode cX12_day 78 = .ok (.iinc 2 1, 3) := by decide +kernel
theorem dX12_day_81 : decode cX12_day 81 = .ok (.goto (-16), 3) := by decide +kernel
theorem dX12_day_84 : decode cX12_day 84 = .ok (.iload_n 2, 1) := by decide +kernel
theorem dX12_day_85 : decode cX12_day 85 = .ok (.ifCond .le 7, 3) := by decide +kernel
theorem dX12_day_88 : decode cX12_day 88 = .ok (.aload_n 0, 1) := by decide +kernel
theorem dX12_day_89 : decode cX12_day 89 = .ok (.invokevirtual 243, 3) := by decide +kernel
theorem dX12_day_92 : decode cX12_day 92 = .ok (.aload_n 0, 1) := by decide +kernel
theorem dX12_day_93 : decode cX12_day 93 = .ok (.iconst 0, 1) := by decide +kernel
theorem dX12_day_94 : decode cX12_day 94 = .ok (.putfield 11, 3) := by decide +kernel
theorem dX12_day_97 : decode cX12_day 97 = .ok (.aload_n 0, 1) := by decide +kernel
theorem dX12_day_98 : decode cX12_day 98 = .ok (.iload_n 2, 1) := by decide +kernel
theorem dX12_day_99 : decode cX12_day 99 = .ok (.iload_n 1, 1) := by decide +kernel
theorem dX12_day_100 : decode cX12_day 100 = .ok (.if_icmp .ge 7, 3) := by decide +kernel
theorem dX12_day_103 : decode cX12_day 103 = .ok (.iconst 1, 1) := by decide +kernel
theorem dX12_day_104 : decode cX12_day 104 = .ok (.goto 4, 3) := by decide +kernel
theorem dX12_day_107 : decode cX12_day 107 = .ok (.iconst 0, 1) := by decide +kernel
theorem dX12_day_108 : decode cX12_day 108 = .ok (.invokestatic 167, 3) := by decide +kernel
theorem dX12_day_111 : decode cX12_day 111 = .ok (.i2l, 1) := by decide +kernel
theorem dX12_day_112 : decode cX12_day 112 = .ok (.invokevirtual 239, 3) := by decide +kernel
theorem dX12_day_115 : decode cX12_day 115 = .ok (.aload_n 0, 1) := by decide +kernel
theorem dX12_day_116 : decode cX12_day 116 = .ok (.aload_n 0, 1) := by decide +kernel
theorem dX12_day_117 : decode cX12_day 117 = .ok (.invokevirtual 233, 3) := by decide +kernel
theorem dX12_day_120 : decode cX12_day 120 = .ok (.invokestatic 236, 3) := by decide +kernel
theorem dX12_day_123 : decode cX12_day 123 = .ok (.i2l, 1) := by decide +kernel
theorem dX12_day_124 : decode cX12_day 124 = .ok (.invokevirtual 239, 3) := by decide +kernel
theorem dX12_day_127 : decode cX12_day 127 = .ok (.iload_n 2, 1) := by decide +kernel
theorem dX12_day_128 : decode cX12_day 128 = .ok (.ireturn, 1) := by decide +kernel
theorem dX12_draws_0 : decode cX12_draws 0 = .ok (.aload_n 0, 1) := by decide +kernel
theorem dX12_draws_1 : decode cX12_draws 1 = .ok (.aload_n 0, 1) := by decide +kernel
theorem dX12_draws_2 : decode cX12_draws 2 = .ok (.getfield 316, 3) := by decide +kernel
theorem dX12_draws_5 : decode cX12_draws 5 = .ok (.ldc_w 319, 3) := by decide +kernel
theorem dX12_draws_8 : decode cX12_draws 8 = .ok (.imul, 1) := by decide +kernel
theorem dX12_draws_9 : decode cX12_draws 9 = .ok (.sipush 12345, 3) := by decide +kernel
theorem dX12_draws_12 : decode cX12_draws 12 = .ok (.iadd, 1) := by decide +kernel
theorem dX12_draws_13 : decode cX12_draws 13 = .ok (.putfield 316, 3) := by decide +kernel
theorem dX12_draws_16 : decode cX12_draws 16 = .ok (.aload_n 0, 1) := by decide +kernel
theorem dX12_draws_17 : decode cX12_draws 17 = .ok (.getfield 316, 3) := by decide +kernel
theorem dX12_draws_20 : decode cX12_draws 20 = .ok (.bipush 16, 2) := by decide +kernel
theorem dX12_draws_22 : decode cX12_draws 22 = .ok (.iushr, 1) := by decide +kernel
theorem dX12_draws_23 : decode cX12_draws 23 = .ok (.iload_n 1, 1) := by decide +kernel
theorem dX12_draws_24 : decode cX12_draws 24 = .ok (.irem, 1) := by decide +kernel
theorem dX12_draws_25 : decode cX12_draws 25 = .ok (.ireturn, 1) := by decide +kernel
theorem dX12_drawsOther_0 : decode cX12_drawsOther 0 = .ok (.aload_n 0, 1) := by decide +kernel
theorem dX12_drawsOther_1 : decode cX12_drawsOther 1 = .ok (.bipush 25, 2) := by decide +kernel
theorem dX12_drawsOther_3 : decode cX12_drawsOther 3 = .ok (.invokevirtual 320, 3) := by decide +kernel
theorem dX12_drawsOther_6 : decode cX12_drawsOther 6 = .ok (.istore_n 1, 1) := by decide +kernel
theorem dX12_drawsOther_7 : decode cX12_drawsOther 7 = .ok (.iload_n 1, 1) := by decide +kernel
theorem dX12_drawsOther_8 : decode cX12_drawsOther 8 = .ok (.bipush 24, 2) := by decide +kernel
theorem dX12_drawsOther_10 : decode cX12_drawsOther 10 = .ok (.if_icmp .ne 7, 3) := by decide +kernel
theorem dX12_drawsOther_13 : decode cX12_drawsOther 13 = .ok (.iconst (-1), 1) := by decide +kernel
theorem dX12_drawsOther_14 : decode cX12_drawsOther 14 = .ok (.goto 4, 3) := by decide +kernel
theorem dX12_drawsOther_17 : decode cX12_drawsOther 17 = .ok (.iload_n 1, 1) := by decide +kernel
theorem dX12_drawsOther_18 : decode cX12_drawsOther 18 = .ok (.ireturn, 1) := by decide +kernel
theorem dX12_drawnAct_0 : decode cX12_drawnAct 0 = .ok (.aload_n 0, 1) := by decide +kernel
theorem dX12_drawnAct_1 : decode cX12_drawnAct 1 = .ok (.iconst 4, 1) := by decide +kernel
theorem dX12_drawnAct_2 : decode cX12_drawnAct 2 = .ok (.invokevirtual 320, 3) := by decide +kernel
theorem dX12_drawnAct_5 : decode cX12_drawnAct 5 = .ok (.istore_n 1, 1) := by decide +kernel
theorem dX12_drawnAct_6 : decode cX12_drawnAct 6 = .ok (.iload_n 1, 1) := by decide +kernel
theorem dX12_drawnAct_7 : decode cX12_drawnAct 7 = .ok (.ifCond .ne 30, 3) := by decide +kernel
theorem dX12_drawnAct_10 : decode cX12_drawnAct 10 = .ok (.aload_n 0, 1) := by decide +kernel
theorem dX12_drawnAct_11 : decode cX12_drawnAct 11 = .ok (.iconst 5, 1) := by decide +kernel
theorem dX12_drawnAct_12 : decode cX12_drawnAct 12 = .ok (.invokevirtual 320, 3) := by decide +kernel
theorem dX12_drawnAct_15 : decode cX12_drawnAct 15 = .ok (.istore_n 2, 1) := by decide +kernel
theorem dX12_drawnAct_16 : decode cX12_drawnAct 16 = .ok (.aload_n 0, 1) := by decide +kernel
theorem dX12_drawnAct_17 : decode cX12_drawnAct 17 = .ok (.bipush 8, 2) := by decide +kernel
theorem dX12_drawnAct_19 : decode cX12_drawnAct 19 = .ok (.invokevirtual 320, 3) := by decide +kernel
theorem dX12_drawnAct_22 : decode cX12_drawnAct 22 = .ok (.istore_n 3, 1) := by decide +kernel
theorem dX12_drawnAct_23 : decode cX12_drawnAct 23 = .ok (.aload_n 0, 1) := by decide +kernel
theorem dX12_drawnAct_24 : decode cX12_drawnAct 24 = .ok (.iload_n 2, 1) := by decide +kernel
theorem dX12_drawnAct_25 : decode cX12_drawnAct 25 = .ok (.iconst 1, 1) := by decide +kernel
theorem dX12_drawnAct_26 : decode cX12_drawnAct 26 = .ok (.iload_n 3, 1) := by decide +kernel
theorem dX12_drawnAct_27 : decode cX12_drawnAct 27 = .ok (.aload_n 0, 1) := by decide +kernel
theorem dX12_drawnAct_28 : decode cX12_drawnAct 28 = .ok (.bipush 6, 2) := by decide +kernel
theorem dX12_drawnAct_30 : decode cX12_drawnAct 30 = .ok (.invokevirtual 320, 3) := by decide +kernel
theorem dX12_drawnAct_33 : decode cX12_drawnAct 33 = .ok (.invokevirtual 246, 3) := by decide +kernel
theorem dX12_drawnAct_36 : decode cX12_drawnAct 36 = .ok (.ireturn, 1) := by decide +kernel
theorem dX12_drawnAct_37 : decode cX12_drawnAct 37 = .ok (.iload_n 1, 1) := by decide +kernel
theorem dX12_drawnAct_38 : decode cX12_drawnAct 38 = .ok (.iconst 3, 1) := by decide +kernel
theorem dX12_drawnAct_39 : decode cX12_drawnAct 39 = .ok (.if_icmp .ne 20, 3) := by decide +kernel
theorem dX12_drawnAct_42 : decode cX12_drawnAct 42 = .ok (.aload_n 0, 1) := by decide +kernel
theorem dX12_drawnAct_43 : decode cX12_drawnAct 43 = .ok (.bipush 6, 2) := by decide +kernel
theorem dX12_drawnAct_45 : decode cX12_drawnAct 45 = .ok (.invokevirtual 320, 3) := by decide +kernel
theorem dX12_drawnAct_48 : decode cX12_drawnAct 48 = .ok (.istore_n 2, 1) := by decide +kernel
theorem dX12_drawnAct_49 : decode cX12_drawnAct 49 = .ok (.aload_n 0, 1) := by decide +kernel
theorem dX12_drawnAct_50 : decode cX12_drawnAct 50 = .ok (.iload_n 2, 1) := by decide +kernel
theorem dX12_drawnAct_51 : decode cX12_drawnAct 51 = .ok (.aload_n 0, 1) := by decide +kernel
theorem dX12_drawnAct_52 : decode cX12_drawnAct 52 = .ok (.invokevirtual 323, 3) := by decide +kernel
theorem dX12_drawnAct_55 : decode cX12_drawnAct 55 = .ok (.invokevirtual 260, 3) := by decide +kernel
theorem dX12_drawnAct_58 : decode cX12_drawnAct 58 = .ok (.ireturn, 1) := by decide +kernel
theorem dX12_drawnAct_59 : decode cX12_drawnAct 59 = .ok (.aload_n 0, 1) := by decide +kernel
theorem dX12_drawnAct_60 : decode cX12_drawnAct 60 = .ok (.bipush 24, 2) := by decide +kernel
theorem dX12_drawnAct_62 : decode cX12_drawnAct 62 = .ok (.invokevirtual 320, 3) := by decide +kernel
theorem dX12_drawnAct_65 : decode cX12_drawnAct 65 = .ok (.istore_n 2, 1) := by decide +kernel
theorem dX12_drawnAct_66 : decode cX12_drawnAct 66 = .ok (.aload_n 0, 1) := by decide +kernel
theorem dX12_drawnAct_67 : decode cX12_drawnAct 67 = .ok (.iconst 4, 1) := by decide +kernel
theorem dX12_drawnAct_68 : decode cX12_drawnAct 68 = .ok (.invokevirtual 320, 3) := by decide +kernel
theorem dX12_drawnAct_71 : decode cX12_drawnAct 71 = .ok (.istore_n 3, 1) := by decide +kernel
theorem dX12_drawnAct_72 : decode cX12_drawnAct 72 = .ok (.aload_n 0, 1) := by decide +kernel
theorem dX12_drawnAct_73 : decode cX12_drawnAct 73 = .ok (.iload_n 2, 1) := by decide +kernel
theorem dX12_drawnAct_74 : decode cX12_drawnAct 74 = .ok (.iload_n 3, 1) := by decide +kernel
theorem dX12_drawnAct_75 : decode cX12_drawnAct 75 = .ok (.aload_n 0, 1) := by decide +kernel
theorem dX12_drawnAct_76 : decode cX12_drawnAct 76 = .ok (.invokevirtual 323, 3) := by decide +kernel
theorem dX12_drawnAct_79 : decode cX12_drawnAct 79 = .ok (.invokevirtual 253, 3) := by decide +kernel
theorem dX12_drawnAct_82 : decode cX12_drawnAct 82 = .ok (.ireturn, 1) := by decide +kernel
theorem dX12_years_0 : decode cX12_years 0 = .ok (.aload_n 0, 1) := by decide +kernel
theorem dX12_years_1 : decode cX12_years 1 = .ok (.iconst 0, 1) := by decide +kernel
theorem dX12_years_2 : decode cX12_years 2 = .ok (.putfield 1, 3) := by decide +kernel
theorem dX12_years_5 : decode cX12_years 5 = .ok (.iload_n 2, 1) := by decide +kernel
theorem dX12_years_6 : decode cX12_years 6 = .ok (.i2l, 1) := by decide +kernel
theorem dX12_years_7 : decode cX12_years 7 = .ok (.lconst 1, 1) := by decide +kernel
theorem dX12_years_8 : decode cX12_years 8 = .ok (.ldc2_w 326, 3) := by decide +kernel
theorem dX12_years_11 : decode cX12_years 11 = .ok (.invokestatic 21, 3) := by decide +kernel
theorem dX12_years_14 : decode cX12_years 14 = .ok (.ifCond .ne 5, 3) := by decide +kernel
theorem dX12_years_17 : decode cX12_years 17 = .ok (.iconst (-1), 1) := by decide +kernel
theorem dX12_years_18 : decode cX12_years 18 = .ok (.ireturn, 1) := by decide +kernel
theorem dX12_years_19 : decode cX12_years 19 = .ok (.aload_n 0, 1) := by decide +kernel
theorem dX12_years_20 : decode cX12_years 20 = .ok (.iload_n 1, 1) := by decide +kernel
theorem dX12_years_21 : decode cX12_years 21 = .ok (.putfield 316, 3) := by decide +kernel
theorem dX12_years_24 : decode cX12_years 24 = .ok (.aload_n 0, 1) := by decide +kernel
theorem dX12_years_25 : decode cX12_years 25 = .ok (.invokevirtual 291, 3) := by decide +kernel
theorem dX12_years_28 : decode cX12_years 28 = .ok (.aload_n 0, 1) := by decide +kernel
theorem dX12_years_29 : decode cX12_years 29 = .ok (.getfield 53, 3) := by decide +kernel
theorem dX12_years_32 : decode cX12_years 32 = .ok (.aload_n 0, 1) := by decide +kernel
theorem dX12_years_33 : decode cX12_years 33 = .ok (.getfield 85, 3) := by decide +kernel
theorem dX12_years_36 : decode cX12_years 36 = .ok (.iconst 2, 1) := by decide +kernel
theorem dX12_years_37 : decode cX12_years 37 = .ok (.iadd, 1) := by decide +kernel
theorem dX12_years_38 : decode cX12_years 38 = .ok (.iaload, 1) := by decide +kernel
theorem dX12_years_39 : decode cX12_years 39 = .ok (.istore_n 3, 1) := by decide +kernel
theorem dX12_years_40 : decode cX12_years 40 = .ok (.iconst 0, 1) := by decide +kernel
theorem dX12_years_41 : decode cX12_years 41 = .ok (.istore 4, 2) := by decide +kernel
theorem dX12_years_43 : decode cX12_years 43 = .ok (.iload 4, 2) := by decide +kernel
theorem dX12_years_45 : decode cX12_years 45 = .ok (.iload_n 2, 1) := by decide +kernel
theorem dX12_years_46 : decode cX12_years 46 = .ok (.if_icmp .ge 14, 3) := by decide +kernel
theorem dX12_years_49 : decode cX12_years 49 = .ok (.aload_n 0, 1) := by decide +kernel
theorem dX12_years_50 : decode cX12_years 50 = .ok (.invokevirtual 328, 3) := by decide +kernel
theorem dX12_years_53 : decode cX12_years 53 = .ok (.pop, 1) := by decide +kernel
theorem dX12_years_54 : decode cX12_years 54 = .ok (.iinc 4 1, 3) := by decide +kernel
theorem dX12_years_57 : decode cX12_years 57 = .ok (.goto (-14), 3) := by decide +kernel
theorem dX12_years_60 : decode cX12_years 60 = .ok (.aload_n 0, 1) := by decide +kernel
theorem dX12_years_61 : decode cX12_years 61 = .ok (.invokevirtual 233, 3) := by decide +kernel
theorem dX12_years_64 : decode cX12_years 64 = .ok (.istore 4, 2) := by decide +kernel
theorem dX12_years_66 : decode cX12_years 66 = .ok (.aload_n 0, 1) := by decide +kernel
theorem dX12_years_67 : decode cX12_years 67 = .ok (.iconst 0, 1) := by decide +kernel
theorem dX12_years_68 : decode cX12_years 68 = .ok (.putfield 11, 3) := by decide +kernel
theorem dX12_years_71 : decode cX12_years 71 = .ok (.aload_n 0, 1) := by decide +kernel
theorem dX12_years_72 : decode cX12_years 72 = .ok (.aload_n 0, 1) := by decide +kernel
theorem dX12_years_73 : decode cX12_years 73 = .ok (.getfield 53, 3) := by decide +kernel
theorem dX12_years_76 : decode cX12_years 76 = .ok (.aload_n 0, 1) := by decide +kernel
theorem dX12_years_77 : decode cX12_years 77 = .ok (.getfield 85, 3) := by decide +kernel
theorem dX12_years_80 : decode cX12_years 80 = .ok (.iconst 2, 1) := by decide +kernel
theorem dX12_years_81 : decode cX12_years 81 = .ok (.iadd, 1) := by decide +kernel
theorem dX12_years_82 : decode cX12_years 82 = .ok (.iaload, 1) := by decide +kernel
theorem dX12_years_83 : decode cX12_years 83 = .ok (.iload_n 3, 1) := by decide +kernel
theorem dX12_years_84 : decode cX12_years 84 = .ok (.isub, 1) := by decide +kernel
theorem dX12_years_85 : decode cX12_years 85 = .ok (.i2l, 1) := by decide +kernel
theorem dX12_years_86 : decode cX12_years 86 = .ok (.invokevirtual 239, 3) := by decide +kernel
theorem dX12_years_89 : decode cX12_years 89 = .ok (.aload_n 0, 1) := by decide +kernel
theorem dX12_years_90 : decode cX12_years 90 = .ok (.aload_n 0, 1) := by decide +kernel
theorem dX12_years_91 : decode cX12_years 91 = .ok (.invokevirtual 97, 3) := by decide +kernel
theorem dX12_years_94 : decode cX12_years 94 = .ok (.i2l, 1) := by decide +kernel
theorem dX12_years_95 : decode cX12_years 95 = .ok (.invokevirtual 239, 3) := by decide +kernel
theorem dX12_years_98 : decode cX12_years 98 = .ok (.aload_n 0, 1) := by decide +kernel
theorem dX12_years_99 : decode cX12_years 99 = .ok (.invokevirtual 294, 3) := by decide +kernel
theorem dX12_years_102 : decode cX12_years 102 = .ok (.iload 4, 2) := by decide +kernel
theorem dX12_years_104 : decode cX12_years 104 = .ok (.ireturn, 1) := by decide +kernel
theorem dX12_keep_0 : decode cX12_keep 0 = .ok (.aload_n 0, 1) := by decide +kernel
theorem dX12_keep_1 : decode cX12_keep 1 = .ok (.iconst 0, 1) := by decide +kernel
theorem dX12_keep_2 : decode cX12_keep 2 = .ok (.putfield 1, 3) := by decide +kernel
theorem dX12_keep_5 : decode cX12_keep 5 = .ok (.iload_n 1, 1) := by decide +kernel
theorem dX12_keep_6 : decode cX12_keep 6 = .ok (.i2l, 1) := by decide +kernel
theorem dX12_keep_7 : decode cX12_keep 7 = .ok (.lconst 0, 1) := by decide +kernel
theorem dX12_keep_8 : decode cX12_keep 8 = .ok (.lconst 1, 1) := by decide +kernel
theorem dX12_keep_9 : decode cX12_keep 9 = .ok (.invokestatic 21, 3) := by decide +kernel
theorem dX12_keep_12 : decode cX12_keep 12 = .ok (.ifCond .ne 5, 3) := by decide +kernel
theorem dX12_keep_15 : decode cX12_keep 15 = .ok (.iconst 0, 1) := by decide +kernel
theorem dX12_keep_16 : decode cX12_keep 16 = .ok (.ireturn, 1) := by decide +kernel
theorem dX12_keep_17 : decode cX12_keep 17 = .ok (.aload_n 0, 1) := by decide +kernel
theorem dX12_keep_18 : decode cX12_keep 18 = .ok (.getfield 77, 3) := by decide +kernel
theorem dX12_keep_21 : decode cX12_keep 21 = .ok (.iload_n 1, 1) := by decide +kernel
theorem dX12_keep_22 : decode cX12_keep 22 = .ok (.iconst 1, 1) := by decide +kernel
theorem dX12_keep_23 : decode cX12_keep 23 = .ok (.bastore, 1) := by decide +kernel
theorem dX12_keep_24 : decode cX12_keep 24 = .ok (.aload_n 0, 1) := by decide +kernel
theorem dX12_keep_25 : decode cX12_keep 25 = .ok (.iconst 0, 1) := by decide +kernel
theorem dX12_keep_26 : decode cX12_keep 26 = .ok (.iconst 1, 1) := by decide +kernel
theorem dX12_keep_27 : decode cX12_keep 27 = .ok (.iload_n 1, 1) := by decide +kernel
theorem dX12_keep_28 : decode cX12_keep 28 = .ok (.iadd, 1) := by decide +kernel
theorem dX12_keep_29 : decode cX12_keep 29 = .ok (.invokevirtual 81, 3) := by decide +kernel
theorem dX12_keep_32 : decode cX12_keep 32 = .ok (.iconst 1, 1) := by decide +kernel
theorem dX12_keep_33 : decode cX12_keep 33 = .ok (.ireturn, 1) := by decide +kernel
theorem dX12_again_0 : decode cX12_again 0 = .ok (.aload_n 0, 1) := by decide +kernel
theorem dX12_again_1 : decode cX12_again 1 = .ok (.iconst 0, 1) := by decide +kernel
theorem dX12_again_2 : decode cX12_again 2 = .ok (.putfield 1, 3) := by decide +kernel
theorem dX12_again_5 : decode cX12_again 5 = .ok (.iload_n 1, 1) := by decide +kernel
theorem dX12_again_6 : decode cX12_again 6 = .ok (.i2l, 1) := by decide +kernel
theorem dX12_again_7 : decode cX12_again 7 = .ok (.lconst 0, 1) := by decide +kernel
theorem dX12_again_8 : decode cX12_again 8 = .ok (.lconst 1, 1) := by decide +kernel
theorem dX12_again_9 : decode cX12_again 9 = .ok (.invokestatic 21, 3) := by decide +kernel
theorem dX12_again_12 : decode cX12_again 12 = .ok (.ifCond .eq 12, 3) := by decide +kernel
theorem dX12_again_15 : decode cX12_again 15 = .ok (.aload_n 0, 1) := by decide +kernel
theorem dX12_again_16 : decode cX12_again 16 = .ok (.getfield 77, 3) := by decide +kernel
theorem dX12_again_19 : decode cX12_again 19 = .ok (.iload_n 1, 1) := by decide +kernel
theorem dX12_again_20 : decode cX12_again 20 = .ok (.baload, 1) := by decide +kernel
theorem dX12_again_21 : decode cX12_again 21 = .ok (.ifCond .ne 5, 3) := by decide +kernel
theorem dX12_again_24 : decode cX12_again 24 = .ok (.iconst 0, 1) := by decide +kernel
theorem dX12_again_25 : decode cX12_again 25 = .ok (.ireturn, 1) := by decide +kernel
theorem dX12_again_26 : decode cX12_again 26 = .ok (.aload_n 0, 1) := by decide +kernel
theorem dX12_again_27 : decode cX12_again 27 = .ok (.iconst 1, 1) := by decide +kernel
theorem dX12_again_28 : decode cX12_again 28 = .ok (.iload_n 1, 1) := by decide +kernel
theorem dX12_again_29 : decode cX12_again 29 = .ok (.iadd, 1) := by decide +kernel
theorem dX12_again_30 : decode cX12_again 30 = .ok (.iconst 0, 1) := by decide +kernel
theorem dX12_again_31 : decode cX12_again 31 = .ok (.invokevirtual 81, 3) := by decide +kernel
theorem dX12_again_34 : decode cX12_again 34 = .ok (.aload_n 0, 1) := by decide +kernel
theorem dX12_again_35 : decode cX12_again 35 = .ok (.iconst 0, 1) := by decide +kernel
theorem dX12_again_36 : decode cX12_again 36 = .ok (.putfield 88, 3) := by decide +kernel
theorem dX12_again_39 : decode cX12_again 39 = .ok (.iconst 1, 1) := by decide +kernel
theorem dX12_again_40 : decode cX12_again 40 = .ok (.ireturn, 1) := by decide +kernel
theorem dX12_countsOfAll_0 : decode cX12_countsOfAll 0 = .ok (.iconst 0, 1) := by decide +kernel
theorem dX12_countsOfAll_1 : decode cX12_countsOfAll 1 = .ok (.istore_n 1, 1) := by decide +kernel
theorem dX12_countsOfAll_2 : decode cX12_countsOfAll 2 = .ok (.iconst 0, 1) := by decide +kernel
theorem dX12_countsOfAll_3 : decode cX12_countsOfAll 3 = .ok (.istore_n 2, 1) := by decide +kernel
theorem dX12_countsOfAll_4 : decode cX12_countsOfAll 4 = .ok (.iload_n 2, 1) := by decide +kernel
theorem dX12_countsOfAll_5 : decode cX12_countsOfAll 5 = .ok (.bipush 24, 2) := by decide +kernel
theorem dX12_countsOfAll_7 : decode cX12_countsOfAll 7 = .ok (.if_icmp .ge 30, 3) := by decide +kernel
theorem dX12_countsOfAll_10 : decode cX12_countsOfAll 10 = .ok (.iload_n 1, 1) := by decide +kernel
theorem dX12_countsOfAll_11 : decode cX12_countsOfAll 11 = .ok (.aload_n 0, 1) := by decide +kernel
theorem dX12_countsOfAll_12 : decode cX12_countsOfAll 12 = .ok (.iload_n 2, 1) := by decide +kernel
theorem dX12_countsOfAll_13 : decode cX12_countsOfAll 13 = .ok (.invokevirtual 216, 3) := by decide +kernel
theorem dX12_countsOfAll_16 : decode cX12_countsOfAll 16 = .ok (.ifCond .eq 12, 3) := by decide +kernel
theorem dX12_countsOfAll_19 : decode cX12_countsOfAll 19 = .ok (.aload_n 0, 1) := by decide +kernel
theorem dX12_countsOfAll_20 : decode cX12_countsOfAll 20 = .ok (.iload_n 2, 1) := by decide +kernel
theorem dX12_countsOfAll_21 : decode cX12_countsOfAll 21 = .ok (.iconst 5, 1) := by decide +kernel
theorem dX12_countsOfAll_22 : decode cX12_countsOfAll 22 = .ok (.invokevirtual 91, 3) := by decide +kernel
theorem dX12_countsOfAll_25 : decode cX12_countsOfAll 25 = .ok (.goto 4, 3) := by decide +kernel
theorem dX12_countsOfAll_28 : decode cX12_countsOfAll 28 = .ok (.iconst 0, 1) := by decide +kernel
theorem dX12_countsOfAll_29 : decode cX12_countsOfAll 29 = .ok (.iadd, 1) := by decide +kernel
theorem dX12_countsOfAll_30 : decode cX12_countsOfAll 30 = .ok (.istore_n 1, 1) := by decide +kernel
theorem dX12_countsOfAll_31 : decode cX12_countsOfAll 31 = .ok (.iinc 2 1, 3) := by decide +kernel
theorem dX12_countsOfAll_34 : decode cX12_countsOfAll 34 = .ok (.goto (-30), 3) := by decide +kernel
theorem dX12_countsOfAll_37 : decode cX12_countsOfAll 37 = .ok (.iload_n 1, 1) := by decide +kernel
theorem dX12_countsOfAll_38 : decode cX12_countsOfAll 38 = .ok (.ireturn, 1) := by decide +kernel
theorem dX12_count_0 : decode cX12_count 0 = .ok (.aload_n 0, 1) := by decide +kernel
theorem dX12_count_1 : decode cX12_count 1 = .ok (.iconst 0, 1) := by decide +kernel
theorem dX12_count_2 : decode cX12_count 2 = .ok (.putfield 1, 3) := by decide +kernel
theorem dX12_count_5 : decode cX12_count 5 = .ok (.iload_n 1, 1) := by decide +kernel
theorem dX12_count_6 : decode cX12_count 6 = .ok (.tableswitch 93 0 7 #[46, 54, 59, 66, 71, 78, 83, 88], 46) := by decide +kernel
theorem dX12_count_52 : decode cX12_count 52 = .ok (.aload_n 0, 1) := by decide +kernel
theorem dX12_count_53 : decode cX12_count 53 = .ok (.invokevirtual 233, 3) := by decide +kernel
theorem dX12_count_56 : decode cX12_count 56 = .ok (.invokestatic 236, 3) := by decide +kernel
theorem dX12_count_59 : decode cX12_count 59 = .ok (.ireturn, 1) := by decide +kernel
theorem dX12_count_60 : decode cX12_count 60 = .ok (.aload_n 0, 1) := by decide +kernel
theorem dX12_count_61 : decode cX12_count 61 = .ok (.invokevirtual 97, 3) := by decide +kernel
theorem dX12_count_64 : decode cX12_count 64 = .ok (.ireturn, 1) := by decide +kernel
theorem dX12_count_65 : decode cX12_count 65 = .ok (.aload_n 0, 1) := by decide +kernel
theorem dX12_count_66 : decode cX12_count 66 = .ok (.getfield 53, 3) := by decide +kernel
theorem dX12_count_69 : decode cX12_count 69 = .ok (.iconst 0, 1) := by decide +kernel
theorem dX12_count_70 : decode cX12_count 70 = .ok (.iaload, 1) := by decide +kernel
theorem dX12_count_71 : decode cX12_count 71 = .ok (.ireturn, 1) := by decide +kernel
theorem dX12_count_72 : decode cX12_count 72 = .ok (.aload_n 0, 1) := by decide +kernel
theorem dX12_count_73 : decode cX12_count 73 = .ok (.invokevirtual 331, 3) := by decide +kernel
theorem dX12_count_76 : decode cX12_count 76 = .ok (.ireturn, 1) := by decide +kernel
theorem dX12_count_77 : decode cX12_count 77 = .ok (.aload_n 0, 1) := by decide +kernel
theorem dX12_count_78 : decode cX12_count 78 = .ok (.getfield 53, 3) := by decide +kernel
theorem dX12_count_81 : decode cX12_count 81 = .ok (.iconst 2, 1) := by decide +kernel
theorem dX12_count_82 : decode cX12_count 82 = .ok (.iaload, 1) := by decide +kernel
theorem dX12_count_83 : decode cX12_count 83 = .ok (.ireturn, 1) := by decide +kernel
theorem dX12_count_84 : decode cX12_count 84 = .ok (.aload_n 0, 1) := by decide +kernel
theorem dX12_count_85 : decode cX12_count 85 = .ok (.getfield 88, 3) := by decide +kernel
theorem dX12_count_88 : decode cX12_count 88 = .ok (.ireturn, 1) := by decide +kernel
theorem dX12_count_89 : decode cX12_count 89 = .ok (.aload_n 0, 1) := by decide +kernel
theorem dX12_count_90 : decode cX12_count 90 = .ok (.getfield 11, 3) := by decide +kernel
theorem dX12_count_93 : decode cX12_count 93 = .ok (.ireturn, 1) := by decide +kernel
theorem dX12_count_94 : decode cX12_count 94 = .ok (.aload_n 0, 1) := by decide +kernel
theorem dX12_count_95 : decode cX12_count 95 = .ok (.getfield 14, 3) := by decide +kernel
theorem dX12_count_98 : decode cX12_count 98 = .ok (.ireturn, 1) := by decide +kernel
theorem dX12_count_99 : decode cX12_count 99 = .ok (.iconst (-1), 1) := by decide +kernel
theorem dX12_count_100 : decode cX12_count 100 = .ok (.ireturn, 1) := by decide +kernel
theorem dX12_row_0 : decode cX12_row 0 = .ok (.aload_n 0, 1) := by decide +kernel
theorem dX12_row_1 : decode cX12_row 1 = .ok (.iload_n 1, 1) := by decide +kernel
theorem dX12_row_2 : decode cX12_row 2 = .ok (.i2l, 1) := by decide +kernel
theorem dX12_row_3 : decode cX12_row 3 = .ok (.lconst 0, 1) := by decide +kernel
theorem dX12_row_4 : decode cX12_row 4 = .ok (.aload_n 0, 1) := by decide +kernel
theorem dX12_row_5 : decode cX12_row 5 = .ok (.getfield 11, 3) := by decide +kernel
theorem dX12_row_8 : decode cX12_row 8 = .ok (.iconst 1, 1) := by decide +kernel
theorem dX12_row_9 : decode cX12_row 9 = .ok (.isub, 1) := by decide +kernel
theorem dX12_row_10 : decode cX12_row 10 = .ok (.i2l, 1) := by decide +kernel
theorem dX12_row_11 : decode cX12_row 11 = .ok (.invokestatic 21, 3) := by decide +kernel
theorem dX12_row_14 : decode cX12_row 14 = .ok (.ifCond .ne 7, 3) := by decide +kernel
theorem dX12_row_17 : decode cX12_row 17 = .ok (.iconst 1, 1) := by decide +kernel
theorem dX12_row_18 : decode cX12_row 18 = .ok (.goto 4, 3) := by decide +kernel
theorem dX12_row_21 : decode cX12_row 21 = .ok (.iconst 0, 1) := by decide +kernel
theorem dX12_row_22 : decode cX12_row 22 = .ok (.invokestatic 167, 3) := by decide +kernel
theorem dX12_row_25 : decode cX12_row 25 = .ok (.putfield 1, 3) := by decide +kernel
theorem dX12_row_28 : decode cX12_row 28 = .ok (.aload_n 0, 1) := by decide +kernel
theorem dX12_row_29 : decode cX12_row 29 = .ok (.getfield 1, 3) := by decide +kernel
theorem dX12_row_32 : decode cX12_row 32 = .ok (.iconst 1, 1) := by decide +kernel
theorem dX12_row_33 : decode cX12_row 33 = .ok (.if_icmp .ne 7, 3) := by decide +kernel
theorem dX12_row_36 : decode cX12_row 36 = .ok (.lconst 0, 1) := by decide +kernel
theorem dX12_row_37 : decode cX12_row 37 = .ok (.goto 9, 3) := by decide +kernel
theorem dX12_row_40 : decode cX12_row 40 = .ok (.aload_n 0, 1) := by decide +kernel
theorem dX12_row_41 : decode cX12_row 41 = .ok (.getfield 7, 3) := by decide +kernel
theorem dX12_row_44 : decode cX12_row 44 = .ok (.iload_n 1, 1) := by decide +kernel
theorem dX12_row_45 : decode cX12_row 45 = .ok (.laload, 1) := by decide +kernel
theorem dX12_row_46 : decode cX12_row 46 = .ok (.lreturn, 1) := by decide +kernel
theorem dJ6_bitCount_0f7a4_0 : decode cJ6_bitCount_0f7a4 0 = .ok (.iload_n 0, 1) := by decide +kernel
theorem dJ6_bitCount_0f7a4_1 : decode cJ6_bitCount_0f7a4 1 = .ok (.iload_n 0, 1) := by decide +kernel
theorem dJ6_bitCount_0f7a4_2 : decode cJ6_bitCount_0f7a4 2 = .ok (.iconst 1, 1) := by decide +kernel
theorem dJ6_bitCount_0f7a4_3 : decode cJ6_bitCount_0f7a4 3 = .ok (.iushr, 1) := by decide +kernel
theorem dJ6_bitCount_0f7a4_4 : decode cJ6_bitCount_0f7a4 4 = .ok (.ldc_w 265, 3) := by decide +kernel
theorem dJ6_bitCount_0f7a4_7 : decode cJ6_bitCount_0f7a4 7 = .ok (.iand, 1) := by decide +kernel
theorem dJ6_bitCount_0f7a4_8 : decode cJ6_bitCount_0f7a4 8 = .ok (.isub, 1) := by decide +kernel
theorem dJ6_bitCount_0f7a4_9 : decode cJ6_bitCount_0f7a4 9 = .ok (.istore_n 0, 1) := by decide +kernel
theorem dJ6_bitCount_0f7a4_10 : decode cJ6_bitCount_0f7a4 10 = .ok (.iload_n 0, 1) := by decide +kernel
theorem dJ6_bitCount_0f7a4_11 : decode cJ6_bitCount_0f7a4 11 = .ok (.ldc_w 266, 3) := by decide +kernel
theorem dJ6_bitCount_0f7a4_14 : decode cJ6_bitCount_0f7a4 14 = .ok (.iand, 1) := by decide +kernel
theorem dJ6_bitCount_0f7a4_15 : decode cJ6_bitCount_0f7a4 15 = .ok (.iload_n 0, 1) := by decide +kernel
theorem dJ6_bitCount_0f7a4_16 : decode cJ6_bitCount_0f7a4 16 = .ok (.iconst 2, 1) := by decide +kernel
theorem dJ6_bitCount_0f7a4_17 : decode cJ6_bitCount_0f7a4 17 = .ok (.iushr, 1) := by decide +kernel
theorem dJ6_bitCount_0f7a4_18 : decode cJ6_bitCount_0f7a4 18 = .ok (.ldc_w 266, 3) := by decide +kernel
theorem dJ6_bitCount_0f7a4_21 : decode cJ6_bitCount_0f7a4 21 = .ok (.iand, 1) := by decide +kernel
theorem dJ6_bitCount_0f7a4_22 : decode cJ6_bitCount_0f7a4 22 = .ok (.iadd, 1) := by decide +kernel
theorem dJ6_bitCount_0f7a4_23 : decode cJ6_bitCount_0f7a4 23 = .ok (.istore_n 0, 1) := by decide +kernel
theorem dJ6_bitCount_0f7a4_24 : decode cJ6_bitCount_0f7a4 24 = .ok (.iload_n 0, 1) := by decide +kernel
theorem dJ6_bitCount_0f7a4_25 : decode cJ6_bitCount_0f7a4 25 = .ok (.iload_n 0, 1) := by decide +kernel
theorem dJ6_bitCount_0f7a4_26 : decode cJ6_bitCount_0f7a4 26 = .ok (.iconst 4, 1) := by decide +kernel
theorem dJ6_bitCount_0f7a4_27 : decode cJ6_bitCount_0f7a4 27 = .ok (.iushr, 1) := by decide +kernel
theorem dJ6_bitCount_0f7a4_28 : decode cJ6_bitCount_0f7a4 28 = .ok (.iadd, 1) := by decide +kernel
theorem dJ6_bitCount_0f7a4_29 : decode cJ6_bitCount_0f7a4 29 = .ok (.ldc_w 267, 3) := by decide +kernel
theorem dJ6_bitCount_0f7a4_32 : decode cJ6_bitCount_0f7a4 32 = .ok (.iand, 1) := by decide +kernel
theorem dJ6_bitCount_0f7a4_33 : decode cJ6_bitCount_0f7a4 33 = .ok (.istore_n 0, 1) := by decide +kernel
theorem dJ6_bitCount_0f7a4_34 : decode cJ6_bitCount_0f7a4 34 = .ok (.iload_n 0, 1) := by decide +kernel
theorem dJ6_bitCount_0f7a4_35 : decode cJ6_bitCount_0f7a4 35 = .ok (.iload_n 0, 1) := by decide +kernel
theorem dJ6_bitCount_0f7a4_36 : decode cJ6_bitCount_0f7a4 36 = .ok (.bipush 8, 2) := by decide +kernel
theorem dJ6_bitCount_0f7a4_38 : decode cJ6_bitCount_0f7a4 38 = .ok (.iushr, 1) := by decide +kernel
theorem dJ6_bitCount_0f7a4_39 : decode cJ6_bitCount_0f7a4 39 = .ok (.iadd, 1) := by decide +kernel
theorem dJ6_bitCount_0f7a4_40 : decode cJ6_bitCount_0f7a4 40 = .ok (.istore_n 0, 1) := by decide +kernel
theorem dJ6_bitCount_0f7a4_41 : decode cJ6_bitCount_0f7a4 41 = .ok (.iload_n 0, 1) := by decide +kernel
theorem dJ6_bitCount_0f7a4_42 : decode cJ6_bitCount_0f7a4 42 = .ok (.iload_n 0, 1) := by decide +kernel
theorem dJ6_bitCount_0f7a4_43 : decode cJ6_bitCount_0f7a4 43 = .ok (.bipush 16, 2) := by decide +kernel
theorem dJ6_bitCount_0f7a4_45 : decode cJ6_bitCount_0f7a4 45 = .ok (.iushr, 1) := by decide +kernel
theorem dJ6_bitCount_0f7a4_46 : decode cJ6_bitCount_0f7a4 46 = .ok (.iadd, 1) := by decide +kernel
theorem dJ6_bitCount_0f7a4_47 : decode cJ6_bitCount_0f7a4 47 = .ok (.istore_n 0, 1) := by decide +kernel
theorem dJ6_bitCount_0f7a4_48 : decode cJ6_bitCount_0f7a4 48 = .ok (.iload_n 0, 1) := by decide +kernel
theorem dJ6_bitCount_0f7a4_49 : decode cJ6_bitCount_0f7a4 49 = .ok (.bipush 63, 2) := by decide +kernel
theorem dJ6_bitCount_0f7a4_51 : decode cJ6_bitCount_0f7a4 51 = .ok (.iand, 1) := by decide +kernel
theorem dJ6_bitCount_0f7a4_52 : decode cJ6_bitCount_0f7a4 52 = .ok (.ireturn, 1) := by decide +kernel
theorem dJ9_min_7cf53_0 : decode cJ9_min_7cf53 0 = .ok (.iload_n 0, 1) := by decide +kernel
theorem dJ9_min_7cf53_1 : decode cJ9_min_7cf53 1 = .ok (.iload_n 1, 1) := by decide +kernel
theorem dJ9_min_7cf53_2 : decode cJ9_min_7cf53 2 = .ok (.if_icmp .gt 7, 3) := by decide +kernel
theorem dJ9_min_7cf53_5 : decode cJ9_min_7cf53 5 = .ok (.iload_n 0, 1) := by decide +kernel
theorem dJ9_min_7cf53_6 : decode cJ9_min_7cf53 6 = .ok (.goto 4, 3) := by decide +kernel
theorem dJ9_min_7cf53_9 : decode cJ9_min_7cf53 9 = .ok (.iload_n 1, 1) := by decide +kernel
theorem dJ9_min_7cf53_10 : decode cJ9_min_7cf53 10 = .ok (.ireturn, 1) := by decide +kernel
theorem dJ0_length_8abf5_0 : decode cJ0_length_8abf5 0 = .ok (.aload_n 0, 1) := by decide +kernel
theorem dJ0_length_8abf5_1 : decode cJ0_length_8abf5 1 = .ok (.getfield 9, 3) := by decide +kernel
theorem dJ0_length_8abf5_4 : decode cJ0_length_8abf5 4 = .ok (.arraylength, 1) := by decide +kernel
theorem dJ0_length_8abf5_5 : decode cJ0_length_8abf5 5 = .ok (.aload_n 0, 1) := by decide +kernel
theorem dJ0_length_8abf5_6 : decode cJ0_length_8abf5 6 = .ok (.invokevirtual 335, 3) := by decide +kernel
theorem dJ0_length_8abf5_9 : decode cJ0_length_8abf5 9 = .ok (.ishr, 1) := by decide +kernel
theorem dJ0_length_8abf5_10 : decode cJ0_length_8abf5 10 = .ok (.ireturn, 1) := by decide +kernel
theorem dJ0_charAt_5068e_0 : decode cJ0_charAt_5068e 0 = .ok (.aload_n 0, 1) := by decide +kernel
theorem dJ0_charAt_5068e_1 : decode cJ0_charAt_5068e 1 = .ok (.invokevirtual 492, 3) := by decide +kernel
theorem dJ0_charAt_5068e_4 : decode cJ0_charAt_5068e 4 = .ok (.ifCond .eq 12, 3) := by decide +kernel
theorem dJ0_charAt_5068e_7 : decode cJ0_charAt_5068e 7 = .ok (.aload_n 0, 1) := by decide +kernel
theorem dJ0_charAt_5068e_8 : decode cJ0_charAt_5068e 8 = .ok (.getfield 9, 3) := by decide +kernel
theorem dJ0_charAt_5068e_11 : decode cJ0_charAt_5068e 11 = .ok (.iload_n 1, 1) := by decide +kernel
theorem dJ0_charAt_5068e_12 : decode cJ0_charAt_5068e 12 = .ok (.invokestatic 495, 3) := by decide +kernel
theorem dJ0_charAt_5068e_15 : decode cJ0_charAt_5068e 15 = .ok (.ireturn, 1) := by decide +kernel
theorem dJ0_charAt_5068e_16 : decode cJ0_charAt_5068e 16 = .ok (.aload_n 0, 1) := by decide +kernel
theorem dJ0_charAt_5068e_17 : decode cJ0_charAt_5068e 17 = .ok (.getfield 9, 3) := by decide +kernel
theorem dJ0_charAt_5068e_20 : decode cJ0_charAt_5068e 20 = .ok (.iload_n 1, 1) := by decide +kernel
theorem dJ0_charAt_5068e_21 : decode cJ0_charAt_5068e 21 = .ok (.invokestatic 498, 3) := by decide +kernel
theorem dJ0_charAt_5068e_24 : decode cJ0_charAt_5068e 24 = .ok (.ireturn, 1) := by decide +kernel
theorem dJ0_coder_7d493_0 : decode cJ0_coder_7d493 0 = .ok (.getstatic 38, 3) := by decide +kernel
theorem dJ0_coder_7d493_3 : decode cJ0_coder_7d493 3 = .ok (.ifCond .eq 10, 3) := by decide +kernel
theorem dJ0_coder_7d493_6 : decode cJ0_coder_7d493 6 = .ok (.aload_n 0, 1) := by decide +kernel
theorem dJ0_coder_7d493_7 : decode cJ0_coder_7d493 7 = .ok (.getfield 15, 3) := by decide +kernel
theorem dJ0_coder_7d493_10 : decode cJ0_coder_7d493 10 = .ok (.goto 4, 3) := by decide +kernel
theorem dJ0_coder_7d493_13 : decode cJ0_coder_7d493 13 = .ok (.iconst 1, 1) := by decide +kernel
theorem dJ0_coder_7d493_14 : decode cJ0_coder_7d493 14 = .ok (.ireturn, 1) := by decide +kernel
theorem dJ0_isLatin1_aae02_0 : decode cJ0_isLatin1_aae02 0 = .ok (.getstatic 38, 3) := by decide +kernel
theorem dJ0_isLatin1_aae02_3 : decode cJ0_isLatin1_aae02 3 = .ok (.ifCond .eq 14, 3) := by decide +kernel
theorem dJ0_isLatin1_aae02_6 : decode cJ0_isLatin1_aae02 6 = .ok (.aload_n 0, 1) := by decide +kernel
theorem dJ0_isLatin1_aae02_7 : decode cJ0_isLatin1_aae02 7 = .ok (.getfield 15, 3) := by decide +kernel
theorem dJ0_isLatin1_aae02_10 : decode cJ0_isLatin1_aae02 10 = .ok (.ifCond .ne 7, 3) := by decide +kernel
theorem dJ0_isLatin1_aae02_13 : decode cJ0_isLatin1_aae02 13 = .ok (.iconst 1, 1) := by decide +kernel
theorem dJ0_isLatin1_aae02_14 : decode cJ0_isLatin1_aae02 14 = .ok (.goto 4, 3) := by decide +kernel
theorem dJ0_isLatin1_aae02_17 : decode cJ0_isLatin1_aae02 17 = .ok (.iconst 0, 1) := by decide +kernel
theorem dJ0_isLatin1_aae02_18 : decode cJ0_isLatin1_aae02 18 = .ok (.ireturn, 1) := by decide +kernel
theorem dJ0_checkIndex_df160_0 : decode cJ0_checkIndex_df160 0 = .ok (.iload_n 0, 1) := by decide +kernel
theorem dJ0_checkIndex_df160_1 : decode cJ0_checkIndex_df160 1 = .ok (.iload_n 1, 1) := by decide +kernel
theorem dJ0_checkIndex_df160_2 : decode cJ0_checkIndex_df160 2 = .ok (.getstatic 1053, 3) := by decide +kernel
theorem dJ0_checkIndex_df160_5 : decode cJ0_checkIndex_df160 5 = .ok (.invokestatic 1059, 3) := by decide +kernel
theorem dJ0_checkIndex_df160_8 : decode cJ0_checkIndex_df160 8 = .ok (.pop, 1) := by decide +kernel
theorem dJ0_checkIndex_df160_9 : decode cJ0_checkIndex_df160 9 = .ok (.return_, 1) := by decide +kernel
theorem dJ1_charAt_3b067_0 : decode cJ1_charAt_3b067 0 = .ok (.iload_n 1, 1) := by decide +kernel
theorem dJ1_charAt_3b067_1 : decode cJ1_charAt_3b067 1 = .ok (.aload_n 0, 1) := by decide +kernel
theorem dJ1_charAt_3b067_2 : decode cJ1_charAt_3b067 2 = .ok (.arraylength, 1) := by decide +kernel
theorem dJ1_charAt_3b067_3 : decode cJ1_charAt_3b067 3 = .ok (.invokestatic 9, 3) := by decide +kernel
theorem dJ1_charAt_3b067_6 : decode cJ1_charAt_3b067 6 = .ok (.aload_n 0, 1) := by decide +kernel
theorem dJ1_charAt_3b067_7 : decode cJ1_charAt_3b067 7 = .ok (.iload_n 1, 1) := by decide +kernel
theorem dJ1_charAt_3b067_8 : decode cJ1_charAt_3b067 8 = .ok (.baload, 1) := by decide +kernel
theorem dJ1_charAt_3b067_9 : decode cJ1_charAt_3b067 9 = .ok (.sipush 255, 3) := by decide +kernel
theorem dJ1_charAt_3b067_12 : decode cJ1_charAt_3b067 12 = .ok (.iand, 1) := by decide +kernel
theorem dJ1_charAt_3b067_13 : decode cJ1_charAt_3b067 13 = .ok (.i2c, 1) := by decide +kernel
theorem dJ1_charAt_3b067_14 : decode cJ1_charAt_3b067 14 = .ok (.ireturn, 1) := by decide +kernel
theorem dJ2_getChar_3b067_0 : decode cJ2_getChar_3b067 0 = .ok (.getstatic 44, 3) := by decide +kernel
theorem dJ2_getChar_3b067_3 : decode cJ2_getChar_3b067 3 = .ok (.ifCond .ne 25, 3) := by decide +kernel
theorem dJ2_getChar_3b067_6 : decode cJ2_getChar_3b067 6 = .ok (.iload_n 1, 1) := by decide +kernel
theorem dJ2_getChar_3b067_7 : decode cJ2_getChar_3b067 7 = .ok (.ifCond .lt 11, 3) := by decide +kernel
theorem dJ2_getChar_3b067_10 : decode cJ2_getChar_3b067 10 = .ok (.iload_n 1, 1) := by decide +kernel
theorem dJ2_getChar_3b067_11 : decode cJ2_getChar_3b067 11 = .ok (.aload_n 0, 1) := by decide +kernel
theorem dJ2_getChar_3b067_12 : decode cJ2_getChar_3b067 12 = .ok (.invokestatic 48, 3) := by decide +kernel
theorem dJ2_getChar_3b067_15 : decode cJ2_getChar_3b067 15 = .ok (.if_icmp .lt 13, 3) := by decide +kernel
theorem dJ2_getChar_3b067_18 : decode cJ2_getChar_3b067 18 = .ok (.new 52, 3) := by decide +kernel
theorem dJ2_getChar_3b067_21 : decode cJ2_getChar_3b067 21 = .ok (.dup, 1) := by decide +kernel
theorem dJ2_getChar_3b067_22 : decode cJ2_getChar_3b067 22 = .ok (.ldc 54, 2) := by decide +kernel
theorem dJ2_getChar_3b067_24 : decode cJ2_getChar_3b067 24 = .ok (.invokespecial 56, 3) := by decide +kernel
theorem dJ2_getChar_3b067_27 : decode cJ2_getChar_3b067 27 = .ok (.athrow, 1) := by decide +kernel
theorem dJ2_getChar_3b067_28 : decode cJ2_getChar_3b067 28 = .ok (.iload_n 1, 1) := by decide +kernel
theorem dJ2_getChar_3b067_29 : decode cJ2_getChar_3b067 29 = .ok (.iconst 1, 1) := by decide +kernel
theorem dJ2_getChar_3b067_30 : decode cJ2_getChar_3b067 30 = .ok (.ishl, 1) := by decide +kernel
theorem dJ2_getChar_3b067_31 : decode cJ2_getChar_3b067 31 = .ok (.istore_n 1, 1) := by decide +kernel
theorem dJ2_getChar_3b067_32 : decode cJ2_getChar_3b067 32 = .ok (.aload_n 0, 1) := by decide +kernel
theorem dJ2_getChar_3b067_33 : decode cJ2_getChar_3b067 33 = .ok (.iload_n 1, 1) := by decide +kernel
theorem dJ2_getChar_3b067_34 : decode cJ2_getChar_3b067 34 = .ok (.iinc 1 1, 3) := by decide +kernel
theorem dJ2_getChar_3b067_37 : decode cJ2_getChar_3b067 37 = .ok (.baload, 1) := by decide +kernel
theorem dJ2_getChar_3b067_38 : decode cJ2_getChar_3b067 38 = .ok (.sipush 255, 3) := by decide +kernel
theorem dJ2_getChar_3b067_41 : decode cJ2_getChar_3b067 41 = .ok (.iand, 1) := by decide +kernel
theorem dJ2_getChar_3b067_42 : decode cJ2_getChar_3b067 42 = .ok (.getstatic 59, 3) := by decide +kernel
theorem dJ2_getChar_3b067_45 : decode cJ2_getChar_3b067 45 = .ok (.ishl, 1) := by decide +kernel
theorem dJ2_getChar_3b067_46 : decode cJ2_getChar_3b067 46 = .ok (.aload_n 0, 1) := by decide +kernel
theorem dJ2_getChar_3b067_47 : decode cJ2_getChar_3b067 47 = .ok (.iload_n 1, 1) := by decide +kernel
theorem dJ2_getChar_3b067_48 : decode cJ2_getChar_3b067 48 = .ok (.baload, 1) := by decide +kernel
theorem dJ2_getChar_3b067_49 : decode cJ2_getChar_3b067 49 = .ok (.sipush 255, 3) := by decide +kernel
theorem dJ2_getChar_3b067_52 : decode cJ2_getChar_3b067 52 = .ok (.iand, 1) := by decide +kernel
theorem dJ2_getChar_3b067_53 : decode cJ2_getChar_3b067 53 = .ok (.getstatic 63, 3) := by decide +kernel
theorem dJ2_getChar_3b067_56 : decode cJ2_getChar_3b067 56 = .ok (.ishl, 1) := by decide +kernel
theorem dJ2_getChar_3b067_57 : decode cJ2_getChar_3b067 57 = .ok (.ior, 1) := by decide +kernel
theorem dJ2_getChar_3b067_58 : decode cJ2_getChar_3b067 58 = .ok (.i2c, 1) := by decide +kernel
theorem dJ2_getChar_3b067_59 : decode cJ2_getChar_3b067 59 = .ok (.ireturn, 1) := by decide +kernel
theorem dJ2_length_9d52b_0 : decode cJ2_length_9d52b 0 = .ok (.aload_n 0, 1) := by decide +kernel
theorem dJ2_length_9d52b_1 : decode cJ2_length_9d52b 1 = .ok (.arraylength, 1) := by decide +kernel
theorem dJ2_length_9d52b_2 : decode cJ2_length_9d52b 2 = .ok (.iconst 1, 1) := by decide +kernel
theorem dJ2_length_9d52b_3 : decode cJ2_length_9d52b 3 = .ok (.ishr, 1) := by decide +kernel
theorem dJ2_length_9d52b_4 : decode cJ2_length_9d52b 4 = .ok (.ireturn, 1) := by decide +kernel
theorem dJ2_charAt_3b067_0 : decode cJ2_charAt_3b067 0 = .ok (.iload_n 1, 1) := by decide +kernel
theorem dJ2_charAt_3b067_1 : decode cJ2_charAt_3b067 1 = .ok (.aload_n 0, 1) := by decide +kernel
theorem dJ2_charAt_3b067_2 : decode cJ2_charAt_3b067 2 = .ok (.invokestatic 67, 3) := by decide +kernel
theorem dJ2_charAt_3b067_5 : decode cJ2_charAt_3b067 5 = .ok (.aload_n 0, 1) := by decide +kernel
theorem dJ2_charAt_3b067_6 : decode cJ2_charAt_3b067 6 = .ok (.iload_n 1, 1) := by decide +kernel
theorem dJ2_charAt_3b067_7 : decode cJ2_charAt_3b067 7 = .ok (.invokestatic 71, 3) := by decide +kernel
theorem dJ2_charAt_3b067_10 : decode cJ2_charAt_3b067 10 = .ok (.ireturn, 1) := by decide +kernel
theorem dJ2_checkIndex_2214a_0 : decode cJ2_checkIndex_2214a 0 = .ok (.iload_n 0, 1) := by decide +kernel
theorem dJ2_checkIndex_2214a_1 : decode cJ2_checkIndex_2214a 1 = .ok (.aload_n 1, 1) := by decide +kernel
theorem dJ2_checkIndex_2214a_2 : decode cJ2_checkIndex_2214a 2 = .ok (.invokestatic 48, 3) := by decide +kernel
theorem dJ2_checkIndex_2214a_5 : decode cJ2_checkIndex_2214a 5 = .ok (.invokestatic 414, 3) := by decide +kernel
theorem dJ2_checkIndex_2214a_8 : decode cJ2_checkIndex_2214a 8 = .ok (.return_, 1) := by decide +kernel
theorem dJ7_fill_53178_0 : decode cJ7_fill_53178 0 = .ok (.iconst 0, 1) := by decide +kernel
theorem dJ7_fill_53178_1 : decode cJ7_fill_53178 1 = .ok (.istore_n 2, 1) := by decide +kernel
theorem dJ7_fill_53178_2 : decode cJ7_fill_53178 2 = .ok (.aload_n 0, 1) := by decide +kernel
theorem dJ7_fill_53178_3 : decode cJ7_fill_53178 3 = .ok (.arraylength, 1) := by decide +kernel
theorem dJ7_fill_53178_4 : decode cJ7_fill_53178 4 = .ok (.istore_n 3, 1) := by decide +kernel
theorem dJ7_fill_53178_5 : decode cJ7_fill_53178 5 = .ok (.iload_n 2, 1) := by decide +kernel
theorem dJ7_fill_53178_6 : decode cJ7_fill_53178 6 = .ok (.iload_n 3, 1) := by decide +kernel
theorem dJ7_fill_53178_7 : decode cJ7_fill_53178 7 = .ok (.if_icmp .ge 13, 3) := by decide +kernel
theorem dJ7_fill_53178_10 : decode cJ7_fill_53178 10 = .ok (.aload_n 0, 1) := by decide +kernel
theorem dJ7_fill_53178_11 : decode cJ7_fill_53178 11 = .ok (.iload_n 2, 1) := by decide +kernel
theorem dJ7_fill_53178_12 : decode cJ7_fill_53178 12 = .ok (.iload_n 1, 1) := by decide +kernel
theorem dJ7_fill_53178_13 : decode cJ7_fill_53178 13 = .ok (.iastore, 1) := by decide +kernel
theorem dJ7_fill_53178_14 : decode cJ7_fill_53178 14 = .ok (.iinc 2 1, 3) := by decide +kernel
theorem dJ7_fill_53178_17 : decode cJ7_fill_53178 17 = .ok (.goto (-12), 3) := by decide +kernel
theorem dJ7_fill_53178_20 : decode cJ7_fill_53178 20 = .ok (.return_, 1) := by decide +kernel
theorem dJ3_checkIndex_8e157_0 : decode cJ3_checkIndex_8e157 0 = .ok (.iload_n 0, 1) := by decide +kernel
theorem dJ3_checkIndex_8e157_1 : decode cJ3_checkIndex_8e157 1 = .ok (.ifCond .lt 8, 3) := by decide +kernel
theorem dJ3_checkIndex_8e157_4 : decode cJ3_checkIndex_8e157 4 = .ok (.iload_n 0, 1) := by decide +kernel
theorem dJ3_checkIndex_8e157_5 : decode cJ3_checkIndex_8e157 5 = .ok (.iload_n 1, 1) := by decide +kernel
theorem dJ3_checkIndex_8e157_6 : decode cJ3_checkIndex_8e157 6 = .ok (.if_icmp .lt 10, 3) := by decide +kernel
theorem dJ3_checkIndex_8e157_9 : decode cJ3_checkIndex_8e157 9 = .ok (.aload_n 2, 1) := by decide +kernel
theorem dJ3_checkIndex_8e157_10 : decode cJ3_checkIndex_8e157 10 = .ok (.iload_n 0, 1) := by decide +kernel
theorem dJ3_checkIndex_8e157_11 : decode cJ3_checkIndex_8e157 11 = .ok (.iload_n 1, 1) := by decide +kernel
theorem dJ3_checkIndex_8e157_12 : decode cJ3_checkIndex_8e157 12 = .ok (.invokestatic 95, 3) := by decide +kernel
theorem dJ3_checkIndex_8e157_15 : decode cJ3_checkIndex_8e157 15 = .ok (.athrow, 1) := by decide +kernel
theorem dJ3_checkIndex_8e157_16 : decode cJ3_checkIndex_8e157 16 = .ok (.iload_n 0, 1) := by decide +kernel
theorem dJ3_checkIndex_8e157_17 : decode cJ3_checkIndex_8e157 17 = .ok (.ireturn, 1) := by decide +kernel
theorem dL_object_0 : decode cL_object 0 = .ok (.aload_n 3, 1) := by decide +kernel
theorem dL_object_1 : decode cL_object 1 = .ok (.iconst 0, 1) := by decide +kernel
theorem dL_object_2 : decode cL_object 2 = .ok (.aload_n 0, 1) := by decide +kernel
theorem dL_object_3 : decode cL_object 3 = .ok (.iload_n 1, 1) := by decide +kernel
theorem dL_object_4 : decode cL_object 4 = .ok (.iload_n 2, 1) := by decide +kernel
theorem dL_object_5 : decode cL_object 5 = .ok (.invokevirtual 7, 3) := by decide +kernel
theorem dL_object_8 : decode cL_object 8 = .ok (.i2l, 1) := by decide +kernel
theorem dL_object_9 : decode cL_object 9 = .ok (.lastore, 1) := by decide +kernel
theorem dL_object_10 : decode cL_object 10 = .ok (.goto 7, 3) := by decide +kernel
theorem dL_object_13 : decode cL_object 13 = .ok (.astore 4, 2) := by decide +kernel
theorem dL_object_15 : decode cL_object 15 = .ok (.iconst 1, 1) := by decide +kernel
theorem dL_object_16 : decode cL_object 16 = .ok (.ireturn, 1) := by decide +kernel
theorem dL_object_17 : decode cL_object 17 = .ok (.iconst 0, 1) := by decide +kernel
theorem dL_object_18 : decode cL_object 18 = .ok (.ireturn, 1) := by decide +kernel
theorem dL_field_0 : decode cL_field 0 = .ok (.aload_n 3, 1) := by decide +kernel
theorem dL_field_1 : decode cL_field 1 = .ok (.iconst 0, 1) := by decide +kernel
theorem dL_field_2 : decode cL_field 2 = .ok (.aload_n 0, 1) := by decide +kernel
theorem dL_field_3 : decode cL_field 3 = .ok (.iload_n 1, 1) := by decide +kernel
theorem dL_field_4 : decode cL_field 4 = .ok (.iload_n 2, 1) := by decide +kernel
theorem dL_field_5 : decode cL_field 5 = .ok (.invokevirtual 15, 3) := by decide +kernel
theorem dL_field_8 : decode cL_field 8 = .ok (.i2l, 1) := by decide +kernel
theorem dL_field_9 : decode cL_field 9 = .ok (.lastore, 1) := by decide +kernel
theorem dL_field_10 : decode cL_field 10 = .ok (.goto 7, 3) := by decide +kernel
theorem dL_field_13 : decode cL_field 13 = .ok (.astore 4, 2) := by decide +kernel
theorem dL_field_15 : decode cL_field 15 = .ok (.iconst 1, 1) := by decide +kernel
theorem dL_field_16 : decode cL_field 16 = .ok (.ireturn, 1) := by decide +kernel
theorem dL_field_17 : decode cL_field 17 = .ok (.iconst 0, 1) := by decide +kernel
theorem dL_field_18 : decode cL_field 18 = .ok (.ireturn, 1) := by decide +kernel
theorem dL_root_0 : decode cL_root 0 = .ok (.aload_n 2, 1) := by decide +kernel
theorem dL_root_1 : decode cL_root 1 = .ok (.iconst 0, 1) := by decide +kernel
theorem dL_root_2 : decode cL_root 2 = .ok (.aload_n 0, 1) := by decide +kernel
theorem dL_root_3 : decode cL_root 3 = .ok (.iload_n 1, 1) := by decide +kernel
theorem dL_root_4 : decode cL_root 4 = .ok (.invokevirtual 18, 3) := by decide +kernel
theorem dL_root_7 : decode cL_root 7 = .ok (.i2l, 1) := by decide +kernel
theorem dL_root_8 : decode cL_root 8 = .ok (.lastore, 1) := by decide +kernel
theorem dL_root_9 : decode cL_root 9 = .ok (.goto 6, 3) := by decide +kernel
theorem dL_root_12 : decode cL_root 12 = .ok (.astore_n 3, 1) := by decide +kernel
theorem dL_root_13 : decode cL_root 13 = .ok (.iconst 1, 1) := by decide +kernel
theorem dL_root_14 : decode cL_root 14 = .ok (.ireturn, 1) := by decide +kernel
theorem dL_root_15 : decode cL_root 15 = .ok (.iconst 0, 1) := by decide +kernel
theorem dL_root_16 : decode cL_root 16 = .ok (.ireturn, 1) := by decide +kernel
theorem dL_log_0 : decode cL_log 0 = .ok (.aload_n 3, 1) := by decide +kernel
theorem dL_log_1 : decode cL_log 1 = .ok (.iconst 0, 1) := by decide +kernel
theorem dL_log_2 : decode cL_log 2 = .ok (.aload_n 0, 1) := by decide +kernel
theorem dL_log_3 : decode cL_log 3 = .ok (.iload_n 1, 1) := by decide +kernel
theorem dL_log_4 : decode cL_log 4 = .ok (.iload_n 2, 1) := by decide +kernel
theorem dL_log_5 : decode cL_log 5 = .ok (.invokevirtual 22, 3) := by decide +kernel
theorem dL_log_8 : decode cL_log 8 = .ok (.i2l, 1) := by decide +kernel
theorem dL_log_9 : decode cL_log 9 = .ok (.lastore, 1) := by decide +kernel
theorem dL_log_10 : decode cL_log 10 = .ok (.goto 7, 3) := by decide +kernel
theorem dL_log_13 : decode cL_log 13 = .ok (.astore 4, 2) := by decide +kernel
theorem dL_log_15 : decode cL_log 15 = .ok (.iconst 1, 1) := by decide +kernel
theorem dL_log_16 : decode cL_log 16 = .ok (.ireturn, 1) := by decide +kernel
theorem dL_log_17 : decode cL_log 17 = .ok (.iconst 0, 1) := by decide +kernel
theorem dL_log_18 : decode cL_log 18 = .ok (.ireturn, 1) := by decide +kernel
theorem dL_row_0 : decode cL_row 0 = .ok (.aload_n 2, 1) := by decide +kernel
theorem dL_row_1 : decode cL_row 1 = .ok (.iconst 0, 1) := by decide +kernel
theorem dL_row_2 : decode cL_row 2 = .ok (.aload_n 0, 1) := by decide +kernel
theorem dL_row_3 : decode cL_row 3 = .ok (.iload_n 1, 1) := by decide +kernel
theorem dL_row_4 : decode cL_row 4 = .ok (.invokevirtual 25, 3) := by decide +kernel
theorem dL_row_7 : decode cL_row 7 = .ok (.lastore, 1) := by decide +kernel
theorem dL_row_8 : decode cL_row 8 = .ok (.goto 6, 3) := by decide +kernel
theorem dL_row_11 : decode cL_row 11 = .ok (.astore_n 3, 1) := by decide +kernel
theorem dL_row_12 : decode cL_row 12 = .ok (.iconst 1, 1) := by decide +kernel
theorem dL_row_13 : decode cL_row 13 = .ok (.ireturn, 1) := by decide +kernel
theorem dL_row_14 : decode cL_row 14 = .ok (.iconst 0, 1) := by decide +kernel
theorem dL_row_15 : decode cL_row 15 = .ok (.ireturn, 1) := by decide +kernel
theorem dL_law_0 : decode cL_law 0 = .ok (.new 8, 3) := by decide +kernel
theorem dL_law_3 : decode cL_law 3 = .ok (.dup, 1) := by decide +kernel
theorem dL_law_4 : decode cL_law 4 = .ok (.invokespecial 29, 3) := by decide +kernel
theorem dL_law_7 : decode cL_law 7 = .ok (.astore_n 1, 1) := by decide +kernel
theorem dL_law_8 : decode cL_law 8 = .ok (.new 30, 3) := by decide +kernel
theorem dL_law_11 : decode cL_law 11 = .ok (.dup, 1) := by decide +kernel
theorem dL_law_12 : decode cL_law 12 = .ok (.invokespecial 32, 3) := by decide +kernel
theorem dL_law_15 : decode cL_law 15 = .ok (.astore_n 2, 1) := by decide +kernel
theorem dL_law_16 : decode cL_law 16 = .ok (.iconst 1, 1) := by decide +kernel
theorem dL_law_17 : decode cL_law 17 = .ok (.newarray .long, 2) := by decide +kernel
theorem dL_law_19 : decode cL_law 19 = .ok (.astore_n 3, 1) := by decide +kernel
theorem dL_law_20 : decode cL_law 20 = .ok (.iconst 0, 1) := by decide +kernel
theorem dL_law_21 : decode cL_law 21 = .ok (.istore 4, 2) := by decide +kernel
theorem dL_law_23 : decode cL_law 23 = .ok (.iload 4, 2) := by decide +kernel
theorem dL_law_25 : decode cL_law 25 = .ok (.aload_n 0, 1) := by decide +kernel
theorem dL_law_26 : decode cL_law 26 = .ok (.arraylength, 1) := by decide +kernel
theorem dL_law_27 : decode cL_law 27 = .ok (.iconst 5, 1) := by decide +kernel
theorem dL_law_28 : decode cL_law 28 = .ok (.isub, 1) := by decide +kernel
theorem dL_law_29 : decode cL_law 29 = .ok (.if_icmp .gt 1212, 3) := by decide +kernel
theorem dL_law_32 : decode cL_law 32 = .ok (.aload_n 0, 1) := by decide +kernel
theorem dL_law_33 : decode cL_law 33 = .ok (.iload 4, 2) := by decide +kernel
theorem dL_law_35 : decode cL_law 35 = .ok (.iaload, 1) := by decide +kernel
theorem dL_law_36 : decode cL_law 36 = .ok (.bipush 63, 2) := by decide +kernel
theorem dL_law_38 : decode cL_law 38 = .ok (.iand, 1) := by decide +kernel
theorem dL_law_39 : decode cL_law 39 = .ok (.tableswitch 1196 0 32 #[145, 170, 195, 256, 305, 342, 379, 416, 429, 454, 522, 590, 646, 671, 684, 709, 734, 759, 772, 797, 822, 859, 872, 885, 910, 978, 1003, 1016, 1029, 1066, 1091, 1116, 1141], 145) := by decide +kernel
theorem dL_law_184 : decode cL_law 184 = .ok (.aload_n 1, 1) := by decide +kernel
theorem dL_law_185 : decode cL_law 185 = .ok (.aload_n 0, 1) := by decide +kernel
theorem dL_law_186 : decode cL_law 186 = .ok (.iload 4, 2) := by decide +kernel
theorem dL_law_188 : decode cL_law 188 = .ok (.iconst 1, 1) := by decide +kernel
theorem dL_law_189 : decode cL_law 189 = .ok (.iadd, 1) := by decide +kernel
theorem dL_law_190 : decode cL_law 190 = .ok (.iaload, 1) := by decide +kernel
theorem dL_law_191 : decode cL_law 191 = .ok (.invokevirtual 33, 3) := by decide +kernel
theorem dL_law_194 : decode cL_law 194 = .ok (.aload_n 2, 1) := by decide +kernel
theorem dL_law_195 : decode cL_law 195 = .ok (.aload_n 0, 1) := by decide +kernel
theorem dL_law_196 : decode cL_law 196 = .ok (.iload 4, 2) := by decide +kernel
theorem dL_law_198 : decode cL_law 198 = .ok (.iconst 1, 1) := by decide +kernel
theorem dL_law_199 : decode cL_law 199 = .ok (.iadd, 1) := by decide +kernel
theorem dL_law_200 : decode cL_law 200 = .ok (.iaload, 1) := by decide +kernel
theorem dL_law_201 : decode cL_law 201 = .ok (.invokevirtual 36, 3) := by decide +kernel
theorem dL_law_204 : decode cL_law 204 = .ok (.if_icmp .eq 1031, 3) := by decide +kernel
theorem dL_law_207 : decode cL_law 207 = .ok (.iconst 0, 1) := by decide +kernel
theorem dL_law_208 : decode cL_law 208 = .ok (.ireturn, 1) := by decide +kernel
theorem dL_law_209 : decode cL_law 209 = .ok (.aload_n 1, 1) := by decide +kernel
theorem dL_law_210 : decode cL_law 210 = .ok (.aload_n 0, 1) := by decide +kernel
theorem dL_law_211 : decode cL_law 211 = .ok (.iload 4, 2) := by decide +kernel
theorem dL_law_213 : decode cL_law 213 = .ok (.iconst 1, 1) := by decide +kernel
theorem dL_law_214 : decode cL_law 214 = .ok (.iadd, 1) := by decide +kernel
theorem dL_law_215 : decode cL_law 215 = .ok (.iaload, 1) := by decide +kernel
theorem dL_law_216 : decode cL_law 216 = .ok (.invokevirtual 37, 3) := by decide +kernel
theorem dL_law_219 : decode cL_law 219 = .ok (.aload_n 2, 1) := by decide +kernel
theorem dL_law_220 : decode cL_law 220 = .ok (.aload_n 0, 1) := by decide +kernel
theorem dL_law_221 : decode cL_law 221 = .ok (.iload 4, 2) := by decide +kernel
theorem dL_law_223 : decode cL_law 223 = .ok (.iconst 1, 1) := by decide +kernel
theorem dL_law_224 : decode cL_law 224 = .ok (.iadd, 1) := by decide +kernel
theorem dL_law_225 : decode cL_law 225 = .ok (.iaload, 1) := by decide +kernel
theorem dL_law_226 : decode cL_law 226 = .ok (.invokevirtual 41, 3) := by decide +kernel
theorem dL_law_229 : decode cL_law 229 = .ok (.if_icmp .eq 1006, 3) := by decide +kernel
theorem dL_law_232 : decode cL_law 232 = .ok (.iconst 0, 1) := by decide +kernel
theorem dL_law_233 : decode cL_law 233 = .ok (.ireturn, 1) := by decide +kernel
theorem dL_law_234 : decode cL_law 234 = .ok (.aload_n 1, 1) := by decide +kernel
theorem dL_law_235 : decode cL_law 235 = .ok (.aload_n 0, 1) := by decide +kernel
theorem dL_law_236 : decode cL_law 236 = .ok (.iload 4, 2) := by decide +kernel
theorem dL_law_238 : decode cL_law 238 = .ok (.iconst 1, 1) := by decide +kernel
theorem dL_law_239 : decode cL_law 239 = .ok (.iadd, 1) := by decide +kernel
theorem dL_law_240 : decode cL_law 240 = .ok (.iaload, 1) := by decide +kernel
theorem dL_law_241 : decode cL_law 241 = .ok (.aload_n 0, 1) := by decide +kernel
theorem dL_law_242 : decode cL_law 242 = .ok (.iload 4, 2) := by decide +kernel
theorem dL_law_244 : decode cL_law 244 = .ok (.iconst 2, 1) := by decide +kernel
theorem dL_law_245 : decode cL_law 245 = .ok (.iadd, 1) := by decide +kernel
theorem dL_law_246 : decode cL_law 246 = .ok (.iaload, 1) := by decide +kernel
theorem dL_law_247 : decode cL_law 247 = .ok (.aload_n 0, 1) := by decide +kernel
theorem dL_law_248 : decode cL_law 248 = .ok (.iload 4, 2) := by decide +kernel
theorem dL_law_250 : decode cL_law 250 = .ok (.iconst 3, 1) := by decide +kernel
theorem dL_law_251 : decode cL_law 251 = .ok (.iadd, 1) := by decide +kernel
theorem dL_law_252 : decode cL_law 252 = .ok (.iaload, 1) := by decide +kernel
theorem dL_law_253 : decode cL_law 253 = .ok (.aload_n 0, 1) := by decide +kernel
theorem dL_law_254 : decode cL_law 254 = .ok (.iload 4, 2) := by decide +kernel
theorem dL_law_256 : decode cL_law 256 = .ok (.iconst 4, 1) := by decide +kernel
theorem dL_law_257 : decode cL_law 257 = .ok (.iadd, 1) := by decide +kernel
theorem dL_law_258 : decode cL_law 258 = .ok (.iaload, 1) := by decide +kernel
theorem dL_law_259 : decode cL_law 259 = .ok (.invokevirtual 42, 3) := by decide +kernel
theorem dL_law_262 : decode cL_law 262 = .ok (.aload_n 2, 1) := by decide +kernel
theorem dL_law_263 : decode cL_law 263 = .ok (.aload_n 0, 1) := by decide +kernel
theorem dL_law_264 : decode cL_law 264 = .ok (.iload 4, 2) := by decide +kernel
theorem dL_law_266 : decode cL_law 266 = .ok (.iconst 1, 1) := by decide +kernel
theorem dL_law_267 : decode cL_law 267 = .ok (.iadd, 1) := by decide +kernel
theorem dL_law_268 : decode cL_law 268 = .ok (.iaload, 1) := by decide +kernel
theorem dL_law_269 : decode cL_law 269 = .ok (.aload_n 0, 1) := by decide +kernel
theorem dL_law_270 : decode cL_law 270 = .ok (.iload 4, 2) := by decide +kernel
theorem dL_law_272 : decode cL_law 272 = .ok (.iconst 2, 1) := by decide +kernel
theorem dL_law_273 : decode cL_law 273 = .ok (.iadd, 1) := by decide +kernel
theorem dL_law_274 : decode cL_law 274 = .ok (.iaload, 1) := by decide +kernel
theorem dL_law_275 : decode cL_law 275 = .ok (.aload_n 0, 1) := by decide +kernel
theorem dL_law_276 : decode cL_law 276 = .ok (.iload 4, 2) := by decide +kernel
theorem dL_law_278 : decode cL_law 278 = .ok (.iconst 3, 1) := by decide +kernel
theorem dL_law_279 : decode cL_law 279 = .ok (.iadd, 1) := by decide +kernel
theorem dL_law_280 : decode cL_law 280 = .ok (.iaload, 1) := by decide +kernel
theorem dL_law_281 : decode cL_law 281 = .ok (.aload_n 0, 1) := by decide +kernel
theorem dL_law_282 : decode cL_law 282 = .ok (.iload 4, 2) := by decide +kernel
theorem dL_law_284 : decode cL_law 284 = .ok (.iconst 4, 1) := by decide +kernel
theorem dL_law_285 : decode cL_law 285 = .ok (.iadd, 1) := by decide +kernel
theorem dL_law_286 : decode cL_law 286 = .ok (.iaload, 1) := by decide +kernel
theorem dL_law_287 : decode cL_law 287 = .ok (.invokevirtual 46, 3) := by decide +kernel
theorem dL_law_290 : decode cL_law 290 = .ok (.if_icmp .eq 945, 3) := by decide +kernel
theorem dL_law_293 : decode cL_law 293 = .ok (.iconst 0, 1) := by decide +kernel
theorem dL_law_294 : decode cL_law 294 = .ok (.ireturn, 1) := by decide +kernel
theorem dL_law_295 : decode cL_law 295 = .ok (.aload_n 1, 1) := by decide +kernel
theorem dL_law_296 : decode cL_law 296 = .ok (.aload_n 0, 1) := by decide +kernel
theorem dL_law_297 : decode cL_law 297 = .ok (.iload 4, 2) := by decide +kernel
theorem dL_law_299 : decode cL_law 299 = .ok (.iconst 1, 1) := by decide +kernel
theorem dL_law_300 : decode cL_law 300 = .ok (.iadd, 1) := by decide +kernel
theorem dL_law_301 : decode cL_law 301 = .ok (.iaload, 1) := by decide +kernel
theorem dL_law_302 : decode cL_law 302 = .ok (.aload_n 0, 1) := by decide +kernel
theorem dL_law_303 : decode cL_law 303 = .ok (.iload 4, 2) := by decide +kernel
theorem dL_law_305 : decode cL_law 305 = .ok (.iconst 2, 1) := by decide +kernel
theorem dL_law_306 : decode cL_law 306 = .ok (.iadd, 1) := by decide +kernel
theorem dL_law_307 : decode cL_law 307 = .ok (.iaload, 1) := by decide +kernel
theorem dL_law_308 : decode cL_law 308 = .ok (.aload_n 0, 1) := by decide +kernel
theorem dL_law_309 : decode cL_law 309 = .ok (.iload 4, 2) := by decide +kernel
theorem dL_law_311 : decode cL_law 311 = .ok (.iconst 3, 1) := by decide +kernel
theorem dL_law_312 : decode cL_law 312 = .ok (.iadd, 1) := by decide +kernel
theorem dL_law_313 : decode cL_law 313 = .ok (.iaload, 1) := by decide +kernel
theorem dL_law_314 : decode cL_law 314 = .ok (.invokevirtual 47, 3) := by decide +kernel
theorem dL_law_317 : decode cL_law 317 = .ok (.aload_n 2, 1) := by decide +kernel
theorem dL_law_318 : decode cL_law 318 = .ok (.aload_n 0, 1) := by decide +kernel
theorem dL_law_319 : decode cL_law 319 = .ok (.iload 4, 2) := by decide +kernel
theorem dL_law_321 : decode cL_law 321 = .ok (.iconst 1, 1) := by decide +kernel
theorem dL_law_322 : decode cL_law 322 = .ok (.iadd, 1) := by decide +kernel
theorem dL_law_323 : decode cL_law 323 = .ok (.iaload, 1) := by decide +kernel
theorem dL_law_324 : decode cL_law 324 = .ok (.aload_n 0, 1) := by decide +kernel
theorem dL_law_325 : decode cL_law 325 = .ok (.iload 4, 2) := by decide +kernel
theorem dL_law_327 : decode cL_law 327 = .ok (.iconst 2, 1) := by decide +kernel
theorem dL_law_328 : decode cL_law 328 = .ok (.iadd, 1) := by decide +kernel
theorem dL_law_329 : decode cL_law 329 = .ok (.iaload, 1) := by decide +kernel
theorem dL_law_330 : decode cL_law 330 = .ok (.aload_n 0, 1) := by decide +kernel
theorem dL_law_331 : decode cL_law 331 = .ok (.iload 4, 2) := by decide +kernel
theorem dL_law_333 : decode cL_law 333 = .ok (.iconst 3, 1) := by decide +kernel
theorem dL_law_334 : decode cL_law 334 = .ok (.iadd, 1) := by decide +kernel
theorem dL_law_335 : decode cL_law 335 = .ok (.iaload, 1) := by decide +kernel
theorem dL_law_336 : decode cL_law 336 = .ok (.invokevirtual 51, 3) := by decide +kernel
theorem dL_law_339 : decode cL_law 339 = .ok (.if_icmp .eq 896, 3) := by decide +kernel
theorem dL_law_342 : decode cL_law 342 = .ok (.iconst 0, 1) := by decide +kernel
theorem dL_law_343 : decode cL_law 343 = .ok (.ireturn, 1) := by decide +kernel
theorem dL_law_344 : decode cL_law 344 = .ok (.aload_n 1, 1) := by decide +kernel
theorem dL_law_345 : decode cL_law 345 = .ok (.aload_n 0, 1) := by decide +kernel
theorem dL_law_346 : decode cL_law 346 = .ok (.iload 4, 2) := by decide +kernel
theorem dL_law_348 : decode cL_law 348 = .ok (.iconst 1, 1) := by decide +kernel
theorem dL_law_349 : decode cL_law 349 = .ok (.iadd, 1) := by decide +kernel
theorem dL_law_350 : decode cL_law 350 = .ok (.iaload, 1) := by decide +kernel
theorem dL_law_351 : decode cL_law 351 = .ok (.aload_n 0, 1) := by decide +kernel
theorem dL_law_352 : decode cL_law 352 = .ok (.iload 4, 2) := by decide +kernel
theorem dL_law_354 : decode cL_law 354 = .ok (.iconst 2, 1) := by decide +kernel
theorem dL_law_355 : decode cL_law 355 = .ok (.iadd, 1) := by decide +kernel
theorem dL_law_356 : decode cL_law 356 = .ok (.iaload, 1) := by decide +kernel
theorem dL_law_357 : decode cL_law 357 = .ok (.invokevirtual 52, 3) := by decide +kernel
theorem dL_law_360 : decode cL_law 360 = .ok (.aload_n 2, 1) := by decide +kernel
theorem dL_law_361 : decode cL_law 361 = .ok (.aload_n 0, 1) := by decide +kernel
theorem dL_law_362 : decode cL_law 362 = .ok (.iload 4, 2) := by decide +kernel
theorem dL_law_364 : decode cL_law 364 = .ok (.iconst 1, 1) := by decide +kernel
theorem dL_law_365 : decode cL_law 365 = .ok (.iadd, 1) := by decide +kernel
theorem dL_law_366 : decode cL_law 366 = .ok (.iaload, 1) := by decide +kernel
theorem dL_law_367 : decode cL_law 367 = .ok (.aload_n 0, 1) := by decide +kernel
theorem dL_law_368 : decode cL_law 368 = .ok (.iload 4, 2) := by decide +kernel
theorem dL_law_370 : decode cL_law 370 = .ok (.iconst 2, 1) := by decide +kernel
theorem dL_law_371 : decode cL_law 371 = .ok (.iadd, 1) := by decide +kernel
theorem dL_law_372 : decode cL_law 372 = .ok (.iaload, 1) := by decide +kernel
theorem dL_law_373 : decode cL_law 373 = .ok (.invokevirtual 55, 3) := by decide +kernel
theorem dL_law_376 : decode cL_law 376 = .ok (.if_icmp .eq 859, 3) := by decide +kernel
theorem dL_law_379 : decode cL_law 379 = .ok (.iconst 0, 1) := by decide +kernel
theorem dL_law_380 : decode cL_law 380 = .ok (.ireturn, 1) := by decide +kernel
theorem dL_law_381 : decode cL_law 381 = .ok (.aload_n 1, 1) := by decide +kernel
theorem dL_law_382 : decode cL_law 382 = .ok (.aload_n 0, 1) := by decide +kernel
theorem dL_law_383 : decode cL_law 383 = .ok (.iload 4, 2) := by decide +kernel
theorem dL_law_385 : decode cL_law 385 = .ok (.iconst 1, 1) := by decide +kernel
theorem dL_law_386 : decode cL_law 386 = .ok (.iadd, 1) := by decide +kernel
theorem dL_law_387 : decode cL_law 387 = .ok (.iaload, 1) := by decide +kernel
theorem dL_law_388 : decode cL_law 388 = .ok (.aload_n 0, 1) := by decide +kernel
theorem dL_law_389 : decode cL_law 389 = .ok (.iload 4, 2) := by decide +kernel
theorem dL_law_391 : decode cL_law 391 = .ok (.iconst 2, 1) := by decide +kernel
theorem dL_law_392 : decode cL_law 392 = .ok (.iadd, 1) := by decide +kernel
theorem dL_law_393 : decode cL_law 393 = .ok (.iaload, 1) := by decide +kernel
theorem dL_law_394 : decode cL_law 394 = .ok (.invokevirtual 56, 3) := by decide +kernel
theorem dL_law_397 : decode cL_law 397 = .ok (.aload_n 2, 1) := by decide +kernel
theorem dL_law_398 : decode cL_law 398 = .ok (.aload_n 0, 1) := by decide +kernel
theorem dL_law_399 : decode cL_law 399 = .ok (.iload 4, 2) := by decide +kernel
theorem dL_law_401 : decode cL_law 401 = .ok (.iconst 1, 1) := by decide +kernel
theorem dL_law_402 : decode cL_law 402 = .ok (.iadd, 1) := by decide +kernel
theorem dL_law_403 : decode cL_law 403 = .ok (.iaload, 1) := by decide +kernel
theorem dL_law_404 : decode cL_law 404 = .ok (.aload_n 0, 1) := by decide +kernel
theorem dL_law_405 : decode cL_law 405 = .ok (.iload 4, 2) := by decide +kernel
theorem dL_law_407 : decode cL_law 407 = .ok (.iconst 2, 1) := by decide +kernel
theorem dL_law_408 : decode cL_law 408 = .ok (.iadd, 1) := by decide +kernel
theorem dL_law_409 : decode cL_law 409 = .ok (.iaload, 1) := by decide +kernel
theorem dL_law_410 : decode cL_law 410 = .ok (.invokevirtual 59, 3) := by decide +kernel
theorem dL_law_413 : decode cL_law 413 = .ok (.if_icmp .eq 822, 3) := by decide +kernel
theorem dL_law_416 : decode cL_law 416 = .ok (.iconst 0, 1) := by decide +kernel
theorem dL_law_417 : decode cL_law 417 = .ok (.ireturn, 1) := by decide +kernel
theorem dL_law_418 : decode cL_law 418 = .ok (.aload_n 1, 1) := by decide +kernel
theorem dL_law_419 : decode cL_law 419 = .ok (.aload_n 0, 1) := by decide +kernel
theorem dL_law_420 : decode cL_law 420 = .ok (.iload 4, 2) := by decide +kernel
theorem dL_law_422 : decode cL_law 422 = .ok (.iconst 1, 1) := by decide +kernel
theorem dL_law_423 : decode cL_law 423 = .ok (.iadd, 1) := by decide +kernel
theorem dL_law_424 : decode cL_law 424 = .ok (.iaload, 1) := by decide +kernel
theorem dL_law_425 : decode cL_law 425 = .ok (.aload_n 0, 1) := by decide +kernel
theorem dL_law_426 : decode cL_law 426 = .ok (.iload 4, 2) := by decide +kernel
theorem dL_law_428 : decode cL_law 428 = .ok (.iconst 2, 1) := by decide +kernel
theorem dL_law_429 : decode cL_law 429 = .ok (.iadd, 1) := by decide +kernel
theorem dL_law_430 : decode cL_law 430 = .ok (.iaload, 1) := by decide +kernel
theorem dL_law_431 : decode cL_law 431 = .ok (.invokevirtual 60, 3) := by decide +kernel
theorem dL_law_434 : decode cL_law 434 = .ok (.aload_n 2, 1) := by decide +kernel
theorem dL_law_435 : decode cL_law 435 = .ok (.aload_n 0, 1) := by decide +kernel
theorem dL_law_436 : decode cL_law 436 = .ok (.iload 4, 2) := by decide +kernel
theorem dL_law_438 : decode cL_law 438 = .ok (.iconst 1, 1) := by decide +kernel
theorem dL_law_439 : decode cL_law 439 = .ok (.iadd, 1) := by decide +kernel
theorem dL_law_440 : decode cL_law 440 = .ok (.iaload, 1) := by decide +kernel
theorem dL_law_441 : decode cL_law 441 = .ok (.aload_n 0, 1) := by decide +kernel
theorem dL_law_442 : decode cL_law 442 = .ok (.iload 4, 2) := by decide +kernel
theorem dL_law_444 : decode cL_law 444 = .ok (.iconst 2, 1) := by decide +kernel
theorem dL_law_445 : decode cL_law 445 = .ok (.iadd, 1) := by decide +kernel
theorem dL_law_446 : decode cL_law 446 = .ok (.iaload, 1) := by decide +kernel
theorem dL_law_447 : decode cL_law 447 = .ok (.invokevirtual 63, 3) := by decide +kernel
theorem dL_law_450 : decode cL_law 450 = .ok (.if_icmp .eq 785, 3) := by decide +kernel
theorem dL_law_453 : decode cL_law 453 = .ok (.iconst 0, 1) := by decide +kernel
theorem dL_law_454 : decode cL_law 454 = .ok (.ireturn, 1) := by decide +kernel
theorem dL_law_455 : decode cL_law 455 = .ok (.aload_n 1, 1) := by decide +kernel
theorem dL_law_456 : decode cL_law 456 = .ok (.invokevirtual 64, 3) := by decide +kernel
theorem dL_law_459 : decode cL_law 459 = .ok (.aload_n 2, 1) := by decide +kernel
theorem dL_law_460 : decode cL_law 460 = .ok (.invokevirtual 68, 3) := by decide +kernel
theorem dL_law_463 : decode cL_law 463 = .ok (.if_icmp .eq 772, 3) := by decide +kernel
theorem dL_law_466 : decode cL_law 466 = .ok (.iconst 0, 1) := by decide +kernel
theorem dL_law_467 : decode cL_law 467 = .ok (.ireturn, 1) := by decide +kernel
theorem dL_law_468 : decode cL_law 468 = .ok (.aload_n 1, 1) := by decide +kernel
theorem dL_law_469 : decode cL_law 469 = .ok (.aload_n 0, 1) := by decide +kernel
theorem dL_law_470 : decode cL_law 470 = .ok (.iload 4, 2) := by decide +kernel
theorem dL_law_472 : decode cL_law 472 = .ok (.iconst 1, 1) := by decide +kernel
theorem dL_law_473 : decode cL_law 473 = .ok (.iadd, 1) := by decide +kernel
theorem dL_law_474 : decode cL_law 474 = .ok (.iaload, 1) := by decide +kernel
theorem dL_law_475 : decode cL_law 475 = .ok (.invokevirtual 69, 3) := by decide +kernel
theorem dL_law_478 : decode cL_law 478 = .ok (.aload_n 2, 1) := by decide +kernel
theorem dL_law_479 : decode cL_law 479 = .ok (.aload_n 0, 1) := by decide +kernel
theorem dL_law_480 : decode cL_law 480 = .ok (.iload 4, 2) := by decide +kernel
theorem dL_law_482 : decode cL_law 482 = .ok (.iconst 1, 1) := by decide +kernel
theorem dL_law_483 : decode cL_law 483 = .ok (.iadd, 1) := by decide +kernel
theorem dL_law_484 : decode cL_law 484 = .ok (.iaload, 1) := by decide +kernel
theorem dL_law_485 : decode cL_law 485 = .ok (.invokevirtual 72, 3) := by decide +kernel
theorem dL_law_488 : decode cL_law 488 = .ok (.if_icmp .eq 747, 3) := by decide +kernel
theorem dL_law_491 : decode cL_law 491 = .ok (.iconst 0, 1) := by decide +kernel
theorem dL_law_492 : decode cL_law 492 = .ok (.ireturn, 1) := by decide +kernel
theorem dL_law_493 : decode cL_law 493 = .ok (.aload_n 1, 1) := by decide +kernel
theorem dL_law_494 : decode cL_law 494 = .ok (.aload_n 0, 1) := by decide +kernel
theorem dL_law_495 : decode cL_law 495 = .ok (.iload 4, 2) := by decide +kernel
theorem dL_law_497 : decode cL_law 497 = .ok (.iconst 1, 1) := by decide +kernel
theorem dL_law_498 : decode cL_law 498 = .ok (.iadd, 1) := by decide +kernel
theorem dL_law_499 : decode cL_law 499 = .ok (.iaload, 1) := by decide +kernel
theorem dL_law_500 : decode cL_law 500 = .ok (.aload_n 0, 1) := by decide +kernel
theorem dL_law_501 : decode cL_law 501 = .ok (.iload 4, 2) := by decide +kernel
theorem dL_law_503 : decode cL_law 503 = .ok (.iconst 2, 1) := by decide +kernel
theorem dL_law_504 : decode cL_law 504 = .ok (.iadd, 1) := by decide +kernel
theorem dL_law_505 : decode cL_law 505 = .ok (.iaload, 1) := by decide +kernel
theorem dL_law_506 : decode cL_law 506 = .ok (.aload_n 3, 1) := by decide +kernel
theorem dL_law_507 : decode cL_law 507 = .ok (.invokestatic 73, 3) := by decide +kernel
theorem dL_law_510 : decode cL_law 510 = .ok (.istore 5, 2) := by decide +kernel
theorem dL_law_512 : decode cL_law 512 = .ok (.aload_n 2, 1) := by decide +kernel
theorem dL_law_513 : decode cL_law 513 = .ok (.aload_n 0, 1) := by decide +kernel
theorem dL_law_514 : decode cL_law 514 = .ok (.iload 4, 2) := by decide +kernel
theorem dL_law_516 : decode cL_law 516 = .ok (.iconst 1, 1) := by decide +kernel
theorem dL_law_517 : decode cL_law 517 = .ok (.iadd, 1) := by decide +kernel
theorem dL_law_518 : decode cL_law 518 = .ok (.iaload, 1) := by decide +kernel
theorem dL_law_519 : decode cL_law 519 = .ok (.aload_n 0, 1) := by decide +kernel
theorem dL_law_520 : decode cL_law 520 = .ok (.iload 4, 2) := by decide +kernel
theorem dL_law_522 : decode cL_law 522 = .ok (.iconst 2, 1) := by decide +kernel
theorem dL_law_523 : decode cL_law 523 = .ok (.iadd, 1) := by decide +kernel
theorem dL_law_524 : decode cL_law 524 = .ok (.iaload, 1) := by decide +kernel
theorem dL_law_525 : decode cL_law 525 = .ok (.invokevirtual 78, 3) := by decide +kernel
theorem dL_law_528 : decode cL_law 528 = .ok (.istore 6, 2) := by decide +kernel
theorem dL_law_530 : decode cL_law 530 = .ok (.aload_n 2, 1) := by decide +kernel
theorem dL_law_531 : decode cL_law 531 = .ok (.invokevirtual 79, 3) := by decide +kernel
theorem dL_law_534 : decode cL_law 534 = .ok (.iload 5, 2) := by decide +kernel
theorem dL_law_536 : decode cL_law 536 = .ok (.if_icmp .eq 5, 3) := by decide +kernel
theorem dL_law_539 : decode cL_law 539 = .ok (.iconst 0, 1) := by decide +kernel
theorem dL_law_540 : decode cL_law 540 = .ok (.ireturn, 1) := by decide +kernel
theorem dL_law_541 : decode cL_law 541 = .ok (.iload 5, 2) := by decide +kernel
theorem dL_law_543 : decode cL_law 543 = .ok (.ifCond .ne 15, 3) := by decide +kernel
theorem dL_law_546 : decode cL_law 546 = .ok (.aload_n 3, 1) := by decide +kernel
theorem dL_law_547 : decode cL_law 547 = .ok (.iconst 0, 1) := by decide +kernel
theorem dL_law_548 : decode cL_law 548 = .ok (.laload, 1) := by decide +kernel
theorem dL_law_549 : decode cL_law 549 = .ok (.iload 6, 2) := by decide +kernel
theorem dL_law_551 : decode cL_law 551 = .ok (.i2l, 1) := by decide +kernel
theorem dL_law_552 : decode cL_law 552 = .ok (.lcmp, 1) := by decide +kernel
theorem dL_law_553 : decode cL_law 553 = .ok (.ifCond .eq 5, 3) := by decide +kernel
theorem dL_law_556 : decode cL_law 556 = .ok (.iconst 0, 1) := by decide +kernel
theorem dL_law_557 : decode cL_law 557 = .ok (.ireturn, 1) := by decide +kernel
theorem dL_law_558 : decode cL_law 558 = .ok (.goto 677, 3) := by decide +kernel
theorem dL_law_561 : decode cL_law 561 = .ok (.aload_n 1, 1) := by decide +kernel
theorem dL_law_562 : decode cL_law 562 = .ok (.aload_n 0, 1) := by decide +kernel
theorem dL_law_563 : decode cL_law 563 = .ok (.iload 4, 2) := by decide +kernel
theorem dL_law_565 : decode cL_law 565 = .ok (.iconst 1, 1) := by decide +kernel
theorem dL_law_566 : decode cL_law 566 = .ok (.iadd, 1) := by decide +kernel
theorem dL_law_567 : decode cL_law 567 = .ok (.iaload, 1) := by decide +kernel
theorem dL_law_568 : decode cL_law 568 = .ok (.aload_n 0, 1) := by decide +kernel
theorem dL_law_569 : decode cL_law 569 = .ok (.iload 4, 2) := by decide +kernel
theorem dL_law_571 : decode cL_law 571 = .ok (.iconst 2, 1) := by decide +kernel
theorem dL_law_572 : decode cL_law 572 = .ok (.iadd, 1) := by decide +kernel
theorem dL_law_573 : decode cL_law 573 = .ok (.iaload, 1) := by decide +kernel
theorem dL_law_574 : decode cL_law 574 = .ok (.aload_n 3, 1) := by decide +kernel
theorem dL_law_575 : decode cL_law 575 = .ok (.invokestatic 82, 3) := by decide +kernel
theorem dL_law_578 : decode cL_law 578 = .ok (.istore 5, 2) := by decide +kernel
theorem dL_law_580 : decode cL_law 580 = .ok (.aload_n 2, 1) := by decide +kernel
theorem dL_law_581 : decode cL_law 581 = .ok (.aload_n 0, 1) := by decide +kernel
theorem dL_law_582 : decode cL_law 582 = .ok (.iload 4, 2) := by decide +kernel
theorem dL_law_584 : decode cL_law 584 = .ok (.iconst 1, 1) := by decide +kernel
theorem dL_law_585 : decode cL_law 585 = .ok (.iadd, 1) := by decide +kernel
theorem dL_law_586 : decode cL_law 586 = .ok (.iaload, 1) := by decide +kernel
theorem dL_law_587 : decode cL_law 587 = .ok (.aload_n 0, 1) := by decide +kernel
theorem dL_law_588 : decode cL_law 588 = .ok (.iload 4, 2) := by decide +kernel
theorem dL_law_590 : decode cL_law 590 = .ok (.iconst 2, 1) := by decide +kernel
theorem dL_law_591 : decode cL_law 591 = .ok (.iadd, 1) := by decide +kernel
theorem dL_law_592 : decode cL_law 592 = .ok (.iaload, 1) := by decide +kernel
theorem dL_law_593 : decode cL_law 593 = .ok (.invokevirtual 84, 3) := by decide +kernel
theorem dL_law_596 : decode cL_law 596 = .ok (.istore 6, 2) := by decide +kernel
theorem dL_law_598 : decode cL_law 598 = .ok (.aload_n 2, 1) := by decide +kernel
theorem dL_law_599 : decode cL_law 599 = .ok (.invokevirtual 79, 3) := by decide +kernel
theorem dL_law_602 : decode cL_law 602 = .ok (.iload 5, 2) := by decide +kernel
theorem dL_law_604 : decode cL_law 604 = .ok (.if_icmp .eq 5, 3) := by decide +kernel
theorem dL_law_607 : decode cL_law 607 = .ok (.iconst 0, 1) := by decide +kernel
theorem dL_law_608 : decode cL_law 608 = .ok (.ireturn, 1) := by decide +kernel
theorem dL_law_609 : decode cL_law 609 = .ok (.iload 5, 2) := by decide +kernel
theorem dL_law_611 : decode cL_law 611 = .ok (.ifCond .ne 15, 3) := by decide +kernel
theorem dL_law_614 : decode cL_law 614 = .ok (.aload_n 3, 1) := by decide +kernel
theorem dL_law_615 : decode cL_law 615 = .ok (.iconst 0, 1) := by decide +kernel
theorem dL_law_616 : decode cL_law 616 = .ok (.laload, 1) := by decide +kernel
theorem dL_law_617 : decode cL_law 617 = .ok (.iload 6, 2) := by decide +kernel
theorem dL_law_619 : decode cL_law 619 = .ok (.i2l, 1) := by decide +kernel
theorem dL_law_620 : decode cL_law 620 = .ok (.lcmp, 1) := by decide +kernel
theorem dL_law_621 : decode cL_law 621 = .ok (.ifCond .eq 5, 3) := by decide +kernel
theorem dL_law_624 : decode cL_law 624 = .ok (.iconst 0, 1) := by decide +kernel
theorem dL_law_625 : decode cL_law 625 = .ok (.ireturn, 1) := by decide +kernel
theorem dL_law_626 : decode cL_law 626 = .ok (.goto 609, 3) := by decide +kernel
theorem dL_law_629 : decode cL_law 629 = .ok (.aload_n 1, 1) := by decide +kernel
theorem dL_law_630 : decode cL_law 630 = .ok (.aload_n 0, 1) := by decide +kernel
theorem dL_law_631 : decode cL_law 631 = .ok (.iload 4, 2) := by decide +kernel
theorem dL_law_633 : decode cL_law 633 = .ok (.iconst 1, 1) := by decide +kernel
theorem dL_law_634 : decode cL_law 634 = .ok (.iadd, 1) := by decide +kernel
theorem dL_law_635 : decode cL_law 635 = .ok (.iaload, 1) := by decide +kernel
theorem dL_law_636 : decode cL_law 636 = .ok (.aload_n 3, 1) := by decide +kernel
theorem dL_law_637 : decode cL_law 637 = .ok (.invokestatic 85, 3) := by decide +kernel
theorem dL_law_640 : decode cL_law 640 = .ok (.istore 5, 2) := by decide +kernel
theorem dL_law_642 : decode cL_law 642 = .ok (.aload_n 2, 1) := by decide +kernel
theorem dL_law_643 : decode cL_law 643 = .ok (.aload_n 0, 1) := by decide +kernel
theorem dL_law_644 : decode cL_law 644 = .ok (.iload 4, 2) := by decide +kernel
theorem dL_law_646 : decode cL_law 646 = .ok (.iconst 1, 1) := by decide +kernel
theorem dL_law_647 : decode cL_law 647 = .ok (.iadd, 1) := by decide +kernel
theorem dL_law_648 : decode cL_law 648 = .ok (.iaload, 1) := by decide +kernel
theorem dL_law_649 : decode cL_law 649 = .ok (.invokevirtual 88, 3) := by decide +kernel
theorem dL_law_652 : decode cL_law 652 = .ok (.istore 6, 2) := by decide +kernel
theorem dL_law_654 : decode cL_law 654 = .ok (.aload_n 2, 1) := by decide +kernel
theorem dL_law_655 : decode cL_law 655 = .ok (.invokevirtual 79, 3) := by decide +kernel
theorem dL_law_658 : decode cL_law 658 = .ok (.iload 5, 2) := by decide +kernel
theorem dL_law_660 : decode cL_law 660 = .ok (.if_icmp .eq 5, 3) := by decide +kernel
theorem dL_law_663 : decode cL_law 663 = .ok (.iconst 0, 1) := by decide +kernel
theorem dL_law_664 : decode cL_law 664 = .ok (.ireturn, 1) := by decide +kernel
theorem dL_law_665 : decode cL_law 665 = .ok (.iload 5, 2) := by decide +kernel
theorem dL_law_667 : decode cL_law 667 = .ok (.ifCond .ne 15, 3) := by decide +kernel
theorem dL_law_670 : decode cL_law 670 = .ok (.aload_n 3, 1) := by decide +kernel
theorem dL_law_671 : decode cL_law 671 = .ok (.iconst 0, 1) := by decide +kernel
theorem dL_law_672 : decode cL_law 672 = .ok (.laload, 1) := by decide +kernel
theorem dL_law_673 : decode cL_law 673 = .ok (.iload 6, 2) := by decide +kernel
theorem dL_law_675 : decode cL_law 675 = .ok (.i2l, 1) := by decide +kernel
theorem dL_law_676 : decode cL_law 676 = .ok (.lcmp, 1) := by decide +kernel
theorem dL_law_677 : decode cL_law 677 = .ok (.ifCond .eq 5, 3) := by decide +kernel
theorem dL_law_680 : decode cL_law 680 = .ok (.iconst 0, 1) := by decide +kernel
theorem dL_law_681 : decode cL_law 681 = .ok (.ireturn, 1) := by decide +kernel
theorem dL_law_682 : decode cL_law 682 = .ok (.goto 553, 3) := by decide +kernel
theorem dL_law_685 : decode cL_law 685 = .ok (.aload_n 1, 1) := by decide +kernel
theorem dL_law_686 : decode cL_law 686 = .ok (.aload_n 0, 1) := by decide +kernel
theorem dL_law_687 : decode cL_law 687 = .ok (.iload 4, 2) := by decide +kernel
theorem dL_law_689 : decode cL_law 689 = .ok (.iconst 1, 1) := by decide +kernel
theorem dL_law_690 : decode cL_law 690 = .ok (.iadd, 1) := by decide +kernel
theorem dL_law_691 : decode cL_law 691 = .ok (.iaload, 1) := by decide +kernel
theorem dL_law_692 : decode cL_law 692 = .ok (.invokevirtual 89, 3) := by decide +kernel
theorem dL_law_695 : decode cL_law 695 = .ok (.aload_n 2, 1) := by decide +kernel
theorem dL_law_696 : decode cL_law 696 = .ok (.aload_n 0, 1) := by decide +kernel
theorem dL_law_697 : decode cL_law 697 = .ok (.iload 4, 2) := by decide +kernel
theorem dL_law_699 : decode cL_law 699 = .ok (.iconst 1, 1) := by decide +kernel
theorem dL_law_700 : decode cL_law 700 = .ok (.iadd, 1) := by decide +kernel
theorem dL_law_701 : decode cL_law 701 = .ok (.iaload, 1) := by decide +kernel
theorem dL_law_702 : decode cL_law 702 = .ok (.invokevirtual 92, 3) := by decide +kernel
theorem dL_law_705 : decode cL_law 705 = .ok (.if_icmp .eq 530, 3) := by decide +kernel
theorem dL_law_708 : decode cL_law 708 = .ok (.iconst 0, 1) := by decide +kernel
theorem dL_law_709 : decode cL_law 709 = .ok (.ireturn, 1) := by decide +kernel
theorem dL_law_710 : decode cL_law 710 = .ok (.aload_n 1, 1) := by decide +kernel
theorem dL_law_711 : decode cL_law 711 = .ok (.invokevirtual 93, 3) := by decide +kernel
theorem dL_law_714 : decode cL_law 714 = .ok (.aload_n 2, 1) := by decide +kernel
theorem dL_law_715 : decode cL_law 715 = .ok (.invokevirtual 96, 3) := by decide +kernel
theorem dL_law_718 : decode cL_law 718 = .ok (.if_icmp .eq 517, 3) := by decide +kernel
theorem dL_law_721 : decode cL_law 721 = .ok (.iconst 0, 1) := by decide +kernel
theorem dL_law_722 : decode cL_law 722 = .ok (.ireturn, 1) := by decide +kernel
theorem dL_law_723 : decode cL_law 723 = .ok (.aload_n 1, 1) := by decide +kernel
theorem dL_law_724 : decode cL_law 724 = .ok (.aload_n 0, 1) := by decide +kernel
theorem dL_law_725 : decode cL_law 725 = .ok (.iload 4, 2) := by decide +kernel
theorem dL_law_727 : decode cL_law 727 = .ok (.iconst 1, 1) := by decide +kernel
theorem dL_law_728 : decode cL_law 728 = .ok (.iadd, 1) := by decide +kernel
theorem dL_law_729 : decode cL_law 729 = .ok (.iaload, 1) := by decide +kernel
theorem dL_law_730 : decode cL_law 730 = .ok (.invokevirtual 97, 3) := by decide +kernel
theorem dL_law_733 : decode cL_law 733 = .ok (.aload_n 2, 1) := by decide +kernel
theorem dL_law_734 : decode cL_law 734 = .ok (.aload_n 0, 1) := by decide +kernel
theorem dL_law_735 : decode cL_law 735 = .ok (.iload 4, 2) := by decide +kernel
theorem dL_law_737 : decode cL_law 737 = .ok (.iconst 1, 1) := by decide +kernel
theorem dL_law_738 : decode cL_law 738 = .ok (.iadd, 1) := by decide +kernel
theorem dL_law_739 : decode cL_law 739 = .ok (.iaload, 1) := by decide +kernel
theorem dL_law_740 : decode cL_law 740 = .ok (.invokevirtual 100, 3) := by decide +kernel
theorem dL_law_743 : decode cL_law 743 = .ok (.if_icmp .eq 492, 3) := by decide +kernel
theorem dL_law_746 : decode cL_law 746 = .ok (.iconst 0, 1) := by decide +kernel
theorem dL_law_747 : decode cL_law 747 = .ok (.ireturn, 1) := by decide +kernel
theorem dL_law_748 : decode cL_law 748 = .ok (.aload_n 1, 1) := by decide +kernel
theorem dL_law_749 : decode cL_law 749 = .ok (.aload_n 0, 1) := by decide +kernel
theorem dL_law_750 : decode cL_law 750 = .ok (.iload 4, 2) := by decide +kernel
theorem dL_law_752 : decode cL_law 752 = .ok (.iconst 1, 1) := by decide +kernel
theorem dL_law_753 : decode cL_law 753 = .ok (.iadd, 1) := by decide +kernel
theorem dL_law_754 : decode cL_law 754 = .ok (.iaload, 1) := by decide +kernel
theorem dL_law_755 : decode cL_law 755 = .ok (.invokevirtual 101, 3) := by decide +kernel
theorem dL_law_758 : decode cL_law 758 = .ok (.aload_n 2, 1) := by decide +kernel
theorem dL_law_759 : decode cL_law 759 = .ok (.aload_n 0, 1) := by decide +kernel
theorem dL_law_760 : decode cL_law 760 = .ok (.iload 4, 2) := by decide +kernel
theorem dL_law_762 : decode cL_law 762 = .ok (.iconst 1, 1) := by decide +kernel
theorem dL_law_763 : decode cL_law 763 = .ok (.iadd, 1) := by decide +kernel
theorem dL_law_764 : decode cL_law 764 = .ok (.iaload, 1) := by decide +kernel
theorem dL_law_765 : decode cL_law 765 = .ok (.invokevirtual 104, 3) := by decide +kernel
theorem dL_law_768 : decode cL_law 768 = .ok (.if_icmp .eq 467, 3) := by decide +kernel
theorem dL_law_771 : decode cL_law 771 = .ok (.iconst 0, 1) := by decide +kernel
theorem dL_law_772 : decode cL_law 772 = .ok (.ireturn, 1) := by decide +kernel
theorem dL_law_773 : decode cL_law 773 = .ok (.aload_n 1, 1) := by decide +kernel
theorem dL_law_774 : decode cL_law 774 = .ok (.aload_n 0, 1) := by decide +kernel
theorem dL_law_775 : decode cL_law 775 = .ok (.iload 4, 2) := by decide +kernel
theorem dL_law_777 : decode cL_law 777 = .ok (.iconst 1, 1) := by decide +kernel
theorem dL_law_778 : decode cL_law 778 = .ok (.iadd, 1) := by decide +kernel
theorem dL_law_779 : decode cL_law 779 = .ok (.iaload, 1) := by decide +kernel
theorem dL_law_780 : decode cL_law 780 = .ok (.invokevirtual 105, 3) := by decide +kernel
theorem dL_law_783 : decode cL_law 783 = .ok (.aload_n 2, 1) := by decide +kernel
theorem dL_law_784 : decode cL_law 784 = .ok (.aload_n 0, 1) := by decide +kernel
theorem dL_law_785 : decode cL_law 785 = .ok (.iload 4, 2) := by decide +kernel
theorem dL_law_787 : decode cL_law 787 = .ok (.iconst 1, 1) := by decide +kernel
theorem dL_law_788 : decode cL_law 788 = .ok (.iadd, 1) := by decide +kernel
theorem dL_law_789 : decode cL_law 789 = .ok (.iaload, 1) := by decide +kernel
theorem dL_law_790 : decode cL_law 790 = .ok (.invokevirtual 108, 3) := by decide +kernel
theorem dL_law_793 : decode cL_law 793 = .ok (.if_icmp .eq 442, 3) := by decide +kernel
theorem dL_law_796 : decode cL_law 796 = .ok (.iconst 0, 1) := by decide +kernel
theorem dL_law_797 : decode cL_law 797 = .ok (.ireturn, 1) := by decide +kernel
theorem dL_law_798 : decode cL_law 798 = .ok (.aload_n 1, 1) := by decide +kernel
theorem dL_law_799 : decode cL_law 799 = .ok (.invokevirtual 109, 3) := by decide +kernel
theorem dL_law_802 : decode cL_law 802 = .ok (.aload_n 2, 1) := by decide +kernel
theorem dL_law_803 : decode cL_law 803 = .ok (.invokevirtual 112, 3) := by decide +kernel
theorem dL_law_806 : decode cL_law 806 = .ok (.if_icmp .eq 429, 3) := by decide +kernel
theorem dL_law_809 : decode cL_law 809 = .ok (.iconst 0, 1) := by decide +kernel
theorem dL_law_810 : decode cL_law 810 = .ok (.ireturn, 1) := by decide +kernel
theorem dL_law_811 : decode cL_law 811 = .ok (.aload_n 1, 1) := by decide +kernel
theorem dL_law_812 : decode cL_law 812 = .ok (.aload_n 0, 1) := by decide +kernel
theorem dL_law_813 : decode cL_law 813 = .ok (.iload 4, 2) := by decide +kernel
theorem dL_law_815 : decode cL_law 815 = .ok (.iconst 1, 1) := by decide +kernel
theorem dL_law_816 : decode cL_law 816 = .ok (.iadd, 1) := by decide +kernel
theorem dL_law_817 : decode cL_law 817 = .ok (.iaload, 1) := by decide +kernel
theorem dL_law_818 : decode cL_law 818 = .ok (.invokevirtual 113, 3) := by decide +kernel
theorem dL_law_821 : decode cL_law 821 = .ok (.aload_n 2, 1) := by decide +kernel
theorem dL_law_822 : decode cL_law 822 = .ok (.aload_n 0, 1) := by decide +kernel
theorem dL_law_823 : decode cL_law 823 = .ok (.iload 4, 2) := by decide +kernel
theorem dL_law_825 : decode cL_law 825 = .ok (.iconst 1, 1) := by decide +kernel
theorem dL_law_826 : decode cL_law 826 = .ok (.iadd, 1) := by decide +kernel
theorem dL_law_827 : decode cL_law 827 = .ok (.iaload, 1) := by decide +kernel
theorem dL_law_828 : decode cL_law 828 = .ok (.invokevirtual 116, 3) := by decide +kernel
theorem dL_law_831 : decode cL_law 831 = .ok (.if_icmp .eq 404, 3) := by decide +kernel
theorem dL_law_834 : decode cL_law 834 = .ok (.iconst 0, 1) := by decide +kernel
theorem dL_law_835 : decode cL_law 835 = .ok (.ireturn, 1) := by decide +kernel
theorem dL_law_836 : decode cL_law 836 = .ok (.aload_n 1, 1) := by decide +kernel
theorem dL_law_837 : decode cL_law 837 = .ok (.aload_n 0, 1) := by decide +kernel
theorem dL_law_838 : decode cL_law 838 = .ok (.iload 4, 2) := by decide +kernel
theorem dL_law_840 : decode cL_law 840 = .ok (.iconst 1, 1) := by decide +kernel
theorem dL_law_841 : decode cL_law 841 = .ok (.iadd, 1) := by decide +kernel
theorem dL_law_842 : decode cL_law 842 = .ok (.iaload, 1) := by decide +kernel
theorem dL_law_843 : decode cL_law 843 = .ok (.invokevirtual 117, 3) := by decide +kernel
theorem dL_law_846 : decode cL_law 846 = .ok (.aload_n 2, 1) := by decide +kernel
theorem dL_law_847 : decode cL_law 847 = .ok (.aload_n 0, 1) := by decide +kernel
theorem dL_law_848 : decode cL_law 848 = .ok (.iload 4, 2) := by decide +kernel
theorem dL_law_850 : decode cL_law 850 = .ok (.iconst 1, 1) := by decide +kernel
theorem dL_law_851 : decode cL_law 851 = .ok (.iadd, 1) := by decide +kernel
theorem dL_law_852 : decode cL_law 852 = .ok (.iaload, 1) := by decide +kernel
theorem dL_law_853 : decode cL_law 853 = .ok (.invokevirtual 120, 3) := by decide +kernel
theorem dL_law_856 : decode cL_law 856 = .ok (.if_icmp .eq 379, 3) := by decide +kernel
theorem dL_law_859 : decode cL_law 859 = .ok (.iconst 0, 1) := by decide +kernel
theorem dL_law_860 : decode cL_law 860 = .ok (.ireturn, 1) := by decide +kernel
theorem dL_law_861 : decode cL_law 861 = .ok (.aload_n 1, 1) := by decide +kernel
theorem dL_law_862 : decode cL_law 862 = .ok (.aload_n 0, 1) := by decide +kernel
theorem dL_law_863 : decode cL_law 863 = .ok (.iload 4, 2) := by decide +kernel
theorem dL_law_865 : decode cL_law 865 = .ok (.iconst 1, 1) := by decide +kernel
theorem dL_law_866 : decode cL_law 866 = .ok (.iadd, 1) := by decide +kernel
theorem dL_law_867 : decode cL_law 867 = .ok (.iaload, 1) := by decide +kernel
theorem dL_law_868 : decode cL_law 868 = .ok (.aload_n 0, 1) := by decide +kernel
theorem dL_law_869 : decode cL_law 869 = .ok (.iload 4, 2) := by decide +kernel
theorem dL_law_871 : decode cL_law 871 = .ok (.iconst 2, 1) := by decide +kernel
theorem dL_law_872 : decode cL_law 872 = .ok (.iadd, 1) := by decide +kernel
theorem dL_law_873 : decode cL_law 873 = .ok (.iaload, 1) := by decide +kernel
theorem dL_law_874 : decode cL_law 874 = .ok (.invokevirtual 121, 3) := by decide +kernel
theorem dL_law_877 : decode cL_law 877 = .ok (.aload_n 2, 1) := by decide +kernel
theorem dL_law_878 : decode cL_law 878 = .ok (.aload_n 0, 1) := by decide +kernel
theorem dL_law_879 : decode cL_law 879 = .ok (.iload 4, 2) := by decide +kernel
theorem dL_law_881 : decode cL_law 881 = .ok (.iconst 1, 1) := by decide +kernel
theorem dL_law_882 : decode cL_law 882 = .ok (.iadd, 1) := by decide +kernel
theorem dL_law_883 : decode cL_law 883 = .ok (.iaload, 1) := by decide +kernel
theorem dL_law_884 : decode cL_law 884 = .ok (.aload_n 0, 1) := by decide +kernel
theorem dL_law_885 : decode cL_law 885 = .ok (.iload 4, 2) := by decide +kernel
theorem dL_law_887 : decode cL_law 887 = .ok (.iconst 2, 1) := by decide +kernel
theorem dL_law_888 : decode cL_law 888 = .ok (.iadd, 1) := by decide +kernel
theorem dL_law_889 : decode cL_law 889 = .ok (.iaload, 1) := by decide +kernel
theorem dL_law_890 : decode cL_law 890 = .ok (.invokevirtual 124, 3) := by decide +kernel
theorem dL_law_893 : decode cL_law 893 = .ok (.if_icmp .eq 342, 3) := by decide +kernel
theorem dL_law_896 : decode cL_law 896 = .ok (.iconst 0, 1) := by decide +kernel
theorem dL_law_897 : decode cL_law 897 = .ok (.ireturn, 1) := by decide +kernel
theorem dL_law_898 : decode cL_law 898 = .ok (.aload_n 1, 1) := by decide +kernel
theorem dL_law_899 : decode cL_law 899 = .ok (.invokevirtual 125, 3) := by decide +kernel
theorem dL_law_902 : decode cL_law 902 = .ok (.aload_n 2, 1) := by decide +kernel
theorem dL_law_903 : decode cL_law 903 = .ok (.invokevirtual 128, 3) := by decide +kernel
theorem dL_law_906 : decode cL_law 906 = .ok (.if_icmp .eq 329, 3) := by decide +kernel
theorem dL_law_909 : decode cL_law 909 = .ok (.iconst 0, 1) := by decide +kernel
theorem dL_law_910 : decode cL_law 910 = .ok (.ireturn, 1) := by decide +kernel
theorem dL_law_911 : decode cL_law 911 = .ok (.aload_n 1, 1) := by decide +kernel
theorem dL_law_912 : decode cL_law 912 = .ok (.invokevirtual 129, 3) := by decide +kernel
theorem dL_law_915 : decode cL_law 915 = .ok (.aload_n 2, 1) := by decide +kernel
theorem dL_law_916 : decode cL_law 916 = .ok (.invokevirtual 132, 3) := by decide +kernel
theorem dL_law_919 : decode cL_law 919 = .ok (.if_icmp .eq 316, 3) := by decide +kernel
theorem dL_law_922 : decode cL_law 922 = .ok (.iconst 0, 1) := by decide +kernel
theorem dL_law_923 : decode cL_law 923 = .ok (.ireturn, 1) := by decide +kernel
theorem dL_law_924 : decode cL_law 924 = .ok (.aload_n 1, 1) := by decide +kernel
theorem dL_law_925 : decode cL_law 925 = .ok (.aload_n 0, 1) := by decide +kernel
theorem dL_law_926 : decode cL_law 926 = .ok (.iload 4, 2) := by decide +kernel
theorem dL_law_928 : decode cL_law 928 = .ok (.iconst 1, 1) := by decide +kernel
theorem dL_law_929 : decode cL_law 929 = .ok (.iadd, 1) := by decide +kernel
theorem dL_law_930 : decode cL_law 930 = .ok (.iaload, 1) := by decide +kernel
theorem dL_law_931 : decode cL_law 931 = .ok (.invokevirtual 133, 3) := by decide +kernel
theorem dL_law_934 : decode cL_law 934 = .ok (.aload_n 2, 1) := by decide +kernel
theorem dL_law_935 : decode cL_law 935 = .ok (.aload_n 0, 1) := by decide +kernel
theorem dL_law_936 : decode cL_law 936 = .ok (.iload 4, 2) := by decide +kernel
theorem dL_law_938 : decode cL_law 938 = .ok (.iconst 1, 1) := by decide +kernel
theorem dL_law_939 : decode cL_law 939 = .ok (.iadd, 1) := by decide +kernel
theorem dL_law_940 : decode cL_law 940 = .ok (.iaload, 1) := by decide +kernel
theorem dL_law_941 : decode cL_law 941 = .ok (.invokevirtual 136, 3) := by decide +kernel
theorem dL_law_944 : decode cL_law 944 = .ok (.if_icmp .eq 291, 3) := by decide +kernel
theorem dL_law_947 : decode cL_law 947 = .ok (.iconst 0, 1) := by decide +kernel
theorem dL_law_948 : decode cL_law 948 = .ok (.ireturn, 1) := by decide +kernel
theorem dL_law_949 : decode cL_law 949 = .ok (.aload_n 1, 1) := by decide +kernel
theorem dL_law_950 : decode cL_law 950 = .ok (.aload_n 0, 1) := by decide +kernel
theorem dL_law_951 : decode cL_law 951 = .ok (.iload 4, 2) := by decide +kernel
theorem dL_law_953 : decode cL_law 953 = .ok (.iconst 1, 1) := by decide +kernel
theorem dL_law_954 : decode cL_law 954 = .ok (.iadd, 1) := by decide +kernel
theorem dL_law_955 : decode cL_law 955 = .ok (.iaload, 1) := by decide +kernel
theorem dL_law_956 : decode cL_law 956 = .ok (.aload_n 0, 1) := by decide +kernel
theorem dL_law_957 : decode cL_law 957 = .ok (.iload 4, 2) := by decide +kernel
theorem dL_law_959 : decode cL_law 959 = .ok (.iconst 2, 1) := by decide +kernel
theorem dL_law_960 : decode cL_law 960 = .ok (.iadd, 1) := by decide +kernel
theorem dL_law_961 : decode cL_law 961 = .ok (.iaload, 1) := by decide +kernel
theorem dL_law_962 : decode cL_law 962 = .ok (.aload_n 3, 1) := by decide +kernel
theorem dL_law_963 : decode cL_law 963 = .ok (.invokestatic 137, 3) := by decide +kernel
theorem dL_law_966 : decode cL_law 966 = .ok (.istore 5, 2) := by decide +kernel
theorem dL_law_968 : decode cL_law 968 = .ok (.aload_n 2, 1) := by decide +kernel
theorem dL_law_969 : decode cL_law 969 = .ok (.aload_n 0, 1) := by decide +kernel
theorem dL_law_970 : decode cL_law 970 = .ok (.iload 4, 2) := by decide +kernel
theorem dL_law_972 : decode cL_law 972 = .ok (.iconst 1, 1) := by decide +kernel
theorem dL_law_973 : decode cL_law 973 = .ok (.iadd, 1) := by decide +kernel
theorem dL_law_974 : decode cL_law 974 = .ok (.iaload, 1) := by decide +kernel
theorem dL_law_975 : decode cL_law 975 = .ok (.aload_n 0, 1) := by decide +kernel
theorem dL_law_976 : decode cL_law 976 = .ok (.iload 4, 2) := by decide +kernel
theorem dL_law_978 : decode cL_law 978 = .ok (.iconst 2, 1) := by decide +kernel
theorem dL_law_979 : decode cL_law 979 = .ok (.iadd, 1) := by decide +kernel
theorem dL_law_980 : decode cL_law 980 = .ok (.iaload, 1) := by decide +kernel
theorem dL_law_981 : decode cL_law 981 = .ok (.invokevirtual 139, 3) := by decide +kernel
theorem dL_law_984 : decode cL_law 984 = .ok (.istore 6, 2) := by decide +kernel
theorem dL_law_986 : decode cL_law 986 = .ok (.aload_n 2, 1) := by decide +kernel
theorem dL_law_987 : decode cL_law 987 = .ok (.invokevirtual 79, 3) := by decide +kernel
theorem dL_law_990 : decode cL_law 990 = .ok (.iload 5, 2) := by decide +kernel
theorem dL_law_992 : decode cL_law 992 = .ok (.if_icmp .eq 5, 3) := by decide +kernel
theorem dL_law_995 : decode cL_law 995 = .ok (.iconst 0, 1) := by decide +kernel
theorem dL_law_996 : decode cL_law 996 = .ok (.ireturn, 1) := by decide +kernel
theorem dL_law_997 : decode cL_law 997 = .ok (.iload 5, 2) := by decide +kernel
theorem dL_law_999 : decode cL_law 999 = .ok (.ifCond .ne 15, 3) := by decide +kernel
theorem dL_law_1002 : decode cL_law 1002 = .ok (.aload_n 3, 1) := by decide +kernel
theorem dL_law_1003 : decode cL_law 1003 = .ok (.iconst 0, 1) := by decide +kernel
theorem dL_law_1004 : decode cL_law 1004 = .ok (.laload, 1) := by decide +kernel
theorem dL_law_1005 : decode cL_law 1005 = .ok (.iload 6, 2) := by decide +kernel
theorem dL_law_1007 : decode cL_law 1007 = .ok (.i2l, 1) := by decide +kernel
theorem dL_law_1008 : decode cL_law 1008 = .ok (.lcmp, 1) := by decide +kernel
theorem dL_law_1009 : decode cL_law 1009 = .ok (.ifCond .eq 5, 3) := by decide +kernel
theorem dL_law_1012 : decode cL_law 1012 = .ok (.iconst 0, 1) := by decide +kernel
theorem dL_law_1013 : decode cL_law 1013 = .ok (.ireturn, 1) := by decide +kernel
theorem dL_law_1014 : decode cL_law 1014 = .ok (.goto 221, 3) := by decide +kernel
theorem dL_law_1017 : decode cL_law 1017 = .ok (.aload_n 1, 1) := by decide +kernel
theorem dL_law_1018 : decode cL_law 1018 = .ok (.aload_n 0, 1) := by decide +kernel
theorem dL_law_1019 : decode cL_law 1019 = .ok (.iload 4, 2) := by decide +kernel
theorem dL_law_1021 : decode cL_law 1021 = .ok (.iconst 1, 1) := by decide +kernel
theorem dL_law_1022 : decode cL_law 1022 = .ok (.iadd, 1) := by decide +kernel
theorem dL_law_1023 : decode cL_law 1023 = .ok (.iaload, 1) := by decide +kernel
theorem dL_law_1024 : decode cL_law 1024 = .ok (.invokevirtual 140, 3) := by decide +kernel
theorem dL_law_1027 : decode cL_law 1027 = .ok (.aload_n 2, 1) := by decide +kernel
theorem dL_law_1028 : decode cL_law 1028 = .ok (.aload_n 0, 1) := by decide +kernel
theorem dL_law_1029 : decode cL_law 1029 = .ok (.iload 4, 2) := by decide +kernel
theorem dL_law_1031 : decode cL_law 1031 = .ok (.iconst 1, 1) := by decide +kernel
theorem dL_law_1032 : decode cL_law 1032 = .ok (.iadd, 1) := by decide +kernel
theorem dL_law_1033 : decode cL_law 1033 = .ok (.iaload, 1) := by decide +kernel
theorem dL_law_1034 : decode cL_law 1034 = .ok (.invokevirtual 143, 3) := by decide +kernel
theorem dL_law_1037 : decode cL_law 1037 = .ok (.if_icmp .eq 198, 3) := by decide +kernel
theorem dL_law_1040 : decode cL_law 1040 = .ok (.iconst 0, 1) := by decide +kernel
theorem dL_law_1041 : decode cL_law 1041 = .ok (.ireturn, 1) := by decide +kernel
theorem dL_law_1042 : decode cL_law 1042 = .ok (.aload_n 1, 1) := by decide +kernel
theorem dL_law_1043 : decode cL_law 1043 = .ok (.invokevirtual 144, 3) := by decide +kernel
theorem dL_law_1046 : decode cL_law 1046 = .ok (.aload_n 2, 1) := by decide +kernel
theorem dL_law_1047 : decode cL_law 1047 = .ok (.invokevirtual 147, 3) := by decide +kernel
theorem dL_law_1050 : decode cL_law 1050 = .ok (.if_icmp .eq 185, 3) := by decide +kernel
theorem dL_law_1053 : decode cL_law 1053 = .ok (.iconst 0, 1) := by decide +kernel
theorem dL_law_1054 : decode cL_law 1054 = .ok (.ireturn, 1) := by decide +kernel
theorem dL_law_1055 : decode cL_law 1055 = .ok (.aload_n 1, 1) := by decide +kernel
theorem dL_law_1056 : decode cL_law 1056 = .ok (.invokevirtual 148, 3) := by decide +kernel
theorem dL_law_1059 : decode cL_law 1059 = .ok (.aload_n 2, 1) := by decide +kernel
theorem dL_law_1060 : decode cL_law 1060 = .ok (.invokevirtual 151, 3) := by decide +kernel
theorem dL_law_1063 : decode cL_law 1063 = .ok (.if_icmp .eq 172, 3) := by decide +kernel
theorem dL_law_1066 : decode cL_law 1066 = .ok (.iconst 0, 1) := by decide +kernel
theorem dL_law_1067 : decode cL_law 1067 = .ok (.ireturn, 1) := by decide +kernel
theorem dL_law_1068 : decode cL_law 1068 = .ok (.aload_n 1, 1) := by decide +kernel
theorem dL_law_1069 : decode cL_law 1069 = .ok (.aload_n 0, 1) := by decide +kernel
theorem dL_law_1070 : decode cL_law 1070 = .ok (.iload 4, 2) := by decide +kernel
theorem dL_law_1072 : decode cL_law 1072 = .ok (.iconst 1, 1) := by decide +kernel
theorem dL_law_1073 : decode cL_law 1073 = .ok (.iadd, 1) := by decide +kernel
theorem dL_law_1074 : decode cL_law 1074 = .ok (.iaload, 1) := by decide +kernel
theorem dL_law_1075 : decode cL_law 1075 = .ok (.aload_n 0, 1) := by decide +kernel
theorem dL_law_1076 : decode cL_law 1076 = .ok (.iload 4, 2) := by decide +kernel
theorem dL_law_1078 : decode cL_law 1078 = .ok (.iconst 2, 1) := by decide +kernel
theorem dL_law_1079 : decode cL_law 1079 = .ok (.iadd, 1) := by decide +kernel
theorem dL_law_1080 : decode cL_law 1080 = .ok (.iaload, 1) := by decide +kernel
theorem dL_law_1081 : decode cL_law 1081 = .ok (.invokevirtual 152, 3) := by decide +kernel
theorem dL_law_1084 : decode cL_law 1084 = .ok (.aload_n 2, 1) := by decide +kernel
theorem dL_law_1085 : decode cL_law 1085 = .ok (.aload_n 0, 1) := by decide +kernel
theorem dL_law_1086 : decode cL_law 1086 = .ok (.iload 4, 2) := by decide +kernel
theorem dL_law_1088 : decode cL_law 1088 = .ok (.iconst 1, 1) := by decide +kernel
theorem dL_law_1089 : decode cL_law 1089 = .ok (.iadd, 1) := by decide +kernel
theorem dL_law_1090 : decode cL_law 1090 = .ok (.iaload, 1) := by decide +kernel
theorem dL_law_1091 : decode cL_law 1091 = .ok (.aload_n 0, 1) := by decide +kernel
theorem dL_law_1092 : decode cL_law 1092 = .ok (.iload 4, 2) := by decide +kernel
theorem dL_law_1094 : decode cL_law 1094 = .ok (.iconst 2, 1) := by decide +kernel
theorem dL_law_1095 : decode cL_law 1095 = .ok (.iadd, 1) := by decide +kernel
theorem dL_law_1096 : decode cL_law 1096 = .ok (.iaload, 1) := by decide +kernel
theorem dL_law_1097 : decode cL_law 1097 = .ok (.invokevirtual 155, 3) := by decide +kernel
theorem dL_law_1100 : decode cL_law 1100 = .ok (.if_icmp .eq 135, 3) := by decide +kernel
theorem dL_law_1103 : decode cL_law 1103 = .ok (.iconst 0, 1) := by decide +kernel
theorem dL_law_1104 : decode cL_law 1104 = .ok (.ireturn, 1) := by decide +kernel
theorem dL_law_1105 : decode cL_law 1105 = .ok (.aload_n 1, 1) := by decide +kernel
theorem dL_law_1106 : decode cL_law 1106 = .ok (.aload_n 0, 1) := by decide +kernel
theorem dL_law_1107 : decode cL_law 1107 = .ok (.iload 4, 2) := by decide +kernel
theorem dL_law_1109 : decode cL_law 1109 = .ok (.iconst 1, 1) := by decide +kernel
theorem dL_law_1110 : decode cL_law 1110 = .ok (.iadd, 1) := by decide +kernel
theorem dL_law_1111 : decode cL_law 1111 = .ok (.iaload, 1) := by decide +kernel
theorem dL_law_1112 : decode cL_law 1112 = .ok (.invokevirtual 156, 3) := by decide +kernel
theorem dL_law_1115 : decode cL_law 1115 = .ok (.aload_n 2, 1) := by decide +kernel
theorem dL_law_1116 : decode cL_law 1116 = .ok (.aload_n 0, 1) := by decide +kernel
theorem dL_law_1117 : decode cL_law 1117 = .ok (.iload 4, 2) := by decide +kernel
theorem dL_law_1119 : decode cL_law 1119 = .ok (.iconst 1, 1) := by decide +kernel
theorem dL_law_1120 : decode cL_law 1120 = .ok (.iadd, 1) := by decide +kernel
theorem dL_law_1121 : decode cL_law 1121 = .ok (.iaload, 1) := by decide +kernel
theorem dL_law_1122 : decode cL_law 1122 = .ok (.invokevirtual 159, 3) := by decide +kernel
theorem dL_law_1125 : decode cL_law 1125 = .ok (.if_icmp .eq 110, 3) := by decide +kernel
theorem dL_law_1128 : decode cL_law 1128 = .ok (.iconst 0, 1) := by decide +kernel
theorem dL_law_1129 : decode cL_law 1129 = .ok (.ireturn, 1) := by decide +kernel
theorem dL_law_1130 : decode cL_law 1130 = .ok (.aload_n 1, 1) := by decide +kernel
theorem dL_law_1131 : decode cL_law 1131 = .ok (.aload_n 0, 1) := by decide +kernel
theorem dL_law_1132 : decode cL_law 1132 = .ok (.iload 4, 2) := by decide +kernel
theorem dL_law_1134 : decode cL_law 1134 = .ok (.iconst 1, 1) := by decide +kernel
theorem dL_law_1135 : decode cL_law 1135 = .ok (.iadd, 1) := by decide +kernel
theorem dL_law_1136 : decode cL_law 1136 = .ok (.iaload, 1) := by decide +kernel
theorem dL_law_1137 : decode cL_law 1137 = .ok (.invokevirtual 160, 3) := by decide +kernel
theorem dL_law_1140 : decode cL_law 1140 = .ok (.aload_n 2, 1) := by decide +kernel
theorem dL_law_1141 : decode cL_law 1141 = .ok (.aload_n 0, 1) := by decide +kernel
theorem dL_law_1142 : decode cL_law 1142 = .ok (.iload 4, 2) := by decide +kernel
theorem dL_law_1144 : decode cL_law 1144 = .ok (.iconst 1, 1) := by decide +kernel
theorem dL_law_1145 : decode cL_law 1145 = .ok (.iadd, 1) := by decide +kernel
theorem dL_law_1146 : decode cL_law 1146 = .ok (.iaload, 1) := by decide +kernel
theorem dL_law_1147 : decode cL_law 1147 = .ok (.invokevirtual 163, 3) := by decide +kernel
theorem dL_law_1150 : decode cL_law 1150 = .ok (.if_icmp .eq 85, 3) := by decide +kernel
theorem dL_law_1153 : decode cL_law 1153 = .ok (.iconst 0, 1) := by decide +kernel
theorem dL_law_1154 : decode cL_law 1154 = .ok (.ireturn, 1) := by decide +kernel
theorem dL_law_1155 : decode cL_law 1155 = .ok (.aload_n 1, 1) := by decide +kernel
theorem dL_law_1156 : decode cL_law 1156 = .ok (.aload_n 0, 1) := by decide +kernel
theorem dL_law_1157 : decode cL_law 1157 = .ok (.iload 4, 2) := by decide +kernel
theorem dL_law_1159 : decode cL_law 1159 = .ok (.iconst 1, 1) := by decide +kernel
theorem dL_law_1160 : decode cL_law 1160 = .ok (.iadd, 1) := by decide +kernel
theorem dL_law_1161 : decode cL_law 1161 = .ok (.iaload, 1) := by decide +kernel
theorem dL_law_1162 : decode cL_law 1162 = .ok (.invokevirtual 164, 3) := by decide +kernel
theorem dL_law_1165 : decode cL_law 1165 = .ok (.aload_n 2, 1) := by decide +kernel
theorem dL_law_1166 : decode cL_law 1166 = .ok (.aload_n 0, 1) := by decide +kernel
theorem dL_law_1167 : decode cL_law 1167 = .ok (.iload 4, 2) := by decide +kernel
theorem dL_law_1169 : decode cL_law 1169 = .ok (.iconst 1, 1) := by decide +kernel
theorem dL_law_1170 : decode cL_law 1170 = .ok (.iadd, 1) := by decide +kernel
theorem dL_law_1171 : decode cL_law 1171 = .ok (.iaload, 1) := by decide +kernel
theorem dL_law_1172 : decode cL_law 1172 = .ok (.invokevirtual 167, 3) := by decide +kernel
theorem dL_law_1175 : decode cL_law 1175 = .ok (.if_icmp .eq 60, 3) := by decide +kernel
theorem dL_law_1178 : decode cL_law 1178 = .ok (.iconst 0, 1) := by decide +kernel
theorem dL_law_1179 : decode cL_law 1179 = .ok (.ireturn, 1) := by decide +kernel
theorem dL_law_1180 : decode cL_law 1180 = .ok (.aload_n 1, 1) := by decide +kernel
theorem dL_law_1181 : decode cL_law 1181 = .ok (.aload_n 0, 1) := by decide +kernel
theorem dL_law_1182 : decode cL_law 1182 = .ok (.iload 4, 2) := by decide +kernel
theorem dL_law_1184 : decode cL_law 1184 = .ok (.iconst 1, 1) := by decide +kernel
theorem dL_law_1185 : decode cL_law 1185 = .ok (.iadd, 1) := by decide +kernel
theorem dL_law_1186 : decode cL_law 1186 = .ok (.iaload, 1) := by decide +kernel
theorem dL_law_1187 : decode cL_law 1187 = .ok (.aload_n 3, 1) := by decide +kernel
theorem dL_law_1188 : decode cL_law 1188 = .ok (.invokestatic 168, 3) := by decide +kernel
theorem dL_law_1191 : decode cL_law 1191 = .ok (.istore 5, 2) := by decide +kernel
theorem dL_law_1193 : decode cL_law 1193 = .ok (.aload_n 2, 1) := by decide +kernel
theorem dL_law_1194 : decode cL_law 1194 = .ok (.aload_n 0, 1) := by decide +kernel
theorem dL_law_1195 : decode cL_law 1195 = .ok (.iload 4, 2) := by decide +kernel
theorem dL_law_1197 : decode cL_law 1197 = .ok (.iconst 1, 1) := by decide +kernel
theorem dL_law_1198 : decode cL_law 1198 = .ok (.iadd, 1) := by decide +kernel
theorem dL_law_1199 : decode cL_law 1199 = .ok (.iaload, 1) := by decide +kernel
theorem dL_law_1200 : decode cL_law 1200 = .ok (.invokevirtual 170, 3) := by decide +kernel
theorem dL_law_1203 : decode cL_law 1203 = .ok (.lstore 6, 2) := by decide +kernel
theorem dL_law_1205 : decode cL_law 1205 = .ok (.aload_n 2, 1) := by decide +kernel
theorem dL_law_1206 : decode cL_law 1206 = .ok (.invokevirtual 79, 3) := by decide +kernel
theorem dL_law_1209 : decode cL_law 1209 = .ok (.iload 5, 2) := by decide +kernel
theorem dL_law_1211 : decode cL_law 1211 = .ok (.if_icmp .eq 5, 3) := by decide +kernel
theorem dL_law_1214 : decode cL_law 1214 = .ok (.iconst 0, 1) := by decide +kernel
theorem dL_law_1215 : decode cL_law 1215 = .ok (.ireturn, 1) := by decide +kernel
theorem dL_law_1216 : decode cL_law 1216 = .ok (.iload 5, 2) := by decide +kernel
theorem dL_law_1218 : decode cL_law 1218 = .ok (.ifCond .ne 14, 3) := by decide +kernel
theorem dL_law_1221 : decode cL_law 1221 = .ok (.aload_n 3, 1) := by decide +kernel
theorem dL_law_1222 : decode cL_law 1222 = .ok (.iconst 0, 1) := by decide +kernel
theorem dL_law_1223 : decode cL_law 1223 = .ok (.laload, 1) := by decide +kernel
theorem dL_law_1224 : decode cL_law 1224 = .ok (.lload 6, 2) := by decide +kernel
theorem dL_law_1226 : decode cL_law 1226 = .ok (.lcmp, 1) := by decide +kernel
theorem dL_law_1227 : decode cL_law 1227 = .ok (.ifCond .eq 5, 3) := by decide +kernel
theorem dL_law_1230 : decode cL_law 1230 = .ok (.iconst 0, 1) := by decide +kernel
theorem dL_law_1231 : decode cL_law 1231 = .ok (.ireturn, 1) := by decide +kernel
theorem dL_law_1232 : decode cL_law 1232 = .ok (.goto 3, 3) := by decide +kernel
theorem dL_law_1235 : decode cL_law 1235 = .ok (.iinc 4 5, 3) := by decide +kernel
theorem dL_law_1238 : decode cL_law 1238 = .ok (.goto (-1215), 3) := by decide +kernel
theorem dL_law_1241 : decode cL_law 1241 = .ok (.iconst 1, 1) := by decide +kernel
theorem dL_law_1242 : decode cL_law 1242 = .ok (.ireturn, 1) := by decide +kernel
