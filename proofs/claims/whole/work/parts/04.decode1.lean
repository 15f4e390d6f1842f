theorem dX9_feed_0 : decode cX9_feed 0 = .ok (.iload_n 1, 1) := by decide +kernel
theorem dX9_feed_1 : decode cX9_feed 1 = .ok (.iconst 1, 1) := by decide +kernel
theorem dX9_feed_2 : decode cX9_feed 2 = .ok (.bipush 8, 2) := by decide +kernel
theorem dX9_feed_4 : decode cX9_feed 4 = .ok (.invokestatic 70, 3) := by decide +kernel
theorem dX9_feed_7 : decode cX9_feed 7 = .ok (.ifCond .ne 6, 3) := by decide +kernel
theorem dX9_feed_10 : decode cX9_feed 10 = .ok (.bipush (-2), 2) := by decide +kernel
theorem dX9_feed_12 : decode cX9_feed 12 = .ok (.ireturn, 1) := by decide +kernel
theorem dX9_feed_13 : decode cX9_feed 13 = .ok (.aload_n 0, 1) := by decide +kernel
theorem dX9_feed_14 : decode cX9_feed 14 = .ok (.getfield 34, 3) := by decide +kernel
theorem dX9_feed_17 : decode cX9_feed 17 = .ok (.getfield 124, 3) := by decide +kernel
theorem dX9_feed_20 : decode cX9_feed 20 = .ok (.iload_n 1, 1) := by decide +kernel
theorem dX9_feed_21 : decode cX9_feed 21 = .ok (.iadd, 1) := by decide +kernel
theorem dX9_feed_22 : decode cX9_feed 22 = .ok (.sipush 160, 3) := by decide +kernel
theorem dX9_feed_25 : decode cX9_feed 25 = .ok (.if_icmp .le 6, 3) := by decide +kernel
theorem dX9_feed_28 : decode cX9_feed 28 = .ok (.bipush (-4), 2) := by decide +kernel
theorem dX9_feed_30 : decode cX9_feed 30 = .ok (.ireturn, 1) := by decide +kernel
theorem dX9_feed_31 : decode cX9_feed 31 = .ok (.aload_n 0, 1) := by decide +kernel
theorem dX9_feed_32 : decode cX9_feed 32 = .ok (.getfield 34, 3) := by decide +kernel
theorem dX9_feed_35 : decode cX9_feed 35 = .ok (.iload_n 1, 1) := by decide +kernel
theorem dX9_feed_36 : decode cX9_feed 36 = .ok (.lload_n 2, 1) := by decide +kernel
theorem dX9_feed_37 : decode cX9_feed 37 = .ok (.invokevirtual 127, 3) := by decide +kernel
theorem dX9_feed_40 : decode cX9_feed 40 = .ok (.aload_n 0, 1) := by decide +kernel
theorem dX9_feed_41 : decode cX9_feed 41 = .ok (.getfield 34, 3) := by decide +kernel
theorem dX9_feed_44 : decode cX9_feed 44 = .ok (.getfield 124, 3) := by decide +kernel
theorem dX9_feed_47 : decode cX9_feed 47 = .ok (.ireturn, 1) := by decide +kernel
theorem dX9_text_0 : decode cX9_text 0 = .ok (.aload_n 0, 1) := by decide +kernel
theorem dX9_text_1 : decode cX9_text 1 = .ok (.getfield 10, 3) := by decide +kernel
theorem dX9_text_4 : decode cX9_text 4 = .ok (.getfield 131, 3) := by decide +kernel
theorem dX9_text_7 : decode cX9_text 7 = .ok (.bipush 6, 2) := by decide +kernel
theorem dX9_text_9 : decode cX9_text 9 = .ok (.if_icmp .lt 6, 3) := by decide +kernel
theorem dX9_text_12 : decode cX9_text 12 = .ok (.bipush (-4), 2) := by decide +kernel
theorem dX9_text_14 : decode cX9_text 14 = .ok (.ireturn, 1) := by decide +kernel
theorem dX9_text_15 : decode cX9_text 15 = .ok (.aload_n 0, 1) := by decide +kernel
theorem dX9_text_16 : decode cX9_text 16 = .ok (.getfield 41, 3) := by decide +kernel
theorem dX9_text_19 : decode cX9_text 19 = .ok (.aload_n 0, 1) := by decide +kernel
theorem dX9_text_20 : decode cX9_text 20 = .ok (.getfield 34, 3) := by decide +kernel
theorem dX9_text_23 : decode cX9_text 23 = .ok (.invokevirtual 134, 3) := by decide +kernel
theorem dX9_text_26 : decode cX9_text 26 = .ok (.astore_n 1, 1) := by decide +kernel
theorem dX9_text_27 : decode cX9_text 27 = .ok (.aload_n 0, 1) := by decide +kernel
theorem dX9_text_28 : decode cX9_text 28 = .ok (.getfield 34, 3) := by decide +kernel
theorem dX9_text_31 : decode cX9_text 31 = .ok (.iconst 0, 1) := by decide +kernel
theorem dX9_text_32 : decode cX9_text 32 = .ok (.putfield 124, 3) := by decide +kernel
theorem dX9_text_35 : decode cX9_text 35 = .ok (.aload_n 1, 1) := by decide +kernel
theorem dX9_text_36 : decode cX9_text 36 = .ok (.ifnonnull 14, 3) := by decide +kernel
theorem dX9_text_39 : decode cX9_text 39 = .ok (.bipush (-100), 2) := by decide +kernel
theorem dX9_text_41 : decode cX9_text 41 = .ok (.aload_n 0, 1) := by decide +kernel
theorem dX9_text_42 : decode cX9_text 42 = .ok (.getfield 41, 3) := by decide +kernel
theorem dX9_text_45 : decode cX9_text 45 = .ok (.getfield 138, 3) := by decide +kernel
theorem dX9_text_48 : decode cX9_text 48 = .ok (.isub, 1) := by decide +kernel
theorem dX9_text_49 : decode cX9_text 49 = .ok (.ireturn, 1) := by decide +kernel
theorem dX9_text_50 : decode cX9_text 50 = .ok (.aload_n 0, 1) := by decide +kernel
theorem dX9_text_51 : decode cX9_text 51 = .ok (.getfield 10, 3) := by decide +kernel
theorem dX9_text_54 : decode cX9_text 54 = .ok (.getfield 141, 3) := by decide +kernel
theorem dX9_text_57 : decode cX9_text 57 = .ok (.aload_n 0, 1) := by decide +kernel
theorem dX9_text_58 : decode cX9_text 58 = .ok (.getfield 10, 3) := by decide +kernel
theorem dX9_text_61 : decode cX9_text 61 = .ok (.getfield 131, 3) := by decide +kernel
theorem dX9_text_64 : decode cX9_text 64 = .ok (.aload_n 1, 1) := by decide +kernel
theorem dX9_text_65 : decode cX9_text 65 = .ok (.aastore, 1) := by decide +kernel
theorem dX9_text_66 : decode cX9_text 66 = .ok (.aload_n 0, 1) := by decide +kernel
theorem dX9_text_67 : decode cX9_text 67 = .ok (.getfield 10, 3) := by decide +kernel
theorem dX9_text_70 : decode cX9_text 70 = .ok (.dup, 1) := by decide +kernel
theorem dX9_text_71 : decode cX9_text 71 = .ok (.getfield 131, 3) := by decide +kernel
theorem dX9_text_74 : decode cX9_text 74 = .ok (.iconst 1, 1) := by decide +kernel
theorem dX9_text_75 : decode cX9_text 75 = .ok (.iadd, 1) := by decide +kernel
theorem dX9_text_76 : decode cX9_text 76 = .ok (.putfield 131, 3) := by decide +kernel
theorem dX9_text_79 : decode cX9_text 79 = .ok (.aload_n 0, 1) := by decide +kernel
theorem dX9_text_80 : decode cX9_text 80 = .ok (.getfield 10, 3) := by decide +kernel
theorem dX9_text_83 : decode cX9_text 83 = .ok (.getfield 131, 3) := by decide +kernel
theorem dX9_text_86 : decode cX9_text 86 = .ok (.iconst 1, 1) := by decide +kernel
theorem dX9_text_87 : decode cX9_text 87 = .ok (.isub, 1) := by decide +kernel
theorem dX9_text_88 : decode cX9_text 88 = .ok (.ireturn, 1) := by decide +kernel
theorem dX9_force_0 : decode cX9_force 0 = .ok (.iload_n 1, 1) := by decide +kernel
theorem dX9_force_1 : decode cX9_force 1 = .ok (.iconst 0, 1) := by decide +kernel
theorem dX9_force_2 : decode cX9_force 2 = .ok (.aload_n 0, 1) := by decide +kernel
theorem dX9_force_3 : decode cX9_force 3 = .ok (.getfield 10, 3) := by decide +kernel
theorem dX9_force_6 : decode cX9_force 6 = .ok (.getfield 131, 3) := by decide +kernel
theorem dX9_force_9 : decode cX9_force 9 = .ok (.iconst 1, 1) := by decide +kernel
theorem dX9_force_10 : decode cX9_force 10 = .ok (.isub, 1) := by decide +kernel
theorem dX9_force_11 : decode cX9_force 11 = .ok (.invokestatic 70, 3) := by decide +kernel
theorem dX9_force_14 : decode cX9_force 14 = .ok (.ifCond .ne 6, 3) := by decide +kernel
theorem dX9_force_17 : decode cX9_force 17 = .ok (.bipush (-2), 2) := by decide +kernel
theorem dX9_force_19 : decode cX9_force 19 = .ok (.ireturn, 1) := by decide +kernel
theorem dX9_force_20 : decode cX9_force 20 = .ok (.aload_n 0, 1) := by decide +kernel
theorem dX9_force_21 : decode cX9_force 21 = .ok (.getfield 21, 3) := by decide +kernel
theorem dX9_force_24 : decode cX9_force 24 = .ok (.getfield 145, 3) := by decide +kernel
theorem dX9_force_27 : decode cX9_force 27 = .ok (.istore_n 2, 1) := by decide +kernel
theorem dX9_force_28 : decode cX9_force 28 = .ok (.aload_n 0, 1) := by decide +kernel
theorem dX9_force_29 : decode cX9_force 29 = .ok (.getfield 21, 3) := by decide +kernel
theorem dX9_force_32 : decode cX9_force 32 = .ok (.iload_n 1, 1) := by decide +kernel
theorem dX9_force_33 : decode cX9_force 33 = .ok (.putfield 145, 3) := by decide +kernel
theorem dX9_force_36 : decode cX9_force 36 = .ok (.iload_n 2, 1) := by decide +kernel
theorem dX9_force_37 : decode cX9_force 37 = .ok (.ireturn, 1) := by decide +kernel
theorem dX9_plan_0 : decode cX9_plan 0 = .ok (.aload_n 0, 1) := by decide +kernel
theorem dX9_plan_1 : decode cX9_plan 1 = .ok (.getfield 10, 3) := by decide +kernel
theorem dX9_plan_4 : decode cX9_plan 4 = .ok (.getfield 148, 3) := by decide +kernel
theorem dX9_plan_7 : decode cX9_plan 7 = .ok (.bipush 8, 2) := by decide +kernel
theorem dX9_plan_9 : decode cX9_plan 9 = .ok (.if_icmp .lt 6, 3) := by decide +kernel
theorem dX9_plan_12 : decode cX9_plan 12 = .ok (.bipush (-4), 2) := by decide +kernel
theorem dX9_plan_14 : decode cX9_plan 14 = .ok (.ireturn, 1) := by decide +kernel
theorem dX9_plan_15 : decode cX9_plan 15 = .ok (.aload_n 0, 1) := by decide +kernel
theorem dX9_plan_16 : decode cX9_plan 16 = .ok (.getfield 48, 3) := by decide +kernel
theorem dX9_plan_19 : decode cX9_plan 19 = .ok (.aload_n 0, 1) := by decide +kernel
theorem dX9_plan_20 : decode cX9_plan 20 = .ok (.getfield 34, 3) := by decide +kernel
theorem dX9_plan_23 : decode cX9_plan 23 = .ok (.aload_n 0, 1) := by decide +kernel
theorem dX9_plan_24 : decode cX9_plan 24 = .ok (.getfield 10, 3) := by decide +kernel
theorem dX9_plan_27 : decode cX9_plan 27 = .ok (.getfield 74, 3) := by decide +kernel
theorem dX9_plan_30 : decode cX9_plan 30 = .ok (.invokevirtual 151, 3) := by decide +kernel
theorem dX9_plan_33 : decode cX9_plan 33 = .ok (.astore_n 1, 1) := by decide +kernel
theorem dX9_plan_34 : decode cX9_plan 34 = .ok (.aload_n 0, 1) := by decide +kernel
theorem dX9_plan_35 : decode cX9_plan 35 = .ok (.getfield 34, 3) := by decide +kernel
theorem dX9_plan_38 : decode cX9_plan 38 = .ok (.iconst 0, 1) := by decide +kernel
theorem dX9_plan_39 : decode cX9_plan 39 = .ok (.putfield 124, 3) := by decide +kernel
theorem dX9_plan_42 : decode cX9_plan 42 = .ok (.aload_n 1, 1) := by decide +kernel
theorem dX9_plan_43 : decode cX9_plan 43 = .ok (.ifnonnull 14, 3) := by decide +kernel
theorem dX9_plan_46 : decode cX9_plan 46 = .ok (.bipush (-100), 2) := by decide +kernel
theorem dX9_plan_48 : decode cX9_plan 48 = .ok (.aload_n 0, 1) := by decide +kernel
theorem dX9_plan_49 : decode cX9_plan 49 = .ok (.getfield 48, 3) := by decide +kernel
theorem dX9_plan_52 : decode cX9_plan 52 = .ok (.getfield 154, 3) := by decide +kernel
theorem dX9_plan_55 : decode cX9_plan 55 = .ok (.isub, 1) := by decide +kernel
theorem dX9_plan_56 : decode cX9_plan 56 = .ok (.ireturn, 1) := by decide +kernel
theorem dX9_plan_57 : decode cX9_plan 57 = .ok (.aload_n 0, 1) := by decide +kernel
theorem dX9_plan_58 : decode cX9_plan 58 = .ok (.getfield 10, 3) := by decide +kernel
theorem dX9_plan_61 : decode cX9_plan 61 = .ok (.getfield 155, 3) := by decide +kernel
theorem dX9_plan_64 : decode cX9_plan 64 = .ok (.aload_n 0, 1) := by decide +kernel
theorem dX9_plan_65 : decode cX9_plan 65 = .ok (.getfield 10, 3) := by decide +kernel
theorem dX9_plan_68 : decode cX9_plan 68 = .ok (.getfield 148, 3) := by decide +kernel
theorem dX9_plan_71 : decode cX9_plan 71 = .ok (.aload_n 1, 1) := by decide +kernel
theorem dX9_plan_72 : decode cX9_plan 72 = .ok (.aastore, 1) := by decide +kernel
theorem dX9_plan_73 : decode cX9_plan 73 = .ok (.aload_n 0, 1) := by decide +kernel
theorem dX9_plan_74 : decode cX9_plan 74 = .ok (.getfield 10, 3) := by decide +kernel
theorem dX9_plan_77 : decode cX9_plan 77 = .ok (.dup, 1) := by decide +kernel
theorem dX9_plan_78 : decode cX9_plan 78 = .ok (.getfield 148, 3) := by decide +kernel
theorem dX9_plan_81 : decode cX9_plan 81 = .ok (.iconst 1, 1) := by decide +kernel
theorem dX9_plan_82 : decode cX9_plan 82 = .ok (.iadd, 1) := by decide +kernel
theorem dX9_plan_83 : decode cX9_plan 83 = .ok (.putfield 148, 3) := by decide +kernel
theorem dX9_plan_86 : decode cX9_plan 86 = .ok (.aload_n 0, 1) := by decide +kernel
theorem dX9_plan_87 : decode cX9_plan 87 = .ok (.getfield 10, 3) := by decide +kernel
theorem dX9_plan_90 : decode cX9_plan 90 = .ok (.getfield 148, 3) := by decide +kernel
theorem dX9_plan_93 : decode cX9_plan 93 = .ok (.iconst 1, 1) := by decide +kernel
theorem dX9_plan_94 : decode cX9_plan 94 = .ok (.isub, 1) := by decide +kernel
theorem dX9_plan_95 : decode cX9_plan 95 = .ok (.ireturn, 1) := by decide +kernel
theorem dX9_planned_0 : decode cX9_planned 0 = .ok (.aload_n 0, 1) := by decide +kernel
theorem dX9_planned_1 : decode cX9_planned 1 = .ok (.getfield 10, 3) := by decide +kernel
theorem dX9_planned_4 : decode cX9_planned 4 = .ok (.iload_n 1, 1) := by decide +kernel
theorem dX9_planned_5 : decode cX9_planned 5 = .ok (.invokevirtual 159, 3) := by decide +kernel
theorem dX9_planned_8 : decode cX9_planned 8 = .ok (.astore 4, 2) := by decide +kernel
theorem dX9_planned_10 : decode cX9_planned 10 = .ok (.aload 4, 2) := by decide +kernel
theorem dX9_planned_12 : decode cX9_planned 12 = .ok (.ifnonnull 5, 3) := by decide +kernel
theorem dX9_planned_15 : decode cX9_planned 15 = .ok (.iconst (-1), 1) := by decide +kernel
theorem dX9_planned_16 : decode cX9_planned 16 = .ok (.ireturn, 1) := by decide +kernel
theorem dX9_planned_17 : decode cX9_planned 17 = .ok (.iload_n 2, 1) := by decide +kernel
theorem dX9_planned_18 : decode cX9_planned 18 = .ok (.iconst (-1), 1) := by decide +kernel
theorem dX9_planned_19 : decode cX9_planned 19 = .ok (.if_icmp .ne 9, 3) := by decide +kernel
theorem dX9_planned_22 : decode cX9_planned 22 = .ok (.aload 4, 2) := by decide +kernel
theorem dX9_planned_24 : decode cX9_planned 24 = .ok (.getfield 163, 3) := by decide +kernel
theorem dX9_planned_27 : decode cX9_planned 27 = .ok (.ireturn, 1) := by decide +kernel
theorem dX9_planned_28 : decode cX9_planned 28 = .ok (.iload_n 2, 1) := by decide +kernel
theorem dX9_planned_29 : decode cX9_planned 29 = .ok (.iconst 0, 1) := by decide +kernel
theorem dX9_planned_30 : decode cX9_planned 30 = .ok (.aload 4, 2) := by decide +kernel
theorem dX9_planned_32 : decode cX9_planned 32 = .ok (.getfield 163, 3) := by decide +kernel
theorem dX9_planned_35 : decode cX9_planned 35 = .ok (.iconst 1, 1) := by decide +kernel
theorem dX9_planned_36 : decode cX9_planned 36 = .ok (.isub, 1) := by decide +kernel
theorem dX9_planned_37 : decode cX9_planned 37 = .ok (.invokestatic 70, 3) := by decide +kernel
theorem dX9_planned_40 : decode cX9_planned 40 = .ok (.ifCond .eq 12, 3) := by decide +kernel
theorem dX9_planned_43 : decode cX9_planned 43 = .ok (.iload_n 3, 1) := by decide +kernel
theorem dX9_planned_44 : decode cX9_planned 44 = .ok (.iconst 0, 1) := by decide +kernel
theorem dX9_planned_45 : decode cX9_planned 45 = .ok (.iconst 1, 1) := by decide +kernel
theorem dX9_planned_46 : decode cX9_planned 46 = .ok (.invokestatic 70, 3) := by decide +kernel
theorem dX9_planned_49 : decode cX9_planned 49 = .ok (.ifCond .ne 5, 3) := by decide +kernel
theorem dX9_planned_52 : decode cX9_planned 52 = .ok (.iconst (-1), 1) := by decide +kernel
theorem dX9_planned_53 : decode cX9_planned 53 = .ok (.ireturn, 1) := by decide +kernel
theorem dX9_planned_54 : decode cX9_planned 54 = .ok (.iload_n 3, 1) := by decide +kernel
theorem dX9_planned_55 : decode cX9_planned 55 = .ok (.ifCond .ne 13, 3) := by decide +kernel
theorem dX9_planned_58 : decode cX9_planned 58 = .ok (.aload 4, 2) := by decide +kernel
theorem dX9_planned_60 : decode cX9_planned 60 = .ok (.getfield 166, 3) := by decide +kernel
theorem dX9_planned_63 : decode cX9_planned 63 = .ok (.iload_n 2, 1) := by decide +kernel
theorem dX9_planned_64 : decode cX9_planned 64 = .ok (.iaload, 1) := by decide +kernel
theorem dX9_planned_65 : decode cX9_planned 65 = .ok (.goto 10, 3) := by decide +kernel
theorem dX9_planned_68 : decode cX9_planned 68 = .ok (.aload 4, 2) := by decide +kernel
theorem dX9_planned_70 : decode cX9_planned 70 = .ok (.getfield 169, 3) := by decide +kernel
theorem dX9_planned_73 : decode cX9_planned 73 = .ok (.iload_n 2, 1) := by decide +kernel
theorem dX9_planned_74 : decode cX9_planned 74 = .ok (.iaload, 1) := by decide +kernel
theorem dX9_planned_75 : decode cX9_planned 75 = .ok (.ireturn, 1) := by decide +kernel
theorem dX9_trial_0 : decode cX9_trial 0 = .ok (.aload_n 0, 1) := by decide +kernel
theorem dX9_trial_1 : decode cX9_trial 1 = .ok (.getfield 10, 3) := by decide +kernel
theorem dX9_trial_4 : decode cX9_trial 4 = .ok (.iload_n 1, 1) := by decide +kernel
theorem dX9_trial_5 : decode cX9_trial 5 = .ok (.invokevirtual 172, 3) := by decide +kernel
theorem dX9_trial_8 : decode cX9_trial 8 = .ok (.ifCond .eq 10, 3) := by decide +kernel
theorem dX9_trial_11 : decode cX9_trial 11 = .ok (.iload_n 2, 1) := by decide +kernel
theorem dX9_trial_12 : decode cX9_trial 12 = .ok (.invokestatic 103, 3) := by decide +kernel
theorem dX9_trial_15 : decode cX9_trial 15 = .ok (.ifCond .ne 7, 3) := by decide +kernel
theorem dX9_trial_18 : decode cX9_trial 18 = .ok (.ldc2_w 85, 3) := by decide +kernel
theorem dX9_trial_21 : decode cX9_trial 21 = .ok (.lreturn, 1) := by decide +kernel
theorem dX9_trial_22 : decode cX9_trial 22 = .ok (.aload_n 0, 1) := by decide +kernel
theorem dX9_trial_23 : decode cX9_trial 23 = .ok (.getfield 21, 3) := by decide +kernel
theorem dX9_trial_26 : decode cX9_trial 26 = .ok (.iload_n 1, 1) := by decide +kernel
theorem dX9_trial_27 : decode cX9_trial 27 = .ok (.iload_n 2, 1) := by decide +kernel
theorem dX9_trial_28 : decode cX9_trial 28 = .ok (.invokevirtual 175, 3) := by decide +kernel
theorem dX9_trial_31 : decode cX9_trial 31 = .ok (.i2l, 1) := by decide +kernel
theorem dX9_trial_32 : decode cX9_trial 32 = .ok (.lreturn, 1) := by decide +kernel
theorem dX9_sum_0 : decode cX9_sum 0 = .ok (.aload_n 0, 1) := by decide +kernel
theorem dX9_sum_1 : decode cX9_sum 1 = .ok (.getfield 10, 3) := by decide +kernel
theorem dX9_sum_4 : decode cX9_sum 4 = .ok (.iload_n 1, 1) := by decide +kernel
theorem dX9_sum_5 : decode cX9_sum 5 = .ok (.invokevirtual 172, 3) := by decide +kernel
theorem dX9_sum_8 : decode cX9_sum 8 = .ok (.ifCond .eq 12, 3) := by decide +kernel
theorem dX9_sum_11 : decode cX9_sum 11 = .ok (.iload_n 2, 1) := by decide +kernel
theorem dX9_sum_12 : decode cX9_sum 12 = .ok (.iconst 0, 1) := by decide +kernel
theorem dX9_sum_13 : decode cX9_sum 13 = .ok (.iconst 1, 1) := by decide +kernel
theorem dX9_sum_14 : decode cX9_sum 14 = .ok (.invokestatic 70, 3) := by decide +kernel
theorem dX9_sum_17 : decode cX9_sum 17 = .ok (.ifCond .ne 7, 3) := by decide +kernel
theorem dX9_sum_20 : decode cX9_sum 20 = .ok (.ldc2_w 85, 3) := by decide +kernel
theorem dX9_sum_23 : decode cX9_sum 23 = .ok (.lreturn, 1) := by decide +kernel
theorem dX9_sum_24 : decode cX9_sum 24 = .ok (.iload_n 2, 1) := by decide +kernel
theorem dX9_sum_25 : decode cX9_sum 25 = .ok (.ifCond .ne 15, 3) := by decide +kernel
theorem dX9_sum_28 : decode cX9_sum 28 = .ok (.aload_n 0, 1) := by decide +kernel
theorem dX9_sum_29 : decode cX9_sum 29 = .ok (.getfield 21, 3) := by decide +kernel
theorem dX9_sum_32 : decode cX9_sum 32 = .ok (.iload_n 1, 1) := by decide +kernel
theorem dX9_sum_33 : decode cX9_sum 33 = .ok (.invokevirtual 178, 3) := by decide +kernel
theorem dX9_sum_36 : decode cX9_sum 36 = .ok (.i2l, 1) := by decide +kernel
theorem dX9_sum_37 : decode cX9_sum 37 = .ok (.goto 12, 3) := by decide +kernel
theorem dX9_sum_40 : decode cX9_sum 40 = .ok (.aload_n 0, 1) := by decide +kernel
theorem dX9_sum_41 : decode cX9_sum 41 = .ok (.getfield 21, 3) := by decide +kernel
theorem dX9_sum_44 : decode cX9_sum 44 = .ok (.iload_n 1, 1) := by decide +kernel
theorem dX9_sum_45 : decode cX9_sum 45 = .ok (.invokevirtual 181, 3) := by decide +kernel
theorem dX9_sum_48 : decode cX9_sum 48 = .ok (.i2l, 1) := by decide +kernel
theorem dX9_sum_49 : decode cX9_sum 49 = .ok (.lreturn, 1) := by decide +kernel
theorem dX9_days_0 : decode cX9_days 0 = .ok (.aload_n 0, 1) := by decide +kernel
theorem dX9_days_1 : decode cX9_days 1 = .ok (.getfield 10, 3) := by decide +kernel
theorem dX9_days_4 : decode cX9_days 4 = .ok (.iload_n 1, 1) := by decide +kernel
theorem dX9_days_5 : decode cX9_days 5 = .ok (.invokevirtual 159, 3) := by decide +kernel
theorem dX9_days_8 : decode cX9_days 8 = .ok (.astore_n 3, 1) := by decide +kernel
theorem dX9_days_9 : decode cX9_days 9 = .ok (.aload_n 3, 1) := by decide +kernel
theorem dX9_days_10 : decode cX9_days 10 = .ok (.ifnull 13, 3) := by decide +kernel
theorem dX9_days_13 : decode cX9_days 13 = .ok (.iload_n 2, 1) := by decide +kernel
theorem dX9_days_14 : decode cX9_days 14 = .ok (.iconst 1, 1) := by decide +kernel
theorem dX9_days_15 : decode cX9_days 15 = .ok (.bipush 50, 2) := by decide +kernel
theorem dX9_days_17 : decode cX9_days 17 = .ok (.invokestatic 70, 3) := by decide +kernel
theorem dX9_days_20 : decode cX9_days 20 = .ok (.ifCond .ne 6, 3) := by decide +kernel
theorem dX9_days_23 : decode cX9_days 23 = .ok (.bipush (-2), 2) := by decide +kernel
theorem dX9_days_25 : decode cX9_days 25 = .ok (.ireturn, 1) := by decide +kernel
theorem dX9_days_26 : decode cX9_days 26 = .ok (.aload_n 0, 1) := by decide +kernel
theorem dX9_days_27 : decode cX9_days 27 = .ok (.getfield 21, 3) := by decide +kernel
theorem dX9_days_30 : decode cX9_days 30 = .ok (.getfield 184, 3) := by decide +kernel
theorem dX9_days_33 : decode cX9_days 33 = .ok (.iload_n 2, 1) := by decide +kernel
theorem dX9_days_34 : decode cX9_days 34 = .ok (.iadd, 1) := by decide +kernel
theorem dX9_days_35 : decode cX9_days 35 = .ok (.sipush 400, 3) := by decide +kernel
theorem dX9_days_38 : decode cX9_days 38 = .ok (.if_icmp .le 6, 3) := by decide +kernel
theorem dX9_days_41 : decode cX9_days 41 = .ok (.bipush (-4), 2) := by decide +kernel
theorem dX9_days_43 : decode cX9_days 43 = .ok (.ireturn, 1) := by decide +kernel
theorem dX9_days_44 : decode cX9_days 44 = .ok (.iconst 0, 1) := by decide +kernel
theorem dX9_days_45 : decode cX9_days 45 = .ok (.istore 4, 2) := by decide +kernel
theorem dX9_days_47 : decode cX9_days 47 = .ok (.iload 4, 2) := by decide +kernel
theorem dX9_days_49 : decode cX9_days 49 = .ok (.iload_n 2, 1) := by decide +kernel
theorem dX9_days_50 : decode cX9_days 50 = .ok (.if_icmp .ge 17, 3) := by decide +kernel
theorem dX9_days_53 : decode cX9_days 53 = .ok (.aload_n 0, 1) := by decide +kernel
theorem dX9_days_54 : decode cX9_days 54 = .ok (.getfield 21, 3) := by decide +kernel
theorem dX9_days_57 : decode cX9_days 57 = .ok (.aload_n 3, 1) := by decide +kernel
theorem dX9_days_58 : decode cX9_days 58 = .ok (.invokevirtual 187, 3) := by decide +kernel
theorem dX9_days_61 : decode cX9_days 61 = .ok (.iinc 4 1, 3) := by decide +kernel
theorem dX9_days_64 : decode cX9_days 64 = .ok (.goto (-17), 3) := by decide +kernel
theorem dX9_days_67 : decode cX9_days 67 = .ok (.aload_n 0, 1) := by decide +kernel
theorem dX9_days_68 : decode cX9_days 68 = .ok (.getfield 21, 3) := by decide +kernel
theorem dX9_days_71 : decode cX9_days 71 = .ok (.getfield 184, 3) := by decide +kernel
theorem dX9_days_74 : decode cX9_days 74 = .ok (.ireturn, 1) := by decide +kernel
theorem dX9_rests_0 : decode cX9_rests 0 = .ok (.aload_n 0, 1) := by decide +kernel
theorem dX9_rests_1 : decode cX9_rests 1 = .ok (.getfield 10, 3) := by decide +kernel
theorem dX9_rests_4 : decode cX9_rests 4 = .ok (.iload_n 1, 1) := by decide +kernel
theorem dX9_rests_5 : decode cX9_rests 5 = .ok (.invokevirtual 159, 3) := by decide +kernel
theorem dX9_rests_8 : decode cX9_rests 8 = .ok (.astore_n 3, 1) := by decide +kernel
theorem dX9_rests_9 : decode cX9_rests 9 = .ok (.aload_n 3, 1) := by decide +kernel
theorem dX9_rests_10 : decode cX9_rests 10 = .ok (.ifnull 13, 3) := by decide +kernel
theorem dX9_rests_13 : decode cX9_rests 13 = .ok (.iload_n 2, 1) := by decide +kernel
theorem dX9_rests_14 : decode cX9_rests 14 = .ok (.iconst 0, 1) := by decide +kernel
theorem dX9_rests_15 : decode cX9_rests 15 = .ok (.bipush 100, 2) := by decide +kernel
theorem dX9_rests_17 : decode cX9_rests 17 = .ok (.invokestatic 70, 3) := by decide +kernel
theorem dX9_rests_20 : decode cX9_rests 20 = .ok (.ifCond .ne 6, 3) := by decide +kernel
theorem dX9_rests_23 : decode cX9_rests 23 = .ok (.bipush (-2), 2) := by decide +kernel
theorem dX9_rests_25 : decode cX9_rests 25 = .ok (.ireturn, 1) := by decide +kernel
theorem dX9_rests_26 : decode cX9_rests 26 = .ok (.aload_n 0, 1) := by decide +kernel
theorem dX9_rests_27 : decode cX9_rests 27 = .ok (.getfield 28, 3) := by decide +kernel
theorem dX9_rests_30 : decode cX9_rests 30 = .ok (.aload_n 0, 1) := by decide +kernel
theorem dX9_rests_31 : decode cX9_rests 31 = .ok (.getfield 21, 3) := by decide +kernel
theorem dX9_rests_34 : decode cX9_rests 34 = .ok (.bipush 8, 2) := by decide +kernel
theorem dX9_rests_36 : decode cX9_rests 36 = .ok (.invokevirtual 191, 3) := by decide +kernel
theorem dX9_rests_39 : decode cX9_rests 39 = .ok (.iconst 0, 1) := by decide +kernel
theorem dX9_rests_40 : decode cX9_rests 40 = .ok (.istore 4, 2) := by decide +kernel
theorem dX9_rests_42 : decode cX9_rests 42 = .ok (.iload 4, 2) := by decide +kernel
theorem dX9_rests_44 : decode cX9_rests 44 = .ok (.iload_n 2, 1) := by decide +kernel
theorem dX9_rests_45 : decode cX9_rests 45 = .ok (.if_icmp .gt 23, 3) := by decide +kernel
theorem dX9_rests_48 : decode cX9_rests 48 = .ok (.aload_n 0, 1) := by decide +kernel
theorem dX9_rests_49 : decode cX9_rests 49 = .ok (.getfield 28, 3) := by decide +kernel
theorem dX9_rests_52 : decode cX9_rests 52 = .ok (.aload_n 3, 1) := by decide +kernel
theorem dX9_rests_53 : decode cX9_rests 53 = .ok (.invokevirtual 195, 3) := by decide +kernel
theorem dX9_rests_56 : decode cX9_rests 56 = .ok (.ifCond .eq 6, 3) := by decide +kernel
theorem dX9_rests_59 : decode cX9_rests 59 = .ok (.iload 4, 2) := by decide +kernel
theorem dX9_rests_61 : decode cX9_rests 61 = .ok (.ireturn, 1) := by decide +kernel
theorem dX9_rests_62 : decode cX9_rests 62 = .ok (.iinc 4 1, 3) := by decide +kernel
theorem dX9_rests_65 : decode cX9_rests 65 = .ok (.goto (-23), 3) := by decide +kernel
theorem dX9_rests_68 : decode cX9_rests 68 = .ok (.iconst (-1), 1) := by decide +kernel
theorem dX9_rests_69 : decode cX9_rests 69 = .ok (.ireturn, 1) := by decide +kernel
theorem dX9_blocked_0 : decode cX9_blocked 0 = .ok (.aload_n 0, 1) := by decide +kernel
theorem dX9_blocked_1 : decode cX9_blocked 1 = .ok (.getfield 10, 3) := by decide +kernel
theorem dX9_blocked_4 : decode cX9_blocked 4 = .ok (.iload_n 1, 1) := by decide +kernel
theorem dX9_blocked_5 : decode cX9_blocked 5 = .ok (.invokevirtual 159, 3) := by decide +kernel
theorem dX9_blocked_8 : decode cX9_blocked 8 = .ok (.astore_n 2, 1) := by decide +kernel
theorem dX9_blocked_9 : decode cX9_blocked 9 = .ok (.aload_n 2, 1) := by decide +kernel
theorem dX9_blocked_10 : decode cX9_blocked 10 = .ok (.ifnonnull 6, 3) := by decide +kernel
theorem dX9_blocked_13 : decode cX9_blocked 13 = .ok (.bipush (-2), 2) := by decide +kernel
theorem dX9_blocked_15 : decode cX9_blocked 15 = .ok (.ireturn, 1) := by decide +kernel
theorem dX9_blocked_16 : decode cX9_blocked 16 = .ok (.aload_n 0, 1) := by decide +kernel
theorem dX9_blocked_17 : decode cX9_blocked 17 = .ok (.getfield 28, 3) := by decide +kernel
theorem dX9_blocked_20 : decode cX9_blocked 20 = .ok (.aload_n 0, 1) := by decide +kernel
theorem dX9_blocked_21 : decode cX9_blocked 21 = .ok (.getfield 21, 3) := by decide +kernel
theorem dX9_blocked_24 : decode cX9_blocked 24 = .ok (.bipush 8, 2) := by decide +kernel
theorem dX9_blocked_26 : decode cX9_blocked 26 = .ok (.invokevirtual 191, 3) := by decide +kernel
theorem dX9_blocked_29 : decode cX9_blocked 29 = .ok (.iconst 0, 1) := by decide +kernel
theorem dX9_blocked_30 : decode cX9_blocked 30 = .ok (.istore_n 3, 1) := by decide +kernel
theorem dX9_blocked_31 : decode cX9_blocked 31 = .ok (.iconst 0, 1) := by decide +kernel
theorem dX9_blocked_32 : decode cX9_blocked 32 = .ok (.istore 4, 2) := by decide +kernel
theorem dX9_blocked_34 : decode cX9_blocked 34 = .ok (.iconst 0, 1) := by decide +kernel
theorem dX9_blocked_35 : decode cX9_blocked 35 = .ok (.istore 5, 2) := by decide +kernel
theorem dX9_blocked_37 : decode cX9_blocked 37 = .ok (.iload 5, 2) := by decide +kernel
theorem dX9_blocked_39 : decode cX9_blocked 39 = .ok (.aload_n 2, 1) := by decide +kernel
theorem dX9_blocked_40 : decode cX9_blocked 40 = .ok (.getfield 163, 3) := by decide +kernel
theorem dX9_blocked_43 : decode cX9_blocked 43 = .ok (.if_icmp .ge 70, 3) := by decide +kernel
theorem dX9_blocked_46 : decode cX9_blocked 46 = .ok (.aload_n 0, 1) := by decide +kernel
theorem dX9_blocked_47 : decode cX9_blocked 47 = .ok (.getfield 28, 3) := by decide +kernel
theorem dX9_blocked_50 : decode cX9_blocked 50 = .ok (.aload_n 2, 1) := by decide +kernel
theorem dX9_blocked_51 : decode cX9_blocked 51 = .ok (.getfield 166, 3) := by decide +kernel
theorem dX9_blocked_54 : decode cX9_blocked 54 = .ok (.iload 5, 2) := by decide +kernel
theorem dX9_blocked_56 : decode cX9_blocked 56 = .ok (.iaload, 1) := by decide +kernel
theorem dX9_blocked_57 : decode cX9_blocked 57 = .ok (.aload_n 2, 1) := by decide +kernel
theorem dX9_blocked_58 : decode cX9_blocked 58 = .ok (.getfield 169, 3) := by decide +kernel
theorem dX9_blocked_61 : decode cX9_blocked 61 = .ok (.iload 5, 2) := by decide +kernel
theorem dX9_blocked_63 : decode cX9_blocked 63 = .ok (.iaload, 1) := by decide +kernel
theorem dX9_blocked_64 : decode cX9_blocked 64 = .ok (.invokevirtual 175, 3) := by decide +kernel
theorem dX9_blocked_67 : decode cX9_blocked 67 = .ok (.pop, 1) := by decide +kernel
theorem dX9_blocked_68 : decode cX9_blocked 68 = .ok (.aload_n 2, 1) := by decide +kernel
theorem dX9_blocked_69 : decode cX9_blocked 69 = .ok (.getfield 169, 3) := by decide +kernel
theorem dX9_blocked_72 : decode cX9_blocked 72 = .ok (.iload 5, 2) := by decide +kernel
theorem dX9_blocked_74 : decode cX9_blocked 74 = .ok (.iaload, 1) := by decide +kernel
theorem dX9_blocked_75 : decode cX9_blocked 75 = .ok (.ifCond .eq 32, 3) := by decide +kernel
theorem dX9_blocked_78 : decode cX9_blocked 78 = .ok (.iload_n 3, 1) := by decide +kernel
theorem dX9_blocked_79 : decode cX9_blocked 79 = .ok (.aload_n 2, 1) := by decide +kernel
theorem dX9_blocked_80 : decode cX9_blocked 80 = .ok (.getfield 166, 3) := by decide +kernel
theorem dX9_blocked_83 : decode cX9_blocked 83 = .ok (.iload 5, 2) := by decide +kernel
theorem dX9_blocked_85 : decode cX9_blocked 85 = .ok (.iaload, 1) := by decide +kernel
theorem dX9_blocked_86 : decode cX9_blocked 86 = .ok (.ior, 1) := by decide +kernel
theorem dX9_blocked_87 : decode cX9_blocked 87 = .ok (.istore_n 3, 1) := by decide +kernel
theorem dX9_blocked_88 : decode cX9_blocked 88 = .ok (.iload 4, 2) := by decide +kernel
theorem dX9_blocked_90 : decode cX9_blocked 90 = .ok (.aload_n 0, 1) := by decide +kernel
theorem dX9_blocked_91 : decode cX9_blocked 91 = .ok (.getfield 28, 3) := by decide +kernel
theorem dX9_blocked_94 : decode cX9_blocked 94 = .ok (.aload_n 2, 1) := by decide +kernel
theorem dX9_blocked_95 : decode cX9_blocked 95 = .ok (.getfield 166, 3) := by decide +kernel
theorem dX9_blocked_98 : decode cX9_blocked 98 = .ok (.iload 5, 2) := by decide +kernel
theorem dX9_blocked_100 : decode cX9_blocked 100 = .ok (.iaload, 1) := by decide +kernel
theorem dX9_blocked_101 : decode cX9_blocked 101 = .ok (.invokevirtual 199, 3) := by decide +kernel
theorem dX9_blocked_104 : decode cX9_blocked 104 = .ok (.ior, 1) := by decide +kernel
theorem dX9_blocked_105 : decode cX9_blocked 105 = .ok (.istore 4, 2) := by decide +kernel
theorem dX9_blocked_107 : decode cX9_blocked 107 = .ok (.iinc 5 1, 3) := by decide +kernel
theorem dX9_blocked_110 : decode cX9_blocked 110 = .ok (.goto (-73), 3) := by decide +kernel
theorem dX9_blocked_113 : decode cX9_blocked 113 = .ok (.iload_n 3, 1) := by decide +kernel
theorem dX9_blocked_114 : decode cX9_blocked 114 = .ok (.iload 4, 2) := by decide +kernel
theorem dX9_blocked_116 : decode cX9_blocked 116 = .ok (.iconst (-1), 1) := by decide +kernel
theorem dX9_blocked_117 : decode cX9_blocked 117 = .ok (.ixor, 1) := by decide +kernel
theorem dX9_blocked_118 : decode cX9_blocked 118 = .ok (.iand, 1) := by decide +kernel
theorem dX9_blocked_119 : decode cX9_blocked 119 = .ok (.ireturn, 1) := by decide +kernel
theorem dX9_counted_0 : decode cX9_counted 0 = .ok (.aload_n 0, 1) := by decide +kernel
theorem dX9_counted_1 : decode cX9_counted 1 = .ok (.getfield 10, 3) := by decide +kernel
theorem dX9_counted_4 : decode cX9_counted 4 = .ok (.iload_n 1, 1) := by decide +kernel
theorem dX9_counted_5 : decode cX9_counted 5 = .ok (.invokevirtual 81, 3) := by decide +kernel
theorem dX9_counted_8 : decode cX9_counted 8 = .ok (.ifCond .eq 19, 3) := by decide +kernel
theorem dX9_counted_11 : decode cX9_counted 11 = .ok (.iload_n 2, 1) := by decide +kernel
theorem dX9_counted_12 : decode cX9_counted 12 = .ok (.invokestatic 103, 3) := by decide +kernel
theorem dX9_counted_15 : decode cX9_counted 15 = .ok (.ifCond .eq 12, 3) := by decide +kernel
theorem dX9_counted_18 : decode cX9_counted 18 = .ok (.iload_n 3, 1) := by decide +kernel
theorem dX9_counted_19 : decode cX9_counted 19 = .ok (.iconst 0, 1) := by decide +kernel
theorem dX9_counted_20 : decode cX9_counted 20 = .ok (.iconst 1, 1) := by decide +kernel
theorem dX9_counted_21 : decode cX9_counted 21 = .ok (.invokestatic 70, 3) := by decide +kernel
theorem dX9_counted_24 : decode cX9_counted 24 = .ok (.ifCond .ne 7, 3) := by decide +kernel
theorem dX9_counted_27 : decode cX9_counted 27 = .ok (.ldc2_w 85, 3) := by decide +kernel
theorem dX9_counted_30 : decode cX9_counted 30 = .ok (.lreturn, 1) := by decide +kernel
theorem dX9_counted_31 : decode cX9_counted 31 = .ok (.aload_n 0, 1) := by decide +kernel
theorem dX9_counted_32 : decode cX9_counted 32 = .ok (.getfield 21, 3) := by decide +kernel
theorem dX9_counted_35 : decode cX9_counted 35 = .ok (.getfield 90, 3) := by decide +kernel
theorem dX9_counted_38 : decode cX9_counted 38 = .ok (.iload_n 1, 1) := by decide +kernel
theorem dX9_counted_39 : decode cX9_counted 39 = .ok (.iaload, 1) := by decide +kernel
theorem dX9_counted_40 : decode cX9_counted 40 = .ok (.i2l, 1) := by decide +kernel
theorem dX9_counted_41 : decode cX9_counted 41 = .ok (.lstore 4, 2) := by decide +kernel
theorem dX9_counted_43 : decode cX9_counted 43 = .ok (.aload_n 0, 1) := by decide +kernel
theorem dX9_counted_44 : decode cX9_counted 44 = .ok (.getfield 21, 3) := by decide +kernel
theorem dX9_counted_47 : decode cX9_counted 47 = .ok (.invokevirtual 202, 3) := by decide +kernel
theorem dX9_counted_50 : decode cX9_counted 50 = .ok (.i2l, 1) := by decide +kernel
theorem dX9_counted_51 : decode cX9_counted 51 = .ok (.lload 4, 2) := by decide +kernel
theorem dX9_counted_53 : decode cX9_counted 53 = .ok (.lsub, 1) := by decide +kernel
theorem dX9_counted_54 : decode cX9_counted 54 = .ok (.lstore 6, 2) := by decide +kernel
theorem dX9_counted_56 : decode cX9_counted 56 = .ok (.aload_n 0, 1) := by decide +kernel
theorem dX9_counted_57 : decode cX9_counted 57 = .ok (.getfield 21, 3) := by decide +kernel
theorem dX9_counted_60 : decode cX9_counted 60 = .ok (.getfield 206, 3) := by decide +kernel
theorem dX9_counted_63 : decode cX9_counted 63 = .ok (.iload_n 1, 1) := by decide +kernel
theorem dX9_counted_64 : decode cX9_counted 64 = .ok (.iconst 4, 1) := by decide +kernel
theorem dX9_counted_65 : decode cX9_counted 65 = .ok (.imul, 1) := by decide +kernel
theorem dX9_counted_66 : decode cX9_counted 66 = .ok (.iload_n 2, 1) := by decide +kernel
theorem dX9_counted_67 : decode cX9_counted 67 = .ok (.iadd, 1) := by decide +kernel
theorem dX9_counted_68 : decode cX9_counted 68 = .ok (.iaload, 1) := by decide +kernel
theorem dX9_counted_69 : decode cX9_counted 69 = .ok (.i2l, 1) := by decide +kernel
theorem dX9_counted_70 : decode cX9_counted 70 = .ok (.lstore 8, 2) := by decide +kernel
theorem dX9_counted_72 : decode cX9_counted 72 = .ok (.aload_n 0, 1) := by decide +kernel
theorem dX9_counted_73 : decode cX9_counted 73 = .ok (.getfield 21, 3) := by decide +kernel
theorem dX9_counted_76 : decode cX9_counted 76 = .ok (.getfield 209, 3) := by decide +kernel
theorem dX9_counted_79 : decode cX9_counted 79 = .ok (.iload_n 2, 1) := by decide +kernel
theorem dX9_counted_80 : decode cX9_counted 80 = .ok (.iaload, 1) := by decide +kernel
theorem dX9_counted_81 : decode cX9_counted 81 = .ok (.i2l, 1) := by decide +kernel
theorem dX9_counted_82 : decode cX9_counted 82 = .ok (.lload 8, 2) := by decide +kernel
theorem dX9_counted_84 : decode cX9_counted 84 = .ok (.lsub, 1) := by decide +kernel
theorem dX9_counted_85 : decode cX9_counted 85 = .ok (.lstore 10, 2) := by decide +kernel
theorem dX9_counted_87 : decode cX9_counted 87 = .ok (.lconst 1, 1) := by decide +kernel
theorem dX9_counted_88 : decode cX9_counted 88 = .ok (.lload 4, 2) := by decide +kernel
theorem dX9_counted_90 : decode cX9_counted 90 = .ok (.invokestatic 212, 3) := by decide +kernel
theorem dX9_counted_93 : decode cX9_counted 93 = .ok (.lstore 12, 2) := by decide +kernel
theorem dX9_counted_95 : decode cX9_counted 95 = .ok (.lconst 1, 1) := by decide +kernel
theorem dX9_counted_96 : decode cX9_counted 96 = .ok (.lload 6, 2) := by decide +kernel
theorem dX9_counted_98 : decode cX9_counted 98 = .ok (.invokestatic 212, 3) := by decide +kernel
theorem dX9_counted_101 : decode cX9_counted 101 = .ok (.lstore 14, 2) := by decide +kernel
theorem dX9_counted_103 : decode cX9_counted 103 = .ok (.lload 8, 2) := by decide +kernel
theorem dX9_counted_105 : decode cX9_counted 105 = .ok (.lload 14, 2) := by decide +kernel
theorem dX9_counted_107 : decode cX9_counted 107 = .ok (.lmul, 1) := by decide +kernel
theorem dX9_counted_108 : decode cX9_counted 108 = .ok (.lload 10, 2) := by decide +kernel
theorem dX9_counted_110 : decode cX9_counted 110 = .ok (.lload 12, 2) := by decide +kernel
theorem dX9_counted_112 : decode cX9_counted 112 = .ok (.lmul, 1) := by decide +kernel
theorem dX9_counted_113 : decode cX9_counted 113 = .ok (.lsub, 1) := by decide +kernel
theorem dX9_counted_114 : decode cX9_counted 114 = .ok (.lstore 16, 2) := by decide +kernel
theorem dX9_counted_116 : decode cX9_counted 116 = .ok (.lload 12, 2) := by decide +kernel
theorem dX9_counted_118 : decode cX9_counted 118 = .ok (.lload 14, 2) := by decide +kernel
theorem dX9_counted_120 : decode cX9_counted 120 = .ok (.lmul, 1) := by decide +kernel
theorem dX9_counted_121 : decode cX9_counted 121 = .ok (.lstore 18, 2) := by decide +kernel
theorem dX9_counted_123 : decode cX9_counted 123 = .ok (.lload 16, 2) := by decide +kernel
theorem dX9_counted_125 : decode cX9_counted 125 = .ok (.invokestatic 218, 3) := by decide +kernel
theorem dX9_counted_128 : decode cX9_counted 128 = .ok (.lload 18, 2) := by decide +kernel
theorem dX9_counted_130 : decode cX9_counted 130 = .ok (.invokestatic 222, 3) := by decide +kernel
theorem dX9_counted_133 : decode cX9_counted 133 = .ok (.lstore 20, 2) := by decide +kernel
theorem dX9_counted_135 : decode cX9_counted 135 = .ok (.iload_n 3, 1) := by decide +kernel
theorem dX9_counted_136 : decode cX9_counted 136 = .ok (.ifCond .ne 8, 3) := by decide +kernel
theorem dX9_counted_139 : decode cX9_counted 139 = .ok (.lload 16, 2) := by decide +kernel
theorem dX9_counted_141 : decode cX9_counted 141 = .ok (.goto 5, 3) := by decide +kernel
theorem dX9_counted_144 : decode cX9_counted 144 = .ok (.lload 18, 2) := by decide +kernel
theorem dX9_counted_146 : decode cX9_counted 146 = .ok (.lload 20, 2) := by decide +kernel
theorem dX9_counted_148 : decode cX9_counted 148 = .ok (.ldiv, 1) := by decide +kernel
theorem dX9_counted_149 : decode cX9_counted 149 = .ok (.lreturn, 1) := by decide +kernel
theorem dX9_watched_0 : decode cX9_watched 0 = .ok (.aload_n 0, 1) := by decide +kernel
theorem dX9_watched_1 : decode cX9_watched 1 = .ok (.getfield 10, 3) := by decide +kernel
theorem dX9_watched_4 : decode cX9_watched 4 = .ok (.iload_n 1, 1) := by decide +kernel
theorem dX9_watched_5 : decode cX9_watched 5 = .ok (.invokevirtual 159, 3) := by decide +kernel
theorem dX9_watched_8 : decode cX9_watched 8 = .ok (.ifnull 21, 3) := by decide +kernel
theorem dX9_watched_11 : decode cX9_watched 11 = .ok (.aload_n 0, 1) := by decide +kernel
theorem dX9_watched_12 : decode cX9_watched 12 = .ok (.iload_n 2, 1) := by decide +kernel
theorem dX9_watched_13 : decode cX9_watched 13 = .ok (.invokevirtual 225, 3) := by decide +kernel
theorem dX9_watched_16 : decode cX9_watched 16 = .ok (.ifCond .eq 13, 3) := by decide +kernel
theorem dX9_watched_19 : decode cX9_watched 19 = .ok (.iload_n 3, 1) := by decide +kernel
theorem dX9_watched_20 : decode cX9_watched 20 = .ok (.iconst 0, 1) := by decide +kernel
theorem dX9_watched_21 : decode cX9_watched 21 = .ok (.bipush 99, 2) := by decide +kernel
theorem dX9_watched_23 : decode cX9_watched 23 = .ok (.invokestatic 70, 3) := by decide +kernel
theorem dX9_watched_26 : decode cX9_watched 26 = .ok (.ifCond .ne 6, 3) := by decide +kernel
theorem dX9_watched_29 : decode cX9_watched 29 = .ok (.bipush (-2), 2) := by decide +kernel
theorem dX9_watched_31 : decode cX9_watched 31 = .ok (.ireturn, 1) := by decide +kernel
theorem dX9_watched_32 : decode cX9_watched 32 = .ok (.aload_n 0, 1) := by decide +kernel
theorem dX9_watched_33 : decode cX9_watched 33 = .ok (.getfield 55, 3) := by decide +kernel
theorem dX9_watched_36 : decode cX9_watched 36 = .ok (.getfield 228, 3) := by decide +kernel
theorem dX9_watched_39 : decode cX9_watched 39 = .ok (.bipush 20, 2) := by decide +kernel
theorem dX9_watched_41 : decode cX9_watched 41 = .ok (.if_icmp .lt 6, 3) := by decide +kernel
theorem dX9_watched_44 : decode cX9_watched 44 = .ok (.bipush (-4), 2) := by decide +kernel
theorem dX9_watched_46 : decode cX9_watched 46 = .ok (.ireturn, 1) := by decide +kernel
theorem dX9_watched_47 : decode cX9_watched 47 = .ok (.aload_n 0, 1) := by decide +kernel
theorem dX9_watched_48 : decode cX9_watched 48 = .ok (.getfield 55, 3) := by decide +kernel
theorem dX9_watched_51 : decode cX9_watched 51 = .ok (.iload_n 1, 1) := by decide +kernel
theorem dX9_watched_52 : decode cX9_watched 52 = .ok (.iload_n 2, 1) := by decide +kernel
theorem dX9_watched_53 : decode cX9_watched 53 = .ok (.iload_n 3, 1) := by decide +kernel
theorem dX9_watched_54 : decode cX9_watched 54 = .ok (.invokevirtual 229, 3) := by decide +kernel
theorem dX9_watched_57 : decode cX9_watched 57 = .ok (.aload_n 0, 1) := by decide +kernel
theorem dX9_watched_58 : decode cX9_watched 58 = .ok (.getfield 55, 3) := by decide +kernel
theorem dX9_watched_61 : decode cX9_watched 61 = .ok (.getfield 228, 3) := by decide +kernel
theorem dX9_watched_64 : decode cX9_watched 64 = .ok (.iconst 1, 1) := by decide +kernel
theorem dX9_watched_65 : decode cX9_watched 65 = .ok (.isub, 1) := by decide +kernel
theorem dX9_watched_66 : decode cX9_watched 66 = .ok (.ireturn, 1) := by decide +kernel
theorem dX9_lets_0 : decode cX9_lets 0 = .ok (.iload_n 1, 1) := by decide +kernel
theorem dX9_lets_1 : decode cX9_lets 1 = .ok (.iconst 0, 1) := by decide +kernel
theorem dX9_lets_2 : decode cX9_lets 2 = .ok (.bipush 99, 2) := by decide +kernel
theorem dX9_lets_4 : decode cX9_lets 4 = .ok (.invokestatic 70, 3) := by decide +kernel
theorem dX9_lets_7 : decode cX9_lets 7 = .ok (.ifCond .eq 12, 3) := by decide +kernel
theorem dX9_lets_10 : decode cX9_lets 10 = .ok (.iload_n 2, 1) := by decide +kernel
theorem dX9_lets_11 : decode cX9_lets 11 = .ok (.iconst 0, 1) := by decide +kernel
theorem dX9_lets_12 : decode cX9_lets 12 = .ok (.iconst 2, 1) := by decide +kernel
theorem dX9_lets_13 : decode cX9_lets 13 = .ok (.invokestatic 70, 3) := by decide +kernel
theorem dX9_lets_16 : decode cX9_lets 16 = .ok (.ifCond .ne 6, 3) := by decide +kernel
theorem dX9_lets_19 : decode cX9_lets 19 = .ok (.bipush (-2), 2) := by decide +kernel
theorem dX9_lets_21 : decode cX9_lets 21 = .ok (.ireturn, 1) := by decide +kernel
theorem dX9_lets_22 : decode cX9_lets 22 = .ok (.aload_n 0, 1) := by decide +kernel
theorem dX9_lets_23 : decode cX9_lets 23 = .ok (.iload_n 1, 1) := by decide +kernel
theorem dX9_lets_24 : decode cX9_lets 24 = .ok (.invokevirtual 232, 3) := by decide +kernel
theorem dX9_lets_27 : decode cX9_lets 27 = .ok (.iload_n 2, 1) := by decide +kernel
theorem dX9_lets_28 : decode cX9_lets 28 = .ok (.ifCond .ne 11, 3) := by decide +kernel
theorem dX9_lets_31 : decode cX9_lets 31 = .ok (.aload_n 0, 1) := by decide +kernel
theorem dX9_lets_32 : decode cX9_lets 32 = .ok (.getfield 55, 3) := by decide +kernel
theorem dX9_lets_35 : decode cX9_lets 35 = .ok (.getfield 236, 3) := by decide +kernel
theorem dX9_lets_38 : decode cX9_lets 38 = .ok (.ireturn, 1) := by decide +kernel
theorem dX9_lets_39 : decode cX9_lets 39 = .ok (.iload_n 2, 1) := by decide +kernel
theorem dX9_lets_40 : decode cX9_lets 40 = .ok (.iconst 1, 1) := by decide +kernel
theorem dX9_lets_41 : decode cX9_lets 41 = .ok (.if_icmp .ne 13, 3) := by decide +kernel
theorem dX9_lets_44 : decode cX9_lets 44 = .ok (.aload_n 0, 1) := by decide +kernel
theorem dX9_lets_45 : decode cX9_lets 45 = .ok (.getfield 55, 3) := by decide +kernel
theorem dX9_lets_48 : decode cX9_lets 48 = .ok (.getfield 239, 3) := by decide +kernel
theorem dX9_lets_51 : decode cX9_lets 51 = .ok (.goto 10, 3) := by decide +kernel
theorem dX9_lets_54 : decode cX9_lets 54 = .ok (.aload_n 0, 1) := by decide +kernel
theorem dX9_lets_55 : decode cX9_lets 55 = .ok (.getfield 55, 3) := by decide +kernel
theorem dX9_lets_58 : decode cX9_lets 58 = .ok (.getfield 242, 3) := by decide +kernel
theorem dX9_lets_61 : decode cX9_lets 61 = .ok (.ireturn, 1) := by decide +kernel
theorem dX9_thrownOut_0 : decode cX9_thrownOut 0 = .ok (.iload_n 1, 1) := by decide +kernel
theorem dX9_thrownOut_1 : decode cX9_thrownOut 1 = .ok (.iconst 0, 1) := by decide +kernel
theorem dX9_thrownOut_2 : decode cX9_thrownOut 2 = .ok (.bipush 99, 2) := by decide +kernel
theorem dX9_thrownOut_4 : decode cX9_thrownOut 4 = .ok (.invokestatic 70, 3) := by decide +kernel
theorem dX9_thrownOut_7 : decode cX9_thrownOut 7 = .ok (.ifCond .ne 6, 3) := by decide +kernel
theorem dX9_thrownOut_10 : decode cX9_thrownOut 10 = .ok (.bipush (-2), 2) := by decide +kernel
theorem dX9_thrownOut_12 : decode cX9_thrownOut 12 = .ok (.ireturn, 1) := by decide +kernel
theorem dX9_thrownOut_13 : decode cX9_thrownOut 13 = .ok (.aload_n 0, 1) := by decide +kernel
theorem dX9_thrownOut_14 : decode cX9_thrownOut 14 = .ok (.iload_n 1, 1) := by decide +kernel
theorem dX9_thrownOut_15 : decode cX9_thrownOut 15 = .ok (.invokevirtual 232, 3) := by decide +kernel
theorem dX9_thrownOut_18 : decode cX9_thrownOut 18 = .ok (.aload_n 0, 1) := by decide +kernel
theorem dX9_thrownOut_19 : decode cX9_thrownOut 19 = .ok (.getfield 55, 3) := by decide +kernel
theorem dX9_thrownOut_22 : decode cX9_thrownOut 22 = .ok (.getfield 236, 3) := by decide +kernel
theorem dX9_thrownOut_25 : decode cX9_thrownOut 25 = .ok (.ifCond .le 7, 3) := by decide +kernel
theorem dX9_thrownOut_28 : decode cX9_thrownOut 28 = .ok (.iconst (-1), 1) := by decide +kernel
theorem dX9_thrownOut_29 : decode cX9_thrownOut 29 = .ok (.goto 10, 3) := by decide +kernel
theorem dX9_thrownOut_32 : decode cX9_thrownOut 32 = .ok (.aload_n 0, 1) := by decide +kernel
theorem dX9_thrownOut_33 : decode cX9_thrownOut 33 = .ok (.getfield 55, 3) := by decide +kernel
theorem dX9_thrownOut_36 : decode cX9_thrownOut 36 = .ok (.getfield 245, 3) := by decide +kernel
theorem dX9_thrownOut_39 : decode cX9_thrownOut 39 = .ok (.ireturn, 1) := by decide +kernel
theorem dX9_next_0 : decode cX9_next 0 = .ok (.iload_n 1, 1) := by decide +kernel
theorem dX9_next_1 : decode cX9_next 1 = .ok (.iconst 0, 1) := by decide +kernel
theorem dX9_next_2 : decode cX9_next 2 = .ok (.bipush 99, 2) := by decide +kernel
theorem dX9_next_4 : decode cX9_next 4 = .ok (.invokestatic 70, 3) := by decide +kernel
theorem dX9_next_7 : decode cX9_next 7 = .ok (.ifCond .eq 20, 3) := by decide +kernel
theorem dX9_next_10 : decode cX9_next 10 = .ok (.aload_n 0, 1) := by decide +kernel
theorem dX9_next_11 : decode cX9_next 11 = .ok (.iload_n 2, 1) := by decide +kernel
theorem dX9_next_12 : decode cX9_next 12 = .ok (.invokevirtual 225, 3) := by decide +kernel
theorem dX9_next_15 : decode cX9_next 15 = .ok (.ifCond .eq 12, 3) := by decide +kernel
theorem dX9_next_18 : decode cX9_next 18 = .ok (.iload_n 3, 1) := by decide +kernel
theorem dX9_next_19 : decode cX9_next 19 = .ok (.iconst 0, 1) := by decide +kernel
theorem dX9_next_20 : decode cX9_next 20 = .ok (.iconst 1, 1) := by decide +kernel
theorem dX9_next_21 : decode cX9_next 21 = .ok (.invokestatic 70, 3) := by decide +kernel
theorem dX9_next_24 : decode cX9_next 24 = .ok (.ifCond .ne 6, 3) := by decide +kernel
theorem dX9_next_27 : decode cX9_next 27 = .ok (.bipush (-2), 2) := by decide +kernel
theorem dX9_next_29 : decode cX9_next 29 = .ok (.ireturn, 1) := by decide +kernel
theorem dX9_next_30 : decode cX9_next 30 = .ok (.aload_n 0, 1) := by decide +kernel
theorem dX9_next_31 : decode cX9_next 31 = .ok (.getfield 10, 3) := by decide +kernel
theorem dX9_next_34 : decode cX9_next 34 = .ok (.getfield 148, 3) := by decide +kernel
theorem dX9_next_37 : decode cX9_next 37 = .ok (.ifCond .ne 6, 3) := by decide +kernel
theorem dX9_next_40 : decode cX9_next 40 = .ok (.bipush (-3), 2) := by decide +kernel
theorem dX9_next_42 : decode cX9_next 42 = .ok (.ireturn, 1) := by decide +kernel
theorem dX9_next_43 : decode cX9_next 43 = .ok (.aload_n 0, 1) := by decide +kernel
theorem dX9_next_44 : decode cX9_next 44 = .ok (.iload_n 1, 1) := by decide +kernel
theorem dX9_next_45 : decode cX9_next 45 = .ok (.invokevirtual 232, 3) := by decide +kernel
theorem dX9_next_48 : decode cX9_next 48 = .ok (.aload_n 0, 1) := by decide +kernel
theorem dX9_next_49 : decode cX9_next 49 = .ok (.getfield 55, 3) := by decide +kernel
theorem dX9_next_52 : decode cX9_next 52 = .ok (.getfield 236, 3) := by decide +kernel
theorem dX9_next_55 : decode cX9_next 55 = .ok (.ifCond .ne 6, 3) := by decide +kernel
theorem dX9_next_58 : decode cX9_next 58 = .ok (.bipush (-3), 2) := by decide +kernel
theorem dX9_next_60 : decode cX9_next 60 = .ok (.ireturn, 1) := by decide +kernel
theorem dX9_next_61 : decode cX9_next 61 = .ok (.aload_n 0, 1) := by decide +kernel
theorem dX9_next_62 : decode cX9_next 62 = .ok (.iload_n 2, 1) := by decide +kernel
theorem dX9_next_63 : decode cX9_next 63 = .ok (.invokevirtual 248, 3) := by decide +kernel
theorem dX9_next_66 : decode cX9_next 66 = .ok (.iload_n 3, 1) := by decide +kernel
theorem dX9_next_67 : decode cX9_next 67 = .ok (.ifCond .ne 13, 3) := by decide +kernel
theorem dX9_next_70 : decode cX9_next 70 = .ok (.aload_n 0, 1) := by decide +kernel
theorem dX9_next_71 : decode cX9_next 71 = .ok (.getfield 55, 3) := by decide +kernel
theorem dX9_next_74 : decode cX9_next 74 = .ok (.getfield 251, 3) := by decide +kernel
theorem dX9_next_77 : decode cX9_next 77 = .ok (.goto 10, 3) := by decide +kernel
theorem dX9_next_80 : decode cX9_next 80 = .ok (.aload_n 0, 1) := by decide +kernel
theorem dX9_next_81 : decode cX9_next 81 = .ok (.getfield 55, 3) := by decide +kernel
theorem dX9_next_84 : decode cX9_next 84 = .ok (.getfield 254, 3) := by decide +kernel
theorem dX9_next_87 : decode cX9_next 87 = .ok (.ireturn, 1) := by decide +kernel
theorem dX9_near_0 : decode cX9_near 0 = .ok (.aload_n 0, 1) := by decide +kernel
theorem dX9_near_1 : decode cX9_near 1 = .ok (.getfield 10, 3) := by decide +kernel
theorem dX9_near_4 : decode cX9_near 4 = .ok (.iload_n 3, 1) := by decide +kernel
theorem dX9_near_5 : decode cX9_near 5 = .ok (.invokevirtual 159, 3) := by decide +kernel
theorem dX9_near_8 : decode cX9_near 8 = .ok (.astore 6, 2) := by decide +kernel
theorem dX9_near_10 : decode cX9_near 10 = .ok (.aload_n 0, 1) := by decide +kernel
theorem dX9_near_11 : decode cX9_near 11 = .ok (.getfield 10, 3) := by decide +kernel
theorem dX9_near_14 : decode cX9_near 14 = .ok (.iload_n 1, 1) := by decide +kernel
theorem dX9_near_15 : decode cX9_near 15 = .ok (.iload_n 2, 1) := by decide +kernel
theorem dX9_near_16 : decode cX9_near 16 = .ok (.invokevirtual 109, 3) := by decide +kernel
theorem dX9_near_19 : decode cX9_near 19 = .ok (.ifCond .eq 30, 3) := by decide +kernel
theorem dX9_near_22 : decode cX9_near 22 = .ok (.aload 6, 2) := by decide +kernel
theorem dX9_near_24 : decode cX9_near 24 = .ok (.ifnull 25, 3) := by decide +kernel
theorem dX9_near_27 : decode cX9_near 27 = .ok (.iload 4, 2) := by decide +kernel
theorem dX9_near_29 : decode cX9_near 29 = .ok (.iconst 1, 1) := by decide +kernel
theorem dX9_near_30 : decode cX9_near 30 = .ok (.bipush 20, 2) := by decide +kernel
theorem dX9_near_32 : decode cX9_near 32 = .ok (.invokestatic 70, 3) := by decide +kernel
theorem dX9_near_35 : decode cX9_near 35 = .ok (.ifCond .eq 14, 3) := by decide +kernel
theorem dX9_near_38 : decode cX9_near 38 = .ok (.iload 5, 2) := by decide +kernel
theorem dX9_near_40 : decode cX9_near 40 = .ok (.iconst 1, 1) := by decide +kernel
theorem dX9_near_41 : decode cX9_near 41 = .ok (.bipush 99, 2) := by decide +kernel
theorem dX9_near_43 : decode cX9_near 43 = .ok (.invokestatic 70, 3) := by decide +kernel
theorem dX9_near_46 : decode cX9_near 46 = .ok (.ifCond .ne 6, 3) := by decide +kernel
theorem dX9_near_49 : decode cX9_near 49 = .ok (.bipush (-2), 2) := by decide +kernel
theorem dX9_near_51 : decode cX9_near 51 = .ok (.ireturn, 1) := by decide +kernel
theorem dX9_near_52 : decode cX9_near 52 = .ok (.aload_n 0, 1) := by decide +kernel
theorem dX9_near_53 : decode cX9_near 53 = .ok (.getfield 10, 3) := by decide +kernel
theorem dX9_near_56 : decode cX9_near 56 = .ok (.iload_n 1, 1) := by decide +kernel
theorem dX9_near_57 : decode cX9_near 57 = .ok (.iload_n 2, 1) := by decide +kernel
theorem dX9_near_58 : decode cX9_near 58 = .ok (.invokevirtual 113, 3) := by decide +kernel
theorem dX9_near_61 : decode cX9_near 61 = .ok (.istore 7, 2) := by decide +kernel
theorem dX9_near_63 : decode cX9_near 63 = .ok (.iconst (-1), 1) := by decide +kernel
theorem dX9_near_64 : decode cX9_near 64 = .ok (.istore 8, 2) := by decide +kernel
theorem dX9_near_66 : decode cX9_near 66 = .ok (.bipush 100, 2) := by decide +kernel
theorem dX9_near_68 : decode cX9_near 68 = .ok (.istore 9, 2) := by decide +kernel
theorem dX9_near_70 : decode cX9_near 70 = .ok (.iload 9, 2) := by decide +kernel
theorem dX9_near_72 : decode cX9_near 72 = .ok (.ifCond .lt 45, 3) := by decide +kernel
theorem dX9_near_75 : decode cX9_near 75 = .ok (.iload 8, 2) := by decide +kernel
theorem dX9_near_77 : decode cX9_near 77 = .ok (.iconst (-1), 1) := by decide +kernel
theorem dX9_near_78 : decode cX9_near 78 = .ok (.if_icmp .ne 39, 3) := by decide +kernel
theorem dX9_near_81 : decode cX9_near 81 = .ok (.aload_n 0, 1) := by decide +kernel
theorem dX9_near_82 : decode cX9_near 82 = .ok (.getfield 10, 3) := by decide +kernel
theorem dX9_near_85 : decode cX9_near 85 = .ok (.iload_n 1, 1) := by decide +kernel
theorem dX9_near_86 : decode cX9_near 86 = .ok (.iload_n 2, 1) := by decide +kernel
theorem dX9_near_87 : decode cX9_near 87 = .ok (.iload 9, 2) := by decide +kernel
theorem dX9_near_89 : decode cX9_near 89 = .ok (.invokevirtual 117, 3) := by decide +kernel
theorem dX9_near_92 : decode cX9_near 92 = .ok (.aload_n 0, 1) := by decide +kernel
theorem dX9_near_93 : decode cX9_near 93 = .ok (.iload_n 1, 1) := by decide +kernel
theorem dX9_near_94 : decode cX9_near 94 = .ok (.iload_n 2, 1) := by decide +kernel
theorem dX9_near_95 : decode cX9_near 95 = .ok (.aload 6, 2) := by decide +kernel
theorem dX9_near_97 : decode cX9_near 97 = .ok (.iload 4, 2) := by decide +kernel
theorem dX9_near_99 : decode cX9_near 99 = .ok (.invokevirtual 257, 3) := by decide +kernel
theorem dX9_near_102 : decode cX9_near 102 = .ok (.iload 5, 2) := by decide +kernel
theorem dX9_near_104 : decode cX9_near 104 = .ok (.if_icmp .lt 7, 3) := by decide +kernel
theorem dX9_near_107 : decode cX9_near 107 = .ok (.iload 9, 2) := by decide +kernel
theorem dX9_near_109 : decode cX9_near 109 = .ok (.istore 8, 2) := by decide +kernel
theorem dX9_near_111 : decode cX9_near 111 = .ok (.iinc 9 (-5), 3) := by decide +kernel
theorem dX9_near_114 : decode cX9_near 114 = .ok (.goto (-44), 3) := by decide +kernel
theorem dX9_near_117 : decode cX9_near 117 = .ok (.aload_n 0, 1) := by decide +kernel
theorem dX9_near_118 : decode cX9_near 118 = .ok (.getfield 10, 3) := by decide +kernel
theorem dX9_near_121 : decode cX9_near 121 = .ok (.iload_n 1, 1) := by decide +kernel
theorem dX9_near_122 : decode cX9_near 122 = .ok (.iload_n 2, 1) := by decide +kernel
theorem dX9_near_123 : decode cX9_near 123 = .ok (.iload 7, 2) := by decide +kernel
theorem dX9_near_125 : decode cX9_near 125 = .ok (.invokevirtual 117, 3) := by decide +kernel
theorem dX9_near_128 : decode cX9_near 128 = .ok (.iload 8, 2) := by decide +kernel
theorem dX9_near_130 : decode cX9_near 130 = .ok (.ireturn, 1) := by decide +kernel
theorem dX9_image_0 : decode cX9_image 0 = .ok (.aload_n 0, 1) := by decide +kernel
theorem dX9_image_1 : decode cX9_image 1 = .ok (.getfield 25, 3) := by decide +kernel
theorem dX9_image_4 : decode cX9_image 4 = .ok (.aload_n 0, 1) := by decide +kernel
theorem dX9_image_5 : decode cX9_image 5 = .ok (.getfield 21, 3) := by decide +kernel
theorem dX9_image_8 : decode cX9_image 8 = .ok (.bipush 8, 2) := by decide +kernel
theorem dX9_image_10 : decode cX9_image 10 = .ok (.invokevirtual 191, 3) := by decide +kernel
theorem dX9_image_13 : decode cX9_image 13 = .ok (.aload_n 0, 1) := by decide +kernel
theorem dX9_image_14 : decode cX9_image 14 = .ok (.aload_n 0, 1) := by decide +kernel
theorem dX9_image_15 : decode cX9_image 15 = .ok (.getfield 10, 3) := by decide +kernel
theorem dX9_image_18 : decode cX9_image 18 = .ok (.getfield 74, 3) := by decide +kernel
theorem dX9_image_21 : decode cX9_image 21 = .ok (.putfield 66, 3) := by decide +kernel
theorem dX9_image_24 : decode cX9_image 24 = .ok (.aload_n 0, 1) := by decide +kernel
theorem dX9_image_25 : decode cX9_image 25 = .ok (.getfield 21, 3) := by decide +kernel
theorem dX9_image_28 : decode cX9_image 28 = .ok (.getfield 184, 3) := by decide +kernel
theorem dX9_image_31 : decode cX9_image 31 = .ok (.ireturn, 1) := by decide +kernel
theorem dX9_back_0 : decode cX9_back 0 = .ok (.aload_n 0, 1) := by decide +kernel
theorem dX9_back_1 : decode cX9_back 1 = .ok (.getfield 66, 3) := by decide +kernel
theorem dX9_back_4 : decode cX9_back 4 = .ok (.iconst (-1), 1) := by decide +kernel
theorem dX9_back_5 : decode cX9_back 5 = .ok (.if_icmp .ne 6, 3) := by decide +kernel
theorem dX9_back_8 : decode cX9_back 8 = .ok (.bipush (-3), 2) := by decide +kernel
theorem dX9_back_10 : decode cX9_back 10 = .ok (.ireturn, 1) := by decide +kernel
theorem dX9_back_11 : decode cX9_back 11 = .ok (.aload_n 0, 1) := by decide +kernel
theorem dX9_back_12 : decode cX9_back 12 = .ok (.getfield 21, 3) := by decide +kernel
theorem dX9_back_15 : decode cX9_back 15 = .ok (.aload_n 0, 1) := by decide +kernel
theorem dX9_back_16 : decode cX9_back 16 = .ok (.getfield 25, 3) := by decide +kernel
theorem dX9_back_19 : decode cX9_back 19 = .ok (.aload_n 0, 1) := by decide +kernel
theorem dX9_back_20 : decode cX9_back 20 = .ok (.getfield 66, 3) := by decide +kernel
theorem dX9_back_23 : decode cX9_back 23 = .ok (.invokevirtual 191, 3) := by decide +kernel
theorem dX9_back_26 : decode cX9_back 26 = .ok (.aload_n 0, 1) := by decide +kernel
theorem dX9_back_27 : decode cX9_back 27 = .ok (.getfield 21, 3) := by decide +kernel
theorem dX9_back_30 : decode cX9_back 30 = .ok (.getfield 184, 3) := by decide +kernel
theorem dX9_back_33 : decode cX9_back 33 = .ok (.ireturn, 1) := by decide +kernel
theorem dX9_count_0 : decode cX9_count 0 = .ok (.iload_n 1, 1) := by decide +kernel
theorem dX9_count_1 : decode cX9_count 1 = .ok (.tableswitch 123 0 8 #[51, 59, 67, 75, 83, 91, 99, 107, 115], 51) := by decide +kernel
theorem dX9_count_52 : decode cX9_count 52 = .ok (.aload_n 0, 1) := by decide +kernel
theorem dX9_count_53 : decode cX9_count 53 = .ok (.getfield 10, 3) := by decide +kernel
theorem dX9_count_56 : decode cX9_count 56 = .ok (.getfield 74, 3) := by decide +kernel
theorem dX9_count_59 : decode cX9_count 59 = .ok (.ireturn, 1) := by decide +kernel
theorem dX9_count_60 : decode cX9_count 60 = .ok (.aload_n 0, 1) := by decide +kernel
theorem dX9_count_61 : decode cX9_count 61 = .ok (.getfield 21, 3) := by decide +kernel
theorem dX9_count_64 : decode cX9_count 64 = .ok (.getfield 184, 3) := by decide +kernel
theorem dX9_count_67 : decode cX9_count 67 = .ok (.ireturn, 1) := by decide +kernel
theorem dX9_count_68 : decode cX9_count 68 = .ok (.aload_n 0, 1) := by decide +kernel
theorem dX9_count_69 : decode cX9_count 69 = .ok (.getfield 10, 3) := by decide +kernel
theorem dX9_count_72 : decode cX9_count 72 = .ok (.getfield 148, 3) := by decide +kernel
theorem dX9_count_75 : decode cX9_count 75 = .ok (.ireturn, 1) := by decide +kernel
theorem dX9_count_76 : decode cX9_count 76 = .ok (.aload_n 0, 1) := by decide +kernel
theorem dX9_count_77 : decode cX9_count 77 = .ok (.getfield 10, 3) := by decide +kernel
theorem dX9_count_80 : decode cX9_count 80 = .ok (.getfield 131, 3) := by decide +kernel
theorem dX9_count_83 : decode cX9_count 83 = .ok (.ireturn, 1) := by decide +kernel
theorem dX9_count_84 : decode cX9_count 84 = .ok (.aload_n 0, 1) := by decide +kernel
theorem dX9_count_85 : decode cX9_count 85 = .ok (.getfield 34, 3) := by decide +kernel
theorem dX9_count_88 : decode cX9_count 88 = .ok (.getfield 124, 3) := by decide +kernel
theorem dX9_count_91 : decode cX9_count 91 = .ok (.ireturn, 1) := by decide +kernel
theorem dX9_count_92 : decode cX9_count 92 = .ok (.aload_n 0, 1) := by decide +kernel
theorem dX9_count_93 : decode cX9_count 93 = .ok (.getfield 21, 3) := by decide +kernel
theorem dX9_count_96 : decode cX9_count 96 = .ok (.getfield 145, 3) := by decide +kernel
theorem dX9_count_99 : decode cX9_count 99 = .ok (.ireturn, 1) := by decide +kernel
theorem dX9_count_100 : decode cX9_count 100 = .ok (.aload_n 0, 1) := by decide +kernel
theorem dX9_count_101 : decode cX9_count 101 = .ok (.getfield 55, 3) := by decide +kernel
theorem dX9_count_104 : decode cX9_count 104 = .ok (.getfield 228, 3) := by decide +kernel
theorem dX9_count_107 : decode cX9_count 107 = .ok (.ireturn, 1) := by decide +kernel
theorem dX9_count_108 : decode cX9_count 108 = .ok (.aload_n 0, 1) := by decide +kernel
theorem dX9_count_109 : decode cX9_count 109 = .ok (.getfield 21, 3) := by decide +kernel
theorem dX9_count_112 : decode cX9_count 112 = .ok (.invokevirtual 202, 3) := by decide +kernel
theorem dX9_count_115 : decode cX9_count 115 = .ok (.ireturn, 1) := by decide +kernel
theorem dX9_count_116 : decode cX9_count 116 = .ok (.aload_n 0, 1) := by decide +kernel
theorem dX9_count_117 : decode cX9_count 117 = .ok (.getfield 21, 3) := by decide +kernel
theorem dX9_count_120 : decode cX9_count 120 = .ok (.getfield 121, 3) := by decide +kernel
theorem dX9_count_123 : decode cX9_count 123 = .ok (.ireturn, 1) := by decide +kernel
theorem dX9_count_124 : decode cX9_count 124 = .ok (.bipush (-2), 2) := by decide +kernel
theorem dX9_count_126 : decode cX9_count 126 = .ok (.ireturn, 1) := by decide +kernel
theorem dX9_sheet_0 : decode cX9_sheet 0 = .ok (.iload_n 1, 1) := by decide +kernel
theorem dX9_sheet_1 : decode cX9_sheet 1 = .ok (.invokestatic 261, 3) := by decide +kernel
theorem dX9_sheet_4 : decode cX9_sheet 4 = .ok (.ifCond .eq 12, 3) := by decide +kernel
theorem dX9_sheet_7 : decode cX9_sheet 7 = .ok (.iload_n 2, 1) := by decide +kernel
theorem dX9_sheet_8 : decode cX9_sheet 8 = .ok (.iconst (-1), 1) := by decide +kernel
theorem dX9_sheet_9 : decode cX9_sheet 9 = .ok (.iconst 2, 1) := by decide +kernel
theorem dX9_sheet_10 : decode cX9_sheet 10 = .ok (.invokestatic 70, 3) := by decide +kernel
theorem dX9_sheet_13 : decode cX9_sheet 13 = .ok (.ifCond .ne 6, 3) := by decide +kernel
theorem dX9_sheet_16 : decode cX9_sheet 16 = .ok (.bipush (-2), 2) := by decide +kernel
theorem dX9_sheet_18 : decode cX9_sheet 18 = .ok (.ireturn, 1) := by decide +kernel
theorem dX9_sheet_19 : decode cX9_sheet 19 = .ok (.iload_n 2, 1) := by decide +kernel
theorem dX9_sheet_20 : decode cX9_sheet 20 = .ok (.iconst (-1), 1) := by decide +kernel
theorem dX9_sheet_21 : decode cX9_sheet 21 = .ok (.if_icmp .eq 12, 3) := by decide +kernel
theorem dX9_sheet_24 : decode cX9_sheet 24 = .ok (.iload_n 3, 1) := by decide +kernel
theorem dX9_sheet_25 : decode cX9_sheet 25 = .ok (.bipush 40, 2) := by decide +kernel
theorem dX9_sheet_27 : decode cX9_sheet 27 = .ok (.if_icmp .le 6, 3) := by decide +kernel
theorem dX9_sheet_30 : decode cX9_sheet 30 = .ok (.bipush (-2), 2) := by decide +kernel
theorem dX9_sheet_32 : decode cX9_sheet 32 = .ok (.ireturn, 1) := by decide +kernel
theorem dX9_sheet_33 : decode cX9_sheet 33 = .ok (.iload_n 2, 1) := by decide +kernel
theorem dX9_sheet_34 : decode cX9_sheet 34 = .ok (.iconst (-1), 1) := by decide +kernel
theorem dX9_sheet_35 : decode cX9_sheet 35 = .ok (.if_icmp .eq 10, 3) := by decide +kernel
theorem dX9_sheet_38 : decode cX9_sheet 38 = .ok (.iload_n 3, 1) := by decide +kernel
theorem dX9_sheet_39 : decode cX9_sheet 39 = .ok (.ifCond .ge 6, 3) := by decide +kernel
theorem dX9_sheet_42 : decode cX9_sheet 42 = .ok (.bipush (-14), 2) := by decide +kernel
theorem dX9_sheet_44 : decode cX9_sheet 44 = .ok (.ireturn, 1) := by decide +kernel
theorem dX9_sheet_45 : decode cX9_sheet 45 = .ok (.aload_n 0, 1) := by decide +kernel
theorem dX9_sheet_46 : decode cX9_sheet 46 = .ok (.getfield 61, 3) := by decide +kernel
theorem dX9_sheet_49 : decode cX9_sheet 49 = .ok (.iload_n 1, 1) := by decide +kernel
theorem dX9_sheet_50 : decode cX9_sheet 50 = .ok (.aaload, 1) := by decide +kernel
theorem dX9_sheet_51 : decode cX9_sheet 51 = .ok (.iload_n 2, 1) := by decide +kernel
theorem dX9_sheet_52 : decode cX9_sheet 52 = .ok (.iload_n 2, 1) := by decide +kernel
theorem dX9_sheet_53 : decode cX9_sheet 53 = .ok (.iconst (-1), 1) := by decide +kernel
theorem dX9_sheet_54 : decode cX9_sheet 54 = .ok (.if_icmp .ne 7, 3) := by decide +kernel
theorem dX9_sheet_57 : decode cX9_sheet 57 = .ok (.iconst 0, 1) := by decide +kernel
theorem dX9_sheet_58 : decode cX9_sheet 58 = .ok (.goto 4, 3) := by decide +kernel
theorem dX9_sheet_61 : decode cX9_sheet 61 = .ok (.iload_n 3, 1) := by decide +kernel
theorem dX9_sheet_62 : decode cX9_sheet 62 = .ok (.invokevirtual 264, 3) := by decide +kernel
theorem dX9_sheet_65 : decode cX9_sheet 65 = .ok (.iconst 1, 1) := by decide +kernel
theorem dX9_sheet_66 : decode cX9_sheet 66 = .ok (.ireturn, 1) := by decide +kernel
theorem dX9_cell_0 : decode cX9_cell 0 = .ok (.iload_n 1, 1) := by decide +kernel
theorem dX9_cell_1 : decode cX9_cell 1 = .ok (.invokestatic 261, 3) := by decide +kernel
theorem dX9_cell_4 : decode cX9_cell 4 = .ok (.ifCond .ne 6, 3) := by decide +kernel
theorem dX9_cell_7 : decode cX9_cell 7 = .ok (.bipush (-2), 2) := by decide +kernel
theorem dX9_cell_9 : decode cX9_cell 9 = .ok (.ireturn, 1) := by decide +kernel
theorem dX9_cell_10 : decode cX9_cell 10 = .ok (.aload_n 0, 1) := by decide +kernel
theorem dX9_cell_11 : decode cX9_cell 11 = .ok (.getfield 61, 3) := by decide +kernel
theorem dX9_cell_14 : decode cX9_cell 14 = .ok (.iload_n 1, 1) := by decide +kernel
theorem dX9_cell_15 : decode cX9_cell 15 = .ok (.aaload, 1) := by decide +kernel
theorem dX9_cell_16 : decode cX9_cell 16 = .ok (.astore 4, 2) := by decide +kernel
theorem dX9_cell_18 : decode cX9_cell 18 = .ok (.aload 4, 2) := by decide +kernel
theorem dX9_cell_20 : decode cX9_cell 20 = .ok (.invokevirtual 268, 3) := by decide +kernel
theorem dX9_cell_23 : decode cX9_cell 23 = .ok (.ifCond .eq 6, 3) := by decide +kernel
theorem dX9_cell_26 : decode cX9_cell 26 = .ok (.bipush (-11), 2) := by decide +kernel
theorem dX9_cell_28 : decode cX9_cell 28 = .ok (.ireturn, 1) := by decide +kernel
theorem dX9_cell_29 : decode cX9_cell 29 = .ok (.aload 4, 2) := by decide +kernel
theorem dX9_cell_31 : decode cX9_cell 31 = .ok (.iload_n 2, 1) := by decide +kernel
theorem dX9_cell_32 : decode cX9_cell 32 = .ok (.invokevirtual 272, 3) := by decide +kernel
theorem dX9_cell_35 : decode cX9_cell 35 = .ok (.ifCond .ne 6, 3) := by decide +kernel
theorem dX9_cell_38 : decode cX9_cell 38 = .ok (.bipush (-12), 2) := by decide +kernel
theorem dX9_cell_40 : decode cX9_cell 40 = .ok (.ireturn, 1) := by decide +kernel
theorem dX9_cell_41 : decode cX9_cell 41 = .ok (.aload 4, 2) := by decide +kernel
theorem dX9_cell_43 : decode cX9_cell 43 = .ok (.iload_n 2, 1) := by decide +kernel
theorem dX9_cell_44 : decode cX9_cell 44 = .ok (.iload_n 3, 1) := by decide +kernel
theorem dX9_cell_45 : decode cX9_cell 45 = .ok (.invokevirtual 275, 3) := by decide +kernel
theorem dX9_cell_48 : decode cX9_cell 48 = .ok (.iconst 1, 1) := by decide +kernel
theorem dX9_cell_49 : decode cX9_cell 49 = .ok (.ireturn, 1) := by decide +kernel
theorem dX9_copy_0 : decode cX9_copy 0 = .ok (.iload_n 1, 1) := by decide +kernel
theorem dX9_copy_1 : decode cX9_copy 1 = .ok (.invokestatic 261, 3) := by decide +kernel
theorem dX9_copy_4 : decode cX9_copy 4 = .ok (.ifCond .eq 10, 3) := by decide +kernel
theorem dX9_copy_7 : decode cX9_copy 7 = .ok (.iload_n 3, 1) := by decide +kernel
theorem dX9_copy_8 : decode cX9_copy 8 = .ok (.invokestatic 261, 3) := by decide +kernel
theorem dX9_copy_11 : decode cX9_copy 11 = .ok (.ifCond .ne 6, 3) := by decide +kernel
theorem dX9_copy_14 : decode cX9_copy 14 = .ok (.bipush (-2), 2) := by decide +kernel
theorem dX9_copy_16 : decode cX9_copy 16 = .ok (.ireturn, 1) := by decide +kernel
theorem dX9_copy_17 : decode cX9_copy 17 = .ok (.aload_n 0, 1) := by decide +kernel
theorem dX9_copy_18 : decode cX9_copy 18 = .ok (.getfield 61, 3) := by decide +kernel
theorem dX9_copy_21 : decode cX9_copy 21 = .ok (.iload_n 1, 1) := by decide +kernel
theorem dX9_copy_22 : decode cX9_copy 22 = .ok (.aaload, 1) := by decide +kernel
theorem dX9_copy_23 : decode cX9_copy 23 = .ok (.astore 6, 2) := by decide +kernel
theorem dX9_copy_25 : decode cX9_copy 25 = .ok (.aload_n 0, 1) := by decide +kernel
theorem dX9_copy_26 : decode cX9_copy 26 = .ok (.getfield 61, 3) := by decide +kernel
theorem dX9_copy_29 : decode cX9_copy 29 = .ok (.iload_n 3, 1) := by decide +kernel
theorem dX9_copy_30 : decode cX9_copy 30 = .ok (.aaload, 1) := by decide +kernel
theorem dX9_copy_31 : decode cX9_copy 31 = .ok (.astore 7, 2) := by decide +kernel
theorem dX9_copy_33 : decode cX9_copy 33 = .ok (.aload 6, 2) := by decide +kernel
theorem dX9_copy_35 : decode cX9_copy 35 = .ok (.invokevirtual 268, 3) := by decide +kernel
theorem dX9_copy_38 : decode cX9_copy 38 = .ok (.ifCond .ne 11, 3) := by decide +kernel
theorem dX9_copy_41 : decode cX9_copy 41 = .ok (.aload 7, 2) := by decide +kernel
theorem dX9_copy_43 : decode cX9_copy 43 = .ok (.invokevirtual 268, 3) := by decide +kernel
theorem dX9_copy_46 : decode cX9_copy 46 = .ok (.ifCond .eq 6, 3) := by decide +kernel
theorem dX9_copy_49 : decode cX9_copy 49 = .ok (.bipush (-11), 2) := by decide +kernel
theorem dX9_copy_51 : decode cX9_copy 51 = .ok (.ireturn, 1) := by decide +kernel
theorem dX9_copy_52 : decode cX9_copy 52 = .ok (.aload 6, 2) := by decide +kernel
theorem dX9_copy_54 : decode cX9_copy 54 = .ok (.getfield 278, 3) := by decide +kernel
theorem dX9_copy_57 : decode cX9_copy 57 = .ok (.aload 7, 2) := by decide +kernel
theorem dX9_copy_59 : decode cX9_copy 59 = .ok (.getfield 278, 3) := by decide +kernel
theorem dX9_copy_62 : decode cX9_copy 62 = .ok (.if_icmp .eq 6, 3) := by decide +kernel
theorem dX9_copy_65 : decode cX9_copy 65 = .ok (.bipush (-13), 2) := by decide +kernel
theorem dX9_copy_67 : decode cX9_copy 67 = .ok (.ireturn, 1) := by decide +kernel
theorem dX9_copy_68 : decode cX9_copy 68 = .ok (.aload 6, 2) := by decide +kernel
theorem dX9_copy_70 : decode cX9_copy 70 = .ok (.iload_n 2, 1) := by decide +kernel
theorem dX9_copy_71 : decode cX9_copy 71 = .ok (.iload 5, 2) := by decide +kernel
theorem dX9_copy_73 : decode cX9_copy 73 = .ok (.invokevirtual 281, 3) := by decide +kernel
theorem dX9_copy_76 : decode cX9_copy 76 = .ok (.ifCond .eq 15, 3) := by decide +kernel
theorem dX9_copy_79 : decode cX9_copy 79 = .ok (.aload 7, 2) := by decide +kernel
theorem dX9_copy_81 : decode cX9_copy 81 = .ok (.iload 4, 2) := by decide +kernel
theorem dX9_copy_83 : decode cX9_copy 83 = .ok (.iload 5, 2) := by decide +kernel
theorem dX9_copy_85 : decode cX9_copy 85 = .ok (.invokevirtual 281, 3) := by decide +kernel
theorem dX9_copy_88 : decode cX9_copy 88 = .ok (.ifCond .ne 6, 3) := by decide +kernel
theorem dX9_copy_91 : decode cX9_copy 91 = .ok (.bipush (-12), 2) := by decide +kernel
theorem dX9_copy_93 : decode cX9_copy 93 = .ok (.ireturn, 1) := by decide +kernel
theorem dX9_copy_94 : decode cX9_copy 94 = .ok (.aload 6, 2) := by decide +kernel
theorem dX9_copy_96 : decode cX9_copy 96 = .ok (.getfield 284, 3) := by decide +kernel
theorem dX9_copy_99 : decode cX9_copy 99 = .ok (.iload_n 2, 1) := by decide +kernel
theorem dX9_copy_100 : decode cX9_copy 100 = .ok (.aload 7, 2) := by decide +kernel
theorem dX9_copy_102 : decode cX9_copy 102 = .ok (.getfield 284, 3) := by decide +kernel
theorem dX9_copy_105 : decode cX9_copy 105 = .ok (.iload 4, 2) := by decide +kernel
theorem dX9_copy_107 : decode cX9_copy 107 = .ok (.iload 5, 2) := by decide +kernel
theorem dX9_copy_109 : decode cX9_copy 109 = .ok (.invokestatic 287, 3) := by decide +kernel
theorem dX9_copy_112 : decode cX9_copy 112 = .ok (.iload 5, 2) := by decide +kernel
theorem dX9_copy_114 : decode cX9_copy 114 = .ok (.ireturn, 1) := by decide +kernel
theorem dX9_trials_0 : decode cX9_trials 0 = .ok (.iload_n 1, 1) := by decide +kernel
theorem dX9_trials_1 : decode cX9_trials 1 = .ok (.invokestatic 261, 3) := by decide +kernel
theorem dX9_trials_4 : decode cX9_trials 4 = .ok (.ifCond .eq 23, 3) := by decide +kernel
theorem dX9_trials_7 : decode cX9_trials 7 = .ok (.iload_n 2, 1) := by decide +kernel
theorem dX9_trials_8 : decode cX9_trials 8 = .ok (.iconst 0, 1) := by decide +kernel
theorem dX9_trials_9 : decode cX9_trials 9 = .ok (.iconst 2, 1) := by decide +kernel
theorem dX9_trials_10 : decode cX9_trials 10 = .ok (.invokestatic 70, 3) := by decide +kernel
theorem dX9_trials_13 : decode cX9_trials 13 = .ok (.ifCond .eq 14, 3) := by decide +kernel
theorem dX9_trials_16 : decode cX9_trials 16 = .ok (.iload 4, 2) := by decide +kernel
theorem dX9_trials_18 : decode cX9_trials 18 = .ok (.iconst 0, 1) := by decide +kernel
theorem dX9_trials_19 : decode cX9_trials 19 = .ok (.bipush 20, 2) := by decide +kernel
theorem dX9_trials_21 : decode cX9_trials 21 = .ok (.invokestatic 70, 3) := by decide +kernel
theorem dX9_trials_24 : decode cX9_trials 24 = .ok (.ifCond .ne 6, 3) := by decide +kernel
theorem dX9_trials_27 : decode cX9_trials 27 = .ok (.bipush (-2), 2) := by decide +kernel
theorem dX9_trials_29 : decode cX9_trials 29 = .ok (.ireturn, 1) := by decide +kernel
theorem dX9_trials_30 : decode cX9_trials 30 = .ok (.aload_n 0, 1) := by decide +kernel
theorem dX9_trials_31 : decode cX9_trials 31 = .ok (.getfield 61, 3) := by decide +kernel
theorem dX9_trials_34 : decode cX9_trials 34 = .ok (.iload_n 1, 1) := by decide +kernel
theorem dX9_trials_35 : decode cX9_trials 35 = .ok (.aaload, 1) := by decide +kernel
theorem dX9_trials_36 : decode cX9_trials 36 = .ok (.astore 5, 2) := by decide +kernel
theorem dX9_trials_38 : decode cX9_trials 38 = .ok (.aload 5, 2) := by decide +kernel
theorem dX9_trials_40 : decode cX9_trials 40 = .ok (.invokevirtual 268, 3) := by decide +kernel
theorem dX9_trials_43 : decode cX9_trials 43 = .ok (.ifCond .eq 6, 3) := by decide +kernel
theorem dX9_trials_46 : decode cX9_trials 46 = .ok (.bipush (-11), 2) := by decide +kernel
theorem dX9_trials_48 : decode cX9_trials 48 = .ok (.ireturn, 1) := by decide +kernel
theorem dX9_trials_49 : decode cX9_trials 49 = .ok (.aload 5, 2) := by decide +kernel
theorem dX9_trials_51 : decode cX9_trials 51 = .ok (.getfield 278, 3) := by decide +kernel
theorem dX9_trials_54 : decode cX9_trials 54 = .ok (.iload_n 2, 1) := by decide +kernel
theorem dX9_trials_55 : decode cX9_trials 55 = .ok (.if_icmp .eq 6, 3) := by decide +kernel
theorem dX9_trials_58 : decode cX9_trials 58 = .ok (.bipush (-13), 2) := by decide +kernel
theorem dX9_trials_60 : decode cX9_trials 60 = .ok (.ireturn, 1) := by decide +kernel
theorem dX9_trials_61 : decode cX9_trials 61 = .ok (.iconst 0, 1) := by decide +kernel
theorem dX9_trials_62 : decode cX9_trials 62 = .ok (.istore 6, 2) := by decide +kernel
theorem dX9_trials_64 : decode cX9_trials 64 = .ok (.iconst 0, 1) := by decide +kernel
theorem dX9_trials_65 : decode cX9_trials 65 = .ok (.istore 7, 2) := by decide +kernel
theorem dX9_trials_67 : decode cX9_trials 67 = .ok (.iload 7, 2) := by decide +kernel
theorem dX9_trials_69 : decode cX9_trials 69 = .ok (.iload 4, 2) := by decide +kernel
theorem dX9_trials_71 : decode cX9_trials 71 = .ok (.if_icmp .ge 92, 3) := by decide +kernel
theorem dX9_trials_74 : decode cX9_trials 74 = .ok (.aload 5, 2) := by decide +kernel
theorem dX9_trials_76 : decode cX9_trials 76 = .ok (.iload_n 3, 1) := by decide +kernel
theorem dX9_trials_77 : decode cX9_trials 77 = .ok (.iconst 2, 1) := by decide +kernel
theorem dX9_trials_78 : decode cX9_trials 78 = .ok (.iload 7, 2) := by decide +kernel
theorem dX9_trials_80 : decode cX9_trials 80 = .ok (.imul, 1) := by decide +kernel
theorem dX9_trials_81 : decode cX9_trials 81 = .ok (.iconst 2, 1) := by decide +kernel
theorem dX9_trials_82 : decode cX9_trials 82 = .ok (.iadd, 1) := by decide +kernel
theorem dX9_trials_83 : decode cX9_trials 83 = .ok (.invokevirtual 281, 3) := by decide +kernel
theorem dX9_trials_86 : decode cX9_trials 86 = .ok (.ifCond .ne 6, 3) := by decide +kernel
theorem dX9_trials_89 : decode cX9_trials 89 = .ok (.bipush (-12), 2) := by decide +kernel
theorem dX9_trials_91 : decode cX9_trials 91 = .ok (.ireturn, 1) := by decide +kernel
theorem dX9_trials_92 : decode cX9_trials 92 = .ok (.aload 5, 2) := by decide +kernel
theorem dX9_trials_94 : decode cX9_trials 94 = .ok (.getfield 284, 3) := by decide +kernel
theorem dX9_trials_97 : decode cX9_trials 97 = .ok (.iload_n 3, 1) := by decide +kernel
theorem dX9_trials_98 : decode cX9_trials 98 = .ok (.iconst 2, 1) := by decide +kernel
theorem dX9_trials_99 : decode cX9_trials 99 = .ok (.iload 7, 2) := by decide +kernel
theorem dX9_trials_101 : decode cX9_trials 101 = .ok (.imul, 1) := by decide +kernel
theorem dX9_trials_102 : decode cX9_trials 102 = .ok (.iadd, 1) := by decide +kernel
theorem dX9_trials_103 : decode cX9_trials 103 = .ok (.iaload, 1) := by decide +kernel
theorem dX9_trials_104 : decode cX9_trials 104 = .ok (.istore 8, 2) := by decide +kernel
theorem dX9_trials_106 : decode cX9_trials 106 = .ok (.aload 5, 2) := by decide +kernel
theorem dX9_trials_108 : decode cX9_trials 108 = .ok (.getfield 284, 3) := by decide +kernel
theorem dX9_trials_111 : decode cX9_trials 111 = .ok (.iload_n 3, 1) := by decide +kernel
theorem dX9_trials_112 : decode cX9_trials 112 = .ok (.iconst 2, 1) := by decide +kernel
theorem dX9_trials_113 : decode cX9_trials 113 = .ok (.iload 7, 2) := by decide +kernel
theorem dX9_trials_115 : decode cX9_trials 115 = .ok (.imul, 1) := by decide +kernel
theorem dX9_trials_116 : decode cX9_trials 116 = .ok (.iadd, 1) := by decide +kernel
theorem dX9_trials_117 : decode cX9_trials 117 = .ok (.iconst 1, 1) := by decide +kernel
theorem dX9_trials_118 : decode cX9_trials 118 = .ok (.iadd, 1) := by decide +kernel
theorem dX9_trials_119 : decode cX9_trials 119 = .ok (.iaload, 1) := by decide +kernel
theorem dX9_trials_120 : decode cX9_trials 120 = .ok (.istore 9, 2) := by decide +kernel
theorem dX9_trials_122 : decode cX9_trials 122 = .ok (.aload_n 0, 1) := by decide +kernel
theorem dX9_trials_123 : decode cX9_trials 123 = .ok (.getfield 10, 3) := by decide +kernel
theorem dX9_trials_126 : decode cX9_trials 126 = .ok (.iload 8, 2) := by decide +kernel
theorem dX9_trials_128 : decode cX9_trials 128 = .ok (.invokevirtual 172, 3) := by decide +kernel
theorem dX9_trials_131 : decode cX9_trials 131 = .ok (.ifCond .eq 26, 3) := by decide +kernel
theorem dX9_trials_134 : decode cX9_trials 134 = .ok (.iload 9, 2) := by decide +kernel
theorem dX9_trials_136 : decode cX9_trials 136 = .ok (.invokestatic 103, 3) := by decide +kernel
theorem dX9_trials_139 : decode cX9_trials 139 = .ok (.ifCond .eq 18, 3) := by decide +kernel
theorem dX9_trials_142 : decode cX9_trials 142 = .ok (.aload_n 0, 1) := by decide +kernel
theorem dX9_trials_143 : decode cX9_trials 143 = .ok (.getfield 21, 3) := by decide +kernel
theorem dX9_trials_146 : decode cX9_trials 146 = .ok (.iload 8, 2) := by decide +kernel
theorem dX9_trials_148 : decode cX9_trials 148 = .ok (.iload 9, 2) := by decide +kernel
theorem dX9_trials_150 : decode cX9_trials 150 = .ok (.invokevirtual 175, 3) := by decide +kernel
theorem dX9_trials_153 : decode cX9_trials 153 = .ok (.pop, 1) := by decide +kernel
theorem dX9_trials_154 : decode cX9_trials 154 = .ok (.iinc 6 1, 3) := by decide +kernel
theorem dX9_trials_157 : decode cX9_trials 157 = .ok (.iinc 7 1, 3) := by decide +kernel
theorem dX9_trials_160 : decode cX9_trials 160 = .ok (.goto (-93), 3) := by decide +kernel
theorem dX9_trials_163 : decode cX9_trials 163 = .ok (.iload 6, 2) := by decide +kernel
theorem dX9_trials_165 : decode cX9_trials 165 = .ok (.ireturn, 1) := by decide +kernel
theorem dX9_taken_0 : decode cX9_taken 0 = .ok (.iload_n 2, 1) := by decide +kernel
theorem dX9_taken_1 : decode cX9_taken 1 = .ok (.iconst 0, 1) := by decide +kernel
theorem dX9_taken_2 : decode cX9_taken 2 = .ok (.iconst 5, 1) := by decide +kernel
theorem dX9_taken_3 : decode cX9_taken 3 = .ok (.invokestatic 70, 3) := by decide +kernel
theorem dX9_taken_6 : decode cX9_taken 6 = .ok (.ifCond .ne 6, 3) := by decide +kernel
theorem dX9_taken_9 : decode cX9_taken 9 = .ok (.bipush (-2), 2) := by decide +kernel
theorem dX9_taken_11 : decode cX9_taken 11 = .ok (.ireturn, 1) := by decide +kernel
theorem dX9_taken_12 : decode cX9_taken 12 = .ok (.aload_n 0, 1) := by decide +kernel
theorem dX9_taken_13 : decode cX9_taken 13 = .ok (.getfield 10, 3) := by decide +kernel
theorem dX9_taken_16 : decode cX9_taken 16 = .ok (.iload_n 1, 1) := by decide +kernel
theorem dX9_taken_17 : decode cX9_taken 17 = .ok (.invokevirtual 81, 3) := by decide +kernel
theorem dX9_taken_20 : decode cX9_taken 20 = .ok (.ifCond .ne 6, 3) := by decide +kernel
theorem dX9_taken_23 : decode cX9_taken 23 = .ok (.bipush (-11), 2) := by decide +kernel
theorem dX9_taken_25 : decode cX9_taken 25 = .ok (.ireturn, 1) := by decide +kernel
theorem dX9_taken_26 : decode cX9_taken 26 = .ok (.aload_n 0, 1) := by decide +kernel
theorem dX9_taken_27 : decode cX9_taken 27 = .ok (.getfield 10, 3) := by decide +kernel
theorem dX9_taken_30 : decode cX9_taken 30 = .ok (.getfield 77, 3) := by decide +kernel
theorem dX9_taken_33 : decode cX9_taken 33 = .ok (.iload_n 1, 1) := by decide +kernel
theorem dX9_taken_34 : decode cX9_taken 34 = .ok (.iaload, 1) := by decide +kernel
theorem dX9_taken_35 : decode cX9_taken 35 = .ok (.iload_n 2, 1) := by decide +kernel
theorem dX9_taken_36 : decode cX9_taken 36 = .ok (.invokestatic 293, 3) := by decide +kernel
theorem dX9_taken_39 : decode cX9_taken 39 = .ok (.ifCond .eq 15, 3) := by decide +kernel
theorem dX9_taken_42 : decode cX9_taken 42 = .ok (.aload_n 0, 1) := by decide +kernel
theorem dX9_taken_43 : decode cX9_taken 43 = .ok (.getfield 21, 3) := by decide +kernel
theorem dX9_taken_46 : decode cX9_taken 46 = .ok (.getfield 90, 3) := by decide +kernel
theorem dX9_taken_49 : decode cX9_taken 49 = .ok (.iload_n 1, 1) := by decide +kernel
theorem dX9_taken_50 : decode cX9_taken 50 = .ok (.iaload, 1) := by decide +kernel
theorem dX9_taken_51 : decode cX9_taken 51 = .ok (.goto 5, 3) := by decide +kernel
theorem dX9_taken_54 : decode cX9_taken 54 = .ok (.bipush (-13), 2) := by decide +kernel
theorem dX9_taken_56 : decode cX9_taken 56 = .ok (.ireturn, 1) := by decide +kernel
theorem dX9_within_0 : decode cX9_within 0 = .ok (.iload_n 0, 1) := by decide +kernel
theorem dX9_within_1 : decode cX9_within 1 = .ok (.iload_n 1, 1) := by decide +kernel
theorem dX9_within_2 : decode cX9_within 2 = .ok (.if_icmp .lt 12, 3) := by decide +kernel
theorem dX9_within_5 : decode cX9_within 5 = .ok (.iload_n 0, 1) := by decide +kernel
theorem dX9_within_6 : decode cX9_within 6 = .ok (.iload_n 2, 1) := by decide +kernel
theorem dX9_within_7 : decode cX9_within 7 = .ok (.if_icmp .gt 7, 3) := by decide +kernel
theorem dX9_within_10 : decode cX9_within 10 = .ok (.iconst 1, 1) := by decide +kernel
theorem dX9_within_11 : decode cX9_within 11 = .ok (.goto 4, 3) := by decide +kernel
theorem dX9_within_14 : decode cX9_within 14 = .ok (.iconst 0, 1) := by decide +kernel
theorem dX9_within_15 : decode cX9_within 15 = .ok (.ireturn, 1) := by decide +kernel
theorem dX9_bounded_0 : decode cX9_bounded 0 = .ok (.iload_n 0, 1) := by decide +kernel
theorem dX9_bounded_1 : decode cX9_bounded 1 = .ok (.iload_n 1, 1) := by decide +kernel
theorem dX9_bounded_2 : decode cX9_bounded 2 = .ok (.if_icmp .ge 5, 3) := by decide +kernel
theorem dX9_bounded_5 : decode cX9_bounded 5 = .ok (.iload_n 1, 1) := by decide +kernel
theorem dX9_bounded_6 : decode cX9_bounded 6 = .ok (.ireturn, 1) := by decide +kernel
theorem dX9_bounded_7 : decode cX9_bounded 7 = .ok (.iload_n 0, 1) := by decide +kernel
theorem dX9_bounded_8 : decode cX9_bounded 8 = .ok (.iload_n 2, 1) := by decide +kernel
theorem dX9_bounded_9 : decode cX9_bounded 9 = .ok (.if_icmp .le 7, 3) := by decide +kernel
theorem dX9_bounded_12 : decode cX9_bounded 12 = .ok (.iload_n 2, 1) := by decide +kernel
theorem dX9_bounded_13 : decode cX9_bounded 13 = .ok (.goto 4, 3) := by decide +kernel
theorem dX9_bounded_16 : decode cX9_bounded 16 = .ok (.iload_n 0, 1) := by decide +kernel
theorem dX9_bounded_17 : decode cX9_bounded 17 = .ok (.ireturn, 1) := by decide +kernel
theorem dX9_isEnd_0 : decode cX9_isEnd 0 = .ok (.iload_n 0, 1) := by decide +kernel
theorem dX9_isEnd_1 : decode cX9_isEnd 1 = .ok (.iconst 0, 1) := by decide +kernel
theorem dX9_isEnd_2 : decode cX9_isEnd 2 = .ok (.iconst 3, 1) := by decide +kernel
theorem dX9_isEnd_3 : decode cX9_isEnd 3 = .ok (.invokestatic 70, 3) := by decide +kernel
theorem dX9_isEnd_6 : decode cX9_isEnd 6 = .ok (.ireturn, 1) := by decide +kernel
theorem dX9_isSheet_0 : decode cX9_isSheet 0 = .ok (.iload_n 0, 1) := by decide +kernel
theorem dX9_isSheet_1 : decode cX9_isSheet 1 = .ok (.iconst 0, 1) := by decide +kernel
theorem dX9_isSheet_2 : decode cX9_isSheet 2 = .ok (.iconst 3, 1) := by decide +kernel
theorem dX9_isSheet_3 : decode cX9_isSheet 3 = .ok (.invokestatic 70, 3) := by decide +kernel
theorem dX9_isSheet_6 : decode cX9_isSheet 6 = .ok (.ireturn, 1) := by decide +kernel
theorem dX9_isOn_0 : decode cX9_isOn 0 = .ok (.iload_n 0, 1) := by decide +kernel
theorem dX9_isOn_1 : decode cX9_isOn 1 = .ok (.iload_n 1, 1) := by decide +kernel
theorem dX9_isOn_2 : decode cX9_isOn 2 = .ok (.ishr, 1) := by decide +kernel
theorem dX9_isOn_3 : decode cX9_isOn 3 = .ok (.iconst 1, 1) := by decide +kernel
theorem dX9_isOn_4 : decode cX9_isOn 4 = .ok (.iand, 1) := by decide +kernel
theorem dX9_isOn_5 : decode cX9_isOn 5 = .ok (.iconst 1, 1) := by decide +kernel
theorem dX9_isOn_6 : decode cX9_isOn 6 = .ok (.if_icmp .ne 7, 3) := by decide +kernel
theorem dX9_isOn_9 : decode cX9_isOn 9 = .ok (.iconst 1, 1) := by decide +kernel
theorem dX9_isOn_10 : decode cX9_isOn 10 = .ok (.goto 4, 3) := by decide +kernel
theorem dX9_isOn_13 : decode cX9_isOn 13 = .ok (.iconst 0, 1) := by decide +kernel
theorem dX9_isOn_14 : decode cX9_isOn 14 = .ok (.ireturn, 1) := by decide +kernel
theorem dX9_leastOf_0 : decode cX9_leastOf 0 = .ok (.iconst 0, 1) := by decide +kernel
theorem dX9_leastOf_1 : decode cX9_leastOf 1 = .ok (.istore_n 1, 1) := by decide +kernel
theorem dX9_leastOf_2 : decode cX9_leastOf 2 = .ok (.iload_n 1, 1) := by decide +kernel
theorem dX9_leastOf_3 : decode cX9_leastOf 3 = .ok (.bipush 7, 2) := by decide +kernel
theorem dX9_leastOf_5 : decode cX9_leastOf 5 = .ok (.if_icmp .ge 17, 3) := by decide +kernel
theorem dX9_leastOf_8 : decode cX9_leastOf 8 = .ok (.iload_n 0, 1) := by decide +kernel
theorem dX9_leastOf_9 : decode cX9_leastOf 9 = .ok (.iload_n 1, 1) := by decide +kernel
theorem dX9_leastOf_10 : decode cX9_leastOf 10 = .ok (.invokestatic 296, 3) := by decide +kernel
theorem dX9_leastOf_13 : decode cX9_leastOf 13 = .ok (.ifCond .ne 9, 3) := by decide +kernel
theorem dX9_leastOf_16 : decode cX9_leastOf 16 = .ok (.iinc 1 1, 3) := by decide +kernel
theorem dX9_leastOf_19 : decode cX9_leastOf 19 = .ok (.goto (-17), 3) := by decide +kernel
theorem dX9_leastOf_22 : decode cX9_leastOf 22 = .ok (.iload_n 1, 1) := by decide +kernel
theorem dX9_leastOf_23 : decode cX9_leastOf 23 = .ok (.ireturn, 1) := by decide +kernel
theorem dX9_isSomeSet_0 : decode cX9_isSomeSet 0 = .ok (.iload_n 1, 1) := by decide +kernel
theorem dX9_isSomeSet_1 : decode cX9_isSomeSet 1 = .ok (.ifCond .eq 18, 3) := by decide +kernel
theorem dX9_isSomeSet_4 : decode cX9_isSomeSet 4 = .ok (.aload_n 0, 1) := by decide +kernel
theorem dX9_isSomeSet_5 : decode cX9_isSomeSet 5 = .ok (.getfield 10, 3) := by decide +kernel
theorem dX9_isSomeSet_8 : decode cX9_isSomeSet 8 = .ok (.iload_n 1, 1) := by decide +kernel
theorem dX9_isSomeSet_9 : decode cX9_isSomeSet 9 = .ok (.invokevirtual 172, 3) := by decide +kernel
theorem dX9_isSomeSet_12 : decode cX9_isSomeSet 12 = .ok (.ifCond .eq 7, 3) := by decide +kernel
theorem dX9_isSomeSet_15 : decode cX9_isSomeSet 15 = .ok (.iconst 1, 1) := by decide +kernel
theorem dX9_isSomeSet_16 : decode cX9_isSomeSet 16 = .ok (.goto 4, 3) := by decide +kernel
theorem dX9_isSomeSet_19 : decode cX9_isSomeSet 19 = .ok (.iconst 0, 1) := by decide +kernel
theorem dX9_isSomeSet_20 : decode cX9_isSomeSet 20 = .ok (.ireturn, 1) := by decide +kernel
theorem dX9_isUnder_0 : decode cX9_isUnder 0 = .ok (.iload_n 0, 1) := by decide +kernel
theorem dX9_isUnder_1 : decode cX9_isUnder 1 = .ok (.istore_n 2, 1) := by decide +kernel
theorem dX9_isUnder_2 : decode cX9_isUnder 2 = .ok (.iconst 0, 1) := by decide +kernel
theorem dX9_isUnder_3 : decode cX9_isUnder 3 = .ok (.istore_n 3, 1) := by decide +kernel
theorem dX9_isUnder_4 : decode cX9_isUnder 4 = .ok (.iload_n 3, 1) := by decide +kernel
theorem dX9_isUnder_5 : decode cX9_isUnder 5 = .ok (.bipush 6, 2) := by decide +kernel
theorem dX9_isUnder_7 : decode cX9_isUnder 7 = .ok (.if_icmp .ge 24, 3) := by decide +kernel
theorem dX9_isUnder_10 : decode cX9_isUnder 10 = .ok (.iload_n 2, 1) := by decide +kernel
theorem dX9_isUnder_11 : decode cX9_isUnder 11 = .ok (.ifCond .lt 20, 3) := by decide +kernel
theorem dX9_isUnder_14 : decode cX9_isUnder 14 = .ok (.iload_n 2, 1) := by decide +kernel
theorem dX9_isUnder_15 : decode cX9_isUnder 15 = .ok (.iload_n 1, 1) := by decide +kernel
theorem dX9_isUnder_16 : decode cX9_isUnder 16 = .ok (.if_icmp .eq 15, 3) := by decide +kernel
theorem dX9_isUnder_19 : decode cX9_isUnder 19 = .ok (.getstatic 299, 3) := by decide +kernel
theorem dX9_isUnder_22 : decode cX9_isUnder 22 = .ok (.iload_n 2, 1) := by decide +kernel
theorem dX9_isUnder_23 : decode cX9_isUnder 23 = .ok (.iaload, 1) := by decide +kernel
theorem dX9_isUnder_24 : decode cX9_isUnder 24 = .ok (.istore_n 2, 1) := by decide +kernel
theorem dX9_isUnder_25 : decode cX9_isUnder 25 = .ok (.iinc 3 1, 3) := by decide +kernel
theorem dX9_isUnder_28 : decode cX9_isUnder 28 = .ok (.goto (-24), 3) := by decide +kernel
theorem dX9_isUnder_31 : decode cX9_isUnder 31 = .ok (.iload_n 2, 1) := by decide +kernel
theorem dX9_isUnder_32 : decode cX9_isUnder 32 = .ok (.iload_n 1, 1) := by decide +kernel
theorem dX9_isUnder_33 : decode cX9_isUnder 33 = .ok (.if_icmp .ne 7, 3) := by decide +kernel
theorem dX9_isUnder_36 : decode cX9_isUnder 36 = .ok (.iconst 1, 1) := by decide +kernel
theorem dX9_isUnder_37 : decode cX9_isUnder 37 = .ok (.goto 4, 3) := by decide +kernel
theorem dX9_isUnder_40 : decode cX9_isUnder 40 = .ok (.iconst 0, 1) := by decide +kernel
theorem dX9_isUnder_41 : decode cX9_isUnder 41 = .ok (.ireturn, 1) := by decide +kernel
theorem dX9_commonDivisor_0 : decode cX9_commonDivisor 0 = .ok (.lload_n 2, 1) := by decide +kernel
theorem dX9_commonDivisor_1 : decode cX9_commonDivisor 1 = .ok (.lstore 4, 2) := by decide +kernel
theorem dX9_commonDivisor_3 : decode cX9_commonDivisor 3 = .ok (.lload_n 0, 1) := by decide +kernel
theorem dX9_commonDivisor_4 : decode cX9_commonDivisor 4 = .ok (.lstore 6, 2) := by decide +kernel
theorem dX9_commonDivisor_6 : decode cX9_commonDivisor 6 = .ok (.iconst 0, 1) := by decide +kernel
theorem dX9_commonDivisor_7 : decode cX9_commonDivisor 7 = .ok (.istore 8, 2) := by decide +kernel
theorem dX9_commonDivisor_9 : decode cX9_commonDivisor 9 = .ok (.iload 8, 2) := by decide +kernel
theorem dX9_commonDivisor_11 : decode cX9_commonDivisor 11 = .ok (.sipush 200, 3) := by decide +kernel
theorem dX9_commonDivisor_14 : decode cX9_commonDivisor 14 = .ok (.if_icmp .ge 31, 3) := by decide +kernel
theorem dX9_commonDivisor_17 : decode cX9_commonDivisor 17 = .ok (.lload 6, 2) := by decide +kernel
theorem dX9_commonDivisor_19 : decode cX9_commonDivisor 19 = .ok (.lconst 0, 1) := by decide +kernel
theorem dX9_commonDivisor_20 : decode cX9_commonDivisor 20 = .ok (.lcmp, 1) := by decide +kernel
theorem dX9_commonDivisor_21 : decode cX9_commonDivisor 21 = .ok (.ifCond .eq 24, 3) := by decide +kernel
theorem dX9_commonDivisor_24 : decode cX9_commonDivisor 24 = .ok (.lload 4, 2) := by decide +kernel
theorem dX9_commonDivisor_26 : decode cX9_commonDivisor 26 = .ok (.lload 6, 2) := by decide +kernel
theorem dX9_commonDivisor_28 : decode cX9_commonDivisor 28 = .ok (.lrem, 1) := by decide +kernel
theorem dX9_commonDivisor_29 : decode cX9_commonDivisor 29 = .ok (.lstore 9, 2) := by decide +kernel
theorem dX9_commonDivisor_31 : decode cX9_commonDivisor 31 = .ok (.lload 6, 2) := by decide +kernel
theorem dX9_commonDivisor_33 : decode cX9_commonDivisor 33 = .ok (.lstore 4, 2) := by decide +kernel
theorem dX9_commonDivisor_35 : decode cX9_commonDivisor 35 = .ok (.lload 9, 2) := by decide +kernel
theorem dX9_commonDivisor_37 : decode cX9_commonDivisor 37 = .ok (.lstore 6, 2) := by decide +kernel
theorem dX9_commonDivisor_39 : decode cX9_commonDivisor 39 = .ok (.iinc 8 1, 3) := by decide +kernel
theorem dX9_commonDivisor_42 : decode cX9_commonDivisor 42 = .ok (.goto (-33), 3) := by decide +kernel
theorem dX9_commonDivisor_45 : decode cX9_commonDivisor 45 = .ok (.lconst 1, 1) := by decide +kernel
theorem dX9_commonDivisor_46 : decode cX9_commonDivisor 46 = .ok (.lload 4, 2) := by decide +kernel
theorem dX9_commonDivisor_48 : decode cX9_commonDivisor 48 = .ok (.invokestatic 212, 3) := by decide +kernel
theorem dX9_commonDivisor_51 : decode cX9_commonDivisor 51 = .ok (.lreturn, 1) := by decide +kernel
theorem dX9_findPaces_0 : decode cX9_findPaces 0 = .ok (.aload_n 0, 1) := by decide +kernel
theorem dX9_findPaces_1 : decode cX9_findPaces 1 = .ok (.getfield 55, 3) := by decide +kernel
theorem dX9_findPaces_4 : decode cX9_findPaces 4 = .ok (.invokevirtual 302, 3) := by decide +kernel
theorem dX9_findPaces_7 : decode cX9_findPaces 7 = .ok (.iconst 5, 1) := by decide +kernel
theorem dX9_findPaces_8 : decode cX9_findPaces 8 = .ok (.istore_n 2, 1) := by decide +kernel
theorem dX9_findPaces_9 : decode cX9_findPaces 9 = .ok (.iload_n 2, 1) := by decide +kernel
theorem dX9_findPaces_10 : decode cX9_findPaces 10 = .ok (.bipush 100, 2) := by decide +kernel
theorem dX9_findPaces_12 : decode cX9_findPaces 12 = .ok (.if_icmp .gt 50, 3) := by decide +kernel
theorem dX9_findPaces_15 : decode cX9_findPaces 15 = .ok (.aload_n 0, 1) := by decide +kernel
theorem dX9_findPaces_16 : decode cX9_findPaces 16 = .ok (.iload_n 2, 1) := by decide +kernel
theorem dX9_findPaces_17 : decode cX9_findPaces 17 = .ok (.iload_n 1, 1) := by decide +kernel
theorem dX9_findPaces_18 : decode cX9_findPaces 18 = .ok (.invokevirtual 305, 3) := by decide +kernel
theorem dX9_findPaces_21 : decode cX9_findPaces 21 = .ok (.istore_n 3, 1) := by decide +kernel
theorem dX9_findPaces_22 : decode cX9_findPaces 22 = .ok (.iload_n 3, 1) := by decide +kernel
theorem dX9_findPaces_23 : decode cX9_findPaces 23 = .ok (.iconst (-1), 1) := by decide +kernel
theorem dX9_findPaces_24 : decode cX9_findPaces 24 = .ok (.if_icmp .ne 14, 3) := by decide +kernel
theorem dX9_findPaces_27 : decode cX9_findPaces 27 = .ok (.aload_n 0, 1) := by decide +kernel
theorem dX9_findPaces_28 : decode cX9_findPaces 28 = .ok (.getfield 55, 3) := by decide +kernel
theorem dX9_findPaces_31 : decode cX9_findPaces 31 = .ok (.iload_n 2, 1) := by decide +kernel
theorem dX9_findPaces_32 : decode cX9_findPaces 32 = .ok (.invokevirtual 308, 3) := by decide +kernel
theorem dX9_findPaces_35 : decode cX9_findPaces 35 = .ok (.goto 21, 3) := by decide +kernel
theorem dX9_findPaces_38 : decode cX9_findPaces 38 = .ok (.aload_n 0, 1) := by decide +kernel
theorem dX9_findPaces_39 : decode cX9_findPaces 39 = .ok (.getfield 55, 3) := by decide +kernel
theorem dX9_findPaces_42 : decode cX9_findPaces 42 = .ok (.aload_n 0, 1) := by decide +kernel
theorem dX9_findPaces_43 : decode cX9_findPaces 43 = .ok (.getfield 55, 3) := by decide +kernel
theorem dX9_findPaces_46 : decode cX9_findPaces 46 = .ok (.getfield 245, 3) := by decide +kernel
theorem dX9_findPaces_49 : decode cX9_findPaces 49 = .ok (.iload_n 3, 1) := by decide +kernel
theorem dX9_findPaces_50 : decode cX9_findPaces 50 = .ok (.invokestatic 311, 3) := by decide +kernel
theorem dX9_findPaces_53 : decode cX9_findPaces 53 = .ok (.putfield 245, 3) := by decide +kernel
theorem dX9_findPaces_56 : decode cX9_findPaces 56 = .ok (.iinc 2 5, 3) := by decide +kernel
theorem dX9_findPaces_59 : decode cX9_findPaces 59 = .ok (.goto (-50), 3) := by decide +kernel
theorem dX9_findPaces_62 : decode cX9_findPaces 62 = .ok (.return_, 1) := by decide +kernel
theorem dX9_firstOff_0 : decode cX9_firstOff 0 = .ok (.aload_n 0, 1) := by decide +kernel
theorem dX9_firstOff_1 : decode cX9_firstOff 1 = .ok (.getfield 28, 3) := by decide +kernel
theorem dX9_firstOff_4 : decode cX9_firstOff 4 = .ok (.iload_n 1, 1) := by decide +kernel
theorem dX9_firstOff_5 : decode cX9_firstOff 5 = .ok (.aload_n 0, 1) := by decide +kernel
theorem dX9_firstOff_6 : decode cX9_firstOff 6 = .ok (.getfield 21, 3) := by decide +kernel
theorem dX9_firstOff_9 : decode cX9_firstOff 9 = .ok (.getfield 145, 3) := by decide +kernel
theorem dX9_firstOff_12 : decode cX9_firstOff 12 = .ok (.invokevirtual 313, 3) := by decide +kernel
theorem dX9_firstOff_15 : decode cX9_firstOff 15 = .ok (.iconst 0, 1) := by decide +kernel
theorem dX9_firstOff_16 : decode cX9_firstOff 16 = .ok (.istore_n 3, 1) := by decide +kernel
theorem dX9_firstOff_17 : decode cX9_firstOff 17 = .ok (.iload_n 3, 1) := by decide +kernel
theorem dX9_firstOff_18 : decode cX9_firstOff 18 = .ok (.aload_n 0, 1) := by decide +kernel
theorem dX9_firstOff_19 : decode cX9_firstOff 19 = .ok (.getfield 55, 3) := by decide +kernel
theorem dX9_firstOff_22 : decode cX9_firstOff 22 = .ok (.getfield 228, 3) := by decide +kernel
theorem dX9_firstOff_25 : decode cX9_firstOff 25 = .ok (.if_icmp .ge 67, 3) := by decide +kernel
theorem dX9_firstOff_28 : decode cX9_firstOff 28 = .ok (.aload_n 0, 1) := by decide +kernel
theorem dX9_firstOff_29 : decode cX9_firstOff 29 = .ok (.getfield 28, 3) := by decide +kernel
theorem dX9_firstOff_32 : decode cX9_firstOff 32 = .ok (.aload_n 0, 1) := by decide +kernel
theorem dX9_firstOff_33 : decode cX9_firstOff 33 = .ok (.getfield 10, 3) := by decide +kernel
theorem dX9_firstOff_36 : decode cX9_firstOff 36 = .ok (.aload_n 0, 1) := by decide +kernel
theorem dX9_firstOff_37 : decode cX9_firstOff 37 = .ok (.getfield 55, 3) := by decide +kernel
theorem dX9_firstOff_40 : decode cX9_firstOff 40 = .ok (.getfield 316, 3) := by decide +kernel
theorem dX9_firstOff_43 : decode cX9_firstOff 43 = .ok (.iload_n 3, 1) := by decide +kernel
theorem dX9_firstOff_44 : decode cX9_firstOff 44 = .ok (.iaload, 1) := by decide +kernel
theorem dX9_firstOff_45 : decode cX9_firstOff 45 = .ok (.invokevirtual 159, 3) := by decide +kernel
theorem dX9_firstOff_48 : decode cX9_firstOff 48 = .ok (.invokevirtual 187, 3) := by decide +kernel
theorem dX9_firstOff_51 : decode cX9_firstOff 51 = .ok (.aload_n 0, 1) := by decide +kernel
theorem dX9_firstOff_52 : decode cX9_firstOff 52 = .ok (.getfield 28, 3) := by decide +kernel
theorem dX9_firstOff_55 : decode cX9_firstOff 55 = .ok (.aload_n 0, 1) := by decide +kernel
theorem dX9_firstOff_56 : decode cX9_firstOff 56 = .ok (.getfield 55, 3) := by decide +kernel
theorem dX9_firstOff_59 : decode cX9_firstOff 59 = .ok (.getfield 318, 3) := by decide +kernel
theorem dX9_firstOff_62 : decode cX9_firstOff 62 = .ok (.iload_n 3, 1) := by decide +kernel
theorem dX9_firstOff_63 : decode cX9_firstOff 63 = .ok (.iaload, 1) := by decide +kernel
theorem dX9_firstOff_64 : decode cX9_firstOff 64 = .ok (.invokevirtual 181, 3) := by decide +kernel
theorem dX9_firstOff_67 : decode cX9_firstOff 67 = .ok (.aload_n 0, 1) := by decide +kernel
theorem dX9_firstOff_68 : decode cX9_firstOff 68 = .ok (.getfield 55, 3) := by decide +kernel
theorem dX9_firstOff_71 : decode cX9_firstOff 71 = .ok (.getfield 319, 3) := by decide +kernel
theorem dX9_firstOff_74 : decode cX9_firstOff 74 = .ok (.iload_n 3, 1) := by decide +kernel
theorem dX9_firstOff_75 : decode cX9_firstOff 75 = .ok (.iaload, 1) := by decide +kernel
theorem dX9_firstOff_76 : decode cX9_firstOff 76 = .ok (.isub, 1) := by decide +kernel
theorem dX9_firstOff_77 : decode cX9_firstOff 77 = .ok (.invokestatic 322, 3) := by decide +kernel
theorem dX9_firstOff_80 : decode cX9_firstOff 80 = .ok (.iload_n 2, 1) := by decide +kernel
theorem dX9_firstOff_81 : decode cX9_firstOff 81 = .ok (.if_icmp .le 5, 3) := by decide +kernel
theorem dX9_firstOff_84 : decode cX9_firstOff 84 = .ok (.iload_n 3, 1) := by decide +kernel
theorem dX9_firstOff_85 : decode cX9_firstOff 85 = .ok (.ireturn, 1) := by decide +kernel
theorem dX9_firstOff_86 : decode cX9_firstOff 86 = .ok (.iinc 3 1, 3) := by decide +kernel
theorem dX9_firstOff_89 : decode cX9_firstOff 89 = .ok (.goto (-72), 3) := by decide +kernel
theorem dX9_firstOff_92 : decode cX9_firstOff 92 = .ok (.iconst (-1), 1) := by decide +kernel
theorem dX9_firstOff_93 : decode cX9_firstOff 93 = .ok (.ireturn, 1) := by decide +kernel
theorem dX9_findFarthest_0 : decode cX9_findFarthest 0 = .ok (.aload_n 0, 1) := by decide +kernel
theorem dX9_findFarthest_1 : decode cX9_findFarthest 1 = .ok (.getfield 55, 3) := by decide +kernel
theorem dX9_findFarthest_4 : decode cX9_findFarthest 4 = .ok (.iconst (-1), 1) := by decide +kernel
theorem dX9_findFarthest_5 : decode cX9_findFarthest 5 = .ok (.putfield 251, 3) := by decide +kernel
theorem dX9_findFarthest_8 : decode cX9_findFarthest 8 = .ok (.aload_n 0, 1) := by decide +kernel
theorem dX9_findFarthest_9 : decode cX9_findFarthest 9 = .ok (.getfield 55, 3) := by decide +kernel
theorem dX9_findFarthest_12 : decode cX9_findFarthest 12 = .ok (.iconst (-1), 1) := by decide +kernel
theorem dX9_findFarthest_13 : decode cX9_findFarthest 13 = .ok (.putfield 254, 3) := by decide +kernel
theorem dX9_findFarthest_16 : decode cX9_findFarthest 16 = .ok (.iconst 0, 1) := by decide +kernel
theorem dX9_findFarthest_17 : decode cX9_findFarthest 17 = .ok (.istore_n 2, 1) := by decide +kernel
theorem dX9_findFarthest_18 : decode cX9_findFarthest 18 = .ok (.iload_n 2, 1) := by decide +kernel
theorem dX9_findFarthest_19 : decode cX9_findFarthest 19 = .ok (.aload_n 0, 1) := by decide +kernel
theorem dX9_findFarthest_20 : decode cX9_findFarthest 20 = .ok (.getfield 10, 3) := by decide +kernel
theorem dX9_findFarthest_23 : decode cX9_findFarthest 23 = .ok (.getfield 148, 3) := by decide +kernel
theorem dX9_findFarthest_26 : decode cX9_findFarthest 26 = .ok (.if_icmp .ge 76, 3) := by decide +kernel
theorem dX9_findFarthest_29 : decode cX9_findFarthest 29 = .ok (.aload_n 0, 1) := by decide +kernel
theorem dX9_findFarthest_30 : decode cX9_findFarthest 30 = .ok (.aload_n 0, 1) := by decide +kernel
theorem dX9_findFarthest_31 : decode cX9_findFarthest 31 = .ok (.getfield 55, 3) := by decide +kernel
theorem dX9_findFarthest_34 : decode cX9_findFarthest 34 = .ok (.getfield 239, 3) := by decide +kernel
theorem dX9_findFarthest_37 : decode cX9_findFarthest 37 = .ok (.iload_n 2, 1) := by decide +kernel
theorem dX9_findFarthest_38 : decode cX9_findFarthest 38 = .ok (.iload_n 1, 1) := by decide +kernel
theorem dX9_findFarthest_39 : decode cX9_findFarthest 39 = .ok (.invokevirtual 324, 3) := by decide +kernel
theorem dX9_findFarthest_42 : decode cX9_findFarthest 42 = .ok (.istore_n 3, 1) := by decide +kernel
theorem dX9_findFarthest_43 : decode cX9_findFarthest 43 = .ok (.aload_n 0, 1) := by decide +kernel
theorem dX9_findFarthest_44 : decode cX9_findFarthest 44 = .ok (.aload_n 0, 1) := by decide +kernel
theorem dX9_findFarthest_45 : decode cX9_findFarthest 45 = .ok (.getfield 55, 3) := by decide +kernel
theorem dX9_findFarthest_48 : decode cX9_findFarthest 48 = .ok (.getfield 242, 3) := by decide +kernel
theorem dX9_findFarthest_51 : decode cX9_findFarthest 51 = .ok (.iload_n 2, 1) := by decide +kernel
theorem dX9_findFarthest_52 : decode cX9_findFarthest 52 = .ok (.iload_n 1, 1) := by decide +kernel
theorem dX9_findFarthest_53 : decode cX9_findFarthest 53 = .ok (.invokevirtual 324, 3) := by decide +kernel
theorem dX9_findFarthest_56 : decode cX9_findFarthest 56 = .ok (.istore 4, 2) := by decide +kernel
theorem dX9_findFarthest_58 : decode cX9_findFarthest 58 = .ok (.iload 4, 2) := by decide +kernel
theorem dX9_findFarthest_60 : decode cX9_findFarthest 60 = .ok (.iload_n 3, 1) := by decide +kernel
theorem dX9_findFarthest_61 : decode cX9_findFarthest 61 = .ok (.isub, 1) := by decide +kernel
theorem dX9_findFarthest_62 : decode cX9_findFarthest 62 = .ok (.invokestatic 322, 3) := by decide +kernel
theorem dX9_findFarthest_65 : decode cX9_findFarthest 65 = .ok (.istore 5, 2) := by decide +kernel
theorem dX9_findFarthest_67 : decode cX9_findFarthest 67 = .ok (.iload 5, 2) := by decide +kernel
theorem dX9_findFarthest_69 : decode cX9_findFarthest 69 = .ok (.aload_n 0, 1) := by decide +kernel
theorem dX9_findFarthest_70 : decode cX9_findFarthest 70 = .ok (.getfield 55, 3) := by decide +kernel
theorem dX9_findFarthest_73 : decode cX9_findFarthest 73 = .ok (.getfield 254, 3) := by decide +kernel
theorem dX9_findFarthest_76 : decode cX9_findFarthest 76 = .ok (.if_icmp .le 20, 3) := by decide +kernel
theorem dX9_findFarthest_79 : decode cX9_findFarthest 79 = .ok (.aload_n 0, 1) := by decide +kernel
theorem dX9_findFarthest_80 : decode cX9_findFarthest 80 = .ok (.getfield 55, 3) := by decide +kernel
theorem dX9_findFarthest_83 : decode cX9_findFarthest 83 = .ok (.iload_n 2, 1) := by decide +kernel
theorem dX9_findFarthest_84 : decode cX9_findFarthest 84 = .ok (.putfield 251, 3) := by decide +kernel
theorem dX9_findFarthest_87 : decode cX9_findFarthest 87 = .ok (.aload_n 0, 1) := by decide +kernel
theorem dX9_findFarthest_88 : decode cX9_findFarthest 88 = .ok (.getfield 55, 3) := by decide +kernel
theorem dX9_findFarthest_91 : decode cX9_findFarthest 91 = .ok (.iload 5, 2) := by decide +kernel
theorem dX9_findFarthest_93 : decode cX9_findFarthest 93 = .ok (.putfield 254, 3) := by decide +kernel
theorem dX9_findFarthest_96 : decode cX9_findFarthest 96 = .ok (.iinc 2 1, 3) := by decide +kernel
theorem dX9_findFarthest_99 : decode cX9_findFarthest 99 = .ok (.goto (-81), 3) := by decide +kernel
theorem dX9_findFarthest_102 : decode cX9_findFarthest 102 = .ok (.return_, 1) := by decide +kernel
theorem dX9_dropsBehind_0 : decode cX9_dropsBehind 0 = .ok (.aload_n 0, 1) := by decide +kernel
theorem dX9_dropsBehind_1 : decode cX9_dropsBehind 1 = .ok (.getfield 28, 3) := by decide +kernel
theorem dX9_dropsBehind_4 : decode cX9_dropsBehind 4 = .ok (.iload_n 1, 1) := by decide +kernel
theorem dX9_dropsBehind_5 : decode cX9_dropsBehind 5 = .ok (.aload_n 0, 1) := by decide +kernel
theorem dX9_dropsBehind_6 : decode cX9_dropsBehind 6 = .ok (.getfield 21, 3) := by decide +kernel
theorem dX9_dropsBehind_9 : decode cX9_dropsBehind 9 = .ok (.getfield 145, 3) := by decide +kernel
theorem dX9_dropsBehind_12 : decode cX9_dropsBehind 12 = .ok (.invokevirtual 313, 3) := by decide +kernel
theorem dX9_dropsBehind_15 : decode cX9_dropsBehind 15 = .ok (.iconst 0, 1) := by decide +kernel
theorem dX9_dropsBehind_16 : decode cX9_dropsBehind 16 = .ok (.istore 4, 2) := by decide +kernel
theorem dX9_dropsBehind_18 : decode cX9_dropsBehind 18 = .ok (.iload 4, 2) := by decide +kernel
theorem dX9_dropsBehind_20 : decode cX9_dropsBehind 20 = .ok (.aload_n 0, 1) := by decide +kernel
theorem dX9_dropsBehind_21 : decode cX9_dropsBehind 21 = .ok (.getfield 55, 3) := by decide +kernel
theorem dX9_dropsBehind_24 : decode cX9_dropsBehind 24 = .ok (.getfield 228, 3) := by decide +kernel
theorem dX9_dropsBehind_27 : decode cX9_dropsBehind 27 = .ok (.if_icmp .ge 33, 3) := by decide +kernel
theorem dX9_dropsBehind_30 : decode cX9_dropsBehind 30 = .ok (.aload_n 0, 1) := by decide +kernel
theorem dX9_dropsBehind_31 : decode cX9_dropsBehind 31 = .ok (.getfield 28, 3) := by decide +kernel
theorem dX9_dropsBehind_34 : decode cX9_dropsBehind 34 = .ok (.aload_n 0, 1) := by decide +kernel
theorem dX9_dropsBehind_35 : decode cX9_dropsBehind 35 = .ok (.getfield 10, 3) := by decide +kernel
theorem dX9_dropsBehind_38 : decode cX9_dropsBehind 38 = .ok (.aload_n 0, 1) := by decide +kernel
theorem dX9_dropsBehind_39 : decode cX9_dropsBehind 39 = .ok (.getfield 55, 3) := by decide +kernel
theorem dX9_dropsBehind_42 : decode cX9_dropsBehind 42 = .ok (.getfield 316, 3) := by decide +kernel
theorem dX9_dropsBehind_45 : decode cX9_dropsBehind 45 = .ok (.iload 4, 2) := by decide +kernel
theorem dX9_dropsBehind_47 : decode cX9_dropsBehind 47 = .ok (.iaload, 1) := by decide +kernel
theorem dX9_dropsBehind_48 : decode cX9_dropsBehind 48 = .ok (.invokevirtual 159, 3) := by decide +kernel
theorem dX9_dropsBehind_51 : decode cX9_dropsBehind 51 = .ok (.invokevirtual 187, 3) := by decide +kernel
theorem dX9_dropsBehind_54 : decode cX9_dropsBehind 54 = .ok (.iinc 4 1, 3) := by decide +kernel
theorem dX9_dropsBehind_57 : decode cX9_dropsBehind 57 = .ok (.goto (-39), 3) := by decide +kernel
theorem dX9_dropsBehind_60 : decode cX9_dropsBehind 60 = .ok (.aload_n 0, 1) := by decide +kernel
theorem dX9_dropsBehind_61 : decode cX9_dropsBehind 61 = .ok (.getfield 28, 3) := by decide +kernel
theorem dX9_dropsBehind_64 : decode cX9_dropsBehind 64 = .ok (.aload_n 0, 1) := by decide +kernel
theorem dX9_dropsBehind_65 : decode cX9_dropsBehind 65 = .ok (.getfield 10, 3) := by decide +kernel
theorem dX9_dropsBehind_68 : decode cX9_dropsBehind 68 = .ok (.iload_n 2, 1) := by decide +kernel
theorem dX9_dropsBehind_69 : decode cX9_dropsBehind 69 = .ok (.invokevirtual 159, 3) := by decide +kernel
theorem dX9_dropsBehind_72 : decode cX9_dropsBehind 72 = .ok (.invokevirtual 187, 3) := by decide +kernel
theorem dX9_dropsBehind_75 : decode cX9_dropsBehind 75 = .ok (.aload_n 0, 1) := by decide +kernel
theorem dX9_dropsBehind_76 : decode cX9_dropsBehind 76 = .ok (.getfield 28, 3) := by decide +kernel
theorem dX9_dropsBehind_79 : decode cX9_dropsBehind 79 = .ok (.iload_n 3, 1) := by decide +kernel
theorem dX9_dropsBehind_80 : decode cX9_dropsBehind 80 = .ok (.invokevirtual 181, 3) := by decide +kernel
theorem dX9_dropsBehind_83 : decode cX9_dropsBehind 83 = .ok (.ireturn, 1) := by decide +kernel
theorem dX9_dropsApart_0 : decode cX9_dropsApart 0 = .ok (.aload_n 0, 1) := by decide +kernel
theorem dX9_dropsApart_1 : decode cX9_dropsApart 1 = .ok (.getfield 28, 3) := by decide +kernel
theorem dX9_dropsApart_4 : decode cX9_dropsApart 4 = .ok (.aload_n 0, 1) := by decide +kernel
theorem dX9_dropsApart_5 : decode cX9_dropsApart 5 = .ok (.getfield 21, 3) := by decide +kernel
theorem dX9_dropsApart_8 : decode cX9_dropsApart 8 = .ok (.getfield 121, 3) := by decide +kernel
theorem dX9_dropsApart_11 : decode cX9_dropsApart 11 = .ok (.aload_n 0, 1) := by decide +kernel
theorem dX9_dropsApart_12 : decode cX9_dropsApart 12 = .ok (.getfield 21, 3) := by decide +kernel
theorem dX9_dropsApart_15 : decode cX9_dropsApart 15 = .ok (.getfield 145, 3) := by decide +kernel
theorem dX9_dropsApart_18 : decode cX9_dropsApart 18 = .ok (.invokevirtual 313, 3) := by decide +kernel
theorem dX9_dropsApart_21 : decode cX9_dropsApart 21 = .ok (.iconst 0, 1) := by decide +kernel
theorem dX9_dropsApart_22 : decode cX9_dropsApart 22 = .ok (.istore 5, 2) := by decide +kernel
theorem dX9_dropsApart_24 : decode cX9_dropsApart 24 = .ok (.iload 5, 2) := by decide +kernel
theorem dX9_dropsApart_26 : decode cX9_dropsApart 26 = .ok (.iload 4, 2) := by decide +kernel
theorem dX9_dropsApart_28 : decode cX9_dropsApart 28 = .ok (.if_icmp .ge 17, 3) := by decide +kernel
theorem dX9_dropsApart_31 : decode cX9_dropsApart 31 = .ok (.aload_n 0, 1) := by decide +kernel
theorem dX9_dropsApart_32 : decode cX9_dropsApart 32 = .ok (.getfield 28, 3) := by decide +kernel
theorem dX9_dropsApart_35 : decode cX9_dropsApart 35 = .ok (.aload_n 3, 1) := by decide +kernel
theorem dX9_dropsApart_36 : decode cX9_dropsApart 36 = .ok (.invokevirtual 187, 3) := by decide +kernel
theorem dX9_dropsApart_39 : decode cX9_dropsApart 39 = .ok (.iinc 5 1, 3) := by decide +kernel
theorem dX9_dropsApart_42 : decode cX9_dropsApart 42 = .ok (.goto (-18), 3) := by decide +kernel
theorem dX9_dropsApart_45 : decode cX9_dropsApart 45 = .ok (.aload_n 0, 1) := by decide +kernel
theorem dX9_dropsApart_46 : decode cX9_dropsApart 46 = .ok (.getfield 28, 3) := by decide +kernel
theorem dX9_dropsApart_49 : decode cX9_dropsApart 49 = .ok (.iconst 1, 1) := by decide +kernel
theorem dX9_dropsApart_50 : decode cX9_dropsApart 50 = .ok (.iload_n 1, 1) := by decide +kernel
theorem dX9_dropsApart_51 : decode cX9_dropsApart 51 = .ok (.ishl, 1) := by decide +kernel
theorem dX9_dropsApart_52 : decode cX9_dropsApart 52 = .ok (.invokevirtual 181, 3) := by decide +kernel
theorem dX9_dropsApart_55 : decode cX9_dropsApart 55 = .ok (.aload_n 0, 1) := by decide +kernel
theorem dX9_dropsApart_56 : decode cX9_dropsApart 56 = .ok (.getfield 28, 3) := by decide +kernel
theorem dX9_dropsApart_59 : decode cX9_dropsApart 59 = .ok (.iconst 1, 1) := by decide +kernel
theorem dX9_dropsApart_60 : decode cX9_dropsApart 60 = .ok (.iload_n 2, 1) := by decide +kernel
theorem dX9_dropsApart_61 : decode cX9_dropsApart 61 = .ok (.ishl, 1) := by decide +kernel
theorem dX9_dropsApart_62 : decode cX9_dropsApart 62 = .ok (.invokevirtual 181, 3) := by decide +kernel
theorem dX9_dropsApart_65 : decode cX9_dropsApart 65 = .ok (.isub, 1) := by decide +kernel
theorem dX9_dropsApart_66 : decode cX9_dropsApart 66 = .ok (.invokestatic 322, 3) := by decide +kernel
theorem dX9_dropsApart_69 : decode cX9_dropsApart 69 = .ok (.ireturn, 1) := by decide +kernel
theorem dX10_in_0 : decode cX10_in 0 = .ok (.lload_n 0, 1) := by decide +kernel
theorem dX10_in_1 : decode cX10_in 1 = .ok (.lload_n 2, 1) := by decide +kernel
theorem dX10_in_2 : decode cX10_in 2 = .ok (.lcmp, 1) := by decide +kernel
theorem dX10_in_3 : decode cX10_in 3 = .ok (.ifCond .lt 14, 3) := by decide +kernel
theorem dX10_in_6 : decode cX10_in 6 = .ok (.lload_n 0, 1) := by decide +kernel
theorem dX10_in_7 : decode cX10_in 7 = .ok (.lload 4, 2) := by decide +kernel
theorem dX10_in_9 : decode cX10_in 9 = .ok (.lcmp, 1) := by decide +kernel
theorem dX10_in_10 : decode cX10_in 10 = .ok (.ifCond .gt 7, 3) := by decide +kernel
theorem dX10_in_13 : decode cX10_in 13 = .ok (.iconst 1, 1) := by decide +kernel
theorem dX10_in_14 : decode cX10_in 14 = .ok (.goto 4, 3) := by decide +kernel
theorem dX10_in_17 : decode cX10_in 17 = .ok (.iconst 0, 1) := by decide +kernel
theorem dX10_in_18 : decode cX10_in 18 = .ok (.ireturn, 1) := by decide +kernel
theorem dX10_within_0 : decode cX10_within 0 = .ok (.iload_n 0, 1) := by decide +kernel
theorem dX10_within_1 : decode cX10_within 1 = .ok (.iload_n 1, 1) := by decide +kernel
theorem dX10_within_2 : decode cX10_within 2 = .ok (.if_icmp .ge 7, 3) := by decide +kernel
theorem dX10_within_5 : decode cX10_within 5 = .ok (.iload_n 1, 1) := by decide +kernel
theorem dX10_within_6 : decode cX10_within 6 = .ok (.goto 13, 3) := by decide +kernel
theorem dX10_within_9 : decode cX10_within 9 = .ok (.iload_n 0, 1) := by decide +kernel
theorem dX10_within_10 : decode cX10_within 10 = .ok (.iload_n 2, 1) := by decide +kernel
theorem dX10_within_11 : decode cX10_within 11 = .ok (.if_icmp .le 7, 3) := by decide +kernel
theorem dX10_within_14 : decode cX10_within 14 = .ok (.iload_n 2, 1) := by decide +kernel
theorem dX10_within_15 : decode cX10_within 15 = .ok (.goto 4, 3) := by decide +kernel
theorem dX10_within_18 : decode cX10_within 18 = .ok (.iload_n 0, 1) := by decide +kernel
theorem dX10_within_19 : decode cX10_within 19 = .ok (.ireturn, 1) := by decide +kernel
theorem dX10_init_0 : decode cX10_init 0 = .ok (.aload_n 0, 1) := by decide +kernel
theorem dX10_init_1 : decode cX10_init 1 = .ok (.invokespecial 7, 3) := by decide +kernel
theorem dX10_init_4 : decode cX10_init 4 = .ok (.aload_n 0, 1) := by decide +kernel
theorem dX10_init_5 : decode cX10_init 5 = .ok (.sipush 960, 3) := by decide +kernel
theorem dX10_init_8 : decode cX10_init 8 = .ok (.newarray .int, 2) := by decide +kernel
theorem dX10_init_10 : decode cX10_init 10 = .ok (.putfield 13, 3) := by decide +kernel
theorem dX10_init_13 : decode cX10_init 13 = .ok (.aload_n 0, 1) := by decide +kernel
theorem dX10_init_14 : decode cX10_init 14 = .ok (.bipush 6, 2) := by decide +kernel
theorem dX10_init_16 : decode cX10_init 16 = .ok (.newarray .int, 2) := by decide +kernel
theorem dX10_init_18 : decode cX10_init 18 = .ok (.putfield 17, 3) := by decide +kernel
theorem dX10_init_21 : decode cX10_init 21 = .ok (.aload_n 0, 1) := by decide +kernel
theorem dX10_init_22 : decode cX10_init 22 = .ok (.sipush 160, 3) := by decide +kernel
theorem dX10_init_25 : decode cX10_init 25 = .ok (.newarray .int, 2) := by decide +kernel
theorem dX10_init_27 : decode cX10_init 27 = .ok (.putfield 20, 3) := by decide +kernel
theorem dX10_init_30 : decode cX10_init 30 = .ok (.aload_n 0, 1) := by decide +kernel
theorem dX10_init_31 : decode cX10_init 31 = .ok (.bipush 8, 2) := by decide +kernel
theorem dX10_init_33 : decode cX10_init 33 = .ok (.newarray .int, 2) := by decide +kernel
theorem dX10_init_35 : decode cX10_init 35 = .ok (.putfield 23, 3) := by decide +kernel
theorem dX10_init_38 : decode cX10_init 38 = .ok (.aload_n 0, 1) := by decide +kernel
theorem dX10_init_39 : decode cX10_init 39 = .ok (.bipush 8, 2) := by decide +kernel
theorem dX10_init_41 : decode cX10_init 41 = .ok (.newarray .int, 2) := by decide +kernel
theorem dX10_init_43 : decode cX10_init 43 = .ok (.putfield 26, 3) := by decide +kernel
theorem dX10_init_46 : decode cX10_init 46 = .ok (.aload_n 0, 1) := by decide +kernel
theorem dX10_init_47 : decode cX10_init 47 = .ok (.bipush 8, 2) := by decide +kernel
theorem dX10_init_49 : decode cX10_init 49 = .ok (.newarray .int, 2) := by decide +kernel
theorem dX10_init_51 : decode cX10_init 51 = .ok (.putfield 29, 3) := by decide +kernel
theorem dX10_init_54 : decode cX10_init 54 = .ok (.aload_n 0, 1) := by decide +kernel
theorem dX10_init_55 : decode cX10_init 55 = .ok (.iconst 4, 1) := by decide +kernel
theorem dX10_init_56 : decode cX10_init 56 = .ok (.newarray .int, 2) := by decide +kernel
theorem dX10_init_58 : decode cX10_init 58 = .ok (.putfield 32, 3) := by decide +kernel
theorem dX10_init_61 : decode cX10_init 61 = .ok (.aload_n 0, 1) := by decide +kernel
theorem dX10_init_62 : decode cX10_init 62 = .ok (.bipush 24, 2) := by decide +kernel
theorem dX10_init_64 : decode cX10_init 64 = .ok (.newarray .int, 2) := by decide +kernel
theorem dX10_init_66 : decode cX10_init 66 = .ok (.putfield 35, 3) := by decide +kernel
theorem dX10_init_69 : decode cX10_init 69 = .ok (.aload_n 0, 1) := by decide +kernel
theorem dX10_init_70 : decode cX10_init 70 = .ok (.bipush 64, 2) := by decide +kernel
theorem dX10_init_72 : decode cX10_init 72 = .ok (.newarray .int, 2) := by decide +kernel
theorem dX10_init_74 : decode cX10_init 74 = .ok (.putfield 38, 3) := by decide +kernel
theorem dX10_init_77 : decode cX10_init 77 = .ok (.aload_n 0, 1) := by decide +kernel
theorem dX10_init_78 : decode cX10_init 78 = .ok (.bipush 8, 2) := by decide +kernel
theorem dX10_init_80 : decode cX10_init 80 = .ok (.newarray .int, 2) := by decide +kernel
theorem dX10_init_82 : decode cX10_init 82 = .ok (.putfield 41, 3) := by decide +kernel
theorem dX10_init_85 : decode cX10_init 85 = .ok (.aload_n 0, 1) := by decide +kernel
theorem dX10_init_86 : decode cX10_init 86 = .ok (.sipush 192, 3) := by decide +kernel
theorem dX10_init_89 : decode cX10_init 89 = .ok (.newarray .int, 2) := by decide +kernel
theorem dX10_init_91 : decode cX10_init 91 = .ok (.putfield 44, 3) := by decide +kernel
theorem dX10_init_94 : decode cX10_init 94 = .ok (.aload_n 0, 1) := by decide +kernel
theorem dX10_init_95 : decode cX10_init 95 = .ok (.sipush 192, 3) := by decide +kernel
theorem dX10_init_98 : decode cX10_init 98 = .ok (.newarray .int, 2) := by decide +kernel
theorem dX10_init_100 : decode cX10_init 100 = .ok (.putfield 47, 3) := by decide +kernel
theorem dX10_init_103 : decode cX10_init 103 = .ok (.aload_n 0, 1) := by decide +kernel
theorem dX10_init_104 : decode cX10_init 104 = .ok (.bipush 8, 2) := by decide +kernel
theorem dX10_init_106 : decode cX10_init 106 = .ok (.newarray .int, 2) := by decide +kernel
theorem dX10_init_108 : decode cX10_init 108 = .ok (.putfield 50, 3) := by decide +kernel
theorem dX10_init_111 : decode cX10_init 111 = .ok (.aload_n 0, 1) := by decide +kernel
theorem dX10_init_112 : decode cX10_init 112 = .ok (.iconst 4, 1) := by decide +kernel
theorem dX10_init_113 : decode cX10_init 113 = .ok (.newarray .int, 2) := by decide +kernel
theorem dX10_init_115 : decode cX10_init 115 = .ok (.putfield 53, 3) := by decide +kernel
theorem dX10_init_118 : decode cX10_init 118 = .ok (.aload_n 0, 1) := by decide +kernel
theorem dX10_init_119 : decode cX10_init 119 = .ok (.bipush 32, 2) := by decide +kernel
theorem dX10_init_121 : decode cX10_init 121 = .ok (.newarray .int, 2) := by decide +kernel
theorem dX10_init_123 : decode cX10_init 123 = .ok (.putfield 56, 3) := by decide +kernel
theorem dX10_init_126 : decode cX10_init 126 = .ok (.aload_n 0, 1) := by decide +kernel
theorem dX10_init_127 : decode cX10_init 127 = .ok (.bipush 8, 2) := by decide +kernel
theorem dX10_init_129 : decode cX10_init 129 = .ok (.newarray .int, 2) := by decide +kernel
theorem dX10_init_131 : decode cX10_init 131 = .ok (.putfield 59, 3) := by decide +kernel
theorem dX10_init_134 : decode cX10_init 134 = .ok (.aload_n 0, 1) := by decide +kernel
theorem dX10_init_135 : decode cX10_init 135 = .ok (.bipush 8, 2) := by decide +kernel
theorem dX10_init_137 : decode cX10_init 137 = .ok (.newarray .int, 2) := by decide +kernel
theorem dX10_init_139 : decode cX10_init 139 = .ok (.putfield 62, 3) := by decide +kernel
theorem dX10_init_142 : decode cX10_init 142 = .ok (.aload_n 0, 1) := by decide +kernel
theorem dX10_init_143 : decode cX10_init 143 = .ok (.bipush 8, 2) := by decide +kernel
theorem dX10_init_145 : decode cX10_init 145 = .ok (.newarray .int, 2) := by decide +kernel
theorem dX10_init_147 : decode cX10_init 147 = .ok (.putfield 65, 3) := by decide +kernel
theorem dX10_init_150 : decode cX10_init 150 = .ok (.aload_n 0, 1) := by decide +kernel
theorem dX10_init_151 : decode cX10_init 151 = .ok (.bipush 20, 2) := by decide +kernel
theorem dX10_init_153 : decode cX10_init 153 = .ok (.newarray .int, 2) := by decide +kernel
theorem dX10_init_155 : decode cX10_init 155 = .ok (.putfield 68, 3) := by decide +kernel
theorem dX10_init_158 : decode cX10_init 158 = .ok (.aload_n 0, 1) := by decide +kernel
theorem dX10_init_159 : decode cX10_init 159 = .ok (.bipush 20, 2) := by decide +kernel
theorem dX10_init_161 : decode cX10_init 161 = .ok (.newarray .int, 2) := by decide +kernel
theorem dX10_init_163 : decode cX10_init 163 = .ok (.putfield 71, 3) := by decide +kernel
theorem dX10_init_166 : decode cX10_init 166 = .ok (.aload_n 0, 1) := by decide +kernel
theorem dX10_init_167 : decode cX10_init 167 = .ok (.bipush 20, 2) := by decide +kernel
theorem dX10_init_169 : decode cX10_init 169 = .ok (.newarray .int, 2) := by decide +kernel
theorem dX10_init_171 : decode cX10_init 171 = .ok (.putfield 74, 3) := by decide +kernel
theorem dX10_init_174 : decode cX10_init 174 = .ok (.aload_n 0, 1) := by decide +kernel
theorem dX10_init_175 : decode cX10_init 175 = .ok (.bipush 8, 2) := by decide +kernel
theorem dX10_init_177 : decode cX10_init 177 = .ok (.newarray .int, 2) := by decide +kernel
theorem dX10_init_179 : decode cX10_init 179 = .ok (.putfield 77, 3) := by decide +kernel
theorem dX10_init_182 : decode cX10_init 182 = .ok (.aload_n 0, 1) := by decide +kernel
theorem dX10_init_183 : decode cX10_init 183 = .ok (.bipush 8, 2) := by decide +kernel
theorem dX10_init_185 : decode cX10_init 185 = .ok (.newarray .int, 2) := by decide +kernel
theorem dX10_init_187 : decode cX10_init 187 = .ok (.putfield 80, 3) := by decide +kernel
theorem dX10_init_190 : decode cX10_init 190 = .ok (.aload_n 0, 1) := by decide +kernel
theorem dX10_init_191 : decode cX10_init 191 = .ok (.iconst 4, 1) := by decide +kernel
theorem dX10_init_192 : decode cX10_init 192 = .ok (.newarray .int, 2) := by decide +kernel
theorem dX10_init_194 : decode cX10_init 194 = .ok (.putfield 83, 3) := by decide +kernel
theorem dX10_init_197 : decode cX10_init 197 = .ok (.aload_n 0, 1) := by decide +kernel
theorem dX10_init_198 : decode cX10_init 198 = .ok (.bipush 32, 2) := by decide +kernel
theorem dX10_init_200 : decode cX10_init 200 = .ok (.newarray .int, 2) := by decide +kernel
theorem dX10_init_202 : decode cX10_init 202 = .ok (.putfield 86, 3) := by decide +kernel
theorem dX10_init_205 : decode cX10_init 205 = .ok (.aload_n 0, 1) := by decide +kernel
theorem dX10_init_206 : decode cX10_init 206 = .ok (.iconst 4, 1) := by decide +kernel
theorem dX10_init_207 : decode cX10_init 207 = .ok (.newarray .boolean, 2) := by decide +kernel
theorem dX10_init_209 : decode cX10_init 209 = .ok (.putfield 89, 3) := by decide +kernel
theorem dX10_init_212 : decode cX10_init 212 = .ok (.aload_n 0, 1) := by decide +kernel
theorem dX10_init_213 : decode cX10_init 213 = .ok (.iconst 4, 1) := by decide +kernel
theorem dX10_init_214 : decode cX10_init 214 = .ok (.newarray .int, 2) := by decide +kernel
theorem dX10_init_216 : decode cX10_init 216 = .ok (.putfield 93, 3) := by decide +kernel
theorem dX10_init_219 : decode cX10_init 219 = .ok (.aload_n 0, 1) := by decide +kernel
theorem dX10_init_220 : decode cX10_init 220 = .ok (.iconst 4, 1) := by decide +kernel
theorem dX10_init_221 : decode cX10_init 221 = .ok (.newarray .int, 2) := by decide +kernel
theorem dX10_init_223 : decode cX10_init 223 = .ok (.putfield 96, 3) := by decide +kernel
theorem dX10_init_226 : decode cX10_init 226 = .ok (.aload_n 0, 1) := by decide +kernel
theorem dX10_init_227 : decode cX10_init 227 = .ok (.sipush 160, 3) := by decide +kernel
theorem dX10_init_230 : decode cX10_init 230 = .ok (.newarray .int, 2) := by decide +kernel
theorem dX10_init_232 : decode cX10_init 232 = .ok (.putfield 99, 3) := by decide +kernel
theorem dX10_init_235 : decode cX10_init 235 = .ok (.aload_n 0, 1) := by decide +kernel
theorem dX10_init_236 : decode cX10_init 236 = .ok (.iconst 0, 1) := by decide +kernel
theorem dX10_init_237 : decode cX10_init 237 = .ok (.ldc2_w 102, 3) := by decide +kernel
theorem dX10_init_240 : decode cX10_init 240 = .ok (.invokevirtual 104, 3) := by decide +kernel
theorem dX10_init_243 : decode cX10_init 243 = .ok (.aload_n 0, 1) := by decide +kernel
theorem dX10_init_244 : decode cX10_init 244 = .ok (.bipush 8, 2) := by decide +kernel
theorem dX10_init_246 : decode cX10_init 246 = .ok (.ldc2_w 108, 3) := by decide +kernel
theorem dX10_init_249 : decode cX10_init 249 = .ok (.invokevirtual 104, 3) := by decide +kernel
theorem dX10_init_252 : decode cX10_init 252 = .ok (.aload_n 0, 1) := by decide +kernel
theorem dX10_init_253 : decode cX10_init 253 = .ok (.bipush 16, 2) := by decide +kernel
theorem dX10_init_255 : decode cX10_init 255 = .ok (.ldc2_w 110, 3) := by decide +kernel
theorem dX10_init_258 : decode cX10_init 258 = .ok (.invokevirtual 104, 3) := by decide +kernel
theorem dX10_init_261 : decode cX10_init 261 = .ok (.aload_n 0, 1) := by decide +kernel
theorem dX10_init_262 : decode cX10_init 262 = .ok (.bipush 24, 2) := by decide +kernel
theorem dX10_init_264 : decode cX10_init 264 = .ok (.ldc2_w 112, 3) := by decide +kernel
theorem dX10_init_267 : decode cX10_init 267 = .ok (.invokevirtual 104, 3) := by decide +kernel
theorem dX10_init_270 : decode cX10_init 270 = .ok (.aload_n 0, 1) := by decide +kernel
theorem dX10_init_271 : decode cX10_init 271 = .ok (.getfield 17, 3) := by decide +kernel
theorem dX10_init_274 : decode cX10_init 274 = .ok (.iconst 0, 1) := by decide +kernel
theorem dX10_init_275 : decode cX10_init 275 = .ok (.bipush 32, 2) := by decide +kernel
theorem dX10_init_277 : decode cX10_init 277 = .ok (.iastore, 1) := by decide +kernel
theorem dX10_init_278 : decode cX10_init 278 = .ok (.aload_n 0, 1) := by decide +kernel
theorem dX10_init_279 : decode cX10_init 279 = .ok (.iconst 1, 1) := by decide +kernel
theorem dX10_init_280 : decode cX10_init 280 = .ok (.putfield 114, 3) := by decide +kernel
theorem dX10_init_283 : decode cX10_init 283 = .ok (.aload_n 0, 1) := by decide +kernel
theorem dX10_init_284 : decode cX10_init 284 = .ok (.bipush 30, 2) := by decide +kernel
theorem dX10_init_286 : decode cX10_init 286 = .ok (.putfield 117, 3) := by decide +kernel
theorem dX10_init_289 : decode cX10_init 289 = .ok (.aload_n 0, 1) := by decide +kernel
theorem dX10_init_290 : decode cX10_init 290 = .ok (.getfield 32, 3) := by decide +kernel
theorem dX10_init_293 : decode cX10_init 293 = .ok (.iconst 1, 1) := by decide +kernel
theorem dX10_init_294 : decode cX10_init 294 = .ok (.sipush 1000, 3) := by decide +kernel
theorem dX10_init_297 : decode cX10_init 297 = .ok (.iastore, 1) := by decide +kernel
theorem dX10_init_298 : decode cX10_init 298 = .ok (.aload_n 0, 1) := by decide +kernel
theorem dX10_init_299 : decode cX10_init 299 = .ok (.getfield 32, 3) := by decide +kernel
theorem dX10_init_302 : decode cX10_init 302 = .ok (.iconst 2, 1) := by decide +kernel
theorem dX10_init_303 : decode cX10_init 303 = .ok (.sipush (-800), 3) := by decide +kernel
theorem dX10_init_306 : decode cX10_init 306 = .ok (.iastore, 1) := by decide +kernel
theorem dX10_init_307 : decode cX10_init 307 = .ok (.aload_n 0, 1) := by decide +kernel
theorem dX10_init_308 : decode cX10_init 308 = .ok (.getfield 32, 3) := by decide +kernel
theorem dX10_init_311 : decode cX10_init 311 = .ok (.iconst 3, 1) := by decide +kernel
theorem dX10_init_312 : decode cX10_init 312 = .ok (.sipush (-600), 3) := by decide +kernel
theorem dX10_init_315 : decode cX10_init 315 = .ok (.iastore, 1) := by decide +kernel
theorem dX10_init_316 : decode cX10_init 316 = .ok (.iconst 0, 1) := by decide +kernel
theorem dX10_init_317 : decode cX10_init 317 = .ok (.istore_n 1, 1) := by decide +kernel
theorem dX10_init_318 : decode cX10_init 318 = .ok (.iload_n 1, 1) := by decide +kernel
theorem dX10_init_319 : decode cX10_init 319 = .ok (.bipush 24, 2) := by decide +kernel
theorem dX10_init_321 : decode cX10_init 321 = .ok (.if_icmp .ge 17, 3) := by decide +kernel
theorem dX10_init_324 : decode cX10_init 324 = .ok (.aload_n 0, 1) := by decide +kernel
theorem dX10_init_325 : decode cX10_init 325 = .ok (.getfield 35, 3) := by decide +kernel
theorem dX10_init_328 : decode cX10_init 328 = .ok (.iload_n 1, 1) := by decide +kernel
theorem dX10_init_329 : decode cX10_init 329 = .ok (.bipush 100, 2) := by decide +kernel
theorem dX10_init_331 : decode cX10_init 331 = .ok (.iastore, 1) := by decide +kernel
theorem dX10_init_332 : decode cX10_init 332 = .ok (.iinc 1 1, 3) := by decide +kernel
theorem dX10_init_335 : decode cX10_init 335 = .ok (.goto (-17), 3) := by decide +kernel
theorem dX10_init_338 : decode cX10_init 338 = .ok (.return_, 1) := by decide +kernel
theorem dX10_spell_0 : decode cX10_spell 0 = .ok (.iconst 0, 1) := by decide +kernel
theorem dX10_spell_1 : decode cX10_spell 1 = .ok (.istore 4, 2) := by decide +kernel
theorem dX10_spell_3 : decode cX10_spell 3 = .ok (.iload 4, 2) := by decide +kernel
theorem dX10_spell_5 : decode cX10_spell 5 = .ok (.bipush 8, 2) := by decide +kernel
theorem dX10_spell_7 : decode cX10_spell 7 = .ok (.if_icmp .ge 33, 3) := by decide +kernel
theorem dX10_spell_10 : decode cX10_spell 10 = .ok (.aload_n 0, 1) := by decide +kernel
theorem dX10_spell_11 : decode cX10_spell 11 = .ok (.getfield 13, 3) := by decide +kernel
theorem dX10_spell_14 : decode cX10_spell 14 = .ok (.iload_n 1, 1) := by decide +kernel
theorem dX10_spell_15 : decode cX10_spell 15 = .ok (.iload 4, 2) := by decide +kernel
theorem dX10_spell_17 : decode cX10_spell 17 = .ok (.iadd, 1) := by decide +kernel
theorem dX10_spell_18 : decode cX10_spell 18 = .ok (.lload_n 2, 1) := by decide +kernel
theorem dX10_spell_19 : decode cX10_spell 19 = .ok (.bipush 56, 2) := by decide +kernel
theorem dX10_spell_21 : decode cX10_spell 21 = .ok (.bipush 8, 2) := by decide +kernel
theorem dX10_spell_23 : decode cX10_spell 23 = .ok (.iload 4, 2) := by decide +kernel
theorem dX10_spell_25 : decode cX10_spell 25 = .ok (.imul, 1) := by decide +kernel
theorem dX10_spell_26 : decode cX10_spell 26 = .ok (.isub, 1) := by decide +kernel
theorem dX10_spell_27 : decode cX10_spell 27 = .ok (.lshr, 1) := by decide +kernel
theorem dX10_spell_28 : decode cX10_spell 28 = .ok (.ldc2_w 120, 3) := by decide +kernel
theorem dX10_spell_31 : decode cX10_spell 31 = .ok (.land, 1) := by decide +kernel
theorem dX10_spell_32 : decode cX10_spell 32 = .ok (.l2i, 1) := by decide +kernel
theorem dX10_spell_33 : decode cX10_spell 33 = .ok (.iastore, 1) := by decide +kernel
theorem dX10_spell_34 : decode cX10_spell 34 = .ok (.iinc 4 1, 3) := by decide +kernel
theorem dX10_spell_37 : decode cX10_spell 37 = .ok (.goto (-34), 3) := by decide +kernel
theorem dX10_spell_40 : decode cX10_spell 40 = .ok (.return_, 1) := by decide +kernel
theorem dX10_isOne_0 : decode cX10_isOne 0 = .ok (.iload_n 1, 1) := by decide +kernel
theorem dX10_isOne_1 : decode cX10_isOne 1 = .ok (.i2l, 1) := by decide +kernel
theorem dX10_isOne_2 : decode cX10_isOne 2 = .ok (.lconst 0, 1) := by decide +kernel
theorem dX10_isOne_3 : decode cX10_isOne 3 = .ok (.aload_n 0, 1) := by decide +kernel
theorem dX10_isOne_4 : decode cX10_isOne 4 = .ok (.getfield 122, 3) := by decide +kernel
theorem dX10_isOne_7 : decode cX10_isOne 7 = .ok (.iconst 1, 1) := by decide +kernel
theorem dX10_isOne_8 : decode cX10_isOne 8 = .ok (.isub, 1) := by decide +kernel
theorem dX10_isOne_9 : decode cX10_isOne 9 = .ok (.i2l, 1) := by decide +kernel
theorem dX10_isOne_10 : decode cX10_isOne 10 = .ok (.invokestatic 125, 3) := by decide +kernel
theorem dX10_isOne_13 : decode cX10_isOne 13 = .ok (.ireturn, 1) := by decide +kernel
theorem dX10_isSet_0 : decode cX10_isSet 0 = .ok (.iload_n 1, 1) := by decide +kernel
theorem dX10_isSet_1 : decode cX10_isSet 1 = .ok (.i2l, 1) := by decide +kernel
theorem dX10_isSet_2 : decode cX10_isSet 2 = .ok (.lconst 0, 1) := by decide +kernel
theorem dX10_isSet_3 : decode cX10_isSet 3 = .ok (.iconst 1, 1) := by decide +kernel
theorem dX10_isSet_4 : decode cX10_isSet 4 = .ok (.aload_n 0, 1) := by decide +kernel
theorem dX10_isSet_5 : decode cX10_isSet 5 = .ok (.getfield 122, 3) := by decide +kernel
theorem dX10_isSet_8 : decode cX10_isSet 8 = .ok (.ishl, 1) := by decide +kernel
theorem dX10_isSet_9 : decode cX10_isSet 9 = .ok (.iconst 1, 1) := by decide +kernel
theorem dX10_isSet_10 : decode cX10_isSet 10 = .ok (.isub, 1) := by decide +kernel
theorem dX10_isSet_11 : decode cX10_isSet 11 = .ok (.i2l, 1) := by decide +kernel
theorem dX10_isSet_12 : decode cX10_isSet 12 = .ok (.invokestatic 125, 3) := by decide +kernel
theorem dX10_isSet_15 : decode cX10_isSet 15 = .ok (.ireturn, 1) := by decide +kernel
theorem dX10_sign_0 : decode cX10_sign 0 = .ok (.iload_n 1, 1) := by decide +kernel
theorem dX10_sign_1 : decode cX10_sign 1 = .ok (.i2l, 1) := by decide +kernel
theorem dX10_sign_2 : decode cX10_sign 2 = .ok (.lconst 0, 1) := by decide +kernel
theorem dX10_sign_3 : decode cX10_sign 3 = .ok (.ldc2_w 129, 3) := by decide +kernel
theorem dX10_sign_6 : decode cX10_sign 6 = .ok (.invokestatic 125, 3) := by decide +kernel
theorem dX10_sign_9 : decode cX10_sign 9 = .ok (.ifCond .ne 6, 3) := by decide +kernel
theorem dX10_sign_12 : decode cX10_sign 12 = .ok (.bipush (-2), 2) := by decide +kernel
theorem dX10_sign_14 : decode cX10_sign 14 = .ok (.ireturn, 1) := by decide +kernel
theorem dX10_sign_15 : decode cX10_sign 15 = .ok (.aload_n 0, 1) := by decide +kernel
theorem dX10_sign_16 : decode cX10_sign 16 = .ok (.getfield 122, 3) := by decide +kernel
theorem dX10_sign_19 : decode cX10_sign 19 = .ok (.bipush 8, 2) := by decide +kernel
theorem dX10_sign_21 : decode cX10_sign 21 = .ok (.if_icmp .ne 6, 3) := by decide +kernel
theorem dX10_sign_24 : decode cX10_sign 24 = .ok (.bipush (-4), 2) := by decide +kernel
theorem dX10_sign_26 : decode cX10_sign 26 = .ok (.ireturn, 1) := by decide +kernel
theorem dX10_sign_27 : decode cX10_sign 27 = .ok (.aload_n 0, 1) := by decide +kernel
theorem dX10_sign_28 : decode cX10_sign 28 = .ok (.getfield 23, 3) := by decide +kernel
theorem dX10_sign_31 : decode cX10_sign 31 = .ok (.aload_n 0, 1) := by decide +kernel
theorem dX10_sign_32 : decode cX10_sign 32 = .ok (.getfield 122, 3) := by decide +kernel
theorem dX10_sign_35 : decode cX10_sign 35 = .ok (.iload_n 1, 1) := by decide +kernel
theorem dX10_sign_36 : decode cX10_sign 36 = .ok (.iastore, 1) := by decide +kernel
theorem dX10_sign_37 : decode cX10_sign 37 = .ok (.aload_n 0, 1) := by decide +kernel
theorem dX10_sign_38 : decode cX10_sign 38 = .ok (.getfield 26, 3) := by decide +kernel
theorem dX10_sign_41 : decode cX10_sign 41 = .ok (.aload_n 0, 1) := by decide +kernel
theorem dX10_sign_42 : decode cX10_sign 42 = .ok (.getfield 122, 3) := by decide +kernel
theorem dX10_sign_45 : decode cX10_sign 45 = .ok (.iconst 0, 1) := by decide +kernel
theorem dX10_sign_46 : decode cX10_sign 46 = .ok (.iastore, 1) := by decide +kernel
theorem dX10_sign_47 : decode cX10_sign 47 = .ok (.aload_n 0, 1) := by decide +kernel
theorem dX10_sign_48 : decode cX10_sign 48 = .ok (.getfield 29, 3) := by decide +kernel
theorem dX10_sign_51 : decode cX10_sign 51 = .ok (.aload_n 0, 1) := by decide +kernel
theorem dX10_sign_52 : decode cX10_sign 52 = .ok (.getfield 122, 3) := by decide +kernel
theorem dX10_sign_55 : decode cX10_sign 55 = .ok (.iconst 0, 1) := by decide +kernel
theorem dX10_sign_56 : decode cX10_sign 56 = .ok (.iastore, 1) := by decide +kernel
theorem dX10_sign_57 : decode cX10_sign 57 = .ok (.aload_n 0, 1) := by decide +kernel
theorem dX10_sign_58 : decode cX10_sign 58 = .ok (.dup, 1) := by decide +kernel
theorem dX10_sign_59 : decode cX10_sign 59 = .ok (.getfield 122, 3) := by decide +kernel
theorem dX10_sign_62 : decode cX10_sign 62 = .ok (.iconst 1, 1) := by decide +kernel
theorem dX10_sign_63 : decode cX10_sign 63 = .ok (.iadd, 1) := by decide +kernel
theorem dX10_sign_64 : decode cX10_sign 64 = .ok (.putfield 122, 3) := by decide +kernel
theorem dX10_sign_67 : decode cX10_sign 67 = .ok (.aload_n 0, 1) := by decide +kernel
theorem dX10_sign_68 : decode cX10_sign 68 = .ok (.getfield 122, 3) := by decide +kernel
theorem dX10_sign_71 : decode cX10_sign 71 = .ok (.iconst 1, 1) := by decide +kernel
theorem dX10_sign_72 : decode cX10_sign 72 = .ok (.isub, 1) := by decide +kernel
theorem dX10_sign_73 : decode cX10_sign 73 = .ok (.ireturn, 1) := by decide +kernel
theorem dX10_loudOf_0 : decode cX10_loudOf 0 = .ok (.aload_n 0, 1) := by decide +kernel
theorem dX10_loudOf_1 : decode cX10_loudOf 1 = .ok (.getfield 23, 3) := by decide +kernel
theorem dX10_loudOf_4 : decode cX10_loudOf 4 = .ok (.iload_n 1, 1) := by decide +kernel
theorem dX10_loudOf_5 : decode cX10_loudOf 5 = .ok (.iaload, 1) := by decide +kernel
theorem dX10_loudOf_6 : decode cX10_loudOf 6 = .ok (.tableswitch 71 1 5 #[34, 71, 37, 40, 69], 34) := by decide +kernel
theorem dX10_loudOf_40 : decode cX10_loudOf 40 = .ok (.bipush 30, 2) := by decide +kernel
theorem dX10_loudOf_42 : decode cX10_loudOf 42 = .ok (.ireturn, 1) := by decide +kernel
theorem dX10_loudOf_43 : decode cX10_loudOf 43 = .ok (.bipush 15, 2) := by decide +kernel
theorem dX10_loudOf_45 : decode cX10_loudOf 45 = .ok (.ireturn, 1) := by decide +kernel
theorem dX10_loudOf_46 : decode cX10_loudOf 46 = .ok (.aload_n 0, 1) := by decide +kernel
theorem dX10_loudOf_47 : decode cX10_loudOf 47 = .ok (.getfield 29, 3) := by decide +kernel
theorem dX10_loudOf_50 : decode cX10_loudOf 50 = .ok (.iload_n 1, 1) := by decide +kernel
theorem dX10_loudOf_51 : decode cX10_loudOf 51 = .ok (.iaload, 1) := by decide +kernel
theorem dX10_loudOf_52 : decode cX10_loudOf 52 = .ok (.iconst 4, 1) := by decide +kernel
theorem dX10_loudOf_53 : decode cX10_loudOf 53 = .ok (.idiv, 1) := by decide +kernel
theorem dX10_loudOf_54 : decode cX10_loudOf 54 = .ok (.bipush 29, 2) := by decide +kernel
theorem dX10_loudOf_56 : decode cX10_loudOf 56 = .ok (.if_icmp .ge 17, 3) := by decide +kernel
theorem dX10_loudOf_59 : decode cX10_loudOf 59 = .ok (.bipush 30, 2) := by decide +kernel
theorem dX10_loudOf_61 : decode cX10_loudOf 61 = .ok (.aload_n 0, 1) := by decide +kernel
theorem dX10_loudOf_62 : decode cX10_loudOf 62 = .ok (.getfield 29, 3) := by decide +kernel
theorem dX10_loudOf_65 : decode cX10_loudOf 65 = .ok (.iload_n 1, 1) := by decide +kernel
theorem dX10_loudOf_66 : decode cX10_loudOf 66 = .ok (.iaload, 1) := by decide +kernel
theorem dX10_loudOf_67 : decode cX10_loudOf 67 = .ok (.iconst 4, 1) := by decide +kernel
theorem dX10_loudOf_68 : decode cX10_loudOf 68 = .ok (.idiv, 1) := by decide +kernel
theorem dX10_loudOf_69 : decode cX10_loudOf 69 = .ok (.isub, 1) := by decide +kernel
theorem dX10_loudOf_70 : decode cX10_loudOf 70 = .ok (.goto 4, 3) := by decide +kernel
theorem dX10_loudOf_73 : decode cX10_loudOf 73 = .ok (.iconst 1, 1) := by decide +kernel
theorem dX10_loudOf_74 : decode cX10_loudOf 74 = .ok (.ireturn, 1) := by decide +kernel
theorem dX10_loudOf_75 : decode cX10_loudOf 75 = .ok (.iconst 5, 1) := by decide +kernel
theorem dX10_loudOf_76 : decode cX10_loudOf 76 = .ok (.ireturn, 1) := by decide +kernel
theorem dX10_loudOf_77 : decode cX10_loudOf 77 = .ok (.bipush 20, 2) := by decide +kernel
theorem dX10_loudOf_79 : decode cX10_loudOf 79 = .ok (.ireturn, 1) := by decide +kernel
theorem dX10_fadesOf_0 : decode cX10_fadesOf 0 = .ok (.aload_n 0, 1) := by decide +kernel
theorem dX10_fadesOf_1 : decode cX10_fadesOf 1 = .ok (.aload_n 0, 1) := by decide +kernel
theorem dX10_fadesOf_2 : decode cX10_fadesOf 2 = .ok (.getfield 131, 3) := by decide +kernel
theorem dX10_fadesOf_5 : decode cX10_fadesOf 5 = .ok (.iload_n 1, 1) := by decide +kernel
theorem dX10_fadesOf_6 : decode cX10_fadesOf 6 = .ok (.iconst 0, 1) := by decide +kernel
theorem dX10_fadesOf_7 : decode cX10_fadesOf 7 = .ok (.iconst 0, 1) := by decide +kernel
theorem dX10_fadesOf_8 : decode cX10_fadesOf 8 = .ok (.iconst 0, 1) := by decide +kernel
theorem dX10_fadesOf_9 : decode cX10_fadesOf 9 = .ok (.iconst 1, 1) := by decide +kernel
theorem dX10_fadesOf_10 : decode cX10_fadesOf 10 = .ok (.invokevirtual 134, 3) := by decide +kernel
theorem dX10_fadesOf_13 : decode cX10_fadesOf 13 = .ok (.iconst 0, 1) := by decide +kernel
theorem dX10_fadesOf_14 : decode cX10_fadesOf 14 = .ok (.bipush 100, 2) := by decide +kernel
theorem dX10_fadesOf_16 : decode cX10_fadesOf 16 = .ok (.invokestatic 138, 3) := by decide +kernel
theorem dX10_fadesOf_19 : decode cX10_fadesOf 19 = .ok (.istore_n 2, 1) := by decide +kernel
theorem dX10_fadesOf_20 : decode cX10_fadesOf 20 = .ok (.aload_n 0, 1) := by decide +kernel
theorem dX10_fadesOf_21 : decode cX10_fadesOf 21 = .ok (.getfield 23, 3) := by decide +kernel
theorem dX10_fadesOf_24 : decode cX10_fadesOf 24 = .ok (.iload_n 1, 1) := by decide +kernel
theorem dX10_fadesOf_25 : decode cX10_fadesOf 25 = .ok (.iaload, 1) := by decide +kernel
theorem dX10_fadesOf_26 : decode cX10_fadesOf 26 = .ok (.tableswitch 61 1 5 #[34, 38, 53, 34, 59], 34) := by decide +kernel
theorem dX10_fadesOf_60 : decode cX10_fadesOf 60 = .ok (.iload_n 2, 1) := by decide +kernel
theorem dX10_fadesOf_61 : decode cX10_fadesOf 61 = .ok (.iconst 2, 1) := by decide +kernel
theorem dX10_fadesOf_62 : decode cX10_fadesOf 62 = .ok (.idiv, 1) := by decide +kernel
theorem dX10_fadesOf_63 : decode cX10_fadesOf 63 = .ok (.ireturn, 1) := by decide +kernel
theorem dX10_fadesOf_64 : decode cX10_fadesOf 64 = .ok (.iload_n 2, 1) := by decide +kernel
theorem dX10_fadesOf_65 : decode cX10_fadesOf 65 = .ok (.bipush 98, 2) := by decide +kernel
theorem dX10_fadesOf_67 : decode cX10_fadesOf 67 = .ok (.if_icmp .ge 9, 3) := by decide +kernel
theorem dX10_fadesOf_70 : decode cX10_fadesOf 70 = .ok (.iload_n 2, 1) := by decide +kernel
theorem dX10_fadesOf_71 : decode cX10_fadesOf 71 = .ok (.iconst 2, 1) := by decide +kernel
theorem dX10_fadesOf_72 : decode cX10_fadesOf 72 = .ok (.iadd, 1) := by decide +kernel
theorem dX10_fadesOf_73 : decode cX10_fadesOf 73 = .ok (.goto 5, 3) := by decide +kernel
theorem dX10_fadesOf_76 : decode cX10_fadesOf 76 = .ok (.bipush 100, 2) := by decide +kernel
theorem dX10_fadesOf_78 : decode cX10_fadesOf 78 = .ok (.ireturn, 1) := by decide +kernel
theorem dX10_fadesOf_79 : decode cX10_fadesOf 79 = .ok (.iload_n 2, 1) := by decide +kernel
theorem dX10_fadesOf_80 : decode cX10_fadesOf 80 = .ok (.iconst 2, 1) := by decide +kernel
theorem dX10_fadesOf_81 : decode cX10_fadesOf 81 = .ok (.idiv, 1) := by decide +kernel
theorem dX10_fadesOf_82 : decode cX10_fadesOf 82 = .ok (.iconst 1, 1) := by decide +kernel
theorem dX10_fadesOf_83 : decode cX10_fadesOf 83 = .ok (.iadd, 1) := by decide +kernel
theorem dX10_fadesOf_84 : decode cX10_fadesOf 84 = .ok (.ireturn, 1) := by decide +kernel
theorem dX10_fadesOf_85 : decode cX10_fadesOf 85 = .ok (.iconst 0, 1) := by decide +kernel
theorem dX10_fadesOf_86 : decode cX10_fadesOf 86 = .ok (.ireturn, 1) := by decide +kernel
theorem dX10_fadesOf_87 : decode cX10_fadesOf 87 = .ok (.iload_n 2, 1) := by decide +kernel
theorem dX10_fadesOf_88 : decode cX10_fadesOf 88 = .ok (.ireturn, 1) := by decide +kernel
theorem dX10_told_0 : decode cX10_told 0 = .ok (.aload_n 0, 1) := by decide +kernel
theorem dX10_told_1 : decode cX10_told 1 = .ok (.iload_n 1, 1) := by decide +kernel
theorem dX10_told_2 : decode cX10_told 2 = .ok (.invokevirtual 142, 3) := by decide +kernel
theorem dX10_told_5 : decode cX10_told 5 = .ok (.ifCond .ne 7, 3) := by decide +kernel
theorem dX10_told_8 : decode cX10_told 8 = .ok (.ldc2_w 146, 3) := by decide +kernel
theorem dX10_told_11 : decode cX10_told 11 = .ok (.lreturn, 1) := by decide +kernel
theorem dX10_told_12 : decode cX10_told 12 = .ok (.iload_n 2, 1) := by decide +kernel
theorem dX10_told_13 : decode cX10_told 13 = .ok (.tableswitch 73 0 4 #[35, 43, 51, 59, 66], 35) := by decide +kernel
theorem dX10_told_48 : decode cX10_told 48 = .ok (.aload_n 0, 1) := by decide +kernel
theorem dX10_told_49 : decode cX10_told 49 = .ok (.getfield 23, 3) := by decide +kernel
theorem dX10_told_52 : decode cX10_told 52 = .ok (.iload_n 1, 1) := by decide +kernel
theorem dX10_told_53 : decode cX10_told 53 = .ok (.iaload, 1) := by decide +kernel
theorem dX10_told_54 : decode cX10_told 54 = .ok (.i2l, 1) := by decide +kernel
theorem dX10_told_55 : decode cX10_told 55 = .ok (.lreturn, 1) := by decide +kernel
theorem dX10_told_56 : decode cX10_told 56 = .ok (.aload_n 0, 1) := by decide +kernel
theorem dX10_told_57 : decode cX10_told 57 = .ok (.getfield 26, 3) := by decide +kernel
theorem dX10_told_60 : decode cX10_told 60 = .ok (.iload_n 1, 1) := by decide +kernel
theorem dX10_told_61 : decode cX10_told 61 = .ok (.iaload, 1) := by decide +kernel
theorem dX10_told_62 : decode cX10_told 62 = .ok (.i2l, 1) := by decide +kernel
theorem dX10_told_63 : decode cX10_told 63 = .ok (.lreturn, 1) := by decide +kernel
theorem dX10_told_64 : decode cX10_told 64 = .ok (.aload_n 0, 1) := by decide +kernel
theorem dX10_told_65 : decode cX10_told 65 = .ok (.getfield 29, 3) := by decide +kernel
theorem dX10_told_68 : decode cX10_told 68 = .ok (.iload_n 1, 1) := by decide +kernel
theorem dX10_told_69 : decode cX10_told 69 = .ok (.iaload, 1) := by decide +kernel
theorem dX10_told_70 : decode cX10_told 70 = .ok (.i2l, 1) := by decide +kernel
theorem dX10_told_71 : decode cX10_told 71 = .ok (.lreturn, 1) := by decide +kernel
theorem dX10_told_72 : decode cX10_told 72 = .ok (.aload_n 0, 1) := by decide +kernel
theorem dX10_told_73 : decode cX10_told 73 = .ok (.iload_n 1, 1) := by decide +kernel
theorem dX10_told_74 : decode cX10_told 74 = .ok (.invokevirtual 148, 3) := by decide +kernel
theorem dX10_told_77 : decode cX10_told 77 = .ok (.i2l, 1) := by decide +kernel
theorem dX10_told_78 : decode cX10_told 78 = .ok (.lreturn, 1) := by decide +kernel
theorem dX10_told_79 : decode cX10_told 79 = .ok (.aload_n 0, 1) := by decide +kernel
theorem dX10_told_80 : decode cX10_told 80 = .ok (.iload_n 1, 1) := by decide +kernel
theorem dX10_told_81 : decode cX10_told 81 = .ok (.invokevirtual 152, 3) := by decide +kernel
theorem dX10_told_84 : decode cX10_told 84 = .ok (.i2l, 1) := by decide +kernel
theorem dX10_told_85 : decode cX10_told 85 = .ok (.lreturn, 1) := by decide +kernel
theorem dX10_told_86 : decode cX10_told 86 = .ok (.ldc2_w 146, 3) := by decide +kernel
theorem dX10_told_89 : decode cX10_told 89 = .ok (.lreturn, 1) := by decide +kernel
theorem dX10_worth_0 : decode cX10_worth 0 = .ok (.iload_n 1, 1) := by decide +kernel
theorem dX10_worth_1 : decode cX10_worth 1 = .ok (.i2l, 1) := by decide +kernel
theorem dX10_worth_2 : decode cX10_worth 2 = .ok (.lconst 1, 1) := by decide +kernel
theorem dX10_worth_3 : decode cX10_worth 3 = .ok (.ldc2_w 155, 3) := by decide +kernel
theorem dX10_worth_6 : decode cX10_worth 6 = .ok (.invokestatic 125, 3) := by decide +kernel
theorem dX10_worth_9 : decode cX10_worth 9 = .ok (.ifCond .eq 17, 3) := by decide +kernel
theorem dX10_worth_12 : decode cX10_worth 12 = .ok (.iload_n 2, 1) := by decide +kernel
theorem dX10_worth_13 : decode cX10_worth 13 = .ok (.i2l, 1) := by decide +kernel
theorem dX10_worth_14 : decode cX10_worth 14 = .ok (.ldc2_w 157, 3) := by decide +kernel
theorem dX10_worth_17 : decode cX10_worth 17 = .ok (.ldc2_w 159, 3) := by decide +kernel
theorem dX10_worth_20 : decode cX10_worth 20 = .ok (.invokestatic 125, 3) := by decide +kernel
theorem dX10_worth_23 : decode cX10_worth 23 = .ok (.ifCond .ne 7, 3) := by decide +kernel
theorem dX10_worth_26 : decode cX10_worth 26 = .ok (.sipush (-9999), 3) := by decide +kernel
theorem dX10_worth_29 : decode cX10_worth 29 = .ok (.ireturn, 1) := by decide +kernel
theorem dX10_worth_30 : decode cX10_worth 30 = .ok (.aload_n 0, 1) := by decide +kernel
theorem dX10_worth_31 : decode cX10_worth 31 = .ok (.getfield 32, 3) := by decide +kernel
theorem dX10_worth_34 : decode cX10_worth 34 = .ok (.iload_n 1, 1) := by decide +kernel
theorem dX10_worth_35 : decode cX10_worth 35 = .ok (.iaload, 1) := by decide +kernel
theorem dX10_worth_36 : decode cX10_worth 36 = .ok (.istore_n 3, 1) := by decide +kernel
theorem dX10_worth_37 : decode cX10_worth 37 = .ok (.aload_n 0, 1) := by decide +kernel
theorem dX10_worth_38 : decode cX10_worth 38 = .ok (.getfield 32, 3) := by decide +kernel
theorem dX10_worth_41 : decode cX10_worth 41 = .ok (.iload_n 1, 1) := by decide +kernel
theorem dX10_worth_42 : decode cX10_worth 42 = .ok (.iload_n 2, 1) := by decide +kernel
theorem dX10_worth_43 : decode cX10_worth 43 = .ok (.iastore, 1) := by decide +kernel
theorem dX10_worth_44 : decode cX10_worth 44 = .ok (.iload_n 3, 1) := by decide +kernel
theorem dX10_worth_45 : decode cX10_worth 45 = .ok (.ireturn, 1) := by decide +kernel
theorem dX10_goes_0 : decode cX10_goes 0 = .ok (.iload_n 1, 1) := by decide +kernel
theorem dX10_goes_1 : decode cX10_goes 1 = .ok (.i2l, 1) := by decide +kernel
theorem dX10_goes_2 : decode cX10_goes 2 = .ok (.lconst 0, 1) := by decide +kernel
theorem dX10_goes_3 : decode cX10_goes 3 = .ok (.ldc2_w 129, 3) := by decide +kernel
theorem dX10_goes_6 : decode cX10_goes 6 = .ok (.invokestatic 125, 3) := by decide +kernel
theorem dX10_goes_9 : decode cX10_goes 9 = .ok (.ifCond .eq 27, 3) := by decide +kernel
theorem dX10_goes_12 : decode cX10_goes 12 = .ok (.iload_n 2, 1) := by decide +kernel
theorem dX10_goes_13 : decode cX10_goes 13 = .ok (.i2l, 1) := by decide +kernel
theorem dX10_goes_14 : decode cX10_goes 14 = .ok (.lconst 0, 1) := by decide +kernel
theorem dX10_goes_15 : decode cX10_goes 15 = .ok (.ldc2_w 155, 3) := by decide +kernel
theorem dX10_goes_18 : decode cX10_goes 18 = .ok (.invokestatic 125, 3) := by decide +kernel
theorem dX10_goes_21 : decode cX10_goes 21 = .ok (.ifCond .eq 15, 3) := by decide +kernel
theorem dX10_goes_24 : decode cX10_goes 24 = .ok (.iload_n 3, 1) := by decide +kernel
theorem dX10_goes_25 : decode cX10_goes 25 = .ok (.i2l, 1) := by decide +kernel
theorem dX10_goes_26 : decode cX10_goes 26 = .ok (.lconst 0, 1) := by decide +kernel
theorem dX10_goes_27 : decode cX10_goes 27 = .ok (.ldc2_w 161, 3) := by decide +kernel
theorem dX10_goes_30 : decode cX10_goes 30 = .ok (.invokestatic 125, 3) := by decide +kernel
theorem dX10_goes_33 : decode cX10_goes 33 = .ok (.ifCond .ne 6, 3) := by decide +kernel
theorem dX10_goes_36 : decode cX10_goes 36 = .ok (.bipush (-2), 2) := by decide +kernel
theorem dX10_goes_38 : decode cX10_goes 38 = .ok (.ireturn, 1) := by decide +kernel
theorem dX10_goes_39 : decode cX10_goes 39 = .ok (.aload_n 0, 1) := by decide +kernel
theorem dX10_goes_40 : decode cX10_goes 40 = .ok (.getfield 35, 3) := by decide +kernel
theorem dX10_goes_43 : decode cX10_goes 43 = .ok (.iconst 4, 1) := by decide +kernel
theorem dX10_goes_44 : decode cX10_goes 44 = .ok (.iload_n 1, 1) := by decide +kernel
theorem dX10_goes_45 : decode cX10_goes 45 = .ok (.imul, 1) := by decide +kernel
theorem dX10_goes_46 : decode cX10_goes 46 = .ok (.iload_n 2, 1) := by decide +kernel
theorem dX10_goes_47 : decode cX10_goes 47 = .ok (.iadd, 1) := by decide +kernel
theorem dX10_goes_48 : decode cX10_goes 48 = .ok (.iaload, 1) := by decide +kernel
theorem dX10_goes_49 : decode cX10_goes 49 = .ok (.istore 4, 2) := by decide +kernel
theorem dX10_goes_51 : decode cX10_goes 51 = .ok (.aload_n 0, 1) := by decide +kernel
theorem dX10_goes_52 : decode cX10_goes 52 = .ok (.getfield 35, 3) := by decide +kernel
theorem dX10_goes_55 : decode cX10_goes 55 = .ok (.iconst 4, 1) := by decide +kernel
theorem dX10_goes_56 : decode cX10_goes 56 = .ok (.iload_n 1, 1) := by decide +kernel
theorem dX10_goes_57 : decode cX10_goes 57 = .ok (.imul, 1) := by decide +kernel
theorem dX10_goes_58 : decode cX10_goes 58 = .ok (.iload_n 2, 1) := by decide +kernel
theorem dX10_goes_59 : decode cX10_goes 59 = .ok (.iadd, 1) := by decide +kernel
theorem dX10_goes_60 : decode cX10_goes 60 = .ok (.iload_n 3, 1) := by decide +kernel
theorem dX10_goes_61 : decode cX10_goes 61 = .ok (.iastore, 1) := by decide +kernel
theorem dX10_goes_62 : decode cX10_goes 62 = .ok (.iload 4, 2) := by decide +kernel
theorem dX10_goes_64 : decode cX10_goes 64 = .ok (.ireturn, 1) := by decide +kernel
theorem dX10_like_0 : decode cX10_like 0 = .ok (.aload_n 0, 1) := by decide +kernel
theorem dX10_like_1 : decode cX10_like 1 = .ok (.iload_n 1, 1) := by decide +kernel
theorem dX10_like_2 : decode cX10_like 2 = .ok (.invokevirtual 142, 3) := by decide +kernel
theorem dX10_like_5 : decode cX10_like 5 = .ok (.ifCond .eq 28, 3) := by decide +kernel
theorem dX10_like_8 : decode cX10_like 8 = .ok (.aload_n 0, 1) := by decide +kernel
theorem dX10_like_9 : decode cX10_like 9 = .ok (.iload_n 2, 1) := by decide +kernel
theorem dX10_like_10 : decode cX10_like 10 = .ok (.invokevirtual 142, 3) := by decide +kernel
theorem dX10_like_13 : decode cX10_like 13 = .ok (.ifCond .eq 20, 3) := by decide +kernel
theorem dX10_like_16 : decode cX10_like 16 = .ok (.iload_n 1, 1) := by decide +kernel
theorem dX10_like_17 : decode cX10_like 17 = .ok (.iload_n 2, 1) := by decide +kernel
theorem dX10_like_18 : decode cX10_like 18 = .ok (.if_icmp .eq 15, 3) := by decide +kernel
theorem dX10_like_21 : decode cX10_like 21 = .ok (.iload_n 3, 1) := by decide +kernel
theorem dX10_like_22 : decode cX10_like 22 = .ok (.i2l, 1) := by decide +kernel
theorem dX10_like_23 : decode cX10_like 23 = .ok (.lconst 0, 1) := by decide +kernel
theorem dX10_like_24 : decode cX10_like 24 = .ok (.ldc2_w 161, 3) := by decide +kernel
theorem dX10_like_27 : decode cX10_like 27 = .ok (.invokestatic 125, 3) := by decide +kernel
theorem dX10_like_30 : decode cX10_like 30 = .ok (.ifCond .ne 6, 3) := by decide +kernel
theorem dX10_like_33 : decode cX10_like 33 = .ok (.bipush (-2), 2) := by decide +kernel
theorem dX10_like_35 : decode cX10_like 35 = .ok (.ireturn, 1) := by decide +kernel
theorem dX10_like_36 : decode cX10_like 36 = .ok (.aload_n 0, 1) := by decide +kernel
theorem dX10_like_37 : decode cX10_like 37 = .ok (.getfield 38, 3) := by decide +kernel
theorem dX10_like_40 : decode cX10_like 40 = .ok (.bipush 8, 2) := by decide +kernel
theorem dX10_like_42 : decode cX10_like 42 = .ok (.iload_n 1, 1) := by decide +kernel
theorem dX10_like_43 : decode cX10_like 43 = .ok (.imul, 1) := by decide +kernel
theorem dX10_like_44 : decode cX10_like 44 = .ok (.iload_n 2, 1) := by decide +kernel
theorem dX10_like_45 : decode cX10_like 45 = .ok (.iadd, 1) := by decide +kernel
theorem dX10_like_46 : decode cX10_like 46 = .ok (.iaload, 1) := by decide +kernel
theorem dX10_like_47 : decode cX10_like 47 = .ok (.istore 4, 2) := by decide +kernel
theorem dX10_like_49 : decode cX10_like 49 = .ok (.aload_n 0, 1) := by decide +kernel
theorem dX10_like_50 : decode cX10_like 50 = .ok (.getfield 38, 3) := by decide +kernel
theorem dX10_like_53 : decode cX10_like 53 = .ok (.bipush 8, 2) := by decide +kernel
theorem dX10_like_55 : decode cX10_like 55 = .ok (.iload_n 1, 1) := by decide +kernel
theorem dX10_like_56 : decode cX10_like 56 = .ok (.imul, 1) := by decide +kernel
theorem dX10_like_57 : decode cX10_like 57 = .ok (.iload_n 2, 1) := by decide +kernel
theorem dX10_like_58 : decode cX10_like 58 = .ok (.iadd, 1) := by decide +kernel
theorem dX10_like_59 : decode cX10_like 59 = .ok (.iload_n 3, 1) := by decide +kernel
theorem dX10_like_60 : decode cX10_like 60 = .ok (.iastore, 1) := by decide +kernel
theorem dX10_like_61 : decode cX10_like 61 = .ok (.aload_n 0, 1) := by decide +kernel
theorem dX10_like_62 : decode cX10_like 62 = .ok (.getfield 38, 3) := by decide +kernel
theorem dX10_like_65 : decode cX10_like 65 = .ok (.bipush 8, 2) := by decide +kernel
theorem dX10_like_67 : decode cX10_like 67 = .ok (.iload_n 2, 1) := by decide +kernel
theorem dX10_like_68 : decode cX10_like 68 = .ok (.imul, 1) := by decide +kernel
theorem dX10_like_69 : decode cX10_like 69 = .ok (.iload_n 1, 1) := by decide +kernel
theorem dX10_like_70 : decode cX10_like 70 = .ok (.iadd, 1) := by decide +kernel
theorem dX10_like_71 : decode cX10_like 71 = .ok (.iload_n 3, 1) := by decide +kernel
theorem dX10_like_72 : decode cX10_like 72 = .ok (.iastore, 1) := by decide +kernel
theorem dX10_like_73 : decode cX10_like 73 = .ok (.iload 4, 2) := by decide +kernel
theorem dX10_like_75 : decode cX10_like 75 = .ok (.ireturn, 1) := by decide +kernel
theorem dX10_pace_0 : decode cX10_pace 0 = .ok (.iload_n 1, 1) := by decide +kernel
theorem dX10_pace_1 : decode cX10_pace 1 = .ok (.i2l, 1) := by decide +kernel
theorem dX10_pace_2 : decode cX10_pace 2 = .ok (.lconst 1, 1) := by decide +kernel
theorem dX10_pace_3 : decode cX10_pace 3 = .ok (.ldc2_w 161, 3) := by decide +kernel
theorem dX10_pace_6 : decode cX10_pace 6 = .ok (.invokestatic 125, 3) := by decide +kernel
theorem dX10_pace_9 : decode cX10_pace 9 = .ok (.ifCond .ne 6, 3) := by decide +kernel
theorem dX10_pace_12 : decode cX10_pace 12 = .ok (.bipush (-2), 2) := by decide +kernel
theorem dX10_pace_14 : decode cX10_pace 14 = .ok (.ireturn, 1) := by decide +kernel
theorem dX10_pace_15 : decode cX10_pace 15 = .ok (.aload_n 0, 1) := by decide +kernel
theorem dX10_pace_16 : decode cX10_pace 16 = .ok (.getfield 117, 3) := by decide +kernel
theorem dX10_pace_19 : decode cX10_pace 19 = .ok (.istore_n 2, 1) := by decide +kernel
theorem dX10_pace_20 : decode cX10_pace 20 = .ok (.aload_n 0, 1) := by decide +kernel
theorem dX10_pace_21 : decode cX10_pace 21 = .ok (.iload_n 1, 1) := by decide +kernel
theorem dX10_pace_22 : decode cX10_pace 22 = .ok (.putfield 117, 3) := by decide +kernel
theorem dX10_pace_25 : decode cX10_pace 25 = .ok (.iload_n 2, 1) := by decide +kernel
theorem dX10_pace_26 : decode cX10_pace 26 = .ok (.ireturn, 1) := by decide +kernel
theorem dX10_feed_0 : decode cX10_feed 0 = .ok (.iload_n 1, 1) := by decide +kernel
theorem dX10_feed_1 : decode cX10_feed 1 = .ok (.i2l, 1) := by decide +kernel
theorem dX10_feed_2 : decode cX10_feed 2 = .ok (.lconst 1, 1) := by decide +kernel
theorem dX10_feed_3 : decode cX10_feed 3 = .ok (.ldc2_w 163, 3) := by decide +kernel
theorem dX10_feed_6 : decode cX10_feed 6 = .ok (.invokestatic 125, 3) := by decide +kernel
theorem dX10_feed_9 : decode cX10_feed 9 = .ok (.ifCond .ne 6, 3) := by decide +kernel
theorem dX10_feed_12 : decode cX10_feed 12 = .ok (.bipush (-2), 2) := by decide +kernel
theorem dX10_feed_14 : decode cX10_feed 14 = .ok (.ireturn, 1) := by decide +kernel
theorem dX10_feed_15 : decode cX10_feed 15 = .ok (.aload_n 0, 1) := by decide +kernel
theorem dX10_feed_16 : decode cX10_feed 16 = .ok (.getfield 165, 3) := by decide +kernel
theorem dX10_feed_19 : decode cX10_feed 19 = .ok (.iload_n 1, 1) := by decide +kernel
theorem dX10_feed_20 : decode cX10_feed 20 = .ok (.iadd, 1) := by decide +kernel
theorem dX10_feed_21 : decode cX10_feed 21 = .ok (.sipush 160, 3) := by decide +kernel
theorem dX10_feed_24 : decode cX10_feed 24 = .ok (.if_icmp .le 6, 3) := by decide +kernel
theorem dX10_feed_27 : decode cX10_feed 27 = .ok (.bipush (-4), 2) := by decide +kernel
theorem dX10_feed_29 : decode cX10_feed 29 = .ok (.ireturn, 1) := by decide +kernel
theorem dX10_feed_30 : decode cX10_feed 30 = .ok (.iconst 0, 1) := by decide +kernel
theorem dX10_feed_31 : decode cX10_feed 31 = .ok (.istore 4, 2) := by decide +kernel
theorem dX10_feed_33 : decode cX10_feed 33 = .ok (.iload 4, 2) := by decide +kernel
theorem dX10_feed_35 : decode cX10_feed 35 = .ok (.iload_n 1, 1) := by decide +kernel
theorem dX10_feed_36 : decode cX10_feed 36 = .ok (.if_icmp .ge 40, 3) := by decide +kernel
theorem dX10_feed_39 : decode cX10_feed 39 = .ok (.aload_n 0, 1) := by decide +kernel
theorem dX10_feed_40 : decode cX10_feed 40 = .ok (.getfield 20, 3) := by decide +kernel
theorem dX10_feed_43 : decode cX10_feed 43 = .ok (.aload_n 0, 1) := by decide +kernel
theorem dX10_feed_44 : decode cX10_feed 44 = .ok (.getfield 165, 3) := by decide +kernel
theorem dX10_feed_47 : decode cX10_feed 47 = .ok (.lload_n 2, 1) := by decide +kernel
theorem dX10_feed_48 : decode cX10_feed 48 = .ok (.bipush 8, 2) := by decide +kernel
theorem dX10_feed_50 : decode cX10_feed 50 = .ok (.iload 4, 2) := by decide +kernel
theorem dX10_feed_52 : decode cX10_feed 52 = .ok (.imul, 1) := by decide +kernel
theorem dX10_feed_53 : decode cX10_feed 53 = .ok (.lshr, 1) := by decide +kernel
theorem dX10_feed_54 : decode cX10_feed 54 = .ok (.ldc2_w 120, 3) := by decide +kernel
theorem dX10_feed_57 : decode cX10_feed 57 = .ok (.land, 1) := by decide +kernel
theorem dX10_feed_58 : decode cX10_feed 58 = .ok (.l2i, 1) := by decide +kernel
theorem dX10_feed_59 : decode cX10_feed 59 = .ok (.iastore, 1) := by decide +kernel
theorem dX10_feed_60 : decode cX10_feed 60 = .ok (.aload_n 0, 1) := by decide +kernel
theorem dX10_feed_61 : decode cX10_feed 61 = .ok (.dup, 1) := by decide +kernel
theorem dX10_feed_62 : decode cX10_feed 62 = .ok (.getfield 165, 3) := by decide +kernel
theorem dX10_feed_65 : decode cX10_feed 65 = .ok (.iconst 1, 1) := by decide +kernel
theorem dX10_feed_66 : decode cX10_feed 66 = .ok (.iadd, 1) := by decide +kernel
theorem dX10_feed_67 : decode cX10_feed 67 = .ok (.putfield 165, 3) := by decide +kernel
theorem dX10_feed_70 : decode cX10_feed 70 = .ok (.iinc 4 1, 3) := by decide +kernel
theorem dX10_feed_73 : decode cX10_feed 73 = .ok (.goto (-40), 3) := by decide +kernel
theorem dX10_feed_76 : decode cX10_feed 76 = .ok (.aload_n 0, 1) := by decide +kernel
theorem dX10_feed_77 : decode cX10_feed 77 = .ok (.getfield 165, 3) := by decide +kernel
theorem dX10_feed_80 : decode cX10_feed 80 = .ok (.ireturn, 1) := by decide +kernel
theorem dX10_byteAt_0 : decode cX10_byteAt 0 = .ok (.iload_n 1, 1) := by decide +kernel
theorem dX10_byteAt_1 : decode cX10_byteAt 1 = .ok (.aload_n 0, 1) := by decide +kernel
theorem dX10_byteAt_2 : decode cX10_byteAt 2 = .ok (.getfield 168, 3) := by decide +kernel
theorem dX10_byteAt_5 : decode cX10_byteAt 5 = .ok (.if_icmp .ge 17, 3) := by decide +kernel
theorem dX10_byteAt_8 : decode cX10_byteAt 8 = .ok (.aload_n 0, 1) := by decide +kernel
theorem dX10_byteAt_9 : decode cX10_byteAt 9 = .ok (.getfield 13, 3) := by decide +kernel
theorem dX10_byteAt_12 : decode cX10_byteAt 12 = .ok (.aload_n 0, 1) := by decide +kernel
theorem dX10_byteAt_13 : decode cX10_byteAt 13 = .ok (.getfield 171, 3) := by decide +kernel
theorem dX10_byteAt_16 : decode cX10_byteAt 16 = .ok (.iload_n 1, 1) := by decide +kernel
theorem dX10_byteAt_17 : decode cX10_byteAt 17 = .ok (.iadd, 1) := by decide +kernel
theorem dX10_byteAt_18 : decode cX10_byteAt 18 = .ok (.iaload, 1) := by decide +kernel
theorem dX10_byteAt_19 : decode cX10_byteAt 19 = .ok (.goto 4, 3) := by decide +kernel
theorem dX10_byteAt_22 : decode cX10_byteAt 22 = .ok (.iconst (-1), 1) := by decide +kernel
theorem dX10_byteAt_23 : decode cX10_byteAt 23 = .ok (.ireturn, 1) := by decide +kernel
theorem dX10_next_0 : decode cX10_next 0 = .ok (.aload_n 0, 1) := by decide +kernel
theorem dX10_next_1 : decode cX10_next 1 = .ok (.aload_n 0, 1) := by decide +kernel
theorem dX10_next_2 : decode cX10_next 2 = .ok (.getfield 174, 3) := by decide +kernel
theorem dX10_next_5 : decode cX10_next 5 = .ok (.invokevirtual 177, 3) := by decide +kernel
theorem dX10_next_8 : decode cX10_next 8 = .ok (.bipush 32, 2) := by decide +kernel
theorem dX10_next_10 : decode cX10_next 10 = .ok (.if_icmp .eq 16, 3) := by decide +kernel
theorem dX10_next_13 : decode cX10_next 13 = .ok (.aload_n 0, 1) := by decide +kernel
theorem dX10_next_14 : decode cX10_next 14 = .ok (.aload_n 0, 1) := by decide +kernel
theorem dX10_next_15 : decode cX10_next 15 = .ok (.getfield 174, 3) := by decide +kernel
theorem dX10_next_18 : decode cX10_next 18 = .ok (.invokevirtual 177, 3) := by decide +kernel
theorem dX10_next_21 : decode cX10_next 21 = .ok (.bipush 10, 2) := by decide +kernel
theorem dX10_next_23 : decode cX10_next 23 = .ok (.if_icmp .ne 16, 3) := by decide +kernel
theorem dX10_next_26 : decode cX10_next 26 = .ok (.aload_n 0, 1) := by decide +kernel
theorem dX10_next_27 : decode cX10_next 27 = .ok (.dup, 1) := by decide +kernel
theorem dX10_next_28 : decode cX10_next 28 = .ok (.getfield 174, 3) := by decide +kernel
theorem dX10_next_31 : decode cX10_next 31 = .ok (.iconst 1, 1) := by decide +kernel
theorem dX10_next_32 : decode cX10_next 32 = .ok (.iadd, 1) := by decide +kernel
theorem dX10_next_33 : decode cX10_next 33 = .ok (.putfield 174, 3) := by decide +kernel
theorem dX10_next_36 : decode cX10_next 36 = .ok (.goto (-36), 3) := by decide +kernel
theorem dX10_next_39 : decode cX10_next 39 = .ok (.aload_n 0, 1) := by decide +kernel
theorem dX10_next_40 : decode cX10_next 40 = .ok (.aload_n 0, 1) := by decide +kernel
theorem dX10_next_41 : decode cX10_next 41 = .ok (.getfield 174, 3) := by decide +kernel
theorem dX10_next_44 : decode cX10_next 44 = .ok (.putfield 180, 3) := by decide +kernel
theorem dX10_next_47 : decode cX10_next 47 = .ok (.aload_n 0, 1) := by decide +kernel
theorem dX10_next_48 : decode cX10_next 48 = .ok (.aload_n 0, 1) := by decide +kernel
theorem dX10_next_49 : decode cX10_next 49 = .ok (.getfield 174, 3) := by decide +kernel
theorem dX10_next_52 : decode cX10_next 52 = .ok (.invokevirtual 177, 3) := by decide +kernel
theorem dX10_next_55 : decode cX10_next 55 = .ok (.istore_n 1, 1) := by decide +kernel
theorem dX10_next_56 : decode cX10_next 56 = .ok (.aload_n 0, 1) := by decide +kernel
theorem dX10_next_57 : decode cX10_next 57 = .ok (.iconst 4, 1) := by decide +kernel
theorem dX10_next_58 : decode cX10_next 58 = .ok (.putfield 183, 3) := by decide +kernel
theorem dX10_next_61 : decode cX10_next 61 = .ok (.iload_n 1, 1) := by decide +kernel
theorem dX10_next_62 : decode cX10_next 62 = .ok (.ifCond .ge 19, 3) := by decide +kernel
theorem dX10_next_65 : decode cX10_next 65 = .ok (.aload_n 0, 1) := by decide +kernel
theorem dX10_next_66 : decode cX10_next 66 = .ok (.iconst 0, 1) := by decide +kernel
theorem dX10_next_67 : decode cX10_next 67 = .ok (.putfield 183, 3) := by decide +kernel
theorem dX10_next_70 : decode cX10_next 70 = .ok (.aload_n 0, 1) := by decide +kernel
theorem dX10_next_71 : decode cX10_next 71 = .ok (.aload_n 0, 1) := by decide +kernel
theorem dX10_next_72 : decode cX10_next 72 = .ok (.getfield 168, 3) := by decide +kernel
theorem dX10_next_75 : decode cX10_next 75 = .ok (.putfield 180, 3) := by decide +kernel
theorem dX10_next_78 : decode cX10_next 78 = .ok (.goto 294, 3) := by decide +kernel
theorem dX10_next_81 : decode cX10_next 81 = .ok (.iload_n 1, 1) := by decide +kernel
theorem dX10_next_82 : decode cX10_next 82 = .ok (.i2l, 1) := by decide +kernel
theorem dX10_next_83 : decode cX10_next 83 = .ok (.ldc2_w 186, 3) := by decide +kernel
theorem dX10_next_86 : decode cX10_next 86 = .ok (.ldc2_w 188, 3) := by decide +kernel
theorem dX10_next_89 : decode cX10_next 89 = .ok (.invokestatic 125, 3) := by decide +kernel
theorem dX10_next_92 : decode cX10_next 92 = .ok (.ifCond .eq 93, 3) := by decide +kernel
theorem dX10_next_95 : decode cX10_next 95 = .ok (.aload_n 0, 1) := by decide +kernel
theorem dX10_next_96 : decode cX10_next 96 = .ok (.iconst 1, 1) := by decide +kernel
theorem dX10_next_97 : decode cX10_next 97 = .ok (.putfield 183, 3) := by decide +kernel
theorem dX10_next_100 : decode cX10_next 100 = .ok (.aload_n 0, 1) := by decide +kernel
theorem dX10_next_101 : decode cX10_next 101 = .ok (.lconst 0, 1) := by decide +kernel
theorem dX10_next_102 : decode cX10_next 102 = .ok (.putfield 190, 3) := by decide +kernel
theorem dX10_next_105 : decode cX10_next 105 = .ok (.iconst 0, 1) := by decide +kernel
theorem dX10_next_106 : decode cX10_next 106 = .ok (.istore_n 2, 1) := by decide +kernel
theorem dX10_next_107 : decode cX10_next 107 = .ok (.aload_n 0, 1) := by decide +kernel
theorem dX10_next_108 : decode cX10_next 108 = .ok (.aload_n 0, 1) := by decide +kernel
theorem dX10_next_109 : decode cX10_next 109 = .ok (.getfield 174, 3) := by decide +kernel
theorem dX10_next_112 : decode cX10_next 112 = .ok (.invokevirtual 177, 3) := by decide +kernel
theorem dX10_next_115 : decode cX10_next 115 = .ok (.i2l, 1) := by decide +kernel
theorem dX10_next_116 : decode cX10_next 116 = .ok (.ldc2_w 186, 3) := by decide +kernel
theorem dX10_next_119 : decode cX10_next 119 = .ok (.ldc2_w 188, 3) := by decide +kernel
theorem dX10_next_122 : decode cX10_next 122 = .ok (.invokestatic 125, 3) := by decide +kernel
theorem dX10_next_125 : decode cX10_next 125 = .ok (.ifCond .eq 57, 3) := by decide +kernel
theorem dX10_next_128 : decode cX10_next 128 = .ok (.aload_n 0, 1) := by decide +kernel
theorem dX10_next_129 : decode cX10_next 129 = .ok (.iload_n 2, 1) := by decide +kernel
theorem dX10_next_130 : decode cX10_next 130 = .ok (.bipush 8, 2) := by decide +kernel
theorem dX10_next_132 : decode cX10_next 132 = .ok (.if_icmp .ge 28, 3) := by decide +kernel
theorem dX10_next_135 : decode cX10_next 135 = .ok (.ldc2_w 194, 3) := by decide +kernel
theorem dX10_next_138 : decode cX10_next 138 = .ok (.aload_n 0, 1) := by decide +kernel
theorem dX10_next_139 : decode cX10_next 139 = .ok (.getfield 190, 3) := by decide +kernel
theorem dX10_next_142 : decode cX10_next 142 = .ok (.lmul, 1) := by decide +kernel
theorem dX10_next_143 : decode cX10_next 143 = .ok (.aload_n 0, 1) := by decide +kernel
theorem dX10_next_144 : decode cX10_next 144 = .ok (.aload_n 0, 1) := by decide +kernel
theorem dX10_next_145 : decode cX10_next 145 = .ok (.getfield 174, 3) := by decide +kernel
theorem dX10_next_148 : decode cX10_next 148 = .ok (.invokevirtual 177, 3) := by decide +kernel
theorem dX10_next_151 : decode cX10_next 151 = .ok (.i2l, 1) := by decide +kernel
theorem dX10_next_152 : decode cX10_next 152 = .ok (.ladd, 1) := by decide +kernel
theorem dX10_next_153 : decode cX10_next 153 = .ok (.ldc2_w 196, 3) := by decide +kernel
theorem dX10_next_156 : decode cX10_next 156 = .ok (.lsub, 1) := by decide +kernel
theorem dX10_next_157 : decode cX10_next 157 = .ok (.goto 6, 3) := by decide +kernel
theorem dX10_next_160 : decode cX10_next 160 = .ok (.ldc2_w 198, 3) := by decide +kernel
theorem dX10_next_163 : decode cX10_next 163 = .ok (.putfield 190, 3) := by decide +kernel
theorem dX10_next_166 : decode cX10_next 166 = .ok (.iinc 2 1, 3) := by decide +kernel
theorem dX10_next_169 : decode cX10_next 169 = .ok (.aload_n 0, 1) := by decide +kernel
theorem dX10_next_170 : decode cX10_next 170 = .ok (.dup, 1) := by decide +kernel
theorem dX10_next_171 : decode cX10_next 171 = .ok (.getfield 174, 3) := by decide +kernel
theorem dX10_next_174 : decode cX10_next 174 = .ok (.iconst 1, 1) := by decide +kernel
theorem dX10_next_175 : decode cX10_next 175 = .ok (.iadd, 1) := by decide +kernel
theorem dX10_next_176 : decode cX10_next 176 = .ok (.putfield 174, 3) := by decide +kernel
theorem dX10_next_179 : decode cX10_next 179 = .ok (.goto (-72), 3) := by decide +kernel
theorem dX10_next_182 : decode cX10_next 182 = .ok (.goto 190, 3) := by decide +kernel
theorem dX10_next_185 : decode cX10_next 185 = .ok (.iload_n 1, 1) := by decide +kernel
theorem dX10_next_186 : decode cX10_next 186 = .ok (.i2l, 1) := by decide +kernel
theorem dX10_next_187 : decode cX10_next 187 = .ok (.ldc2_w 200, 3) := by decide +kernel
theorem dX10_next_190 : decode cX10_next 190 = .ok (.ldc2_w 202, 3) := by decide +kernel
theorem dX10_next_193 : decode cX10_next 193 = .ok (.invokestatic 125, 3) := by decide +kernel
theorem dX10_next_196 : decode cX10_next 196 = .ok (.ifCond .eq 107, 3) := by decide +kernel
theorem dX10_next_199 : decode cX10_next 199 = .ok (.aload_n 0, 1) := by decide +kernel
theorem dX10_next_200 : decode cX10_next 200 = .ok (.iconst 2, 1) := by decide +kernel
theorem dX10_next_201 : decode cX10_next 201 = .ok (.putfield 183, 3) := by decide +kernel
theorem dX10_next_204 : decode cX10_next 204 = .ok (.aload_n 0, 1) := by decide +kernel
theorem dX10_next_205 : decode cX10_next 205 = .ok (.lconst 0, 1) := by decide +kernel
theorem dX10_next_206 : decode cX10_next 206 = .ok (.putfield 190, 3) := by decide +kernel
theorem dX10_next_209 : decode cX10_next 209 = .ok (.iconst 0, 1) := by decide +kernel
theorem dX10_next_210 : decode cX10_next 210 = .ok (.istore_n 2, 1) := by decide +kernel
theorem dX10_next_211 : decode cX10_next 211 = .ok (.aload_n 0, 1) := by decide +kernel
theorem dX10_next_212 : decode cX10_next 212 = .ok (.aload_n 0, 1) := by decide +kernel
theorem dX10_next_213 : decode cX10_next 213 = .ok (.getfield 174, 3) := by decide +kernel
theorem dX10_next_216 : decode cX10_next 216 = .ok (.invokevirtual 177, 3) := by decide +kernel
theorem dX10_next_219 : decode cX10_next 219 = .ok (.i2l, 1) := by decide +kernel
theorem dX10_next_220 : decode cX10_next 220 = .ok (.ldc2_w 200, 3) := by decide +kernel
theorem dX10_next_223 : decode cX10_next 223 = .ok (.ldc2_w 202, 3) := by decide +kernel
theorem dX10_next_226 : decode cX10_next 226 = .ok (.invokestatic 125, 3) := by decide +kernel
theorem dX10_next_229 : decode cX10_next 229 = .ok (.ifCond .eq 57, 3) := by decide +kernel
theorem dX10_next_232 : decode cX10_next 232 = .ok (.aload_n 0, 1) := by decide +kernel
theorem dX10_next_233 : decode cX10_next 233 = .ok (.iload_n 2, 1) := by decide +kernel
theorem dX10_next_234 : decode cX10_next 234 = .ok (.iconst 4, 1) := by decide +kernel
theorem dX10_next_235 : decode cX10_next 235 = .ok (.if_icmp .ge 28, 3) := by decide +kernel
theorem dX10_next_238 : decode cX10_next 238 = .ok (.ldc2_w 204, 3) := by decide +kernel
theorem dX10_next_241 : decode cX10_next 241 = .ok (.aload_n 0, 1) := by decide +kernel
theorem dX10_next_242 : decode cX10_next 242 = .ok (.getfield 190, 3) := by decide +kernel
theorem dX10_next_245 : decode cX10_next 245 = .ok (.lmul, 1) := by decide +kernel
theorem dX10_next_246 : decode cX10_next 246 = .ok (.aload_n 0, 1) := by decide +kernel
theorem dX10_next_247 : decode cX10_next 247 = .ok (.aload_n 0, 1) := by decide +kernel
theorem dX10_next_248 : decode cX10_next 248 = .ok (.getfield 174, 3) := by decide +kernel
theorem dX10_next_251 : decode cX10_next 251 = .ok (.invokevirtual 177, 3) := by decide +kernel
theorem dX10_next_254 : decode cX10_next 254 = .ok (.i2l, 1) := by decide +kernel
theorem dX10_next_255 : decode cX10_next 255 = .ok (.ladd, 1) := by decide +kernel
theorem dX10_next_256 : decode cX10_next 256 = .ok (.ldc2_w 200, 3) := by decide +kernel
theorem dX10_next_259 : decode cX10_next 259 = .ok (.lsub, 1) := by decide +kernel
theorem dX10_next_260 : decode cX10_next 260 = .ok (.goto 7, 3) := by decide +kernel
theorem dX10_next_263 : decode cX10_next 263 = .ok (.aload_n 0, 1) := by decide +kernel
theorem dX10_next_264 : decode cX10_next 264 = .ok (.getfield 190, 3) := by decide +kernel
theorem dX10_next_267 : decode cX10_next 267 = .ok (.putfield 190, 3) := by decide +kernel
theorem dX10_next_270 : decode cX10_next 270 = .ok (.iinc 2 1, 3) := by decide +kernel
theorem dX10_next_273 : decode cX10_next 273 = .ok (.aload_n 0, 1) := by decide +kernel
theorem dX10_next_274 : decode cX10_next 274 = .ok (.dup, 1) := by decide +kernel
theorem dX10_next_275 : decode cX10_next 275 = .ok (.getfield 174, 3) := by decide +kernel
theorem dX10_next_278 : decode cX10_next 278 = .ok (.iconst 1, 1) := by decide +kernel
theorem dX10_next_279 : decode cX10_next 279 = .ok (.iadd, 1) := by decide +kernel
theorem dX10_next_280 : decode cX10_next 280 = .ok (.putfield 174, 3) := by decide +kernel
theorem dX10_next_283 : decode cX10_next 283 = .ok (.goto (-72), 3) := by decide +kernel
theorem dX10_next_286 : decode cX10_next 286 = .ok (.aload_n 0, 1) := by decide +kernel
theorem dX10_next_287 : decode cX10_next 287 = .ok (.iload_n 2, 1) := by decide +kernel
theorem dX10_next_288 : decode cX10_next 288 = .ok (.iconst 4, 1) := by decide +kernel
theorem dX10_next_289 : decode cX10_next 289 = .ok (.if_icmp .le 7, 3) := by decide +kernel
theorem dX10_next_292 : decode cX10_next 292 = .ok (.iconst 4, 1) := by decide +kernel
theorem dX10_next_293 : decode cX10_next 293 = .ok (.goto 4, 3) := by decide +kernel
theorem dX10_next_296 : decode cX10_next 296 = .ok (.iconst 2, 1) := by decide +kernel
theorem dX10_next_297 : decode cX10_next 297 = .ok (.putfield 183, 3) := by decide +kernel
theorem dX10_next_300 : decode cX10_next 300 = .ok (.goto 72, 3) := by decide +kernel
theorem dX10_next_303 : decode cX10_next 303 = .ok (.iload_n 1, 1) := by decide +kernel
theorem dX10_next_304 : decode cX10_next 304 = .ok (.bipush 40, 2) := by decide +kernel
theorem dX10_next_306 : decode cX10_next 306 = .ok (.if_icmp .eq 45, 3) := by decide +kernel
theorem dX10_next_309 : decode cX10_next 309 = .ok (.iload_n 1, 1) := by decide +kernel
theorem dX10_next_310 : decode cX10_next 310 = .ok (.bipush 41, 2) := by decide +kernel
theorem dX10_next_312 : decode cX10_next 312 = .ok (.if_icmp .eq 39, 3) := by decide +kernel
theorem dX10_next_315 : decode cX10_next 315 = .ok (.iload_n 1, 1) := by decide +kernel
theorem dX10_next_316 : decode cX10_next 316 = .ok (.bipush 59, 2) := by decide +kernel
theorem dX10_next_318 : decode cX10_next 318 = .ok (.if_icmp .eq 33, 3) := by decide +kernel
theorem dX10_next_321 : decode cX10_next 321 = .ok (.iload_n 1, 1) := by decide +kernel
theorem dX10_next_322 : decode cX10_next 322 = .ok (.bipush 43, 2) := by decide +kernel
theorem dX10_next_324 : decode cX10_next 324 = .ok (.if_icmp .eq 27, 3) := by decide +kernel
theorem dX10_next_327 : decode cX10_next 327 = .ok (.iload_n 1, 1) := by decide +kernel
theorem dX10_next_328 : decode cX10_next 328 = .ok (.bipush 45, 2) := by decide +kernel
theorem dX10_next_330 : decode cX10_next 330 = .ok (.if_icmp .eq 21, 3) := by decide +kernel
theorem dX10_next_333 : decode cX10_next 333 = .ok (.iload_n 1, 1) := by decide +kernel
theorem dX10_next_334 : decode cX10_next 334 = .ok (.bipush 42, 2) := by decide +kernel
theorem dX10_next_336 : decode cX10_next 336 = .ok (.if_icmp .eq 15, 3) := by decide +kernel
theorem dX10_next_339 : decode cX10_next 339 = .ok (.iload_n 1, 1) := by decide +kernel
theorem dX10_next_340 : decode cX10_next 340 = .ok (.bipush 60, 2) := by decide +kernel
theorem dX10_next_342 : decode cX10_next 342 = .ok (.if_icmp .eq 9, 3) := by decide +kernel
theorem dX10_next_345 : decode cX10_next 345 = .ok (.iload_n 1, 1) := by decide +kernel
theorem dX10_next_346 : decode cX10_next 346 = .ok (.bipush 61, 2) := by decide +kernel
theorem dX10_next_348 : decode cX10_next 348 = .ok (.if_icmp .ne 24, 3) := by decide +kernel
theorem dX10_next_351 : decode cX10_next 351 = .ok (.aload_n 0, 1) := by decide +kernel
theorem dX10_next_352 : decode cX10_next 352 = .ok (.iconst 3, 1) := by decide +kernel
theorem dX10_next_353 : decode cX10_next 353 = .ok (.putfield 183, 3) := by decide +kernel
theorem dX10_next_356 : decode cX10_next 356 = .ok (.aload_n 0, 1) := by decide +kernel
theorem dX10_next_357 : decode cX10_next 357 = .ok (.iload_n 1, 1) := by decide +kernel
theorem dX10_next_358 : decode cX10_next 358 = .ok (.i2l, 1) := by decide +kernel
theorem dX10_next_359 : decode cX10_next 359 = .ok (.putfield 190, 3) := by decide +kernel
theorem dX10_next_362 : decode cX10_next 362 = .ok (.aload_n 0, 1) := by decide +kernel
theorem dX10_next_363 : decode cX10_next 363 = .ok (.dup, 1) := by decide +kernel
theorem dX10_next_364 : decode cX10_next 364 = .ok (.getfield 174, 3) := by decide +kernel
theorem dX10_next_367 : decode cX10_next 367 = .ok (.iconst 1, 1) := by decide +kernel
theorem dX10_next_368 : decode cX10_next 368 = .ok (.iadd, 1) := by decide +kernel
theorem dX10_next_369 : decode cX10_next 369 = .ok (.putfield 174, 3) := by decide +kernel
theorem dX10_next_372 : decode cX10_next 372 = .ok (.return_, 1) := by decide +kernel
theorem dX10_fail_0 : decode cX10_fail 0 = .ok (.aload_n 0, 1) := by decide +kernel
theorem dX10_fail_1 : decode cX10_fail 1 = .ok (.getfield 206, 3) := by decide +kernel
theorem dX10_fail_4 : decode cX10_fail 4 = .ok (.ifCond .ne 16, 3) := by decide +kernel
theorem dX10_fail_7 : decode cX10_fail 7 = .ok (.aload_n 0, 1) := by decide +kernel
theorem dX10_fail_8 : decode cX10_fail 8 = .ok (.iconst 1, 1) := by decide +kernel
theorem dX10_fail_9 : decode cX10_fail 9 = .ok (.putfield 206, 3) := by decide +kernel
theorem dX10_fail_12 : decode cX10_fail 12 = .ok (.aload_n 0, 1) := by decide +kernel
theorem dX10_fail_13 : decode cX10_fail 13 = .ok (.aload_n 0, 1) := by decide +kernel
theorem dX10_fail_14 : decode cX10_fail 14 = .ok (.getfield 180, 3) := by decide +kernel
theorem dX10_fail_17 : decode cX10_fail 17 = .ok (.putfield 210, 3) := by decide +kernel
theorem dX10_fail_20 : decode cX10_fail 20 = .ok (.return_, 1) := by decide +kernel
theorem dX10_isWord_0 : decode cX10_isWord 0 = .ok (.aload_n 0, 1) := by decide +kernel
theorem dX10_isWord_1 : decode cX10_isWord 1 = .ok (.getfield 206, 3) := by decide +kernel
theorem dX10_isWord_4 : decode cX10_isWord 4 = .ok (.ifCond .ne 24, 3) := by decide +kernel
theorem dX10_isWord_7 : decode cX10_isWord 7 = .ok (.aload_n 0, 1) := by decide +kernel
theorem dX10_isWord_8 : decode cX10_isWord 8 = .ok (.getfield 183, 3) := by decide +kernel
theorem dX10_isWord_11 : decode cX10_isWord 11 = .ok (.iconst 1, 1) := by decide +kernel
theorem dX10_isWord_12 : decode cX10_isWord 12 = .ok (.if_icmp .ne 16, 3) := by decide +kernel
theorem dX10_isWord_15 : decode cX10_isWord 15 = .ok (.aload_n 0, 1) := by decide +kernel
theorem dX10_isWord_16 : decode cX10_isWord 16 = .ok (.getfield 190, 3) := by decide +kernel
theorem dX10_isWord_19 : decode cX10_isWord 19 = .ok (.lload_n 1, 1) := by decide +kernel
theorem dX10_isWord_20 : decode cX10_isWord 20 = .ok (.lcmp, 1) := by decide +kernel
theorem dX10_isWord_21 : decode cX10_isWord 21 = .ok (.ifCond .ne 7, 3) := by decide +kernel
theorem dX10_isWord_24 : decode cX10_isWord 24 = .ok (.iconst 1, 1) := by decide +kernel
theorem dX10_isWord_25 : decode cX10_isWord 25 = .ok (.goto 4, 3) := by decide +kernel
theorem dX10_isWord_28 : decode cX10_isWord 28 = .ok (.iconst 0, 1) := by decide +kernel
theorem dX10_isWord_29 : decode cX10_isWord 29 = .ok (.ireturn, 1) := by decide +kernel
theorem dX10_isSign_0 : decode cX10_isSign 0 = .ok (.aload_n 0, 1) := by decide +kernel
theorem dX10_isSign_1 : decode cX10_isSign 1 = .ok (.getfield 206, 3) := by decide +kernel
theorem dX10_isSign_4 : decode cX10_isSign 4 = .ok (.ifCond .ne 25, 3) := by decide +kernel
theorem dX10_isSign_7 : decode cX10_isSign 7 = .ok (.aload_n 0, 1) := by decide +kernel
theorem dX10_isSign_8 : decode cX10_isSign 8 = .ok (.getfield 183, 3) := by decide +kernel
theorem dX10_isSign_11 : decode cX10_isSign 11 = .ok (.iconst 3, 1) := by decide +kernel
theorem dX10_isSign_12 : decode cX10_isSign 12 = .ok (.if_icmp .ne 17, 3) := by decide +kernel
theorem dX10_isSign_15 : decode cX10_isSign 15 = .ok (.aload_n 0, 1) := by decide +kernel
theorem dX10_isSign_16 : decode cX10_isSign 16 = .ok (.getfield 190, 3) := by decide +kernel
theorem dX10_isSign_19 : decode cX10_isSign 19 = .ok (.iload_n 1, 1) := by decide +kernel
theorem dX10_isSign_20 : decode cX10_isSign 20 = .ok (.i2l, 1) := by decide +kernel
theorem dX10_isSign_21 : decode cX10_isSign 21 = .ok (.lcmp, 1) := by decide +kernel
theorem dX10_isSign_22 : decode cX10_isSign 22 = .ok (.ifCond .ne 7, 3) := by decide +kernel
theorem dX10_isSign_25 : decode cX10_isSign 25 = .ok (.iconst 1, 1) := by decide +kernel
theorem dX10_isSign_26 : decode cX10_isSign 26 = .ok (.goto 4, 3) := by decide +kernel
